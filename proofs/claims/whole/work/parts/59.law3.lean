/-! the law's loop -/
theorem and15 (x : Int32) : ∃ j : Nat, j < 16 ∧ (x &&& 15).toInt = (j : Int) := by
  refine ⟨(x.toBitVec &&& 15#32).toNat, ?_, ?_⟩
  · rw [BitVec.toNat_and]
    have : x.toBitVec.toNat &&& (15#32).toNat ≤ (15#32).toNat := Nat.and_le_right
    have e : (15#32).toNat = 15 := by decide
    omega
  · show (x.toBitVec &&& 15#32).toInt = _
    rw [BitVec.toInt_eq_toNat_of_lt]
    rw [BitVec.toNat_and]
    have : x.toBitVec.toNat &&& (15#32).toNat ≤ (15#32).toNat := Nat.and_le_right
    have e : (15#32).toNat = 15 := by decide
    omega
section LWL
variable {p : Program} {l : Launch} {e : Env} {s : State} {m : MethodId} {below : List Frame} {meth : Method} {c : Code} {b L : Nat} {xs : Nat → Int32} {D : va_G} {T : Nat → ClassId} {ad1 ad2 : Nat → Nat}
set_option maxHeartbeats 4000000 in
theorem law_loop (K : lwK p s m meth c b L xs D T ad1 ad2) : ∀ (n i : Nat) (ls : Array Slot) (M N : xM), i ≤ 4000 → 4000 < i + n → lv_has ls 4 [(0, .ref b), (1, .ref (ad1 0)), (2, .ref (ad2 0)), (3, .int (nI i))] → CP M N → Wl p l e s m below meth c b D T ad1 ad2 ls 18 [] M N := by
  intro n
  induction n with
  | zero => intro i ls M N h1 h2; omega
  | succ n ih =>
    intro i ls M N h1 h2 hl h
    obtain ⟨⟨hx, hb, hr, hml, hown, hts0, hX, hbl, hlocks, hgv⟩, hL, hK, hN, hO1, hO2, hd, hA1, hA2⟩ := id K
    intro H locs hP1 hP2 hS
    refine lv_iload_n hx hb dL_18 rfl (lv_at hl 3 rfl) ?_
    refine lv_aload_n hx hb dL_19 rfl (lv_at hl 0 rfl) ?_
    refine va_slen hx hb hX hbl (Nat.not_le.mpr hbl) hS dL_20 ?_
    refine lv_iconst (v := xi 4) hx hb dL_21 rfl ?_
    refine lv_isub hx hb dL_22 ?_
    have e1 : Int32.ofNat L - xi 4 = xi ((L : Int) - 4) := by
      rw [show Int32.ofNat L = xi (L : Int) from (xi_nI L).symm, xi_sub]
    rw [e1, show nI i = xi (i : Int) from (xi_nI i).symm]
    refine lv_icmp_gt (tgt := 502) hx hb dL_23 (by decide) (fun q => ?_) (fun q => ?_)
    · refine lv_iconst (v := 1) hx hb dL_502 rfl ?_
      refine va_forget (fun q hq => hS.2.2 q hq) ?_
      refine W.widen (k := 600000) (n := 7302250) (by decide) (by decide) ?_
      exact lw_ret hx hb hr hlocks dL_503
    · rw [xi_lt ⟨by omega, by omega⟩ ⟨by omega, by omega⟩] at q
      have hi : i + 3 < L := by omega
      refine lv_aload_n hx hb dL_26 rfl (lv_at hl 0 rfl) ?_
      refine lv_iload_n hx hb dL_27 rfl (lv_at hl 3 rfl) ?_
      refine va_sld hx hb hX hbl (Nat.not_le.mpr hbl) hS (vp_in_nI (by omega) (by omega)) dL_28 ?_
      refine lv_bipush (v := 15) hx hb dL_29 (by decide) ?_
      refine lv_iand hx hb dL_31 ?_
      rw [nI_clamp (by omega)]
      have kk : ∀ M' N', CP M' N' → Wl p l e s m below meth c b D T ad1 ad2 ls 496 [] M' N' := by
        intro M' N' h' H1 locs1 hQ1 hQ2 hS1
        refine lv_iinc (v := nI (i + 4)) (lv' := [(3, .int (nI (i + 4))), (0, .ref b), (1, .ref (ad1 0)), (2, .ref (ad2 0))]) hx hb dL_496 hl (k := 3) rfl ?_ (by decide) rfl (fun ls' hl' => ?_)
        · rw [← xi_nI, ← xi_nI, show Int32.ofInt 4 = xi 4 from rfl, xi_add]; rfl
        · refine lv_goto (tgt := 18) hx hb dL_499 (by decide) ?_
          exact ih (i + 4) ls' M' N' (by omega) (by omega) (lv_sub hl' [1, 2, 3, 0] rfl) h' H1 locs1 hQ1 hQ2 hS1
      obtain ⟨j, hj, ej⟩ := and15 (xs i)
      generalize xs i &&& 15 = x at ej
      rcases (show j = 0 ∨ j = 1 ∨ j = 2 ∨ j = 3 ∨ j = 4 ∨ j = 5 ∨ j = 6 ∨ j = 7 ∨ j = 8 ∨ j = 9 ∨ j = 10 ∨ j = 11 ∨ j = 12 ∨ j = 13 ∨ j = 14 ∨ j = 15 by omega) with rfl | rfl | rfl | rfl | rfl | rfl | rfl | rfl | rfl | rfl | rfl | rfl | rfl | rfl | rfl | rfl
      · exact lv_tableIn (off := 80) (tgt := 112) hx hb dL_32 (by rw [ej]; decide) (by rw [ej]; decide) (by rw [ej]; rfl) (by decide) (case_hop K hl hi h kk H locs hP1 hP2 hS)
      · exact lv_tableIn (off := 103) (tgt := 135) hx hb dL_32 (by rw [ej]; decide) (by rw [ej]; decide) (by rw [ej]; rfl) (by decide) (case_drop K hl hi h kk H locs hP1 hP2 hS)
      · exact lv_tableIn (off := 116) (tgt := 148) hx hb dL_32 (by rw [ej]; decide) (by rw [ej]; decide) (by rw [ej]; rfl) (by decide) (case_trace K hl hi h kk H locs hP1 hP2 hS)
      · exact lv_tableIn (off := 129) (tgt := 161) hx hb dL_32 (by rw [ej]; decide) (by rw [ej]; decide) (by rw [ej]; rfl) (by decide) (case_forget K hl hi h kk H locs hP1 hP2 hS)
      · exact lv_tableIn (off := 152) (tgt := 184) hx hb dL_32 (by rw [ej]; decide) (by rw [ej]; decide) (by rw [ej]; rfl) (by decide) (case_tell K hl hi h kk H locs hP1 hP2 hS)
      · exact lv_tableIn (off := 211) (tgt := 243) hx hb dL_32 (by rw [ej]; decide) (by rw [ej]; decide) (by rw [ej]; rfl) (by decide) (case_untell K hl hi h kk H locs hP1 hP2 hS)
      · exact lv_tableIn (off := 224) (tgt := 256) hx hb dL_32 (by rw [ej]; decide) (by rw [ej]; decide) (by rw [ej]; rfl) (by decide) (case_at K hl hi h kk H locs hP1 hP2 hS)
      · exact lv_tableIn (off := 257) (tgt := 289) hx hb dL_32 (by rw [ej]; decide) (by rw [ej]; decide) (by rw [ej]; rfl) (by decide) (case_nets K hl hi h kk H locs hP1 hP2 hS)
      · exact lv_tableIn (off := 270) (tgt := 302) hx hb dL_32 (by rw [ej]; decide) (by rw [ej]; decide) (by rw [ej]; rfl) (by decide) (case_shape K hl hi h kk H locs hP1 hP2 hS)
      · exact lv_tableIn (off := 293) (tgt := 325) hx hb dL_32 (by rw [ej]; decide) (by rw [ej]; decide) (by rw [ej]; rfl) (by decide) (case_boxOf K hl hi h kk H locs hP1 hP2 hS)
      · exact lv_tableIn (off := 326) (tgt := 358) hx hb dL_32 (by rw [ej]; decide) (by rw [ej]; decide) (by rw [ej]; rfl) (by decide) (case_far K hl hi h kk H locs hP1 hP2 hS)
      · exact lv_tableIn (off := 369) (tgt := 401) hx hb dL_32 (by rw [ej]; decide) (by rw [ej]; decide) (by rw [ej]; rfl) (by decide) (case_sure K hl hi h kk H locs hP1 hP2 hS)
      · exact lv_tableIn (off := 402) (tgt := 434) hx hb dL_32 (by rw [ej]; decide) (by rw [ej]; decide) (by rw [ej]; rfl) (by decide) (case_falses K hl hi h kk H locs hP1 hP2 hS)
      · exact lv_tableIn (off := 415) (tgt := 447) hx hb dL_32 (by rw [ej]; decide) (by rw [ej]; decide) (by rw [ej]; rfl) (by decide) (case_next K hl hi h kk H locs hP1 hP2 hS)
      · exact lv_tableIn (off := 428) (tgt := 460) hx hb dL_32 (by rw [ej]; decide) (by rw [ej]; decide) (by rw [ej]; rfl) (by decide) (case_worst K hl hi h kk H locs hP1 hP2 hS)
      · exact lv_tableIn (off := 441) (tgt := 473) hx hb dL_32 (by rw [ej]; decide) (by rw [ej]; decide) (by rw [ej]; rfl) (by decide) (case_count K hl hi h kk H locs hP1 hP2 hS)
end LWL

