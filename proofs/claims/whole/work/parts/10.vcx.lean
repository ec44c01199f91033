def calX0_forgetFound : xCal := []
def cutX0_forgetFound : Nat → Bool := fun pc => false
set_option maxRecDepth 100000 in
set_option maxHeartbeats 4000000 in
theorem vcX0_forgetFound_0 (Rt : xR) (K : xG) (M : xM) : xw LX fldX0 calX0_forgetFound [] 0 Rt iX0_forgetFound cutX0_forgetFound K 400 0 [some (.inr 10)] [] M = (((0 : Int) = 0 ∨ (0 : Int) = 1) ∧ Rt 0 (xup M 10 4 (0 : Int))) := rfl
def calX0_many (t41 t49 t52 t61 t64 t68 : xT) : xCal := [(41, false, 1, false, t41), (49, false, 1, false, t49), (52, false, 2, false, t52), (61, false, 1, false, t61), (64, false, 2, false, t64), (68, true, 3, true, t68)]
def cutX0_many : Nat → Bool := fun pc => false
set_option maxRecDepth 100000 in
set_option maxHeartbeats 4000000 in
theorem vcX0_many_0 (Rt : xR) (K : xG) (t41 t49 t52 t61 t64 t68 : xT) (M : xM) : xw LX fldX0 (calX0_many t41 t49 t52 t61 t64 t68) [] 1 Rt iX0_many cutX0_many K 400 0 [some (.inr 10)] [] M = (rg (M 10 4) ∧ ((M 10 4) = 0 → ((1 : Int) = 0 ∨ (1 : Int) = 1) ∧ t41 [.inr 1] (xup (xup (xup (xup M 10 4 (1 : Int)) 10 5 (0 : Int)) 10 6 (4 : Int)) 10 7 (100 : Int)) (fun r1 M1 => t49 [.inr 1] (xup M1 10 8 r1) (fun r2 M2 => t52 [.inr 4, .inl r2] M2 (fun r3 M3 => t61 [.inr 1] (xup M3 10 9 r3) (fun r4 M4 => t64 [.inr 10, .inl r4] M4 (fun r5 M5 => rg r5 ∧ (r5 = 0 → Rt (M5 10 5) M5) ∧ (r5 ≠ 0 → t68 [.inr 10, .inl (0 : Int), .inl (0 : Int)] M5 (fun r6 M6 => Rt (M6 10 5) M6)))))))) ∧ ((M 10 4) ≠ 0 → Rt (M 10 5) M)) := rfl
def calX0_newBoxes : xCal := []
def cutX0_newBoxes : Nat → Bool := fun pc => false
set_option maxRecDepth 100000 in
set_option maxHeartbeats 4000000 in
theorem vcX0_newBoxes_0 (Rt : xR) (K : xG) (M : xM) : xw LX fldX0 calX0_newBoxes [] 1 Rt iX0_newBoxes cutX0_newBoxes K 400 0 [some (.inr 10)] [] M = (Rt (M 10 6) M) := rfl
def calX0_lines : xCal := []
def cutX0_lines : Nat → Bool := fun pc => false
set_option maxRecDepth 100000 in
set_option maxHeartbeats 4000000 in
theorem vcX0_lines_0 (Rt : xR) (K : xG) (M : xM) : xw LX fldX0 calX0_lines [] 1 Rt iX0_lines cutX0_lines K 400 0 [some (.inr 10)] [] M = (Rt (M 10 7) M) := rfl
def calX0_code : xCal := []
def cutX0_code : Nat → Bool := fun pc => false
set_option maxRecDepth 100000 in
set_option maxHeartbeats 4000000 in
theorem vcX0_code_0 (Rt : xR) (K : xG) (M : xM) (v1 : Int) : xw LX fldX0 calX0_code [] 1 Rt iX0_code cutX0_code K 400 0 [some (.inr 10), some (.inl v1)] [] M = (rg v1 ∧ (v1 < 0 → Rt (0 : Int) M) ∧ (0 ≤ v1 → rg v1 ∧ rg (512 : Int) ∧ ((512 : Int) ≤ v1 → Rt (0 : Int) M) ∧ (v1 < (512 : Int) → (0 ≤ v1 ∧ v1 < 512) ∧ Rt (M 11 v1) M))) := rfl
def calX0_someFits (t72 t78 : xT) : xCal := [(72, false, 3, true, t72), (78, false, 2, false, t78)]
def cutX0_someFits : Nat → Bool := fun pc => false
set_option maxRecDepth 100000 in
set_option maxHeartbeats 4000000 in
theorem vcX0_someFits_0 (Rt : xR) (K : xG) (t72 t78 : xT) (M : xM) (v1 : Int) : xw LX fldX0 (calX0_someFits t72 t78) [] 2 Rt iX0_someFits cutX0_someFits K 400 0 [some (.inr 10), some (.inl v1)] [] M = (t72 [.inr 7, .inl (0 : Int), .inl (0 : Int)] M (fun r1 M1 => t78 [.inr 7, .inl v1] M1 (fun r2 M2 => (r2 = 0 ∨ r2 = 1) ∧ Rt r2 M2))) := rfl
def calX0_seek (t81 t85 t89 t61 t78 t68 : xT) : xCal := [(81, false, 2, true, t81), (85, false, 3, false, t85), (89, false, 4, true, t89), (61, false, 1, false, t61), (78, false, 2, false, t78), (68, true, 3, true, t68)]
def cutX0_seek : Nat → Bool := fun pc => Nat.beq pc 21
set_option maxRecDepth 100000 in
set_option maxHeartbeats 4000000 in
theorem vcX0_seek_0 (Rt : xR) (K : xG) (t81 t85 t89 t61 t78 t68 : xT) (M : xM) (v1 v2 : Int) : xw LX fldX0 (calX0_seek t81 t85 t89 t61 t78 t68) [] 0 Rt iX0_seek cutX0_seek K 400 0 [some (.inr 10), some (.inl v1), some (.inl v2), none, none] [] M = (rg v1 ∧ rg (M 10 8) ∧ ((M 10 8) ≤ v1 → t81 [.inr 10, .inl v2] M (fun r1 M1 => Rt 0 M1)) ∧ (v1 < (M 10 8) → rg v1 ∧ rg (4 : Int) ∧ (v1 < (4 : Int) → K 21 [some (.inr 10), some (.inl v1), some (.inl v2), some (.inl (0 : Int)), none] [] M) ∧ ((4 : Int) ≤ v1 → t81 [.inr 10, .inl v2] M (fun r2 M2 => Rt 0 M2)))) := rfl
set_option maxRecDepth 100000 in
set_option maxHeartbeats 4000000 in
theorem vcX0_seek_21 (Rt : xR) (K : xG) (t81 t85 t89 t61 t78 t68 : xT) (M : xM) (v1 v2 v3 : Int) (o4 : Option xV) : xw LX fldX0 (calX0_seek t81 t85 t89 t61 t78 t68) [] 0 Rt iX0_seek cutX0_seek K 400 21 [some (.inr 10), some (.inl v1), some (.inl v2), some (.inl v3), o4] [] M = (rg v3 ∧ rg ((6 : Int) + v2) ∧ (((6 : Int) + v2) < v3 → Rt 0 M) ∧ (v3 ≤ ((6 : Int) + v2) → rg v3 ∧ rg (10 : Int) ∧ ((10 : Int) ≤ v3 → Rt 0 M) ∧ (v3 < (10 : Int) → rg v3 ∧ rg ((6 : Int) + v2) ∧ (v3 ≠ ((6 : Int) + v2) → t85 [.inr 10, .inl v3, .inl v2] M (fun r1 M1 => rg r1 ∧ (r1 = 0 → K 21 [some (.inr 10), some (.inl v1), some (.inl v2), some (.inl (v3 + (1 : Int))), some (.inl v2)] [] M1) ∧ (r1 ≠ 0 → t89 [.inr 7, .inl v1, .inl v3, .inl v2] M1 (fun r2 M2 => t61 [.inr 1] M2 (fun r3 M3 => t78 [.inr 7, .inl r3] M3 (fun r4 M4 => rg r4 ∧ (r4 = 0 → K 21 [some (.inr 10), some (.inl v1), some (.inl v2), some (.inl (v3 + (1 : Int))), some (.inl v2)] [] M4) ∧ (r4 ≠ 0 → t68 [.inr 10, .inl (v1 + (1 : Int)), .inl v2] M4 (fun r5 M5 => K 21 [some (.inr 10), some (.inl v1), some (.inl v2), some (.inl (v3 + (1 : Int))), some (.inl v2)] [] M5)))))))) ∧ (v3 = ((6 : Int) + v2) → t85 [.inr 10, .inl v3, .inl (v2 + (1 : Int))] M (fun r6 M6 => rg r6 ∧ (r6 = 0 → K 21 [some (.inr 10), some (.inl v1), some (.inl v2), some (.inl (v3 + (1 : Int))), some (.inl (v2 + (1 : Int)))] [] M6) ∧ (r6 ≠ 0 → t89 [.inr 7, .inl v1, .inl v3, .inl (v2 + (1 : Int))] M6 (fun r7 M7 => t61 [.inr 1] M7 (fun r8 M8 => t78 [.inr 7, .inl r8] M8 (fun r9 M9 => rg r9 ∧ (r9 = 0 → K 21 [some (.inr 10), some (.inl v1), some (.inl v2), some (.inl (v3 + (1 : Int))), some (.inl (v2 + (1 : Int)))] [] M9) ∧ (r9 ≠ 0 → t68 [.inr 10, .inl (v1 + (1 : Int)), .inl (v2 + (1 : Int))] M9 (fun r10 M10 => K 21 [some (.inr 10), some (.inl v1), some (.inl v2), some (.inl (v3 + (1 : Int))), some (.inl (v2 + (1 : Int)))] [] M10))))))))))) := rfl
def calX0_mayTake (t93 : xT) : xCal := [(93, true, 2, false, t93)]
def cutX0_mayTake : Nat → Bool := fun pc => false
set_option maxRecDepth 100000 in
set_option maxHeartbeats 4000000 in
theorem vcX0_mayTake_0 (Rt : xR) (K : xG) (t93 : xT) (M : xM) (v1 v2 : Int) : xw LX fldX0 (calX0_mayTake t93) [] 2 Rt iX0_mayTake cutX0_mayTake K 400 0 [some (.inr 10), some (.inl v1), some (.inl v2)] [] M = (rg v2 ∧ rg (M 10 6) ∧ ((M 10 6) < v2 → ((0 : Int) = 0 ∨ (0 : Int) = 1) ∧ Rt (0 : Int) M) ∧ (v2 ≤ (M 10 6) → rg v1 ∧ rg (6 : Int) ∧ ((6 : Int) ≤ v1 → ((1 : Int) = 0 ∨ (1 : Int) = 1) ∧ Rt (1 : Int) M) ∧ (v1 < (6 : Int) → t93 [.inl (M 10 9), .inl v1] M (fun r1 M1 => rg r1 ∧ (r1 = 0 → ((0 : Int) = 0 ∨ (0 : Int) = 1) ∧ Rt (0 : Int) M1) ∧ (r1 ≠ 0 → ((1 : Int) = 0 ∨ (1 : Int) = 1) ∧ Rt (1 : Int) M1))))) := rfl
def calX0_keep (t96 t98 : xT) : xCal := [(96, false, 1, false, t96), (98, false, 1, false, t98)]
def cutX0_keep : Nat → Bool := fun pc => false
set_option maxRecDepth 100000 in
set_option maxHeartbeats 4000000 in
theorem vcX0_keep_0 (Rt : xR) (K : xG) (t96 t98 : xT) (M : xM) (v1 : Int) : xw LX fldX0 (calX0_keep t96 t98) [] 0 Rt iX0_keep cutX0_keep K 400 0 [some (.inr 10), some (.inl v1), none] [] M = (t96 [.inr 7] M (fun r1 M1 => rg v1 ∧ rg (M1 10 6) ∧ ((M1 10 6) < v1 → Rt 0 M1) ∧ (v1 ≤ (M1 10 6) → rg v1 ∧ rg (M1 10 6) ∧ (v1 ≠ (M1 10 6) → rg v1 ∧ rg (M1 10 6) ∧ (v1 < (M1 10 6) → rg ((xup (xup (xup M1 10 5 (0 : Int)) 10 6 v1) 10 7 r1) 10 5) ∧ rg (512 : Int) ∧ ((512 : Int) ≤ ((xup (xup (xup M1 10 5 (0 : Int)) 10 6 v1) 10 7 r1) 10 5) → Rt 0 (xup (xup (xup M1 10 5 (0 : Int)) 10 6 v1) 10 7 r1)) ∧ (((xup (xup (xup M1 10 5 (0 : Int)) 10 6 v1) 10 7 r1) 10 5) < (512 : Int) → t98 [.inr 7] (xup (xup (xup M1 10 5 (0 : Int)) 10 6 v1) 10 7 r1) (fun r2 M2 => (0 ≤ ((xup (xup (xup M1 10 5 (0 : Int)) 10 6 v1) 10 7 r1) 10 5) ∧ ((xup (xup (xup M1 10 5 (0 : Int)) 10 6 v1) 10 7 r1) 10 5) < 512) ∧ Rt 0 (xup (xup M2 11 ((xup (xup (xup M1 10 5 (0 : Int)) 10 6 v1) 10 7 r1) 10 5) r2) 10 5 (((xup M2 11 ((xup (xup (xup M1 10 5 (0 : Int)) 10 6 v1) 10 7 r1) 10 5) r2) 10 5) + (1 : Int)))))) ∧ ((M1 10 6) ≤ v1 → rg r1 ∧ rg (M1 10 7) ∧ ((M1 10 7) ≤ r1 → rg (M1 10 5) ∧ rg (512 : Int) ∧ ((512 : Int) ≤ (M1 10 5) → Rt 0 M1) ∧ ((M1 10 5) < (512 : Int) → t98 [.inr 7] M1 (fun r3 M3 => (0 ≤ (M1 10 5) ∧ (M1 10 5) < 512) ∧ Rt 0 (xup (xup M3 11 (M1 10 5) r3) 10 5 (((xup M3 11 (M1 10 5) r3) 10 5) + (1 : Int)))))) ∧ (r1 < (M1 10 7) → rg ((xup (xup (xup M1 10 5 (0 : Int)) 10 6 v1) 10 7 r1) 10 5) ∧ rg (512 : Int) ∧ ((512 : Int) ≤ ((xup (xup (xup M1 10 5 (0 : Int)) 10 6 v1) 10 7 r1) 10 5) → Rt 0 (xup (xup (xup M1 10 5 (0 : Int)) 10 6 v1) 10 7 r1)) ∧ (((xup (xup (xup M1 10 5 (0 : Int)) 10 6 v1) 10 7 r1) 10 5) < (512 : Int) → t98 [.inr 7] (xup (xup (xup M1 10 5 (0 : Int)) 10 6 v1) 10 7 r1) (fun r4 M4 => (0 ≤ ((xup (xup (xup M1 10 5 (0 : Int)) 10 6 v1) 10 7 r1) 10 5) ∧ ((xup (xup (xup M1 10 5 (0 : Int)) 10 6 v1) 10 7 r1) 10 5) < 512) ∧ Rt 0 (xup (xup M4 11 ((xup (xup (xup M1 10 5 (0 : Int)) 10 6 v1) 10 7 r1) 10 5) r4) 10 5 (((xup M4 11 ((xup (xup (xup M1 10 5 (0 : Int)) 10 6 v1) 10 7 r1) 10 5) r4) 10 5) + (1 : Int)))))))) ∧ (v1 = (M1 10 6) → rg r1 ∧ rg (M1 10 7) ∧ (r1 ≤ (M1 10 7) → rg v1 ∧ rg (M1 10 6) ∧ (v1 < (M1 10 6) → rg ((xup (xup (xup M1 10 5 (0 : Int)) 10 6 v1) 10 7 r1) 10 5) ∧ rg (512 : Int) ∧ ((512 : Int) ≤ ((xup (xup (xup M1 10 5 (0 : Int)) 10 6 v1) 10 7 r1) 10 5) → Rt 0 (xup (xup (xup M1 10 5 (0 : Int)) 10 6 v1) 10 7 r1)) ∧ (((xup (xup (xup M1 10 5 (0 : Int)) 10 6 v1) 10 7 r1) 10 5) < (512 : Int) → t98 [.inr 7] (xup (xup (xup M1 10 5 (0 : Int)) 10 6 v1) 10 7 r1) (fun r5 M5 => (0 ≤ ((xup (xup (xup M1 10 5 (0 : Int)) 10 6 v1) 10 7 r1) 10 5) ∧ ((xup (xup (xup M1 10 5 (0 : Int)) 10 6 v1) 10 7 r1) 10 5) < 512) ∧ Rt 0 (xup (xup M5 11 ((xup (xup (xup M1 10 5 (0 : Int)) 10 6 v1) 10 7 r1) 10 5) r5) 10 5 (((xup M5 11 ((xup (xup (xup M1 10 5 (0 : Int)) 10 6 v1) 10 7 r1) 10 5) r5) 10 5) + (1 : Int)))))) ∧ ((M1 10 6) ≤ v1 → rg r1 ∧ rg (M1 10 7) ∧ ((M1 10 7) ≤ r1 → rg (M1 10 5) ∧ rg (512 : Int) ∧ ((512 : Int) ≤ (M1 10 5) → Rt 0 M1) ∧ ((M1 10 5) < (512 : Int) → t98 [.inr 7] M1 (fun r6 M6 => (0 ≤ (M1 10 5) ∧ (M1 10 5) < 512) ∧ Rt 0 (xup (xup M6 11 (M1 10 5) r6) 10 5 (((xup M6 11 (M1 10 5) r6) 10 5) + (1 : Int)))))) ∧ (r1 < (M1 10 7) → rg ((xup (xup (xup M1 10 5 (0 : Int)) 10 6 v1) 10 7 r1) 10 5) ∧ rg (512 : Int) ∧ ((512 : Int) ≤ ((xup (xup (xup M1 10 5 (0 : Int)) 10 6 v1) 10 7 r1) 10 5) → Rt 0 (xup (xup (xup M1 10 5 (0 : Int)) 10 6 v1) 10 7 r1)) ∧ (((xup (xup (xup M1 10 5 (0 : Int)) 10 6 v1) 10 7 r1) 10 5) < (512 : Int) → t98 [.inr 7] (xup (xup (xup M1 10 5 (0 : Int)) 10 6 v1) 10 7 r1) (fun r7 M7 => (0 ≤ ((xup (xup (xup M1 10 5 (0 : Int)) 10 6 v1) 10 7 r1) 10 5) ∧ ((xup (xup (xup M1 10 5 (0 : Int)) 10 6 v1) 10 7 r1) 10 5) < 512) ∧ Rt 0 (xup (xup M7 11 ((xup (xup (xup M1 10 5 (0 : Int)) 10 6 v1) 10 7 r1) 10 5) r7) 10 5 (((xup M7 11 ((xup (xup (xup M1 10 5 (0 : Int)) 10 6 v1) 10 7 r1) 10 5) r7) 10 5) + (1 : Int)))))))) ∧ ((M1 10 7) < r1 → Rt 0 M1))))) := rfl
def calX1_place (t26 : xT) : xCal := [(26, false, 3, true, t26)]
def cutX1_place : Nat → Bool := fun pc => false
set_option maxRecDepth 100000 in
set_option maxHeartbeats 4000000 in
theorem vcX1_place_0 (Rt : xR) (K : xG) (t26 : xT) (M : xM) (v1 v2 v3 : Int) : xw LX fldX1 (calX1_place t26) [] 0 Rt iX1_place cutX1_place K 400 0 [some (.inr 7), some (.inl v1), some (.inl v2), some (.inl v3)] [] M = (rg v1 ∧ (v1 < 0 → Rt 0 M) ∧ (0 ≤ v1 → rg v1 ∧ rg (4 : Int) ∧ ((4 : Int) ≤ v1 → Rt 0 M) ∧ (v1 < (4 : Int) → (0 ≤ v1 ∧ v1 < 4) ∧ t26 [.inr 7, .inl (v1 + (1 : Int)), .inl v3] (xup M 8 v1 v2) (fun r1 M1 => Rt 0 M1)))) := rfl
def calX1_loosen (t30 : xT) : xCal := [(30, true, 2, false, t30)]
def cutX1_loosen : Nat → Bool := fun pc => Nat.beq pc 6
set_option maxRecDepth 100000 in
set_option maxHeartbeats 4000000 in
theorem vcX1_loosen_0 (Rt : xR) (K : xG) (t30 : xT) (M : xM) (v1 v2 : Int) : xw LX fldX1 (calX1_loosen t30) [] 0 Rt iX1_loosen cutX1_loosen K 400 0 [some (.inr 7), some (.inl v1), some (.inl v2), none] [] M = (t30 [.inl v1, .inl (0 : Int)] M (fun r1 M1 => K 6 [some (.inr 7), some (.inl v1), some (.inl v2), some (.inl r1)] [] M1)) := rfl
set_option maxRecDepth 100000 in
set_option maxHeartbeats 4000000 in
theorem vcX1_loosen_6 (Rt : xR) (K : xG) (t30 : xT) (M : xM) (v1 v2 v3 : Int) : xw LX fldX1 (calX1_loosen t30) [] 0 Rt iX1_loosen cutX1_loosen K 400 6 [some (.inr 7), some (.inl v1), some (.inl v2), some (.inl v3)] [] M = (rg v3 ∧ rg (4 : Int) ∧ ((4 : Int) ≤ v3 → Rt 0 M) ∧ (v3 < (4 : Int) → (0 ≤ v3 ∧ v3 < 4) ∧ K 6 [some (.inr 7), some (.inl v1), some (.inl v2), some (.inl (v3 + (1 : Int)))] [] (xup M 8 v3 ((((6 : Int) + v2) + v3) - v1)))) := rfl
def calX1_code : xCal := []
def cutX1_code : Nat → Bool := fun pc => Nat.beq pc 4
set_option maxRecDepth 100000 in
set_option maxHeartbeats 4000000 in
theorem vcX1_code_0 (Rt : xR) (K : xG) (M : xM) : xw LX fldX1 calX1_code [] 1 Rt iX1_code cutX1_code K 400 0 [some (.inr 7), none, none] [] M = (K 4 [some (.inr 7), some (.inl (0 : Int)), some (.inl (0 : Int))] [] M) := rfl
set_option maxRecDepth 100000 in
set_option maxHeartbeats 4000000 in
theorem vcX1_code_4 (Rt : xR) (K : xG) (M : xM) (v1 v2 : Int) : xw LX fldX1 calX1_code [] 1 Rt iX1_code cutX1_code K 400 4 [some (.inr 7), some (.inl v1), some (.inl v2)] [] M = (rg v2 ∧ rg (4 : Int) ∧ ((4 : Int) ≤ v2 → Rt v1 M) ∧ (v2 < (4 : Int) → (0 ≤ v2 ∧ v2 < 4) ∧ K 4 [some (.inr 7), some (.inl (xi v1 ||| xi (xi (M 8 v2) <<< (xi (v2 * (4 : Int)) &&& 31)).toInt).toInt), some (.inl (v2 + (1 : Int)))] [] M)) := rfl
def calX1_takeUp (t36 t39 t45 : xT) : xCal := [(36, true, 2, false, t36), (39, false, 1, false, t39), (45, false, 2, false, t45)]
def cutX1_takeUp : Nat → Bool := fun pc => Nat.beq pc 2
set_option maxRecDepth 100000 in
set_option maxHeartbeats 4000000 in
theorem vcX1_takeUp_0 (Rt : xR) (K : xG) (t36 t39 t45 : xT) (M : xM) (v1 : Int) : xw LX fldX1 (calX1_takeUp t36 t39 t45) [] 0 Rt iX1_takeUp cutX1_takeUp K 400 0 [some (.inr 7), some (.inl v1), none] [] M = (K 2 [some (.inr 7), some (.inl v1), some (.inl (0 : Int))] [] M) := rfl
set_option maxRecDepth 100000 in
set_option maxHeartbeats 4000000 in
theorem vcX1_takeUp_2 (Rt : xR) (K : xG) (t36 t39 t45 : xT) (M : xM) (v1 v2 : Int) : xw LX fldX1 (calX1_takeUp t36 t39 t45) [] 0 Rt iX1_takeUp cutX1_takeUp K 400 2 [some (.inr 7), some (.inl v1), some (.inl v2)] [] M = (rg v2 ∧ rg (4 : Int) ∧ ((4 : Int) ≤ v2 → t39 [.inr 1] M (fun r1 M1 => t45 [.inr 7, .inl r1] M1 (fun r2 M2 => Rt 0 M2))) ∧ (v2 < (4 : Int) → t36 [.inl v1, .inl v2] M (fun r3 M3 => (0 ≤ v2 ∧ v2 < 4) ∧ K 2 [some (.inr 7), some (.inl v1), some (.inl (v2 + (1 : Int)))] [] (xup M3 8 v2 r3)))) := rfl
def calX1_fits (t49 t55 t58 t62 t65 t69 : xT) : xCal := [(49, true, 2, true, t49), (55, false, 1, false, t55), (58, true, 2, false, t58), (62, false, 3, false, t62), (65, false, 2, false, t65), (69, false, 2, false, t69)]
def cutX1_fits : Nat → Bool := fun pc => Nat.beq pc 12 || Nat.beq pc 61
set_option maxRecDepth 100000 in
set_option maxHeartbeats 4000000 in
theorem vcX1_fits_0 (Rt : xR) (K : xG) (t49 t55 t58 t62 t65 t69 : xT) (M : xM) (v1 : Int) : xw LX fldX1 (calX1_fits t49 t55 t58 t62 t65 t69) [] 2 Rt iX1_fits cutX1_fits K 400 0 [some (.inr 7), some (.inl v1), none, none] [] M = (t49 [.inr 9, .inl (0 : Int)] M (fun r1 M1 => K 12 [some (.inr 7), some (.inl v1), some (.inl (0 : Int)), some (.inl (0 : Int))] [] M1)) := rfl
set_option maxRecDepth 100000 in
set_option maxHeartbeats 4000000 in
theorem vcX1_fits_12 (Rt : xR) (K : xG) (t49 t55 t58 t62 t65 t69 : xT) (M : xM) (v1 v2 v3 : Int) : xw LX fldX1 (calX1_fits t49 t55 t58 t62 t65 t69) [] 2 Rt iX1_fits cutX1_fits K 400 12 [some (.inr 7), some (.inl v1), some (.inl v2), some (.inl v3)] [] M = (t55 [.inr 1] M (fun r1 M1 => rg v3 ∧ rg r1 ∧ (r1 ≤ v3 → K 61 [some (.inr 7), some (.inl v1), some (.inl v2), some (.inl (0 : Int))] [] M1) ∧ (v3 < r1 → t58 [.inl v1, .inl v3] M1 (fun r2 M2 => rg r2 ∧ (r2 = 0 → t65 [.inr 1, .inl v3] M2 (fun r3 M3 => K 12 [some (.inr 7), some (.inl v1), some (.inl (v2 + r3)), some (.inl (v3 + (1 : Int)))] [] M3)) ∧ (r2 ≠ 0 → t62 [.inr 7, .inl v3, .inl v2] M2 (fun r4 M4 => rg r4 ∧ (r4 ≠ 0 → t65 [.inr 1, .inl v3] M4 (fun r5 M5 => K 12 [some (.inr 7), some (.inl v1), some (.inl (v2 + r5)), some (.inl (v3 + (1 : Int)))] [] M5)) ∧ (r4 = 0 → ((0 : Int) = 0 ∨ (0 : Int) = 1) ∧ Rt (0 : Int) M4))))))) := rfl
set_option maxRecDepth 100000 in
set_option maxHeartbeats 4000000 in
theorem vcX1_fits_61 (Rt : xR) (K : xG) (t49 t55 t58 t62 t65 t69 : xT) (M : xM) (v1 v2 v3 : Int) : xw LX fldX1 (calX1_fits t49 t55 t58 t62 t65 t69) [] 2 Rt iX1_fits cutX1_fits K 400 61 [some (.inr 7), some (.inl v1), some (.inl v2), some (.inl v3)] [] M = (t55 [.inr 1] M (fun r1 M1 => rg v3 ∧ rg r1 ∧ (r1 ≤ v3 → ((1 : Int) = 0 ∨ (1 : Int) = 1) ∧ Rt (1 : Int) M1) ∧ (v3 < r1 → t58 [.inl v1, .inl v3] M1 (fun r2 M2 => rg r2 ∧ (r2 = 0 → K 61 [some (.inr 7), some (.inl v1), some (.inl v2), some (.inl (v3 + (1 : Int)))] [] M2) ∧ (r2 ≠ 0 → t69 [.inr 7, .inl v3] M2 (fun r3 M3 => rg r3 ∧ (r3 ≠ 0 → K 61 [some (.inr 7), some (.inl v1), some (.inl v2), some (.inl (v3 + (1 : Int)))] [] M3) ∧ (r3 = 0 → ((0 : Int) = 0 ∨ (0 : Int) = 1) ∧ Rt (0 : Int) M3))))))) := rfl
def calX1_isShortest (t72 t75 t78 t83 : xT) : xCal := [(72, false, 2, false, t72), (75, false, 3, false, t75), (78, false, 2, false, t78), (83, false, 3, false, t83)]
def cutX1_isShortest : Nat → Bool := fun pc => false
set_option maxRecDepth 100000 in
set_option maxHeartbeats 4000000 in
theorem vcX1_isShortest_0 (Rt : xR) (K : xG) (t72 t75 t78 t83 : xT) (M : xM) (v1 : Int) : xw LX fldX1 (calX1_isShortest t72 t75 t78 t83) [] 2 Rt iX1_isShortest cutX1_isShortest K 400 0 [some (.inr 7), some (.inl v1), none, none, none] [] M = (t72 [.inr 1, .inl v1] M (fun r1 M1 => t75 [.inr 1, .inl v1, .inl (0 : Int)] M1 (fun r2 M2 => t78 [.inr 4, .inl r2] M2 (fun r3 M3 => t75 [.inr 1, .inl v1, .inl (r1 - (1 : Int))] M3 (fun r4 M4 => t78 [.inr 4, .inl r4] M4 (fun r5 M5 => t83 [.inr 7, .inl r3, .inl r5] M5 (fun r6 M6 => rg r6 ∧ rg (r1 - (1 : Int)) ∧ (r6 < (r1 - (1 : Int)) → ((0 : Int) = 0 ∨ (0 : Int) = 1) ∧ Rt (0 : Int) M6) ∧ ((r1 - (1 : Int)) ≤ r6 → ((1 : Int) = 0 ∨ (1 : Int) = 1) ∧ Rt (1 : Int) M6)))))))) := rfl
def calX1_draw (t72 t75 t86 t78 t58 t89 : xT) : xCal := [(72, false, 2, false, t72), (75, false, 3, false, t75), (86, false, 2, false, t86), (78, false, 2, false, t78), (58, true, 2, false, t58), (89, false, 3, true, t89)]
def cutX1_draw : Nat → Bool := fun pc => Nat.beq pc 11
set_option maxRecDepth 100000 in
set_option maxHeartbeats 4000000 in
theorem vcX1_draw_0 (Rt : xR) (K : xG) (t72 t75 t86 t78 t58 t89 : xT) (M : xM) (v1 v2 : Int) : xw LX fldX1 (calX1_draw t72 t75 t86 t78 t58 t89) [] 2 Rt iX1_draw cutX1_draw K 400 0 [some (.inr 7), some (.inl v1), some (.inl v2), none, none, none, none, none, none] [] M = (K 11 [some (.inr 7), some (.inl v1), some (.inl v2), some (.inl v2), some (.inl (-1 : Int)), some (.inl (0 : Int)), some (.inl (0 : Int)), none, none] [] M) := rfl
set_option maxRecDepth 100000 in
set_option maxHeartbeats 4000000 in
theorem vcX1_draw_11 (Rt : xR) (K : xG) (t72 t75 t86 t78 t58 t89 : xT) (M : xM) (v1 v2 v3 v4 v5 v6 : Int) (o7 o8 : Option xV) : xw LX fldX1 (calX1_draw t72 t75 t86 t78 t58 t89) [] 2 Rt iX1_draw cutX1_draw K 400 11 [some (.inr 7), some (.inl v1), some (.inl v2), some (.inl v3), some (.inl v4), some (.inl v5), some (.inl v6), o7, o8] [] M = (t72 [.inr 1, .inl v1] M (fun r1 M1 => rg v6 ∧ rg r1 ∧ (r1 ≤ v6 → ((1 : Int) = 0 ∨ (1 : Int) = 1) ∧ Rt (1 : Int) M1) ∧ (v6 < r1 → t75 [.inr 1, .inl v1, .inl v6] M1 (fun r2 M2 => rg r2 ∧ rg (-1 : Int) ∧ (r2 ≠ (-1 : Int) → t78 [.inr 4, .inl r2] M2 (fun r3 M3 => rg r2 ∧ rg (-1 : Int) ∧ (r2 ≠ (-1 : Int) → t58 [.inl v5, .inl r3] M3 (fun r4 M4 => rg r4 ∧ (r4 = 0 → t89 [.inr 7, .inl v4, .inl r3] M4 (fun r5 M5 => K 11 [some (.inr 7), some (.inl v1), some (.inl v2), some (.inl (v3 + (0 : Int))), some (.inl r3), some (.inl (xi v5 ||| xi (xi (1 : Int) <<< (xi r3 &&& 31)).toInt).toInt), some (.inl (v6 + (1 : Int))), some (.inl r2), some (.inl r3)] [] M5)) ∧ (r4 ≠ 0 → ((0 : Int) = 0 ∨ (0 : Int) = 1) ∧ Rt (0 : Int) M4))) ∧ (r2 = (-1 : Int) → t58 [.inl v5, .inl r3] M3 (fun r6 M6 => rg r6 ∧ (r6 = 0 → t89 [.inr 7, .inl v4, .inl r3] M6 (fun r7 M7 => K 11 [some (.inr 7), some (.inl v1), some (.inl v2), some (.inl (v3 + (1 : Int))), some (.inl r3), some (.inl (xi v5 ||| xi (xi (1 : Int) <<< (xi r3 &&& 31)).toInt).toInt), some (.inl (v6 + (1 : Int))), some (.inl r2), some (.inl r3)] [] M7)) ∧ (r6 ≠ 0 → ((0 : Int) = 0 ∨ (0 : Int) = 1) ∧ Rt (0 : Int) M6))))) ∧ (r2 = (-1 : Int) → t86 [.inr 7, .inl v3] M2 (fun r8 M8 => rg r2 ∧ rg (-1 : Int) ∧ (r2 ≠ (-1 : Int) → t58 [.inl v5, .inl r8] M8 (fun r9 M9 => rg r9 ∧ (r9 = 0 → t89 [.inr 7, .inl v4, .inl r8] M9 (fun r10 M10 => K 11 [some (.inr 7), some (.inl v1), some (.inl v2), some (.inl (v3 + (0 : Int))), some (.inl r8), some (.inl (xi v5 ||| xi (xi (1 : Int) <<< (xi r8 &&& 31)).toInt).toInt), some (.inl (v6 + (1 : Int))), some (.inl r2), some (.inl r8)] [] M10)) ∧ (r9 ≠ 0 → ((0 : Int) = 0 ∨ (0 : Int) = 1) ∧ Rt (0 : Int) M9))) ∧ (r2 = (-1 : Int) → t58 [.inl v5, .inl r8] M8 (fun r11 M11 => rg r11 ∧ (r11 = 0 → t89 [.inr 7, .inl v4, .inl r8] M11 (fun r12 M12 => K 11 [some (.inr 7), some (.inl v1), some (.inl v2), some (.inl (v3 + (1 : Int))), some (.inl r8), some (.inl (xi v5 ||| xi (xi (1 : Int) <<< (xi r8 &&& 31)).toInt).toInt), some (.inl (v6 + (1 : Int))), some (.inl r2), some (.inl r8)] [] M12)) ∧ (r11 ≠ 0 → ((0 : Int) = 0 ∨ (0 : Int) = 1) ∧ Rt (0 : Int) M11))))))))) := rfl
def calX1_silentBox : xCal := []
def cutX1_silentBox : Nat → Bool := fun pc => false
set_option maxRecDepth 100000 in
set_option maxHeartbeats 4000000 in
theorem vcX1_silentBox_0 (Rt : xR) (K : xG) (M : xM) (v1 : Int) : xw LX fldX1 calX1_silentBox [] 1 Rt iX1_silentBox cutX1_silentBox K 400 0 [some (.inr 7), some (.inl v1)] [] M = (rg v1 ∧ (v1 < 0 → Rt (-1 : Int) M) ∧ (0 ≤ v1 → rg v1 ∧ rg (4 : Int) ∧ ((4 : Int) ≤ v1 → Rt (-1 : Int) M) ∧ (v1 < (4 : Int) → (0 ≤ v1 ∧ v1 < 4) ∧ Rt (M 8 v1) M))) := rfl
def calX1_join (t92 : xT) : xCal := [(92, true, 1, false, t92)]
def cutX1_join : Nat → Bool := fun pc => false
set_option maxRecDepth 100000 in
set_option maxHeartbeats 4000000 in
theorem vcX1_join_0 (Rt : xR) (K : xG) (t92 : xT) (M : xM) (v1 v2 : Int) : xw LX fldX1 (calX1_join t92) [] 0 Rt iX1_join cutX1_join K 400 0 [some (.inr 7), some (.inl v1), some (.inl v2)] [] M = (t92 [.inl v1] M (fun r1 M1 => rg r1 ∧ (r1 = 0 → Rt 0 M1) ∧ (r1 ≠ 0 → t92 [.inl v2] M1 (fun r2 M2 => rg r2 ∧ (r2 = 0 → Rt 0 M2) ∧ (r2 ≠ 0 → (0 ≤ v1 ∧ v1 < 10) ∧ (0 ≤ v1 ∧ v1 < 10) ∧ (0 ≤ v2 ∧ v2 < 10) ∧ (0 ≤ v2 ∧ v2 < 10) ∧ Rt 0 (xup (xup M2 9 v1 (xi (M2 9 v1) ||| xi (xi (1 : Int) <<< (xi v2 &&& 31)).toInt).toInt) 9 v2 (xi ((xup M2 9 v1 (xi (M2 9 v1) ||| xi (xi (1 : Int) <<< (xi v2 &&& 31)).toInt).toInt) 9 v2) ||| xi (xi (1 : Int) <<< (xi v1 &&& 31)).toInt).toInt)))))) := rfl
def calX1_joinedWith (t92 : xT) : xCal := [(92, true, 1, false, t92)]
def cutX1_joinedWith : Nat → Bool := fun pc => false
set_option maxRecDepth 100000 in
set_option maxHeartbeats 4000000 in
theorem vcX1_joinedWith_0 (Rt : xR) (K : xG) (t92 : xT) (M : xM) (v1 : Int) : xw LX fldX1 (calX1_joinedWith t92) [] 1 Rt iX1_joinedWith cutX1_joinedWith K 400 0 [some (.inr 7), some (.inl v1)] [] M = (t92 [.inl v1] M (fun r1 M1 => rg r1 ∧ (r1 = 0 → Rt (0 : Int) M1) ∧ (r1 ≠ 0 → (0 ≤ v1 ∧ v1 < 10) ∧ Rt (M1 9 v1) M1))) := rfl
def calX1_lines (t95 : xT) : xCal := [(95, true, 1, false, t95)]
def cutX1_lines : Nat → Bool := fun pc => Nat.beq pc 4
set_option maxRecDepth 100000 in
set_option maxHeartbeats 4000000 in
theorem vcX1_lines_0 (Rt : xR) (K : xG) (t95 : xT) (M : xM) : xw LX fldX1 (calX1_lines t95) [] 1 Rt iX1_lines cutX1_lines K 400 0 [some (.inr 7), none, none] [] M = (K 4 [some (.inr 7), some (.inl (0 : Int)), some (.inl (0 : Int))] [] M) := rfl
set_option maxRecDepth 100000 in
set_option maxHeartbeats 4000000 in
theorem vcX1_lines_4 (Rt : xR) (K : xG) (t95 : xT) (M : xM) (v1 v2 : Int) : xw LX fldX1 (calX1_lines t95) [] 1 Rt iX1_lines cutX1_lines K 400 4 [some (.inr 7), some (.inl v1), some (.inl v2)] [] M = (rg v2 ∧ rg (10 : Int) ∧ ((10 : Int) ≤ v2 → (0 ≤ v1 ∧ v1 < 2147483648 ∧ 0 < (2 : Int) ∧ (2 : Int) < 2147483648) ∧ Rt (v1 / (2 : Int)) M) ∧ (v2 < (10 : Int) → (0 ≤ v2 ∧ v2 < 10) ∧ t95 [.inl (M 9 v2)] M (fun r1 M1 => K 4 [some (.inr 7), some (.inl (v1 + r1)), some (.inl (v2 + (1 : Int)))] [] M1))) := rfl
def calX1_way (t58 : xT) : xCal := [(58, true, 2, false, t58)]
def cutX1_way : Nat → Bool := fun pc => Nat.beq pc 7 || Nat.beq pc 31
set_option maxRecDepth 100000 in
set_option maxHeartbeats 4000000 in
theorem vcX1_way_0 (Rt : xR) (K : xG) (t58 : xT) (M : xM) (v1 v2 : Int) : xw LX fldX1 (calX1_way t58) [] 1 Rt iX1_way cutX1_way K 400 0 [some (.inr 7), some (.inl v1), some (.inl v2), none, none, none, none] [] M = (K 7 [some (.inr 7), some (.inl v1), some (.inl v2), some (.inl (xi (1 : Int) <<< (xi v1 &&& 31)).toInt), some (.inl (0 : Int)), none, none] [] M) := rfl
set_option maxRecDepth 100000 in
set_option maxHeartbeats 4000000 in
theorem vcX1_way_7 (Rt : xR) (K : xG) (t58 : xT) (M : xM) (v1 v2 v3 v4 : Int) (o5 o6 : Option xV) : xw LX fldX1 (calX1_way t58) [] 1 Rt iX1_way cutX1_way K 400 7 [some (.inr 7), some (.inl v1), some (.inl v2), some (.inl v3), some (.inl v4), o5, o6] [] M = (rg v4 ∧ rg (10 : Int) ∧ ((10 : Int) ≤ v4 → Rt (-1 : Int) M) ∧ (v4 < (10 : Int) → t58 [.inl v3, .inl v2] M (fun r1 M1 => rg r1 ∧ (r1 = 0 → K 31 [some (.inr 7), some (.inl v1), some (.inl v2), some (.inl v3), some (.inl v4), some (.inl v3), some (.inl (0 : Int))] [] M1) ∧ (r1 ≠ 0 → Rt v4 M1)))) := rfl
set_option maxRecDepth 100000 in
set_option maxHeartbeats 4000000 in
theorem vcX1_way_31 (Rt : xR) (K : xG) (t58 : xT) (M : xM) (v1 v2 v3 v4 v5 v6 : Int) : xw LX fldX1 (calX1_way t58) [] 1 Rt iX1_way cutX1_way K 400 31 [some (.inr 7), some (.inl v1), some (.inl v2), some (.inl v3), some (.inl v4), some (.inl v5), some (.inl v6)] [] M = (rg v6 ∧ rg (10 : Int) ∧ ((10 : Int) ≤ v6 → rg v5 ∧ rg v3 ∧ (v5 ≠ v3 → K 7 [some (.inr 7), some (.inl v1), some (.inl v2), some (.inl v5), some (.inl (v4 + (1 : Int))), some (.inl v5), some (.inl v6)] [] M) ∧ (v5 = v3 → Rt (-1 : Int) M)) ∧ (v6 < (10 : Int) → t58 [.inl v3, .inl v6] M (fun r1 M1 => rg r1 ∧ (r1 = 0 → K 31 [some (.inr 7), some (.inl v1), some (.inl v2), some (.inl v3), some (.inl v4), some (.inl (xi v5 ||| xi (0 : Int)).toInt), some (.inl (v6 + (1 : Int)))] [] M1) ∧ (r1 ≠ 0 → (0 ≤ v6 ∧ v6 < 10) ∧ K 31 [some (.inr 7), some (.inl v1), some (.inl v2), some (.inl v3), some (.inl v4), some (.inl (xi v5 ||| xi (M1 9 v6)).toInt), some (.inl (v6 + (1 : Int)))] [] M1)))) := rfl
def calX2_traces : xCal := []
def cutX2_traces : Nat → Bool := fun pc => false
set_option maxRecDepth 100000 in
set_option maxHeartbeats 4000000 in
theorem vcX2_traces_0 (Rt : xR) (K : xG) (M : xM) : xw LX fldX2 calX2_traces [] 1 Rt iX2_traces cutX2_traces K 400 0 [some (.inr 1)] [] M = (Rt (M 1 2) M) := rfl
def calX2_all : xCal := []
def cutX2_all : Nat → Bool := fun pc => false
set_option maxRecDepth 100000 in
set_option maxHeartbeats 4000000 in
theorem vcX2_all_0 (Rt : xR) (K : xG) (M : xM) : xw LX fldX2 calX2_all [] 1 Rt iX2_all cutX2_all K 400 0 [some (.inr 1)] [] M = (Rt ((xi (1 : Int) <<< (xi (M 1 2) &&& 31)).toInt - (1 : Int)) M) := rfl
def calX2_length : xCal := []
def cutX2_length : Nat → Bool := fun pc => false
set_option maxRecDepth 100000 in
set_option maxHeartbeats 4000000 in
theorem vcX2_length_0 (Rt : xR) (K : xG) (M : xM) (v1 : Int) : xw LX fldX2 calX2_length [] 1 Rt iX2_length cutX2_length K 400 0 [some (.inr 1), some (.inl v1)] [] M = (rg v1 ∧ (v1 < 0 → Rt (0 : Int) M) ∧ (0 ≤ v1 → rg v1 ∧ rg (7 : Int) ∧ ((7 : Int) ≤ v1 → Rt (0 : Int) M) ∧ (v1 < (7 : Int) → (0 ≤ v1 ∧ v1 < 7) ∧ Rt (M 3 v1) M))) := rfl
def calX2_hopAt : xCal := []
def cutX2_hopAt : Nat → Bool := fun pc => false
set_option maxRecDepth 100000 in
set_option maxHeartbeats 4000000 in
theorem vcX2_hopAt_0 (Rt : xR) (K : xG) (M : xM) (v1 v2 : Int) : xw LX fldX2 calX2_hopAt [] 1 Rt iX2_hopAt cutX2_hopAt K 400 0 [some (.inr 1), some (.inl v1), some (.inl v2), none] [] M = (rg v2 ∧ (v2 < 0 → Rt (-1 : Int) M) ∧ (0 ≤ v2 → rg v2 ∧ rg (6 : Int) ∧ ((6 : Int) ≤ v2 → Rt (-1 : Int) M) ∧ (v2 < (6 : Int) → rg ((v1 * (6 : Int)) + v2) ∧ (((v1 * (6 : Int)) + v2) < 0 → Rt (-1 : Int) M) ∧ (0 ≤ ((v1 * (6 : Int)) + v2) → rg ((v1 * (6 : Int)) + v2) ∧ rg (42 : Int) ∧ ((42 : Int) ≤ ((v1 * (6 : Int)) + v2) → Rt (-1 : Int) M) ∧ (((v1 * (6 : Int)) + v2) < (42 : Int) → (0 ≤ ((v1 * (6 : Int)) + v2) ∧ ((v1 * (6 : Int)) + v2) < 42) ∧ Rt (M 2 ((v1 * (6 : Int)) + v2)) M))))) := rfl
def calX2_has (t22 t26 : xT) : xCal := [(22, false, 2, false, t22), (26, false, 3, false, t26)]
def cutX2_has : Nat → Bool := fun pc => Nat.beq pc 2
set_option maxRecDepth 100000 in
set_option maxHeartbeats 4000000 in
theorem vcX2_has_0 (Rt : xR) (K : xG) (t22 t26 : xT) (M : xM) (v1 v2 : Int) : xw LX fldX2 (calX2_has t22 t26) [] 2 Rt iX2_has cutX2_has K 400 0 [some (.inr 1), some (.inl v1), some (.inl v2), none] [] M = (K 2 [some (.inr 1), some (.inl v1), some (.inl v2), some (.inl (0 : Int))] [] M) := rfl
set_option maxRecDepth 100000 in
set_option maxHeartbeats 4000000 in
theorem vcX2_has_2 (Rt : xR) (K : xG) (t22 t26 : xT) (M : xM) (v1 v2 v3 : Int) : xw LX fldX2 (calX2_has t22 t26) [] 2 Rt iX2_has cutX2_has K 400 2 [some (.inr 1), some (.inl v1), some (.inl v2), some (.inl v3)] [] M = (t22 [.inr 1, .inl v1] M (fun r1 M1 => rg v3 ∧ rg r1 ∧ (r1 ≤ v3 → ((0 : Int) = 0 ∨ (0 : Int) = 1) ∧ Rt (0 : Int) M1) ∧ (v3 < r1 → t26 [.inr 1, .inl v1, .inl v3] M1 (fun r2 M2 => rg r2 ∧ rg v2 ∧ (r2 ≠ v2 → K 2 [some (.inr 1), some (.inl v1), some (.inl v2), some (.inl (v3 + (1 : Int)))] [] M2) ∧ (r2 = v2 → ((1 : Int) = 0 ∨ (1 : Int) = 1) ∧ Rt (1 : Int) M2))))) := rfl
def calX2_silentsIn (t22 t26 : xT) : xCal := [(22, false, 2, false, t22), (26, false, 3, false, t26)]
def cutX2_silentsIn : Nat → Bool := fun pc => Nat.beq pc 4
set_option maxRecDepth 100000 in
set_option maxHeartbeats 4000000 in
theorem vcX2_silentsIn_0 (Rt : xR) (K : xG) (t22 t26 : xT) (M : xM) (v1 : Int) : xw LX fldX2 (calX2_silentsIn t22 t26) [] 1 Rt iX2_silentsIn cutX2_silentsIn K 400 0 [some (.inr 1), some (.inl v1), none, none] [] M = (K 4 [some (.inr 1), some (.inl v1), some (.inl (0 : Int)), some (.inl (0 : Int))] [] M) := rfl
set_option maxRecDepth 100000 in
set_option maxHeartbeats 4000000 in
theorem vcX2_silentsIn_4 (Rt : xR) (K : xG) (t22 t26 : xT) (M : xM) (v1 v2 v3 : Int) : xw LX fldX2 (calX2_silentsIn t22 t26) [] 1 Rt iX2_silentsIn cutX2_silentsIn K 400 4 [some (.inr 1), some (.inl v1), some (.inl v2), some (.inl v3)] [] M = (t22 [.inr 1, .inl v1] M (fun r1 M1 => rg v3 ∧ rg r1 ∧ (r1 ≤ v3 → Rt v2 M1) ∧ (v3 < r1 → t26 [.inr 1, .inl v1, .inl v3] M1 (fun r2 M2 => rg r2 ∧ rg (-1 : Int) ∧ (r2 ≠ (-1 : Int) → K 4 [some (.inr 1), some (.inl v1), some (.inl v2), some (.inl (v3 + (1 : Int)))] [] M2) ∧ (r2 = (-1 : Int) → K 4 [some (.inr 1), some (.inl v1), some (.inl (v2 + (1 : Int))), some (.inl (v3 + (1 : Int)))] [] M2))))) := rfl
def calX2_silents (t30 : xT) : xCal := [(30, false, 2, false, t30)]
def cutX2_silents : Nat → Bool := fun pc => Nat.beq pc 4
set_option maxRecDepth 100000 in
set_option maxHeartbeats 4000000 in
theorem vcX2_silents_0 (Rt : xR) (K : xG) (t30 : xT) (M : xM) : xw LX fldX2 (calX2_silents t30) [] 1 Rt iX2_silents cutX2_silents K 400 0 [some (.inr 1), none, none] [] M = (K 4 [some (.inr 1), some (.inl (0 : Int)), some (.inl (0 : Int))] [] M) := rfl
set_option maxRecDepth 100000 in
set_option maxHeartbeats 4000000 in
theorem vcX2_silents_4 (Rt : xR) (K : xG) (t30 : xT) (M : xM) (v1 v2 : Int) : xw LX fldX2 (calX2_silents t30) [] 1 Rt iX2_silents cutX2_silents K 400 4 [some (.inr 1), some (.inl v1), some (.inl v2)] [] M = (rg v2 ∧ rg (M 1 2) ∧ ((M 1 2) ≤ v2 → Rt v1 M) ∧ (v2 < (M 1 2) → t30 [.inr 1, .inl v2] M (fun r1 M1 => K 4 [some (.inr 1), some (.inl (v1 + r1)), some (.inl (v2 + (1 : Int)))] [] M1))) := rfl
def calX2_names (t22 t26 : xT) : xCal := [(22, false, 2, false, t22), (26, false, 3, false, t26)]
def cutX2_names : Nat → Bool := fun pc => Nat.beq pc 4 || Nat.beq pc 14
set_option maxRecDepth 100000 in
set_option maxHeartbeats 4000000 in
theorem vcX2_names_0 (Rt : xR) (K : xG) (t22 t26 : xT) (M : xM) : xw LX fldX2 (calX2_names t22 t26) [] 1 Rt iX2_names cutX2_names K 400 0 [some (.inr 1), none, none, none, none] [] M = (K 4 [some (.inr 1), some (.inl (0 : Int)), some (.inl (0 : Int)), none, none] [] M) := rfl
set_option maxRecDepth 100000 in
set_option maxHeartbeats 4000000 in
theorem vcX2_names_4 (Rt : xR) (K : xG) (t22 t26 : xT) (M : xM) (v1 v2 : Int) (o3 o4 : Option xV) : xw LX fldX2 (calX2_names t22 t26) [] 1 Rt iX2_names cutX2_names K 400 4 [some (.inr 1), some (.inl v1), some (.inl v2), o3, o4] [] M = (rg v2 ∧ rg (M 1 2) ∧ ((M 1 2) ≤ v2 → Rt v1 M) ∧ (v2 < (M 1 2) → K 14 [some (.inr 1), some (.inl v1), some (.inl v2), some (.inl (0 : Int)), o4] [] M)) := rfl
set_option maxRecDepth 100000 in
set_option maxHeartbeats 4000000 in
theorem vcX2_names_14 (Rt : xR) (K : xG) (t22 t26 : xT) (M : xM) (v1 v2 v3 : Int) (o4 : Option xV) : xw LX fldX2 (calX2_names t22 t26) [] 1 Rt iX2_names cutX2_names K 400 14 [some (.inr 1), some (.inl v1), some (.inl v2), some (.inl v3), o4] [] M = (t22 [.inr 1, .inl v2] M (fun r1 M1 => rg v3 ∧ rg r1 ∧ (r1 ≤ v3 → K 4 [some (.inr 1), some (.inl v1), some (.inl (v2 + (1 : Int))), some (.inl v3), o4] [] M1) ∧ (v3 < r1 → t26 [.inr 1, .inl v2, .inl v3] M1 (fun r2 M2 => rg r2 ∧ rg (-1 : Int) ∧ (r2 ≠ (-1 : Int) → K 14 [some (.inr 1), some (.inl (xi v1 ||| xi (xi (1 : Int) <<< (xi r2 &&& 31)).toInt).toInt), some (.inl v2), some (.inl (v3 + (1 : Int))), some (.inl r2)] [] M2) ∧ (r2 = (-1 : Int) → K 14 [some (.inr 1), some (.inl (xi v1 ||| xi (0 : Int)).toInt), some (.inl v2), some (.inl (v3 + (1 : Int))), some (.inl r2)] [] M2))))) := rfl
def calX2_append (t22 : xT) : xCal := [(22, false, 2, false, t22)]
def cutX2_append : Nat → Bool := fun pc => false
set_option maxRecDepth 100000 in
set_option maxHeartbeats 4000000 in
theorem vcX2_append_0 (Rt : xR) (K : xG) (t22 : xT) (M : xM) (v1 v2 : Int) : xw LX fldX2 (calX2_append t22) [] 0 Rt iX2_append cutX2_append K 400 0 [some (.inr 1), some (.inl v1), some (.inl v2), none, none] [] M = (t22 [.inr 1, .inl v1] M (fun r1 M1 => rg v1 ∧ (v1 < 0 → Rt 0 M1) ∧ (0 ≤ v1 → rg v1 ∧ rg (7 : Int) ∧ ((7 : Int) ≤ v1 → Rt 0 M1) ∧ (v1 < (7 : Int) → rg r1 ∧ rg (6 : Int) ∧ ((6 : Int) ≤ r1 → Rt 0 M1) ∧ (r1 < (6 : Int) → rg ((v1 * (6 : Int)) + r1) ∧ rg (42 : Int) ∧ ((42 : Int) ≤ ((v1 * (6 : Int)) + r1) → Rt 0 M1) ∧ (((v1 * (6 : Int)) + r1) < (42 : Int) → (0 ≤ ((v1 * (6 : Int)) + r1) ∧ ((v1 * (6 : Int)) + r1) < 42) ∧ (0 ≤ v1 ∧ v1 < 7) ∧ Rt 0 (xup (xup M1 2 ((v1 * (6 : Int)) + r1) v2) 3 v1 (r1 + (1 : Int))))))))) := rfl
def calX2_empty : xCal := []
def cutX2_empty : Nat → Bool := fun pc => false
set_option maxRecDepth 100000 in
set_option maxHeartbeats 4000000 in
theorem vcX2_empty_0 (Rt : xR) (K : xG) (M : xM) (v1 : Int) : xw LX fldX2 calX2_empty [] 0 Rt iX2_empty cutX2_empty K 400 0 [some (.inr 1), some (.inl v1)] [] M = (rg v1 ∧ (v1 < 0 → Rt 0 M) ∧ (0 ≤ v1 → rg v1 ∧ rg (7 : Int) ∧ ((7 : Int) ≤ v1 → Rt 0 M) ∧ (v1 < (7 : Int) → (0 ≤ v1 ∧ v1 < 7) ∧ Rt 0 (xup M 3 v1 (0 : Int))))) := rfl
def calX2_keepHand (t33 t37 : xT) : xCal := [(33, false, 3, true, t33), (37, false, 2, true, t37)]
def cutX2_keepHand : Nat → Bool := fun pc => false
set_option maxRecDepth 100000 in
set_option maxHeartbeats 4000000 in
theorem vcX2_keepHand_0 (Rt : xR) (K : xG) (t33 t37 : xT) (M : xM) : xw LX fldX2 (calX2_keepHand t33 t37) [] 0 Rt iX2_keepHand cutX2_keepHand K 400 0 [some (.inr 1)] [] M = (rg (M 1 2) ∧ rg (6 : Int) ∧ ((6 : Int) ≤ (M 1 2) → Rt 0 M) ∧ ((M 1 2) < (6 : Int) → t33 [.inr 1, .inl (6 : Int), .inl (M 1 2)] M (fun r1 M1 => t37 [.inr 1, .inl (6 : Int)] M1 (fun r2 M2 => Rt 0 (xup M2 1 2 ((M2 1 2) + (1 : Int))))))) := rfl
def calX2_remove (t33 : xT) : xCal := [(33, false, 3, true, t33)]
def cutX2_remove : Nat → Bool := fun pc => Nat.beq pc 14
set_option maxRecDepth 100000 in
set_option maxHeartbeats 4000000 in
theorem vcX2_remove_0 (Rt : xR) (K : xG) (t33 : xT) (M : xM) (v1 : Int) : xw LX fldX2 (calX2_remove t33) [] 0 Rt iX2_remove cutX2_remove K 400 0 [some (.inr 1), some (.inl v1), none] [] M = (rg v1 ∧ (v1 < 0 → Rt 0 M) ∧ (0 ≤ v1 → rg v1 ∧ rg (M 1 2) ∧ ((M 1 2) ≤ v1 → Rt 0 M) ∧ (v1 < (M 1 2) → K 14 [some (.inr 1), some (.inl v1), some (.inl v1)] [] M))) := rfl
set_option maxRecDepth 100000 in
set_option maxHeartbeats 4000000 in
theorem vcX2_remove_14 (Rt : xR) (K : xG) (t33 : xT) (M : xM) (v1 v2 : Int) : xw LX fldX2 (calX2_remove t33) [] 0 Rt iX2_remove cutX2_remove K 400 14 [some (.inr 1), some (.inl v1), some (.inl v2)] [] M = (rg (v2 + (1 : Int)) ∧ rg (M 1 2) ∧ ((M 1 2) ≤ (v2 + (1 : Int)) → Rt 0 (xup M 1 2 ((M 1 2) - (1 : Int)))) ∧ ((v2 + (1 : Int)) < (M 1 2) → t33 [.inr 1, .inl (v2 + (1 : Int)), .inl v2] M (fun r1 M1 => K 14 [some (.inr 1), some (.inl v1), some (.inl (v2 + (1 : Int)))] [] M1))) := rfl
def calX2_copy (t22 t37 t26 t41 : xT) : xCal := [(22, false, 2, false, t22), (37, false, 2, true, t37), (26, false, 3, false, t26), (41, false, 3, true, t41)]
def cutX2_copy : Nat → Bool := fun pc => Nat.beq pc 14
set_option maxRecDepth 100000 in
set_option maxHeartbeats 4000000 in
theorem vcX2_copy_0 (Rt : xR) (K : xG) (t22 t37 t26 t41 : xT) (M : xM) (v1 v2 : Int) : xw LX fldX2 (calX2_copy t22 t37 t26 t41) [] 0 Rt iX2_copy cutX2_copy K 400 0 [some (.inr 1), some (.inl v1), some (.inl v2), none, none] [] M = (t22 [.inr 1, .inl v1] M (fun r1 M1 => t37 [.inr 1, .inl v2] M1 (fun r2 M2 => K 14 [some (.inr 1), some (.inl v1), some (.inl v2), some (.inl r1), some (.inl (0 : Int))] [] M2))) := rfl
set_option maxRecDepth 100000 in
set_option maxHeartbeats 4000000 in
theorem vcX2_copy_14 (Rt : xR) (K : xG) (t22 t37 t26 t41 : xT) (M : xM) (v1 v2 v3 v4 : Int) : xw LX fldX2 (calX2_copy t22 t37 t26 t41) [] 0 Rt iX2_copy cutX2_copy K 400 14 [some (.inr 1), some (.inl v1), some (.inl v2), some (.inl v3), some (.inl v4)] [] M = (rg v4 ∧ rg v3 ∧ (v3 ≤ v4 → Rt 0 M) ∧ (v4 < v3 → t26 [.inr 1, .inl v1, .inl v4] M (fun r1 M1 => t41 [.inr 1, .inl v2, .inl r1] M1 (fun r2 M2 => K 14 [some (.inr 1), some (.inl v1), some (.inl v2), some (.inl v3), some (.inl (v4 + (1 : Int)))] [] M2)))) := rfl
def calX3_forgetMade : xCal := []
def cutX3_forgetMade : Nat → Bool := fun pc => false
set_option maxRecDepth 100000 in
set_option maxHeartbeats 4000000 in
theorem vcX3_forgetMade_0 (Rt : xR) (K : xG) (M : xM) : xw LX fldX3 calX3_forgetMade [] 0 Rt iX3_forgetMade cutX3_forgetMade K 400 0 [some (.inr 12)] [] M = (((0 : Int) = 0 ∨ (0 : Int) = 1) ∧ Rt 0 (xup M 12 7 (0 : Int))) := rfl
def calX3_bestPair : xCal := []
def cutX3_bestPair : Nat → Bool := fun pc => false
set_option maxRecDepth 100000 in
set_option maxHeartbeats 4000000 in
theorem vcX3_bestPair_0 (Rt : xR) (K : xG) (M : xM) : xw LX fldX3 calX3_bestPair [] 1 Rt iX3_bestPair cutX3_bestPair K 400 0 [some (.inr 12)] [] M = (Rt (M 12 8) M) := rfl
def calX3_bestHeap : xCal := []
def cutX3_bestHeap : Nat → Bool := fun pc => false
set_option maxRecDepth 100000 in
set_option maxHeartbeats 4000000 in
theorem vcX3_bestHeap_0 (Rt : xR) (K : xG) (M : xM) : xw LX fldX3 calX3_bestHeap [] 1 Rt iX3_bestHeap cutX3_bestHeap K 400 0 [some (.inr 12)] [] M = (Rt (M 12 9) M) := rfl
def calX3_wayIn (t48 t54 : xT) : xCal := [(48, false, 2, true, t48), (54, false, 3, false, t54)]
def cutX3_wayIn : Nat → Bool := fun pc => false
set_option maxRecDepth 100000 in
set_option maxHeartbeats 4000000 in
theorem vcX3_wayIn_0 (Rt : xR) (K : xG) (t48 t54 : xT) (M : xM) (v1 v2 v3 : Int) : xw LX fldX3 (calX3_wayIn t48 t54) [] 1 Rt iX3_wayIn cutX3_wayIn K 400 0 [some (.inr 12), some (.inl v1), some (.inl v2), some (.inl v3)] [] M = (t48 [.inr 7, .inl v1] M (fun r1 M1 => t54 [.inr 7, .inl v2, .inl v3] M1 (fun r2 M2 => Rt r2 M2))) := rfl
def calX3_lineBetween (t58 t62 : xT) : xCal := [(58, true, 1, false, t58), (62, true, 2, false, t62)]
def cutX3_lineBetween : Nat → Bool := fun pc => false
set_option maxRecDepth 100000 in
set_option maxHeartbeats 4000000 in
theorem vcX3_lineBetween_0 (Rt : xR) (K : xG) (t58 t62 : xT) (M : xM) (v1 v2 : Int) : xw LX fldX3 (calX3_lineBetween t58 t62) [] 1 Rt iX3_lineBetween cutX3_lineBetween K 400 0 [some (.inr 12), some (.inl v1), some (.inl v2)] [] M = (t58 [.inl v1] M (fun r1 M1 => rg r1 ∧ (r1 = 0 → Rt (0 : Int) M1) ∧ (r1 ≠ 0 → (0 ≤ v1 ∧ v1 < 10) ∧ t62 [.inl (M1 13 v1), .inl v2] M1 (fun r2 M2 => rg r2 ∧ (r2 ≠ 0 → (0 ≤ v1 ∧ v1 < 10) ∧ t62 [.inl (M2 14 v1), .inl v2] M2 (fun r3 M3 => rg r3 ∧ (r3 = 0 → Rt (1 : Int) M3) ∧ (r3 ≠ 0 → Rt (2 : Int) M3))) ∧ (r2 = 0 → Rt (0 : Int) M2))))) := rfl
def calX3_make (t66 t72 t78 t83 t48 t87 t90 t93 : xT) : xCal := [(66, true, 2, true, t66), (72, false, 1, false, t72), (78, false, 1, false, t78), (83, false, 2, false, t83), (48, false, 2, true, t48), (87, false, 1, true, t87), (90, false, 2, true, t90), (93, false, 2, true, t93)]
def cutX3_make : Nat → Bool := fun pc => Nat.beq pc 57
set_option maxRecDepth 100000 in
set_option maxHeartbeats 4000000 in
theorem vcX3_make_0 (Rt : xR) (K : xG) (t66 t72 t78 t83 t48 t87 t90 t93 : xT) (M : xM) : xw LX fldX3 (calX3_make t66 t72 t78 t83 t48 t87 t90 t93) [] 0 Rt iX3_make cutX3_make K 400 0 [some (.inr 12), none, none, none] [] M = (rg (M 12 7) ∧ ((M 12 7) = 0 → ((1 : Int) = 0 ∨ (1 : Int) = 1) ∧ t66 [.inr 13, .inl (0 : Int)] (xup M 12 7 (1 : Int)) (fun r1 M1 => t66 [.inr 14, .inl (1023 : Int)] M1 (fun r2 M2 => t66 [.inr 15, .inl (0 : Int)] M2 (fun r3 M3 => t72 [.inr 1] M3 (fun r4 M4 => t78 [.inr 10] M4 (fun r5 M5 => K 57 [some (.inr 12), some (.inl r4), some (.inl r5), some (.inl (0 : Int))] [] M5)))))) ∧ ((M 12 7) ≠ 0 → Rt 0 M)) := rfl
set_option maxRecDepth 100000 in
set_option maxHeartbeats 4000000 in
theorem vcX3_make_57 (Rt : xR) (K : xG) (t66 t72 t78 t83 t48 t87 t90 t93 : xT) (M : xM) (v1 v2 v3 : Int) : xw LX fldX3 (calX3_make t66 t72 t78 t83 t48 t87 t90 t93) [] 0 Rt iX3_make cutX3_make K 400 57 [some (.inr 12), some (.inl v1), some (.inl v2), some (.inl v3)] [] M = (rg v3 ∧ rg v2 ∧ (v2 ≤ v3 → t93 [.inr 12, .inl v1] M (fun r1 M1 => Rt 0 M1)) ∧ (v3 < v2 → t83 [.inr 10, .inl v3] M (fun r2 M2 => t48 [.inr 7, .inl r2] M2 (fun r3 M3 => t87 [.inr 12] M3 (fun r4 M4 => t90 [.inr 12, .inl v1] M4 (fun r5 M5 => K 57 [some (.inr 12), some (.inl v1), some (.inl v2), some (.inl (v3 + (1 : Int)))] [] M5)))))) := rfl
def calX3_addLines (t96 : xT) : xCal := [(96, false, 2, false, t96)]
def cutX3_addLines : Nat → Bool := fun pc => Nat.beq pc 2
set_option maxRecDepth 100000 in
set_option maxHeartbeats 4000000 in
theorem vcX3_addLines_0 (Rt : xR) (K : xG) (t96 : xT) (M : xM) : xw LX fldX3 (calX3_addLines t96) [] 0 Rt iX3_addLines cutX3_addLines K 400 0 [some (.inr 12), none] [] M = (K 2 [some (.inr 12), some (.inl (0 : Int))] [] M) := rfl
set_option maxRecDepth 100000 in
set_option maxHeartbeats 4000000 in
theorem vcX3_addLines_2 (Rt : xR) (K : xG) (t96 : xT) (M : xM) (v1 : Int) : xw LX fldX3 (calX3_addLines t96) [] 0 Rt iX3_addLines cutX3_addLines K 400 2 [some (.inr 12), some (.inl v1)] [] M = (rg v1 ∧ rg (10 : Int) ∧ ((10 : Int) ≤ v1 → Rt 0 M) ∧ (v1 < (10 : Int) → (0 ≤ v1 ∧ v1 < 10) ∧ t96 [.inr 7, .inl v1] M (fun r1 M1 => (0 ≤ v1 ∧ v1 < 10) ∧ (0 ≤ v1 ∧ v1 < 10) ∧ t96 [.inr 7, .inl v1] (xup M1 13 v1 (xi (M 13 v1) ||| xi r1).toInt) (fun r2 M2 => (0 ≤ v1 ∧ v1 < 10) ∧ K 2 [some (.inr 12), some (.inl (v1 + (1 : Int)))] [] (xup M2 14 v1 (xi ((xup M1 13 v1 (xi (M 13 v1) ||| xi r1).toInt) 14 v1) &&& xi r2).toInt))))) := rfl
def calX3_addWays (t62 t99 t54 t104 : xT) : xCal := [(62, true, 2, false, t62), (99, false, 2, false, t99), (54, false, 3, false, t54), (104, false, 4, true, t104)]
def cutX3_addWays : Nat → Bool := fun pc => Nat.beq pc 2 || Nat.beq pc 12
set_option maxRecDepth 100000 in
set_option maxHeartbeats 4000000 in
theorem vcX3_addWays_0 (Rt : xR) (K : xG) (t62 t99 t54 t104 : xT) (M : xM) (v1 : Int) : xw LX fldX3 (calX3_addWays t62 t99 t54 t104) [] 0 Rt iX3_addWays cutX3_addWays K 400 0 [some (.inr 12), some (.inl v1), none, none] [] M = (K 2 [some (.inr 12), some (.inl v1), some (.inl (0 : Int)), none] [] M) := rfl
set_option maxRecDepth 100000 in
set_option maxHeartbeats 4000000 in
theorem vcX3_addWays_2 (Rt : xR) (K : xG) (t62 t99 t54 t104 : xT) (M : xM) (v1 v2 : Int) (o3 : Option xV) : xw LX fldX3 (calX3_addWays t62 t99 t54 t104) [] 0 Rt iX3_addWays cutX3_addWays K 400 2 [some (.inr 12), some (.inl v1), some (.inl v2), o3] [] M = (rg v2 ∧ rg (6 : Int) ∧ ((6 : Int) ≤ v2 → Rt 0 M) ∧ (v2 < (6 : Int) → K 12 [some (.inr 12), some (.inl v1), some (.inl v2), some (.inl (v2 + (1 : Int)))] [] M)) := rfl
set_option maxRecDepth 100000 in
set_option maxHeartbeats 4000000 in
theorem vcX3_addWays_12 (Rt : xR) (K : xG) (t62 t99 t54 t104 : xT) (M : xM) (v1 v2 v3 : Int) : xw LX fldX3 (calX3_addWays t62 t99 t54 t104) [] 0 Rt iX3_addWays cutX3_addWays K 400 12 [some (.inr 12), some (.inl v1), some (.inl v2), some (.inl v3)] [] M = (rg v3 ∧ rg (6 : Int) ∧ ((6 : Int) ≤ v3 → K 2 [some (.inr 12), some (.inl v1), some (.inl (v2 + (1 : Int))), some (.inl v3)] [] M) ∧ (v3 < (6 : Int) → t62 [.inl v1, .inl v2] M (fun r1 M1 => rg r1 ∧ (r1 = 0 → K 12 [some (.inr 12), some (.inl v1), some (.inl v2), some (.inl (v3 + (1 : Int)))] [] M1) ∧ (r1 ≠ 0 → t62 [.inl v1, .inl v3] M1 (fun r2 M2 => rg r2 ∧ (r2 = 0 → K 12 [some (.inr 12), some (.inl v1), some (.inl v2), some (.inl (v3 + (1 : Int)))] [] M2) ∧ (r2 ≠ 0 → t99 [.inr 4, .inl v2] M2 (fun r3 M3 => t99 [.inr 4, .inl v3] M3 (fun r4 M4 => t54 [.inr 7, .inl r3, .inl r4] M4 (fun r5 M5 => t104 [.inr 12, .inl v2, .inl v3, .inl r5] M5 (fun r6 M6 => K 12 [some (.inr 12), some (.inl v1), some (.inl v2), some (.inl (v3 + (1 : Int)))] [] M6)))))))))) := rfl
def calX3_addToHeap : xCal := []
def cutX3_addToHeap : Nat → Bool := fun pc => false
set_option maxRecDepth 100000 in
set_option maxHeartbeats 4000000 in
theorem vcX3_addToHeap_0 (Rt : xR) (K : xG) (M : xM) (v1 v2 v3 : Int) : xw LX fldX3 calX3_addToHeap [] 0 Rt iX3_addToHeap cutX3_addToHeap K 400 0 [some (.inr 12), some (.inl v1), some (.inl v2), some (.inl v3), none] [] M = (rg (((((v1 * (6 : Int)) + v2) * (11 : Int)) + v3) + (1 : Int)) ∧ ((((((v1 * (6 : Int)) + v2) * (11 : Int)) + v3) + (1 : Int)) < 0 → Rt 0 M) ∧ (0 ≤ (((((v1 * (6 : Int)) + v2) * (11 : Int)) + v3) + (1 : Int)) → rg (((((v1 * (6 : Int)) + v2) * (11 : Int)) + v3) + (1 : Int)) ∧ rg (396 : Int) ∧ ((396 : Int) ≤ (((((v1 * (6 : Int)) + v2) * (11 : Int)) + v3) + (1 : Int)) → Rt 0 M) ∧ ((((((v1 * (6 : Int)) + v2) * (11 : Int)) + v3) + (1 : Int)) < (396 : Int) → (0 ≤ (((((v1 * (6 : Int)) + v2) * (11 : Int)) + v3) + (1 : Int)) ∧ (((((v1 * (6 : Int)) + v2) * (11 : Int)) + v3) + (1 : Int)) < 396) ∧ (0 ≤ (((((v1 * (6 : Int)) + v2) * (11 : Int)) + v3) + (1 : Int)) ∧ (((((v1 * (6 : Int)) + v2) * (11 : Int)) + v3) + (1 : Int)) < 396) ∧ Rt 0 (xup M 15 (((((v1 * (6 : Int)) + v2) * (11 : Int)) + v3) + (1 : Int)) ((M 15 (((((v1 * (6 : Int)) + v2) * (11 : Int)) + v3) + (1 : Int))) + (1 : Int)))))) := rfl
def calX3_choosePair (t62 t108 : xT) : xCal := [(62, true, 2, false, t62), (108, false, 3, true, t108)]
def cutX3_choosePair : Nat → Bool := fun pc => Nat.beq pc 14 || Nat.beq pc 24
set_option maxRecDepth 100000 in
set_option maxHeartbeats 4000000 in
theorem vcX3_choosePair_0 (Rt : xR) (K : xG) (t62 t108 : xT) (M : xM) (v1 : Int) : xw LX fldX3 (calX3_choosePair t62 t108) [] 0 Rt iX3_choosePair cutX3_choosePair K 400 0 [some (.inr 12), some (.inl v1), none, none] [] M = (K 14 [some (.inr 12), some (.inl v1), some (.inl (0 : Int)), none] [] (xup (xup M 12 8 (-6 : Int)) 12 9 (-6 : Int))) := rfl
set_option maxRecDepth 100000 in
set_option maxHeartbeats 4000000 in
theorem vcX3_choosePair_14 (Rt : xR) (K : xG) (t62 t108 : xT) (M : xM) (v1 v2 : Int) (o3 : Option xV) : xw LX fldX3 (calX3_choosePair t62 t108) [] 0 Rt iX3_choosePair cutX3_choosePair K 400 14 [some (.inr 12), some (.inl v1), some (.inl v2), o3] [] M = (rg v2 ∧ rg (6 : Int) ∧ ((6 : Int) ≤ v2 → Rt 0 M) ∧ (v2 < (6 : Int) → K 24 [some (.inr 12), some (.inl v1), some (.inl v2), some (.inl (v2 + (1 : Int)))] [] M)) := rfl
set_option maxRecDepth 100000 in
set_option maxHeartbeats 4000000 in
theorem vcX3_choosePair_24 (Rt : xR) (K : xG) (t62 t108 : xT) (M : xM) (v1 v2 v3 : Int) : xw LX fldX3 (calX3_choosePair t62 t108) [] 0 Rt iX3_choosePair cutX3_choosePair K 400 24 [some (.inr 12), some (.inl v1), some (.inl v2), some (.inl v3)] [] M = (rg v3 ∧ rg (6 : Int) ∧ ((6 : Int) ≤ v3 → K 14 [some (.inr 12), some (.inl v1), some (.inl (v2 + (1 : Int))), some (.inl v3)] [] M) ∧ (v3 < (6 : Int) → t62 [.inl v1, .inl v2] M (fun r1 M1 => rg r1 ∧ (r1 = 0 → K 24 [some (.inr 12), some (.inl v1), some (.inl v2), some (.inl (v3 + (1 : Int)))] [] M1) ∧ (r1 ≠ 0 → t62 [.inl v1, .inl v3] M1 (fun r2 M2 => rg r2 ∧ (r2 = 0 → K 24 [some (.inr 12), some (.inl v1), some (.inl v2), some (.inl (v3 + (1 : Int)))] [] M2) ∧ (r2 ≠ 0 → t108 [.inr 12, .inl v2, .inl v3] M2 (fun r3 M3 => K 24 [some (.inr 12), some (.inl v1), some (.inl v2), some (.inl (v3 + (1 : Int)))] [] M3))))))) := rfl
def calX3_choose (t112 : xT) : xCal := [(112, false, 3, false, t112)]
def cutX3_choose : Nat → Bool := fun pc => false
set_option maxRecDepth 100000 in
set_option maxHeartbeats 4000000 in
theorem vcX3_choose_0 (Rt : xR) (K : xG) (t112 : xT) (M : xM) (v1 v2 : Int) : xw LX fldX3 (calX3_choose t112) [] 0 Rt iX3_choose cutX3_choose K 400 0 [some (.inr 12), some (.inl v1), some (.inl v2), none] [] M = (t112 [.inr 12, .inl v1, .inl v2] M (fun r1 M1 => rg (M1 12 8) ∧ rg (-6 : Int) ∧ ((M1 12 8) = (-6 : Int) → Rt 0 (xup (xup M1 12 8 (((10 : Int) * v1) + v2)) 12 9 r1)) ∧ ((M1 12 8) ≠ (-6 : Int) → rg r1 ∧ rg (M1 12 9) ∧ ((M1 12 9) ≤ r1 → Rt 0 M1) ∧ (r1 < (M1 12 9) → Rt 0 (xup (xup M1 12 8 (((10 : Int) * v1) + v2)) 12 9 r1))))) := rfl
def calX3_greatestHeap (t115 : xT) : xCal := [(115, true, 2, false, t115)]
def cutX3_greatestHeap : Nat → Bool := fun pc => Nat.beq pc 17
set_option maxRecDepth 100000 in
set_option maxHeartbeats 4000000 in
theorem vcX3_greatestHeap_0 (Rt : xR) (K : xG) (t115 : xT) (M : xM) (v1 v2 : Int) : xw LX fldX3 (calX3_greatestHeap t115) [] 1 Rt iX3_greatestHeap cutX3_greatestHeap K 400 0 [some (.inr 12), some (.inl v1), some (.inl v2), none, none, none] [] M = (K 17 [some (.inr 12), some (.inl v1), some (.inl v2), some (.inl (0 : Int)), some (.inl (((v1 * (6 : Int)) + v2) * (11 : Int))), some (.inl (((v1 * (6 : Int)) + v2) * (11 : Int)))] [] M) := rfl
set_option maxRecDepth 100000 in
set_option maxHeartbeats 4000000 in
theorem vcX3_greatestHeap_17 (Rt : xR) (K : xG) (t115 : xT) (M : xM) (v1 v2 v3 v4 v5 : Int) : xw LX fldX3 (calX3_greatestHeap t115) [] 1 Rt iX3_greatestHeap cutX3_greatestHeap K 400 17 [some (.inr 12), some (.inl v1), some (.inl v2), some (.inl v3), some (.inl v4), some (.inl v5)] [] M = (rg v5 ∧ rg (v4 + (11 : Int)) ∧ ((v4 + (11 : Int)) ≤ v5 → Rt v3 M) ∧ (v5 < (v4 + (11 : Int)) → rg v5 ∧ rg (396 : Int) ∧ ((396 : Int) ≤ v5 → Rt v3 M) ∧ (v5 < (396 : Int) → (0 ≤ v5 ∧ v5 < 396) ∧ t115 [.inl v3, .inl (M 15 v5)] M (fun r1 M1 => K 17 [some (.inr 12), some (.inl v1), some (.inl v2), some (.inl r1), some (.inl v4), some (.inl (v5 + (1 : Int)))] [] M1)))) := rfl
def calX4_times : xCal := []
def cutX4_times : Nat → Bool := fun pc => false
set_option maxRecDepth 100000 in
set_option maxHeartbeats 4000000 in
theorem vcX4_times_0 (Rt : xR) (K : xG) (M : xM) : xw LX fldX4 calX4_times [] 1 Rt iX4_times cutX4_times K 400 0 [some (.inr 4)] [] M = (Rt (M 4 2) M) := rfl
def calX4_clear (t22 : xT) : xCal := [(22, true, 2, true, t22)]
def cutX4_clear : Nat → Bool := fun pc => Nat.beq pc 2
set_option maxRecDepth 100000 in
set_option maxHeartbeats 4000000 in
theorem vcX4_clear_0 (Rt : xR) (K : xG) (t22 : xT) (M : xM) : xw LX fldX4 (calX4_clear t22) [] 0 Rt iX4_clear cutX4_clear K 400 0 [some (.inr 4), none] [] M = (K 2 [some (.inr 4), some (.inl (0 : Int))] [] M) := rfl
set_option maxRecDepth 100000 in
set_option maxHeartbeats 4000000 in
theorem vcX4_clear_2 (Rt : xR) (K : xG) (t22 : xT) (M : xM) (v1 : Int) : xw LX fldX4 (calX4_clear t22) [] 0 Rt iX4_clear cutX4_clear K 400 2 [some (.inr 4), some (.inl v1)] [] M = (rg v1 ∧ rg (6 : Int) ∧ ((6 : Int) ≤ v1 → t22 [.inr 6, .inl (0 : Int)] M (fun r1 M1 => Rt 0 (xup M1 4 2 (0 : Int)))) ∧ (v1 < (6 : Int) → (0 ≤ v1 ∧ v1 < 6) ∧ K 2 [some (.inr 4), some (.inl (v1 + (1 : Int)))] [] (xup M 5 v1 v1))) := rfl
def calX4_box : xCal := []
def cutX4_box : Nat → Bool := fun pc => false
set_option maxRecDepth 100000 in
set_option maxHeartbeats 4000000 in
theorem vcX4_box_0 (Rt : xR) (K : xG) (M : xM) (v1 : Int) : xw LX fldX4 calX4_box [] 1 Rt iX4_box cutX4_box K 400 0 [some (.inr 4), some (.inl v1)] [] M = (rg v1 ∧ (v1 < 0 → Rt (-1 : Int) M) ∧ (0 ≤ v1 → rg v1 ∧ rg (6 : Int) ∧ ((6 : Int) ≤ v1 → Rt (-1 : Int) M) ∧ (v1 < (6 : Int) → (0 ≤ v1 ∧ v1 < 6) ∧ Rt (M 5 v1) M))) := rfl
def calX4_boxes (t28 t32 : xT) : xCal := [(28, true, 2, false, t28), (32, false, 2, false, t32)]
def cutX4_boxes : Nat → Bool := fun pc => Nat.beq pc 4
set_option maxRecDepth 100000 in
set_option maxHeartbeats 4000000 in
theorem vcX4_boxes_0 (Rt : xR) (K : xG) (t28 t32 : xT) (M : xM) (v1 : Int) : xw LX fldX4 (calX4_boxes t28 t32) [] 1 Rt iX4_boxes cutX4_boxes K 400 0 [some (.inr 4), some (.inl v1), none, none] [] M = (K 4 [some (.inr 4), some (.inl v1), some (.inl (0 : Int)), some (.inl (0 : Int))] [] M) := rfl
set_option maxRecDepth 100000 in
set_option maxHeartbeats 4000000 in
theorem vcX4_boxes_4 (Rt : xR) (K : xG) (t28 t32 : xT) (M : xM) (v1 v2 v3 : Int) : xw LX fldX4 (calX4_boxes t28 t32) [] 1 Rt iX4_boxes cutX4_boxes K 400 4 [some (.inr 4), some (.inl v1), some (.inl v2), some (.inl v3)] [] M = (rg v3 ∧ rg (6 : Int) ∧ ((6 : Int) ≤ v3 → Rt v2 M) ∧ (v3 < (6 : Int) → t28 [.inl v1, .inl v3] M (fun r1 M1 => rg r1 ∧ (r1 = 0 → K 4 [some (.inr 4), some (.inl v1), some (.inl (xi v2 ||| xi (0 : Int)).toInt), some (.inl (v3 + (1 : Int)))] [] M1) ∧ (r1 ≠ 0 → t32 [.inr 4, .inl v3] M1 (fun r2 M2 => K 4 [some (.inr 4), some (.inl v1), some (.inl (xi v2 ||| xi (xi (1 : Int) <<< (xi r2 &&& 31)).toInt).toInt), some (.inl (v3 + (1 : Int)))] [] M2))))) := rfl
def calX4_areOneBox (t32 : xT) : xCal := [(32, false, 2, false, t32)]
def cutX4_areOneBox : Nat → Bool := fun pc => false
set_option maxRecDepth 100000 in
set_option maxHeartbeats 4000000 in
theorem vcX4_areOneBox_0 (Rt : xR) (K : xG) (t32 : xT) (M : xM) (v1 v2 : Int) : xw LX fldX4 (calX4_areOneBox t32) [] 2 Rt iX4_areOneBox cutX4_areOneBox K 400 0 [some (.inr 4), some (.inl v1), some (.inl v2)] [] M = (t32 [.inr 4, .inl v1] M (fun r1 M1 => t32 [.inr 4, .inl v2] M1 (fun r2 M2 => rg r1 ∧ rg r2 ∧ (r1 ≠ r2 → ((0 : Int) = 0 ∨ (0 : Int) = 1) ∧ Rt (0 : Int) M2) ∧ (r1 = r2 → ((1 : Int) = 0 ∨ (1 : Int) = 1) ∧ Rt (1 : Int) M2)))) := rfl
def calX4_areToldApart (t28 : xT) : xCal := [(28, true, 2, false, t28)]
def cutX4_areToldApart : Nat → Bool := fun pc => false
set_option maxRecDepth 100000 in
set_option maxHeartbeats 4000000 in
theorem vcX4_areToldApart_0 (Rt : xR) (K : xG) (t28 : xT) (M : xM) (v1 v2 : Int) : xw LX fldX4 (calX4_areToldApart t28) [] 2 Rt iX4_areToldApart cutX4_areToldApart K 400 0 [some (.inr 4), some (.inl v1), some (.inl v2)] [] M = (rg v1 ∧ (v1 < 0 → ((0 : Int) = 0 ∨ (0 : Int) = 1) ∧ Rt (0 : Int) M) ∧ (0 ≤ v1 → rg v1 ∧ rg (6 : Int) ∧ ((6 : Int) ≤ v1 → ((0 : Int) = 0 ∨ (0 : Int) = 1) ∧ Rt (0 : Int) M) ∧ (v1 < (6 : Int) → (0 ≤ v1 ∧ v1 < 6) ∧ t28 [.inl (M 6 v1), .inl v2] M (fun r1 M1 => rg r1 ∧ (r1 = 0 → ((0 : Int) = 0 ∨ (0 : Int) = 1) ∧ Rt (0 : Int) M1) ∧ (r1 ≠ 0 → ((1 : Int) = 0 ∨ (1 : Int) = 1) ∧ Rt (1 : Int) M1))))) := rfl
def calX4_haveBoxesApart (t36 t39 : xT) : xCal := [(36, false, 3, false, t36), (39, false, 3, false, t39)]
def cutX4_haveBoxesApart : Nat → Bool := fun pc => Nat.beq pc 2 || Nat.beq pc 11
set_option maxRecDepth 100000 in
set_option maxHeartbeats 4000000 in
theorem vcX4_haveBoxesApart_0 (Rt : xR) (K : xG) (t36 t39 : xT) (M : xM) (v1 v2 : Int) : xw LX fldX4 (calX4_haveBoxesApart t36 t39) [] 2 Rt iX4_haveBoxesApart cutX4_haveBoxesApart K 400 0 [some (.inr 4), some (.inl v1), some (.inl v2), none, none] [] M = (K 2 [some (.inr 4), some (.inl v1), some (.inl v2), some (.inl (0 : Int)), none] [] M) := rfl
set_option maxRecDepth 100000 in
set_option maxHeartbeats 4000000 in
theorem vcX4_haveBoxesApart_2 (Rt : xR) (K : xG) (t36 t39 : xT) (M : xM) (v1 v2 v3 : Int) (o4 : Option xV) : xw LX fldX4 (calX4_haveBoxesApart t36 t39) [] 2 Rt iX4_haveBoxesApart cutX4_haveBoxesApart K 400 2 [some (.inr 4), some (.inl v1), some (.inl v2), some (.inl v3), o4] [] M = (rg v3 ∧ rg (6 : Int) ∧ ((6 : Int) ≤ v3 → ((0 : Int) = 0 ∨ (0 : Int) = 1) ∧ Rt (0 : Int) M) ∧ (v3 < (6 : Int) → K 11 [some (.inr 4), some (.inl v1), some (.inl v2), some (.inl v3), some (.inl (0 : Int))] [] M)) := rfl
set_option maxRecDepth 100000 in
set_option maxHeartbeats 4000000 in
theorem vcX4_haveBoxesApart_11 (Rt : xR) (K : xG) (t36 t39 : xT) (M : xM) (v1 v2 v3 v4 : Int) : xw LX fldX4 (calX4_haveBoxesApart t36 t39) [] 2 Rt iX4_haveBoxesApart cutX4_haveBoxesApart K 400 11 [some (.inr 4), some (.inl v1), some (.inl v2), some (.inl v3), some (.inl v4)] [] M = (rg v4 ∧ rg (6 : Int) ∧ ((6 : Int) ≤ v4 → K 2 [some (.inr 4), some (.inl v1), some (.inl v2), some (.inl (v3 + (1 : Int))), some (.inl v4)] [] M) ∧ (v4 < (6 : Int) → t36 [.inr 4, .inl v1, .inl v3] M (fun r1 M1 => rg r1 ∧ (r1 = 0 → K 11 [some (.inr 4), some (.inl v1), some (.inl v2), some (.inl v3), some (.inl (v4 + (1 : Int)))] [] M1) ∧ (r1 ≠ 0 → t36 [.inr 4, .inl v2, .inl v4] M1 (fun r2 M2 => rg r2 ∧ (r2 = 0 → K 11 [some (.inr 4), some (.inl v1), some (.inl v2), some (.inl v3), some (.inl (v4 + (1 : Int)))] [] M2) ∧ (r2 ≠ 0 → t39 [.inr 4, .inl v3, .inl v4] M2 (fun r3 M3 => rg r3 ∧ (r3 = 0 → K 11 [some (.inr 4), some (.inl v1), some (.inl v2), some (.inl v3), some (.inl (v4 + (1 : Int)))] [] M3) ∧ (r3 ≠ 0 → ((1 : Int) = 0 ∨ (1 : Int) = 1) ∧ Rt (1 : Int) M3)))))))) := rfl
def calX4_add (t32 t42 t46 : xT) : xCal := [(32, false, 2, false, t32), (42, false, 3, true, t42), (46, false, 3, true, t46)]
def cutX4_add : Nat → Bool := fun pc => false
set_option maxRecDepth 100000 in
set_option maxHeartbeats 4000000 in
theorem vcX4_add_0 (Rt : xR) (K : xG) (t32 t42 t46 : xT) (M : xM) (v1 v2 v3 : Int) : xw LX fldX4 (calX4_add t32 t42 t46) [] 0 Rt iX4_add cutX4_add K 400 0 [some (.inr 4), some (.inl v1), some (.inl v2), some (.inl v3)] [] M = (rg v3 ∧ (v3 = 0 → t46 [.inr 4, .inl v1, .inl v2] M (fun r1 M1 => t46 [.inr 4, .inl v2, .inl v1] M1 (fun r2 M2 => Rt 0 (xup M2 4 2 ((M2 4 2) + (1 : Int)))))) ∧ (v3 ≠ 0 → t32 [.inr 4, .inl v1] M (fun r3 M3 => t32 [.inr 4, .inl v2] M3 (fun r4 M4 => t42 [.inr 4, .inl r3, .inl r4] M4 (fun r5 M5 => Rt 0 (xup M5 4 2 ((M5 4 2) + (1 : Int)))))))) := rfl
def calX4_makeOne (t49 : xT) : xCal := [(49, true, 2, false, t49)]
def cutX4_makeOne : Nat → Bool := fun pc => Nat.beq pc 2
set_option maxRecDepth 100000 in
set_option maxHeartbeats 4000000 in
theorem vcX4_makeOne_0 (Rt : xR) (K : xG) (t49 : xT) (M : xM) (v1 v2 : Int) : xw LX fldX4 (calX4_makeOne t49) [] 0 Rt iX4_makeOne cutX4_makeOne K 400 0 [some (.inr 4), some (.inl v1), some (.inl v2), none] [] M = (K 2 [some (.inr 4), some (.inl v1), some (.inl v2), some (.inl (0 : Int))] [] M) := rfl
set_option maxRecDepth 100000 in
set_option maxHeartbeats 4000000 in
theorem vcX4_makeOne_2 (Rt : xR) (K : xG) (t49 : xT) (M : xM) (v1 v2 v3 : Int) : xw LX fldX4 (calX4_makeOne t49) [] 0 Rt iX4_makeOne cutX4_makeOne K 400 2 [some (.inr 4), some (.inl v1), some (.inl v2), some (.inl v3)] [] M = (rg v3 ∧ rg (6 : Int) ∧ ((6 : Int) ≤ v3 → Rt 0 M) ∧ (v3 < (6 : Int) → (0 ≤ v3 ∧ v3 < 6) ∧ rg (M 5 v3) ∧ rg v1 ∧ ((M 5 v3) = v1 → t49 [.inl v1, .inl v2] M (fun r1 M1 => (0 ≤ v3 ∧ v3 < 6) ∧ K 2 [some (.inr 4), some (.inl v1), some (.inl v2), some (.inl (v3 + (1 : Int)))] [] (xup M1 5 v3 r1))) ∧ ((M 5 v3) ≠ v1 → (0 ≤ v3 ∧ v3 < 6) ∧ rg (M 5 v3) ∧ rg v2 ∧ ((M 5 v3) ≠ v2 → K 2 [some (.inr 4), some (.inl v1), some (.inl v2), some (.inl (v3 + (1 : Int)))] [] M) ∧ ((M 5 v3) = v2 → t49 [.inl v1, .inl v2] M (fun r2 M2 => (0 ≤ v3 ∧ v3 < 6) ∧ K 2 [some (.inr 4), some (.inl v1), some (.inl v2), some (.inl (v3 + (1 : Int)))] [] (xup M2 5 v3 r2)))))) := rfl
def calX4_setApart : xCal := []
def cutX4_setApart : Nat → Bool := fun pc => false
set_option maxRecDepth 100000 in
set_option maxHeartbeats 4000000 in
theorem vcX4_setApart_0 (Rt : xR) (K : xG) (M : xM) (v1 v2 : Int) : xw LX fldX4 calX4_setApart [] 0 Rt iX4_setApart cutX4_setApart K 400 0 [some (.inr 4), some (.inl v1), some (.inl v2)] [] M = (rg v1 ∧ (v1 < 0 → Rt 0 M) ∧ (0 ≤ v1 → rg v1 ∧ rg (6 : Int) ∧ ((6 : Int) ≤ v1 → Rt 0 M) ∧ (v1 < (6 : Int) → (0 ≤ v1 ∧ v1 < 6) ∧ (0 ≤ v1 ∧ v1 < 6) ∧ Rt 0 (xup M 6 v1 (xi (M 6 v1) ||| xi (xi (1 : Int) <<< (xi v2 &&& 31)).toInt).toInt)))) := rfl
def calX5_hop (t46 t50 t54 t58 t62 t65 : xT) : xCal := [(46, true, 1, false, t46), (50, false, 3, false, t50), (54, false, 2, false, t54), (58, false, 1, false, t58), (62, false, 2, false, t62), (65, false, 3, true, t65)]
def cutX5_hop : Nat → Bool := fun pc => false
set_option maxRecDepth 100000 in
set_option maxHeartbeats 4000000 in
theorem vcX5_hop_0 (Rt : xR) (K : xG) (t46 t50 t54 t58 t62 t65 : xT) (M : xM) (v1 : Int) : xw LX fldX5 (calX5_hop t46 t50 t54 t58 t62 t65) [] 1 Rt iX5_hop cutX5_hop K 400 0 [some (.inr 0), some (.inl v1)] [] M = (rg v1 ∧ rg (-1 : Int) ∧ (v1 = (-1 : Int) → rg v1 ∧ rg (-1 : Int) ∧ (v1 = (-1 : Int) → t54 [.inr 1, .inl (6 : Int)] M (fun r1 M1 => rg r1 ∧ rg (6 : Int) ∧ (r1 < (6 : Int) → rg v1 ∧ rg (-1 : Int) ∧ (v1 ≠ (-1 : Int) → t65 [.inr 1, .inl (6 : Int), .inl v1] M1 (fun r2 M2 => t54 [.inr 1, .inl (6 : Int)] M2 (fun r3 M3 => Rt r3 M3))) ∧ (v1 = (-1 : Int) → t58 [.inr 1] M1 (fun r4 M4 => t62 [.inr 1, .inl (6 : Int)] M4 (fun r5 M5 => rg (r4 + r5) ∧ rg (4 : Int) ∧ ((r4 + r5) < (4 : Int) → t65 [.inr 1, .inl (6 : Int), .inl v1] M5 (fun r6 M6 => t54 [.inr 1, .inl (6 : Int)] M6 (fun r7 M7 => Rt r7 M7))) ∧ ((4 : Int) ≤ (r4 + r5) → Rt (-5 : Int) M5))))) ∧ ((6 : Int) ≤ r1 → Rt (-5 : Int) M1))) ∧ (v1 ≠ (-1 : Int) → t50 [.inr 1, .inl (6 : Int), .inl v1] M (fun r8 M8 => rg r8 ∧ (r8 = 0 → t54 [.inr 1, .inl (6 : Int)] M8 (fun r9 M9 => rg r9 ∧ rg (6 : Int) ∧ (r9 < (6 : Int) → rg v1 ∧ rg (-1 : Int) ∧ (v1 ≠ (-1 : Int) → t65 [.inr 1, .inl (6 : Int), .inl v1] M9 (fun r10 M10 => t54 [.inr 1, .inl (6 : Int)] M10 (fun r11 M11 => Rt r11 M11))) ∧ (v1 = (-1 : Int) → t58 [.inr 1] M9 (fun r12 M12 => t62 [.inr 1, .inl (6 : Int)] M12 (fun r13 M13 => rg (r12 + r13) ∧ rg (4 : Int) ∧ ((r12 + r13) < (4 : Int) → t65 [.inr 1, .inl (6 : Int), .inl v1] M13 (fun r14 M14 => t54 [.inr 1, .inl (6 : Int)] M14 (fun r15 M15 => Rt r15 M15))) ∧ ((4 : Int) ≤ (r12 + r13) → Rt (-5 : Int) M13))))) ∧ ((6 : Int) ≤ r9 → Rt (-5 : Int) M9))) ∧ (r8 ≠ 0 → Rt (-3 : Int) M8)))) ∧ (v1 ≠ (-1 : Int) → t46 [.inl v1] M (fun r16 M16 => rg r16 ∧ (r16 ≠ 0 → rg v1 ∧ rg (-1 : Int) ∧ (v1 = (-1 : Int) → t54 [.inr 1, .inl (6 : Int)] M16 (fun r17 M17 => rg r17 ∧ rg (6 : Int) ∧ (r17 < (6 : Int) → rg v1 ∧ rg (-1 : Int) ∧ (v1 ≠ (-1 : Int) → t65 [.inr 1, .inl (6 : Int), .inl v1] M17 (fun r18 M18 => t54 [.inr 1, .inl (6 : Int)] M18 (fun r19 M19 => Rt r19 M19))) ∧ (v1 = (-1 : Int) → t58 [.inr 1] M17 (fun r20 M20 => t62 [.inr 1, .inl (6 : Int)] M20 (fun r21 M21 => rg (r20 + r21) ∧ rg (4 : Int) ∧ ((r20 + r21) < (4 : Int) → t65 [.inr 1, .inl (6 : Int), .inl v1] M21 (fun r22 M22 => t54 [.inr 1, .inl (6 : Int)] M22 (fun r23 M23 => Rt r23 M23))) ∧ ((4 : Int) ≤ (r20 + r21) → Rt (-5 : Int) M21))))) ∧ ((6 : Int) ≤ r17 → Rt (-5 : Int) M17))) ∧ (v1 ≠ (-1 : Int) → t50 [.inr 1, .inl (6 : Int), .inl v1] M16 (fun r24 M24 => rg r24 ∧ (r24 = 0 → t54 [.inr 1, .inl (6 : Int)] M24 (fun r25 M25 => rg r25 ∧ rg (6 : Int) ∧ (r25 < (6 : Int) → rg v1 ∧ rg (-1 : Int) ∧ (v1 ≠ (-1 : Int) → t65 [.inr 1, .inl (6 : Int), .inl v1] M25 (fun r26 M26 => t54 [.inr 1, .inl (6 : Int)] M26 (fun r27 M27 => Rt r27 M27))) ∧ (v1 = (-1 : Int) → t58 [.inr 1] M25 (fun r28 M28 => t62 [.inr 1, .inl (6 : Int)] M28 (fun r29 M29 => rg (r28 + r29) ∧ rg (4 : Int) ∧ ((r28 + r29) < (4 : Int) → t65 [.inr 1, .inl (6 : Int), .inl v1] M29 (fun r30 M30 => t54 [.inr 1, .inl (6 : Int)] M30 (fun r31 M31 => Rt r31 M31))) ∧ ((4 : Int) ≤ (r28 + r29) → Rt (-5 : Int) M29))))) ∧ ((6 : Int) ≤ r25 → Rt (-5 : Int) M25))) ∧ (r24 ≠ 0 → Rt (-3 : Int) M24)))) ∧ (r16 = 0 → Rt (-2 : Int) M16)))) := rfl
def calX5_drop (t54 t69 : xT) : xCal := [(54, false, 2, false, t54), (69, false, 2, true, t69)]
def cutX5_drop : Nat → Bool := fun pc => false
set_option maxRecDepth 100000 in
set_option maxHeartbeats 4000000 in
theorem vcX5_drop_0 (Rt : xR) (K : xG) (t54 t69 : xT) (M : xM) : xw LX fldX5 (calX5_drop t54 t69) [] 1 Rt iX5_drop cutX5_drop K 400 0 [some (.inr 0), none] [] M = (t54 [.inr 1, .inl (6 : Int)] M (fun r1 M1 => t69 [.inr 1, .inl (6 : Int)] M1 (fun r2 M2 => Rt r1 M2))) := rfl
def calX5_trace (t73 t54 t76 t80 t83 : xT) : xCal := [(73, false, 1, false, t73), (54, false, 2, false, t54), (76, false, 3, false, t76), (80, false, 1, true, t80), (83, false, 1, true, t83)]
def cutX5_trace : Nat → Bool := fun pc => false
set_option maxRecDepth 100000 in
set_option maxHeartbeats 4000000 in
theorem vcX5_trace_0 (Rt : xR) (K : xG) (t73 t54 t76 t80 t83 : xT) (M : xM) : xw LX fldX5 (calX5_trace t73 t54 t76 t80 t83) [] 1 Rt iX5_trace cutX5_trace K 400 0 [some (.inr 0), none] [] M = (t73 [.inr 1] M (fun r1 M1 => rg r1 ∧ rg (6 : Int) ∧ (r1 < (6 : Int) → t54 [.inr 1, .inl (6 : Int)] M1 (fun r2 M2 => rg r2 ∧ rg (2 : Int) ∧ (r2 < (2 : Int) → Rt (-6 : Int) M2) ∧ ((2 : Int) ≤ r2 → t76 [.inr 1, .inl (6 : Int), .inl (0 : Int)] M2 (fun r3 M3 => rg r3 ∧ rg (-1 : Int) ∧ (r3 = (-1 : Int) → Rt (-6 : Int) M3) ∧ (r3 ≠ (-1 : Int) → t76 [.inr 1, .inl (6 : Int), .inl (r2 - (1 : Int))] M3 (fun r4 M4 => rg r4 ∧ rg (-1 : Int) ∧ (r4 ≠ (-1 : Int) → t80 [.inr 1] M4 (fun r5 M5 => t83 [.inr 0] M5 (fun r6 M6 => t73 [.inr 1] M6 (fun r7 M7 => Rt (r7 - (1 : Int)) M7)))) ∧ (r4 = (-1 : Int) → Rt (-6 : Int) M4))))))) ∧ ((6 : Int) ≤ r1 → Rt (-5 : Int) M1))) := rfl
def calX5_forget (t86 t89 t83 t73 : xT) : xCal := [(86, false, 2, false, t86), (89, false, 2, true, t89), (83, false, 1, true, t83), (73, false, 1, false, t73)]
def cutX5_forget : Nat → Bool := fun pc => false
set_option maxRecDepth 100000 in
set_option maxHeartbeats 4000000 in
theorem vcX5_forget_0 (Rt : xR) (K : xG) (t86 t89 t83 t73 : xT) (M : xM) (v1 : Int) : xw LX fldX5 (calX5_forget t86 t89 t83 t73) [] 1 Rt iX5_forget cutX5_forget K 400 0 [some (.inr 0), some (.inl v1)] [] M = (t86 [.inr 0, .inl v1] M (fun r1 M1 => rg r1 ∧ (r1 ≠ 0 → t89 [.inr 1, .inl v1] M1 (fun r2 M2 => t83 [.inr 0] M2 (fun r3 M3 => t73 [.inr 1] M3 (fun r4 M4 => Rt r4 M4)))) ∧ (r1 = 0 → Rt (-2 : Int) M1))) := rfl
def calX5_tell (t46 t92 t95 t98 t101 t83 : xT) : xCal := [(46, true, 1, false, t46), (92, false, 3, false, t92), (95, false, 3, false, t95), (98, false, 3, false, t98), (101, false, 4, true, t101), (83, false, 1, true, t83)]
def cutX5_tell : Nat → Bool := fun pc => false
set_option maxRecDepth 100000 in
set_option maxHeartbeats 4000000 in
theorem vcX5_tell_0 (Rt : xR) (K : xG) (t46 t92 t95 t98 t101 t83 : xT) (M : xM) (v1 v2 v3 : Int) : xw LX fldX5 (calX5_tell t46 t92 t95 t98 t101 t83) [] 1 Rt iX5_tell cutX5_tell K 400 0 [some (.inr 0), some (.inl v1), some (.inl v2), some (.inl v3), none, none] [] M = (t46 [.inl v1] M (fun r1 M1 => rg r1 ∧ (r1 = 0 → Rt (-2 : Int) M1) ∧ (r1 ≠ 0 → t46 [.inl v2] M1 (fun r2 M2 => rg r2 ∧ (r2 = 0 → Rt (-2 : Int) M2) ∧ (r2 ≠ 0 → rg v1 ∧ rg v2 ∧ (v1 ≠ v2 → rg v3 ∧ (v3 = 0 → t95 [.inr 4, .inl v1, .inl v2] M2 (fun r3 M3 => rg r3 ∧ (r3 = 0 → rg v3 ∧ (v3 = 0 → t92 [.inr 4, .inl v1, .inl v2] M3 (fun r4 M4 => rg r4 ∧ (r4 = 0 → t101 [.inr 4, .inl v1, .inl v2, .inl v3] M4 (fun r5 M5 => t83 [.inr 0] M5 (fun r6 M6 => Rt (1 : Int) M6))) ∧ (r4 ≠ 0 → Rt (-4 : Int) M4))) ∧ (v3 ≠ 0 → t98 [.inr 4, .inl v1, .inl v2] M3 (fun r7 M7 => rg r7 ∧ (r7 = 0 → t101 [.inr 4, .inl v1, .inl v2, .inl v3] M7 (fun r8 M8 => t83 [.inr 0] M8 (fun r9 M9 => Rt (1 : Int) M9))) ∧ (r7 ≠ 0 → Rt (-4 : Int) M7)))) ∧ (r3 ≠ 0 → Rt (-3 : Int) M3))) ∧ (v3 ≠ 0 → t92 [.inr 4, .inl v1, .inl v2] M2 (fun r10 M10 => rg r10 ∧ (r10 = 0 → rg v3 ∧ (v3 = 0 → t92 [.inr 4, .inl v1, .inl v2] M10 (fun r11 M11 => rg r11 ∧ (r11 = 0 → t101 [.inr 4, .inl v1, .inl v2, .inl v3] M11 (fun r12 M12 => t83 [.inr 0] M12 (fun r13 M13 => Rt (1 : Int) M13))) ∧ (r11 ≠ 0 → Rt (-4 : Int) M11))) ∧ (v3 ≠ 0 → t98 [.inr 4, .inl v1, .inl v2] M10 (fun r14 M14 => rg r14 ∧ (r14 = 0 → t101 [.inr 4, .inl v1, .inl v2, .inl v3] M14 (fun r15 M15 => t83 [.inr 0] M15 (fun r16 M16 => Rt (1 : Int) M16))) ∧ (r14 ≠ 0 → Rt (-4 : Int) M14)))) ∧ (r10 ≠ 0 → Rt (-3 : Int) M10)))) ∧ (v1 = v2 → Rt (-2 : Int) M2)))))) := rfl
def calX5_untell (t105 t108 t83 : xT) : xCal := [(105, false, 1, false, t105), (108, false, 1, true, t108), (83, false, 1, true, t83)]
def cutX5_untell : Nat → Bool := fun pc => false
set_option maxRecDepth 100000 in
set_option maxHeartbeats 4000000 in
theorem vcX5_untell_0 (Rt : xR) (K : xG) (t105 t108 t83 : xT) (M : xM) : xw LX fldX5 (calX5_untell t105 t108 t83) [] 1 Rt iX5_untell cutX5_untell K 400 0 [some (.inr 0), none] [] M = (t105 [.inr 4] M (fun r1 M1 => t108 [.inr 4] M1 (fun r2 M2 => t83 [.inr 0] M2 (fun r3 M3 => Rt r1 M3)))) := rfl
def calX5_at (t86 t54 t76 : xT) : xCal := [(86, false, 2, false, t86), (54, false, 2, false, t54), (76, false, 3, false, t76)]
def cutX5_at : Nat → Bool := fun pc => false
set_option maxRecDepth 100000 in
set_option maxHeartbeats 4000000 in
theorem vcX5_at_0 (Rt : xR) (K : xG) (t86 t54 t76 : xT) (M : xM) (v1 v2 : Int) : xw LX fldX5 (calX5_at t86 t54 t76) [] 1 Rt iX5_at cutX5_at K 400 0 [some (.inr 0), some (.inl v1), some (.inl v2)] [] M = (t86 [.inr 0, .inl v1] M (fun r1 M1 => rg r1 ∧ (r1 = 0 → Rt (-2 : Int) M1) ∧ (r1 ≠ 0 → rg v2 ∧ (v2 < 0 → Rt (-2 : Int) M1) ∧ (0 ≤ v2 → t54 [.inr 1, .inl v1] M1 (fun r2 M2 => rg v2 ∧ rg r2 ∧ (v2 < r2 → t76 [.inr 1, .inl v1, .inl v2] M2 (fun r3 M3 => Rt r3 M3)) ∧ (r2 ≤ v2 → Rt (-2 : Int) M2)))))) := rfl
def calX5_nets (t111 : xT) : xCal := [(111, false, 1, false, t111)]
def cutX5_nets : Nat → Bool := fun pc => false
set_option maxRecDepth 100000 in
set_option maxHeartbeats 4000000 in
theorem vcX5_nets_0 (Rt : xR) (K : xG) (t111 : xT) (M : xM) : xw LX fldX5 (calX5_nets t111) [] 1 Rt iX5_nets cutX5_nets K 400 0 [some (.inr 0)] [] M = (t111 [.inr 10] M (fun r1 M1 => Rt r1 M1)) := rfl
def calX5_shape (t111 t114 t117 t120 : xT) : xCal := [(111, false, 1, false, t111), (114, false, 1, false, t114), (117, false, 1, false, t117), (120, false, 1, false, t120)]
def cutX5_shape : Nat → Bool := fun pc => false
set_option maxRecDepth 100000 in
set_option maxHeartbeats 4000000 in
theorem vcX5_shape_0 (Rt : xR) (K : xG) (t111 t114 t117 t120 : xT) (M : xM) (v1 : Int) : xw LX fldX5 (calX5_shape t111 t114 t117 t120) [] 1 Rt iX5_shape cutX5_shape K 400 0 [some (.inr 0), some (.inl v1)] [] M = (rg v1 ∧ (v1 = 0 → t111 [.inr 10] M (fun r1 M1 => rg r1 ∧ (r1 ≠ 0 → rg v1 ∧ (v1 ≠ 0 → t120 [.inr 10] M1 (fun r2 M2 => Rt r2 M2)) ∧ (v1 = 0 → t114 [.inr 0] M1 (fun r3 M3 => t117 [.inr 10] M3 (fun r4 M4 => Rt (r3 + r4) M4)))) ∧ (r1 = 0 → Rt (-6 : Int) M1))) ∧ (v1 ≠ 0 → rg v1 ∧ rg (1 : Int) ∧ (v1 = (1 : Int) → t111 [.inr 10] M (fun r5 M5 => rg r5 ∧ (r5 ≠ 0 → rg v1 ∧ (v1 ≠ 0 → t120 [.inr 10] M5 (fun r6 M6 => Rt r6 M6)) ∧ (v1 = 0 → t114 [.inr 0] M5 (fun r7 M7 => t117 [.inr 10] M7 (fun r8 M8 => Rt (r7 + r8) M8)))) ∧ (r5 = 0 → Rt (-6 : Int) M5))) ∧ (v1 ≠ (1 : Int) → Rt (-2 : Int) M))) := rfl
def calX5_boxOf (t111 t123 t58 t126 t129 : xT) : xCal := [(111, false, 1, false, t111), (123, false, 2, false, t123), (58, false, 1, false, t58), (126, false, 2, false, t126), (129, true, 2, false, t129)]
def cutX5_boxOf : Nat → Bool := fun pc => false
set_option maxRecDepth 100000 in
set_option maxHeartbeats 4000000 in
theorem vcX5_boxOf_0 (Rt : xR) (K : xG) (t111 t123 t58 t126 t129 : xT) (M : xM) (v1 v2 : Int) : xw LX fldX5 (calX5_boxOf t111 t123 t58 t126 t129) [] 1 Rt iX5_boxOf cutX5_boxOf K 400 0 [some (.inr 0), some (.inl v1), some (.inl v2), none] [] M = (t111 [.inr 10] M (fun r1 M1 => rg r1 ∧ (r1 ≠ 0 → t123 [.inr 0, .inl v1] M1 (fun r2 M2 => rg r2 ∧ (r2 = 0 → Rt (-2 : Int) M2) ∧ (r2 ≠ 0 → rg v2 ∧ (v2 < 0 → Rt (-2 : Int) M2) ∧ (0 ≤ v2 → t58 [.inr 1] M2 (fun r3 M3 => rg v2 ∧ rg r3 ∧ (v2 < r3 → t126 [.inr 10, .inl v1] M3 (fun r4 M4 => t129 [.inl r4, .inl v2] M4 (fun r5 M5 => rg r5 ∧ rg (6 : Int) ∧ ((6 : Int) ≤ r5 → Rt (((10 : Int) + r5) - (6 : Int)) M5) ∧ (r5 < (6 : Int) → Rt r5 M5)))) ∧ (r3 ≤ v2 → Rt (-2 : Int) M3)))))) ∧ (r1 = 0 → Rt (-6 : Int) M1))) := rfl
def calX5_far (t111 t123 t132 t126 t135 t138 : xT) : xCal := [(111, false, 1, false, t111), (123, false, 2, false, t123), (132, false, 2, false, t132), (126, false, 2, false, t126), (135, false, 2, false, t135), (138, false, 4, false, t138)]
def cutX5_far : Nat → Bool := fun pc => false
set_option maxRecDepth 100000 in
set_option maxHeartbeats 4000000 in
theorem vcX5_far_0 (Rt : xR) (K : xG) (t111 t123 t132 t126 t135 t138 : xT) (M : xM) (v1 v2 v3 : Int) : xw LX fldX5 (calX5_far t111 t123 t132 t126 t135 t138) [] 1 Rt iX5_far cutX5_far K 400 0 [some (.inr 0), some (.inl v1), some (.inl v2), some (.inl v3)] [] M = (t111 [.inr 10] M (fun r1 M1 => rg r1 ∧ (r1 ≠ 0 → t123 [.inr 0, .inl v1] M1 (fun r2 M2 => rg r2 ∧ (r2 = 0 → Rt (-2 : Int) M2) ∧ (r2 ≠ 0 → t132 [.inr 0, .inl v2] M2 (fun r3 M3 => rg r3 ∧ (r3 = 0 → Rt (-2 : Int) M3) ∧ (r3 ≠ 0 → t132 [.inr 0, .inl v3] M3 (fun r4 M4 => rg r4 ∧ (r4 ≠ 0 → t126 [.inr 10, .inl v1] M4 (fun r5 M5 => t135 [.inr 4, .inl v2] M5 (fun r6 M6 => t135 [.inr 4, .inl v3] M6 (fun r7 M7 => t138 [.inr 12, .inl r5, .inl r6, .inl r7] M7 (fun r8 M8 => Rt r8 M8))))) ∧ (r4 = 0 → Rt (-2 : Int) M4))))))) ∧ (r1 = 0 → Rt (-6 : Int) M1))) := rfl
def calX5_sure (t111 t132 t142 t135 t145 : xT) : xCal := [(111, false, 1, false, t111), (132, false, 2, false, t132), (142, false, 1, true, t142), (135, false, 2, false, t135), (145, false, 3, false, t145)]
def cutX5_sure : Nat → Bool := fun pc => false
set_option maxRecDepth 100000 in
set_option maxHeartbeats 4000000 in
theorem vcX5_sure_0 (Rt : xR) (K : xG) (t111 t132 t142 t135 t145 : xT) (M : xM) (v1 v2 : Int) : xw LX fldX5 (calX5_sure t111 t132 t142 t135 t145) [] 1 Rt iX5_sure cutX5_sure K 400 0 [some (.inr 0), some (.inl v1), some (.inl v2)] [] M = (t111 [.inr 10] M (fun r1 M1 => rg r1 ∧ (r1 ≠ 0 → t132 [.inr 0, .inl v1] M1 (fun r2 M2 => rg r2 ∧ (r2 = 0 → Rt (-2 : Int) M2) ∧ (r2 ≠ 0 → t132 [.inr 0, .inl v2] M2 (fun r3 M3 => rg r3 ∧ (r3 ≠ 0 → t142 [.inr 12] M3 (fun r4 M4 => t135 [.inr 4, .inl v1] M4 (fun r5 M5 => t135 [.inr 4, .inl v2] M5 (fun r6 M6 => t145 [.inr 12, .inl r5, .inl r6] M6 (fun r7 M7 => Rt r7 M7))))) ∧ (r3 = 0 → Rt (-2 : Int) M3))))) ∧ (r1 = 0 → Rt (-6 : Int) M1))) := rfl
def calX5_falses (t111 t148 t151 t156 : xT) : xCal := [(111, false, 1, false, t111), (148, false, 1, false, t148), (151, true, 1, false, t151), (156, false, 2, false, t156)]
def cutX5_falses : Nat → Bool := fun pc => Nat.beq pc 22 || Nat.beq pc 30
set_option maxRecDepth 100000 in
set_option maxHeartbeats 4000000 in
theorem vcX5_falses_0 (Rt : xR) (K : xG) (t111 t148 t151 t156 : xT) (M : xM) : xw LX fldX5 (calX5_falses t111 t148 t151 t156) [] 1 Rt iX5_falses cutX5_falses K 400 0 [some (.inr 0), none, none, none] [] M = (t111 [.inr 10] M (fun r1 M1 => rg r1 ∧ (r1 ≤ 0 → t148 [.inr 1] M1 (fun r2 M2 => K 22 [some (.inr 0), some (.inl r2), some (.inl (1 : Int)), none] [] M2)) ∧ (0 < r1 → Rt (0 : Int) M1))) := rfl
set_option maxRecDepth 100000 in
set_option maxHeartbeats 4000000 in
theorem vcX5_falses_22 (Rt : xR) (K : xG) (t111 t148 t151 t156 : xT) (M : xM) (v1 v2 : Int) (o3 : Option xV) : xw LX fldX5 (calX5_falses t111 t148 t151 t156) [] 1 Rt iX5_falses cutX5_falses K 400 22 [some (.inr 0), some (.inl v1), some (.inl v2), o3] [] M = (rg v2 ∧ rg (6 : Int) ∧ ((6 : Int) < v2 → Rt v1 M) ∧ (v2 ≤ (6 : Int) → K 30 [some (.inr 0), some (.inl v1), some (.inl v2), some (.inl (1 : Int))] [] M)) := rfl
set_option maxRecDepth 100000 in
set_option maxHeartbeats 4000000 in
theorem vcX5_falses_30 (Rt : xR) (K : xG) (t111 t148 t151 t156 : xT) (M : xM) (v1 v2 v3 : Int) : xw LX fldX5 (calX5_falses t111 t148 t151 t156) [] 1 Rt iX5_falses cutX5_falses K 400 30 [some (.inr 0), some (.inl v1), some (.inl v2), some (.inl v3)] [] M = (rg v3 ∧ rg v1 ∧ (v1 < v3 → K 22 [some (.inr 0), some (.inl v1), some (.inl (v2 + (1 : Int))), some (.inl v3)] [] M) ∧ (v3 ≤ v1 → t151 [.inl v3] M (fun r1 M1 => rg r1 ∧ rg v2 ∧ (r1 ≠ v2 → K 30 [some (.inr 0), some (.inl v1), some (.inl v2), some (.inl (v3 + (1 : Int)))] [] M1) ∧ (r1 = v2 → t156 [.inr 10, .inl (xi v1 &&& xi (xi v3 ^^^ xi (-1 : Int)).toInt).toInt] M1 (fun r2 M2 => rg r2 ∧ (r2 = 0 → K 30 [some (.inr 0), some (.inl v1), some (.inl v2), some (.inl (v3 + (1 : Int)))] [] M2) ∧ (r2 ≠ 0 → Rt v3 M2)))))) := rfl
def calX5_next (t111 t142 t159 : xT) : xCal := [(111, false, 1, false, t111), (142, false, 1, true, t142), (159, false, 1, false, t159)]
def cutX5_next : Nat → Bool := fun pc => false
set_option maxRecDepth 100000 in
set_option maxHeartbeats 4000000 in
theorem vcX5_next_0 (Rt : xR) (K : xG) (t111 t142 t159 : xT) (M : xM) : xw LX fldX5 (calX5_next t111 t142 t159) [] 1 Rt iX5_next cutX5_next K 400 0 [some (.inr 0)] [] M = (t111 [.inr 10] M (fun r1 M1 => rg r1 ∧ (r1 ≠ 0 → t142 [.inr 12] M1 (fun r2 M2 => t159 [.inr 12] M2 (fun r3 M3 => Rt r3 M3))) ∧ (r1 = 0 → Rt (-6 : Int) M1))) := rfl
def calX5_worst (t111 t142 t162 : xT) : xCal := [(111, false, 1, false, t111), (142, false, 1, true, t142), (162, false, 1, false, t162)]
def cutX5_worst : Nat → Bool := fun pc => false
set_option maxRecDepth 100000 in
set_option maxHeartbeats 4000000 in
theorem vcX5_worst_0 (Rt : xR) (K : xG) (t111 t142 t162 : xT) (M : xM) : xw LX fldX5 (calX5_worst t111 t142 t162) [] 1 Rt iX5_worst cutX5_worst K 400 0 [some (.inr 0)] [] M = (t111 [.inr 10] M (fun r1 M1 => rg r1 ∧ (r1 ≠ 0 → t142 [.inr 12] M1 (fun r2 M2 => t162 [.inr 12] M2 (fun r3 M3 => Rt r3 M3))) ∧ (r1 = 0 → Rt (-6 : Int) M1))) := rfl
def calX5_count (t73 t58 t165 t151 t54 t114 : xT) : xCal := [(73, false, 1, false, t73), (58, false, 1, false, t58), (165, false, 1, false, t165), (151, true, 1, false, t151), (54, false, 2, false, t54), (114, false, 1, false, t114)]
def cutX5_count : Nat → Bool := fun pc => false
set_option maxRecDepth 100000 in
set_option maxHeartbeats 4000000 in
theorem vcX5_count_0 (Rt : xR) (K : xG) (t73 t58 t165 t151 t54 t114 : xT) (M : xM) (v1 : Int) : xw LX fldX5 (calX5_count t73 t58 t165 t151 t54 t114) [] 1 Rt iX5_count cutX5_count K 400 0 [some (.inr 0), some (.inl v1)] [] M = (rg v1 ∧ (v1 < (0 : Int) → Rt (-2 : Int) M) ∧ ((4 : Int) < v1 → Rt (-2 : Int) M) ∧ (v1 = (0 : Int) → t73 [.inr 1] M (fun r1 M1 => Rt r1 M1)) ∧ (v1 = (0 : Int) + 1 → t58 [.inr 1] M (fun r2 M2 => Rt r2 M2)) ∧ (v1 = (0 : Int) + 1 + 1 → t165 [.inr 1] M (fun r3 M3 => t151 [.inl r3] M3 (fun r4 M4 => Rt r4 M4))) ∧ (v1 = (0 : Int) + 1 + 1 + 1 → t54 [.inr 1, .inl (6 : Int)] M (fun r5 M5 => Rt r5 M5)) ∧ (v1 = (0 : Int) + 1 + 1 + 1 + 1 → t114 [.inr 0] M (fun r6 M6 => Rt r6 M6)) ∧ True) := rfl
def calX5_forgetAnswers (t168 t171 : xT) : xCal := [(168, false, 1, true, t168), (171, false, 1, true, t171)]
def cutX5_forgetAnswers : Nat → Bool := fun pc => false
set_option maxRecDepth 100000 in
set_option maxHeartbeats 4000000 in
theorem vcX5_forgetAnswers_0 (Rt : xR) (K : xG) (t168 t171 : xT) (M : xM) : xw LX fldX5 (calX5_forgetAnswers t168 t171) [] 0 Rt iX5_forgetAnswers cutX5_forgetAnswers K 400 0 [some (.inr 0)] [] M = (t168 [.inr 10] M (fun r1 M1 => t171 [.inr 12] M1 (fun r2 M2 => Rt 0 M2))) := rfl
def calX5_isTrace (t73 : xT) : xCal := [(73, false, 1, false, t73)]
def cutX5_isTrace : Nat → Bool := fun pc => false
set_option maxRecDepth 100000 in
set_option maxHeartbeats 4000000 in
theorem vcX5_isTrace_0 (Rt : xR) (K : xG) (t73 : xT) (M : xM) (v1 : Int) : xw LX fldX5 (calX5_isTrace t73) [] 2 Rt iX5_isTrace cutX5_isTrace K 400 0 [some (.inr 0), some (.inl v1)] [] M = (rg v1 ∧ (v1 < 0 → ((0 : Int) = 0 ∨ (0 : Int) = 1) ∧ Rt (0 : Int) M) ∧ (0 ≤ v1 → t73 [.inr 1] M (fun r1 M1 => rg v1 ∧ rg r1 ∧ (r1 ≤ v1 → ((0 : Int) = 0 ∨ (0 : Int) = 1) ∧ Rt (0 : Int) M1) ∧ (v1 < r1 → ((1 : Int) = 0 ∨ (1 : Int) = 1) ∧ Rt (1 : Int) M1)))) := rfl
def calX5_isNet (t111 : xT) : xCal := [(111, false, 1, false, t111)]
def cutX5_isNet : Nat → Bool := fun pc => false
set_option maxRecDepth 100000 in
set_option maxHeartbeats 4000000 in
theorem vcX5_isNet_0 (Rt : xR) (K : xG) (t111 : xT) (M : xM) (v1 : Int) : xw LX fldX5 (calX5_isNet t111) [] 2 Rt iX5_isNet cutX5_isNet K 400 0 [some (.inr 0), some (.inl v1)] [] M = (rg v1 ∧ (v1 < 0 → ((0 : Int) = 0 ∨ (0 : Int) = 1) ∧ Rt (0 : Int) M) ∧ (0 ≤ v1 → t111 [.inr 10] M (fun r1 M1 => rg v1 ∧ rg r1 ∧ (r1 ≤ v1 → ((0 : Int) = 0 ∨ (0 : Int) = 1) ∧ Rt (0 : Int) M1) ∧ (v1 < r1 → ((1 : Int) = 0 ∨ (1 : Int) = 1) ∧ Rt (1 : Int) M1)))) := rfl
def calX5_isTraced (t46 t165 t174 : xT) : xCal := [(46, true, 1, false, t46), (165, false, 1, false, t165), (174, true, 2, false, t174)]
def cutX5_isTraced : Nat → Bool := fun pc => false
set_option maxRecDepth 100000 in
set_option maxHeartbeats 4000000 in
theorem vcX5_isTraced_0 (Rt : xR) (K : xG) (t46 t165 t174 : xT) (M : xM) (v1 : Int) : xw LX fldX5 (calX5_isTraced t46 t165 t174) [] 2 Rt iX5_isTraced cutX5_isTraced K 400 0 [some (.inr 0), some (.inl v1)] [] M = (t46 [.inl v1] M (fun r1 M1 => rg r1 ∧ (r1 = 0 → ((0 : Int) = 0 ∨ (0 : Int) = 1) ∧ Rt (0 : Int) M1) ∧ (r1 ≠ 0 → t165 [.inr 1] M1 (fun r2 M2 => t174 [.inl r2, .inl v1] M2 (fun r3 M3 => rg r3 ∧ (r3 = 0 → ((0 : Int) = 0 ∨ (0 : Int) = 1) ∧ Rt (0 : Int) M3) ∧ (r3 ≠ 0 → ((1 : Int) = 0 ∨ (1 : Int) = 1) ∧ Rt (1 : Int) M3)))))) := rfl
def calX5_boxesOfNames (t165 t177 t151 : xT) : xCal := [(165, false, 1, false, t165), (177, false, 2, false, t177), (151, true, 1, false, t151)]
def cutX5_boxesOfNames : Nat → Bool := fun pc => false
set_option maxRecDepth 100000 in
set_option maxHeartbeats 4000000 in
theorem vcX5_boxesOfNames_0 (Rt : xR) (K : xG) (t165 t177 t151 : xT) (M : xM) : xw LX fldX5 (calX5_boxesOfNames t165 t177 t151) [] 1 Rt iX5_boxesOfNames cutX5_boxesOfNames K 400 0 [some (.inr 0)] [] M = (t165 [.inr 1] M (fun r1 M1 => t177 [.inr 4, .inl r1] M1 (fun r2 M2 => t151 [.inl r2] M2 (fun r3 M3 => Rt r3 M3)))) := rfl
def calX5_isName : xCal := []
def cutX5_isName : Nat → Bool := fun pc => false
set_option maxRecDepth 100000 in
set_option maxHeartbeats 4000000 in
theorem vcX5_isName_0 (Rt : xR) (K : xG) (M : xM) (v0 : Int) : xw LX fldX5 calX5_isName [] 2 Rt iX5_isName cutX5_isName K 400 0 [some (.inl v0)] [] M = (rg v0 ∧ (v0 < 0 → ((0 : Int) = 0 ∨ (0 : Int) = 1) ∧ Rt (0 : Int) M) ∧ (0 ≤ v0 → rg v0 ∧ rg (6 : Int) ∧ ((6 : Int) ≤ v0 → ((0 : Int) = 0 ∨ (0 : Int) = 1) ∧ Rt (0 : Int) M) ∧ (v0 < (6 : Int) → ((1 : Int) = 0 ∨ (1 : Int) = 1) ∧ Rt (1 : Int) M))) := rfl
def calX5_isBox : xCal := []
def cutX5_isBox : Nat → Bool := fun pc => false
set_option maxRecDepth 100000 in
set_option maxHeartbeats 4000000 in
theorem vcX5_isBox_0 (Rt : xR) (K : xG) (M : xM) (v0 : Int) : xw LX fldX5 calX5_isBox [] 2 Rt iX5_isBox cutX5_isBox K 400 0 [some (.inl v0)] [] M = (rg v0 ∧ (v0 < 0 → ((0 : Int) = 0 ∨ (0 : Int) = 1) ∧ Rt (0 : Int) M) ∧ (0 ≤ v0 → rg v0 ∧ rg (10 : Int) ∧ ((10 : Int) ≤ v0 → ((0 : Int) = 0 ∨ (0 : Int) = 1) ∧ Rt (0 : Int) M) ∧ (v0 < (10 : Int) → ((1 : Int) = 0 ∨ (1 : Int) = 1) ∧ Rt (1 : Int) M))) := rfl
def calX5_hasBit : xCal := []
def cutX5_hasBit : Nat → Bool := fun pc => false
set_option maxRecDepth 100000 in
set_option maxHeartbeats 4000000 in
theorem vcX5_hasBit_0 (Rt : xR) (K : xG) (M : xM) (v0 v1 : Int) : xw LX fldX5 calX5_hasBit [] 2 Rt iX5_hasBit cutX5_hasBit K 400 0 [some (.inl v0), some (.inl v1)] [] M = (rg (xi (xi v0 >>> (xi v1 &&& 31)).toInt &&& xi (1 : Int)).toInt ∧ rg (1 : Int) ∧ ((xi (xi v0 >>> (xi v1 &&& 31)).toInt &&& xi (1 : Int)).toInt ≠ (1 : Int) → ((0 : Int) = 0 ∨ (0 : Int) = 1) ∧ Rt (0 : Int) M) ∧ ((xi (xi v0 >>> (xi v1 &&& 31)).toInt &&& xi (1 : Int)).toInt = (1 : Int) → ((1 : Int) = 0 ∨ (1 : Int) = 1) ∧ Rt (1 : Int) M)) := rfl
def calX5_boxIn : xCal := []
def cutX5_boxIn : Nat → Bool := fun pc => false
set_option maxRecDepth 100000 in
set_option maxHeartbeats 4000000 in
theorem vcX5_boxIn_0 (Rt : xR) (K : xG) (M : xM) (v0 v1 : Int) : xw LX fldX5 calX5_boxIn [] 1 Rt iX5_boxIn cutX5_boxIn K 400 0 [some (.inl v0), some (.inl v1)] [] M = (Rt (xi (xi v0 >>> (xi (v1 * (4 : Int)) &&& 31)).toInt &&& xi (15 : Int)).toInt M) := rfl
def calJ6_bitCount_0f7a4 : xCal := []
def cutJ6_bitCount_0f7a4 : Nat → Bool := fun pc => false
set_option maxRecDepth 100000 in
set_option maxHeartbeats 4000000 in
theorem vcJ6_bitCount_0f7a4_0 (Rt : xR) (K : xG) (M : xM) (v0 : Int) : xw LX [] calJ6_bitCount_0f7a4 [(265, 1431655765), (266, 858993459), (267, 252645135)] 1 Rt iJ6_bitCount_0f7a4 cutJ6_bitCount_0f7a4 K 400 0 [some (.inl v0)] [] M = (Rt (xi (((xi (((xi (v0 - (xi (((xi v0).toUInt32 >>> ((xi (1 : Int)).toUInt32 &&& Int32.toUInt32 31)).toInt32).toInt &&& xi (1431655765 : Int)).toInt) &&& xi (858993459 : Int)).toInt + (xi (((xi (v0 - (xi (((xi v0).toUInt32 >>> ((xi (1 : Int)).toUInt32 &&& Int32.toUInt32 31)).toInt32).toInt &&& xi (1431655765 : Int)).toInt)).toUInt32 >>> ((xi (2 : Int)).toUInt32 &&& Int32.toUInt32 31)).toInt32).toInt &&& xi (858993459 : Int)).toInt) + (((xi ((xi (v0 - (xi (((xi v0).toUInt32 >>> ((xi (1 : Int)).toUInt32 &&& Int32.toUInt32 31)).toInt32).toInt &&& xi (1431655765 : Int)).toInt) &&& xi (858993459 : Int)).toInt + (xi (((xi (v0 - (xi (((xi v0).toUInt32 >>> ((xi (1 : Int)).toUInt32 &&& Int32.toUInt32 31)).toInt32).toInt &&& xi (1431655765 : Int)).toInt)).toUInt32 >>> ((xi (2 : Int)).toUInt32 &&& Int32.toUInt32 31)).toInt32).toInt &&& xi (858993459 : Int)).toInt)).toUInt32 >>> ((xi (4 : Int)).toUInt32 &&& Int32.toUInt32 31)).toInt32).toInt) &&& xi (252645135 : Int)).toInt + (((xi (xi (((xi (v0 - (xi (((xi v0).toUInt32 >>> ((xi (1 : Int)).toUInt32 &&& Int32.toUInt32 31)).toInt32).toInt &&& xi (1431655765 : Int)).toInt) &&& xi (858993459 : Int)).toInt + (xi (((xi (v0 - (xi (((xi v0).toUInt32 >>> ((xi (1 : Int)).toUInt32 &&& Int32.toUInt32 31)).toInt32).toInt &&& xi (1431655765 : Int)).toInt)).toUInt32 >>> ((xi (2 : Int)).toUInt32 &&& Int32.toUInt32 31)).toInt32).toInt &&& xi (858993459 : Int)).toInt) + (((xi ((xi (v0 - (xi (((xi v0).toUInt32 >>> ((xi (1 : Int)).toUInt32 &&& Int32.toUInt32 31)).toInt32).toInt &&& xi (1431655765 : Int)).toInt) &&& xi (858993459 : Int)).toInt + (xi (((xi (v0 - (xi (((xi v0).toUInt32 >>> ((xi (1 : Int)).toUInt32 &&& Int32.toUInt32 31)).toInt32).toInt &&& xi (1431655765 : Int)).toInt)).toUInt32 >>> ((xi (2 : Int)).toUInt32 &&& Int32.toUInt32 31)).toInt32).toInt &&& xi (858993459 : Int)).toInt)).toUInt32 >>> ((xi (4 : Int)).toUInt32 &&& Int32.toUInt32 31)).toInt32).toInt) &&& xi (252645135 : Int)).toInt).toUInt32 >>> ((xi (8 : Int)).toUInt32 &&& Int32.toUInt32 31)).toInt32).toInt) + (((xi ((xi (((xi (v0 - (xi (((xi v0).toUInt32 >>> ((xi (1 : Int)).toUInt32 &&& Int32.toUInt32 31)).toInt32).toInt &&& xi (1431655765 : Int)).toInt) &&& xi (858993459 : Int)).toInt + (xi (((xi (v0 - (xi (((xi v0).toUInt32 >>> ((xi (1 : Int)).toUInt32 &&& Int32.toUInt32 31)).toInt32).toInt &&& xi (1431655765 : Int)).toInt)).toUInt32 >>> ((xi (2 : Int)).toUInt32 &&& Int32.toUInt32 31)).toInt32).toInt &&& xi (858993459 : Int)).toInt) + (((xi ((xi (v0 - (xi (((xi v0).toUInt32 >>> ((xi (1 : Int)).toUInt32 &&& Int32.toUInt32 31)).toInt32).toInt &&& xi (1431655765 : Int)).toInt) &&& xi (858993459 : Int)).toInt + (xi (((xi (v0 - (xi (((xi v0).toUInt32 >>> ((xi (1 : Int)).toUInt32 &&& Int32.toUInt32 31)).toInt32).toInt &&& xi (1431655765 : Int)).toInt)).toUInt32 >>> ((xi (2 : Int)).toUInt32 &&& Int32.toUInt32 31)).toInt32).toInt &&& xi (858993459 : Int)).toInt)).toUInt32 >>> ((xi (4 : Int)).toUInt32 &&& Int32.toUInt32 31)).toInt32).toInt) &&& xi (252645135 : Int)).toInt + (((xi (xi (((xi (v0 - (xi (((xi v0).toUInt32 >>> ((xi (1 : Int)).toUInt32 &&& Int32.toUInt32 31)).toInt32).toInt &&& xi (1431655765 : Int)).toInt) &&& xi (858993459 : Int)).toInt + (xi (((xi (v0 - (xi (((xi v0).toUInt32 >>> ((xi (1 : Int)).toUInt32 &&& Int32.toUInt32 31)).toInt32).toInt &&& xi (1431655765 : Int)).toInt)).toUInt32 >>> ((xi (2 : Int)).toUInt32 &&& Int32.toUInt32 31)).toInt32).toInt &&& xi (858993459 : Int)).toInt) + (((xi ((xi (v0 - (xi (((xi v0).toUInt32 >>> ((xi (1 : Int)).toUInt32 &&& Int32.toUInt32 31)).toInt32).toInt &&& xi (1431655765 : Int)).toInt) &&& xi (858993459 : Int)).toInt + (xi (((xi (v0 - (xi (((xi v0).toUInt32 >>> ((xi (1 : Int)).toUInt32 &&& Int32.toUInt32 31)).toInt32).toInt &&& xi (1431655765 : Int)).toInt)).toUInt32 >>> ((xi (2 : Int)).toUInt32 &&& Int32.toUInt32 31)).toInt32).toInt &&& xi (858993459 : Int)).toInt)).toUInt32 >>> ((xi (4 : Int)).toUInt32 &&& Int32.toUInt32 31)).toInt32).toInt) &&& xi (252645135 : Int)).toInt).toUInt32 >>> ((xi (8 : Int)).toUInt32 &&& Int32.toUInt32 31)).toInt32).toInt)).toUInt32 >>> ((xi (16 : Int)).toUInt32 &&& Int32.toUInt32 31)).toInt32).toInt) &&& xi (63 : Int)).toInt M) := rfl
def calJ9_max_7cf53 : xCal := []
def cutJ9_max_7cf53 : Nat → Bool := fun pc => false
set_option maxRecDepth 100000 in
set_option maxHeartbeats 4000000 in
theorem vcJ9_max_7cf53_0 (Rt : xR) (K : xG) (M : xM) (v0 v1 : Int) : xw LX [] calJ9_max_7cf53 [] 1 Rt iJ9_max_7cf53 cutJ9_max_7cf53 K 400 0 [some (.inl v0), some (.inl v1)] [] M = (rg v0 ∧ rg v1 ∧ (v0 < v1 → Rt v1 M) ∧ (v1 ≤ v0 → Rt v0 M)) := rfl
def calJ9_min_7cf53 : xCal := []
def cutJ9_min_7cf53 : Nat → Bool := fun pc => false
set_option maxRecDepth 100000 in
set_option maxHeartbeats 4000000 in
theorem vcJ9_min_7cf53_0 (Rt : xR) (K : xG) (M : xM) (v0 v1 : Int) : xw LX [] calJ9_min_7cf53 [] 1 Rt iJ9_min_7cf53 cutJ9_min_7cf53 K 400 0 [some (.inl v0), some (.inl v1)] [] M = (rg v0 ∧ rg v1 ∧ (v1 < v0 → Rt v1 M) ∧ (v0 ≤ v1 → Rt v0 M)) := rfl
def calJ7_fill_53178 : xCal := []
def cutJ7_fill_53178 : Nat → Bool := fun pc => Nat.beq pc 5
theorem vcJ7_fill_53178_0_6 (Rt : xR) (K : xG) (M : xM) (v1 : Int) : xw LX [] calJ7_fill_53178 [] 0 Rt iJ7_fill_53178 cutJ7_fill_53178 K 400 0 [some (.inr 6), some (.inl v1), none, none] [] M = (K 5 [some (.inr 6), some (.inl v1), some (.inl (0 : Int)), some (.inl (6 : Int))] [] M) := rfl
theorem vcJ7_fill_53178_5_6 (Rt : xR) (K : xG) (M : xM) (v1 v2 v3 : Int) : xw LX [] calJ7_fill_53178 [] 0 Rt iJ7_fill_53178 cutJ7_fill_53178 K 400 5 [some (.inr 6), some (.inl v1), some (.inl v2), some (.inl v3)] [] M = (rg v2 ∧ rg v3 ∧ (v3 ≤ v2 → Rt 0 M) ∧ (v2 < v3 → (0 ≤ v2 ∧ v2 < 6) ∧ K 5 [some (.inr 6), some (.inl v1), some (.inl (v2 + (1 : Int))), some (.inl v3)] [] (xup M 6 v2 v1))) := rfl
theorem vcJ7_fill_53178_0_9 (Rt : xR) (K : xG) (M : xM) (v1 : Int) : xw LX [] calJ7_fill_53178 [] 0 Rt iJ7_fill_53178 cutJ7_fill_53178 K 400 0 [some (.inr 9), some (.inl v1), none, none] [] M = (K 5 [some (.inr 9), some (.inl v1), some (.inl (0 : Int)), some (.inl (10 : Int))] [] M) := rfl
theorem vcJ7_fill_53178_5_9 (Rt : xR) (K : xG) (M : xM) (v1 v2 v3 : Int) : xw LX [] calJ7_fill_53178 [] 0 Rt iJ7_fill_53178 cutJ7_fill_53178 K 400 5 [some (.inr 9), some (.inl v1), some (.inl v2), some (.inl v3)] [] M = (rg v2 ∧ rg v3 ∧ (v3 ≤ v2 → Rt 0 M) ∧ (v2 < v3 → (0 ≤ v2 ∧ v2 < 10) ∧ K 5 [some (.inr 9), some (.inl v1), some (.inl (v2 + (1 : Int))), some (.inl v3)] [] (xup M 9 v2 v1))) := rfl
theorem vcJ7_fill_53178_0_13 (Rt : xR) (K : xG) (M : xM) (v1 : Int) : xw LX [] calJ7_fill_53178 [] 0 Rt iJ7_fill_53178 cutJ7_fill_53178 K 400 0 [some (.inr 13), some (.inl v1), none, none] [] M = (K 5 [some (.inr 13), some (.inl v1), some (.inl (0 : Int)), some (.inl (10 : Int))] [] M) := rfl
theorem vcJ7_fill_53178_5_13 (Rt : xR) (K : xG) (M : xM) (v1 v2 v3 : Int) : xw LX [] calJ7_fill_53178 [] 0 Rt iJ7_fill_53178 cutJ7_fill_53178 K 400 5 [some (.inr 13), some (.inl v1), some (.inl v2), some (.inl v3)] [] M = (rg v2 ∧ rg v3 ∧ (v3 ≤ v2 → Rt 0 M) ∧ (v2 < v3 → (0 ≤ v2 ∧ v2 < 10) ∧ K 5 [some (.inr 13), some (.inl v1), some (.inl (v2 + (1 : Int))), some (.inl v3)] [] (xup M 13 v2 v1))) := rfl
theorem vcJ7_fill_53178_0_14 (Rt : xR) (K : xG) (M : xM) (v1 : Int) : xw LX [] calJ7_fill_53178 [] 0 Rt iJ7_fill_53178 cutJ7_fill_53178 K 400 0 [some (.inr 14), some (.inl v1), none, none] [] M = (K 5 [some (.inr 14), some (.inl v1), some (.inl (0 : Int)), some (.inl (10 : Int))] [] M) := rfl
theorem vcJ7_fill_53178_5_14 (Rt : xR) (K : xG) (M : xM) (v1 v2 v3 : Int) : xw LX [] calJ7_fill_53178 [] 0 Rt iJ7_fill_53178 cutJ7_fill_53178 K 400 5 [some (.inr 14), some (.inl v1), some (.inl v2), some (.inl v3)] [] M = (rg v2 ∧ rg v3 ∧ (v3 ≤ v2 → Rt 0 M) ∧ (v2 < v3 → (0 ≤ v2 ∧ v2 < 10) ∧ K 5 [some (.inr 14), some (.inl v1), some (.inl (v2 + (1 : Int))), some (.inl v3)] [] (xup M 14 v2 v1))) := rfl
theorem vcJ7_fill_53178_0_15 (Rt : xR) (K : xG) (M : xM) (v1 : Int) : xw LX [] calJ7_fill_53178 [] 0 Rt iJ7_fill_53178 cutJ7_fill_53178 K 400 0 [some (.inr 15), some (.inl v1), none, none] [] M = (K 5 [some (.inr 15), some (.inl v1), some (.inl (0 : Int)), some (.inl (396 : Int))] [] M) := rfl
theorem vcJ7_fill_53178_5_15 (Rt : xR) (K : xG) (M : xM) (v1 v2 v3 : Int) : xw LX [] calJ7_fill_53178 [] 0 Rt iJ7_fill_53178 cutJ7_fill_53178 K 400 5 [some (.inr 15), some (.inl v1), some (.inl v2), some (.inl v3)] [] M = (rg v2 ∧ rg v3 ∧ (v3 ≤ v2 → Rt 0 M) ∧ (v2 < v3 → (0 ≤ v2 ∧ v2 < 396) ∧ K 5 [some (.inr 15), some (.inl v1), some (.inl (v2 + (1 : Int))), some (.inl v3)] [] (xup M 15 v2 v1))) := rfl
