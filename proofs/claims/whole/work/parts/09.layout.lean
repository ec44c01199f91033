/-! the two layouts: LX, the class's cells; LM, the reference's -/
def LX : List xD := [.inl (5, [some 1, some 4, some 10, some 12]), .inl (2, [some 2, some 3, none]), .inr (0, 42), .inr (0, 7), .inl (4, [some 5, some 6, none]), .inr (0, 6), .inr (0, 6), .inl (1, [some 1, some 4, some 8, some 9]), .inr (0, 4), .inr (0, 10), .inl (0, [some 1, some 4, some 7, some 11, none, none, none, none, none, none]), .inr (0, 512), .inl (3, [some 1, some 4, some 7, some 10, some 13, some 14, some 15, none, none, none]), .inr (0, 10), .inr (0, 10), .inr (0, 396)]
def LM : List xD := [.inl (6, [none, some 1, some 2, none, some 3, some 4, some 5, none, some 6, some 7, some 8, some 9, none, none, none, none, some 10, some 11, some 12, none, none]), .inr (0, 6), .inr (0, 36), .inr (0, 6), .inr (0, 6), .inr (1, 36), .inr (0, 4), .inr (0, 36), .inr (1, 100), .inr (0, 100), .inr (0, 20160), .inr (0, 181440), .inr (1, 181440)]
theorem xOk_of {ad : Nat → Nat} {L : List xD} (h1 : ∀ i j, i < L.length → j < L.length → ad i = ad j → i = j) (h2 : L.all (fun d => match d with | .inl _ => true | .inr q => decide (q.2 < 2147483648)) = true) : xOk ad L := by
  refine ⟨h1, fun c t n h => ?_⟩
  have := List.all_eq_true.mp h2 _ (List.mem_of_getElem? h)
  simpa using this
