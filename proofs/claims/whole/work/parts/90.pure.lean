/-- all operations (OPEN: what isn't proved yet is the sorry here) -/
theorem all_ops {F sz : Nat} (hF : 300000 ≤ F) : AllOps F sz := sorry
/-- THE PURE LAYER'S END: the law's function answers 1 on every script of at most 256 ints -/
theorem pure_law (L : Nat) (hL : L ≤ 256) (xs : Nat → Int32) (b sz : Nat) : ∃ F, fL_law F L xs b (fun _ => none) sz = some (1 : Int32) :=
  ⟨300000, pure_open hL (by omega) (start_ok (by omega)) (all_ops (Nat.le_refl _))⟩
