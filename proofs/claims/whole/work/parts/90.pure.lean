/-- THE PURE LAYER'S END: the law's function answers 1 on every script of at most 256 ints -/
theorem pure_law (L : Nat) (hL : L ≤ 256) (xs : Nat → Int32) (b sz : Nat) : ∃ F, fL_law F L xs b (fun _ => none) sz = some (1 : Int32) := sorry
