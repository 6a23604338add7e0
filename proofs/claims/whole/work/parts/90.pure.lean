/-- all operations -/
theorem all_ops {F sz : Nat} (hF : 300000 ≤ F) : AllOps F sz := fun X hI => ⟨op_feed hI, op_bay hI hF, op_fault hI, op_told hI hF, op_house hI hF, op_sees hI hF, op_contract hI hF, op_light hI hF, op_minute hI hF, op_fog hI hF, op_wind hI hF, op_drift hI hF, op_undo hI hF, op_order hI hF, op_signers hI hF, op_farShore hI hF, op_cross hI hF, op_treaty hI hF, op_forged hI hF, op_damp hI hF, op_partner hI hF, op_duck hI, op_lit hI hF, op_write hI, op_tear hI, op_judge hI hF, op_seed hI, op_keep hI hF, op_goBack hI hF⟩
/-- THE PURE LAYER'S END: the law's function answers 1 on every script of at most 256 ints -/
theorem pure_law (L : Nat) (hL : L ≤ 256) (xs : Nat → Int32) (b sz : Nat) : ∃ F, fL_law F L xs b (fun _ => none) sz = some (1 : Int32) :=
  ⟨300000, pure_open hL (by omega) (start_ok (by omega)) (all_ops (Nat.le_refl _))⟩
