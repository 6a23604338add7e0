/-! numbers -/
theorem n_lit (n : Nat) : (OfNat.ofNat n : Int32) = nI n := rfl
theorem n0 : (0 : Int32) = nI 0 := rfl
theorem n1 : (1 : Int32) = nI 1 := rfl
theorem pl_cmp_lt (x y : Int64) : lg_cmp x y < 0 ↔ x < y := by
  unfold lg_cmp
  have e : (x = y) ↔ x.toInt = y.toInt := ⟨fun q => by rw [q], fun q => Int64.toInt_inj.mp q⟩
  simp only [gt_iff_lt, Int64.lt_iff_toInt_lt, e]
  split
  · rename_i hq
    exact ⟨fun q => absurd q (by decide), fun q => by omega⟩
  · split
    · rename_i hq hr
      exact ⟨fun q => absurd q (by decide), fun q => by omega⟩
    · rename_i hq hr
      exact ⟨fun _ => by omega, fun _ => by decide⟩
theorem pl_cmp_gt (x y : Int64) : 0 < lg_cmp x y ↔ y < x := by
  unfold lg_cmp
  have e : (x = y) ↔ x.toInt = y.toInt := ⟨fun q => by rw [q], fun q => Int64.toInt_inj.mp q⟩
  simp only [gt_iff_lt, Int64.lt_iff_toInt_lt, e]
  split
  · rename_i hq
    exact ⟨fun q => by omega, fun q => by decide⟩
  · split
    · rename_i hq hr
      exact ⟨fun q => absurd q (by decide), fun q => by omega⟩
    · rename_i hq hr
      exact ⟨fun q => absurd q (by decide), fun q => by omega⟩
theorem qz0 : qz 0 = some 0 := rfl
theorem qz1 : qz 1 = some 1 := rfl
theorem qz_ite (c : Prop) [Decidable c] : qz (if c then 1 else 0) = some (if c then 1 else 0) := by split <;> rfl
theorem some_ite {α : Type} (c : Prop) [Decidable c] (x y : α) : (if c then some x else some y) = some (if c then x else y) := by split <;> rfl
/-- the model's 'in' -/
theorem in_ok (F : Nat) (X : qH) (v lo hi : Int64) : fX10_in F X v lo hi = some (if lo ≤ v ∧ v ≤ hi then 1 else 0) := by
  unfold fX10_in
  simp only [pl_cmp_lt, pl_cmp_gt]
  have e1 : v < lo ↔ ¬ lo ≤ v := by rw [Int64.lt_iff_toInt_lt, Int64.le_iff_toInt_le]; omega
  have e2 : hi < v ↔ ¬ v ≤ hi := by rw [Int64.lt_iff_toInt_lt, Int64.le_iff_toInt_le]; omega
  by_cases h1 : lo ≤ v <;> by_cases h2 : v ≤ hi <;> simp [e1, e2, h1, h2, qz]
theorem in_i (F : Nat) (X : qH) (v lo hi : Int32) : fX10_in F X v.toInt64 lo.toInt64 hi.toInt64 = some (if lo ≤ v ∧ v ≤ hi then 1 else 0) := by
  rw [in_ok]
  have e : ∀ x y : Int32, x.toInt64 ≤ y.toInt64 ↔ x ≤ y := fun x y => by rw [Int64.le_iff_toInt_le, Int32.le_iff_toInt_le, Int32.toInt_toInt64, Int32.toInt_toInt64]
  simp only [e]
