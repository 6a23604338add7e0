/-! farShore -/
def cnF (one : Bool) (rv st : Nat → Nat) (g x : Nat) : Bool := (if one then decide (x = g) else decide (x ≠ g)) && decide (rv g = st x)
def anF (one : Bool) (rv st : Nat → Nat) (g : Nat) : Nat → Bool
  | 0 => false
  | k + 1 => anF one rv st g k || cnF one rv st g k
def bgF (one : Bool) (rv st : Nat → Nat) (c g : Nat) : Int32 := if anF one rv st g c = true then (1 : Int32) <<< (nI g &&& 31) else 0
theorem anF_iff {one : Bool} {rv st : Nat → Nat} {g : Nat} : ∀ k : Nat, anF one rv st g k = true ↔ ∃ x : Nat, x < k ∧ cnF one rv st g x = true := by
  intro k
  induction k with
  | zero => simp [anF]
  | succ k ih =>
    rw [anF, Bool.or_eq_true, ih]
    constructor
    · rintro (⟨x, h1, h2⟩ | h)
      · exact ⟨x, by omega, h2⟩
      · exact ⟨k, by omega, h⟩
    · rintro ⟨x, h1, h2⟩
      by_cases z : x = k
      · subst z; exact Or.inr h2
      · exact Or.inl ⟨x, by omega, h2⟩
def fsF (one : Bool) (rv st : Nat → Nat) (c : Nat) : Nat → Int32
  | 0 => 0
  | g + 1 => fsF one rv st c g ||| bgF one rv st c g
