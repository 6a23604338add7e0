/-! holdsFor, contract -/
def pIy (p q : Nat) : Nat := if p < q then pIx p q else pIx q p
theorem pb_all : ∀ p q : Fin 8, p.val ≠ q.val → (((if nI p.val < nI q.val then nI q.val else nI p.val) * ((if nI p.val < nI q.val then nI q.val else nI p.val) - 1)) / 2 + (if nI q.val < nI p.val then nI q.val else nI p.val)) = nI (pIy p.val q.val) ∧ pIy p.val q.val < 28 := by decide +kernel
theorem HR.y {ho : Int32} {g : Nat → Int32} (hr : HR ho g) {p q : Nat} (hp : p < 8) (hq : q < 8) (hpq : p ≠ q) : tb ho (pIy p q) ↔ tb (g p) q := by
  unfold pIy
  by_cases z : p < q
  · rw [if_pos z]; exact (hr.1 p q z hq).1
  · rw [if_neg z]
    have := hr.1 q p (by omega) hp
    exact this.1.trans this.2
theorem pairBit_ok {F : Nat} {X : qH} {p q : Nat} (hp : p < 8) (hq : q < 8) (hpq : p ≠ q) : fX3_pairBit F X (nI p) (nI q) = some ((1 : Int32) <<< (nI (pIy p q) &&& 31)) := by
  have e := (pb_all ⟨p, hp⟩ ⟨q, hq⟩ hpq).1
  dsimp only at e
  simp only [fX3_pairBit, qlt, e]
theorem holdsFor_ok {F : Nat} {X Y : qH} {a p q : Nat} (hX : shX X = Y) (wN : YN Y a) (hp : p < 8) (hq : q < 8) (hpq : p ≠ q) : (tb (gi X a 3) (pIy p q) → fX3_holdsFor F X a (nI p) (nI q) = some 1) ∧ (¬ tb (gi X a 3) (pIy p q) → fX3_holdsFor F X a (nI p) (nI q) = some 0) := by
  have h28 := (pb_all ⟨p, hp⟩ ⟨q, hq⟩ hpq).2
  dsimp only at h28
  have h2 := and_tb (x := gi X a 3) (i := pIy p q) (by omega)
  constructor
  · intro h
    simp only [fX3_holdsFor, gN wN, hX, Option.bind_some, pairBit_ok hp hq hpq, if_neg (fun z => (h2.mp z) h)]
    rfl
  · intro h
    simp only [fX3_holdsFor, gN wN, hX, Option.bind_some, pairBit_ok hp hq hpq, if_pos (h2.mpr h)]
    rfl
theorem hasM_ok {F : Nat} {X : qH} {x : Int32} {q : Nat} (hq : q < 32) : (tb x q → fX10_has F X x (nI q) = some 1) ∧ (¬ tb x q → fX10_has F X x (nI q) = some 0) := by
  constructor
  · intro h
    simp only [fX10_has, if_pos ((shr_tb hq).mpr h), Option.bind_some]
    rfl
  · intro h
    simp only [fX10_has, if_neg (fun z => h ((shr_tb hq).mp z)), Option.bind_some]
    rfl
