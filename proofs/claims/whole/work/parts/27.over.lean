/-! cellOver, overOf; reach -/
def ov (ce : Nat → Nat) (w wi h : Nat) : Nat := min (w - 1) (ce h + wi - 5)
theorem ov_lt {ce : Nat → Nat} {w wi h : Nat} (hw : 1 ≤ w) : ov ce w wi h < w := by unfold ov; omega
theorem i_addsub (p q : Nat) : nI p + (nI q - 5) = nI (p + q) - nI 5 := by
  rw [show (5 : Int32) = nI 5 from rfl, Int32.sub_eq_add_neg, ← Int32.add_assoc, nI_add, ← Int32.sub_eq_add_neg]
theorem i_of_toInt {x : Int32} {k : Nat} (hk : k < 2 ^ 31) (h : x.toInt = (k : Int)) : x = nI k := Int32.toInt_inj.mp (by rw [h, nI_toInt hk])
theorem ov_val {w p : Nat} (hw : 1 ≤ w) (hw30 : w ≤ 30) (hp : p < 100) :
    (let y := (if nI p - nI 5 < nI w - 1 then nI p - nI 5 else nI w - 1); if 0 < y then y else 0) = nI (min (w - 1) (p - 5)) ∧ (if 0 ≤ nI p - nI 5 then (if nI p - nI 5 < nI w then nI p - nI 5 else nI w - 1) else 0) = nI (min (w - 1) (p - 5)) := by
  have hx : (nI p - nI 5).toInt = (p : Int) - 5 := by rw [pk_sub_toInt (by omega) (by omega)]; rfl
  have hw1 : (nI w - 1).toInt = (w : Int) - 1 := by
    show (nI w - nI 1).toInt = _
    rw [pk_sub_toInt (by omega) (by omega)]; rfl
  have hw0 : (nI w).toInt = (w : Int) := nI_toInt (by omega)
  have h00 : (0 : Int32).toInt = 0 := rfl
  constructor
  · dsimp only
    apply i_of_toInt (by omega)
    simp only [Int32.lt_iff_toInt_lt, hx, hw1, h00]
    by_cases q1 : (p : Int) - 5 < (w : Int) - 1
    · simp only [if_pos q1, hx]
      by_cases q2 : (0 : Int) < (p : Int) - 5
      · simp only [if_pos q2, hx]; omega
      · simp only [if_neg q2, h00]; omega
    · simp only [if_neg q1, hw1]
      by_cases q2 : (0 : Int) < (w : Int) - 1
      · simp only [if_pos q2, hw1]; omega
      · simp only [if_neg q2, h00]; omega
  · apply i_of_toInt (by omega)
    simp only [Int32.lt_iff_toInt_lt, Int32.le_iff_toInt_le, hx, hw0, h00]
    by_cases q1 : (0 : Int) ≤ (p : Int) - 5
    · simp only [if_pos q1]
      by_cases q2 : (p : Int) - 5 < (w : Int)
      · simp only [if_pos q2, hx]; omega
      · simp only [if_neg q2, hw1]; omega
    · simp only [if_neg q1, h00]; omega
theorem cellOver_ok {F : Nat} {X Y : qH} {a b w wi h : Nat} {ce : Nat → Nat} (hX : shX X = Y) (hN : YN Y a) (hB : YB Y b) (hh : h < 8) (hw : 1 ≤ w ∧ w ≤ 30 ∧ gi X b 0 = nI w) (hc : ga X (b + 1) h = nI (ce h) ∧ ce h < 30) (hwi : gi X a 2 = nI wi - 5 ∧ wi ≤ 10) : fX3_cellOver F X a b (nI h) = some (nI (ov ce w wi h)) := by
  have h1 := hc.2
  have h2 := hwi.2
  have e := (ov_val (w := w) (p := ce h + wi) hw.1 hw.2.1 (by omega)).1
  dsimp only at e
  simp only [fX3_cellOver, gN hN, gB hB, hX, hh, Option.bind_some, hw.2.2, hc.1, hwi.1, i_addsub, qlt, e]
  rfl
theorem overOf_ok {F : Nat} {X Y : qH} {m w wi h : Nat} {ce : Nat → Nat} (hX : shX X = Y) (hM : YM Y m) (hh : h < 8) (hw : 1 ≤ w ∧ w ≤ 30 ∧ gi X m 0 = nI w) (hc : ga X (m + 1) h = nI (ce h) ∧ ce h < 30) (hwi : ga X (m + 5) 1 = nI wi - 5 ∧ wi ≤ 10) : fX10_overOf F X m (nI h) = some (nI (ov ce w wi h)) := by
  have h1 := hc.2
  have h2 := hwi.2
  have e := (ov_val (w := w) (p := ce h + wi) hw.1 hw.2.1 (by omega)).2
  have l1 : qaI X 0 (m + 5) (1 : Int32) = some (ga X (m + 5) 1) := by
    have := (gM hM)
    simp only [show (1 : Int32) = nI 1 from rfl, gM hM, hX, show 1 < 43 by decide]
  simp only [fX10_overOf, gM hM, hX, hh, l1, Option.bind_some, hw.2.2, hc.1, hwi.1, i_addsub, qlt, some_ite, e]
  rfl
