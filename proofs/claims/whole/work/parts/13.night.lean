/-! Night: become, and the frame of an object -/
def frm (X X2 : qH) (lo n : Nat) : Prop := ∀ q : Nat, q < lo ∨ lo + n ≤ q → X2 q = X q
theorem frm.rfl' {X : qH} {lo n : Nat} : frm X X lo n := fun _ _ => rfl
theorem frm.trans {X X2 X3 : qH} {lo n : Nat} (h : frm X X2 lo n) (h2 : frm X2 X3 lo n) : frm X X3 lo n := fun q hq => (h2 q hq).trans (h q hq)
theorem frm_pI {X : qH} {lo n a k : Nat} (v : Int32) (h : lo ≤ a ∧ a < lo + n) : frm X (pI X a k v) lo n := fun q hq => pV_ne (by omega)
theorem frm_pR {X : qH} {lo n a k : Nat} (r : Nat) (h : lo ≤ a ∧ a < lo + n) : frm X (pR X a k r) lo n := fun q hq => pV_ne (by omega)
theorem frm_pA {X : qH} {lo n a i : Nat} (v : Int32) (h : lo ≤ a ∧ a < lo + n) : frm X (pA X a i v) lo n := fun q hq => pA_ne (by omega)
theorem upd_self (f : Nat → Int32) (k : Nat) (x : Int32) : upd f k x k = x := by simp [upd]
theorem upd_ne {f : Nat → Int32} {k j : Nat} (x : Int32) (h : j ≠ k) : upd f k x j = f j := by simp [upd, h]
set_option maxHeartbeats 1000000 in
theorem signedAs_ok {F : Nat} {X Y : qH} {a b h : Nat} (hX : shX X = Y) (ha : YN Y a) (hb : YN Y b) (hab : a + 5 ≤ b ∨ b + 5 ≤ a) (hh : h < 8) :
    fX3_signedAs F X a (nI h) b = some (pA (pA (pA X (a + 2) h (ga X (b + 2) h)) (a + 3) h (ga X (b + 3) h)) (a + 4) h (ga X (b + 4) h)) := by
  have e1 : b + 3 ≠ a + 2 := by omega
  have e2 : b + 4 ≠ a + 2 := by omega
  have e3 : b + 4 ≠ a + 3 := by omega
  simp (maxDischargeDepth := 30) only [fX3_signedAs, gN ha, gN hb, sN ha, kN ha, hX, hh, Option.bind_some, ga_pA_ne e1, ga_pA_ne e2, ga_pA_ne e3]
/-- Night.become(b): all of b's values, nothing else changes -/
theorem become_L {F : Nat} {Y : qH} {a b : Nat} (ha : YN Y a) (hb : YN Y b) (hab : a + 5 ≤ b ∨ b + 5 ≤ a) :
    ∀ (n i : Nat) (X : qH), shX X = Y → i ≤ 8 → 8 - i < n → ∃ X2, fX3_become_L34 F a b n (nI i) X = some X2 ∧ shX X2 = Y ∧ frm X X2 a 5 ∧ (∀ k, gi X2 a k = gi X a k) ∧
      ∀ j, 1 ≤ j → j ≤ 4 → ∀ h, h < 8 → ga X2 (a + j) h = if i ≤ h then ga X (b + j) h else ga X (a + j) h := by
  intro n
  induction n with
  | zero => intro i X hX hi hn; omega
  | succ n ih =>
    intro i X hX hi hn
    show ∃ X2, fX3_become_L34_B F a b (fX3_become_L34 F a b n) (nI i) X = some X2 ∧ _
    unfold fX3_become_L34_B
    by_cases h8 : i = 8
    · subst h8
      refine ⟨X, ?_, hX, frm.rfl', fun k => rfl, fun j h1 h4 h hh => by rw [if_neg (by omega)]⟩
      rw [if_pos (show (8 : Int32) ≤ nI 8 by decide)]
    · have hlt : i < 8 := by omega
      rw [if_neg (show ¬ (8 : Int32) ≤ nI i from nI_ge (a := i) (b := 8) hlt (by decide))]
      simp (maxDischargeDepth := 30) only [gN ha, gN hb, sN ha, kN ha, hX, hlt, Option.bind_some]
      have hX1 := shX_pA hX ha.2.1 i (ga X (b + 1) i)
      rw [signedAs_ok hX1 ha hb hab hlt]
      simp only [Option.bind_some, qlt]
      have e : nI i + 1 = nI (i + 1) := nI_1 i
      rw [e]
      have hX2 := shX_pA hX1 ha.2.2.1 i (ga (pA X (a + 1) i (ga X (b + 1) i)) (b + 2) i)
      have hX3 := shX_pA hX2 ha.2.2.2.1 i (ga (pA X (a + 1) i (ga X (b + 1) i)) (b + 3) i)
      have hX4 := shX_pA hX3 ha.2.2.2.2 i (ga (pA X (a + 1) i (ga X (b + 1) i)) (b + 4) i)
      obtain ⟨X2, r1, r2, r3, r4, r5⟩ := ih (i + 1) _ hX4 (by omega) (by omega)
      refine ⟨X2, r1, r2, frm.trans (frm.trans (frm.trans (frm.trans (frm_pA _ (by omega)) (frm_pA _ (by omega))) (frm_pA _ (by omega))) (frm_pA _ (by omega))) r3, fun k => ?_, fun j h1 h4 h hh => ?_⟩
      · rw [r4 k]; simp only [gi_pA]
      · rw [r5 j h1 h4 h hh]
        have d1 : ∀ j', 1 ≤ j' → j' ≤ 4 → ∀ j2, 1 ≤ j2 → j2 ≤ 4 → b + j' ≠ a + j2 := by intro j' _ _ j2 _ _; omega
        have db : ga (pA (pA (pA (pA X (a + 1) i (ga X (b + 1) i)) (a + 2) i (ga (pA X (a + 1) i (ga X (b + 1) i)) (b + 2) i)) (a + 3) i (ga (pA X (a + 1) i (ga X (b + 1) i)) (b + 3) i)) (a + 4) i (ga (pA X (a + 1) i (ga X (b + 1) i)) (b + 4) i)) (b + j) = ga X (b + j) := by
          rw [ga_pA_ne (d1 j h1 h4 4 (by omega) (by omega)), ga_pA_ne (d1 j h1 h4 3 (by omega) (by omega)), ga_pA_ne (d1 j h1 h4 2 (by omega) (by omega)), ga_pA_ne (d1 j h1 h4 1 (by omega) (by omega))]
        rw [db]
        have q2 : ga (pA X (a + 1) i (ga X (b + 1) i)) (b + 2) = ga X (b + 2) := ga_pA_ne (by omega) _ _
        have q3 : ga (pA X (a + 1) i (ga X (b + 1) i)) (b + 3) = ga X (b + 3) := ga_pA_ne (by omega) _ _
        have q4 : ga (pA X (a + 1) i (ga X (b + 1) i)) (b + 4) = ga X (b + 4) := ga_pA_ne (by omega) _ _
        have da : ga (pA (pA (pA (pA X (a + 1) i (ga X (b + 1) i)) (a + 2) i (ga (pA X (a + 1) i (ga X (b + 1) i)) (b + 2) i)) (a + 3) i (ga (pA X (a + 1) i (ga X (b + 1) i)) (b + 3) i)) (a + 4) i (ga (pA X (a + 1) i (ga X (b + 1) i)) (b + 4) i)) (a + j) = upd (ga X (a + j)) i (ga X (b + j) i) := by
          rw [q2, q3, q4]
          rcases (show j = 1 ∨ j = 2 ∨ j = 3 ∨ j = 4 by omega) with rfl | rfl | rfl | rfl
          · rw [ga_pA_ne (by omega), ga_pA_ne (by omega), ga_pA_ne (by omega), ga_pA_self hX ha.2.1]
          · rw [ga_pA_ne (by omega), ga_pA_ne (by omega), ga_pA_self hX1 ha.2.2.1, ga_pA_ne (by omega)]
          · rw [q2] at hX2
            rw [ga_pA_ne (by omega), ga_pA_self hX2 ha.2.2.2.1, ga_pA_ne (by omega), ga_pA_ne (by omega)]
          · rw [q2, q3] at hX3
            rw [ga_pA_self hX3 ha.2.2.2.2, ga_pA_ne (by omega), ga_pA_ne (by omega), ga_pA_ne (by omega)]
        rw [da]
        by_cases hih : i = h
        · subst hih
          rw [if_neg (by omega), if_pos (Nat.le_refl _), upd_self]
        · rw [upd_ne _ (Ne.symm hih)]
          by_cases h2 : i ≤ h
          · rw [if_pos (by omega), if_pos h2]
          · rw [if_neg (by omega), if_neg h2]
theorem become_ok {F : Nat} {X Y : qH} {a b : Nat} (hX : shX X = Y) (ha : YN Y a) (hb : YN Y b) (hab : a + 5 ≤ b ∨ b + 5 ≤ a) (hF : 9 ≤ F) :
    ∃ X2, fX3_become F X a b = some X2 ∧ shX X2 = Y ∧ frm X X2 a 5 ∧ (∀ k, k < 4 → gi X2 a k = gi X b k) ∧ ∀ j, 1 ≤ j → j ≤ 4 → ∀ h, h < 8 → ga X2 (a + j) h = ga X (b + j) h := by
  have hne : b ≠ a := by omega
  unfold fX3_become
  simp (maxDischargeDepth := 30) only [gN ha, gN hb, sN ha, kN ha, hX, Option.bind_some, gi_pI_ne hne]
  have hX1 : shX (pI (pI (pI (pI X a 0 (gi X b 0)) a 1 (gi X b 1)) a 2 (gi X b 2)) a 3 (gi X b 3)) = Y := by simp (maxDischargeDepth := 30) only [kN ha, hX]
  obtain ⟨X2, r1, r2, r3, r4, r5⟩ := become_L (F := F) ha hb hab F 0 _ hX1 (by omega) (by omega)
  rw [show (0 : Int32) = nI 0 from rfl, r1]
  refine ⟨X2, rfl, r2, frm.trans (frm.trans (frm.trans (frm.trans (frm_pI _ (by omega)) (frm_pI _ (by omega))) (frm_pI _ (by omega))) (frm_pI _ (by omega))) r3, fun k hk => ?_, fun j h1 h4 h hh => ?_⟩
  · rw [r4 k]
    simp (maxDischargeDepth := 30) only [uN ha, kN ha, hX]
    rcases (show k = 0 ∨ k = 1 ∨ k = 2 ∨ k = 3 by omega) with rfl | rfl | rfl | rfl <;> rfl
  · rw [r5 j h1 h4 h hh, if_pos (Nat.zero_le _)]
    simp only [ga_pI]
