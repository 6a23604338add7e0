/-! Night.begin(bay) -/
theorem begin_L {F : Nat} {Y : qH} {a b c : Nat} (ha : YN Y a) (hb : YB Y b) (hab : a + 5 ≤ b ∨ b + 5 ≤ a) (hc : c ≤ 8) :
    ∀ (n i : Nat) (X : qH), shX X = Y → gi X b 5 = nI c → i ≤ 8 → 8 - i < n → ∃ X2, fX3_begin_L28 F a b n (nI i) X = some X2 ∧ shX X2 = Y ∧ frm X X2 a 5 ∧ (∀ k, gi X2 a k = gi X a k) ∧
      ∀ h, h < 8 → (ga X2 (a + 1) h = if i ≤ h then (if h < c then ga X (b + 3) h else 0) else ga X (a + 1) h) ∧ (ga X2 (a + 2) h = if i ≤ h then -1 else ga X (a + 2) h) ∧ (ga X2 (a + 3) h = if i ≤ h then -1 else ga X (a + 3) h) ∧ (ga X2 (a + 4) h = if i ≤ h then 0 else ga X (a + 4) h) := by
  intro n
  induction n with
  | zero => intro i X hX h5 hi hn; omega
  | succ n ih =>
    intro i X hX h5 hi hn
    show ∃ X2, fX3_begin_L28_B F a b (fX3_begin_L28 F a b n) (nI i) X = some X2 ∧ _
    unfold fX3_begin_L28_B
    by_cases h8 : i = 8
    · subst h8
      refine ⟨X, ?_, hX, frm.rfl', fun k => rfl, fun h hh => ?_⟩
      · rw [if_pos (show (8 : Int32) ≤ nI 8 by decide)]
      · simp only [if_neg (show ¬ 8 ≤ h by omega), and_self]
    · have hlt : i < 8 := by omega
      rw [if_neg (show ¬ (8 : Int32) ≤ nI i from nI_ge (a := i) (b := 8) hlt (by decide))]
      have hv : (if nI c ≤ nI i then (some 0 : Option Int32) else some (ga X (b + 3) i)) = some (if i < c then ga X (b + 3) i else 0) := by
        by_cases hic : i < c
        · rw [if_neg (nI_ge hic (by omega)), if_pos hic]
        · rw [if_pos (nI_le (by omega) (by omega)), if_neg hic]
      simp (maxDischargeDepth := 30) only [gN ha, gB hb, sN ha, kN ha, hX, hlt, h5, Option.bind_some]
      rw [hv]
      generalize hw : (if i < c then ga X (b + 3) i else 0) = w
      simp (maxDischargeDepth := 30) only [gN ha, gB hb, sN ha, kN ha, hX, hlt, Option.bind_some, qlt]
      rw [nI_1 i]
      have hX1 := shX_pA hX ha.2.1 i w
      have hX2 := shX_pA hX1 ha.2.2.1 i (-1)
      have hX3 := shX_pA hX2 ha.2.2.2.1 i (-1)
      have hX4 := shX_pA hX3 ha.2.2.2.2 i 0
      obtain ⟨X2, r1, r2, r3, r4, r5⟩ := ih (i + 1) _ hX4 (by simp only [gi_pA]; exact h5) (by omega) (by omega)
      refine ⟨X2, r1, r2, frm.trans (frm.trans (frm.trans (frm.trans (frm_pA _ (by omega)) (frm_pA _ (by omega))) (frm_pA _ (by omega))) (frm_pA _ (by omega))) r3, fun k => ?_, fun h hh => ?_⟩
      · rw [r4 k]; simp only [gi_pA]
      · obtain ⟨s1, s2, s3, s4⟩ := r5 h hh
        have b3 : ga (pA (pA (pA (pA X (a + 1) i w) (a + 2) i (-1)) (a + 3) i (-1)) (a + 4) i 0) (b + 3) = ga X (b + 3) := by
          rw [ga_pA_ne (by omega), ga_pA_ne (by omega), ga_pA_ne (by omega), ga_pA_ne (by omega)]
        have d1 : ga (pA (pA (pA (pA X (a + 1) i w) (a + 2) i (-1)) (a + 3) i (-1)) (a + 4) i 0) (a + 1) = upd (ga X (a + 1)) i w := by
          rw [ga_pA_ne (by omega), ga_pA_ne (by omega), ga_pA_ne (by omega), ga_pA_self hX ha.2.1]
        have d2 : ga (pA (pA (pA (pA X (a + 1) i w) (a + 2) i (-1)) (a + 3) i (-1)) (a + 4) i 0) (a + 2) = upd (ga X (a + 2)) i (-1) := by
          rw [ga_pA_ne (by omega), ga_pA_ne (by omega), ga_pA_self hX1 ha.2.2.1, ga_pA_ne (by omega)]
        have d3 : ga (pA (pA (pA (pA X (a + 1) i w) (a + 2) i (-1)) (a + 3) i (-1)) (a + 4) i 0) (a + 3) = upd (ga X (a + 3)) i (-1) := by
          rw [ga_pA_ne (by omega), ga_pA_self hX2 ha.2.2.2.1, ga_pA_ne (by omega), ga_pA_ne (by omega)]
        have d4 : ga (pA (pA (pA (pA X (a + 1) i w) (a + 2) i (-1)) (a + 3) i (-1)) (a + 4) i 0) (a + 4) = upd (ga X (a + 4)) i 0 := by
          rw [ga_pA_self hX3 ha.2.2.2.2, ga_pA_ne (by omega), ga_pA_ne (by omega), ga_pA_ne (by omega)]
        rw [s1, s2, s3, s4, b3, d1, d2, d3, d4]
        by_cases hih : i = h
        · subst hih
          simp only [if_neg (show ¬ i + 1 ≤ i by omega), if_pos (Nat.le_refl i), upd_self, hw, and_self]
        · simp only [upd_ne _ (Ne.symm hih)]
          by_cases h2 : i ≤ h
          · simp only [if_pos (show i + 1 ≤ h by omega), if_pos h2, and_self]
          · simp only [if_neg (show ¬ i + 1 ≤ h by omega), if_neg h2, and_self]
theorem begin_ok {F : Nat} {X Y : qH} {a b c : Nat} (hX : shX X = Y) (ha : YN Y a) (hb : YB Y b) (hab : a + 5 ≤ b ∨ b + 5 ≤ a) (hc : c ≤ 8) (h5 : gi X b 5 = nI c) (hF : 9 ≤ F) :
    ∃ X2, fX3_begin F X a b = some X2 ∧ shX X2 = Y ∧ frm X X2 a 5 ∧ (gi X2 a 0 = 0 ∧ gi X2 a 1 = gi X b 1 ∧ gi X2 a 2 = gi X b 2 ∧ gi X2 a 3 = 0) ∧
      ∀ h, h < 8 → (ga X2 (a + 1) h = if h < c then ga X (b + 3) h else 0) ∧ ga X2 (a + 2) h = -1 ∧ ga X2 (a + 3) h = -1 ∧ ga X2 (a + 4) h = 0 := by
  have hne : b ≠ a := by omega
  unfold fX3_begin
  simp (maxDischargeDepth := 30) only [gN ha, gB hb, sN ha, kN ha, hX, Option.bind_some, gi_pI_ne hne]
  have hX1 : shX (pI (pI (pI (pI X a 0 0) a 1 (gi X b 1)) a 2 (gi X b 2)) a 3 0) = Y := by simp (maxDischargeDepth := 30) only [kN ha, hX]
  obtain ⟨X2, r1, r2, r3, r4, r5⟩ := begin_L (F := F) ha hb hab hc F 0 _ hX1 (by simp only [gi_pI_ne hne]; exact h5) (by omega) (by omega)
  rw [show nI 0 = (0 : Int32) from rfl] at r1
  rw [r1]
  refine ⟨X2, rfl, r2, frm.trans (frm.trans (frm.trans (frm.trans (frm_pI _ (by omega)) (frm_pI _ (by omega))) (frm_pI _ (by omega))) (frm_pI _ (by omega))) r3, ?_, fun h hh => ?_⟩
  · simp only [r4]
    simp (maxDischargeDepth := 30) only [uN ha, kN ha, hX]
    exact ⟨rfl, rfl, rfl, rfl⟩
  · obtain ⟨s1, s2, s3, s4⟩ := r5 h hh
    simp only [if_pos (Nat.zero_le h), ga_pI] at s1 s2 s3 s4
    exact ⟨s1, s2, s3, s4⟩
