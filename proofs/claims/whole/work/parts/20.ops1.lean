/-! feed, fault, seed, tear, duck, write -/
theorem l_in (F : Nat) (X : qH) (v : Int32) (lo hi : Int32) {l h : Int64} (hl : l = lo.toInt64) (hh : h = hi.toInt64) : fX10_in F X v.toInt64 l h = some (if lo ≤ v ∧ v ≤ hi then 1 else 0) := by
  rw [hl, hh]; exact in_i F X v lo hi
theorem nI_le255 (c : Int32) (h0 : ¬ c < 0) (h1 : c ≤ 255) : ∃ k : Nat, k ≤ 255 ∧ c = nI k := nI_of2 (M := 255) (n := 255) (by decide) h0 h1
theorem i_nlt {x y : Int32} : ¬ x < y ↔ y ≤ x := by rw [Int32.lt_iff_toInt_lt, Int32.le_iff_toInt_le]; omega
theorem i_nle {x y : Int32} : ¬ x ≤ y ↔ y < x := by rw [Int32.lt_iff_toInt_lt, Int32.le_iff_toInt_le]; omega
theorem gr_pI_ne' {X : qH} {a k q : Nat} (hq : q ≠ a) (v : Int32) (j : Nat) : gr (pI X a k v) q j = gr X q j := gr_congr (pV_ne hq) j
set_option maxHeartbeats 1000000 in
theorem op_feed {F : Nat} {X : qH} {sz : Nat} (hI : Inv X sz) (c : Int32) : Op sz (fun X => fX9_feed F X sz c) (fun X => fX10_feed F X (sz + 151) c) X := by
  obtain ⟨hW, hRl⟩ := id hI
  obtain ⟨rT, rF, rS, rB, rN, rP, rI, rD, rK⟩ := id hRl
  generalize hX : shX X = Y at hW
  have w9 := hW.1
  have wM := hW.2.2.2.2.2.2.2.2.2.2.2
  have hin := fun X => l_in F X c 0 255 (l := 0) (h := 255) rfl rfl
  by_cases h0 : c < 0
  · refine ⟨-1000000002, X, X, ?_, ?_, hI⟩
    · simp only [fX9_feed, g9 w9, hX, if_pos h0]
    · simp only [fX10_feed, gM wM, hX, hin, if_neg (show ¬ (0 ≤ c ∧ c ≤ 255) from fun q => absurd q.1 (i_nle.mpr h0)), Option.bind_some, if_true]
  by_cases h1 : c ≤ 255
  · obtain ⟨k, hk, rfl⟩ := nI_le255 c h0 h1
    obtain ⟨n, hn, n9, nM, tx⟩ := id rT
    have hc : (0 : Int32) ≤ nI k ∧ nI k ≤ 255 := ⟨i_nlt.mp h0, h1⟩
    by_cases hfull : n = 230
    · subst hfull
      refine ⟨-1000000004, X, X, ?_, ?_, hI⟩
      · simp only [fX9_feed, g9 w9, hX, if_neg h0, if_pos h1, Option.bind_some, n9]; rfl
      · simp only [fX10_feed, gM wM, hX, hin, if_pos hc, Option.bind_some, nM]; rfl
    · have hlt : n < 230 := by omega
      have e1 : nI n < (230 : Int32) := nI_lt (b := 230) hlt (by decide)
      have e2 : ¬ nI n = (230 : Int32) := fun q => hfull ((nI_eq (a := n) (b := 230) (by omega) (by decide)).mp q)
      have en : nI n + 1 = nI (n + 1) := nI_1 n
      have hY1 : shX (pI (pA X (sz + 1) n (nI k)) sz 1 (nI (n + 1))) = Y := by simp (maxDischargeDepth := 30) only [k9 w9, hX]
      have f1 : fX9_feed F X sz (nI k) = some (nI (n + 1), pI (pA X (sz + 1) n (nI k)) sz 1 (nI (n + 1))) := by
        simp (maxDischargeDepth := 30) only [fX9_feed, g9 w9, s9 w9, k9 w9, u9 w9, hX, if_neg h0, if_pos h1, Option.bind_some, n9, if_pos e1, hlt, gi_pA, qlt, en, if_true]
      have d1 : sz + 151 ≠ sz := by omega
      have m11 : gi (pI (pA X (sz + 1) n (nI k)) sz 1 (nI (n + 1))) (sz + 151) 11 = nI n := by rw [gi_pI_ne d1, gi_pA]; exact nM
      generalize hX1 : pI (pA X (sz + 1) n (nI k)) sz 1 (nI (n + 1)) = X1 at hY1 f1 m11
      have f2 : fX10_feed F X1 (sz + 151) (nI k) = some (nI (n + 1), pI (pA X1 (sz + 151 + 6) n (nI k)) (sz + 151) 11 (nI (n + 1))) := by
        simp (maxDischargeDepth := 30) only [fX10_feed, gM wM, sM wM, kM wM, uM wM, hY1, hin, if_pos hc, Option.bind_some, m11, if_neg e2, hlt, gi_pA, qlt, en, if_true, if_neg (show ¬ (1 : Int32) = 0 by decide)]
      have hY2 : shX (pI (pA X1 (sz + 151 + 6) n (nI k)) (sz + 151) 11 (nI (n + 1))) = Y := by simp (maxDischargeDepth := 30) only [kM wM, hY1]
      refine ⟨nI (n + 1), X1, _, f1, f2, by rw [hY2]; exact hW, ?_⟩
      have sc9 : ∀ j : Nat, gi (pI (pA X1 (sz + 151 + 6) n (nI k)) (sz + 151) 11 (nI (n + 1))) sz j = if j = 1 then nI (n + 1) else gi X sz j := fun j => by
        rw [gi_pI_ne (by omega), gi_pA, ← hX1]
        simp (maxDischargeDepth := 30) only [u9 w9, k9 w9, hX, gi_pA]
      have scM : ∀ j : Nat, gi (pI (pA X1 (sz + 151 + 6) n (nI k)) (sz + 151) 11 (nI (n + 1))) (sz + 151) j = if j = 11 then nI (n + 1) else gi X (sz + 151) j := fun j => by
        simp (maxDischargeDepth := 30) only [uM wM, kM wM, hY1, gi_pA]
        split
        · rfl
        · rw [← hX1, gi_pI_ne d1, gi_pA]
      have t1 : ga (pI (pA X1 (sz + 151 + 6) n (nI k)) (sz + 151) 11 (nI (n + 1))) (sz + 1) = upd (ga X (sz + 1)) n (nI k) := by
        rw [ga_pI, ga_pA_ne (by omega), ← hX1, ga_pI]
        simp (maxDischargeDepth := 30) only [u9 w9, hX]
      have t2 : ga (pI (pA X1 (sz + 151 + 6) n (nI k)) (sz + 151) 11 (nI (n + 1))) (sz + 151 + 6) = upd (ga X (sz + 151 + 6)) n (nI k) := by
        rw [ga_pI]
        simp (maxDischargeDepth := 30) only [uM wM, hY1]
        rw [← hX1, ga_pI, ga_pA_ne (by omega)]
      obtain ⟨kT, kF, kS, kB, kN, kP, kI, kD, kK⟩ := keep [1, 157] [1] [11] hRl (X2 := pI (pA X1 (sz + 151 + 6) n (nI k)) (sz + 151) 11 (nI (n + 1)))
        (fun o ho a0 aM => by
          simp only [List.mem_cons, List.not_mem_nil, or_false, not_or] at ho
          rw [← hX1]
          exact (pV_ne (by omega)).trans ((pA_ne (by omega)).trans ((pV_ne (by omega)).trans (pA_ne (by omega)))))
        (fun j hj => by rw [sc9, if_neg (by simpa using hj)])
        (fun j hj => by rw [gr_pI_ne' (by omega), gr_pA, ← hX1, gr_pI _ _ _ (by simpa using hj), gr_pA])
        (fun j hj => by rw [scM, if_neg (by simpa using hj)])
      refine ⟨⟨n + 1, by omega, by rw [sc9]; rfl, by rw [scM]; rfl, fun i hi => ?_⟩, kF (by decide), kS (by decide), kB (by decide), kN (by decide), kP (by decide), kI (by decide), kD (by decide), kK (by decide)⟩
      rw [t1, t2]
      by_cases hin2 : i = n
      · subst hin2
        rw [upd_self, upd_self]
        exact ⟨rfl, k, hk, rfl⟩
      · rw [upd_ne _ hin2, upd_ne _ hin2]
        exact tx i (by omega)
  · refine ⟨-1000000002, X, X, ?_, ?_, hI⟩
    · simp only [fX9_feed, g9 w9, hX, if_neg h0, if_neg h1]
    · simp only [fX10_feed, gM wM, hX, hin, if_neg (show ¬ (0 ≤ c ∧ c ≤ 255) from fun q => absurd q.2 h1), Option.bind_some, if_true]
/-- both objects' shapes: short names -/
theorem op_fault {F : Nat} {X : qH} {sz : Nat} (hI : Inv X sz) : OpR (fun X => fX9_fault F X sz) (fun X => fX10_fault F X (sz + 151)) X := by
  obtain ⟨hW, rT, rF, -⟩ := id hI
  generalize hX : shX X = Y at hW
  have w9 := hW.1
  have wM := hW.2.2.2.2.2.2.2.2.2.2.2
  refine ⟨gi X sz 2, ?_, ?_⟩
  · simp only [fX9_fault, g9 w9, hX, Option.bind_some]
  · simp only [fX10_fault, gM wM, hX, Option.bind_some]
    exact congrArg some rF.symm
set_option maxHeartbeats 1000000 in
theorem op_seed {F : Nat} {X : qH} {sz : Nat} (hI : Inv X sz) (v : Int32) : Op sz (fun X => fX9_seed F X sz v) (fun X => fX10_seed F X (sz + 151) v) X := by
  obtain ⟨hW, hRl⟩ := id hI
  obtain ⟨rT, rF, rS, -⟩ := id hRl
  generalize hX : shX X = Y at hW
  have w9 := hW.1
  have wM := hW.2.2.2.2.2.2.2.2.2.2.2
  by_cases h0 : v < 0
  · refine ⟨-1000000002, X, X, ?_, ?_, hI⟩
    · simp only [fX9_seed, g9 w9, hX, if_neg (i_nle.mpr h0)]
    · simp only [fX10_seed, gM wM, hX, if_neg (i_nle.mpr h0)]
  · have h1 : (0 : Int32) ≤ v := i_nlt.mp h0
    have d1 : sz + 151 ≠ sz := by omega
    have d2 : sz ≠ sz + 151 := by omega
    have hY1 : shX (pI X sz 5 v) = Y := by simp only [k9 w9, hX]
    have hY2 : shX (pI (pI X sz 5 v) (sz + 151) 9 v) = Y := by simp (maxDischargeDepth := 30) only [kM wM, hY1]
    refine ⟨gi X sz 5, pI X sz 5 v, pI (pI X sz 5 v) (sz + 151) 9 v, ?_, ?_, by rw [hY2]; exact hW, ?_⟩
    · simp only [fX9_seed, g9 w9, s9 w9, hX, if_pos h1, Option.bind_some]
    · simp only [fX10_seed, gM wM, sM wM, hY1, if_pos h1, Option.bind_some, gi_pI_ne d1, rS.1]
    · obtain ⟨kT, kF, kS, kB, kN, kP, kI, kD, kK⟩ := keep [] [5] [9] hRl (X2 := pI (pI X sz 5 v) (sz + 151) 9 v)
        (fun o ho a0 aM => (pV_ne (by omega)).trans (pV_ne (by omega)))
        (fun j hj => by rw [gi_pI_ne d2]; simp only [u9 w9, hX]; rw [if_neg (by simpa using hj)])
        (fun j hj => by rw [gr_pI_ne' d2, gr_pI _ _ _ (by simpa using hj)])
        (fun j hj => by simp only [uM wM, hY1]; rw [if_neg (by simpa using hj), gi_pI_ne d1])
      refine ⟨kT (by decide), kF (by decide), ?_, kB (by decide), kN (by decide), kP (by decide), kI (by decide), kD (by decide), kK (by decide)⟩
      show gi _ sz 5 = gi _ (sz + 151) 9 ∧ 0 ≤ gi _ sz 5
      rw [gi_pI_ne d2]
      simp only [u9 w9, uM wM, hX, hY1]
      exact ⟨rfl, h1⟩
