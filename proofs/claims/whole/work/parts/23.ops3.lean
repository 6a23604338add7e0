/-! duck, write, judge -/
theorem i_and_neg {P Q : Prop} (h : ¬ (P ∧ Q)) (hp : P) : ¬ Q := fun q => h ⟨hp, q⟩
set_option maxHeartbeats 2000000 in
theorem op_duck {F : Nat} {X : qH} {sz : Nat} (hI : Inv X sz) (mi ce : Int32) : Op sz (fun X => fX9_duck F X sz mi ce) (fun X => fX10_duck F X (sz + 151) mi ce) X := by
  obtain ⟨hW, hRl⟩ := id hI
  obtain ⟨rT, rF, rS, rB, rN, rP, rI, rD, rK⟩ := id hRl
  generalize hX : shX X = Y at hW
  obtain ⟨w9, -, -, -, -, -, -, -, -, w2, w1, wM⟩ := id hW
  obtain ⟨b, w, c, cc, po, nn, dd, hb, wB⟩ := rB.get hX hW
  obtain ⟨⟨b3, -⟩, ⟨bw, mw, hw⟩, -⟩ := hb
  obtain ⟨n, hn, d1, d2, d3⟩ := id rD
  have hin1 := fun X => l_in F X mi 0 999 (l := 0) (h := 999) rfl rfl
  have hin2 := fun X => l_in F X ce 0 (nI w - 1) (l := 0) (h := (nI w - 1).toInt64) rfl rfl
  have e : (0 ≤ ce ∧ ce ≤ nI w - 1) ↔ (0 ≤ ce ∧ ce < nI w) := by
    have h1 : (nI w - 1).toInt = (w : Int) - 1 := by
      show (nI w - nI 1).toInt = _
      rw [pk_sub_toInt (by omega) (by omega)]; rfl
    rw [Int32.le_iff_toInt_le, Int32.le_iff_toInt_le, Int32.lt_iff_toInt_lt, h1, nI_toInt (by omega)]
    omega
  simp only [e] at hin2
  by_cases hok : (0 ≤ mi ∧ mi ≤ 999) ∧ (0 ≤ ce ∧ ce < nI w)
  · obtain ⟨⟨m0, m1⟩, x0, x1⟩ := hok
    by_cases hfull : n = 6
    · subst hfull
      refine ⟨-1000000004, X, X, ?_, ?_, hI⟩
      · simp only [fX9_duck, g9 w9, gB wB, g2 w2, hX, if_neg (i_nlt.mpr m0), if_neg (i_nlt.mpr m1), if_neg (i_nlt.mpr x0), Option.bind_some, b3, bw, if_pos x1, d1]; rfl
      · simp only [fX10_duck, gM wM, hX, hin1, hin2, if_pos (And.intro m0 m1), if_pos (And.intro x0 x1), Option.bind_some, mw, d2]; rfl
    · have hlt : n < 6 := by omega
      have l6 : nI n < (6 : Int32) := nI_lt (b := 6) hlt (by decide)
      have n6 : ¬ nI n = (6 : Int32) := fun q => hfull ((nI_eq (a := n) (b := 6) (by omega) (by decide)).mp q)
      have en : nI n + 1 = nI (n + 1) := nI_1 n
      have hY1 : shX (pI (pA (pA X (sz + 144 + 1) n mi) (sz + 144 + 2) n ce) (sz + 144) 0 (nI (n + 1))) = Y := by simp (maxDischargeDepth := 30) only [k2 w2, hX]
      have fa : fX2_add F X (sz + 144) mi ce = some (pI (pA (pA X (sz + 144 + 1) n mi) (sz + 144 + 2) n ce) (sz + 144) 0 (nI (n + 1))) := by
        simp (maxDischargeDepth := 30) only [fX2_add, g2 w2, s2 w2, k2 w2, hX, Option.bind_some, d1, if_pos l6, hlt, gi_pA, qlt, en]
      have g1' : gi (pI (pA (pA X (sz + 144 + 1) n mi) (sz + 144 + 2) n ce) (sz + 144) 0 (nI (n + 1))) (sz + 144) 0 = nI (n + 1) := by simp (maxDischargeDepth := 30) only [u2 w2, k2 w2, hX, if_true]
      have f1 : fX9_duck F X sz mi ce = some (nI (n + 1), pI (pA (pA X (sz + 144 + 1) n mi) (sz + 144 + 2) n ce) (sz + 144) 0 (nI (n + 1))) := by
        simp (maxDischargeDepth := 30) only [fX9_duck, g9 w9, gB wB, g2 w2, k2 w2, hX, if_neg (i_nlt.mpr m0), if_neg (i_nlt.mpr m1), if_neg (i_nlt.mpr x0), Option.bind_some, b3, bw, if_pos x1, d1, if_pos l6, fa, g1']
      have m33 : gi (pI (pA (pA X (sz + 144 + 1) n mi) (sz + 144 + 2) n ce) (sz + 144) 0 (nI (n + 1))) (sz + 151) 33 = nI n := by rw [gi_pI_ne (by omega), gi_pA, gi_pA]; exact d2
      have m00 : gi (pI (pA (pA X (sz + 144 + 1) n mi) (sz + 144 + 2) n ce) (sz + 144) 0 (nI (n + 1))) (sz + 151) 0 = nI w := by rw [gi_pI_ne (by omega), gi_pA, gi_pA]; exact mw
      generalize hX1 : pI (pA (pA X (sz + 144 + 1) n mi) (sz + 144 + 2) n ce) (sz + 144) 0 (nI (n + 1)) = X1 at hY1 f1 m33 m00 g1'
      have f2 : fX10_duck F X1 (sz + 151) mi ce = some (nI (n + 1), pI (pA (pA X1 (sz + 151 + 20) n mi) (sz + 151 + 21) n ce) (sz + 151) 33 (nI (n + 1))) := by
        simp (maxDischargeDepth := 30) only [fX10_duck, gM wM, sM wM, kM wM, uM wM, hY1, hin1, hin2, if_pos (And.intro m0 m1), if_pos (And.intro x0 x1), Option.bind_some, m00, m33, if_neg n6, hlt, gi_pA, qlt, en, if_true, if_neg (show ¬ (1 : Int32) = 0 by decide)]
      have hY2 : shX (pI (pA (pA X1 (sz + 151 + 20) n mi) (sz + 151 + 21) n ce) (sz + 151) 33 (nI (n + 1))) = Y := by simp (maxDischargeDepth := 30) only [kM wM, hY1]
      have scM : ∀ j : Nat, gi (pI (pA (pA X1 (sz + 151 + 20) n mi) (sz + 151 + 21) n ce) (sz + 151) 33 (nI (n + 1))) (sz + 151) j = if j = 33 then nI (n + 1) else gi X (sz + 151) j := fun j => by
        simp (maxDischargeDepth := 30) only [uM wM, kM wM, hY1, gi_pA]
        rw [← hX1, gi_pI_ne (by omega), gi_pA, gi_pA]
      have t1 : ga (pI (pA (pA X1 (sz + 151 + 20) n mi) (sz + 151 + 21) n ce) (sz + 151) 33 (nI (n + 1))) (sz + 144 + 1) = upd (ga X (sz + 144 + 1)) n mi := by
        rw [ga_pI, ga_pA_ne (by omega), ga_pA_ne (by omega), ← hX1, ga_pI, ga_pA_ne (by omega)]
        simp (maxDischargeDepth := 30) only [u2 w2, hX]
      have t2 : ga (pI (pA (pA X1 (sz + 151 + 20) n mi) (sz + 151 + 21) n ce) (sz + 151) 33 (nI (n + 1))) (sz + 144 + 2) = upd (ga X (sz + 144 + 2)) n ce := by
        rw [ga_pI, ga_pA_ne (by omega), ga_pA_ne (by omega), ← hX1, ga_pI]
        simp (maxDischargeDepth := 30) only [u2 w2, k2 w2, hX]
        rw [ga_pA_ne (by omega)]
      have t3 : ga (pI (pA (pA X1 (sz + 151 + 20) n mi) (sz + 151 + 21) n ce) (sz + 151) 33 (nI (n + 1))) (sz + 151 + 20) = upd (ga X (sz + 151 + 20)) n mi := by
        rw [ga_pI, ga_pA_ne (by omega)]
        simp (maxDischargeDepth := 30) only [uM wM, hY1]
        rw [← hX1, ga_pI, ga_pA_ne (by omega), ga_pA_ne (by omega)]
      have t4 : ga (pI (pA (pA X1 (sz + 151 + 20) n mi) (sz + 151 + 21) n ce) (sz + 151) 33 (nI (n + 1))) (sz + 151 + 21) = upd (ga X (sz + 151 + 21)) n ce := by
        rw [ga_pI]
        simp (maxDischargeDepth := 30) only [uM wM, kM wM, hY1]
        rw [ga_pA_ne (by omega), ← hX1, ga_pI, ga_pA_ne (by omega), ga_pA_ne (by omega)]
      refine ⟨_, X1, _, f1, f2, by rw [hY2]; exact hW, ?_⟩
      obtain ⟨kT, kF, kS, kB, kN, kP, kI, kD, kK⟩ := keep [144, 145, 146, 171, 172] [] [33] hRl (X2 := pI (pA (pA X1 (sz + 151 + 20) n mi) (sz + 151 + 21) n ce) (sz + 151) 33 (nI (n + 1)))
        (fun o ho a0 aM => by
          simp only [List.mem_cons, List.not_mem_nil, or_false, not_or] at ho
          rw [← hX1]
          exact (pV_ne (by omega)).trans ((pA_ne (by omega)).trans ((pA_ne (by omega)).trans ((pV_ne (by omega)).trans ((pA_ne (by omega)).trans (pA_ne (by omega)))))))
        (fun j hj => by rw [gi_pI_ne (by omega), gi_pA, gi_pA, ← hX1, gi_pI_ne (by omega), gi_pA, gi_pA])
        (fun j hj => by rw [gr_pI_ne' (by omega), gr_pA, gr_pA, ← hX1, gr_pI_ne' (by omega), gr_pA, gr_pA])
        (fun j hj => by rw [scM, if_neg (by simpa using hj)])
      refine ⟨kT (by decide), kF (by decide), kS (by decide), kB (by decide), kN (by decide), kP (by decide), kI (by decide), ⟨n + 1, by omega, ?_, by rw [scM]; rfl, fun i hi => ?_⟩, kK (by decide)⟩
      · rw [gi_pI_ne (by omega), gi_pA, gi_pA]; exact g1'
      · rw [t1, t2, t3, t4]
        by_cases hin2 : i = n
        · subst hin2
          simp only [upd_self, and_self]
        · simp only [upd_ne _ hin2]
          exact d3 i (by omega)
  · refine ⟨-1000000002, X, X, ?_, ?_, hI⟩
    · simp only [fX9_duck, g9 w9, gB wB, hX, Option.bind_some, b3, bw]
      by_cases h1 : mi < 0
      · rw [if_pos h1]
      · rw [if_neg h1]
        by_cases h2 : (999 : Int32) < mi
        · rw [if_pos h2]
        · rw [if_neg h2]
          by_cases h3 : ce < 0
          · rw [if_pos h3]
          · rw [if_neg h3]
            by_cases h4 : ce < nI w
            · exact absurd ⟨⟨i_nlt.mp h1, i_nlt.mp h2⟩, i_nlt.mp h3, h4⟩ hok
            · rw [if_neg h4]
    · simp only [fX10_duck, gM wM, hX, hin1, hin2, Option.bind_some, mw]
      by_cases h1 : 0 ≤ mi ∧ mi ≤ 999
      · have h2 := i_and_neg hok h1
        simp only [if_pos h1, if_neg h2, if_neg (show ¬ (1 : Int32) = 0 by decide), if_true]
      · simp only [if_neg h1, if_true]
