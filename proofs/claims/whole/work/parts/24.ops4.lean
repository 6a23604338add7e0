/-! write -/
set_option maxHeartbeats 2000000 in
theorem op_write {F : Nat} {X : qH} {sz : Nat} (hI : Inv X sz) (u v t : Int32) (ht : t = 0 ∨ t = 1) : Op sz (fun X => fX9_write F X sz u v t) (fun X => fX10_write F X (sz + 151) u v t) X := by
  obtain ⟨hW, hRl⟩ := id hI
  obtain ⟨rT, rF, rS, rB, rN, rP, rI, rD, rK⟩ := id hRl
  generalize hX : shX X = Y at hW
  obtain ⟨w9, -, -, -, -, -, -, -, -, w2, w1, wM⟩ := id hW
  obtain ⟨b, w, c, cc, po, nn, dd, hb, wB⟩ := rB.get hX hW
  obtain ⟨⟨b3, -⟩, -, ⟨bc, mc, c8, -⟩, -⟩ := hb
  obtain ⟨n, c', hn, c8', mc', d1, d2, d3⟩ := id rK
  have hcc : c' = c := (nI_eq (by omega) (by omega)).mp (mc'.symm.trans mc)
  subst hcc
  have ht2 := hasTwo_ok (F := F) hX wB bc u v
  by_cases hok : (0 ≤ u ∧ u < nI c') ∧ (0 ≤ v ∧ v < nI c') ∧ u ≠ v
  · rw [if_pos hok] at ht2
    by_cases hfull : n = 15
    · subst hfull
      have ha2 := areTwo_ok (F := F) hX wM mc c8 u v
      rw [if_pos hok] at ha2
      refine ⟨-1000000004, X, X, ?_, ?_, hI⟩
      · simp only [fX9_write, g9 w9, g1 w1, hX, Option.bind_some, b3, ht2, d1]; rfl
      · simp only [fX10_write, gM wM, hX, ha2, Option.bind_some, d2]; rfl
    · have hlt : n < 15 := by omega
      have l6 : nI n < (15 : Int32) := nI_lt (b := 15) hlt (by decide)
      have n6 : ¬ nI n = (15 : Int32) := fun q => hfull ((nI_eq (a := n) (b := 15) (by omega) (by decide)).mp q)
      have en : nI n + 1 = nI (n + 1) := nI_1 n
      have hY1 : shX (pI (pA (pA (pA X (sz + 147 + 1) n u) (sz + 147 + 2) n v) (sz + 147 + 3) n t) (sz + 147) 0 (nI (n + 1))) = Y := by simp (maxDischargeDepth := 30) only [k1 w1, hX]
      have fa : fX1_add F X (sz + 147) u v t = some (pI (pA (pA (pA X (sz + 147 + 1) n u) (sz + 147 + 2) n v) (sz + 147 + 3) n t) (sz + 147) 0 (nI (n + 1))) := by
        simp (maxDischargeDepth := 30) only [fX1_add, g1 w1, s1 w1, k1 w1, hX, Option.bind_some, d1, if_pos l6, hlt, gi_pA, qlt, en, ht]
      have g1' : gi (pI (pA (pA (pA X (sz + 147 + 1) n u) (sz + 147 + 2) n v) (sz + 147 + 3) n t) (sz + 147) 0 (nI (n + 1))) (sz + 147) 0 = nI (n + 1) := by simp (maxDischargeDepth := 30) only [u1 w1, k1 w1, hX, if_true]
      have f1 : fX9_write F X sz u v t = some (nI (n + 1), pI (pA (pA (pA X (sz + 147 + 1) n u) (sz + 147 + 2) n v) (sz + 147 + 3) n t) (sz + 147) 0 (nI (n + 1))) := by
        simp (maxDischargeDepth := 30) only [fX9_write, g9 w9, g1 w1, k1 w1, hX, Option.bind_some, b3, ht2, if_neg (show ¬ (1 : Int32) = 0 by decide), d1, if_pos l6, fa, g1']
      have m36 : gi (pI (pA (pA (pA X (sz + 147 + 1) n u) (sz + 147 + 2) n v) (sz + 147 + 3) n t) (sz + 147) 0 (nI (n + 1))) (sz + 151) 36 = nI n := by rw [gi_pI_ne (by omega), gi_pA, gi_pA, gi_pA]; exact d2
      have m01 : gi (pI (pA (pA (pA X (sz + 147 + 1) n u) (sz + 147 + 2) n v) (sz + 147 + 3) n t) (sz + 147) 0 (nI (n + 1))) (sz + 151) 1 = nI c' := by rw [gi_pI_ne (by omega), gi_pA, gi_pA, gi_pA]; exact mc
      generalize hX1 : pI (pA (pA (pA X (sz + 147 + 1) n u) (sz + 147 + 2) n v) (sz + 147 + 3) n t) (sz + 147) 0 (nI (n + 1)) = X1 at hY1 f1 m36 m01 g1'
      have ha2 := areTwo_ok (F := F) hY1 wM m01 c8 u v
      rw [if_pos hok] at ha2
      have f2 : fX10_write F X1 (sz + 151) u v t = some (nI (n + 1), pI (pA (pA (pA X1 (sz + 151 + 22) n u) (sz + 151 + 23) n v) (sz + 151 + 24) n t) (sz + 151) 36 (nI (n + 1))) := by
        simp (maxDischargeDepth := 30) only [fX10_write, gM wM, sM wM, kM wM, uM wM, hY1, ha2, Option.bind_some, m36, if_neg n6, hlt, gi_pA, qlt, en, if_true, if_neg (show ¬ (1 : Int32) = 0 by decide), ht]
      have hY2 : shX (pI (pA (pA (pA X1 (sz + 151 + 22) n u) (sz + 151 + 23) n v) (sz + 151 + 24) n t) (sz + 151) 36 (nI (n + 1))) = Y := by simp (maxDischargeDepth := 30) only [kM wM, hY1]
      have scM : ∀ j : Nat, gi (pI (pA (pA (pA X1 (sz + 151 + 22) n u) (sz + 151 + 23) n v) (sz + 151 + 24) n t) (sz + 151) 36 (nI (n + 1))) (sz + 151) j = if j = 36 then nI (n + 1) else gi X (sz + 151) j := fun j => by
        simp (maxDischargeDepth := 30) only [uM wM, kM wM, hY1, gi_pA]
        rw [← hX1, gi_pI_ne (by omega), gi_pA, gi_pA, gi_pA]
      have t1 : ga (pI (pA (pA (pA X1 (sz + 151 + 22) n u) (sz + 151 + 23) n v) (sz + 151 + 24) n t) (sz + 151) 36 (nI (n + 1))) (sz + 147 + 1) = upd (ga X (sz + 147 + 1)) n u := by
        rw [ga_pI, ga_pA_ne (by omega), ga_pA_ne (by omega), ga_pA_ne (by omega), ← hX1, ga_pI, ga_pA_ne (by omega), ga_pA_ne (by omega)]
        simp (maxDischargeDepth := 30) only [u1 w1, hX]
      have t2 : ga (pI (pA (pA (pA X1 (sz + 151 + 22) n u) (sz + 151 + 23) n v) (sz + 151 + 24) n t) (sz + 151) 36 (nI (n + 1))) (sz + 147 + 2) = upd (ga X (sz + 147 + 2)) n v := by
        rw [ga_pI, ga_pA_ne (by omega), ga_pA_ne (by omega), ga_pA_ne (by omega), ← hX1, ga_pI, ga_pA_ne (by omega)]
        simp (maxDischargeDepth := 30) only [u1 w1, k1 w1, hX]
        rw [ga_pA_ne (by omega)]
      have t3 : ga (pI (pA (pA (pA X1 (sz + 151 + 22) n u) (sz + 151 + 23) n v) (sz + 151 + 24) n t) (sz + 151) 36 (nI (n + 1))) (sz + 147 + 3) = upd (ga X (sz + 147 + 3)) n t := by
        rw [ga_pI, ga_pA_ne (by omega), ga_pA_ne (by omega), ga_pA_ne (by omega), ← hX1, ga_pI]
        simp (maxDischargeDepth := 30) only [u1 w1, k1 w1, hX]
        rw [ga_pA_ne (by omega), ga_pA_ne (by omega)]
      have t4 : ga (pI (pA (pA (pA X1 (sz + 151 + 22) n u) (sz + 151 + 23) n v) (sz + 151 + 24) n t) (sz + 151) 36 (nI (n + 1))) (sz + 151 + 22) = upd (ga X (sz + 151 + 22)) n u := by
        rw [ga_pI, ga_pA_ne (by omega), ga_pA_ne (by omega)]
        simp (maxDischargeDepth := 30) only [uM wM, hY1]
        rw [← hX1, ga_pI, ga_pA_ne (by omega), ga_pA_ne (by omega), ga_pA_ne (by omega)]
      have t5 : ga (pI (pA (pA (pA X1 (sz + 151 + 22) n u) (sz + 151 + 23) n v) (sz + 151 + 24) n t) (sz + 151) 36 (nI (n + 1))) (sz + 151 + 23) = upd (ga X (sz + 151 + 23)) n v := by
        rw [ga_pI, ga_pA_ne (by omega)]
        simp (maxDischargeDepth := 30) only [uM wM, kM wM, hY1]
        rw [ga_pA_ne (by omega), ← hX1, ga_pI, ga_pA_ne (by omega), ga_pA_ne (by omega), ga_pA_ne (by omega)]
      have t6 : ga (pI (pA (pA (pA X1 (sz + 151 + 22) n u) (sz + 151 + 23) n v) (sz + 151 + 24) n t) (sz + 151) 36 (nI (n + 1))) (sz + 151 + 24) = upd (ga X (sz + 151 + 24)) n t := by
        rw [ga_pI]
        simp (maxDischargeDepth := 30) only [uM wM, kM wM, hY1]
        rw [ga_pA_ne (by omega), ga_pA_ne (by omega), ← hX1, ga_pI, ga_pA_ne (by omega), ga_pA_ne (by omega), ga_pA_ne (by omega)]
      refine ⟨_, X1, _, f1, f2, by rw [hY2]; exact hW, ?_⟩
      obtain ⟨kT, kF, kS, kB, kN, kP, kI, kD, kK⟩ := keep [147, 148, 149, 150, 173, 174, 175] [] [36] hRl (X2 := pI (pA (pA (pA X1 (sz + 151 + 22) n u) (sz + 151 + 23) n v) (sz + 151 + 24) n t) (sz + 151) 36 (nI (n + 1)))
        (fun o ho a0 aM => by
          simp only [List.mem_cons, List.not_mem_nil, or_false, not_or] at ho
          rw [← hX1]
          exact (pV_ne (by omega)).trans ((pA_ne (by omega)).trans ((pA_ne (by omega)).trans ((pA_ne (by omega)).trans ((pV_ne (by omega)).trans ((pA_ne (by omega)).trans ((pA_ne (by omega)).trans (pA_ne (by omega)))))))))
        (fun j hj => by rw [gi_pI_ne (by omega), gi_pA, gi_pA, gi_pA, ← hX1, gi_pI_ne (by omega), gi_pA, gi_pA, gi_pA])
        (fun j hj => by rw [gr_pI_ne' (by omega), gr_pA, gr_pA, gr_pA, ← hX1, gr_pI_ne' (by omega), gr_pA, gr_pA, gr_pA])
        (fun j hj => by rw [scM, if_neg (by simpa using hj)])
      refine ⟨kT (by decide), kF (by decide), kS (by decide), kB (by decide), kN (by decide), kP (by decide), kI (by decide), kD (by decide), ⟨n + 1, c', by omega, c8, by rw [scM]; exact mc, ?_, by rw [scM]; rfl, fun i hi => ?_⟩⟩
      · rw [gi_pI_ne (by omega), gi_pA, gi_pA, gi_pA]; exact g1'
      · rw [t1, t2, t3, t4, t5, t6]
        by_cases hin2 : i = n
        · subst hin2
          simp only [upd_self]
          obtain ⟨p, hp, rfl⟩ := nI_of (i_nlt.mpr hok.1.1)
          obtain ⟨q, hq, rfl⟩ := nI_of (i_nlt.mpr hok.2.1.1)
          have hpc := (nI_ltI hp (by omega)).mp hok.1.2
          have hqc := (nI_ltI hq (by omega)).mp hok.2.1.2
          exact ⟨trivial, trivial, trivial, ht, p, q, hpc, hqc, fun e => hok.2.2 (by rw [e]), rfl, rfl⟩
        · simp only [upd_ne _ hin2]
          exact d3 i (by omega)
  · rw [if_neg hok] at ht2
    have ha2 := areTwo_ok (F := F) hX wM mc c8 u v
    rw [if_neg hok] at ha2
    refine ⟨-1000000001, X, X, ?_, ?_, hI⟩
    · simp only [fX9_write, g9 w9, hX, Option.bind_some, b3, ht2, if_true]
    · simp only [fX10_write, gM wM, hX, ha2, Option.bind_some, if_true]
