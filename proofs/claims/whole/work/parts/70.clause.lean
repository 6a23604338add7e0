/-! bay: a clause -/
set_option maxHeartbeats 1000000 in
theorem cl_all {F : Nat} {Xc Xm Y : qH} {sz b N p : Nat} {tx : Nat → Nat} (hW : YW Y sz) (wB : YB Y b) (hb : sz + 2 ≤ b ∧ b + 5 ≤ sz + 12) (hF : 1000 ≤ F) (hJ : JS Y sz b N tx p Xc Xm) (hpN : p < N) (hbl : tx p ≠ 32) :
    ∃ Xc2 Xm2 f, fX6_readClause F Xc (sz + 12) b = some Xc2 ∧ fX10_takeClause F Xm (sz + 151) = some (nI f, Xm2) ∧ JR Y sz b N tx p Xc Xm f Xc2 Xm2 := by
  obtain ⟨w9, -, -, w6, -, -, -, -, -, -, -, wM⟩ := id hW
  obtain ⟨w, fo, wi, cnt, sm, da, hs, hd, ce, po, ro, nn, dd, hR, hP, hC, hXm, hT, h13, hM⟩ := id hJ
  have hr0 := hR.2.2.1
  have h2 := hR.2.2.2.2.1.1
  have hN := hT.2.1
  have hx := hR.2.2.2.2.2.2.2.2 p hpN
  have l230 : p < 230 := by omega
  have hpre : ∀ r, (if nI (tx p) = (98 : Int32) then (fX6_readCells F Xc (sz + 12) b) else if gi Xc b 0 = (0 : Int32) then (fX6_fail F Xc (sz + 12) (1 : Int32) (nI p)) else if nI (tx p) = (103 : Int32) then (fX6_readDamp F Xc (sz + 12) b) else if nI (tx p) = (104 : Int32) then (fX6_readHouse F Xc (sz + 12) b) else if nI (tx p) = (109 : Int32) then (fX6_readSmoke F Xc (sz + 12) b) else (fX6_fail F Xc (sz + 12) (1 : Int32) (nI p))) = some r → fX6_readClause F Xc (sz + 12) b = some r := fun r hr => by
    simp only [fX6_readClause, g6 w6, g9 w9, gB wB, hR.1, Option.bind_some, hr0, h2, l230, hx.1, qlab]
    by_cases q1 : nI (tx p) = (98 : Int32)
    · rw [if_pos q1] at hr
      simp only [if_pos q1, hr, Option.bind_some]
    · rw [if_neg q1] at hr
      simp only [if_neg q1]
      by_cases q2 : gi Xc b 0 = (0 : Int32)
      · rw [if_pos q2] at hr
        simp only [if_pos q2, hr, Option.bind_some]
      · rw [if_neg q2] at hr
        simp only [if_neg q2]
        by_cases q3 : nI (tx p) = (103 : Int32)
        · rw [if_pos q3] at hr
          simp only [if_pos q3, hr, Option.bind_some]
        · rw [if_neg q3] at hr
          simp only [if_neg q3]
          by_cases q4 : nI (tx p) = (104 : Int32)
          · rw [if_pos q4] at hr
            simp only [if_pos q4, hr, Option.bind_some]
          · rw [if_neg q4] at hr
            simp only [if_neg q4]
            by_cases q5 : nI (tx p) = (109 : Int32)
            · rw [if_pos q5] at hr
              simp only [if_pos q5, hr, Option.bind_some]
            · rw [if_neg q5] at hr
              simp only [if_neg q5, hr, Option.bind_some]
  have e98 := nI_eq (b := 98) (show tx p < 2 ^ 31 by omega) (by omega)
  have e103 := nI_eq (b := 103) (show tx p < 2 ^ 31 by omega) (by omega)
  have e104 := nI_eq (b := 104) (show tx p < 2 ^ 31 by omega) (by omega)
  have e109 := nI_eq (b := 109) (show tx p < 2 ^ 31 by omega) (by omega)
  rw [show nI 98 = (98 : Int32) from rfl] at e98
  rw [show nI 103 = (103 : Int32) from rfl] at e103
  rw [show nI 104 = (104 : Int32) from rfl] at e104
  rw [show nI 109 = (109 : Int32) from rfl] at e109
  by_cases t98 : tx p = 98
  · obtain ⟨Xc2, Xm2, f, r1, r2, r3⟩ := cl_b (F := F) hW wB hb hF hJ hpN t98
    exact ⟨Xc2, Xm2, f, hpre _ (by rw [if_pos (e98.mpr t98)]; exact r1), r2, r3⟩
  · have n98 : ¬ nI (tx p) = (98 : Int32) := fun y => t98 (e98.mp y)
    obtain ⟨X2, k1, k2, k3⟩ := m_here (F := F) wM hXm hT h13 (by omega) hF
    have hsk : sk tx N p = p := sk_stay (fun y => hbl y.2)
    have hv : hvI tx N p = nI (tx p) := by unfold hvI; rw [hsk, if_pos hpN]
    rw [hv] at k1
    rw [hsk] at k3
    have m0' : ga X2 (sz + 151 + 7) 0 = nI w := by rw [ga_congr (k2.2.1 _ (by omega))]; exact hM.1.1
    obtain ⟨f1, f2, f3⟩ := m_fails (F := F) wM k2.1 (1 : Int32) (nI p)
    obtain ⟨Xf, g1, g2⟩ := c_fail (F := F) w6 hR (k := 1) (by omega) (nI p)
    have g1' : fX6_fail F Xc (sz + 12) (1 : Int32) (nI p) = some Xf := g1
    have fin : fX6_readClause F Xc (sz + 12) b = some Xf → fX10_takeClause F Xm (sz + 151) = some ((1 : Int32), pI X2 (sz + 151) 12 (nI p)) → ∃ Xc2 Xm2 f, fX6_readClause F Xc (sz + 12) b = some Xc2 ∧ fX10_takeClause F Xm (sz + 151) = some (nI f, Xm2) ∧ JR Y sz b N tx p Xc Xm f Xc2 Xm2 := fun r1 r2 =>
      ⟨Xf, pI X2 (sz + 151) 12 (nI p), 1, r1, r2, g2.1, g2.FC, f2.1, (k2.FM (by decide)).trans (f2.FM (by decide)), Or.inr ⟨by omega, by omega, ⟨_, _, g2⟩, g2.2.2.2.2.2.1, p, g2.2.2.2.2.2.2.1, f3⟩⟩
    by_cases t4 : tx p = 103 ∨ tx p = 104 ∨ tx p = 109
    · by_cases q2 : gi Xc b 0 = (0 : Int32)
      · have w0 : nI w = (0 : Int32) := by rw [← hC.1.1]; exact q2
        refine fin (hpre _ (by rw [if_neg n98, if_pos q2]; exact g1')) ?_
        rcases t4 with t | t | t
        · rw [t] at k1
          have k1' : fX10_here F Xm (sz + 151) = some ((103 : Int32), X2) := k1
          simp only [fX10_takeClause, gM wM, m7 wM, hXm, k1', qb2, Option.bind_some, if_neg (show ¬ (103 : Int32) = 98 by decide), if_neg (show ¬ (103 : Int32) = 104 by decide), if_neg (show ¬ (103 : Int32) = 109 by decide), if_true, qlab, k2.1, m0', w0, k3, f1, if_neg (show ¬ (3 : Int32) < 0 by decide), if_neg (show ¬ (3 : Int32) ≤ 0 by decide)]
        · rw [t] at k1
          have k1' : fX10_here F Xm (sz + 151) = some ((104 : Int32), X2) := k1
          simp only [fX10_takeClause, gM wM, m7 wM, hXm, k1', qb2, Option.bind_some, if_neg (show ¬ (104 : Int32) = 98 by decide), if_true, qlab, k2.1, m0', w0, k3, f1, if_neg (show ¬ (1 : Int32) < 0 by decide), if_neg (show ¬ (1 : Int32) ≤ 0 by decide)]
        · rw [t] at k1
          have k1' : fX10_here F Xm (sz + 151) = some ((109 : Int32), X2) := k1
          simp only [fX10_takeClause, gM wM, m7 wM, hXm, k1', qb2, Option.bind_some, if_neg (show ¬ (109 : Int32) = 98 by decide), if_neg (show ¬ (109 : Int32) = 104 by decide), if_true, qlab, k2.1, m0', w0, k3, f1, if_neg (show ¬ (2 : Int32) < 0 by decide), if_neg (show ¬ (2 : Int32) ≤ 0 by decide)]
      · by_cases t103 : tx p = 103
        · obtain ⟨Xc2, Xm2, f, r1, r2, r3⟩ := cl_g (F := F) hW wB hb hF hJ hpN q2 t103
          exact ⟨Xc2, Xm2, f, hpre _ (by rw [if_neg n98, if_neg q2, if_pos (e103.mpr t103)]; exact r1), r2, r3⟩
        · by_cases t104 : tx p = 104
          · obtain ⟨Xc2, Xm2, f, r1, r2, r3⟩ := cl_h (F := F) hW wB hb hF hJ hpN q2 t104
            exact ⟨Xc2, Xm2, f, hpre _ (by rw [if_neg n98, if_neg q2, if_neg (fun y => t103 (e103.mp y)), if_pos (e104.mpr t104)]; exact r1), r2, r3⟩
          · have t109 : tx p = 109 := by omega
            obtain ⟨Xc2, Xm2, f, r1, r2, r3⟩ := cl_m (F := F) hW wB hb hF hJ hpN q2 t109
            exact ⟨Xc2, Xm2, f, hpre _ (by rw [if_neg n98, if_neg q2, if_neg (fun y => t103 (e103.mp y)), if_neg (fun y => t104 (e104.mp y)), if_pos (e109.mpr t109)]; exact r1), r2, r3⟩
    · have n103 : ¬ nI (tx p) = (103 : Int32) := fun y => t4 (Or.inl (e103.mp y))
      have n104 : ¬ nI (tx p) = (104 : Int32) := fun y => t4 (Or.inr (Or.inl (e104.mp y)))
      have n109 : ¬ nI (tx p) = (109 : Int32) := fun y => t4 (Or.inr (Or.inr (e109.mp y)))
      refine fin (hpre _ ?_) ?_
      · rw [if_neg n98, if_neg n103, if_neg n104, if_neg n109, ite_self]
        exact g1'
      · simp only [fX10_takeClause, gM wM, hXm, k1, qb2, Option.bind_some, if_neg n98, if_neg n103, if_neg n104, if_neg n109, qlab, k2.1, k3, f1, if_pos (show (-1 : Int32) < 0 by decide)]
