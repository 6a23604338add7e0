/-! bay: the clause b -/
def sfx (F m : Nat) (v17 : Int32) (X18 : qH) : Option (Int32 × qH) := qlab (fun (X19 : qH) => (qgI X19 9 m 13).bind fun v20 => qlt (v20 + (1 : Int32)) fun v21 => (qpI X19 9 m 13 v21).bind fun X22 => some (v17, X22)) fun J28 => if v17 = (0 : Int32) then (qb2 (fX10_here F X18 m) fun v23 X24 => if v23 = (59 : Int32) then (J28 X24) else ((qgI X24 9 m 13).bind fun v25 => qb2 (fX10_fails F X24 m (1 : Int32) v25) fun v26 X27 => some (v26, X27))) else (J28 X18)
theorem sfx_0 {F : Nat} {X Y : qH} {m N e : Nat} {tx : Nat → Nat} (wM : YM Y m) (hX : shX X = Y) (hT : MT X m N tx) (he : gi X m 13 = nI e) (heN : e ≤ N) (hF : 1000 ≤ F) :
    ((sk tx N e < N ∧ tx (sk tx N e) = 59) → ∃ X2, sfx F m 0 X = some (nI 0, X2) ∧ MS [13] Y X m X2 ∧ gi X2 m 13 = nI (sk tx N e + 1)) ∧
    (¬ (sk tx N e < N ∧ tx (sk tx N e) = 59) → ∃ X2, sfx F m 0 X = some (nI 1, X2) ∧ MS [12, 13] Y X m X2 ∧ gi X2 m 12 = nI (sk tx N e)) := by
  obtain ⟨X24, a1, a2, a3⟩ := m_here (F := F) wM hX hT he heN hF
  constructor
  · intro ze
    have hv : hvI tx N e = (59 : Int32) := by unfold hvI; rw [if_pos ze.1, ze.2]; rfl
    have s24 := a2.pI wM (k := 13) (v := nI (sk tx N e + 1)) (by decide) (by simp only [kM wM, a2.1]) (fun j => by simp only [uM wM, a2.1])
    refine ⟨pI X24 m 13 (nI (sk tx N e + 1)), ?_, s24, by simp only [uM wM, a2.1, if_true]⟩
    simp only [sfx, qlab, if_true, a1, qb2, Option.bind_some, hv, gM wM, sM wM, a2.1, a3, qlt, nI_1]
    rfl
  · intro ze
    obtain ⟨f1, f2, f3⟩ := m_fails (F := F) wM a2.1 (1 : Int32) (nI (sk tx N e))
    have hv : ¬ hvI tx N e = (59 : Int32) := by
      unfold hvI
      by_cases y : sk tx N e < N
      · have t2 := (hT.2.2 _ y).2
        rw [if_pos y]
        exact fun u => ze ⟨y, (nI_eq (b := 59) (by omega) (by omega)).mp u⟩
      · rw [if_neg y]; decide
    refine ⟨pI X24 m 12 (nI (sk tx N e)), ?_, (a2.mono (by decide)).trans (f2.mono (by decide)), f3⟩
    simp only [sfx, qlab, if_true, a1, qb2, Option.bind_some, if_neg hv, gM wM, a2.1, a3, f1]
    rfl
theorem sfx_1 {F : Nat} {X Y : qH} {m f : Nat} (wM : YM Y m) (hX : shX X = Y) (hf : 0 < f ∧ f < 10) : ∃ X2, sfx F m (nI f) X = some (nI f, X2) ∧ MS [13] Y X m X2 := by
  have nz : ¬ nI f = (0 : Int32) := nI_ne0 hf.1 (by omega)
  have s13 := (MS.rfl' (m := m) hX [13]).pI wM (k := 13) (v := gi X m 13 + 1) (by decide) (by simp only [kM wM, hX]) (fun j => by simp only [uM wM, hX])
  refine ⟨pI X m 13 (gi X m 13 + 1), ?_, s13⟩
  simp only [sfx, qlab, if_neg nz, gM wM, sM wM, hX, Option.bind_some, qlt]
theorem nmF_10 {tx : Nat → Nat} {N lo hi p : Nat} (h : nmF tx N lo hi p ≠ 0) : 0 < nmF tx N lo hi p ∧ nmF tx N lo hi p < 10 := by
  refine ⟨by omega, ?_⟩
  unfold nmF
  split
  · omega
  · split <;> omega
theorem nmF_in {tx : Nat → Nat} {N lo hi p : Nat} (h : nmF tx N lo hi p = 0) : lo ≤ nmV tx N p ∧ nmV tx N p ≤ hi := by
  unfold nmF at h
  split at h
  · omega
  · split at h
    · rename_i y; exact y.2
    · omega
theorem nmE_ge {tx : Nat → Nat} {N p : Nat} (hp : p ≤ N) : p ≤ nmE tx N p := by
  have := sk_in (tx := tx) _ p rfl hp
  unfold nmE
  omega
/-- into a row of the model: the number, the frame, the place -/
theorem m_intoE {F : Nat} {X Y : qH} {m N p ar k len lo hi : Nat} {tx : Nat → Nat} (wM : YM Y m) (hX : shX X = Y) (hT : MT X m N tx) (hp : gi X m 13 = nI p) (hpN : p ≤ N) (hlo : lo < 1000) (hhi : hi < 1000) (hF : 1000 ≤ F) (hA : Y ar = some (.inl (0, len, .inl (fun _ => 0)))) (hlen : len < 2 ^ 31) (hk : k < len) (har : m + 7 ≤ ar ∧ ar < m + 15) :
    ∃ X2, fX10_into F X m ar (nI k) (nI lo) (nI hi) = some (nI (nmF tx N lo hi p), X2) ∧ shX X2 = Y ∧ FM m X X2 ∧ (∀ y : Nat, y ≠ m → y ≠ ar → X2 y = X y) ∧ (∀ j : Nat, j ≠ 12 → j ≠ 13 → j ≠ 14 → j ≠ 15 → gi X2 m j = gi X m j) ∧ (∀ i : Nat, i ≠ k → ga X2 ar i = ga X ar i) ∧
      (nmF tx N lo hi p = 0 → gi X2 m 12 = gi X m 12 ∧ gi X2 m 13 = nI (nmE tx N p) ∧ gi X2 m 14 = nI (nmV tx N p) ∧ gi X2 m 15 = nI (sk tx N p) ∧ ga X2 ar k = nI (nmV tx N p)) ∧ (nmF tx N lo hi p ≠ 0 → gi X2 m 12 = nI (sk tx N p)) := by
  obtain ⟨Xn, q1, q2, q3, q4⟩ := m_num (F := F) (lo := lo) (hi := hi) wM hX hT hp hpN hlo hhi hF
  refine ⟨pA Xn ar k (gi Xn m 14), m_into (F := F) wM hX q1 q2.1 (fun x => qaS_Y q2.1 hA hlen hk x), shX_pA q2.1 hA _ _, (q2.FM (by decide)).pA har, fun y y1 y2 => (pA_ne y2).trans (q2.2.1 y y1), fun j j1 j2 j3 j4 => by rw [gi_pA]; exact q2.2.2 j (by simp [j1, j2, j3, j4]), fun i hi => by rw [ga_pA_self q2.1 hA, upd_ne _ hi, ga_congr (q2.2.1 ar (by omega))], fun y => ⟨by rw [gi_pA]; exact (q3 y).1, by rw [gi_pA]; exact (q3 y).2.1, by rw [gi_pA]; exact (q3 y).2.2.1, by rw [gi_pA]; exact (q3 y).2.2.2, by rw [ga_pA_self q2.1 hA, upd_self]; exact (q3 y).2.2.1⟩, fun y => by rw [gi_pA]; exact q4 y⟩
set_option maxHeartbeats 2000000 in
theorem cl_b {F : Nat} {Xc Xm Y : qH} {sz b N p : Nat} {tx : Nat → Nat} (hW : YW Y sz) (wB : YB Y b) (hb : sz + 2 ≤ b ∧ b + 5 ≤ sz + 12) (hF : 1000 ≤ F) (hJ : JS Y sz b N tx p Xc Xm) (hpN : p < N) (htx : tx p = 98) :
    ∃ Xc2 Xm2 f, fX6_readCells F Xc (sz + 12) b = some Xc2 ∧ fX10_takeClause F Xm (sz + 151) = some (nI f, Xm2) ∧ JR Y sz b N tx p Xc Xm f Xc2 Xm2 := by
  obtain ⟨w, fo, wi, cnt, sm, da, hs, hd, ce, po, ro, nn, dd, hR, hP, hC, hXm, hT, h13, hM⟩ := hJ
  obtain ⟨w9, -, -, w6, -, -, -, -, -, -, -, wM⟩ := id hW
  obtain ⟨⟨c0, c1, c2, c3, c4, c5⟩, ⟨c6, c7⟩, c8⟩ := id hC
  obtain ⟨⟨m0, m1, m2⟩, ⟨m17, m25, m26⟩, ⟨m13, m14⟩, mg⟩ := id hM
  have hw30 := hP.1.1
  have hN := hT.2.1
  obtain ⟨X2, k1, k2, k3, k25, k26, ka, kb, kc, kd, ke, kf, kg, kh⟩ := m_pre (F := F) (v25 := hs) (v26 := hd) wM hXm hT h13 hpN (by omega) hF m25 m26
  rw [htx] at k1
  have k1' : fX10_here F Xm (sz + 151) = some ((98 : Int32), X2) := k1
  have m0' : ga X2 (sz + 151 + 7) 0 = nI w := by rw [ga_congr (k2.2.1 _ (by omega))]; exact m0
  by_cases hw0 : w = 0
  · subst hw0
    have z0 : nI 0 ≤ (0 : Int32) := by decide
    obtain ⟨⟨Xd, d1, d2⟩, -⟩ := c_word (F := F) w6 hR hpN
    have hcn : cnt = 0 := (hP.2.1 rfl).1
    -- the model, up to the numbers
    have mpre : ∀ f X18, fX10_takeBay F (pI (pI (pI X2 (sz + 151) 13 (nI (p + 1))) (sz + 151) 25 (bI hs)) (sz + 151) 26 (bI hd)) (sz + 151) = some (f, X18) → fX10_takeClause F Xm (sz + 151) = sfx F (sz + 151) f X18 := fun f X18 hz => by
      have e25 : (if gi (pI X2 (sz + 151) 13 (nI (p + 1))) (sz + 151) 25 = (0 : Int32) then (some (0 : Int32) : Option Int32) else some 1) = some (bI hs) := by
        rw [kb]
        cases hs <;> rfl
      have e26 : (if gi (pI (pI X2 (sz + 151) 13 (nI (p + 1))) (sz + 151) 25 (bI hs)) (sz + 151) 26 = (0 : Int32) then (some (0 : Int32) : Option Int32) else some 1) = some (bI hd) := by
        rw [kd]
        cases hd <;> rfl
      simp only [fX10_takeClause, sfx, gM wM, sM wM, m7 wM, hXm, k1', qb2, Option.bind_some, if_true, qlab, k2.1, m0', if_neg (show ¬ (0 : Int32) < 0 by decide), if_pos (show (0 : Int32) ≤ 0 by decide), if_pos z0, k3, ka, kc, if_neg (show ¬ (0 : Int32) = 2 by decide), if_neg (show ¬ (0 : Int32) = 3 by decide), qlt, nI_1, e25, e26, bI_01, hz]
    have hfm0 := ke.FM (by decide)
    obtain ⟨Xa, a1, a2, a3, a4, a5, a6, a7, a8⟩ := m_intoE (F := F) (ar := sz + 151 + 7) (k := 0) (lo := 2) (hi := 30) wM ke.1 (hT.f hfm0) kf (by omega) (by omega) (by omega) hF wM.p7 (by decide) (by decide) (by omega)
    have a1' : fX10_into F (pI (pI (pI X2 (sz + 151) 13 (nI (p + 1))) (sz + 151) 25 (bI hs)) (sz + 151) 26 (bI hd)) (sz + 151) (sz + 151 + 7) (0 : Int32) (2 : Int32) (30 : Int32) = some (nI (nmF tx N 2 30 (p + 1)), Xa) := a1
    obtain ⟨n1, n2⟩ := c_num (F := F) (lo := 2) (hi := 30) w6 w9 hF (by omega) (by omega) d2
    have g0 : gi Xc b 0 ≤ 0 := by rw [c0]; exact z0
    by_cases f1 : nmF tx N 2 30 (p + 1) = 0
    · obtain ⟨Xc1, n1a, n1b, -⟩ := n1 f1
      have n1a' : fX6_readNumber F Xd (sz + 12) (2 : Int32) (30 : Int32) = some (nI (nmV tx N (p + 1)), Xc1) := n1a
      have l1 := n1b.2.2.2.2.1.2.1
      obtain ⟨a12, a13, a14, a15, a16⟩ := a7 f1
      have hfm1 := hfm0.trans a3
      obtain ⟨Xb, b1, b2, b3, b4, b5, b6, b7, b8⟩ := m_intoE (F := F) (ar := sz + 151 + 7) (k := 1) (lo := 0) (hi := 20) wM a2 (hT.f hfm1) a13 l1 (by omega) (by omega) hF wM.p7 (by decide) (by decide) (by omega)
      have b1' : fX10_into F Xa (sz + 151) (sz + 151 + 7) (1 : Int32) (0 : Int32) (20 : Int32) = some (nI (nmF tx N 0 20 (nmE tx N (p + 1))), Xb) := b1
      obtain ⟨o1, o2⟩ := c_num (F := F) (lo := 0) (hi := 20) w6 w9 hF (by omega) (by omega) n1b
      by_cases f2 : nmF tx N 0 20 (nmE tx N (p + 1)) = 0
      · obtain ⟨Xc2, o1a, o1b, -⟩ := o1 f2
        have o1a' : fX6_readNumber F Xc1 (sz + 12) (0 : Int32) (20 : Int32) = some (nI (nmV tx N (nmE tx N (p + 1))), Xc2) := o1a
        have l2 := o1b.2.2.2.2.1.2.1
        obtain ⟨b12, b13, b14, b15, b16⟩ := b7 f2
        have hfm2 := hfm1.trans b3
        obtain ⟨Xe, e1, e2, e3, e4, e5, e6, e7, e8⟩ := m_intoE (F := F) (ar := sz + 151 + 7) (k := 2) (lo := 0) (hi := 10) wM b2 (hT.f hfm2) b13 l2 (by omega) (by omega) hF wM.p7 (by decide) (by decide) (by omega)
        have e1' : fX10_into F Xb (sz + 151) (sz + 151 + 7) (2 : Int32) (0 : Int32) (10 : Int32) = some (nI (nmF tx N 0 10 (nmE tx N (nmE tx N (p + 1)))), Xe) := e1
        obtain ⟨r1, r2⟩ := c_num (F := F) (lo := 0) (hi := 10) w6 w9 hF (by omega) (by omega) o1b
        have hfm3 := hfm2.trans e3
        have hTB : fX10_takeBay F (pI (pI (pI X2 (sz + 151) 13 (nI (p + 1))) (sz + 151) 25 (bI hs)) (sz + 151) 26 (bI hd)) (sz + 151) = some (nI (nmF tx N 0 10 (nmE tx N (nmE tx N (p + 1)))), Xe) := by
          simp only [fX10_takeBay, gM wM, ke.1, a1', qb2, Option.bind_some, f1, if_pos z0, a2, b1', f2, b2, e1']
        by_cases f3 : nmF tx N 0 10 (nmE tx N (nmE tx N (p + 1))) = 0
        · obtain ⟨Xc3, r1a, r1b, -⟩ := r1 f3
          have r1a' : fX6_readNumber F Xc2 (sz + 12) (0 : Int32) (10 : Int32) = some (nI (nmV tx N (nmE tx N (nmE tx N (p + 1)))), Xc3) := r1a
          have l3 := r1b.2.2.2.2.1.2.1
          obtain ⟨e12, e13, e14, e15, e16⟩ := e7 f3
          obtain ⟨S1', S2'⟩ := sfx_0 (F := F) wM e2 (hT.f hfm3) e13 l3 hF
          obtain ⟨E1, E2⟩ := c_end (F := F) w6 w9 hF r1b
          have i1 := nmF_in f1
          have i2 := nmF_in f2
          have i3 := nmF_in f3
          have u1 := nmE_ge (tx := tx) (N := N) (p := p + 1) (by omega)
          have u2 := nmE_ge (tx := tx) (N := N) (p := nmE tx N (p + 1)) l1
          have u3 := nmE_ge (tx := tx) (N := N) (p := nmE tx N (nmE tx N (p + 1))) l2
          generalize nmE tx N (nmE tx N (nmE tx N (p + 1))) = en at *
          have hsk := sk_in (tx := tx) _ en rfl l3
          rw [f3] at hTB
          by_cases ze : sk tx N en < N ∧ tx (sk tx N en) = 59
          · obtain ⟨Xf, g1, g2⟩ := E1 ze
            obtain ⟨Xg, s1, s2, s3⟩ := S1' ze
            have hA1 : shX (pI Xf b 0 (nI (nmV tx N (p + 1)))) = Y := by simp only [kB wB, g2.1]
            have hA2 : shX (pI (pI Xf b 0 (nI (nmV tx N (p + 1)))) b 1 (nI (nmV tx N (nmE tx N (p + 1))))) = Y := by simp only [kB wB, hA1]
            have hA3 : shX (pI (pI (pI Xf b 0 (nI (nmV tx N (p + 1)))) b 1 (nI (nmV tx N (nmE tx N (p + 1))))) b 2 (nI (nmV tx N (nmE tx N (nmE tx N (p + 1)))) - 5)) = Y := by simp only [kB wB, hA2]
            have hfm4 := hfm3.trans (s2.FM (by decide))
            refine ⟨pI (pI (pI Xf b 0 (nI (nmV tx N (p + 1)))) b 1 (nI (nmV tx N (nmE tx N (p + 1))))) b 2 (nI (nmV tx N (nmE tx N (nmE tx N (p + 1)))) - 5), Xg, 0, ?_, by rw [mpre _ _ hTB]; exact s1, hA3, fun y y1 y2 => (pV_ne (by omega)).trans ((pV_ne (by omega)).trans ((pV_ne (by omega)).trans (g2.2.1 y y1))), s2.1, hfm4, Or.inl ⟨rfl, ⟨sk tx N en + 1, by omega, by omega, nmV tx N (p + 1), nmV tx N (nmE tx N (p + 1)), nmV tx N (nmE tx N (nmE tx N (p + 1))), 0, sm, da, hs, hd, ce, po, ro, nn, dd, ?_, ?_, ?_, s2.1, hT.f hfm4, s3, ?_⟩, ?_⟩⟩
            · simp only [fX6_readCells, g6 w6, gB wB, sB wB, hR.1, Option.bind_some, if_pos g0, d1, n1a', o1a', r1a', qb2, g1, g2.1, g2.2.2.2.2.2.1, if_pos (show nI 0 = (0 : Int32) from rfl), hA1, hA2, qlt]
            · obtain ⟨x1, x2, x3, x4, x5, x6, x7, x8, x9⟩ := id g2
              have un : ∀ k : Nat, gi (pI (pI (pI Xf b 0 (nI (nmV tx N (p + 1)))) b 1 (nI (nmV tx N (nmE tx N (p + 1))))) b 2 (nI (nmV tx N (nmE tx N (nmE tx N (p + 1)))) - 5)) (sz + 12) k = gi Xf (sz + 12) k := fun k => by
                rw [gi_pI_ne (by omega), gi_pI_ne (by omega), gi_pI_ne (by omega)]
              exact ⟨hA3, fun _ _ => rfl, by rw [gr_pI_ne' (by omega), gr_pI_ne' (by omega), gr_pI_ne' (by omega)]; exact x3, by rw [un]; exact x4, ⟨by rw [un]; exact x5.1, x5.2⟩, by rw [un]; exact x6, by rw [un]; exact x7, ⟨rfl, rfl⟩, fun i hi => by rw [ga_pI, ga_pI, ga_pI]; exact x9 i hi⟩
            · obtain ⟨p1, p2, p3, p4, p5⟩ := hP
              exact ⟨by omega, fun y => by omega, by omega, p4, fun g hg => by omega, fun x y hx => by omega, fun x y hx => by omega⟩
            · have ub : ∀ k : Nat, gi (pI (pI (pI Xf b 0 (nI (nmV tx N (p + 1)))) b 1 (nI (nmV tx N (nmE tx N (p + 1))))) b 2 (nI (nmV tx N (nmE tx N (nmE tx N (p + 1)))) - 5)) b k = if k = 2 then nI (nmV tx N (nmE tx N (nmE tx N (p + 1)))) - 5 else if k = 1 then nI (nmV tx N (nmE tx N (p + 1))) else if k = 0 then nI (nmV tx N (p + 1)) else gi Xc b k := fun k => by
                simp only [uB wB, hA2, hA1, g2.1]
                rw [gi_congr (g2.2.1 b (by omega))]
              have un : ∀ k : Nat, gi (pI (pI (pI Xf b 0 (nI (nmV tx N (p + 1)))) b 1 (nI (nmV tx N (nmE tx N (p + 1))))) b 2 (nI (nmV tx N (nmE tx N (nmE tx N (p + 1)))) - 5)) (sz + 12) k = gi Xf (sz + 12) k := fun k => by
                rw [gi_pI_ne (by omega), gi_pI_ne (by omega), gi_pI_ne (by omega)]
              refine ⟨⟨by rw [ub]; rfl, by rw [ub]; rfl, by rw [ub, if_pos rfl, if_neg (show ¬ nmV tx N (p + 1) = 0 by omega)], by rw [ub]; exact c3, by rw [ub]; exact c4, by rw [ub]; rw [if_neg (by omega), if_neg (by omega), if_neg (by omega), c5, hcn]⟩, ⟨by rw [un, g2.2.2.2.2.2.2.2.1.1]; exact c6, by rw [un, g2.2.2.2.2.2.2.2.1.2]; exact c7⟩, fun g hg => by omega⟩
            · have gf : ∀ k : Nat, k ≠ 12 → k ≠ 13 → k ≠ 14 → k ≠ 15 → gi Xg (sz + 151) k = gi (pI (pI (pI X2 (sz + 151) 13 (nI (p + 1))) (sz + 151) 25 (bI hs)) (sz + 151) 26 (bI hd)) (sz + 151) k := fun k y1 y2 y3 y4 => by
                rw [s2.2.2 k (by simpa using y2), e5 k y1 y2 y3 y4, b5 k y1 y2 y3 y4, a5 k y1 y2 y3 y4]
              have g7 : ga Xg (sz + 151 + 7) = ga Xe (sz + 151 + 7) := ga_congr (s2.2.1 _ (by omega))
              have gA : ∀ j : Nat, 13 ≤ j → j ≤ 14 → ga Xg (sz + 151 + j) = ga Xm (sz + 151 + j) := fun j j1 j2 => ga_congr ((s2.2.1 _ (by omega)).trans ((e4 _ (by omega) (by omega)).trans ((b4 _ (by omega) (by omega)).trans ((a4 _ (by omega) (by omega)).trans (ke.2.1 _ (by omega))))))
              refine ⟨⟨by rw [g7, e6 0 (by omega), b6 0 (by omega)]; exact a16, by rw [g7, e6 1 (by omega)]; exact b16, fun _ => by rw [g7]; exact e16⟩, ⟨by rw [gf 17 (by omega) (by omega) (by omega) (by omega), ke.2.2 17 (by decide), m17, hcn], by rw [gf 25 (by omega) (by omega) (by omega) (by omega)]; exact kg, by rw [gf 26 (by omega) (by omega) (by omega) (by omega)]; exact kh⟩, ⟨fun y => by rw [gA 13 (by omega) (by omega)]; exact m13 y, fun y => by rw [gA 14 (by omega) (by omega)]; exact m14 y⟩, fun g hg => by omega⟩
            · rw [s2.2.2 12 (by decide), e12, b12, a12, ke.2.2 12 (by decide)]
          · obtain ⟨Xf, g1, g2⟩ := E2 ze
            obtain ⟨Xg, s1, s2, s3⟩ := S2' ze
            refine ⟨Xf, Xg, 1, ?_, by rw [mpre _ _ hTB]; exact s1, g2.1, g2.FC, s2.1, hfm3.trans (s2.FM (by decide)), Or.inr ⟨by omega, by omega, ⟨_, _, g2⟩, g2.2.2.2.2.2.1, _, g2.2.2.2.2.2.2.1, s3⟩⟩
            simp only [fX6_readCells, g6 w6, gB wB, hR.1, Option.bind_some, if_pos g0, d1, n1a', o1a', r1a', qb2, g1, g2.1, g2.2.2.2.2.2.1, if_neg (show ¬ nI 1 = (0 : Int32) by decide)]
        · obtain ⟨Xc3, pn, r2a, r2b⟩ := r2 f3
          have r2a' : fX6_readNumber F Xc2 (sz + 12) (0 : Int32) (10 : Int32) = some (-1, Xc3) := r2a
          have hf10 := nmF_10 f3
          obtain ⟨Xf, pe, g1, g2⟩ := c_end_dead (F := F) w6 w9 hF r2b hf10
          obtain ⟨Xg, s1, s2⟩ := sfx_1 (F := F) wM e2 hf10
          refine ⟨Xf, Xg, _, ?_, by rw [mpre _ _ hTB]; exact s1, g2.1, g2.FC, s2.1, hfm3.trans (s2.FM (by decide)), Or.inr ⟨hf10.1, hf10.2, ⟨_, _, g2⟩, g2.2.2.2.2.2.1, _, g2.2.2.2.2.2.2.1, by rw [s2.2.2 12 (by decide)]; exact e8 f3⟩⟩
          simp only [fX6_readCells, g6 w6, gB wB, hR.1, Option.bind_some, if_pos g0, d1, n1a', o1a', r2a', qb2, g1, g2.1, g2.2.2.2.2.2.1, if_neg (nI_ne0 hf10.1 (by omega))]
      · obtain ⟨Xc2, pn, o2a, o2b⟩ := o2 f2
        have o2a' : fX6_readNumber F Xc1 (sz + 12) (0 : Int32) (20 : Int32) = some (-1, Xc2) := o2a
        have hf10 := nmF_10 f2
        have r3 := c_num_dead (F := F) w6 o2b hf10 (0 : Int32) (10 : Int32)
        obtain ⟨Xf, pe, g1, g2⟩ := c_end_dead (F := F) w6 w9 hF o2b hf10
        obtain ⟨Xg, s1, s2⟩ := sfx_1 (F := F) wM b2 hf10
        have hTB : fX10_takeBay F (pI (pI (pI X2 (sz + 151) 13 (nI (p + 1))) (sz + 151) 25 (bI hs)) (sz + 151) 26 (bI hd)) (sz + 151) = some (nI (nmF tx N 0 20 (nmE tx N (p + 1))), Xb) := by
          simp only [fX10_takeBay, gM wM, ke.1, a1', qb2, Option.bind_some, f1, if_pos z0, a2, b1', if_neg (nI_nle hf10.1 (show nmF tx N 0 20 (nmE tx N (p + 1)) < 2 ^ 31 by omega))]
        refine ⟨Xf, Xg, _, ?_, by rw [mpre _ _ hTB]; exact s1, g2.1, g2.FC, s2.1, (hfm1.trans b3).trans (s2.FM (by decide)), Or.inr ⟨hf10.1, hf10.2, ⟨_, _, g2⟩, g2.2.2.2.2.2.1, _, g2.2.2.2.2.2.2.1, by rw [s2.2.2 12 (by decide)]; exact b8 f2⟩⟩
        simp only [fX6_readCells, g6 w6, gB wB, hR.1, Option.bind_some, if_pos g0, d1, n1a', o2a', r3, qb2, g1, g2.1, g2.2.2.2.2.2.1, if_neg (nI_ne0 hf10.1 (by omega))]
    · obtain ⟨Xc1, pn, n2a, n2b⟩ := n2 f1
      have n2a' : fX6_readNumber F Xd (sz + 12) (2 : Int32) (30 : Int32) = some (-1, Xc1) := n2a
      have hf10 := nmF_10 f1
      have r2' := c_num_dead (F := F) w6 n2b hf10 (0 : Int32) (20 : Int32)
      have r3 := c_num_dead (F := F) w6 n2b hf10 (0 : Int32) (10 : Int32)
      obtain ⟨Xf, pe, g1, g2⟩ := c_end_dead (F := F) w6 w9 hF n2b hf10
      obtain ⟨Xg, s1, s2⟩ := sfx_1 (F := F) wM a2 hf10
      have hTB : fX10_takeBay F (pI (pI (pI X2 (sz + 151) 13 (nI (p + 1))) (sz + 151) 25 (bI hs)) (sz + 151) 26 (bI hd)) (sz + 151) = some (nI (nmF tx N 2 30 (p + 1)), Xa) := by
        simp only [fX10_takeBay, gM wM, ke.1, a1', qb2, Option.bind_some, if_neg (nI_nle hf10.1 (show nmF tx N 2 30 (p + 1) < 2 ^ 31 by omega))]
      refine ⟨Xf, Xg, _, ?_, by rw [mpre _ _ hTB]; exact s1, g2.1, g2.FC, s2.1, (hfm0.trans a3).trans (s2.FM (by decide)), Or.inr ⟨hf10.1, hf10.2, ⟨_, _, g2⟩, g2.2.2.2.2.2.1, _, g2.2.2.2.2.2.2.1, by rw [s2.2.2 12 (by decide)]; exact a8 f1⟩⟩
      simp only [fX6_readCells, g6 w6, gB wB, hR.1, Option.bind_some, if_pos g0, d1, n2a', r2', r3, qb2, g1, g2.1, g2.2.2.2.2.2.1, if_neg (nI_ne0 hf10.1 (by omega))]
  · have nz : ¬ nI w ≤ (0 : Int32) := nI_nle (by omega) (by omega)
    obtain ⟨-, ⟨Xd, d1, d2⟩⟩ := c_word (F := F) w6 hR hpN
    have n1 := c_num_dead (F := F) w6 d2 (by omega) (2 : Int32) (30 : Int32)
    have n2 := c_num_dead (F := F) w6 d2 (by omega) (0 : Int32) (20 : Int32)
    have n3 := c_num_dead (F := F) w6 d2 (by omega) (0 : Int32) (10 : Int32)
    obtain ⟨Xe, pe, d4, d5⟩ := c_end_dead (F := F) w6 w9 hF d2 (by omega)
    obtain ⟨f1, f2, f3⟩ := m_fails (F := F) wM k2.1 (3 : Int32) (nI p)
    have g0 : ¬ gi Xc b 0 ≤ 0 := by rw [c0]; exact nz
    refine ⟨Xe, pI X2 (sz + 151) 12 (nI p), 3, ?_, ?_, d5.1, d5.FC, f2.1, (k2.FM (by decide)).trans (f2.FM (by decide)), Or.inr ⟨by omega, by omega, ⟨_, _, d5⟩, d5.2.2.2.2.2.1, p, d5.2.2.2.2.2.2.1, f3⟩⟩
    · simp only [fX6_readCells, g6 w6, gB wB, hR.1, Option.bind_some, if_neg g0, d1, n1, n2, n3, qb2, d4, d5.1, d5.2.2.2.2.2.1, if_neg (show ¬ nI 3 = (0 : Int32) by decide)]
    · simp only [fX10_takeClause, gM wM, m7 wM, hXm, k1', qb2, Option.bind_some, if_true, qlab, k2.1, m0', if_neg (show ¬ (0 : Int32) < 0 by decide), if_pos (show (0 : Int32) ≤ 0 by decide), if_neg nz, if_neg (show ¬ (1 : Int32) = 0 by decide), k3, f1]
      rfl
