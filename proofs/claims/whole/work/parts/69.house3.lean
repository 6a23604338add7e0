/-! bay: the clause h, both -/
theorem ext1 {α : Type} (fn : Nat → α) (n : Nat) (v : α) : ∃ f2 : Nat → α, f2 n = v ∧ ∀ g : Nat, g < n → f2 g = fn g := ⟨fun g => if g = n then v else fn g, if_pos rfl, fun g hg => if_neg (by omega)⟩
theorem lsF_no {ce : Nat → Nat} {v c : Nat} (c8 : c ≤ 8) (hi : ∀ x y : Nat, x < c → y < c → ce x = ce y → x = y) (h : lsF ce v c = -1) : ∀ g : Nat, g < c → ce g ≠ v := fun g hg q => by
  rw [lsF_hit c hi hg q] at h
  exact nI_m1 (by omega) h
theorem readHouse_eq (F : Nat) (X : qH) (a b : Nat) : fX6_readHouse F X a b = qIs 6 X a ((qgI X 0 b 5).bind fun v1 => (if v1 < (8 : Int32) then (some (0 : Int32)) else (some (1 : Int32)) : Option Int32).bind fun v2 => (fX6_passWord F X a v2).bind fun X3 => (qgI X3 0 b 0).bind fun v4 => hch F a b X3 (v4 - (1 : Int32)) fun v5 v9 v11 v13 X14 => (fX6_passEnd F X14 a).bind fun X15 => (qgI X15 6 a 4).bind fun v16 => (if v16 = (0 : Int32) then ((fX0_settle F X15 b v5 v9 v11 v13).bind fun X18 => some X18) else (some X15) : Option qH).bind fun X17 => some X17) := rfl
set_option maxHeartbeats 2000000 in
theorem cl_h {F : Nat} {Xc Xm Y : qH} {sz b N p : Nat} {tx : Nat → Nat} (hW : YW Y sz) (wB : YB Y b) (hb : sz + 2 ≤ b ∧ b + 5 ≤ sz + 12) (hF : 1000 ≤ F) (hJ : JS Y sz b N tx p Xc Xm) (hpN : p < N) (hw : gi Xc b 0 ≠ 0) (htx : tx p = 104) :
    ∃ Xc2 Xm2 f, fX6_readHouse F Xc (sz + 12) b = some Xc2 ∧ fX10_takeClause F Xm (sz + 151) = some (nI f, Xm2) ∧ JR Y sz b N tx p Xc Xm f Xc2 Xm2 := by
  obtain ⟨w, fo, wi, cnt, sm, da, hs, hd, ce, po, ro, nn, dd, hR, hP, hC, hXm, hT, h13, hM⟩ := hJ
  obtain ⟨w9, -, -, w6, -, -, -, -, -, -, -, wM⟩ := id hW
  obtain ⟨⟨c0, c1, c2, c3, c4, c5⟩, ⟨c6, c7⟩, c8⟩ := id hC
  obtain ⟨⟨m0, m1, m2⟩, ⟨m17, m25, m26⟩, ⟨m13, m14⟩, mg⟩ := id hM
  obtain ⟨⟨pw, pf, pwi, pc, psm, pda⟩, pz, pn1, phs, phg, phi, phj⟩ := id hP
  have hw0 : w ≠ 0 := fun y => hw (by rw [c0, y]; rfl)
  have hw' : ¬ nI w = (0 : Int32) := nI_ne0 (by omega) (by omega)
  have hN := hT.2.1
  have w1 : nI w - 1 = nI (w - 1) := by
    obtain ⟨k, hk⟩ : ∃ k, w = k + 1 := ⟨w - 1, by omega⟩
    rw [hk]; exact nI_pred' k
  obtain ⟨X2, k1, k2, k3, k25, k26, ka, kb, kc, kd, ke, kf, kg, kh⟩ := m_pre (F := F) (v25 := hs) (v26 := hd) wM hXm hT h13 hpN (by omega) hF m25 m26
  rw [htx] at k1
  have k1' : fX10_here F Xm (sz + 151) = some ((104 : Int32), X2) := k1
  have m0' : ga X2 (sz + 151 + 7) 0 = nI w := by rw [ga_congr (k2.2.1 _ (by omega))]; exact m0
  have m17' : gi X2 (sz + 151) 17 = nI cnt := by rw [k2.2.2 17 (by decide)]; exact m17
  have hce : ∀ g : Nat, g < cnt → ga Xc (b + 1) g = nI (ce g) ∧ ce g < 30 := fun g hg => ⟨(c8 g hg).1, by have := (phg g hg).1; omega⟩
  by_cases h8 : cnt = 8
  · have nl : ¬ nI cnt < (8 : Int32) := by rw [h8]; decide
    have e8 : nI cnt = (8 : Int32) := by rw [h8]; rfl
    obtain ⟨-, ⟨Xd, d1, d2⟩⟩ := c_word (F := F) w6 hR hpN
    have n1 := c_num_dead (F := F) w6 d2 (by omega) (0 : Int32) (nI w - 1)
    have n2 := c_num_dead (F := F) w6 d2 (by omega) (1 : Int32) (9 : Int32)
    have n3 := c_num_dead (F := F) w6 d2 (by omega) (0 : Int32) (9 : Int32)
    have n4 := c_stars_dead (F := F) w6 d2 (by omega) b
    have ho := houseOn_m1 (F := F) (ce := ce) d2.1 wB (by rw [gi_congr (d2.2.1 b (by omega))]; exact c5) pc (fun g hg => by rw [ga_congr (d2.2.1 (b + 1) (by omega))]; exact hce g hg) (by omega)
    obtain ⟨Xe, pe, d4, d5⟩ := c_end_dead (F := F) w6 w9 hF d2 (by omega)
    obtain ⟨f1, f2, f3⟩ := m_fails (F := F) wM k2.1 (3 : Int32) (nI p)
    have d0 : gi Xd b 0 = nI w := by rw [gi_congr (d2.2.1 b (by omega))]; exact c0
    refine ⟨Xe, pI X2 (sz + 151) 12 (nI p), 3, ?_, ?_, d5.1, d5.FC, f2.1, (k2.FM (by decide)).trans (f2.FM (by decide)), Or.inr ⟨by omega, by omega, ⟨_, _, d5⟩, d5.2.2.2.2.2.1, p, d5.2.2.2.2.2.2.1, f3⟩⟩
    · simp only [readHouse_eq, hch, g6 w6, gB wB, hR.1, Option.bind_some, c5, if_neg nl, d1, d2.1, d0, n1, ho, if_true, n2, n3, n4, qb2, d4, d5.1, d5.2.2.2.2.2.1, if_neg (show ¬ nI 3 = (0 : Int32) by decide)]
    · simp only [fX10_takeClause, gM wM, m7 wM, hXm, k1', qb2, Option.bind_some, if_neg (show ¬ (104 : Int32) = 98 by decide), if_true, qlab, k2.1, m0', hw', if_false, m17', e8, if_neg (show ¬ (1 : Int32) = 0 by decide), k3, f1, if_neg (show ¬ (1 : Int32) < 0 by decide), if_neg (show ¬ (1 : Int32) ≤ 0 by decide)]
      rfl
  · have hl : cnt < 8 := by omega
    have nl : nI cnt < (8 : Int32) := nI_lt (b := 8) hl (by decide)
    have e8 : ¬ nI cnt = (8 : Int32) := fun y => h8 ((nI_eq (b := 8) (by omega) (by omega)).mp y)
    obtain ⟨⟨Xd, d1, d2⟩, -⟩ := c_word (F := F) w6 hR hpN
    have d0 : gi Xd b 0 = nI w := by rw [gi_congr (d2.2.1 b (by omega))]; exact c0
    have mpre : ∀ f X18, fX10_takeHouse F (pI (pI (pI X2 (sz + 151) 13 (nI (p + 1))) (sz + 151) 25 (bI hs)) (sz + 151) 26 (bI hd)) (sz + 151) = some (f, X18) → fX10_takeClause F Xm (sz + 151) = sfx F (sz + 151) f X18 := fun f X18 hz => by
      have e25 : (if gi (pI X2 (sz + 151) 13 (nI (p + 1))) (sz + 151) 25 = (0 : Int32) then (some (0 : Int32) : Option Int32) else some 1) = some (bI hs) := by
        rw [kb]
        cases hs <;> rfl
      have e26 : (if gi (pI (pI X2 (sz + 151) 13 (nI (p + 1))) (sz + 151) 25 (bI hs)) (sz + 151) 26 = (0 : Int32) then (some (0 : Int32) : Option Int32) else some 1) = some (bI hd) := by
        rw [kd]
        cases hd <;> rfl
      simp only [fX10_takeClause, sfx, gM wM, sM wM, m7 wM, hXm, k1', qb2, Option.bind_some, if_neg (show ¬ (104 : Int32) = 98 by decide), if_true, qlab, k2.1, m0', hw', if_false, m17', e8, if_neg (show ¬ (1 : Int32) = 0 by decide), if_neg (show ¬ (1 : Int32) < 0 by decide), if_neg (show ¬ (1 : Int32) ≤ 0 by decide), k3, ka, kc, if_neg (show ¬ (1 : Int32) = 2 by decide), if_neg (show ¬ (1 : Int32) = 3 by decide), qlt, nI_1, e25, e26, bI_01, hz]
    generalize pI (pI (pI X2 (sz + 151) 13 (nI (p + 1))) (sz + 151) 25 (bI hs)) (sz + 151) 26 (bI hd) = X16 at ke kf kg kh mpre
    have hfm0 := ke.FM (by decide)
    have fr16 : ∀ j : Nat, 0 < j → ga X16 (sz + 151 + j) = ga Xm (sz + 151 + j) := fun j hj => ga_congr (ke.2.1 _ (by omega))
    obtain ⟨Xh, q1, q2, q3, q4, q5⟩ := m_house (F := F) (w := w) (h := cnt) (ce := ce) (nn := nn) (dd := dd) wM ke.1 (hT.f hfm0) kf (by omega) hl (by omega) (by rw [ke.2.2 17 (by decide)]; exact m17) (by rw [fr16 7 (by omega)]; exact m0) (fun g hg => ⟨by rw [fr16 8 (by omega)]; exact (mg g hg).1, (hce g hg).2⟩) phi (fun g hg => by
      have u1 := phg g hg
      have u2 := mg g hg
      rw [fr16 11 (by omega), fr16 12 (by omega)]
      exact ⟨⟨u2.2.2.2.1, by omega⟩, fun k hk => ⟨u2.2.2.2.2 k hk, u1.2.2.2.2 k hk⟩⟩) phj hF
    obtain ⟨r1, r2⟩ := c_house (F := F) (w := w) (cnt := cnt) (ce := ce) (st := fun g => stN (dd g) (nn g)) w6 w9 hF wB hb.2 pc (by omega) c5 hce phi (fun g hg => ⟨(c8 g hg).2.2.2, stN_lt5 (fun k hk => ((phg g hg).2.2.2.2 k hk).2) (phg g hg).2.2.2.1.2⟩) phj d2
    have hfm1 := hfm0.trans q3
    by_cases z : hsF tx N w cnt ce (fun g => stN (dd g) (nn g)) (p + 1) = 0
    · obtain ⟨X14, g1, g2⟩ := r1 z
      obtain ⟨y1, y2, y3, y4, y5, y6, y7⟩ := q4 z
      obtain ⟨z1, z2, z3, z4, z5⟩ := hsF_0 z
      rw [z] at q1
      have i1 := nmF_in z1
      have i3 := nmF_in z3
      have i4 := nmF_in z4
      have l3 := g2.2.2.2.2.1.2.1
      have hgt : p + 1 ≤ sk tx N (nmE tx N (nmE tx N (nmE tx N (p + 1)))) := by
        have u1 := nmE_ge (tx := tx) (N := N) (p := p + 1) (by omega)
        have le : ∀ x : Nat, x ≤ N → nmE tx N x ≤ N := fun x hx => rn_le (tx := tx) (N := N) (lo := 48) (hi := 57) _ (sk tx N x) rfl (sk_in (tx := tx) _ x rfl hx).2.1
        have v1 := le _ (show p + 1 ≤ N by omega)
        have u2 := nmE_ge (tx := tx) (N := N) v1
        have v2 := le _ v1
        have u3 := nmE_ge (tx := tx) (N := N) v2
        have v3 := le _ v2
        have u4 := sk_in (tx := tx) _ _ rfl v3
        omega
      generalize nmE tx N (nmE tx N (nmE tx N (p + 1))) = E3 at *
      obtain ⟨S1', S2'⟩ := sfx_0 (F := F) wM q2 (hT.f hfm1) y3 l3 hF
      obtain ⟨E1, E2⟩ := c_end (F := F) w6 w9 hF g2
      have hsk := sk_in (tx := tx) _ (sk tx N E3 + snN tx N E3) rfl l3
      have hsn : (1 ≤ snN tx N E3 ∧ snN tx N E3 ≤ 5) ∧ lsF (fun g => stN (dd g) (nn g)) (stN (sdF tx (sk tx N E3)) (snN tx N E3)) cnt = -1 := by
        unfold ssF at z5
        split at z5
        · omega
        · rename_i nq
          split at z5
          · rename_i nq2
            exact ⟨by omega, nq2⟩
          · omega
      have n1 := lsF_no pc phi z2
      have n2 := lsF_no (ce := fun g => stN (dd g) (nn g)) pc phj hsn.2
      by_cases ze : sk tx N (sk tx N E3 + snN tx N E3) < N ∧ tx (sk tx N (sk tx N E3 + snN tx N E3)) = 59
      · obtain ⟨Xf, j1, j2⟩ := E1 ze
        obtain ⟨Xg, s1, s2, s3⟩ := S1' ze
        have f5 : gi Xf b 5 = nI cnt := by rw [gi_congr (j2.2.1 b (by omega))]; exact c5
        obtain ⟨Xt, t1, t2, t3, t4, t5, t6, t7, t8⟩ := settle_ok (F := F) wB j2.1 hl f5 (nI (nmV tx N (p + 1))) (nI (nmV tx N (nmE tx N (p + 1)))) (nI (nmV tx N (nmE tx N (nmE tx N (p + 1))))) (nI (stN (sdF tx (sk tx N E3)) (snN tx N E3)))
        have hfm2 := hfm1.trans (s2.FM (by decide))
        obtain ⟨ce2, A1, A2⟩ := ext1 ce cnt (nmV tx N (p + 1))
        obtain ⟨po2, B1, B2⟩ := ext1 po cnt (nmV tx N (nmE tx N (p + 1)))
        obtain ⟨ro2, C1, C2⟩ := ext1 ro cnt (nmV tx N (nmE tx N (nmE tx N (p + 1))))
        obtain ⟨nn2, D1, D2⟩ := ext1 nn cnt (snN tx N E3)
        obtain ⟨dd2, G1, G2⟩ := ext1 dd cnt (sdF tx (sk tx N E3))
        have ft : ∀ k : Nat, gi Xt (sz + 12) k = gi Xf (sz + 12) k := fun k => gi_congr (t3 _ (by omega)) k
        obtain ⟨x1, x2, x3, x4, x5, x6, x7, x8, x9⟩ := id j2
        refine ⟨Xt, Xg, 0, ?_, by rw [mpre _ _ q1]; exact s1, t2, fun y y1 y2 => (t3 y y2).trans (j2.2.1 y y1), s2.1, hfm2, Or.inl ⟨rfl, ⟨sk tx N (sk tx N E3 + snN tx N E3) + 1, by omega, by omega, w, fo, wi, cnt + 1, sm, da, hs, hd, ce2, po2, ro2, nn2, dd2, ?_, ?_, ?_, s2.1, hT.f hfm2, s3, ?_⟩, ?_⟩⟩
        · simp only [readHouse_eq, g6 w6, gB wB, hR.1, Option.bind_some, c5, if_pos nl, d1, d2.1, d0, w1, g1, j1, j2.1, x6, if_pos (show nI 0 = (0 : Int32) from rfl), t1]
        · refine ⟨t2, fun _ _ => rfl, ?_, by rw [ft]; exact x4, ⟨by rw [ft]; exact x5.1, x5.2⟩, by rw [ft]; exact x6, by rw [ft]; exact x7, ⟨rfl, rfl⟩, fun i hi => ?_⟩
          · rw [gr_congr (t3 _ (by omega))]; exact x3
          · rw [ga_congr (t3 (sz + 1) (by omega))]; exact x9 i hi
        · refine ⟨⟨pw, pf, pwi, by omega, psm, pda⟩, fun y => by omega, pn1, phs, fun g hg => ?_, fun x y hx hy hxy => ?_, fun x y hx hy hxy => ?_⟩
          · by_cases y : g = cnt
            · subst y
              rw [A1, B1, C1, D1, G1]
              exact ⟨by omega, by omega, by omega, hsn.1, fun k hk => sd_in hk⟩
            · rw [A2 g (by omega), B2 g (by omega), C2 g (by omega), D2 g (by omega), G2 g (by omega)]
              exact phg g (by omega)
          · by_cases yx : x = cnt
            · by_cases yy : y = cnt
              · omega
              · rw [yx, A1, A2 y (by omega)] at hxy
                exact absurd hxy.symm (n1 y (by omega))
            · by_cases yy : y = cnt
              · rw [yy, A1, A2 x (by omega)] at hxy
                exact absurd hxy (n1 x (by omega))
              · rw [A2 x (by omega), A2 y (by omega)] at hxy
                exact phi x y (by omega) (by omega) hxy
          · by_cases yx : x = cnt
            · by_cases yy : y = cnt
              · omega
              · rw [yx, G1, D1, G2 y (by omega), D2 y (by omega)] at hxy
                exact absurd hxy.symm (n2 y (by omega))
            · by_cases yy : y = cnt
              · rw [yy, G1, D1, G2 x (by omega), D2 x (by omega)] at hxy
                exact absurd hxy (n2 x (by omega))
              · rw [G2 x (by omega), D2 x (by omega), G2 y (by omega), D2 y (by omega)] at hxy
                exact phj x y (by omega) (by omega) hxy
        · have fb : ∀ k : Nat, k ≠ 5 → gi Xt b k = gi Xc b k := fun k hk => by rw [t4, if_neg hk, gi_congr (j2.2.1 b (by omega))]
          have fa : ∀ j : Nat, 1 ≤ j → j ≤ 4 → ga Xf (b + j) = ga Xc (b + j) := fun j j1' j2' => ga_congr (j2.2.1 _ (by omega))
          refine ⟨⟨by rw [fb 0 (by omega)]; exact c0, by rw [fb 1 (by omega)]; exact c1, by rw [fb 2 (by omega)]; exact c2, by rw [fb 3 (by omega)]; exact c3, by rw [fb 4 (by omega)]; exact c4, by rw [t4, if_pos rfl]⟩, ⟨by rw [ft, x8.1]; exact c6, by rw [ft, x8.2]; exact c7⟩, fun g hg => ?_⟩
          by_cases y : g = cnt
          · subst y
            rw [A1, B1, C1, D1, G1]
            exact ⟨by rw [t5, if_pos rfl], by rw [t6, if_pos rfl], by rw [t7, if_pos rfl], by rw [t8, if_pos rfl]⟩
          · rw [A2 g (by omega), B2 g (by omega), C2 g (by omega), D2 g (by omega), G2 g (by omega)]
            have u := c8 g (by omega)
            exact ⟨by rw [t5, if_neg y, fa 1 (by omega) (by omega)]; exact u.1, by rw [t6, if_neg y, fa 2 (by omega) (by omega)]; exact u.2.1, by rw [t7, if_neg y, fa 3 (by omega) (by omega)]; exact u.2.2.1, by rw [t8, if_neg y, fa 4 (by omega) (by omega)]; exact u.2.2.2⟩
        · have gA : ∀ j : Nat, 0 < j → ga Xg (sz + 151 + j) = ga Xh (sz + 151 + j) := fun j hj => ga_congr (s2.2.1 _ (by omega))
          have gf : ∀ k : Nat, k ≠ 13 → gi Xg (sz + 151) k = gi Xh (sz + 151) k := fun k hk => s2.2.2 k (by simpa using hk)
          refine ⟨⟨by rw [gA 7 (by omega), y4.1, fr16 7 (by omega)]; exact m0, by rw [gA 7 (by omega), y4.1, fr16 7 (by omega)]; exact m1, fun y => by rw [gA 7 (by omega), y4.1, fr16 7 (by omega)]; exact m2 y⟩, ⟨by rw [gf 17 (by omega)]; exact y2, by rw [gf 25 (by omega), y1 25 (by omega) (by omega) (by omega) (by omega)]; exact kg, by rw [gf 26 (by omega), y1 26 (by omega) (by omega) (by omega) (by omega)]; exact kh⟩, ⟨fun y => by rw [gA 13 (by omega), y4.2.1, fr16 13 (by omega)]; exact m13 y, fun y => by rw [gA 14 (by omega), y4.2.2, fr16 14 (by omega)]; exact m14 y⟩, fun g hg => ?_⟩
          rw [gA 8 (by omega), gA 9 (by omega), gA 10 (by omega), gA 11 (by omega), gA 12 (by omega)]
          by_cases y : g = cnt
          · subst y
            rw [A1, B1, C1, D1, G1]
            exact ⟨y6.1, y6.2.1, y6.2.2.1, y6.2.2.2, fun k hk => by rw [y7, if_pos (by omega), Nat.add_sub_cancel_left]⟩
          · rw [A2 g (by omega), B2 g (by omega), C2 g (by omega), D2 g (by omega), G2 g (by omega)]
            have u := mg g (by omega)
            have u5 := (phg g (by omega)).2.2.2.1.2
            have v := y5 g y
            refine ⟨by rw [v.1, fr16 8 (by omega)]; exact u.1, by rw [v.2.1, fr16 9 (by omega)]; exact u.2.1, by rw [v.2.2.1, fr16 10 (by omega)]; exact u.2.2.1, by rw [v.2.2.2, fr16 11 (by omega)]; exact u.2.2.2.1, fun k hk => ?_⟩
            rw [y7, if_neg (by omega), fr16 12 (by omega)]; exact u.2.2.2.2 k hk
        · rw [s2.2.2 12 (by decide), y1 12 (by omega) (by omega) (by omega) (by omega), ke.2.2 12 (by decide)]
      · obtain ⟨Xf, j1, j2⟩ := E2 ze
        obtain ⟨Xg, s1, s2, s3⟩ := S2' ze
        refine ⟨Xf, Xg, 1, ?_, by rw [mpre _ _ q1]; exact s1, j2.1, j2.FC, s2.1, hfm1.trans (s2.FM (by decide)), Or.inr ⟨by omega, by omega, ⟨_, _, j2⟩, j2.2.2.2.2.2.1, _, j2.2.2.2.2.2.2.1, s3⟩⟩
        simp only [readHouse_eq, g6 w6, gB wB, hR.1, Option.bind_some, c5, if_pos nl, d1, d2.1, d0, w1, g1, j1, j2.1, j2.2.2.2.2.2.1, if_neg (show ¬ nI 1 = (0 : Int32) by decide)]
    · obtain ⟨v5, v9, v11, v13, X14, p2, g1, g2⟩ := r2 z
      have hf10 := hsF_10 z
      obtain ⟨Xf, pe, j1, j2⟩ := c_end_dead (F := F) w6 w9 hF g2 hf10
      obtain ⟨Xg, s1, s2⟩ := sfx_1 (F := F) wM q2 hf10
      refine ⟨Xf, Xg, _, ?_, by rw [mpre _ _ q1]; exact s1, j2.1, j2.FC, s2.1, hfm1.trans (s2.FM (by decide)), Or.inr ⟨hf10.1, hf10.2, ⟨_, _, j2⟩, j2.2.2.2.2.2.1, _, j2.2.2.2.2.2.2.1, by rw [s2.2.2 12 (by decide)]; exact q5 z⟩⟩
      simp only [readHouse_eq, g6 w6, gB wB, hR.1, Option.bind_some, c5, if_pos nl, d1, d2.1, d0, w1, g1, j1, j2.1, j2.2.2.2.2.2.1, if_neg (nI_ne0 hf10.1 (show hsF tx N w cnt ce (fun g => stN (dd g) (nn g)) (p + 1) < 2 ^ 31 by omega))]
