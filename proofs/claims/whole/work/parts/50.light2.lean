/-! light, the operation -/
theorem agree_ok {F : Nat} {X Y : qH} {a b w c sm h : Nat} {ce po : Nat → Nat} {sa sb rw0 : Nat → Int32} {mi : Int32} (hX : shX X = Y) (wN : YN Y a) (wB : YB Y b) (hab : a + 5 ≤ b ∨ b + 5 ≤ a) (hB : BC X b w c sm ce po) (hP : BP w c sm ce po) (hh : h < c) (hmi : gi X a 0 = mi) (hs : ∀ g : Nat, g < c → ga X (a + 2) g = sa g ∧ ga X (a + 4) g = sb g) (hr : HR (gi X a 3) rw0 c) (hF : 10 ≤ F) :
    ∃ X2, fX3_agree F X a b (nI h) = some (nI (nwS (mtB sa sb mi (rd ce po c) h) (rd ce po c h) (rd ce po c) rw0 c), X2) ∧ agI X Y a (hoS (mtB sa sb mi (rd ce po c) h) (rd ce po c h) (rd ce po c) (gi X a 3) c) X2 ∧ HR (hoS (mtB sa sb mi (rd ce po c) h) (rd ce po c h) (rd ce po c) (gi X a 3) c) (rwS (mtB sa sb mi (rd ce po c) h) (rd ce po c h) (rd ce po c) rw0 c) c := by
  obtain ⟨i1, i2, i3⟩ := lit_inv (M := mtB sa sb mi (rd ce po c) h) (ra := rd ce po c h) (rb := rd ce po c) hr hP.2.1 (rd_lt hh) (fun g hg hm => ⟨rd_lt hg, (of_decide_eq_true hm).2.2.2.1⟩) c (Nat.le_refl c)
  have c8 := hP.2.1
  have hA0 : agI X Y a (hoS (mtB sa sb mi (rd ce po c) h) (rd ce po c h) (rd ce po c) (gi X a 3) 0) X := ⟨hX, fun _ _ => rfl, fun k => by
    show gi X a k = if k = 3 then gi X a 3 else gi X a k
    by_cases z : k = 3
    · rw [if_pos z, z]
    · rw [if_neg z]⟩
  have b1 := bitCount_all (F := F) (X := X) (gi X a 3)
  obtain ⟨X2, k1, k2⟩ := agree_L (F := F) (X0 := X) (v2 := nI (akF (fun i => (gi X a 3).toBitVec.getLsbD i) 32)) wN wB hab hB hP hh hmi hs hF F 0 X (by omega) (by omega) hA0
  refine ⟨X2, ?_, k2, i1⟩
  have e3 : gi X2 a 3 = hoS (mtB sa sb mi (rd ce po c) h) (rd ce po c h) (rd ce po c) (gi X a 3) c := by rw [k2.2.2, if_pos rfl]
  have b2 := bitCount_all (F := F) (X := X2) (gi X2 a 3)
  rw [e3, i2] at b2
  generalize akF (fun i => (gi X a 3).toBitVec.getLsbD i) 32 = A at b1 b2 k1
  generalize nwS (mtB sa sb mi (rd ce po c) h) (rd ce po c h) (rd ce po c) rw0 c = N at b2 i3
  rw [← e3] at b2
  unfold fX3_agree
  generalize fJ6_bitCount_0f7a4 = fB at b1 b2 ⊢
  rw [show nI 0 = (0 : Int32) from rfl] at k1
  rw [(gN wN).1 X hX, (gN wN).2.2.2.2.1 X hX, Option.bind_some, b1, Option.bind_some, k1, Option.bind_some, (gN wN).2.2.2.2.1 X2 k2.1, Option.bind_some, b2, Option.bind_some, pk_sub (by omega), Nat.add_sub_cancel_left]
set_option maxHeartbeats 2000000 in
theorem op_light {F : Nat} {X : qH} {sz : Nat} (hI : Inv X sz) (hF : 300000 ≤ F) (v : Int32) : Op sz (fun X => fX9_light F X sz v) (fun X => fX10_light F X (sz + 151) v) X := by
  obtain ⟨hW, hRl⟩ := id hI
  obtain ⟨rT, rF, rS, rB, rN, rP, rI, rD, rK⟩ := id hRl
  generalize hX : shX X = Y at hW
  obtain ⟨w9, -, -, -, wN, -, -, -, -, -, -, wM⟩ := id hW
  obtain ⟨b, w, c, ce, po, nn, dd, hb, wB⟩ := rB.get hX hW
  obtain ⟨sm, hBC, hBM, hP⟩ := hb.view
  obtain ⟨⟨b3, bsz⟩, -, ⟨bc, mc, c8, -⟩, -⟩ := id hb
  have hbr : (sz + 2 ≤ b ∧ b + 5 ≤ sz + 12) := by rcases bsz with ⟨q, -⟩ | ⟨q, -⟩ <;> omega
  obtain ⟨c', c8', mc', hn, hg⟩ := id rN
  have hcc : c' = c := (nI_eq (by omega) (by omega)).mp (mc'.symm.trans mc)
  subst hcc
  obtain ⟨⟨mi, hmi, gm⟩, ⟨fo, hfo, gf⟩, ⟨wi, hwi, gw⟩, g4⟩ := id hg
  obtain ⟨n0, n1, n2, n3, nH⟩ := id hn
  dsimp only at gm gf gw n0 n1 n2 n3 g4
  have hh1 := has_ok (F := F) hX wB v
  have hh2 := fun X1 (e : shX X1 = Y) (em : gi X1 (sz + 151) 1 = nI c') => isHouse_ok (F := F) e wM em c8 v
  rw [bc] at hh1
  by_cases hok : ¬ (0 ≤ v ∧ v < nI c')
  · rw [if_neg hok] at hh1
    have h2 := hh2 X hX mc
    rw [if_neg hok] at h2
    refine ⟨-1000000001, X, X, ?_, ?_, hI⟩
    · simp only [fX9_light, g9 w9, hX, Option.bind_some, b3, hh1, if_true]
    · simp only [fX10_light, gM wM, hX, Option.bind_some, h2, if_true]
  have hok := Decidable.not_not.mp hok
  rw [if_pos hok] at hh1
  simp only [if_pos hok] at hh2
  obtain ⟨h, hl, rfl⟩ := nI_of (i_nlt.mpr hok.1)
  have hc := (nI_ltI hl (by omega)).mp hok.2
  have l8 : h < 8 := by omega
  obtain ⟨⟨r, hr9, gr'⟩, gsa, gso⟩ := g4 h hc
  obtain ⟨q1, q2, q3, q4⟩ := n3 h hc
  have e3 : (3 : Int32) + nI h = nI (3 + h) := nI_add 3 h
  have e11 : (11 : Int32) + nI h = nI (11 + h) := nI_add 11 h
  have l3 : 3 + h < 43 := by omega
  have l11 : 11 + h < 43 := by omega
  rw [gr'] at q1
  by_cases hr0 : r = 0
  · subst hr0
    refine ⟨-1000000003, X, X, ?_, ?_, hI⟩
    · simp only [fX9_light, g9 w9, gN wN, hX, Option.bind_some, b3, hh1, if_neg (show ¬ (1 : Int32) = 0 by decide), l8, q1, if_pos (show nI 0 ≤ (0 : Int32) by decide)]
    · simp only [fX10_light, gM wM, hX, Option.bind_some, hh2 X hX mc, if_neg (show ¬ (1 : Int32) = 0 by decide), e3, l3, gr', if_pos (show nI 0 = (0 : Int32) by decide)]
  have nr1 : ¬ nI r ≤ (0 : Int32) := nI_nle (by omega) (by omega)
  have nr2 : ¬ nI r = (0 : Int32) := nI_ne0 (by omega) (by omega)
  by_cases hsg : ga X (sz + 151 + 5) (11 + h) = nI mi
  · refine ⟨-1000000003, X, X, ?_, ?_, hI⟩
    · simp only [fX9_light, g9 w9, gN wN, hX, Option.bind_some, b3, hh1, if_neg (show ¬ (1 : Int32) = 0 by decide), l8, q1, if_neg nr1, q2, n0, gm, if_pos hsg]
    · simp only [fX10_light, gM wM, m5 wM, hX, Option.bind_some, hh2 X hX mc, if_neg (show ¬ (1 : Int32) = 0 by decide), e3, l3, gr', if_neg nr2, e11, l11, gm, if_pos hsg]
  obtain ⟨d, rfl⟩ : ∃ d, r = d + 1 := ⟨r - 1, by omega⟩
  obtain ⟨Xp, a1, a2, a3, a4⟩ := done_op (F := F) hF hX hW hRl
  -- the class
  have cell : ∀ q : Nat, q < sz + 19 → Xp q = X q := fun q hq => a3 q (by omega)
  have hX18 : shX (pA Xp (sz + 14 + 1) h (nI d)) = Y := by simp only [kN wN, a2]
  have hB18 : BC (pA Xp (sz + 14 + 1) h (nI d)) b w c' sm ce po := hBC.c (fun q z1 z2 => (pA_ne (by omega)).trans (cell q (by omega)))
  have p14 : ∀ k : Nat, gi (pA Xp (sz + 14 + 1) h (nI d)) (sz + 14) k = gi X (sz + 14) k := fun k => by rw [gi_pA, gi_congr (cell _ (by omega))]
  have pA2 : ∀ j : Nat, 2 ≤ j → j ≤ 4 → ga (pA Xp (sz + 14 + 1) h (nI d)) (sz + 14 + j) = ga X (sz + 14 + j) := fun j j1 j2 => by rw [ga_pA_ne (by omega), ga_congr (cell _ (by omega))]
  have pA1' : ga (pA Xp (sz + 14 + 1) h (nI d)) (sz + 14 + 1) = upd (ga X (sz + 14 + 1)) h (nI d) := by rw [ga_pA_self a2 wN.2.1, ga_congr (cell _ (by omega))]
  have r18 : gr (pA Xp (sz + 14 + 1) h (nI d)) sz 3 = b := by rw [gr_pA, gr_congr (cell _ (by omega))]; exact b3
  have c18 : ∀ q : Nat, q ≠ sz + 15 → pA Xp (sz + 14 + 1) h (nI d) q = Xp q := fun q hq => pA_ne (by omega)
  have rp : ga Xp (sz + 14 + 1) h = nI (d + 1) := by rw [ga_congr (cell _ (by omega))]; exact q1
  generalize hX18' : pA Xp (sz + 14 + 1) h (nI d) = X18 at hX18 hB18 p14 pA2 pA1' r18 c18
  obtain ⟨X21, s1, s2, s3, s4, s5, s6⟩ := sign_ok (F := F) hX18 wN wB (by omega) hB18 hP (wi := wi) ⟨by rw [p14, n2]; exact gw, hwi⟩ hc (by omega)
  rw [p14, pA2 2 (by omega) (by omega), n0, gm] at s4
  rw [pA2 3 (by omega) (by omega)] at s5
  rw [p14, p14, pA2 2 (by omega) (by omega), pA2 3 (by omega) (by omega), pA2 4 (by omega) (by omega), n0, gm, n1, gf] at s6
  have hVm : vwV ce po w c' wi sm (nI fo) (ga X (sz + 14 + 2)) (ga X (sz + 14 + 3)) (nI mi) h = vwV ce po w c' wi sm (nI fo) (fun k => ga X (sz + 151 + 5) (11 + k)) (fun k => ga X (sz + 151 + 5) (19 + k)) (nI mi) h := vwV_congr (fun g hg => ⟨(n3 g hg).2.1, (n3 g hg).2.2.1⟩)
  rw [hVm] at s6
  generalize hV : vwV ce po w c' wi sm (nI fo) (fun k => ga X (sz + 151 + 5) (11 + k)) (fun k => ga X (sz + 151 + 5) (19 + k)) (nI mi) h = V at s6
  have hov := (viewers_val (F := F) hX18 wN wB hB18 hP (wi := wi) ⟨by rw [p14, n2]; exact gw, hwi⟩ hc (by omega)).2.1
  generalize hO : ov ce w wi h = o at s5 hov
  have hB21 : BC X21 b w c' sm ce po := hB18.c (fun q z1 z2 => s3 q (by omega) (by omega) (by omega))
  have h3a : gi X21 (sz + 14) 3 = gi X (sz + 14) 3 := by rw [gi_congr (s3 _ (by omega) (by omega) (by omega)), p14]
  have h0a : gi X21 (sz + 14) 0 = nI mi := by rw [gi_congr (s3 _ (by omega) (by omega) (by omega)), p14, n0, gm]
  obtain ⟨X1, t1, t2, t3⟩ := agree_ok (F := F) (sa := upd (fun k => ga X (sz + 151 + 5) (11 + k)) h (nI mi)) (sb := upd (fun k => ga X (sz + 151 + 5) (27 + k)) h V) (rw0 := fun k => ga X (sz + 151 + 5) (35 + k)) s2 wN wB (by omega) hB21 hP hc h0a (fun g hg => by
    rw [s4, s6]
    by_cases z : g = h
    · subst z; simp only [upd_self, and_self]
    · simp only [upd_ne _ z]
      exact ⟨(n3 g hg).2.1, (n3 g hg).2.2.2⟩) (by rw [h3a]; exact nH) (by omega)
  rw [h3a] at t2 t3
  obtain ⟨u1, u2, u3⟩ := id t2
  have f1 : fX9_light F X sz (nI h) = some (nI (nwS (mtB (upd (fun k => ga X (sz + 151 + 5) (11 + k)) h (nI mi)) (upd (fun k => ga X (sz + 151 + 5) (27 + k)) h V) (nI mi) (rd ce po c') h) (rd ce po c' h) (rd ce po c') (fun k => ga X (sz + 151 + 5) (35 + k)) c'), X1) := by
    have r21 : gr X21 sz 3 = b := by rw [gr_congr (s3 _ (by omega) (by omega) (by omega))]; exact r18
    simp only [fX9_light, g9 w9, gN wN, sN wN, hX, Option.bind_some, b3, hh1, if_neg (show ¬ (1 : Int32) = 0 by decide), l8, q1, if_neg nr1, q2, n0, gm, if_neg hsg, a1, a2, rp, qlt, nI_pred, hX18', hX18, r18, s1, s2, r21, t1, qb2]
  have x1p : ∀ q : Nat, q < sz + 14 ∨ sz + 19 ≤ q → X1 q = Xp q := fun q hq => (u2 q (by omega)).trans ((s3 q (by omega) (by omega) (by omega)).trans (c18 q (by omega)))
  -- the model
  obtain ⟨Xr, y1, y2, y3, y4, y5⟩ := a4 X1 u1 (fun q z0 z1 => x1p q (by omega)) (fun k _ => by rw [gi_congr ((x1p sz (by omega)).trans (cell sz (by omega)))]) (fun k _ => by rw [gr_congr ((x1p sz (by omega)).trans (cell sz (by omega)))])
  have ex : ∀ q : Nat, sz + 121 ≤ q → X1 q = X q := fun q hq => (x1p q (by omega)).trans (a3 q (by omega))
  have mr : ∀ q : Nat, sz + 121 ≤ q → q ≠ sz + 151 → q ≠ sz + 166 → Xr q = X q := fun q z1 z2 z3 => (y3 q z2 z3).trans (ex q z1)
  have e5 : ga Xr (sz + 151 + 5) = ga X (sz + 151 + 5) := ga_congr (mr _ (by omega) (by omega) (by omega))
  have hX13 : shX (pA Xr (sz + 151 + 5) (3 + h) (nI d)) = Y := shX_pA y2 wM.p5 _ _
  have v13 : ga (pA Xr (sz + 151 + 5) (3 + h) (nI d)) (sz + 151 + 5) = upd (ga X (sz + 151 + 5)) (3 + h) (nI d) := by rw [ga_pA_self y2 wM.p5, e5]
  have hB13 : BM (pA Xr (sz + 151 + 5) (3 + h) (nI d)) (sz + 151) w c' sm ce po := hBM.c (fun k hk => by rw [gi_pA]; exact y4 k (by omega)) ((pA_ne (by omega)).trans (mr _ (by omega) (by omega) (by omega))) ((pA_ne (by omega)).trans (mr _ (by omega) (by omega) (by omega)))
  have hsa0 : ∀ g : Nat, g < c' → ga X (sz + 151 + 5) (11 + g) = -1 ∨ ¬ ga X (sz + 151 + 5) (11 + g) < 0 := fun g hg => by
    rcases (g4 g hg).2.1 with q | ⟨t, ht, q⟩
    · exact Or.inl q
    · exact Or.inr (by rw [q]; exact nI_pos (by omega))
  obtain ⟨X14, z1, z2, z3, z4⟩ := lightNow_ok (F := F) hX13 wM hB13 hP (wi := wi) ⟨by rw [v13, upd_ne _ (by omega)]; exact gw, hwi⟩ (fun g hg => by rw [v13, upd_ne _ (by omega)]; exact hsa0 g hg) hc (by omega)
  have v0 : ∀ k : Nat, k ≠ 3 + h → ga (pA Xr (sz + 151 + 5) (3 + h) (nI d)) (sz + 151 + 5) k = ga X (sz + 151 + 5) k := fun k hk => by rw [v13, upd_ne _ hk]
  have hVV : vwV ce po w c' wi sm (ga (pA Xr (sz + 151 + 5) (3 + h) (nI d)) (sz + 151 + 5) 0) (fun k => ga (pA Xr (sz + 151 + 5) (3 + h) (nI d)) (sz + 151 + 5) (11 + k)) (fun k => ga (pA Xr (sz + 151 + 5) (3 + h) (nI d)) (sz + 151 + 5) (19 + k)) (ga (pA Xr (sz + 151 + 5) (3 + h) (nI d)) (sz + 151 + 5) 2) h = V := by
    rw [← hV, v0 0 (by omega), v0 2 (by omega), gf, gm]
    exact vwV_congr (fun g hg => ⟨v0 _ (by omega), v0 _ (by omega)⟩)
  rw [hVV, v0 2 (by omega), gm, v13, hO] at z4
  have hB14 : BM X14 (sz + 151) w c' sm ce po := hB13.c (fun k hk => gi_congr (z3 _ (by omega)) k) (z3 _ (by omega)) (z3 _ (by omega))
  have w14 : ∀ k : Nat, ga X14 (sz + 151 + 5) k = if k = 27 + h then V else if k = 11 + h then nI mi else if k = 19 + h then nI o else if k = 3 + h then nI d else ga X (sz + 151 + 5) k := fun k => by
    rw [z4]
    by_cases c1 : k = 27 + h
    · subst c1; rw [upd_self, if_pos rfl]
    · rw [upd_ne _ c1, if_neg c1]
      by_cases c2 : k = 11 + h
      · subst c2; rw [upd_self, if_pos rfl]
      · rw [upd_ne _ c2, if_neg c2]
        by_cases c3 : k = 19 + h
        · subst c3; rw [upd_self, if_pos rfl]
        · rw [upd_ne _ c3, if_neg c3]
          by_cases c4 : k = 3 + h
          · subst c4; rw [upd_self, if_pos rfl]
          · rw [upd_ne _ c4, if_neg c4]
  have hA0 : alI X14 Y (sz + 151) (rwS (mtB (upd (fun k => ga X (sz + 151 + 5) (11 + k)) h (nI mi)) (upd (fun k => ga X (sz + 151 + 5) (27 + k)) h V) (nI mi) (rd ce po c') h) (rd ce po c' h) (rd ce po c') (fun k => ga X (sz + 151 + 5) (35 + k)) 0) X14 := ⟨z2, fun _ _ => rfl, fun k => by
    show ga X14 (sz + 151 + 5) k = if 35 ≤ k ∧ k < 43 then ga X (sz + 151 + 5) (35 + (k - 35)) else ga X14 (sz + 151 + 5) k
    by_cases y : 35 ≤ k ∧ k < 43
    · rw [if_pos y, w14, if_neg (by omega), if_neg (by omega), if_neg (by omega), if_neg (by omega), show 35 + (k - 35) = k by omega]
    · rw [if_neg y]⟩
  obtain ⟨X2, j1, j2⟩ := light_L (F := F) (X0 := X14) (sa := upd (fun k => ga X (sz + 151 + 5) (11 + k)) h (nI mi)) (sb := upd (fun k => ga X (sz + 151 + 5) (27 + k)) h V) (mi := nI mi) wM hB14 hP hc (by rw [w14, if_neg (by omega), if_neg (by omega), if_neg (by omega), if_neg (by omega)]; exact gm) (fun g hg => by
    rw [w14, w14]
    by_cases z : g = h
    · subst z
      simp only [upd_self, if_true]
      rw [if_neg (by omega)]
      exact ⟨rfl, trivial⟩
    · simp only [upd_ne _ z]
      rw [if_neg (by omega), if_neg (by omega), if_neg (by omega), if_neg (by omega), if_neg (by omega), if_neg (by omega), if_neg (by omega), if_neg (by omega)]
      exact ⟨rfl, rfl⟩) (fun g hg => by
    by_cases z : g = h
    · subst z; rw [upd_self]; exact Or.inr (nI_pos (by omega))
    · rw [upd_ne _ z]; exact hsa0 g hg) (by omega) F 0 X14 (by omega) (by omega) hA0
  rw [show nI (nwS (mtB (upd (fun k => ga X (sz + 151 + 5) (11 + k)) h (nI mi)) (upd (fun k => ga X (sz + 151 + 5) (27 + k)) h V) (nI mi) (rd ce po c') h) (rd ce po c' h) (rd ce po c') (fun k => ga X (sz + 151 + 5) (35 + k)) 0) = (0 : Int32) from rfl, show nI 0 = (0 : Int32) from rfl] at j1
  obtain ⟨o1, o2, o3⟩ := id j2
  generalize nwS (mtB (upd (fun k => ga X (sz + 151 + 5) (11 + k)) h (nI mi)) (upd (fun k => ga X (sz + 151 + 5) (27 + k)) h V) (nI mi) (rd ce po c') h) (rd ce po c' h) (rd ce po c') (fun k => ga X (sz + 151 + 5) (35 + k)) c' = N at f1 j1
  generalize hoS (mtB (upd (fun k => ga X (sz + 151 + 5) (11 + k)) h (nI mi)) (upd (fun k => ga X (sz + 151 + 5) (27 + k)) h V) (nI mi) (rd ce po c') h) (rd ce po c' h) (rd ce po c') (gi X (sz + 14) 3) c' = HO at t3 u3
  generalize rwS (mtB (upd (fun k => ga X (sz + 151 + 5) (11 + k)) h (nI mi)) (upd (fun k => ga X (sz + 151 + 5) (27 + k)) h V) (nI mi) (rd ce po c') h) (rd ce po c' h) (rd ce po c') (fun k => ga X (sz + 151 + 5) (35 + k)) c' = RW at t3 o3
  have f2 : fX10_light F X1 (sz + 151) (nI h) = some (nI N, X2) := by
    have e5' : ga X1 (sz + 151 + 5) = ga X (sz + 151 + 5) := ga_congr (ex _ (by omega))
    have m1 : gi X1 (sz + 151) 1 = nI c' := by rw [gi_congr (ex _ (by omega))]; exact mc
    simp only [fX10_light, gM wM, sM wM, m5 wM, u1, Option.bind_some, hh2 X1 u1 m1, if_neg (show ¬ (1 : Int32) = 0 by decide), e3, l3, e5', gr', if_neg nr2, e11, l11, gm, if_neg hsg, y1, y2, qlt, e5, nI_pred, z1, j1, qb2]
  refine ⟨nI N, X1, X2, f1, f2, ?_⟩
  have m151 : ∀ k : Nat, gi X2 (sz + 151) k = gi Xr (sz + 151) k := fun k => by rw [gi_congr ((o2 _ (by omega)).trans (z3 _ (by omega))), gi_pA]
  have c14 : ∀ q : Nat, q < sz + 121 → X2 q = X1 q := fun q hq => (o2 q (by omega)).trans ((z3 q (by omega)).trans ((pA_ne (by omega)).trans (y3 q (by omega) (by omega))))
  refine y5 X2 o1 (fun q k1 k2 => (o2 q (by omega)).trans ((z3 q (by omega)).trans (pA_ne (by omega)))) (fun k _ => m151 k) ?_ ⟨c', c8, by rw [m151, y4 1 (by omega)]; exact mc, ⟨?_, ?_, ?_, fun t ht => ?_, ?_⟩, ⟨⟨mi, hmi, ?_⟩, ⟨fo, hfo, ?_⟩, ⟨wi, hwi, ?_⟩, fun t ht => ?_⟩⟩
  · show gi X2 sz 5 = gi X2 (sz + 151) 9 ∧ 0 ≤ gi X2 sz 5
    rw [m151, y4 9 (by omega), gi_congr ((c14 sz (by omega)).trans ((x1p sz (by omega)).trans (cell sz (by omega))))]
    exact rS
  · rw [gi_congr (c14 _ (by omega)), u3, if_neg (by omega), h0a]
    dsimp only
    rw [o3, if_neg (by omega), w14, if_neg (by omega), if_neg (by omega), if_neg (by omega), if_neg (by omega)]
    exact gm.symm
  · rw [gi_congr (c14 _ (by omega)), u3, if_neg (by omega), gi_congr (s3 _ (by omega) (by omega) (by omega)), p14, n1]
    dsimp only
    rw [o3, if_neg (by omega), w14, if_neg (by omega), if_neg (by omega), if_neg (by omega), if_neg (by omega)]
  · rw [gi_congr (c14 _ (by omega)), u3, if_neg (by omega), gi_congr (s3 _ (by omega) (by omega) (by omega)), p14, n2]
    dsimp only
    rw [o3, if_neg (by omega), w14, if_neg (by omega), if_neg (by omega), if_neg (by omega), if_neg (by omega)]
  · dsimp only
    have ea : ∀ j : Nat, 1 ≤ j → j ≤ 4 → ga X2 (sz + 14 + j) = ga X21 (sz + 14 + j) := fun j k1 k2 => ga_congr ((c14 _ (by omega)).trans (u2 _ (by omega)))
    have ea1 : ga X21 (sz + 14 + 1) = ga X18 (sz + 14 + 1) := ga_congr (s3 _ (by omega) (by omega) (by omega))
    rw [ea 1 (by omega) (by omega), ea 2 (by omega) (by omega), ea 3 (by omega) (by omega), ea 4 (by omega) (by omega), ea1, pA1', s4, s5, s6, o3, o3, o3, o3, if_neg (by omega), if_neg (by omega), if_neg (by omega), if_neg (by omega), w14, w14, w14, w14]
    obtain ⟨q1, q2, q3, q4⟩ := n3 t ht
    by_cases z : t = h
    · subst z
      rw [upd_self, upd_self, upd_self, upd_self]
      refine ⟨?_, ?_, ?_, ?_⟩
      · rw [if_neg (by omega), if_neg (by omega), if_neg (by omega), if_pos rfl]
      · rw [if_neg (by omega), if_pos rfl]
      · rw [if_neg (by omega), if_neg (by omega), if_pos rfl]
      · rw [if_pos rfl]
    · simp only [upd_ne _ z]
      refine ⟨?_, ?_, ?_, ?_⟩
      · rw [if_neg (by omega), if_neg (by omega), if_neg (by omega), if_neg (by omega)]; exact q1
      · rw [if_neg (by omega), if_neg (by omega), if_neg (by omega), if_neg (by omega)]; exact q2
      · rw [if_neg (by omega), if_neg (by omega), if_neg (by omega), if_neg (by omega)]; exact q3
      · rw [if_neg (by omega), if_neg (by omega), if_neg (by omega), if_neg (by omega)]; exact q4
  · rw [gi_congr (c14 _ (by omega)), u3, if_pos rfl]
    have hrow : ∀ k : Nat, k < 8 → ga X2 (sz + 151 + 5) (35 + k) = RW k := fun k hk => by rw [o3, if_pos (by omega), Nat.add_sub_cancel_left]
    refine ⟨fun p q hp hq => ?_, t3.2.1, fun p q hp hq => ?_⟩
    · dsimp only
      rw [hrow p (by omega), hrow q (by omega)]
      exact t3.1 p q hp hq
    · dsimp only
      rw [hrow p (by omega)]
      exact t3.2.2 p q hp hq
  · dsimp only
    rw [o3, if_neg (by omega), w14, if_neg (by omega), if_neg (by omega), if_neg (by omega), if_neg (by omega)]
    exact gm
  · dsimp only
    rw [o3, if_neg (by omega), w14, if_neg (by omega), if_neg (by omega), if_neg (by omega), if_neg (by omega)]
    exact gf
  · dsimp only
    rw [o3, if_neg (by omega), w14, if_neg (by omega), if_neg (by omega), if_neg (by omega), if_neg (by omega)]
    exact gw
  · dsimp only
    rw [o3, o3, o3, if_neg (by omega), if_neg (by omega), if_neg (by omega), w14, w14, w14]
    obtain ⟨q1, q2, q3⟩ := g4 t ht
    by_cases z : t = h
    · subst z
      refine ⟨?_, ?_, ?_⟩
      · rw [if_neg (by omega), if_neg (by omega), if_neg (by omega), if_pos rfl]; exact ⟨d, by omega, rfl⟩
      · rw [if_neg (by omega), if_pos rfl]; exact Or.inr ⟨mi, hmi, rfl⟩
      · rw [if_neg (by omega), if_neg (by omega), if_pos rfl]; exact Or.inr ⟨o, hov, rfl⟩
    · refine ⟨?_, ?_, ?_⟩
      · rw [if_neg (by omega), if_neg (by omega), if_neg (by omega), if_neg (by omega)]; exact q1
      · rw [if_neg (by omega), if_neg (by omega), if_neg (by omega), if_neg (by omega)]; exact q2
      · rw [if_neg (by omega), if_neg (by omega), if_neg (by omega), if_neg (by omega)]; exact q3
