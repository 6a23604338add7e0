/-! minute, fog, wind -/
theorem refus_c {F : Nat} {X Y : qH} {sz b w mi : Nat} (hX : shX X = Y) (w9 : Y9 Y sz) (wB : YB Y b) (wN : YN Y (sz + 14)) (b3 : gr X sz 3 = b) (bw : gi X b 0 = nI w) (hw : w ≤ 30) (hm : gi X (sz + 14) 0 = nI mi) (hmi : mi < 1000000) (v : Int32) :
    fX9_refusalOfMinutes F X sz v = some (if (1 : Int32) ≤ v ∧ v ≤ 99 then (if w = 0 then -1000000003 else if mi ≤ 90000 then 0 else -1000000004) else -1000000002) := by
  by_cases h1 : v < 1
  · simp only [fX9_refusalOfMinutes, g9 w9, hX, if_pos h1, if_neg (show ¬ ((1 : Int32) ≤ v ∧ v ≤ 99) from fun q => absurd q.1 (i_nle.mpr h1))]
  · by_cases h2 : v ≤ 99
    · have e0 : (nI w = (0 : Int32)) = (w = 0) := propext (nI_eq (b := 0) (by omega) (by omega))
      have e9 : (nI mi ≤ (90000 : Int32)) = (mi ≤ 90000) := propext (nI_leI (b := 90000) (by omega) (by omega))
      simp only [fX9_refusalOfMinutes, g9 w9, gB wB, gN wN, hX, if_neg h1, if_pos h2, if_pos (And.intro (i_nlt.mp h1) h2), Option.bind_some, b3, bw, hm, e0, e9, some_ite]
    · simp only [fX9_refusalOfMinutes, g9 w9, hX, if_neg h1, if_neg h2, if_neg (show ¬ ((1 : Int32) ≤ v ∧ v ≤ 99) from fun q => h2 q.2)]
theorem refus_m {F : Nat} {X Y : qH} {m w mi : Nat} (hX : shX X = Y) (wM : YM Y m) (bw : gi X m 0 = nI w) (hw : w ≤ 30) (hm : ga X (m + 5) 2 = nI mi) (hmi : mi < 1000000) (v : Int32) :
    fX10_minutesRefused F X m v = some (if (1 : Int32) ≤ v ∧ v ≤ 99 then (if w = 0 then -1000000003 else if mi ≤ 90000 then 0 else -1000000004) else -1000000002) := by
  have hin := l_in F X v 1 99 (l := 1) (h := 99) rfl rfl
  have e0 : (nI w = (0 : Int32)) = (w = 0) := propext (nI_eq (b := 0) (by omega) (by omega))
  have e9 : (nI mi ≤ (90000 : Int32)) = (mi ≤ 90000) := propext (nI_leI (b := 90000) (by omega) (by omega))
  by_cases h : (1 : Int32) ≤ v ∧ v ≤ 99
  · simp only [fX10_minutesRefused, gM wM, m5 wM, hX, hin, if_pos h, if_neg (show ¬ (1 : Int32) = 0 by decide), Option.bind_some, bw, hm, e0, e9, some_ite]
  · simp only [fX10_minutesRefused, gM wM, hX, hin, if_neg h, if_true, Option.bind_some]
/-- now's rows, one int of three changed on both sides -/
theorem NR.w3 {X X2 : qH} {a c k j : Nat} {g g2 : Nat → Int32} {v : Int32} (h : NR X a g c) (c8 : c ≤ 8) (hk : (k = 0 ∧ j = 2) ∨ (k = 1 ∧ j = 0) ∨ (k = 2 ∧ j = 1)) (e0 : ∀ i : Nat, gi X2 a i = if i = k then v else gi X a i) (e1 : ∀ i : Nat, 1 ≤ i → i ≤ 4 → ga X2 (a + i) = ga X (a + i)) (hg : ∀ i : Nat, g2 i = if i = j then v else g i) : NR X2 a g2 c := by
  obtain ⟨h1, h2, h3, h4, h5, h6, h7⟩ := h
  have hgn : ∀ i : Nat, 3 ≤ i → g2 i = g i := fun i hi => by rw [hg, if_neg (by omega)]
  refine ⟨?_, ?_, ?_, fun h hh => ?_, ?_⟩
  · rw [e0, hg]; rcases hk with ⟨rfl, rfl⟩ | ⟨rfl, rfl⟩ | ⟨rfl, rfl⟩ <;> simp [h1]
  · rw [e0, hg]; rcases hk with ⟨rfl, rfl⟩ | ⟨rfl, rfl⟩ | ⟨rfl, rfl⟩ <;> simp [h2]
  · rw [e0, hg]; rcases hk with ⟨rfl, rfl⟩ | ⟨rfl, rfl⟩ | ⟨rfl, rfl⟩ <;> simp [h3]
  · rw [e1 1 (by omega) (by omega), e1 2 (by omega) (by omega), e1 3 (by omega) (by omega), e1 4 (by omega) (by omega), hgn _ (by omega), hgn _ (by omega), hgn _ (by omega), hgn _ (by omega)]
    exact h4 h hh
  · rw [e0, if_neg (by omega)]
    refine ⟨fun p q hp hq => ?_, h6, fun p q hp hq => ?_⟩
    · dsimp only
      rw [hgn _ (by omega), hgn _ (by omega)]
      exact h5 p q hp hq
    · dsimp only
      rw [hgn _ (by omega)]
      exact h7 p q hp hq
theorem GI.w3 {c j : Nat} {g g2 : Nat → Int32} {v : Int32} (h : GI g c) (hj : (j = 2 ∧ ∃ mi : Nat, mi ≤ 90105 ∧ v = nI mi) ∨ (j = 0 ∧ ∃ fo : Nat, fo ≤ 20 ∧ v = nI fo) ∨ (j = 1 ∧ ∃ wi : Nat, wi ≤ 10 ∧ v = nI wi - 5)) (hg : ∀ i : Nat, g2 i = if i = j then v else g i) : GI g2 c := by
  obtain ⟨h1, h2, h3, h4⟩ := h
  have hgn : ∀ i : Nat, 3 ≤ i → g2 i = g i := fun i hi => by rw [hg, if_neg (by rcases hj with ⟨q, -⟩ | ⟨q, -⟩ | ⟨q, -⟩ <;> omega)]
  have h4' : ∀ h : Nat, h < c → (∃ r : Nat, r ≤ 9 ∧ g2 (3 + h) = nI r) ∧ (g2 (11 + h) = -1 ∨ ∃ t : Nat, t ≤ 90105 ∧ g2 (11 + h) = nI t) ∧ (g2 (19 + h) = -1 ∨ ∃ x : Nat, x < 30 ∧ g2 (19 + h) = nI x) := fun h hh => by
    rw [hgn _ (by omega), hgn _ (by omega), hgn _ (by omega)]; exact h4 h hh
  rcases hj with ⟨rfl, q⟩ | ⟨rfl, q⟩ | ⟨rfl, q⟩
  · exact ⟨by rw [hg, if_pos rfl]; exact q, by rw [hg, if_neg (by omega)]; exact h2, by rw [hg, if_neg (by omega)]; exact h3, h4'⟩
  · exact ⟨by rw [hg, if_neg (by omega)]; exact h1, by rw [hg, if_pos rfl]; exact q, by rw [hg, if_neg (by omega)]; exact h3, h4'⟩
  · exact ⟨by rw [hg, if_neg (by omega)]; exact h1, by rw [hg, if_neg (by omega)]; exact h2, by rw [hg, if_pos rfl]; exact q, h4'⟩
set_option maxHeartbeats 1000000 in
/-- both nows get v in one of the three places -/
theorem set3 {F : Nat} {X Y : qH} {sz k j : Nat} {v : Int32} (hF : 300000 ≤ F) (hX : shX X = Y) (hW : YW Y sz) (hRl : Rel X sz) (hk : (k = 0 ∧ j = 2) ∨ (k = 1 ∧ j = 0) ∨ (k = 2 ∧ j = 1))
    (hj : (j = 2 ∧ ∃ mi : Nat, mi ≤ 90105 ∧ v = nI mi) ∨ (j = 0 ∧ ∃ fo : Nat, fo ≤ 20 ∧ v = nI fo) ∨ (j = 1 ∧ ∃ wi : Nat, wi ≤ 10 ∧ v = nI wi - 5)) :
    ∃ Xp Xr, fX5_push F X (sz + 19) (sz + 14) = some Xp ∧ shX Xp = Y ∧ gi Xp (sz + 14) k = gi X (sz + 14) k ∧ shX (pI Xp (sz + 14) k v) = Y ∧ gi (pI Xp (sz + 14) k v) (sz + 14) k = v ∧ (∀ q : Nat, sz + 121 ≤ q → pI Xp (sz + 14) k v q = X q) ∧
      fX10_remember F (pI Xp (sz + 14) k v) (sz + 151) = some Xr ∧ shX Xr = Y ∧ ga Xr (sz + 151 + 5) = ga X (sz + 151 + 5) ∧ ga (pA Xr (sz + 151 + 5) j v) (sz + 151 + 5) j = v ∧ shX (pA Xr (sz + 151 + 5) j v) = Y ∧ Inv (pA Xr (sz + 151 + 5) j v) sz := by
  obtain ⟨w9, -, -, -, wN, -, -, -, -, -, -, wM⟩ := id hW
  obtain ⟨rT, rF, rS, rB, rN, rP, rI, rD, rK⟩ := id hRl
  obtain ⟨Xp, a1, a2, a3, a4⟩ := done_op (F := F) hF hX hW hRl
  have hX1 : shX (pI Xp (sz + 14) k v) = Y := by rcases hk with ⟨rfl, -⟩ | ⟨rfl, -⟩ | ⟨rfl, -⟩ <;> simp only [kN wN, a2]
  have u1 : ∀ i : Nat, gi (pI Xp (sz + 14) k v) (sz + 14) i = if i = k then v else gi X (sz + 14) i := fun i => by
    rw [← gi_congr (a3 (sz + 14) (by omega)) i]
    rcases hk with ⟨rfl, -⟩ | ⟨rfl, -⟩ | ⟨rfl, -⟩ <;> simp only [uN wN, a2]
  obtain ⟨Xr, b1, b2, b3, b4, b5⟩ := a4 _ hX1 (fun q z0 z1 => pV_ne (by omega)) (fun i hi => by rw [gi_pI_ne (by omega), gi_congr (a3 sz (by omega))]) (fun i _ => by rw [gr_pI_ne' (by omega), gr_congr (a3 sz (by omega))])
  have ex : ∀ q : Nat, sz + 121 ≤ q → pI Xp (sz + 14) k v q = X q := fun q hq => (pV_ne (by omega)).trans (a3 q (by omega))
  have er5 : ga Xr (sz + 151 + 5) = ga X (sz + 151 + 5) := ga_congr ((b3 _ (by omega) (by omega)).trans (ex _ (by omega)))
  have hX2 : shX (pA Xr (sz + 151 + 5) j v) = Y := shX_pA b2 wM.p5 j v
  have u2 : ga (pA Xr (sz + 151 + 5) j v) (sz + 151 + 5) = upd (ga X (sz + 151 + 5)) j v := by rw [ga_pA_self b2 wM.p5, er5]
  have c14 : ∀ q : Nat, q < sz + 19 → pA Xr (sz + 151 + 5) j v q = pI Xp (sz + 14) k v q := fun q hq => (pA_ne (by omega)).trans (b3 q (by omega) (by omega))
  refine ⟨Xp, Xr, a1, a2, gi_congr (a3 (sz + 14) (by omega)) k, hX1, by rw [u1, if_pos rfl], ex, b1, b2, er5, by rw [u2, upd_self], hX2, ?_⟩
  refine b5 _ hX2 (fun q z1 z2 => pA_ne (by omega)) (fun i hi => gi_pA _ _ _ _) ?_ ?_
  · show gi _ sz 5 = gi _ (sz + 151) 9 ∧ 0 ≤ gi _ sz 5
    rw [gi_pA, gi_pA, b4 9 (by omega), gi_congr (b3 sz (by omega) (by omega)), gi_pI_ne (by omega), gi_congr (a3 sz (by omega))]
    exact rS
  · obtain ⟨c, c8, mc, nw, ng⟩ := rN
    have hg : ∀ i : Nat, (fun k => ga (pA Xr (sz + 151 + 5) j v) (sz + 151 + 5) k) i = if i = j then v else (fun k => ga X (sz + 151 + 5) k) i := fun i => by
      dsimp only
      rw [u2]
      by_cases z : i = j
      · subst z; rw [upd_self, if_pos rfl]
      · rw [upd_ne _ z, if_neg z]
    refine ⟨c, c8, by rw [gi_pA, b4 1 (by omega)]; exact mc, nw.w3 c8 hk (fun i => ?_) (fun i i1 i4 => ?_) hg, ng.w3 hj hg⟩
    · rw [gi_congr (c14 _ (by omega))]; exact u1 i
    · rw [ga_congr (c14 (sz + 14 + i) (by omega)), ga_pI, ga_congr (a3 (sz + 14 + i) (by omega))]
set_option maxHeartbeats 1000000 in
theorem op_minute {F : Nat} {X : qH} {sz : Nat} (hI : Inv X sz) (hF : 300000 ≤ F) (v : Int32) : Op sz (fun X => fX9_minute F X sz v) (fun X => fX10_minute F X (sz + 151) v) X := by
  obtain ⟨hW, hRl⟩ := id hI
  obtain ⟨rT, rF, rS, rB, rN, rP, rI, rD, rK⟩ := id hRl
  generalize hX : shX X = Y at hW
  obtain ⟨w9, -, -, -, wN, -, -, -, -, -, -, wM⟩ := id hW
  obtain ⟨b, w, c, ce, po, nn, dd, hb, wB⟩ := rB.get hX hW
  obtain ⟨⟨b3, -⟩, ⟨bw, mw, hw30⟩, -⟩ := id hb
  obtain ⟨c', c8', mc', hn, hg⟩ := rN
  obtain ⟨mi, hmi, gm⟩ := hg.1
  have gm1 : gi X (sz + 14) 0 = nI mi := hn.1.trans gm
  dsimp only at gm
  have r1 := refus_c (F := F) hX w9 wB wN b3 bw hw30 gm1 (by omega) v
  have r2 : ∀ X1 : qH, shX X1 = Y → (∀ q : Nat, sz + 121 ≤ q → X1 q = X q) → fX10_minutesRefused F X1 (sz + 151) v = _ := fun X1 h1 h2 => refus_m (F := F) h1 wM (by rw [gi_congr (h2 _ (by omega))]; exact mw) hw30 (by rw [show ga X1 (sz + 151 + 5) = ga X (sz + 151 + 5) from ga_congr (h2 _ (by omega))]; exact gm) (by omega) v
  by_cases h : ((1 : Int32) ≤ v ∧ v ≤ 99) ∧ w ≠ 0 ∧ mi ≤ 90000
  · rw [if_pos h.1, if_neg h.2.1, if_pos h.2.2] at r1
    obtain ⟨k, hk, rfl⟩ := nI_of2 (M := 99) (n := 99) (by decide) (fun q => i_nle.mpr q (show (0 : Int32) ≤ v from by
      have h1 := h.1.1
      rw [Int32.le_iff_toInt_le] at h1 ⊢
      rw [Int32.toInt_one] at h1
      rw [Int32.toInt_zero]; omega)) h.1.2
    have ev : nI mi + nI k = nI (mi + k) := nI_add mi k
    obtain ⟨Xp, Xr, a1, a2, a3, a4, a5, a6, b1, b2, b3', b4, b5, b6⟩ := set3 (k := 0) (j := 2) (v := nI (mi + k)) hF hX hW hRl (Or.inl ⟨rfl, rfl⟩) (Or.inl ⟨rfl, mi + k, by omega, rfl⟩)
    have r2' := r2 _ a4 a6
    rw [if_pos h.1, if_neg h.2.1, if_pos h.2.2] at r2'
    refine ⟨nI (mi + k), pI Xp (sz + 14) 0 (nI (mi + k)), _, ?_, ?_, b6⟩
    · simp only [fX9_minute, g9 w9, gN wN, sN wN, hX, r1, if_true, Option.bind_some, a1, a2, a3, gm1, qlt, ev, a4, a5]
    · simp only [fX10_minute, gM wM, m5 wM, a4, r2', if_true, Option.bind_some, b1, b2, b3', gm, qlt, ev, b5, b4]
  · have r2' := r2 X hX (fun _ _ => rfl)
    have hne : ¬ (if (1 : Int32) ≤ v ∧ v ≤ 99 then (if w = 0 then (-1000000003 : Int32) else if mi ≤ 90000 then 0 else -1000000004) else -1000000002) = 0 := by
      by_cases q1 : (1 : Int32) ≤ v ∧ v ≤ 99
      · by_cases q2 : w = 0
        · simp only [if_pos q1, if_pos q2]; decide
        · by_cases q3 : mi ≤ 90000
          · exact absurd ⟨q1, q2, q3⟩ h
          · simp only [if_pos q1, if_neg q2, if_neg q3]; decide
      · simp only [if_neg q1]; decide
    generalize (if (1 : Int32) ≤ v ∧ v ≤ 99 then (if w = 0 then (-1000000003 : Int32) else if mi ≤ 90000 then 0 else -1000000004) else -1000000002) = R at r1 r2' hne
    refine ⟨R, X, X, ?_, ?_, hI⟩
    · simp only [fX9_minute, g9 w9, hX, r1, Option.bind_some, if_neg hne]
    · simp only [fX10_minute, gM wM, hX, r2', Option.bind_some, if_neg hne]
set_option maxHeartbeats 1000000 in
theorem op_fog {F : Nat} {X : qH} {sz : Nat} (hI : Inv X sz) (hF : 300000 ≤ F) (v : Int32) : Op sz (fun X => fX9_fog F X sz v) (fun X => fX10_fog F X (sz + 151) v) X := by
  obtain ⟨hW, hRl⟩ := id hI
  obtain ⟨rT, rF, rS, rB, rN, rP, rI, rD, rK⟩ := id hRl
  generalize hX : shX X = Y at hW
  obtain ⟨w9, -, -, -, wN, -, -, -, -, -, -, wM⟩ := id hW
  obtain ⟨b, w, c, ce, po, nn, dd, hb, wB⟩ := rB.get hX hW
  obtain ⟨⟨b3, -⟩, ⟨bw, mw, hw30⟩, -⟩ := id hb
  obtain ⟨c', c8', mc', hn, hg⟩ := rN
  have gm1 := hn.2.1
  dsimp only at gm1
  have hin := fun X => l_in F X v 0 20 (l := 0) (h := 20) rfl rfl
  have e0 : (nI w = (0 : Int32)) = (w = 0) := propext (nI_eq (b := 0) (by omega) (by omega))
  by_cases h0 : v < 0
  · refine ⟨-1000000002, X, X, ?_, ?_, hI⟩
    · simp only [fX9_fog, g9 w9, hX, if_pos h0]
    · simp only [fX10_fog, gM wM, hX, hin, if_neg (show ¬ (0 ≤ v ∧ v ≤ 20) from fun q => absurd q.1 (i_nle.mpr h0)), Option.bind_some, if_true]
  by_cases h1 : v ≤ 20
  · have hc : (0 : Int32) ≤ v ∧ v ≤ 20 := ⟨i_nlt.mp h0, h1⟩
    by_cases hw : w = 0
    · refine ⟨-1000000003, X, X, ?_, ?_, hI⟩
      · simp only [fX9_fog, g9 w9, gB wB, hX, if_neg h0, if_pos h1, Option.bind_some, b3, bw, e0, if_pos hw]
      · simp only [fX10_fog, gM wM, hX, hin, if_pos hc, if_neg (show ¬ (1 : Int32) = 0 by decide), Option.bind_some, mw, e0, if_pos hw]
    · obtain ⟨k, hk, rfl⟩ := nI_of2 (M := 20) (n := 20) (by decide) h0 h1
      obtain ⟨Xp, Xr, a1, a2, a3, a4, a5, a6, b1, b2, b3', b4, b5, b6⟩ := set3 (k := 1) (j := 0) (v := nI k) hF hX hW hRl (Or.inr (Or.inl ⟨rfl, rfl⟩)) (Or.inr (Or.inl ⟨rfl, k, hk, rfl⟩))
      have mw' : gi (pI Xp (sz + 14) 1 (nI k)) (sz + 151) 0 = nI w := by rw [gi_congr (a6 _ (by omega))]; exact mw
      refine ⟨gi X (sz + 14) 1, pI Xp (sz + 14) 1 (nI k), _, ?_, ?_, b6⟩
      · simp only [fX9_fog, g9 w9, gB wB, gN wN, sN wN, hX, if_neg h0, if_pos h1, Option.bind_some, b3, bw, e0, if_neg hw, a1, a2, a3]
      · simp only [fX10_fog, gM wM, m5 wM, a4, hin, if_pos hc, if_neg (show ¬ (1 : Int32) = 0 by decide), Option.bind_some, mw', e0, if_neg hw, b1, b2, b3', gm1]
  · refine ⟨-1000000002, X, X, ?_, ?_, hI⟩
    · simp only [fX9_fog, g9 w9, hX, if_neg h0, if_neg h1]
    · simp only [fX10_fog, gM wM, hX, hin, if_neg (show ¬ (0 ≤ v ∧ v ≤ 20) from fun q => absurd q.2 h1), Option.bind_some, if_true]
set_option maxHeartbeats 1000000 in
theorem op_wind {F : Nat} {X : qH} {sz : Nat} (hI : Inv X sz) (hF : 300000 ≤ F) (v : Int32) : Op sz (fun X => fX9_wind F X sz v) (fun X => fX10_wind F X (sz + 151) v) X := by
  obtain ⟨hW, hRl⟩ := id hI
  obtain ⟨rT, rF, rS, rB, rN, rP, rI, rD, rK⟩ := id hRl
  generalize hX : shX X = Y at hW
  obtain ⟨w9, -, -, -, wN, -, -, -, -, -, -, wM⟩ := id hW
  obtain ⟨b, w, c, ce, po, nn, dd, hb, wB⟩ := rB.get hX hW
  obtain ⟨⟨b3, -⟩, ⟨bw, mw, hw30⟩, -⟩ := id hb
  obtain ⟨c', c8', mc', hn, hg⟩ := rN
  have gm1 := hn.2.2.1
  dsimp only at gm1
  have hin := fun X => l_in F X v (-5) 5 (l := -5) (h := 5) rfl rfl
  have e0 : (nI w = (0 : Int32)) = (w = 0) := propext (nI_eq (b := 0) (by omega) (by omega))
  by_cases h0 : v < -5
  · refine ⟨-1000000002, X, X, ?_, ?_, hI⟩
    · simp only [fX9_wind, g9 w9, hX, if_pos h0]
    · simp only [fX10_wind, gM wM, hX, hin, if_neg (show ¬ (-5 ≤ v ∧ v ≤ 5) from fun q => absurd q.1 (i_nle.mpr h0)), Option.bind_some, if_true]
  by_cases h1 : v ≤ 5
  · have hc : (-5 : Int32) ≤ v ∧ v ≤ 5 := ⟨i_nlt.mp h0, h1⟩
    by_cases hw : w = 0
    · refine ⟨-1000000003, X, X, ?_, ?_, hI⟩
      · simp only [fX9_wind, g9 w9, gB wB, hX, if_neg h0, if_pos h1, Option.bind_some, b3, bw, e0, if_pos hw]
      · simp only [fX10_wind, gM wM, hX, hin, if_pos hc, if_neg (show ¬ (1 : Int32) = 0 by decide), Option.bind_some, mw, e0, if_pos hw]
    · have hv : ∃ wi : Nat, wi ≤ 10 ∧ v = nI wi - 5 := by
        have t1 : -5 ≤ v.toInt := by have := hc.1; rw [Int32.le_iff_toInt_le] at this; exact this
        have t2 : v.toInt ≤ 5 := by have := hc.2; rw [Int32.le_iff_toInt_le] at this; exact this
        refine ⟨(v.toInt + 5).toNat, by omega, Int32.toInt_inj.mp ?_⟩
        rw [show (nI (v.toInt + 5).toNat - 5) = (nI (v.toInt + 5).toNat - nI 5) from rfl, pk_sub_toInt (by omega) (by omega)]
        omega
      obtain ⟨Xp, Xr, a1, a2, a3, a4, a5, a6, b1, b2, b3', b4, b5, b6⟩ := set3 (k := 2) (j := 1) (v := v) hF hX hW hRl (Or.inr (Or.inr ⟨rfl, rfl⟩)) (Or.inr (Or.inr ⟨rfl, hv⟩))
      have mw' : gi (pI Xp (sz + 14) 2 v) (sz + 151) 0 = nI w := by rw [gi_congr (a6 _ (by omega))]; exact mw
      refine ⟨gi X (sz + 14) 2 + 5, pI Xp (sz + 14) 2 v, _, ?_, ?_, b6⟩
      · simp only [fX9_wind, g9 w9, gB wB, gN wN, sN wN, hX, if_neg h0, if_pos h1, Option.bind_some, b3, bw, e0, if_neg hw, a1, a2, a3]
      · simp only [fX10_wind, gM wM, m5 wM, a4, hin, if_pos hc, if_neg (show ¬ (1 : Int32) = 0 by decide), Option.bind_some, mw', e0, if_neg hw, b1, b2, b3', gm1]
  · refine ⟨-1000000002, X, X, ?_, ?_, hI⟩
    · simp only [fX9_wind, g9 w9, hX, if_neg h0, if_neg h1]
    · simp only [fX10_wind, gM wM, hX, hin, if_neg (show ¬ (-5 ≤ v ∧ v ≤ 5) from fun q => absurd q.2 h1), Option.bind_some, if_true]
