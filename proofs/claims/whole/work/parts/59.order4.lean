/-! order: the operation -/
set_option maxHeartbeats 1000000 in
theorem order_L {F : Nat} {X0 Y : qH} {m w c sm wi mi n ix : Nat} {ce po : Nat → Nat} {v : Int32} (wM : YM Y m) (hB : BM X0 m w c sm ce po) (hP : BP w c sm ce po) (hwi : ga X0 (m + 5) 1 = nI wi - 5 ∧ wi ≤ 10) (hmi : ga X0 (m + 5) 2 = nI mi ∧ mi < 1000000) (hsa : ∀ g : Nat, g < c → ga X0 (m + 5) (11 + g) = -1 ∨ ¬ ga X0 (m + 5) (11 + g) < 0) (hn : n ≤ 6) (hix : ix < n) (hL : ∀ g : Nat, tb v g → g < c) (hF : 1000 ≤ F) :
    ∀ (t cd : Nat) (X : qH), cd ≤ 8 ^ n → 8 ^ n - cd < t → shX X = Y → (∀ q : Nat, q ≠ m + 5 → q ≠ m + 16 → X q = X0 q) → ga X (m + 5) = ga X0 (m + 5) →
      ∃ o X2, fX10_order_L43 F m v (nI ix) (nI n) t (nI cd) X = some o ∧ shX X2 = Y ∧ (∀ q : Nat, q ≠ m + 5 → q ≠ m + 16 → X2 q = X0 q) ∧ ga X2 (m + 5) = ga X0 (m + 5) ∧
        ((o = .inr X2 ∧ ∀ y : Nat, cd ≤ y → y < 8 ^ n → VV ce (seB ce po w c wi sm (ga X0 (m + 5) 0) mi) (fun h => nI (ov ce w wi h)) (fun p => nI (mi + p)) n 0 v 0 (fun k => ga X0 (m + 5) (11 + k)) (fun k => ga X0 (m + 5) (19 + k)) y = false) ∨
         ∃ x : Nat, cd ≤ x ∧ x < 8 ^ n ∧ o = .inl (nI (x / 8 ^ (n - 1 - ix) % 8), X2) ∧ VV ce (seB ce po w c wi sm (ga X0 (m + 5) 0) mi) (fun h => nI (ov ce w wi h)) (fun p => nI (mi + p)) n 0 v 0 (fun k => ga X0 (m + 5) (11 + k)) (fun k => ga X0 (m + 5) (19 + k)) x = true ∧ ∀ y : Nat, cd ≤ y → y < x → VV ce (seB ce po w c wi sm (ga X0 (m + 5) 0) mi) (fun h => nI (ov ce w wi h)) (fun p => nI (mi + p)) n 0 v 0 (fun k => ga X0 (m + 5) (11 + k)) (fun k => ga X0 (m + 5) (19 + k)) y = false) := by
  obtain ⟨s1, s2⟩ := sh3 ⟨n, by omega⟩
  dsimp only at s1 s2
  intro t
  induction t with
  | zero => intro cd X h1 h2; omega
  | succ t ih =>
    intro cd X hcd ht h1 h2 h3
    show ∃ o X2, fX10_order_L43_B F m v (nI ix) (nI n) (fX10_order_L43 F m v (nI ix) (nI n) t) (nI cd) X = some o ∧ _
    unfold fX10_order_L43_B
    by_cases q : cd = 8 ^ n
    · refine ⟨.inr X, X, ?_, h1, h2, h3, Or.inl ⟨rfl, fun y y1 y2 => by omega⟩⟩
      rw [s1, if_pos (nI_le (show 8 ^ n ≤ cd by omega) (by omega))]
    · have hlt : cd < 8 ^ n := by omega
      have hB1 : BM X m w c sm ce po := hB.c (fun q _ => gi_congr (h2 m (by omega) (by omega)) q) (h2 _ (by omega) (by omega)) (h2 _ (by omega) (by omega))
      obtain ⟨X7, k1, k2, k3, k4⟩ := isOrder_ok (F := F) (v := v) h1 wM hB1 hP (wi := wi) (mi := mi) (by rw [h3]; exact hwi) (by rw [h3]; exact hmi) (by rw [h3]; exact hsa) hn hlt hL hF
      rw [h3] at k1 k4
      have f7 : ∀ q : Nat, q ≠ m + 5 → q ≠ m + 16 → X7 q = X0 q := fun q q1 q2 => (k3 q q1 q2).trans (h2 q q1 q2)
      rw [s1, if_neg (nI_ge hlt (by omega))]
      by_cases z : VV ce (seB ce po w c wi sm (ga X0 (m + 5) 0) mi) (fun h => nI (ov ce w wi h)) (fun p => nI (mi + p)) n 0 v 0 (fun k => ga X0 (m + 5) (11 + k)) (fun k => ga X0 (m + 5) (19 + k)) cd = true
      · rw [if_pos z] at k1
        have fg := figure_ok (F := F) (X := X7) (m := cd) hn hix (by omega)
        refine ⟨.inl (nI (cd / 8 ^ (n - 1 - ix) % 8), X7), X7, ?_, k2, f7, k4, Or.inr ⟨cd, Nat.le_refl _, hlt, rfl, z, fun y y1 y2 => by omega⟩⟩
        simp only [k1, qb2, Option.bind_some, if_neg (show ¬ (1 : Int32) = 0 by decide), fg]
      · rw [if_neg z] at k1
        obtain ⟨o, X2, m1, m2, m3, m4, m5⟩ := ih (cd + 1) X7 (by omega) (by omega) k2 f7 k4
        refine ⟨o, X2, ?_, m2, m3, m4, ?_⟩
        · simp only [k1, qb2, Option.bind_some, if_true, qlt, nI_1]
          exact m1
        · rcases m5 with ⟨p1, p2⟩ | ⟨x, x1, x2, x3, x4, x5⟩
          · refine Or.inl ⟨p1, fun y y1 y2 => ?_⟩
            by_cases yz : y = cd
            · subst yz; exact b_nt z
            · exact p2 y (by omega) y2
          · refine Or.inr ⟨x, by omega, x2, x3, x4, fun y y1 y2 => ?_⟩
            by_cases yz : y = cd
            · subst yz; exact b_nt z
            · exact x5 y (by omega) y2
set_option maxHeartbeats 1000000 in
theorem find_L {F : Nat} {X Y : qH} {ro b nt w c sm wi : Nat} {ce po : Nat → Nat} {v : Int32} (hX : shX X = Y) (wB : YB Y b) (wN : YN Y nt) (hB : BC X b w c sm ce po) (hP : BP w c sm ce po) (hwi : gi X nt 2 = nI wi - 5 ∧ wi ≤ 10) (hF : 100 ≤ F) :
    ∀ (n h : Nat), h ≤ c → c - h < n → ((∀ g : Nat, h ≤ g → g < c → tb v g → decide (¬ bcF (irV ce po w c wi (gi X nt 1) g) 8 < 2) = true) ∧ fX7_find_L3 F X ro b nt v n (nI h) = some (.inr ())) ∨ ((∃ g : Nat, g < c ∧ tb v g ∧ ¬ decide (¬ bcF (irV ce po w c wi (gi X nt 1) g) 8 < 2) = true) ∧ fX7_find_L3 F X ro b nt v n (nI h) = some (.inl (0, X))) := by
  have c8 := hP.2.1
  intro n
  induction n with
  | zero => intro h hh hn; omega
  | succ n ih =>
    intro h hh hn
    rw [show fX7_find_L3 F X ro b nt v (n + 1) (nI h) = fX7_find_L3_B F X ro b nt v (fX7_find_L3 F X ro b nt v n) (nI h) from rfl]
    unfold fX7_find_L3_B
    rw [(gB wB).2.2.2.2.2.2.1 X hX, Option.bind_some, hB.2.1]
    by_cases q : h = c
    · subst q
      rw [if_pos (nI_le (Nat.le_refl h) (by omega))]
      exact Or.inl ⟨fun g g1 g2 => by omega, rfl⟩
    · have hlt : h < c := by omega
      rw [if_neg (nI_ge hlt (by omega))]
      have ih' := ih (h + 1) (by omega) (by omega)
      by_cases z : tb v h
      · rw [if_pos ((shr_tb (show h < 32 by omega)).mpr z)]
        have iv := (viewers_val (F := F) hX wN wB hB hP hwi hlt (by omega)).2.2.2.1
        have ib := irV_bits (F := F) (X := X) (ce := ce) (po := po) (w := w) (wi := wi) (h := h) (fo := gi X nt 1) c8
        rw [iv, Option.bind_some, ib, Option.bind_some]
        generalize irV ce po w c wi (gi X nt 1) = I at *
        by_cases z2 : bcF (I h) 8 < 2
        · rw [if_neg (i_nle.mpr z2)]
          exact Or.inr ⟨⟨h, hlt, z, fun y => (of_decide_eq_true y) z2⟩, rfl⟩
        · rw [if_pos (i_nlt.mp z2)]
          simp only [qlt, nI_1]
          rcases ih' with ⟨p1, p2⟩ | p
          · refine Or.inl ⟨fun g g1 g2 g3 => ?_, p2⟩
            by_cases yz : g = h
            · subst yz; exact decide_eq_true z2
            · exact p1 g (by omega) g2 g3
          · exact Or.inr p
      · rw [if_neg (fun y => z ((shr_tb (show h < 32 by omega)).mp y))]
        simp only [qlt, nI_1]
        rcases ih' with ⟨p1, p2⟩ | p
        · refine Or.inl ⟨fun g g1 g2 g3 => ?_, p2⟩
          by_cases yz : g = h
          · subst yz; exact absurd g3 z
          · exact p1 g (by omega) g2 g3
        · exact Or.inr p
set_option maxHeartbeats 2000000 in
theorem op_order {F : Nat} {X : qH} {sz : Nat} (hI : Inv X sz) (hF : 300000 ≤ F) (v u : Int32) : Op sz (fun X => fX9_order F X sz v u) (fun X => fX10_order F X (sz + 151) v u) X := by
  obtain ⟨hW, hRl⟩ := id hI
  obtain ⟨rT, rF, rS, rB, rN, rP, rI, rD, rK⟩ := id hRl
  generalize hX : shX X = Y at hW
  obtain ⟨w9, -, -, -, wN, -, -, ⟨w7, wA⟩, -, -, -, wM⟩ := id hW
  obtain ⟨b, w, c, ce, po, nn, dd, hb, wB⟩ := rB.get hX hW
  obtain ⟨sm, hBC, hBM, hP⟩ := hb.view
  obtain ⟨⟨b3, bsz⟩, -, ⟨bc, mc, c8, -⟩, -⟩ := id hb
  have hbr : (sz + 2 ≤ b ∧ b + 5 ≤ sz + 12) := by rcases bsz with ⟨q, -⟩ | ⟨q, -⟩ <;> omega
  obtain ⟨c', c8', mc', hn, hg⟩ := id rN
  have hcc : c' = c := (nI_eq (by omega) (by omega)).mp (mc'.symm.trans mc)
  subst hcc
  obtain ⟨⟨mi, hmi, gm⟩, ⟨fo, hfo, gf⟩, ⟨wi, hwi, gw⟩, g4'⟩ := id hg
  obtain ⟨n0, n1, n2, n3, nH⟩ := id hn
  dsimp only at gm gf gw n0 n1 n2 n3 g4'
  have hsa : ∀ g : Nat, g < c' → ga X (sz + 151 + 5) (11 + g) = -1 ∨ ¬ ga X (sz + 151 + 5) (11 + g) < 0 := fun g hg => by
    rcases (g4' g hg).2.1 with q | ⟨t, ht, q⟩
    · exact Or.inl q
    · exact Or.inr (by rw [q]; exact nI_pos (by omega))
  have h1 := hasAll_ok (F := F) hX wB bc c8 v
  have h2 := fun X1 (e : shX X1 = Y) (em : gi X1 (sz + 151) 1 = nI c') => isSet_ok (F := F) e wM em c8 v
  by_cases hok : ¬ (0 ≤ v ∧ v < nI (2 ^ c'))
  · rw [if_neg hok] at h1
    have h2' := h2 X hX mc
    rw [if_neg hok] at h2'
    refine ⟨-1000000001, X, X, ?_, ?_, hI⟩
    · show fX9_order F X sz v u = _
      unfold fX9_order
      rw [(g9 w9).1 X hX, (g9 w9).2.2.2.2.1 X hX, Option.bind_some, b3, h1, Option.bind_some, if_pos rfl]
    · simp only [fX10_order, gM wM, hX, Option.bind_some, h2', if_true]
  have hok := Decidable.not_not.mp hok
  rw [if_pos hok] at h1
  simp only [if_pos hok] at h2
  obtain ⟨s, hs31, rfl⟩ := nI_of (i_nlt.mpr hok.1)
  have hp2 := pow_c c8
  have hsc := (nI_ltI hs31 (by omega)).mp hok.2
  have bcount := bitCount_ok (F := F) (X := X) (m := s) (by omega)
  have hLc : ∀ g : Nat, tb (nI s) g → g < c' := fun g hg => set_tb hsc c8 hg
  have ebc : bcF (nI s) 8 = nI (cnL (nI s)) := bcF_ak (nI s) 8 (by omega)
  rw [ebc] at bcount
  have hbits := fun X1 => bits_ok (F := F) (X := X1) (nI s) (by omega)
  simp only [ebc] at hbits
  have hcn8 : cnL (nI s) ≤ 8 := akF_le _ 8
  obtain ⟨n, hnn⟩ : ∃ n, n = cnL (nI s) := ⟨_, rfl⟩
  rw [← hnn] at bcount hcn8
  simp only [← hnn] at hbits
  by_cases h6 : n ≤ 6
  · have h6' : nI n ≤ (6 : Int32) := nI_le (b := 6) h6 (by omega)
    have hin := fun X1 => l_in F X1 u 0 (nI n - 1) (l := 0) (h := (nI n - 1).toInt64) rfl rfl
    have eiff : (0 ≤ u ∧ u ≤ nI n - 1) ↔ (0 ≤ u ∧ u < nI n) := by
      have h1 : (nI n - 1).toInt = (n : Int) - 1 := by
        show (nI n - nI 1).toInt = _
        rw [pk_sub_toInt (by omega) (by omega)]; rfl
      rw [Int32.le_iff_toInt_le, Int32.le_iff_toInt_le, Int32.lt_iff_toInt_lt, h1, nI_toInt (by omega)]
      omega
    simp only [eiff] at hin
    by_cases hu : 0 ≤ u ∧ u < nI n
    · obtain ⟨ix, hl, rfl⟩ := nI_of (i_nlt.mpr hu.1)
      have hix := (nI_ltI hl (by omega)).mp hu.2
      -- both sides by the same codes
      have eSA : ∀ (X1 : qH), ga X1 (sz + 151 + 5) = ga X (sz + 151 + 5) → shX X1 = Y → (∀ q : Nat, sz + 141 ≤ q → X1 q = X q) →
          ∃ r X2, fX10_order F X1 (sz + 151) (nI s) (nI ix) = some (r, X2) ∧ shX X2 = Y ∧ (∀ q : Nat, q ≠ sz + 156 → q ≠ sz + 167 → X2 q = X1 q) ∧ ga X2 (sz + 151 + 5) = ga X (sz + 151 + 5) ∧
            ((r = -1 ∧ ∀ y : Nat, y < 8 ^ n → VV ce (seB ce po w c' wi sm (nI fo) mi) (fun h => nI (ov ce w wi h)) (fun p => nI (mi + p)) n 0 (nI s) 0 (fun k => ga X (sz + 151 + 5) (11 + k)) (fun k => ga X (sz + 151 + 5) (19 + k)) y = false) ∨
             ∃ x : Nat, x < 8 ^ n ∧ r = nI (x / 8 ^ (n - 1 - ix) % 8) ∧ VV ce (seB ce po w c' wi sm (nI fo) mi) (fun h => nI (ov ce w wi h)) (fun p => nI (mi + p)) n 0 (nI s) 0 (fun k => ga X (sz + 151 + 5) (11 + k)) (fun k => ga X (sz + 151 + 5) (19 + k)) x = true ∧ ∀ y : Nat, y < x → VV ce (seB ce po w c' wi sm (nI fo) mi) (fun h => nI (ov ce w wi h)) (fun p => nI (mi + p)) n 0 (nI s) 0 (fun k => ga X (sz + 151 + 5) (11 + k)) (fun k => ga X (sz + 151 + 5) (19 + k)) y = false) := fun X1 e5 eX er => by
        have m1 : gi X1 (sz + 151) 1 = nI c' := by rw [gi_congr (er _ (by omega))]; exact mc
        have hB1 : BM X1 (sz + 151) w c' sm ce po := hBM.c (fun q _ => gi_congr (er _ (by omega)) q) (er _ (by omega)) (er _ (by omega))
        have s2 := (sh3 ⟨n, by omega⟩).2
        dsimp only at s2
        obtain ⟨o, X2, k1, k2, k3, k4, k5⟩ := order_L (F := F) (X0 := X1) (v := nI s) (n := n) (ix := ix) wM hB1 hP (wi := wi) (mi := mi) (by rw [e5]; exact ⟨gw, hwi⟩) (by rw [e5]; exact ⟨gm, by omega⟩) (by rw [e5]; exact hsa) h6 hix hLc (by omega) F 0 X1 (Nat.zero_le _) (Nat.lt_of_le_of_lt (Nat.sub_le _ _) (by omega)) eX (fun _ _ _ => rfl) rfl
        rw [e5, gf] at k5
        rw [e5] at k4
        rw [show nI 0 = (0 : Int32) from rfl] at k1
        rcases k5 with ⟨rfl, p2⟩ | ⟨x, -, x2, rfl, x4, x5⟩
        · refine ⟨-1, X2, ?_, k2, fun q q1 q2 => k3 q (by omega) (by omega), k4, Or.inl ⟨rfl, fun y hy => p2 y (by omega) hy⟩⟩
          simp only [fX10_order, gM wM, eX, h2 X1 eX m1, if_neg (show ¬ (1 : Int32) = 0 by decide), hbits, if_pos h6', hin, if_pos hu, k1, Option.bind_some, qsm1]
        · refine ⟨_, X2, ?_, k2, fun q q1 q2 => k3 q (by omega) (by omega), k4, Or.inr ⟨x, x2, rfl, x4, fun y hy => x5 y (by omega) hy⟩⟩
          simp only [fX10_order, gM wM, eX, h2 X1 eX m1, if_neg (show ¬ (1 : Int32) = 0 by decide), hbits, if_pos h6', hin, if_pos hu, k1, Option.bind_some, qsm1]
      have fin : ∀ (X1 X2 : qH), (∀ q : Nat, q < sz + 135 ∨ sz + 141 ≤ q → X1 q = X q) → shX X2 = Y → (∀ q : Nat, q ≠ sz + 156 → q ≠ sz + 167 → X2 q = X1 q) → ga X2 (sz + 151 + 5) = ga X (sz + 151 + 5) → Inv X2 sz := fun X1 X2 e1 e2 e3 e4 => by
        have far : ∀ q : Nat, q < sz + 135 ∨ sz + 141 ≤ q → q ≠ sz + 156 → q ≠ sz + 167 → X2 q = X q := fun q q1 q2 q3 => (e3 q q2 q3).trans (e1 q q1)
        obtain ⟨kT, kF, kS, kB, kN, kP, kI, kD, kK⟩ := keep [135, 136, 137, 138, 139, 140, 156, 167] [] [] hRl (X2 := X2)
          (fun o ho a0 aM => by
            simp only [List.mem_cons, List.not_mem_nil, or_false, not_or] at ho
            exact far _ (by omega) (by omega) (by omega))
          (fun j hj => gi_congr (far _ (by omega) (by omega) (by omega)) j) (fun j hj => gr_congr (far _ (by omega) (by omega) (by omega)) j) (fun j hj => gi_congr (far _ (by omega) (by omega) (by omega)) j)
        refine ⟨by rw [e2]; exact hW, kT (by decide), kF (by decide), kS (by decide), kB (by decide), ⟨c', c8, by rw [gi_congr (far _ (by omega) (by omega) (by omega))]; exact mc, hn.c c8 (fun q a1 a2 => far q (by omega) (by omega) (by omega)) (fun k _ => by rw [e4]), hg.c c8 (fun k _ => by rw [e4])⟩, kP (by decide), kI (by decide), kD (by decide), kK (by decide)⟩
      have u0 : ¬ nI ix < (0 : Int32) := i_nlt.mpr hu.1
      have un : ¬ nI n ≤ nI ix := nI_ge hix (by omega)
      rcases find_L (F := F) (ro := sz + 134) (v := nI s) hX wB wN hBC hP (wi := wi) ⟨by rw [n2]; exact gw, hwi⟩ (by omega) F 0 (by omega) (by omega) with ⟨p1, p2⟩ | ⟨⟨g, g1, g2, g3⟩, p2⟩
      · -- the search
        obtain ⟨X8, a1, a2, a3, a4, a5⟩ := become_ok (F := F) hX wA wN (by omega) (by omega)
        have hX8f : gi X8 (sz + 134 + 2) 1 = nI fo := by rw [show sz + 134 + 2 = sz + 136 from rfl, a4 1 (by omega), n1]; exact gf
        obtain ⟨f, X10, k1, k2, k3, k4, k5⟩ := extend_ok (F := F) (X0 := X8) (ro := sz + 134) (b := b) (nt := sz + 14) (N := n) (sa0 := fun k => ga X (sz + 151 + 5) (11 + k)) (so0 := fun k => ga X (sz + 151 + 5) (19 + k)) (IN := fun g => tb (nI s) g) w7 wA wB wN (by omega) (by omega) (hBC.c (fun q z1 z2 => a3 q (by omega))) hP (wi := wi) (mi := mi) ⟨by rw [show sz + 134 + 2 = sz + 136 from rfl, a4 2 (by omega), n2]; exact gw, hwi⟩ ⟨by rw [gi_congr (a3 _ (by omega)), n0]; exact gm, by omega⟩ (fun g hg => by
            rw [ga_congr (a3 (sz + 14 + 2) (by omega)), ga_congr (a3 (sz + 14 + 3) (by omega))]
            exact ⟨(n3 g hg).2.1, (n3 g hg).2.2.1⟩) h6 (by omega) (fun g hg => by
            rw [hX8f, ← gf, ← n1]
            exact p1 g (by omega) (hLc g hg) hg) n 8 0 (nI s) 0 (fun k => ga X (sz + 151 + 5) (11 + k)) (fun k => ga X (sz + 151 + 5) (19 + k)) X8 (by omega) (by omega) hnn.symm hLc (fun g hg => hg) (fun g hg hb => ⟨rfl, rfl⟩) ⟨a2, fun _ _ _ => rfl, rfl, rfl, fun g hg => by
            rw [show sz + 134 + 2 = sz + 136 from rfl, a5 2 (by omega) (by omega) g (by omega), a5 3 (by omega) (by omega) g (by omega)]
            exact ⟨(n3 g hg).2.1, (n3 g hg).2.2.1⟩⟩ (fun y => by omega)
        rw [hX8f] at k5
        have p2' : fX7_find_L3 F X (sz + 134) b (sz + 14) (nI s) F (0 : Int32) = some (.inr ()) := p2
        have k1' : fX7_extend F 8 X8 (sz + 134) b (sz + 14) (nI s) (0 : Int32) = some (f, X10) := k1
        have ex : ∀ q : Nat, q < sz + 135 ∨ sz + 141 ≤ q → X10 q = X q := fun q hq => (k4 q (by omega) (by omega)).trans (a3 q (by omega))
        have hf01 : qz f = some f := by rcases k5 with ⟨rfl, -⟩ | ⟨rfl, -⟩ <;> rfl
        have efind : fX7_find F X (sz + 134) b (sz + 14) (nI s) = some (f, X10) := by
          unfold fX7_find
          rw [(g7 w7).1 X hX, p2', Option.bind_some]
          show ((qgR X 7 (sz + 134) 1).bind _) = _
          rw [(g7 w7).2.2.1 X hX, Option.bind_some, show fX3_become F X (sz + 134 + 2) (sz + 14) = some X8 from a1, Option.bind_some, k1']
          simp only [qb2, Option.bind_some, hf01]
        obtain ⟨r, X2, o1, o2, o3, o4, o5⟩ := eSA X10 (ga_congr (ex _ (by omega))) k3 (fun q hq => ex q (by omega))
        have hcls : ∀ res : Int32, (f = 0 → res = -1) → (f = 1 → res = ga X10 (sz + 134 + 1) ix) → (f = 0 ∨ f = 1) → fX9_order F X sz (nI s) (nI ix) = some (res, X10) := fun res r0 r1 rr => by
          unfold fX9_order
          rw [(g9 w9).1 X hX, (g9 w9).2.2.2.2.1 X hX, Option.bind_some, b3, h1, Option.bind_some, if_neg (show ¬ (1 : Int32) = 0 by decide), bcount, Option.bind_some, if_pos h6', if_neg u0, if_neg un]
          have lix : ix < 6 := by omega
          rcases rr with rfl | rfl
          · simp only [g9 w9, hX, Option.bind_some, b3, efind, qb2, if_true, r0 rfl]
          · simp only [g9 w9, g7 w7, hX, k3, Option.bind_some, b3, efind, qb2, if_neg (show ¬ (1 : Int32) = 0 by decide), lix, r1 rfl]
        refine ⟨r, X10, X2, ?_, o1, fin X10 X2 ex o2 o3 o4⟩
        rcases k5 with ⟨f0, fv, -⟩ | ⟨f1, x, fx, fv, fy, fr⟩
        · rcases o5 with ⟨rfl, -⟩ | ⟨x, x1, -, x3, -⟩
          · exact hcls (-1) (fun _ => rfl) (fun y => by rw [f0] at y; exact absurd y (by decide)) (Or.inl f0)
          · rw [fv x x1] at x3; cases x3
        · rcases o5 with ⟨-, q2⟩ | ⟨x', x1, rfl, x3, x4⟩
          · rw [q2 x fx] at fv; cases fv
          · have hxx : x' = x := by
              rcases Nat.lt_trichotomy x' x with y | y | y
              · rw [fy x' y] at x3; cases x3
              · exact y
              · rw [x4 x y] at fv; cases fv
            subst hxx
            refine hcls _ (fun y => by rw [f1] at y; exact absurd y (by decide)) (fun _ => ?_) (Or.inr f1)
            have := fr ix hix
            rw [Nat.zero_add] at this
            exact this.symm
      · -- somebody is too far away from all others
        obtain ⟨r, X2, o1, o2, o3, o4, o5⟩ := eSA X rfl hX (fun q hq => rfl)
        have hall : ∀ y : Nat, y < 8 ^ n → VV ce (seB ce po w c' wi sm (nI fo) mi) (fun h => nI (ov ce w wi h)) (fun p => nI (mi + p)) n 0 (nI s) 0 (fun k => ga X (sz + 151 + 5) (11 + k)) (fun k => ga X (sz + 151 + 5) (19 + k)) y = false := fun y hy => b_nt (fun hv => by
          have := VV_ir (IR := fun g => decide (¬ bcF (irV ce po w c' wi (nI fo) g) 8 < 2)) (fun sa so p h e => seB_ir e) n 0 (nI s) 0 _ _ y (fun g hg => by have := hLc g hg; omega) hnn.symm hy hv g g2
          rw [n1, gf] at g3
          exact g3 this)
        have hr : r = -1 := by
          rcases o5 with ⟨e, -⟩ | ⟨x, x1, -, x3, -⟩
          · exact e
          · rw [hall x x1] at x3; cases x3
        subst hr
        have p2' : fX7_find_L3 F X (sz + 134) b (sz + 14) (nI s) F (0 : Int32) = some (.inl (0, X)) := p2
        have efind : fX7_find F X (sz + 134) b (sz + 14) (nI s) = some (0, X) := by
          unfold fX7_find
          rw [(g7 w7).1 X hX, p2', Option.bind_some]
          rfl
        refine ⟨-1, X, X2, ?_, o1, fin X X2 (fun _ _ => rfl) o2 o3 o4⟩
        show fX9_order F X sz (nI s) (nI ix) = _
        unfold fX9_order
        rw [(g9 w9).1 X hX, (g9 w9).2.2.2.2.1 X hX, Option.bind_some, b3, h1, Option.bind_some, if_neg (show ¬ (1 : Int32) = 0 by decide), bcount, Option.bind_some, if_pos h6', if_neg u0, if_neg un]
        simp only [g9 w9, hX, Option.bind_some, b3, efind, qb2, if_true]
    · refine ⟨-1, X, X, ?_, ?_, hI⟩
      · show fX9_order F X sz (nI s) u = _
        unfold fX9_order
        rw [(g9 w9).1 X hX, (g9 w9).2.2.2.2.1 X hX, Option.bind_some, b3, h1, Option.bind_some, if_neg (show ¬ (1 : Int32) = 0 by decide), bcount, Option.bind_some, if_pos h6']
        by_cases z : u < 0
        · rw [if_pos z]
        · rw [if_neg z, if_pos (i_nlt.mp (fun y => hu ⟨i_nlt.mp z, y⟩))]
      · simp only [fX10_order, gM wM, hX, h2 X hX mc, if_neg (show ¬ (1 : Int32) = 0 by decide), hbits, if_pos h6', hin, if_neg hu, if_true, Option.bind_some]
  · have h6' : ¬ nI n ≤ (6 : Int32) := nI_ge (a := 6) (by omega) (by omega)
    refine ⟨-1000000002, X, X, ?_, ?_, hI⟩
    · show fX9_order F X sz (nI s) u = _
      unfold fX9_order
      rw [(g9 w9).1 X hX, (g9 w9).2.2.2.2.1 X hX, Option.bind_some, b3, h1, Option.bind_some, if_neg (show ¬ (1 : Int32) = 0 by decide), bcount, Option.bind_some, if_neg h6']
    · simp only [fX10_order, gM wM, hX, h2 X hX mc, if_neg (show ¬ (1 : Int32) = 0 by decide), hbits, if_neg h6', Option.bind_some]
