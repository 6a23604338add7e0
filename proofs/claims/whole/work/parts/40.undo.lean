/-! undo, keep, goBack -/
set_option maxHeartbeats 1000000 in
theorem pop_ok {F : Nat} {X Y : qH} {sz cnt nx n2 : Nat} (hX : shX X = Y) (hW : YW Y sz) (hF : 9 ≤ F) (h1 : gi X (sz + 19) 1 = nI nx) (h2 : gi X (sz + 19) 2 = nI (cnt + 1)) (hc : cnt < 20) (hn : (nx = 0 ∧ n2 = 19) ∨ nx = n2 + 1) (hn2 : n2 < 20) :
    ∃ X1, fX5_pop F X (sz + 19) (sz + 14) = some X1 ∧ shX X1 = Y ∧ (∀ q : Nat, q ≠ sz + 19 → q < sz + 14 ∨ sz + 19 ≤ q → X1 q = X q) ∧ gi X1 (sz + 19) 1 = nI n2 ∧ gi X1 (sz + 19) 2 = nI cnt ∧ (∀ k : Nat, k < 4 → gi X1 (sz + 14) k = gi X (sz + 19 + 2 + 5 * n2) k) ∧ ∀ j : Nat, 1 ≤ j → j ≤ 4 → ∀ h : Nat, h < 8 → ga X1 (sz + 14 + j) h = ga X (sz + 19 + 2 + 5 * n2 + j) h := by
  obtain ⟨w9, -, -, -, wN, ⟨w5, ⟨f, hf, hf2⟩, wS⟩, -⟩ := id hW
  have hX7 : shX (pI (pI X (sz + 19) 1 (nI n2)) (sz + 19) 2 (nI cnt)) = Y := by simp (maxDischargeDepth := 30) only [k5 w5, hX]
  have hX4 : shX (pI X (sz + 19) 1 (nI n2)) = Y := by simp (maxDischargeDepth := 30) only [k5 w5, hX]
  have er : qaR (pI (pI X (sz + 19) 1 (nI n2)) (sz + 19) 2 (nI cnt)) (sz + 19 + 1) (nI n2) = some (sz + 19 + 2 + 5 * n2) := by
    rw [qaR_Y hX7 hf (by decide) hn2]; exact hf2 n2 hn2
  have ev : (if nI nx ≤ (0 : Int32) then (some 19 : Option Int32) else some (nI nx - 1)) = some (nI n2) := by
    rcases hn with ⟨rfl, rfl⟩ | rfl
    · rw [if_pos (show nI 0 ≤ (0 : Int32) by decide)]; rfl
    · rw [if_neg (nI_nle (by omega) (by omega)), nI_pred]
  have y2 : gi (pI X (sz + 19) 1 (nI n2)) (sz + 19) 2 = nI (cnt + 1) := by simp only [u5 w5, hX]; exact h2
  have y1 : gi (pI (pI X (sz + 19) 1 (nI n2)) (sz + 19) 2 (nI cnt)) (sz + 19) 1 = nI n2 := by simp only [u5 w5, hX4, hX]; rfl
  have y3 : gi (pI (pI X (sz + 19) 1 (nI n2)) (sz + 19) 2 (nI cnt)) (sz + 19) 2 = nI cnt := by simp only [u5 w5, hX4, if_true]
  obtain ⟨X8, b1, b2, b3, b4, b5⟩ := become_ok (F := F) hX7 wN (wS n2 hn2) (by omega) hF
  refine ⟨X8, ?_, b2, fun q z1 z2 => (b3 q (by omega)).trans ((pV_ne z1).trans (pV_ne z1)), ?_, ?_, fun k hk => ?_, fun j j1 j4 h hh => ?_⟩
  · simp only [fX5_pop, g5 w5, s5 w5, hX, h2, if_neg (nI_ne0 (show 0 < cnt + 1 by omega) (by omega)), h1, ev, Option.bind_some, hX4, y2, nI_pred, qlt, hX7, y1, er, b1]
  · rw [gi_congr (b3 _ (by omega))]; exact y1
  · rw [gi_congr (b3 _ (by omega))]; exact y3
  · rw [b4 k hk, gi_pI_ne (by omega), gi_pI_ne (by omega)]
  · rw [b5 j j1 j4 h hh, ga_pI, ga_pI]
set_option maxHeartbeats 1000000 in
theorem undo_L {F : Nat} {X Y : qH} {m cnt : Nat} (hX : shX X = Y) (hM : YM Y m) (hc : gi X m 27 = nI cnt) (h20 : cnt < 20) (hF : 1000 ≤ F) :
    ∃ X1, fX10_undo_L22 F m F (0 : Int32) X = some X1 ∧ cpI X Y (m + 5) 0 (fun k => ga X (m + 15) (43 * cnt + k)) 43 X1 := by
  refine cpy (v0 := 0) (L := fX10_undo_L22 F m) hM.p5 (fun n X2 h => ?_) (fun n k X2 hk h => ?_) hX (by omega)
  · show fX10_undo_L22_B F m (fX10_undo_L22 F m n) (nI (0 + 43)) X2 = _
    unfold fX10_undo_L22_B
    rw [if_pos (show (43 : Int32) ≤ nI (0 + 43) by decide)]
  · show fX10_undo_L22_B F m (fX10_undo_L22 F m n) (nI (0 + k)) X2 = _
    unfold fX10_undo_L22_B
    obtain ⟨h1, h2, h3⟩ := h
    have e1 : gi X2 m 27 = nI cnt := by rw [gi_congr (h2 m (by omega))]; exact hc
    have e2 : ga X2 (m + 15) = ga X (m + 15) := ga_congr (h2 _ (by omega))
    have e3 : (43 : Int32) * nI cnt + nI k = nI (43 * cnt + k) := by rw [show (43 : Int32) = nI 43 from rfl, pk_mul, nI_add]
    have l1 : 43 * cnt + k < 860 := by omega
    rw [Nat.zero_add, if_neg (show ¬ (43 : Int32) ≤ nI k from nI_ge (b := 43) hk (by decide))]
    simp (maxDischargeDepth := 30) only [gM hM, sM hM, h1, Option.bind_some, e1, e2, e3, hk, l1, qlt, nI_1]
set_option maxHeartbeats 1000000 in
theorem op_undo {F : Nat} {X : qH} {sz : Nat} (hI : Inv X sz) (hF : 300000 ≤ F) : Op sz (fun X => fX9_undo F X sz) (fun X => fX10_undo F X (sz + 151)) X := by
  obtain ⟨hW, hRl⟩ := id hI
  obtain ⟨rT, rF, rS, rB, rN, rP, rI, rD, rK⟩ := id hRl
  generalize hX : shX X = Y at hW
  obtain ⟨w9, -, -, -, wN, ⟨w5, -, -⟩, -, -, -, -, -, wM⟩ := id hW
  obtain ⟨c, cnt, nx, c8, mc, h20, hn, q2, q1, q3, old⟩ := id rP
  by_cases hz : cnt = 0
  · subst hz
    refine ⟨-1000000003, X, X, ?_, ?_, hI⟩
    · simp only [fX9_undo, g9 w9, g5 w5, hX, q2, Option.bind_some, if_pos (show nI 0 = (0 : Int32) from rfl)]
    · simp only [fX10_undo, gM wM, hX, q3, Option.bind_some, if_pos (show nI 0 = (0 : Int32) from rfl)]
  · obtain ⟨d, rfl⟩ : ∃ d, cnt = d + 1 := ⟨cnt - 1, by omega⟩
    obtain ⟨n2, hn2, hnn⟩ : ∃ n2 : Nat, n2 < 20 ∧ ((nx = 0 ∧ n2 = 19) ∨ nx = n2 + 1) := by
      by_cases z : nx = 0
      · exact ⟨19, by omega, Or.inl ⟨z, rfl⟩⟩
      · exact ⟨nx - 1, by omega, Or.inr (by omega)⟩
    obtain ⟨X1, a1, a2, a3, a4, a5, a6, a7⟩ := pop_ok (F := F) hX hW (by omega) q1 q2 (by omega) hnn hn2
    have y3 : gi X1 (sz + 151) 27 = nI (d + 1) := by rw [gi_congr (a3 _ (by omega) (by omega))]; exact q3
    have hXm : shX (pI X1 (sz + 151) 27 (nI d)) = Y := by simp only [kM wM, a2]
    have y4 : gi (pI X1 (sz + 151) 27 (nI d)) (sz + 151) 27 = nI d := by simp only [uM wM, a2, if_true]
    obtain ⟨X2, b1, b2, b3, b4⟩ := undo_L (F := F) hXm wM y4 (by omega) (by omega)
    have y5 : gi X2 (sz + 151) 27 = nI d := by rw [gi_congr (b3 _ (by omega))]; exact y4
    have nz : ¬ nI (d + 1) = (0 : Int32) := nI_ne0 (by omega) (by omega)
    refine ⟨nI d, X1, X2, ?_, ?_, by rw [b2]; exact hW, ?_⟩
    · simp only [fX9_undo, g9 w9, g5 w5, hX, q2, Option.bind_some, if_neg nz, a1, a2, a5]
    · simp only [fX10_undo, gM wM, sM wM, a2, y3, Option.bind_some, if_neg nz, nI_pred, qlt, b1, b2, y5]
    have far : ∀ q : Nat, q < sz + 14 ∨ sz + 20 ≤ q → q ≠ sz + 151 → q ≠ sz + 156 → X2 q = X q := fun q z1 z2 z3 => (b3 q (by omega)).trans ((pV_ne z2).trans (a3 q (by omega) (by omega)))
    have c14 : ∀ q : Nat, q < sz + 121 → X2 q = X1 q := fun q z1 => (b3 q (by omega)).trans (pV_ne (by omega))
    have sMk : ∀ k : Nat, gi X2 (sz + 151) k = if k = 27 then nI d else gi X (sz + 151) k := fun k => by
      rw [gi_congr (b3 _ (by omega))]
      simp only [uM wM, a2]
      rw [gi_congr (a3 _ (by omega) (by omega))]
    obtain ⟨kT, kF, kS, kB, kN, kP, kI, kD, kK⟩ := keep [14, 15, 16, 17, 18, 19, 156] [] [27] hRl (X2 := X2)
      (fun o ho a0 aM => by
        simp only [List.mem_cons, List.not_mem_nil, or_false, not_or] at ho
        exact far (sz + o) (by omega) (by omega) (by omega))
      (fun j hj => gi_congr (far sz (by omega) (by omega) (by omega)) j)
      (fun j hj => gr_congr (far sz (by omega) (by omega) (by omega)) j)
      (fun j hj => by
        simp only [List.mem_cons, List.not_mem_nil, or_false] at hj
        rw [sMk, if_neg hj])
    have e5 : ∀ k : Nat, k < 43 → ga X2 (sz + 151 + 5) k = ga X (sz + 151 + 15) (43 * d + k) := fun k hk => by
      rw [b4 k, if_pos (by omega), ga_pI, ga_congr (a3 (sz + 151 + 15) (by omega) (by omega))]
      exact congrArg (ga X (sz + 151 + 15)) (by omega)
    have e15 : ga X2 (sz + 151 + 15) = ga X (sz + 151 + 15) := ga_congr (far _ (by omega) (by omega) (by omega))
    have hold := old d (by omega)
    rw [show (nx + 20 - (d + 1) + d) % 20 = n2 by omega] at hold
    refine ⟨kT (by decide), kF (by decide), kS (by decide), kB (by decide), ⟨c, c8, by rw [sMk]; exact mc, hold.1.cp c8 (fun k hk => ?_) (fun j j1 j4 h hh => ?_) e5, hold.2.c c8 e5⟩, ?_, kI (by decide), kD (by decide), kK (by decide)⟩
    · rw [gi_congr (c14 _ (by omega))]; exact a6 k hk
    · rw [ga_congr (c14 _ (by omega))]; exact a7 j j1 j4 h hh
    · refine ⟨c, d, n2, c8, by rw [sMk]; exact mc, by omega, hn2, by rw [gi_congr (c14 _ (by omega))]; exact a5, by rw [gi_congr (c14 _ (by omega))]; exact a4, by rw [sMk]; rfl, fun j hj => ?_⟩
      have ho := old j (by omega)
      rw [show (n2 + 20 - d + j) % 20 = (nx + 20 - (d + 1) + j) % 20 by omega]
      have hm : (nx + 20 - (d + 1) + j) % 20 < 20 := Nat.mod_lt _ (by omega)
      exact ⟨ho.1.c c8 (fun q u v => far q (by omega) (by omega) (by omega)) (fun k _ => by rw [e15]), ho.2.c c8 (fun k _ => by rw [e15])⟩
theorem clear_ok {F : Nat} {X Y : qH} {p : Nat} (hX : shX X = Y) (w5 : Y5 Y p) : fX5_clear F X p = some (pI (pI X p 1 0) p 2 0) ∧ shX (pI (pI X p 1 0) p 2 0) = Y ∧ gi (pI (pI X p 1 0) p 2 0) p 1 = 0 ∧ gi (pI (pI X p 1 0) p 2 0) p 2 = 0 := by
  have h1 : shX (pI X p 1 0) = Y := by simp only [k5 w5, hX]
  refine ⟨?_, by simp only [k5 w5, h1], ?_, ?_⟩
  · simp only [fX5_clear, g5 w5, s5 w5, hX, h1, Option.bind_some]
  · simp only [u5 w5, h1, hX]; rfl
  · simp only [u5 w5, h1, if_true]
set_option maxHeartbeats 1000000 in
theorem keep_L {F : Nat} {X Y : qH} {m i : Nat} (hX : shX X = Y) (hM : YM Y m) (hi : i < 2) (hF : 1000 ≤ F) :
    ∃ X1, fX10_keep_L15 F m (nI i) F (0 : Int32) X = some X1 ∧ cpI X Y (m + 25) (44 * i) (ga X (m + 5)) 43 X1 := by
  refine cpy (v0 := 0) (L := fX10_keep_L15 F m (nI i)) hM.p25 (fun n X2 h => ?_) (fun n k X2 hk h => ?_) hX (by omega)
  · show fX10_keep_L15_B F m (nI i) (fX10_keep_L15 F m (nI i) n) (nI (0 + 43)) X2 = _
    unfold fX10_keep_L15_B
    rw [if_pos (show (43 : Int32) ≤ nI (0 + 43) by decide)]
  · show fX10_keep_L15_B F m (nI i) (fX10_keep_L15 F m (nI i) n) (nI (0 + k)) X2 = _
    unfold fX10_keep_L15_B
    obtain ⟨h1, h2, h3⟩ := h
    have e2 : ga X2 (m + 5) = ga X (m + 5) := ga_congr (h2 _ (by omega))
    have e3 : (44 : Int32) * nI i + nI k = nI (44 * i + k) := by rw [show (44 : Int32) = nI 44 from rfl, pk_mul, nI_add]
    have l1 : 44 * i + k < 88 := by omega
    rw [Nat.zero_add, if_neg (show ¬ (43 : Int32) ≤ nI k from nI_ge (b := 43) hk (by decide))]
    simp (maxDischargeDepth := 30) only [gM hM, sM hM, h1, Option.bind_some, e2, e3, hk, l1, qlt, nI_1]
set_option maxHeartbeats 1000000 in
theorem goBack_L {F : Nat} {X Y : qH} {m i : Nat} (hX : shX X = Y) (hM : YM Y m) (hi : i < 2) (hF : 1000 ≤ F) :
    ∃ X1, fX10_goBack_L27 F m (nI i) F (0 : Int32) X = some X1 ∧ cpI X Y (m + 5) 0 (fun k => ga X (m + 25) (44 * i + k)) 43 X1 := by
  refine cpy (v0 := 0) (L := fX10_goBack_L27 F m (nI i)) hM.p5 (fun n X2 h => ?_) (fun n k X2 hk h => ?_) hX (by omega)
  · show fX10_goBack_L27_B F m (nI i) (fX10_goBack_L27 F m (nI i) n) (nI (0 + 43)) X2 = _
    unfold fX10_goBack_L27_B
    rw [if_pos (show (43 : Int32) ≤ nI (0 + 43) by decide)]
  · show fX10_goBack_L27_B F m (nI i) (fX10_goBack_L27 F m (nI i) n) (nI (0 + k)) X2 = _
    unfold fX10_goBack_L27_B
    obtain ⟨h1, h2, h3⟩ := h
    have e2 : ga X2 (m + 25) = ga X (m + 25) := ga_congr (h2 _ (by omega))
    have e3 : (44 : Int32) * nI i + nI k = nI (44 * i + k) := by rw [show (44 : Int32) = nI 44 from rfl, pk_mul, nI_add]
    have l1 : 44 * i + k < 88 := by omega
    rw [Nat.zero_add, if_neg (show ¬ (43 : Int32) ≤ nI k from nI_ge (b := 43) hk (by decide))]
    simp (maxDischargeDepth := 30) only [gM hM, sM hM, h1, Option.bind_some, e2, e3, hk, l1, qlt, nI_1]
theorem img_iff (v : Int32) : (¬ v < 0 ∧ v < 2) ↔ ((0 : Int32) ≤ v ∧ v ≤ 1) := by
  simp only [Int32.lt_iff_toInt_lt, Int32.le_iff_toInt_le, Int32.toInt_zero, Int32.toInt_one, show (2 : Int32).toInt = 2 from rfl]
  omega
set_option maxHeartbeats 2000000 in
theorem op_keep {F : Nat} {X : qH} {sz : Nat} (hI : Inv X sz) (hF : 300000 ≤ F) (v : Int32) : Op sz (fun X => fX9_keep F X sz v) (fun X => fX10_keep F X (sz + 151) v) X := by
  obtain ⟨hW, hRl⟩ := id hI
  obtain ⟨rT, rF, rS, rB, rN, rP, rI, rD, rK⟩ := id hRl
  generalize hX : shX X = Y at hW
  obtain ⟨w9, -, -, -, wN, ⟨w5, -, -⟩, ⟨⟨f, hf, hf2⟩, wS⟩, -, -, -, -, wM⟩ := id hW
  have hin := fun X => l_in F X v 0 1 (l := 0) (h := 1) rfl rfl
  by_cases hok : (0 : Int32) ≤ v ∧ v ≤ 1
  · have hok2 := (img_iff v).mpr hok
    obtain ⟨i, hi1, rfl⟩ := nI_of2 (M := 1) (n := 1) (by decide) hok2.1 hok.2
    have hi : i < 2 := by omega
    have er : qaR X (sz + 121) (nI i) = some (sz + 121 + 1 + 5 * i) := by
      rw [qaR_Y hX hf (by decide) hi]; exact hf2 i hi
    obtain ⟨X4, a1, a2, a3, a4, a5⟩ := become_ok (F := F) hX (wS i hi) wN (by omega) (by omega)
    have s5' : gi X4 sz 5 = gi X sz 5 := gi_congr (a3 _ (by omega)) 5
    have hX7 : shX (pA X4 (sz + 133) i (gi X sz 5)) = Y := by simp only [k9 w9, a2]
    have hX9 : shX (pA (pA X4 (sz + 133) i (gi X sz 5)) (sz + 132) i 1) = Y := by simp only [k9 w9, hX7]
    obtain ⟨c1, c2, c3, c4⟩ := clear_ok (F := F) hX9 w5
    have u132 : ga (pA (pA X4 (sz + 133) i (gi X sz 5)) (sz + 132) i 1) (sz + 132) = upd (ga X (sz + 132)) i 1 := by
      simp only [u9 w9, hX7]
      rw [ga_pA_ne (by omega), ga_congr (a3 _ (by omega))]
    have u133 : ga (pA (pA X4 (sz + 133) i (gi X sz 5)) (sz + 132) i 1) (sz + 133) = upd (ga X (sz + 133)) i (gi X sz 5) := by
      rw [ga_pA_ne (by omega)]
      simp only [u9 w9, a2]
      rw [ga_congr (a3 _ (by omega))]
    have f1 : fX9_keep F X sz (nI i) = some (1, pI (pI (pA (pA X4 (sz + 133) i (gi X sz 5)) (sz + 132) i 1) (sz + 19) 1 0) (sz + 19) 2 0) := by
      simp (maxDischargeDepth := 30) only [fX9_keep, g9 w9, s9 w9, hX, if_neg hok2.1, if_pos hok2.2, er, a1, a2, s5', hi, Option.bind_some, hX7, hX9, c1, or_true]
    have x1 : ∀ q : Nat, q ≠ sz + 19 → q ≠ sz + 132 → q ≠ sz + 133 → q < sz + 121 + 1 + 5 * i ∨ sz + 121 + 1 + 5 * i + 5 ≤ q → pI (pI (pA (pA X4 (sz + 133) i (gi X sz 5)) (sz + 132) i 1) (sz + 19) 1 0) (sz + 19) 2 0 q = X q := fun q z1 z2 z3 z4 => (pV_ne z1).trans ((pV_ne z1).trans ((pA_ne z2).trans ((pA_ne z3).trans (a3 q z4))))
    have x2 : ∀ q : Nat, sz + 121 + 1 + 5 * i ≤ q → q < sz + 121 + 1 + 5 * i + 5 → pI (pI (pA (pA X4 (sz + 133) i (gi X sz 5)) (sz + 132) i 1) (sz + 19) 1 0) (sz + 19) 2 0 q = X4 q := fun q z1 z2 => (pV_ne (by omega)).trans ((pV_ne (by omega)).trans ((pA_ne (by omega)).trans (pA_ne (by omega))))
    have x132 := u132
    have x133 := u133
    rw [← ga_pI (X := pA (pA X4 (sz + 133) i (gi X sz 5)) (sz + 132) i 1) (a := sz + 19) (k := 1) 0, ← ga_pI (X := pI (pA (pA X4 (sz + 133) i (gi X sz 5)) (sz + 132) i 1) (sz + 19) 1 0) (a := sz + 19) (k := 2) 0] at x132 x133
    generalize pI (pI (pA (pA X4 (sz + 133) i (gi X sz 5)) (sz + 132) i 1) (sz + 19) 1 0) (sz + 19) 2 0 = X1 at c2 c3 c4 f1 x1 x2 x132 x133
    obtain ⟨X9, b1, b2, b3, b4⟩ := keep_L (F := F) c2 wM hi (by omega)
    have m9 : gi X9 (sz + 151) 9 = gi X sz 5 := by
      rw [gi_congr (b3 _ (by omega)), gi_congr (x1 _ (by omega) (by omega) (by omega) (by omega)), rS.1]
    have e43 : (44 : Int32) * nI i + 43 = nI (44 * i + 43) := by rw [show (44 : Int32) = nI 44 from rfl, show (43 : Int32) = nI 43 from rfl, pk_mul, nI_add]
    have l88 : 44 * i + 43 < 88 := by omega
    have hXa : shX (pA X9 (sz + 151 + 25) (44 * i + 43) (gi X sz 5)) = Y := by simp only [kM wM, b2]
    have hXb : shX (pA (pA X9 (sz + 151 + 25) (44 * i + 43) (gi X sz 5)) (sz + 151 + 26) i 1) = Y := by simp only [kM wM, hXa]
    have hXc : shX (pI (pA (pA X9 (sz + 151 + 25) (44 * i + 43) (gi X sz 5)) (sz + 151 + 26) i 1) (sz + 151) 27 0) = Y := by simp only [kM wM, hXb]
    have f2 : fX10_keep F X1 (sz + 151) (nI i) = some (1, pI (pA (pA X9 (sz + 151 + 25) (44 * i + 43) (gi X sz 5)) (sz + 151 + 26) i 1) (sz + 151) 27 0) := by
      simp (maxDischargeDepth := 30) only [fX10_keep, gM wM, sM wM, c2, hin, if_pos hok, if_neg (show ¬ (1 : Int32) = 0 by decide), Option.bind_some, b1, b2, m9, e43, l88, hXa, hXb, hi, or_true]
    have r26 : ga (pI (pA (pA X9 (sz + 151 + 25) (44 * i + 43) (gi X sz 5)) (sz + 151 + 26) i 1) (sz + 151) 27 0) (sz + 151 + 26) = upd (ga X (sz + 151 + 26)) i 1 := by
      rw [ga_pI]
      simp only [uM wM, hXa]
      rw [ga_pA_ne (by omega), ga_congr (b3 _ (by omega)), ga_congr (x1 (sz + 151 + 26) (by omega) (by omega) (by omega) (by omega))]
    have r25 : ga (pI (pA (pA X9 (sz + 151 + 25) (44 * i + 43) (gi X sz 5)) (sz + 151 + 26) i 1) (sz + 151) 27 0) (sz + 151 + 25) = upd (ga X9 (sz + 151 + 25)) (44 * i + 43) (gi X sz 5) := by
      rw [ga_pI, ga_pA_ne (by omega)]
      simp only [uM wM, b2]
    have y1 : ∀ q : Nat, q ≠ sz + 151 → q ≠ sz + 176 → q ≠ sz + 177 → pI (pA (pA X9 (sz + 151 + 25) (44 * i + 43) (gi X sz 5)) (sz + 151 + 26) i 1) (sz + 151) 27 0 q = X1 q := fun q z1 z2 z3 => (pV_ne z1).trans ((pA_ne (by omega)).trans ((pA_ne (by omega)).trans (b3 q (by omega))))
    have sMk : ∀ k : Nat, gi (pI (pA (pA X9 (sz + 151 + 25) (44 * i + 43) (gi X sz 5)) (sz + 151 + 26) i 1) (sz + 151) 27 0) (sz + 151) k = if k = 27 then 0 else gi X (sz + 151) k := fun k => by
      simp only [uM wM, hXb]
      rw [gi_pA, gi_pA, gi_congr (b3 _ (by omega)), gi_congr (x1 _ (by omega) (by omega) (by omega) (by omega))]
    generalize pI (pA (pA X9 (sz + 151 + 25) (44 * i + 43) (gi X sz 5)) (sz + 151 + 26) i 1) (sz + 151) 27 0 = X2 at hXc f2 r26 r25 y1 sMk
    have far : ∀ q : Nat, q ≠ sz + 19 → q ≠ sz + 132 → q ≠ sz + 133 → q < sz + 121 + 1 + 5 * i ∨ sz + 121 + 1 + 5 * i + 5 ≤ q → q ≠ sz + 151 → q ≠ sz + 176 → q ≠ sz + 177 → X2 q = X q := fun q z1 z2 z3 z4 z5 z6 z7 => (y1 q z5 z6 z7).trans (x1 q z1 z2 z3 z4)
    refine ⟨1, X1, X2, f1, f2, by rw [hXc]; exact hW, ?_⟩
    obtain ⟨kT, kF, kS, kB, kN, kP, kI, kD, kK⟩ := keep ([19, 176, 177] ++ List.range' 122 12) [] [27] hRl (X2 := X2)
      (fun o ho a0 aM => by
        simp only [List.mem_append, List.mem_range'_1, List.mem_cons, List.not_mem_nil, or_false, not_or, not_and, Nat.not_lt] at ho
        exact far (sz + o) (by omega) (by omega) (by omega) (by omega) (by omega) (by omega) (by omega))
      (fun j hj => gi_congr (far sz (by omega) (by omega) (by omega) (by omega) (by omega) (by omega) (by omega)) j)
      (fun j hj => gr_congr (far sz (by omega) (by omega) (by omega) (by omega) (by omega) (by omega) (by omega)) j)
      (fun j hj => by
        simp only [List.mem_cons, List.not_mem_nil, or_false] at hj
        rw [sMk, if_neg hj])
    obtain ⟨c, c8, mc, nw, ng⟩ := id rN
    obtain ⟨c', c8', mc', im⟩ := id rI
    have hcc : c' = c := (nI_eq (by omega) (by omega)).mp (mc'.symm.trans mc)
    subst hcc
    refine ⟨kT (by decide), kF (by decide), kS (by decide), kB (by decide), kN (by decide), ⟨c', 0, 0, c8, by rw [sMk]; exact mc, by omega, by omega, by rw [gi_congr (y1 _ (by omega) (by omega) (by omega))]; exact c4, by rw [gi_congr (y1 _ (by omega) (by omega) (by omega))]; exact c3, by rw [sMk]; rfl, fun j hj => by omega⟩, ⟨c', c8, by rw [sMk]; exact mc, fun k hk => ?_⟩, kD (by decide), kK (by decide)⟩
    have g132 : ga X2 (sz + 132) = upd (ga X (sz + 132)) i 1 := by rw [ga_congr (y1 _ (by omega) (by omega) (by omega))]; exact x132
    have g133 : ga X2 (sz + 133) = upd (ga X (sz + 133)) i (gi X sz 5) := by rw [ga_congr (y1 _ (by omega) (by omega) (by omega))]; exact x133
    rw [g132, g133, r26, r25]
    by_cases z : k = i
    · subst z
      have hrow : ∀ t : Nat, t < 43 → (fun t => upd (ga X9 (sz + 151 + 25)) (44 * k + 43) (gi X sz 5) (44 * k + t)) t = (fun t => ga X (sz + 151 + 5) t) t := fun t ht => by
        dsimp only
        rw [upd_ne _ (by omega), b4, if_pos (by omega), ga_congr (x1 (sz + 151 + 5) (by omega) (by omega) (by omega) (by omega))]
        exact congrArg (ga X (sz + 151 + 5)) (by omega)
      rw [upd_self, upd_self, upd_self, upd_self]
      refine ⟨rfl, Or.inr ⟨rfl, nw.cp c8 (fun t ht => ?_) (fun j j1 j4 h hh => ?_) hrow, ng.c c8 hrow, rfl, rS.2⟩⟩
      · rw [gi_congr ((y1 _ (by omega) (by omega) (by omega)).trans (x2 _ (by omega) (by omega)))]; exact a4 t ht
      · rw [ga_congr ((y1 _ (by omega) (by omega) (by omega)).trans (x2 _ (by omega) (by omega)))]; exact a5 j j1 j4 h hh
    · have hrow : ∀ t : Nat, t < 44 → upd (ga X9 (sz + 151 + 25)) (44 * i + 43) (gi X sz 5) (44 * k + t) = ga X (sz + 151 + 25) (44 * k + t) := fun t ht => by
        rw [upd_ne _ (by omega), b4, if_neg (by omega), ga_congr (x1 (sz + 151 + 25) (by omega) (by omega) (by omega) (by omega))]
      rw [upd_ne _ z, upd_ne _ z, upd_ne _ z, hrow 43 (by omega)]
      refine ⟨(im k hk).1, (im k hk).2.elim Or.inl (fun y => Or.inr ⟨y.1, y.2.1.c c8 (fun q u w => far q (by omega) (by omega) (by omega) (by omega) (by omega) (by omega) (by omega)) (fun t ht => hrow t (by omega)), y.2.2.1.c c8 (fun t ht => hrow t (by omega)), y.2.2.2⟩)⟩
  · have hok2 := fun q => hok ((img_iff v).mp q)
    refine ⟨-1000000001, X, X, ?_, ?_, hI⟩
    · simp only [fX9_keep, g9 w9, hX]
      by_cases h0 : v < 0
      · rw [if_pos h0]
      · rw [if_neg h0, if_neg (fun q => hok2 ⟨h0, q⟩)]
    · simp only [fX10_keep, gM wM, hX, hin, if_neg hok, if_true, Option.bind_some]
set_option maxHeartbeats 2000000 in
theorem op_goBack {F : Nat} {X : qH} {sz : Nat} (hI : Inv X sz) (hF : 300000 ≤ F) (v : Int32) : Op sz (fun X => fX9_goBack F X sz v) (fun X => fX10_goBack F X (sz + 151) v) X := by
  obtain ⟨hW, hRl⟩ := id hI
  obtain ⟨rT, rF, rS, rB, rN, rP, rI, rD, rK⟩ := id hRl
  generalize hX : shX X = Y at hW
  obtain ⟨w9, -, -, -, wN, ⟨w5, -, -⟩, ⟨⟨f, hf, hf2⟩, wS⟩, -, -, -, -, wM⟩ := id hW
  have hin := fun X => l_in F X v 0 1 (l := 0) (h := 1) rfl rfl
  by_cases hok : (0 : Int32) ≤ v ∧ v ≤ 1
  · have hok2 := (img_iff v).mpr hok
    obtain ⟨i, hi1, rfl⟩ := nI_of2 (M := 1) (n := 1) (by decide) hok2.1 hok.2
    have hi : i < 2 := by omega
    obtain ⟨c, c8, mc, im⟩ := id rI
    obtain ⟨im1, im2⟩ := im i hi
    rcases im2 with hk | ⟨hk, hN, hG, hS, hS0⟩
    · have hk2 := im1.symm.trans hk
      refine ⟨-1000000003, X, X, ?_, ?_, hI⟩
      · simp only [fX9_goBack, g9 w9, hX, if_neg hok2.1, if_pos hok2.2, hi, hk, Option.bind_some, if_true]
      · simp only [fX10_goBack, gM wM, hX, hin, if_pos hok, if_neg (show ¬ (1 : Int32) = 0 by decide), hi, hk2, Option.bind_some, if_true]
    have hk2 := im1.symm.trans hk
    have er : qaR X (sz + 121) (nI i) = some (sz + 121 + 1 + 5 * i) := by
      rw [qaR_Y hX hf (by decide) hi]; exact hf2 i hi
    obtain ⟨X4, a1, a2, a3, a4, a5⟩ := become_ok (F := F) hX wN (wS i hi) (by omega) (by omega)
    have s5' : ga X4 (sz + 133) i = ga X (sz + 133) i := by rw [ga_congr (a3 _ (by omega))]
    have hX7 : shX (pI X4 sz 5 (ga X (sz + 133) i)) = Y := by simp only [k9 w9, a2]
    obtain ⟨c1, c2, c3, c4⟩ := clear_ok (F := F) hX7 w5
    have f1 : fX9_goBack F X sz (nI i) = some (1, pI (pI (pI X4 sz 5 (ga X (sz + 133) i)) (sz + 19) 1 0) (sz + 19) 2 0) := by
      simp (maxDischargeDepth := 30) only [fX9_goBack, g9 w9, s9 w9, hX, if_neg hok2.1, if_pos hok2.2, hk, if_neg (show ¬ (1 : Int32) = 0 by decide), er, a1, a2, s5', hi, Option.bind_some, hX7, c1]
    have x1 : ∀ q : Nat, q ≠ sz + 19 → q ≠ sz → q < sz + 14 ∨ sz + 14 + 5 ≤ q → pI (pI (pI X4 sz 5 (ga X (sz + 133) i)) (sz + 19) 1 0) (sz + 19) 2 0 q = X q := fun q z1 z2 z4 => (pV_ne z1).trans ((pV_ne z1).trans ((pV_ne z2).trans (a3 q z4)))
    have x2 : ∀ q : Nat, sz + 14 ≤ q → q < sz + 14 + 5 → pI (pI (pI X4 sz 5 (ga X (sz + 133) i)) (sz + 19) 1 0) (sz + 19) 2 0 q = X4 q := fun q z1 z2 => (pV_ne (by omega)).trans ((pV_ne (by omega)).trans (pV_ne (by omega)))
    have x9 : ∀ k : Nat, gi (pI (pI (pI X4 sz 5 (ga X (sz + 133) i)) (sz + 19) 1 0) (sz + 19) 2 0) sz k = if k = 5 then ga X (sz + 133) i else gi X sz k := fun k => by
      rw [gi_pI_ne (by omega), gi_pI_ne (by omega)]
      simp only [u9 w9, a2]
      rw [gi_congr (a3 _ (by omega))]
    have xr : ∀ k : Nat, k ≠ 5 → gr (pI (pI (pI X4 sz 5 (ga X (sz + 133) i)) (sz + 19) 1 0) (sz + 19) 2 0) sz k = gr X sz k := fun k hk => by
      rw [gr_pI_ne' (by omega), gr_pI_ne' (by omega), gr_pI _ _ _ hk, gr_congr (a3 _ (by omega))]
    generalize pI (pI (pI X4 sz 5 (ga X (sz + 133) i)) (sz + 19) 1 0) (sz + 19) 2 0 = X1 at c2 c3 c4 f1 x1 x2 x9 xr
    obtain ⟨X9, b1, b2, b3, b4⟩ := goBack_L (F := F) c2 wM hi (by omega)
    have e43 : (44 : Int32) * nI i + 43 = nI (44 * i + 43) := by rw [show (44 : Int32) = nI 44 from rfl, show (43 : Int32) = nI 43 from rfl, pk_mul, nI_add]
    have l88 : 44 * i + 43 < 88 := by omega
    have m25 : ga X9 (sz + 151 + 25) (44 * i + 43) = ga X (sz + 133) i := by
      rw [ga_congr (b3 _ (by omega)), ga_congr (x1 _ (by omega) (by omega) (by omega))]; exact hS.symm
    have hk3 : ga X1 (sz + 151 + 26) i = 1 := by rw [ga_congr (x1 _ (by omega) (by omega) (by omega))]; exact hk2
    have hXa : shX (pI X9 (sz + 151) 9 (ga X (sz + 133) i)) = Y := by simp only [kM wM, b2]
    have hXc : shX (pI (pI X9 (sz + 151) 9 (ga X (sz + 133) i)) (sz + 151) 27 0) = Y := by simp only [kM wM, hXa]
    have f2 : fX10_goBack F X1 (sz + 151) (nI i) = some (1, pI (pI X9 (sz + 151) 9 (ga X (sz + 133) i)) (sz + 151) 27 0) := by
      simp (maxDischargeDepth := 30) only [fX10_goBack, gM wM, sM wM, c2, hin, if_pos hok, if_neg (show ¬ (1 : Int32) = 0 by decide), Option.bind_some, hi, hk3, b1, b2, m25, e43, l88, hXa]
    have y1 : ∀ q : Nat, q ≠ sz + 151 → q ≠ sz + 156 → pI (pI X9 (sz + 151) 9 (ga X (sz + 133) i)) (sz + 151) 27 0 q = X1 q := fun q z1 z2 => (pV_ne z1).trans ((pV_ne z1).trans (b3 q (by omega)))
    have sMk : ∀ k : Nat, gi (pI (pI X9 (sz + 151) 9 (ga X (sz + 133) i)) (sz + 151) 27 0) (sz + 151) k = if k = 27 then 0 else if k = 9 then ga X (sz + 133) i else gi X (sz + 151) k := fun k => by
      simp only [uM wM, hXa, b2]
      rw [gi_congr (b3 _ (by omega)), gi_congr (x1 _ (by omega) (by omega) (by omega))]
    have r5 : ga (pI (pI X9 (sz + 151) 9 (ga X (sz + 133) i)) (sz + 151) 27 0) (sz + 151 + 5) = ga X9 (sz + 151 + 5) := by rw [ga_pI, ga_pI]
    generalize pI (pI X9 (sz + 151) 9 (ga X (sz + 133) i)) (sz + 151) 27 0 = X2 at hXc f2 y1 sMk r5
    have far : ∀ q : Nat, q ≠ sz + 19 → q ≠ sz → q < sz + 14 ∨ sz + 14 + 5 ≤ q → q ≠ sz + 151 → q ≠ sz + 156 → X2 q = X q := fun q z1 z2 z4 z5 z6 => (y1 q z5 z6).trans (x1 q z1 z2 z4)
    have sc9 : ∀ k : Nat, gi X2 sz k = if k = 5 then ga X (sz + 133) i else gi X sz k := fun k => by rw [gi_congr (y1 _ (by omega) (by omega))]; exact x9 k
    refine ⟨1, X1, X2, f1, f2, by rw [hXc]; exact hW, ?_⟩
    obtain ⟨kT, kF, kS, kB, kN, kP, kI, kD, kK⟩ := keep [14, 15, 16, 17, 18, 19, 156] [5] [9, 27] hRl (X2 := X2)
      (fun o ho a0 aM => by
        simp only [List.mem_cons, List.not_mem_nil, or_false, not_or] at ho
        exact far (sz + o) (by omega) (by omega) (by omega) (by omega) (by omega))
      (fun j hj => by
        simp only [List.mem_cons, List.not_mem_nil, or_false] at hj
        rw [sc9, if_neg hj])
      (fun j hj => by
        simp only [List.mem_cons, List.not_mem_nil, or_false] at hj
        rw [gr_congr (y1 _ (by omega) (by omega))]; exact xr j hj)
      (fun j hj => by
        simp only [List.mem_cons, List.not_mem_nil, or_false, not_or] at hj
        rw [sMk, if_neg hj.2, if_neg hj.1])
    have e5 : ∀ k : Nat, k < 43 → ga X2 (sz + 151 + 5) k = ga X (sz + 151 + 25) (44 * i + k) := fun k hk => by
      rw [r5, b4 k, if_pos (by omega), ga_congr (x1 (sz + 151 + 25) (by omega) (by omega) (by omega))]
      exact congrArg (ga X (sz + 151 + 25)) (by omega)
    refine ⟨kT (by decide), kF (by decide), ?_, kB (by decide), ⟨c, c8, by rw [sMk]; exact mc, hN.cp c8 (fun k hk => ?_) (fun j j1 j4 h hh => ?_) e5, hG.c c8 e5⟩, ⟨c, 0, 0, c8, by rw [sMk]; exact mc, by omega, by omega, by rw [gi_congr (y1 _ (by omega) (by omega))]; exact c4, by rw [gi_congr (y1 _ (by omega) (by omega))]; exact c3, by rw [sMk]; rfl, fun j hj => by omega⟩, kI (by decide), kD (by decide), kK (by decide)⟩
    · show gi X2 sz 5 = gi X2 (sz + 151) 9 ∧ 0 ≤ gi X2 sz 5
      rw [sc9, sMk]
      exact ⟨rfl, hS0⟩
    · rw [gi_congr ((y1 _ (by omega) (by omega)).trans (x2 _ (by omega) (by omega)))]; exact a4 k hk
    · rw [ga_congr ((y1 _ (by omega) (by omega)).trans (x2 _ (by omega) (by omega)))]; exact a5 j j1 j4 h hh
  · have hok2 := fun q => hok ((img_iff v).mp q)
    refine ⟨-1000000001, X, X, ?_, ?_, hI⟩
    · simp only [fX9_goBack, g9 w9, hX]
      by_cases h0 : v < 0
      · rw [if_pos h0]
      · rw [if_neg h0, if_neg (fun q => hok2 ⟨h0, q⟩)]
    · simp only [fX10_goBack, gM wM, hX, hin, if_neg hok, if_true, Option.bind_some]
