/-! tear, duck, write, judge -/
set_option maxHeartbeats 1000000 in
theorem op_tear {F : Nat} {X : qH} {sz : Nat} (hI : Inv X sz) : Op sz (fun X => fX9_tear F X sz) (fun X => fX10_tear F X (sz + 151)) X := by
  obtain ⟨hW, hRl⟩ := id hI
  obtain ⟨rT, rF, rS, rB, rN, rP, rI, rD, rK⟩ := id hRl
  generalize hX : shX X = Y at hW
  obtain ⟨w9, -, -, -, -, -, -, -, -, w2, w1, wM⟩ := id hW
  obtain ⟨nd, hnd, d1, d2, -⟩ := rD
  obtain ⟨nk, c, hnk, c8, c1, k1', k2', -⟩ := rK
  have a1 : sz + 147 ≠ sz + 144 := by omega
  have a2 : sz + 151 ≠ sz + 144 := by omega
  have a3 : sz + 151 ≠ sz + 147 := by omega
  have hY1 : shX (pI (pI X (sz + 144) 0 0) (sz + 147) 0 0) = Y := by simp (maxDischargeDepth := 30) only [k2 w2, k1 w1, hX]
  have f1 : fX9_tear F X sz = some (nI nd + nI nk, pI (pI X (sz + 144) 0 0) (sz + 147) 0 0) := by
    simp (maxDischargeDepth := 30) only [fX9_tear, g9 w9, g2 w2, g1 w1, s2 w2, s1 w1, k2 w2, hX, Option.bind_some, qlt, d1, k1']
  have m33 : gi (pI (pI X (sz + 144) 0 0) (sz + 147) 0 0) (sz + 151) 33 = nI nd := by rw [gi_pI_ne a3, gi_pI_ne a2]; exact d2
  have m36 : gi (pI (pI X (sz + 144) 0 0) (sz + 147) 0 0) (sz + 151) 36 = nI nk := by rw [gi_pI_ne a3, gi_pI_ne a2]; exact k2'
  generalize hX1 : pI (pI X (sz + 144) 0 0) (sz + 147) 0 0 = X1 at hY1 f1 m33 m36
  have hY2 : shX (pI (pI X1 (sz + 151) 33 0) (sz + 151) 36 0) = Y := by simp (maxDischargeDepth := 30) only [kM wM, hY1]
  have f2 : fX10_tear F X1 (sz + 151) = some (nI nd + nI nk, pI (pI X1 (sz + 151) 33 0) (sz + 151) 36 0) := by
    simp (maxDischargeDepth := 30) only [fX10_tear, gM wM, sM wM, kM wM, hY1, Option.bind_some, qlt, m33, m36]
  have scM : ∀ j : Nat, gi (pI (pI X1 (sz + 151) 33 0) (sz + 151) 36 0) (sz + 151) j = if j = 36 then 0 else if j = 33 then 0 else gi X (sz + 151) j := fun j => by
    simp (maxDischargeDepth := 30) only [uM wM, kM wM, hY1]
    rw [← hX1, gi_pI_ne a3, gi_pI_ne a2]
  refine ⟨_, X1, _, f1, f2, by rw [hY2]; exact hW, ?_⟩
  obtain ⟨kT, kF, kS, kB, kN, kP, kI, kD, kK⟩ := keep [144, 147] [] [33, 36] hRl (X2 := pI (pI X1 (sz + 151) 33 0) (sz + 151) 36 0)
    (fun o ho a0 aM => by
      simp only [List.mem_cons, List.not_mem_nil, or_false, not_or] at ho
      rw [← hX1]
      exact (pV_ne (by omega)).trans ((pV_ne (by omega)).trans ((pV_ne (by omega)).trans (pV_ne (by omega)))))
    (fun j hj => by rw [gi_pI_ne (by omega), gi_pI_ne (by omega), ← hX1, gi_pI_ne (by omega), gi_pI_ne (by omega)])
    (fun j hj => by rw [gr_pI_ne' (by omega), gr_pI_ne' (by omega), ← hX1, gr_pI_ne' (by omega), gr_pI_ne' (by omega)])
    (fun j hj => by
      simp only [List.mem_cons, List.not_mem_nil, or_false, not_or] at hj
      rw [scM, if_neg hj.2, if_neg hj.1])
  have e144 : gi (pI (pI X1 (sz + 151) 33 0) (sz + 151) 36 0) (sz + 144) 0 = 0 := by
    rw [gi_pI_ne (by omega), gi_pI_ne (by omega), ← hX1, gi_pI_ne (by omega)]
    simp (maxDischargeDepth := 30) only [u2 w2, hX, if_true]
  have e147 : gi (pI (pI X1 (sz + 151) 33 0) (sz + 151) 36 0) (sz + 147) 0 = 0 := by
    rw [gi_pI_ne (by omega), gi_pI_ne (by omega), ← hX1]
    simp (maxDischargeDepth := 30) only [u1 w1, k2 w2, hX, if_true]
  refine ⟨kT (by decide), kF (by decide), kS (by decide), kB (by decide), kN (by decide), kP (by decide), kI (by decide), ⟨0, by omega, e144, by rw [scM]; rfl, fun i hi => by omega⟩, ⟨0, c, by omega, c8, by rw [scM]; exact c1, e147, by rw [scM]; rfl, fun i hi => by omega⟩⟩
/-! houses: has, hasTwo against isHouse, areTwo -/
/-- a bay's houses, at either Bay -/
theorem IB.get {X : qH} {sz : Nat} {Y : qH} (hX : shX X = Y) (hW : YW Y sz) (h : IB X sz) : ∃ b w c ce po n d, IBc X sz b w c ce po n d ∧ YB Y b := by
  obtain ⟨b, w, c, ce, po, n, d, h⟩ := h
  refine ⟨b, w, c, ce, po, n, d, h, ?_⟩
  rcases h.1.2 with ⟨rfl, _⟩ | ⟨rfl, _⟩
  · exact hW.2.1
  · exact hW.2.2.1
theorem has_ok {F : Nat} {X Y : qH} {b : Nat} (hX : shX X = Y) (hB : YB Y b) (v : Int32) : fX0_has F X b v = some (if 0 ≤ v ∧ v < gi X b 5 then 1 else 0) := by
  simp only [fX0_has, gB hB, hX, Option.bind_some]
  by_cases h0 : v < 0
  · rw [if_pos h0, if_neg (fun q => absurd q.1 (i_nle.mpr h0))]; rfl
  · rw [if_neg h0]
    by_cases h1 : gi X b 5 ≤ v
    · rw [if_pos h1, if_neg (fun q => absurd q.2 (i_nlt.mpr h1))]; rfl
    · rw [if_neg h1, if_pos ⟨i_nlt.mp h0, i_nle.mp h1⟩]; rfl
theorem isHouse_ok {F : Nat} {X Y : qH} {m c : Nat} (hX : shX X = Y) (hM : YM Y m) (hc : gi X m 1 = nI c) (c8 : c ≤ 8) (v : Int32) : fX10_isHouse F X m v = some (if 0 ≤ v ∧ v < nI c then 1 else 0) := by
  have hin := l_in F X v 0 (nI c - 1) (l := 0) (h := (nI c - 1).toInt64) rfl rfl
  have e : (0 ≤ v ∧ v ≤ nI c - 1) ↔ (0 ≤ v ∧ v < nI c) := by
    have h1 : (nI c - 1).toInt = (c : Int) - 1 := by
      show (nI c - nI 1).toInt = _
      rw [pk_sub_toInt (by omega) (by omega)]; rfl
    rw [Int32.le_iff_toInt_le, Int32.le_iff_toInt_le, Int32.lt_iff_toInt_lt, h1, nI_toInt (by omega)]
    omega
  simp only [fX10_isHouse, gM hM, hX, Option.bind_some, hc, hin, e, qz_ite]
theorem hasTwo_ok {F : Nat} {X Y : qH} {b c : Nat} (hX : shX X = Y) (hB : YB Y b) (h5 : gi X b 5 = nI c) (u v : Int32) : fX0_hasTwo F X b u v = some (if (0 ≤ u ∧ u < nI c) ∧ (0 ≤ v ∧ v < nI c) ∧ u ≠ v then 1 else 0) := by
  simp only [fX0_hasTwo, gB hB, hX, has_ok hX hB, Option.bind_some, h5]
  by_cases h1 : 0 ≤ u ∧ u < nI c
  · by_cases h2 : 0 ≤ v ∧ v < nI c
    · by_cases h3 : u = v
      · subst h3; simp [h1, qz]
      · simp [h1, h2, h3, qz]
    · simp [h1, h2, qz]
  · simp [h1, qz]
theorem areTwo_ok {F : Nat} {X Y : qH} {m c : Nat} (hX : shX X = Y) (hM : YM Y m) (hc : gi X m 1 = nI c) (c8 : c ≤ 8) (u v : Int32) : fX10_areTwo F X m u v = some (if (0 ≤ u ∧ u < nI c) ∧ (0 ≤ v ∧ v < nI c) ∧ u ≠ v then 1 else 0) := by
  simp only [fX10_areTwo, gM hM, hX, isHouse_ok hX hM hc c8, Option.bind_some]
  by_cases h1 : 0 ≤ u ∧ u < nI c
  · by_cases h2 : 0 ≤ v ∧ v < nI c
    · by_cases h3 : u = v
      · subst h3; simp [h1, qz]
      · simp [h1, h2, h3, qz]
    · simp [h1, h2, qz]
  · simp [h1, qz]
