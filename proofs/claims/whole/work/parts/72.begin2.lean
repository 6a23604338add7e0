/-! bay: how both begin -/
theorem empty_ok {F : Nat} {X Y : qH} {b : Nat} (wB : YB Y b) (hX : shX X = Y) : ∃ X2, fX0_empty F X b = some X2 ∧ shX X2 = Y ∧ (∀ q : Nat, q ≠ b → X2 q = X q) ∧ gi X2 b 0 = 0 ∧ gi X2 b 1 = 0 ∧ gi X2 b 2 = 0 ∧ gi X2 b 3 = 2 ∧ gi X2 b 4 = 10 ∧ gi X2 b 5 = 0 := by
  refine ⟨pI (pI (pI (pI (pI (pI X b 0 0) b 1 0) b 2 0) b 3 2) b 4 10) b 5 0, ?_, ?_, fun q hq => ?_, ?_, ?_, ?_, ?_, ?_, ?_⟩
  · simp (maxDischargeDepth := 30) only [fX0_empty, gB wB, sB wB, kB wB, hX, Option.bind_some]
  · simp (maxDischargeDepth := 30) only [kB wB, hX]
  · exact (pV_ne hq).trans ((pV_ne hq).trans ((pV_ne hq).trans ((pV_ne hq).trans ((pV_ne hq).trans (pV_ne hq)))))
  · simp (maxDischargeDepth := 30) only [uB wB, kB wB, hX]; rfl
  · simp (maxDischargeDepth := 30) only [uB wB, kB wB, hX]; rfl
  · simp (maxDischargeDepth := 30) only [uB wB, kB wB, hX]; rfl
  · simp (maxDischargeDepth := 30) only [uB wB, kB wB, hX]; rfl
  · simp (maxDischargeDepth := 30) only [uB wB, kB wB, hX]; rfl
  · simp (maxDischargeDepth := 30) only [uB wB, kB wB, hX]; rfl
set_option maxHeartbeats 1000000 in
theorem c_start {F : Nat} {X Y : qH} {sz b N : Nat} {tx : Nat → Nat} (hW : YW Y sz) (wB : YB Y b) (hb : sz + 2 ≤ b ∧ b + 5 ≤ sz + 12) (hX : shX X = Y) (hN : N ≤ 230) (htx : ∀ i : Nat, i < N → ga X (sz + 1) i = nI (tx i) ∧ tx i ≤ 255) (ce po ro nn : Nat → Nat) (dd : Nat → Nat → Nat) :
    ∃ Xc, FC sz b X Xc ∧ RC Xc Y sz N tx 0 (-1) 0 Xc ∧ PC Xc sz b 0 0 0 0 2 10 false false ce po ro nn dd ∧ fX6_read F X (sz + 12) (sz + 1) (nI N) b = (((fX6_skipBlanks F Xc (sz + 12)).bind fun X11 => fX6_read_L51 F (sz + 12) b F (nI 0) X11).bind fun X20 => (qgI X20 6 (sz + 12) 4).bind fun v21 => some (v21, X20)) := by
  obtain ⟨w9, -, -, w6, -, -, -, -, -, -, -, wM⟩ := id hW
  have q1 : shX (pR X (sz + 12) 0 (sz + 1)) = Y := by simp only [k6 w6, hX]
  have qN : qln (pR X (sz + 12) 0 (sz + 1)) (sz + 1) = some (nI 230) := qln_Y q1 w9.2.1
  have eN : (if nI 230 < nI N then nI 230 else nI N) = nI N := if_neg (Int32.not_lt.mpr (nI_le hN (by decide)))
  have A : ∃ X9, shX X9 = Y ∧ (∀ q : Nat, q ≠ sz + 12 → X9 q = X q) ∧ gr X9 (sz + 12) 0 = sz + 1 ∧ gi X9 (sz + 12) 1 = nI N ∧ gi X9 (sz + 12) 2 = 0 ∧ gi X9 (sz + 12) 4 = 0 ∧ gi X9 (sz + 12) 5 = -1 ∧ gi X9 (sz + 12) 6 = 0 ∧ gi X9 (sz + 12) 7 = 0 ∧ fX6_read F X (sz + 12) (sz + 1) (nI N) b = ((fX0_empty F X9 b).bind fun X10 => (fX6_skipBlanks F X10 (sz + 12)).bind fun X11 => (fX6_read_L51 F (sz + 12) b F (0 : Int32) X11).bind fun X20 => (qgI X20 6 (sz + 12) 4).bind fun v21 => some (v21, X20)) := by
    refine ⟨pI (pI (pI (pI (pI (pI (pR X (sz + 12) 0 (sz + 1)) (sz + 12) 1 (nI N)) (sz + 12) 2 0) (sz + 12) 4 0) (sz + 12) 5 (-1)) (sz + 12) 6 0) (sz + 12) 7 0, ?_, fun q hq => ?_, ?_, ?_, ?_, ?_, ?_, ?_, ?_, ?_⟩
    · simp (maxDischargeDepth := 30) only [k6 w6, q1]
    · exact (pV_ne hq).trans ((pV_ne hq).trans ((pV_ne hq).trans ((pV_ne hq).trans ((pV_ne hq).trans ((pV_ne hq).trans (pV_ne hq))))))
    · rw [gr_pI _ _ _ (by omega), gr_pI _ _ _ (by omega), gr_pI _ _ _ (by omega), gr_pI _ _ _ (by omega), gr_pI _ _ _ (by omega), gr_pI _ _ _ (by omega)]
      simp only [u6 w6, hX, if_true]
    · simp (maxDischargeDepth := 30) only [u6 w6, k6 w6, q1]; rfl
    · simp (maxDischargeDepth := 30) only [u6 w6, k6 w6, q1]; rfl
    · simp (maxDischargeDepth := 30) only [u6 w6, k6 w6, q1]; rfl
    · simp (maxDischargeDepth := 30) only [u6 w6, k6 w6, q1]; rfl
    · simp (maxDischargeDepth := 30) only [u6 w6, k6 w6, q1]; rfl
    · simp (maxDischargeDepth := 30) only [u6 w6, k6 w6, q1]; rfl
    · simp (maxDischargeDepth := 30) only [fX6_read, g6 w6, s6 w6, k6 w6, hX, q1, qN, eN, Option.bind_some, qlt, true_or]
  obtain ⟨X9, a1, a2, a3, a4, a5, a6, a7, a8, a9, a10⟩ := A
  obtain ⟨Xc, e1, e2, e3, e4, e5, e6, e7, e8, e9⟩ := empty_ok (F := F) wB a1
  have fg : ∀ k : Nat, gi Xc (sz + 12) k = gi X9 (sz + 12) k := fun k => gi_congr (e3 _ (by omega)) k
  refine ⟨Xc, fun q h1 h2 => (e3 q (by omega)).trans (a2 q h1), ⟨e2, fun _ _ => rfl, by rw [gr_congr (e3 _ (by omega))]; exact a3, by rw [fg]; exact a4, ⟨by rw [fg]; exact a5, by omega, hN⟩, by rw [fg]; exact a6, by rw [fg]; exact a7, ⟨rfl, rfl⟩, fun i hi => by rw [ga_congr ((e3 (sz + 1) (by omega)).trans (a2 _ (by omega)))]; exact htx i hi⟩, ⟨⟨e4, e5, e6, e7, e8, e9⟩, ⟨by rw [fg]; exact a8, by rw [fg]; exact a9⟩, fun g hg => by omega⟩, ?_⟩
  rw [a10, e1]
  simp only [Option.bind_some, Option.bind_assoc]
  rfl
section MST
variable {F : Nat} {Y : qH} {m : Nat}
theorem m_L12 (wM : YM Y m) : ∀ (n k : Nat) (X : qH), shX X = Y → k ≤ 3 → 3 - k < n → ∃ X2, fX10_bay_L12 F m n (nI k) X = some X2 ∧ shX X2 = Y ∧ (∀ q : Nat, q ≠ m + 7 → X2 q = X q) ∧ (∀ j : Nat, gi X2 m j = gi X m j) ∧ ∀ i : Nat, i < 3 → ga X2 (m + 7) i = if k ≤ i then 0 else ga X (m + 7) i := by
  intro n
  induction n with
  | zero => intro k X hX hk hn; omega
  | succ n ih =>
    intro k X hX hk hn
    show ∃ X2, fX10_bay_L12_B F m (fX10_bay_L12 F m n) (nI k) X = some X2 ∧ _
    unfold fX10_bay_L12_B
    by_cases z : k = 3
    · subst z
      refine ⟨X, by rw [if_pos (show (3 : Int32) ≤ nI 3 by decide)], hX, fun _ _ => rfl, fun _ => rfl, fun i hi => by rw [if_neg (by omega)]⟩
    · have l3 : k < 3 := by omega
      have h3 : ¬ (3 : Int32) ≤ nI k := nI_ge (b := 3) l3 (by decide)
      obtain ⟨X2, i1, i2, i3, i4, i5⟩ := ih (k + 1) (pA X (m + 7) k 0) (shX_pA hX wM.p7 _ _) (by omega) (by omega)
      refine ⟨X2, ?_, i2, fun q hq => (i3 q hq).trans (pA_ne hq), fun j => by rw [i4, gi_pA], fun i hi => ?_⟩
      · simp only [if_neg h3, gM wM, sM wM, hX, Option.bind_some, l3, qlt, nI_1]
        exact i1
      · rw [i5 i hi, ga_pA_self hX wM.p7]
        by_cases y : i = k
        · subst y; rw [if_neg (by omega), if_pos (Nat.le_refl i), upd_self]
        · rw [upd_ne _ y]
          by_cases y2 : k ≤ i
          · rw [if_pos (by omega), if_pos y2]
          · rw [if_neg (by omega), if_neg y2]
set_option maxHeartbeats 1000000 in
theorem m_start (wM : YM Y m) {X : qH} (hX : shX X = Y) (hF : 1000 ≤ F) (ce po ro nn : Nat → Nat) (dd : Nat → Nat → Nat) :
    ∃ Xm, shX Xm = Y ∧ FM m X Xm ∧ gi Xm m 12 = -1 ∧ gi Xm m 13 = nI 0 ∧ PM Xm m 0 0 0 0 2 10 false false ce po ro nn dd ∧ fX10_bay F X m = qb2 (fX10_bay_L47 F m F (0 : Int32) Xm) fun v18 X19 => (qpI X19 9 m 11 (0 : Int32)).bind fun X20 => if v18 ≤ (0 : Int32) then ((fX10_takeRead F X20 m).bind fun X21 => (qpI X21 9 m 33 (0 : Int32)).bind fun X22 => (qpI X22 9 m 36 (0 : Int32)).bind fun X23 => (qpI X23 9 m 27 (0 : Int32)).bind fun X24 => (qgR X24 9 m 41).bind fun v25 => (qaZ X24 v25 (0 : Int32) (0 : Int32)).bind fun X26 => (qgR X26 9 m 41).bind fun v27 => (qaZ X26 v27 (1 : Int32) (0 : Int32)).bind fun X28 => (qgI X28 9 m 1).bind fun v29 => some (v29, X28)) else (some (((-10 : Int32) - v18), X20)) := by
  have k1 : shX (pI X m 12 (-1)) = Y := by simp only [kM wM, hX]
  have k2 : shX (pI (pI X m 12 (-1)) m 13 0) = Y := by simp only [kM wM, k1]
  obtain ⟨X8, i1, i2, i3, i4, i5⟩ := m_L12 (F := F) wM F 0 _ k2 (by omega) (by omega)
  rw [show nI 0 = (0 : Int32) from rfl] at i1
  have k3 : shX (pI X8 m 17 0) = Y := by simp only [kM wM, i2]
  have k4 : shX (pI (pI X8 m 17 0) m 25 0) = Y := by simp only [kM wM, k3]
  have k5 : shX (pI (pI (pI X8 m 17 0) m 25 0) m 26 0) = Y := by simp only [kM wM, k4]
  have gv : ∀ j : Nat, gi (pI (pI (pI X8 m 17 0) m 25 0) m 26 0) m j = if j = 26 then 0 else if j = 25 then 0 else if j = 17 then 0 else if j = 13 then 0 else if j = 12 then -1 else gi X m j := fun j => by
    simp only [uM wM, k4, k3, i2, i4, k1, hX]
  have av : ∀ q : Nat, ga (pI (pI (pI X8 m 17 0) m 25 0) m 26 0) q = ga X8 q := fun q => by rw [ga_pI, ga_pI, ga_pI]
  refine ⟨pI (pI (pI X8 m 17 0) m 25 0) m 26 0, k5, ⟨fun q q1 q2 => (pV_ne q1).trans ((pV_ne q1).trans ((pV_ne q1).trans ((i3 q (by omega)).trans ((pV_ne q1).trans (pV_ne q1))))), fun k hk => ?_⟩, by rw [gv]; rfl, by rw [gv]; rfl, ⟨⟨?_, ?_, fun y => absurd rfl y⟩, ⟨by rw [gv]; rfl, by rw [gv]; rfl, by rw [gv]; rfl⟩, ⟨fun y => absurd y (by decide), fun y => absurd y (by decide)⟩, fun g hg => by omega⟩, ?_⟩
  · simp only [List.mem_cons, List.not_mem_nil, or_false, not_or] at hk
    rw [gv, if_neg hk.2.2.2.2.2.2, if_neg hk.2.2.2.2.2.1, if_neg hk.2.2.2.2.1, if_neg hk.2.1, if_neg hk.1]
  · rw [av, i5 0 (by omega), if_pos (by omega)]; rfl
  · rw [av, i5 1 (by omega), if_pos (by omega)]; rfl
  · simp only [fX10_bay, gM wM, sM wM, hX, k1, i1, i2, k3, k4, Option.bind_some, true_or]
end MST
