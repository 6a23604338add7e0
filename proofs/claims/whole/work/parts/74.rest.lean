/-! bay: the class, behind its reader; both readers -/
theorem c_L88 {F : Nat} {Y : qH} {sz : Nat} (w9 : Y9 Y sz) : ∀ (n k : Nat) (X : qH), shX X = Y → k ≤ 2 → 2 - k < n → ∃ X2, fX9_bay_L88 F sz n (nI k) X = some X2 ∧ shX X2 = Y ∧ (∀ q : Nat, q ≠ sz + 132 → X2 q = X q) ∧ ∀ i : Nat, i < 2 → ga X2 (sz + 132) i = if k ≤ i then 0 else ga X (sz + 132) i := by
  intro n
  induction n with
  | zero => intro k X hX hk hn; omega
  | succ n ih =>
    intro k X hX hk hn
    show ∃ X2, fX9_bay_L88_B F sz (fX9_bay_L88 F sz n) (nI k) X = some X2 ∧ _
    unfold fX9_bay_L88_B
    by_cases z : k = 2
    · subst z
      refine ⟨X, by rw [if_pos (show (2 : Int32) ≤ nI 2 by decide)], hX, fun _ _ => rfl, fun i hi => by rw [if_neg (by omega)]⟩
    · have l3 : k < 2 := by omega
      have h3 : ¬ (2 : Int32) ≤ nI k := nI_ge (b := 2) l3 (by decide)
      obtain ⟨X2, i1, i2, i3, i5⟩ := ih (k + 1) (pA X (sz + 132) k 0) (shX_pA hX w9.2.2.1 _ _) (by omega) (by omega)
      refine ⟨X2, ?_, i2, fun q hq => (i3 q hq).trans (pA_ne hq), fun i hi => ?_⟩
      · simp only [if_neg h3, g9 w9, s9 w9, hX, Option.bind_some, l3, true_or, qlt, nI_1]
        exact i1
      · rw [i5 i hi, ga_pA_self hX w9.2.2.1, upd_if]
        by_cases y : i = k
        · rw [if_neg (by omega), if_pos y, if_pos (by omega)]
        · rw [if_neg y]
          by_cases y2 : k ≤ i
          · rw [if_pos (by omega), if_pos y2]
          · rw [if_neg (by omega), if_neg y2]
set_option maxHeartbeats 2000000 in
theorem c_rest {F : Nat} {X Xc Y : qH} {sz b b0 N cnt : Nat} (hW : YW Y sz) (wB : YB Y b) (hb : sz + 2 ≤ b ∧ b + 5 ≤ sz + 12) (hX : shX X = Y) (hXc : shX Xc = Y) (hN : gi X sz 1 = nI N) (h4 : gr X sz 4 = b) (hr : fX6_read F X (sz + 12) (sz + 1) (nI N) b = some ((0 : Int32), Xc)) (e3 : gr Xc sz 3 = b0) (e4 : gr Xc sz 4 = b) (e5 : gi Xc b 5 = nI cnt) (hc : cnt ≤ 8) (hF : 1000 ≤ F) :
    ∃ X2, fX9_bay F X sz = some (nI cnt, X2) ∧ shX X2 = Y ∧ (∀ q : Nat, q ≠ sz → q < sz + 14 ∨ sz + 19 ≤ q → q ≠ sz + 19 → q ≠ sz + 132 → q ≠ sz + 144 → q ≠ sz + 147 → X2 q = Xc q) ∧ (∀ k : Nat, k ≠ 1 → k ≠ 2 → k ≠ 3 → k ≠ 4 → gi X2 sz k = gi Xc sz k) ∧ (gi X2 sz 1 = 0 ∧ gi X2 sz 2 = -1) ∧ (gr X2 sz 3 = b ∧ gr X2 sz 4 = b0) ∧ (gi X2 (sz + 19) 1 = 0 ∧ gi X2 (sz + 19) 2 = 0) ∧ (∀ i : Nat, i < 2 → ga X2 (sz + 132) i = 0) ∧ gi X2 (sz + 144) 0 = 0 ∧ gi X2 (sz + 147) 0 = 0 ∧
      (gi X2 (sz + 14) 0 = 0 ∧ gi X2 (sz + 14) 1 = gi Xc b 1 ∧ gi X2 (sz + 14) 2 = gi Xc b 2 ∧ gi X2 (sz + 14) 3 = 0) ∧ ∀ h : Nat, h < 8 → (ga X2 (sz + 15) h = if h < cnt then ga Xc (b + 3) h else 0) ∧ ga X2 (sz + 16) h = -1 ∧ ga X2 (sz + 17) h = -1 ∧ ga X2 (sz + 18) h = 0 := by
  obtain ⟨w9, -, -, w6, wN, wP, -, -, -, w2, w1, wM⟩ := id hW
  have w5 := wP.1
  have k7 : shX (pI Xc sz 1 0) = Y := by simp only [k9 w9, hXc]
  have k8 : shX (pI (pI Xc sz 1 0) sz 2 (-1)) = Y := by simp only [k9 w9, k7]
  have k11 : shX (pR (pI (pI Xc sz 1 0) sz 2 (-1)) sz 3 b) = Y := by simp only [k9 w9, k8]
  have k12 : shX (pR (pR (pI (pI Xc sz 1 0) sz 2 (-1)) sz 3 b) sz 4 b0) = Y := by simp only [k9 w9, k11]
  have r83 : gr (pI (pI Xc sz 1 0) sz 2 (-1)) sz 3 = b0 := by rw [gr_pI _ _ _ (by omega), gr_pI _ _ _ (by omega)]; exact e3
  have r84 : gr (pI (pI Xc sz 1 0) sz 2 (-1)) sz 4 = b := by rw [gr_pI _ _ _ (by omega), gr_pI _ _ _ (by omega)]; exact e4
  have r123 : gr (pR (pR (pI (pI Xc sz 1 0) sz 2 (-1)) sz 3 b) sz 4 b0) sz 3 = b := by
    simp only [u9 w9, k11, k8]; rfl
  have r124 : gr (pR (pR (pI (pI Xc sz 1 0) sz 2 (-1)) sz 3 b) sz 4 b0) sz 4 = b0 := by
    simp only [u9 w9, k11, k8]; rfl
  have hpre : ∀ Z, ((fX3_begin F (pR (pR (pI (pI Xc sz 1 0) sz 2 (-1)) sz 3 b) sz 4 b0) (sz + 14) b).bind fun X15 => (qgR X15 8 sz 8).bind fun v16 => (fX5_clear F X15 v16).bind fun X17 => (fX9_bay_L88 F sz F (0 : Int32) X17).bind fun X23 => (qgR X23 8 sz 14).bind fun v24 => (qpI X23 2 v24 0 (0 : Int32)).bind fun X25 => (qgR X25 8 sz 15).bind fun v26 => (qpI X25 1 v26 0 (0 : Int32)).bind fun X27 => (qgR X27 8 sz 3).bind fun v28 => (qgI X27 0 v28 5).bind fun v29 => some (v29, X27)) = Z → fX9_bay F X sz = Z := fun Z hz => by
    rw [← hz]
    simp only [fX9_bay, g9 w9, s9 w9, hX, Option.bind_some, hN, h4, hr, qb2, hXc, if_true, k7, k8, r83, r84, k11, k12, r123]
  have gs : ∀ k : Nat, k ≠ 3 → k ≠ 4 → gi (pR (pR (pI (pI Xc sz 1 0) sz 2 (-1)) sz 3 b) sz 4 b0) sz k = if k = 2 then -1 else if k = 1 then 0 else gi Xc sz k := fun k n3 n4 => by
    rw [gi_pR _ _ _ n4, gi_pR _ _ _ n3]
    simp only [u9 w9, k7, hXc]
  have fs : ∀ q : Nat, q ≠ sz → pR (pR (pI (pI Xc sz 1 0) sz 2 (-1)) sz 3 b) sz 4 b0 q = Xc q := fun q hq => (pV_ne hq).trans ((pV_ne hq).trans ((pV_ne hq).trans (pV_ne hq)))
  generalize pR (pR (pI (pI Xc sz 1 0) sz 2 (-1)) sz 3 b) sz 4 b0 = X12 at k12 r123 r124 hpre gs fs
  obtain ⟨X15, b1, b2, b3, b4, b5⟩ := begin_ok (F := F) k12 wN wB (by omega) hc (by rw [gi_congr (fs b (by omega))]; exact e5) (by omega)
  obtain ⟨c1, c2, c3, c4⟩ := clear_ok (F := F) b2 w5
  have fc : ∀ q : Nat, q ≠ sz + 19 → pI (pI X15 (sz + 19) 1 0) (sz + 19) 2 0 q = X15 q := fun q hq => (pV_ne hq).trans (pV_ne hq)
  generalize pI (pI X15 (sz + 19) 1 0) (sz + 19) 2 0 = X17 at c1 c2 c3 c4 fc
  obtain ⟨X23, d1, d2, d3, d4⟩ := c_L88 (F := F) w9 F 0 X17 c2 (by omega) (by omega)
  rw [show nI 0 = (0 : Int32) from rfl] at d1
  have k25 : shX (pI X23 (sz + 144) 0 0) = Y := by simp only [k2 w2, d2]
  have k27 : shX (pI (pI X23 (sz + 144) 0 0) (sz + 147) 0 0) = Y := by simp only [k1 w1, k25]
  have fq : ∀ q : Nat, q ≠ sz + 144 → q ≠ sz + 147 → pI (pI X23 (sz + 144) 0 0) (sz + 147) 0 0 q = X23 q := fun q h1 h2 => (pV_ne h2).trans (pV_ne h1)
  have f1 : ∀ q : Nat, q < sz + 14 ∨ sz + 19 ≤ q → q ≠ sz + 19 → q ≠ sz + 132 → q ≠ sz + 144 → q ≠ sz + 147 → pI (pI X23 (sz + 144) 0 0) (sz + 147) 0 0 q = X12 q := fun q h0 h1 h2 h3 h4 => (fq q h3 h4).trans ((d3 q h2).trans ((fc q h1).trans (b3 q (by omega))))
  have fn : ∀ q : Nat, sz + 14 ≤ q → q < sz + 19 → pI (pI X23 (sz + 144) 0 0) (sz + 147) 0 0 q = X15 q := fun q h0 h1 => (fq q (by omega) (by omega)).trans ((d3 q (by omega)).trans (fc q (by omega)))
  have fsz := f1 sz (by omega) (by omega) (by omega) (by omega) (by omega)
  have fb : ∀ q : Nat, b ≤ q → q < b + 5 → pI (pI X23 (sz + 144) 0 0) (sz + 147) 0 0 q = Xc q := fun q h0 h1 => (f1 q (by omega) (by omega) (by omega) (by omega) (by omega)).trans (fs q (by omega))
  refine ⟨pI (pI X23 (sz + 144) 0 0) (sz + 147) 0 0, hpre _ ?_, k27, fun q h0 h1 h2 h3 h4 h5 => (f1 q h1 h2 h3 h4 h5).trans (fs q h0), fun k n1 n2 n3 n4 => ?_, ⟨?_, ?_⟩, ⟨?_, ?_⟩, ⟨?_, ?_⟩, fun i hi => ?_, ?_, ?_, ?_, fun h hh => ?_⟩
  · have r3 : gr (pI (pI X23 (sz + 144) 0 0) (sz + 147) 0 0) sz 3 = b := by rw [gr_congr fsz]; exact r123
    have g5 : gi (pI (pI X23 (sz + 144) 0 0) (sz + 147) 0 0) b 5 = nI cnt := by rw [gi_congr (fb b (by omega) (by omega))]; exact e5
    simp only [b1, Option.bind_some, g9 w9, b2, c1, c2, d1, d2, s2 w2, k25, s1 w1, k27, r3, gB wB, g5]
  · rw [gi_congr fsz, gs k n3 n4, if_neg n2, if_neg n1]
  · rw [gi_congr fsz, gs 1 (by omega) (by omega)]; rfl
  · rw [gi_congr fsz, gs 2 (by omega) (by omega)]; rfl
  · rw [gr_congr fsz]; exact r123
  · rw [gr_congr fsz]; exact r124
  · rw [gi_congr ((fq _ (by omega) (by omega)).trans (d3 _ (by omega)))]; exact c3
  · rw [gi_congr ((fq _ (by omega) (by omega)).trans (d3 _ (by omega)))]; exact c4
  · rw [ga_congr (fq (sz + 132) (by omega) (by omega)), d4 i hi, if_pos (Nat.zero_le i)]
  · rw [gi_pI_ne (by omega)]; simp only [u2 w2, d2, if_true]
  · simp only [u1 w1, k25, if_true]
  · rw [gi_congr (fn (sz + 14) (by omega) (by omega)), gi_congr (fn (sz + 14) (by omega) (by omega)), gi_congr (fn (sz + 14) (by omega) (by omega)), gi_congr (fn (sz + 14) (by omega) (by omega)), ← gi_congr (fs b (by omega)) 1, ← gi_congr (fs b (by omega)) 2]
    exact b4
  · rw [ga_congr (fn (sz + 15) (by omega) (by omega)), ga_congr (fn (sz + 16) (by omega) (by omega)), ga_congr (fn (sz + 17) (by omega) (by omega)), ga_congr (fn (sz + 18) (by omega) (by omega)), ← ga_congr (fs (b + 3) (by omega))]
    exact b5 h hh
theorem PP0 : PP 0 0 0 0 2 10 false false (fun _ => 0) (fun _ => 0) (fun _ => 0) (fun _ => 0) (fun _ _ => 0) := ⟨by omega, fun _ => ⟨rfl, rfl⟩, by omega, ⟨fun _ => rfl, fun _ => rfl⟩, fun g hg => by omega, fun x y hx => by omega, fun x y hx => by omega⟩
theorem bay_read {F : Nat} {X X1 Y : qH} {sz b N : Nat} {tx : Nat → Nat} (hW : YW Y sz) (wB : YB Y b) (hb : sz + 2 ≤ b ∧ b + 5 ≤ sz + 12) (hF : 1000 ≤ F) (hX : shX X = Y) (hX1 : shX X1 = Y) (hN : N ≤ 230) (htx : ∀ i : Nat, i < N → ga X (sz + 1) i = nI (tx i) ∧ tx i ≤ 255) (hT : MT X1 (sz + 151) N tx) :
    ∃ Xc2 Xm2 f, fX6_read F X (sz + 12) (sz + 1) (nI N) b = some (nI f, Xc2) ∧ fX10_bay F X1 (sz + 151) = ((qpI Xm2 9 (sz + 151) 11 (0 : Int32)).bind fun X20 => if nI f ≤ (0 : Int32) then ((fX10_takeRead F X20 (sz + 151)).bind fun X21 => (qpI X21 9 (sz + 151) 33 (0 : Int32)).bind fun X22 => (qpI X22 9 (sz + 151) 36 (0 : Int32)).bind fun X23 => (qpI X23 9 (sz + 151) 27 (0 : Int32)).bind fun X24 => (qgR X24 9 (sz + 151) 41).bind fun v25 => (qaZ X24 v25 (0 : Int32) (0 : Int32)).bind fun X26 => (qgR X26 9 (sz + 151) 41).bind fun v27 => (qaZ X26 v27 (1 : Int32) (0 : Int32)).bind fun X28 => (qgI X28 9 (sz + 151) 1).bind fun v29 => some (v29, X28)) else (some (((-10 : Int32) - nI f), X20))) ∧ shX Xc2 = Y ∧ FC sz b X Xc2 ∧ shX Xm2 = Y ∧ FM (sz + 151) X1 Xm2 ∧ f < 10 ∧ ((f = 0 ∧ (∃ (w fo wi cnt sm da : Nat) (hs hd : Bool) (ce po ro nn : Nat → Nat) (dd : Nat → Nat → Nat), PP w fo wi cnt sm da hs hd ce po ro nn dd ∧ PC Xc2 sz b w fo wi cnt sm da hs hd ce po ro nn dd ∧ PM Xm2 (sz + 151) w fo wi cnt sm da hs hd ce po ro nn dd) ∧ gi Xm2 (sz + 151) 12 = -1) ∨ (0 < f ∧ ∃ fp : Nat, gi Xc2 (sz + 12) 5 = nI fp ∧ gi Xm2 (sz + 151) 12 = nI fp)) := by
  obtain ⟨w9, -, -, w6, -, -, -, -, -, -, -, wM⟩ := id hW
  obtain ⟨Xc, a1, a2, a3, a4⟩ := c_start (F := F) hW wB hb hX hN htx (fun _ => 0) (fun _ => 0) (fun _ => 0) (fun _ => 0) (fun _ _ => 0)
  obtain ⟨Xm, b1, b2, b3, b4, b5, b6⟩ := m_start (F := F) wM hX1 hF (fun _ => 0) (fun _ => 0) (fun _ => 0) (fun _ => 0) (fun _ _ => 0)
  have hJ : JS Y sz b N tx 0 Xc Xm := ⟨0, 0, 0, 0, 2, 10, false, false, _, _, _, _, _, a2, PP0, a3, b1, hT.f b2, b4, b5⟩
  obtain ⟨Xc2, Xm2, f, r1, r2, r3, r4, r5, r6, r7, r8, r9⟩ := cl_loop (F := F) hW wB hb hF F 0 0 Xc Xm hJ (by omega) (by omega)
  refine ⟨Xc2, Xm2, f, ?_, ?_, r3, a1.trans r4, r5, b2.trans r6, r7, ?_⟩
  · rw [a4, r1]
    simp only [Option.bind_some, g6 w6, r3, r8]
  · rw [b6, r2]
    rfl
  · rcases r9 with ⟨y1, y2, y3⟩ | y
    · exact Or.inl ⟨y1, y2, by rw [y3]; exact b3⟩
    · exact Or.inr y
