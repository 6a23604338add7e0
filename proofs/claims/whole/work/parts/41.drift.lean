/-! drift -/
theorem fb_andL (a b : Nat) : lN a &&& lN b = lN (a &&& b) := by
  apply Int64.toBitVec_inj.mp
  rw [Int64.toBitVec_and]
  show BitVec.ofNat 64 a &&& BitVec.ofNat 64 b = BitVec.ofNat 64 (a &&& b)
  apply BitVec.eq_of_toNat_eq
  rw [BitVec.toNat_and, BitVec.toNat_ofNat, BitVec.toNat_ofNat, BitVec.toNat_ofNat, Nat.and_mod_two_pow]
theorem fb_maskL (n k : Nat) : lN n &&& lN (2 ^ k - 1) = lN (n % 2 ^ k) := by rw [fb_andL, Nat.and_two_pow_sub_one_eq_mod]
def drS (s : Nat) : Nat := (s * 1103515245 + 12345) % 2147483648
theorem drS_lt (s : Nat) : drS s < 2 ^ 31 := Nat.mod_lt _ (by decide)
theorem drS_c {s : Nat} (h : s < 2 ^ 31) : ((((nI s).toInt64 * (1103515245 : Int64)) + (12345 : Int64)) &&& (2147483647 : Int64)).toInt32 = nI (drS s) := by
  rw [nI_l h, show (1103515245 : Int64) = lN 1103515245 from rfl, show (12345 : Int64) = lN 12345 from rfl, show (2147483647 : Int64) = lN (2 ^ 31 - 1) from rfl, lN_mul, lN_add, fb_maskL, lN_i]
  rfl
theorem drS_m {s : Nat} (h : s < 2 ^ 31) : ((((nI s).toInt64 * (1103515245 : Int64)) + (12345 : Int64)) - (((nI s).toInt64 * (1103515245 : Int64)) + (12345 : Int64)) / (2147483648 : Int64) * (2147483648 : Int64)).toInt32 = nI (drS s) := by
  rw [nI_l h, show (1103515245 : Int64) = lN 1103515245 from rfl, show (12345 : Int64) = lN 12345 from rfl, show (2147483648 : Int64) = lN 2147483648 from rfl, lN_mul, lN_add, pk_lRem (by omega) (by omega) (by omega), lN_i]
  rfl
theorem drQ {s n : Nat} (h : s < 2 ^ 31) (h1 : 1 ≤ n) (h2 : n < 1000) : nI s / (65536 : Int32) - nI s / (65536 : Int32) / nI n * nI n = nI (s / 65536 % n) := by
  rw [show (65536 : Int32) = nI 65536 from rfl, pk_div h (by omega) (by omega), pk_rem (by omega) (by omega) (by omega)]
theorem draw_c {F : Nat} {X Y : qH} {sz s n : Nat} (hX : shX X = Y) (w9 : Y9 Y sz) (hs : gi X sz 5 = nI s) (hl : s < 2 ^ 31) (h1 : 1 ≤ n) (h2 : n < 1000) : fX9_draw F X sz (nI n) = some (nI (drS s / 65536 % n), pI X sz 5 (nI (drS s))) := by
  have e : gi (pI X sz 5 (nI (drS s))) sz 5 = nI (drS s) := by simp only [u9 w9, hX, if_true]
  have hX3 : shX (pI X sz 5 (nI (drS s))) = Y := by simp only [k9 w9, hX]
  have l1 : (1 : Int32) ≤ nI n := nI_le (a := 1) h1 (by omega)
  simp only [fX9_draw, g9 w9, s9 w9, hX, Option.bind_some, qlt, hs, drS_c hl, if_pos l1, hX3, e, drQ (drS_lt s) h1 h2, qnz, if_neg (nI_ne0 (show 0 < n by omega) (by omega))]
theorem draw_m {F : Nat} {X Y : qH} {m s n : Nat} (hX : shX X = Y) (wM : YM Y m) (hs : gi X m 9 = nI s) (hl : s < 2 ^ 31) (h1 : 1 ≤ n) (h2 : n < 1000) : fX10_draw F X m (nI n) = some (nI (drS s / 65536 % n), pI X m 9 (nI (drS s))) := by
  have e : gi (pI X m 9 (nI (drS s))) m 9 = nI (drS s) := by simp only [uM wM, hX, if_true]
  have hX3 : shX (pI X m 9 (nI (drS s))) = Y := by simp only [kM wM, hX]
  simp only [fX10_draw, gM wM, sM wM, hX, Option.bind_some, qlt, hs, drS_m hl, hX3, e, drQ (drS_lt s) h1 h2, qnz, if_neg (nI_ne0 (show 0 < n by omega) (by omega))]
def drK (s : Nat) : Nat := drS s / 65536 % 3
def dr_s (s : Nat) : Nat := if drK s = 0 then drS (drS s) else if drK s = 1 then drS (drS s) else drS s
def dr_f (s fo : Nat) : Nat := if drK s = 0 then drS (drS s) / 65536 % 21 else fo
def dr_w (s wi : Nat) : Nat := if drK s = 0 then wi else if drK s = 1 then drS (drS s) / 65536 % 11 else wi
def drN (p : Nat × Nat × Nat × Nat) : Nat → Nat × Nat × Nat × Nat
  | 0 => p
  | k + 1 => (dr_s (drN p k).1, dr_f (drN p k).1 (drN p k).2.1, dr_w (drN p k).1 (drN p k).2.2.1, (drN p k).2.2.2 + 1)
theorem drN_in {p : Nat × Nat × Nat × Nat} (h1 : p.1 < 2 ^ 31) (h2 : p.2.1 ≤ 20) (h3 : p.2.2.1 ≤ 10) : ∀ k : Nat, (drN p k).1 < 2 ^ 31 ∧ (drN p k).2.1 ≤ 20 ∧ (drN p k).2.2.1 ≤ 10 ∧ (drN p k).2.2.2 = p.2.2.2 + k := by
  intro k
  induction k with
  | zero => exact ⟨h1, h2, h3, rfl⟩
  | succ k ih =>
    obtain ⟨i1, i2, i3, i4⟩ := ih
    refine ⟨?_, ?_, ?_, ?_⟩
    · show dr_s _ < _
      unfold dr_s
      split
      · exact drS_lt _
      · split <;> exact drS_lt _
    · show dr_f _ _ ≤ _
      unfold dr_f
      split
      · have := Nat.mod_lt (drS (drS (drN p k).1) / 65536) (show 0 < 21 by omega)
        omega
      · exact i2
    · show dr_w _ _ ≤ _
      unfold dr_w
      split
      · exact i3
      · split
        · have := Nat.mod_lt (drS (drS (drN p k).1) / 65536) (show 0 < 11 by omega)
          omega
        · exact i3
    · show (drN p k).2.2.2 + 1 = _
      omega
def dcI (X0 Y : qH) (sz : Nat) (p : Nat × Nat × Nat × Nat) (X : qH) : Prop := shX X = Y ∧ (∀ q : Nat, q ≠ sz → q ≠ sz + 14 → X q = X0 q) ∧ (∀ k : Nat, k ≠ 5 → gi X sz k = gi X0 sz k) ∧ (∀ k : Nat, k ≠ 5 → gr X sz k = gr X0 sz k) ∧ gi X sz 5 = nI p.1 ∧ gi X (sz + 14) 1 = nI p.2.1 ∧ gi X (sz + 14) 2 = nI p.2.2.1 - 5 ∧ gi X (sz + 14) 0 = nI p.2.2.2 ∧ gi X (sz + 14) 3 = gi X0 (sz + 14) 3
theorem dcI.seed {X0 Y X : qH} {sz s fo wi mi s2 : Nat} (h : dcI X0 Y sz (s, fo, wi, mi) X) (w9 : Y9 Y sz) : dcI X0 Y sz (s2, fo, wi, mi) (pI X sz 5 (nI s2)) := by
  obtain ⟨h1, h2, h3, h4, h5, h6, h7, h8, h9⟩ := h
  have hn : sz + 14 ≠ sz := by omega
  refine ⟨by simp only [k9 w9, h1], fun q z1 z2 => (pV_ne z1).trans (h2 q z1 z2), fun k hk => ?_, fun k hk => by rw [gr_pI _ _ _ hk]; exact h4 k hk, ?_, ?_, ?_, ?_, ?_⟩
  · simp only [u9 w9, h1]; rw [if_neg hk]; exact h3 k hk
  · simp only [u9 w9, h1, if_true]
  · rw [gi_pI_ne hn]; exact h6
  · rw [gi_pI_ne hn]; exact h7
  · rw [gi_pI_ne hn]; exact h8
  · rw [gi_pI_ne hn]; exact h9
theorem dcI.fog {X0 Y X : qH} {sz s fo wi mi f2 : Nat} (h : dcI X0 Y sz (s, fo, wi, mi) X) (wN : YN Y (sz + 14)) : dcI X0 Y sz (s, f2, wi, mi) (pI X (sz + 14) 1 (nI f2)) := by
  obtain ⟨h1, h2, h3, h4, h5, h6, h7, h8, h9⟩ := h
  have hn : sz ≠ sz + 14 := by omega
  refine ⟨by simp only [kN wN, h1], fun q z1 z2 => (pV_ne z2).trans (h2 q z1 z2), fun k hk => by rw [gi_pI_ne hn]; exact h3 k hk, fun k hk => by rw [gr_pI_ne' hn]; exact h4 k hk, by rw [gi_pI_ne hn]; exact h5, ?_, ?_, ?_, ?_⟩
  · simp only [uN wN, h1, if_true]
  · simp only [uN wN, h1]; exact h7
  · simp only [uN wN, h1]; exact h8
  · simp only [uN wN, h1]; exact h9
theorem dcI.wind {X0 Y X : qH} {sz s fo wi mi v2 : Nat} (h : dcI X0 Y sz (s, fo, wi, mi) X) (wN : YN Y (sz + 14)) : dcI X0 Y sz (s, fo, v2, mi) (pI X (sz + 14) 2 (nI v2 - 5)) := by
  obtain ⟨h1, h2, h3, h4, h5, h6, h7, h8, h9⟩ := h
  have hn : sz ≠ sz + 14 := by omega
  refine ⟨by simp only [kN wN, h1], fun q z1 z2 => (pV_ne z2).trans (h2 q z1 z2), fun k hk => by rw [gi_pI_ne hn]; exact h3 k hk, fun k hk => by rw [gr_pI_ne' hn]; exact h4 k hk, by rw [gi_pI_ne hn]; exact h5, ?_, ?_, ?_, ?_⟩
  · simp only [uN wN, h1]; exact h6
  · simp only [uN wN, h1, if_true]
  · simp only [uN wN, h1]; exact h8
  · simp only [uN wN, h1]; exact h9
theorem dcI.min {X0 Y X : qH} {sz s fo wi mi m2 : Nat} (h : dcI X0 Y sz (s, fo, wi, mi) X) (wN : YN Y (sz + 14)) : dcI X0 Y sz (s, fo, wi, m2) (pI X (sz + 14) 0 (nI m2)) := by
  obtain ⟨h1, h2, h3, h4, h5, h6, h7, h8, h9⟩ := h
  have hn : sz ≠ sz + 14 := by omega
  refine ⟨by simp only [kN wN, h1], fun q z1 z2 => (pV_ne z2).trans (h2 q z1 z2), fun k hk => by rw [gi_pI_ne hn]; exact h3 k hk, fun k hk => by rw [gr_pI_ne' hn]; exact h4 k hk, by rw [gi_pI_ne hn]; exact h5, ?_, ?_, ?_, ?_⟩
  · simp only [uN wN, h1]; exact h6
  · simp only [uN wN, h1]; exact h7
  · simp only [uN wN, h1, if_true]
  · simp only [uN wN, h1]; exact h9
def dmI (X0 Y : qH) (m : Nat) (p : Nat × Nat × Nat × Nat) (X : qH) : Prop := shX X = Y ∧ (∀ q : Nat, q ≠ m → q ≠ m + 5 → X q = X0 q) ∧ (∀ k : Nat, k ≠ 9 → gi X m k = gi X0 m k) ∧ gi X m 9 = nI p.1 ∧ ga X (m + 5) 0 = nI p.2.1 ∧ ga X (m + 5) 1 = nI p.2.2.1 - 5 ∧ ga X (m + 5) 2 = nI p.2.2.2 ∧ ∀ k : Nat, 3 ≤ k → ga X (m + 5) k = ga X0 (m + 5) k
theorem dmI.seed {X0 Y X : qH} {m s fo wi mi s2 : Nat} (h : dmI X0 Y m (s, fo, wi, mi) X) (wM : YM Y m) : dmI X0 Y m (s2, fo, wi, mi) (pI X m 9 (nI s2)) := by
  obtain ⟨h1, h2, h3, h5, h6, h7, h8, h9⟩ := h
  refine ⟨by simp only [kM wM, h1], fun q z1 z2 => (pV_ne z1).trans (h2 q z1 z2), fun k hk => ?_, ?_, ?_, ?_, ?_, fun k hk => ?_⟩
  · simp only [uM wM, h1]; rw [if_neg hk]; exact h3 k hk
  · simp only [uM wM, h1, if_true]
  · rw [ga_pI]; exact h6
  · rw [ga_pI]; exact h7
  · rw [ga_pI]; exact h8
  · rw [ga_pI]; exact h9 k hk
theorem dmI.fog {X0 Y X : qH} {m s fo wi mi f2 : Nat} (h : dmI X0 Y m (s, fo, wi, mi) X) (wM : YM Y m) : dmI X0 Y m (s, f2, wi, mi) (pA X (m + 5) 0 (nI f2)) := by
  obtain ⟨h1, h2, h3, h5, h6, h7, h8, h9⟩ := h
  refine ⟨shX_pA h1 wM.p5 _ _, fun q z1 z2 => (pA_ne z2).trans (h2 q z1 z2), fun k hk => by rw [gi_pA]; exact h3 k hk, by rw [gi_pA]; exact h5, ?_, ?_, ?_, fun k hk => ?_⟩
  · rw [ga_pA_self h1 wM.p5, upd_self]
  · rw [ga_pA_self h1 wM.p5, upd_ne _ (by omega)]; exact h7
  · rw [ga_pA_self h1 wM.p5, upd_ne _ (by omega)]; exact h8
  · rw [ga_pA_self h1 wM.p5, upd_ne _ (by omega)]; exact h9 k hk
theorem dmI.wind {X0 Y X : qH} {m s fo wi mi v2 : Nat} (h : dmI X0 Y m (s, fo, wi, mi) X) (wM : YM Y m) : dmI X0 Y m (s, fo, v2, mi) (pA X (m + 5) 1 (nI v2 - 5)) := by
  obtain ⟨h1, h2, h3, h5, h6, h7, h8, h9⟩ := h
  refine ⟨shX_pA h1 wM.p5 _ _, fun q z1 z2 => (pA_ne z2).trans (h2 q z1 z2), fun k hk => by rw [gi_pA]; exact h3 k hk, by rw [gi_pA]; exact h5, ?_, ?_, ?_, fun k hk => ?_⟩
  · rw [ga_pA_self h1 wM.p5, upd_ne _ (by omega)]; exact h6
  · rw [ga_pA_self h1 wM.p5, upd_self]
  · rw [ga_pA_self h1 wM.p5, upd_ne _ (by omega)]; exact h8
  · rw [ga_pA_self h1 wM.p5, upd_ne _ (by omega)]; exact h9 k hk
theorem dmI.min {X0 Y X : qH} {m s fo wi mi m2 : Nat} (h : dmI X0 Y m (s, fo, wi, mi) X) (wM : YM Y m) : dmI X0 Y m (s, fo, wi, m2) (pA X (m + 5) 2 (nI m2)) := by
  obtain ⟨h1, h2, h3, h5, h6, h7, h8, h9⟩ := h
  refine ⟨shX_pA h1 wM.p5 _ _, fun q z1 z2 => (pA_ne z2).trans (h2 q z1 z2), fun k hk => by rw [gi_pA]; exact h3 k hk, by rw [gi_pA]; exact h5, ?_, ?_, ?_, fun k hk => ?_⟩
  · rw [ga_pA_self h1 wM.p5, upd_ne _ (by omega)]; exact h6
  · rw [ga_pA_self h1 wM.p5, upd_ne _ (by omega)]; exact h7
  · rw [ga_pA_self h1 wM.p5, upd_self]
  · rw [ga_pA_self h1 wM.p5, upd_ne _ (by omega)]; exact h9 k hk
set_option maxHeartbeats 1000000 in
theorem weather_c {F : Nat} {X0 X Y : qH} {sz s fo wi mi : Nat} (h : dcI X0 Y sz (s, fo, wi, mi) X) (hs : s < 2 ^ 31) (w9 : Y9 Y sz) (wN : YN Y (sz + 14)) : ∃ X2, fX9_changeWeather F X sz = some X2 ∧ dcI X0 Y sz (dr_s s, dr_f s fo, dr_w s wi, mi) X2 := by
  have hX := h.1
  have d3 := draw_c (F := F) (n := 3) hX w9 h.2.2.2.2.1 hs (by omega) (by omega)
  have i1 := h.seed (s2 := drS s) w9
  have l1 := drS_lt s
  have d21 := draw_c (F := F) (n := 21) i1.1 w9 i1.2.2.2.2.1 l1 (by omega) (by omega)
  have d11 := draw_c (F := F) (n := 11) i1.1 w9 i1.2.2.2.2.1 l1 (by omega) (by omega)
  have i2 := i1.seed (s2 := drS (drS s)) w9
  rw [show nI 3 = (3 : Int32) from rfl] at d3
  rw [show nI 21 = (21 : Int32) from rfl] at d21
  rw [show nI 11 = (11 : Int32) from rfl] at d11
  by_cases q0 : drK s = 0
  · have e : (dr_s s, dr_f s fo, dr_w s wi, mi) = (drS (drS s), drS (drS s) / 65536 % 21, wi, mi) := by simp only [dr_s, dr_f, dr_w, if_pos q0]
    rw [e]
    refine ⟨_, ?_, i2.fog (f2 := drS (drS s) / 65536 % 21) wN⟩
    have z : drS s / 65536 % 3 = 0 := q0
    simp only [fX9_changeWeather, g9 w9, sN wN, hX, d3, qb2, Option.bind_some, z, if_pos (show nI 0 = (0 : Int32) from rfl), i1.1, d21, i2.1]
  · by_cases q1 : drK s = 1
    · have e : (dr_s s, dr_f s fo, dr_w s wi, mi) = (drS (drS s), fo, drS (drS s) / 65536 % 11, mi) := by simp only [dr_s, dr_f, dr_w, if_neg q0, if_pos q1]
      rw [e]
      refine ⟨_, ?_, i2.wind (v2 := drS (drS s) / 65536 % 11) wN⟩
      have z : drS s / 65536 % 3 = 1 := q1
      simp only [fX9_changeWeather, g9 w9, sN wN, hX, d3, qb2, Option.bind_some, z, if_neg (show ¬ nI 1 = (0 : Int32) by decide), if_pos (show nI 1 = (1 : Int32) from rfl), i1.1, d11, i2.1, qlt]
    · have e : (dr_s s, dr_f s fo, dr_w s wi, mi) = (drS s, fo, wi, mi) := by simp only [dr_s, dr_f, dr_w, if_neg q0, if_neg q1]
      rw [e]
      refine ⟨_, ?_, i1⟩
      have z : drS s / 65536 % 3 = 2 := by
        have := Nat.mod_lt (drS s / 65536) (show 0 < 3 by omega)
        unfold drK at q0 q1
        omega
      simp only [fX9_changeWeather, g9 w9, hX, d3, qb2, Option.bind_some, z, if_neg (show ¬ nI 2 = (0 : Int32) by decide), if_neg (show ¬ nI 2 = (1 : Int32) by decide)]
set_option maxHeartbeats 1000000 in
theorem drift_c {F : Nat} {X0 Y : qH} {sz N : Nat} {T : Nat → Nat × Nat × Nat × Nat} (hT : ∀ k : Nat, T (k + 1) = (dr_s (T k).1, dr_f (T k).1 (T k).2.1, dr_w (T k).1 (T k).2.2.1, (T k).2.2.2 + 1)) (hs : ∀ k : Nat, (T k).1 < 2 ^ 31) (hN : N ≤ 99) (w9 : Y9 Y sz) (wN : YN Y (sz + 14)) :
    ∀ (n k : Nat) (X : qH), k ≤ N → N - k < n → dcI X0 Y sz (T k) X → ∃ X2, fX9_drift_L25 F sz (nI N) n (nI k) X = some X2 ∧ dcI X0 Y sz (T N) X2 := by
  intro n
  induction n with
  | zero => intro k X hk hn; omega
  | succ n ih =>
    intro k X hk hn hI
    show ∃ X2, fX9_drift_L25_B F sz (nI N) (fX9_drift_L25 F sz (nI N) n) (nI k) X = some X2 ∧ _
    unfold fX9_drift_L25_B
    by_cases q : k = N
    · subst q
      exact ⟨X, by rw [if_pos (nI_le (Nat.le_refl k) (by omega))], hI⟩
    · rw [if_neg (nI_ge (show k < N by omega) (by omega))]
      have ih' := fun X => ih (k + 1) X (by omega) (by omega)
      have hsk := hs k
      rw [hT k] at ih'
      generalize T k = P at *
      obtain ⟨s, fo, wi, mi⟩ := P
      obtain ⟨X3, e1, i1⟩ := weather_c (F := F) hI hsk w9 wN
      have i2 := i1.min (m2 := mi + 1) wN
      have e0 : gi X3 (sz + 14) 0 = nI mi := i1.2.2.2.2.2.2.2.1
      obtain ⟨X4, e2, i3⟩ := ih' _ i2
      refine ⟨X4, ?_, i3⟩
      simp only [g9 w9, gN wN, sN wN, e1, i1.1, Option.bind_some, e0, qlt, nI_1]
      exact e2
set_option maxHeartbeats 1000000 in
theorem drift_m {F : Nat} {X0 Y : qH} {m N : Nat} {T : Nat → Nat × Nat × Nat × Nat} (hT : ∀ k : Nat, T (k + 1) = (dr_s (T k).1, dr_f (T k).1 (T k).2.1, dr_w (T k).1 (T k).2.2.1, (T k).2.2.2 + 1)) (hs' : ∀ k : Nat, (T k).1 < 2 ^ 31) (hN : N ≤ 99) (wM : YM Y m) :
    ∀ (n k : Nat) (X : qH), k ≤ N → N - k < n → dmI X0 Y m (T k) X → ∃ X2, fX10_drift_L18 F m (nI N) n (nI k) X = some X2 ∧ dmI X0 Y m (T N) X2 := by
  intro n
  induction n with
  | zero => intro k X hk hn; omega
  | succ n ih =>
    intro k X hk hn hI'
    show ∃ X2, fX10_drift_L18_B F m (nI N) (fX10_drift_L18 F m (nI N) n) (nI k) X = some X2 ∧ _
    unfold fX10_drift_L18_B
    by_cases q : k = N
    · subst q
      exact ⟨X, by rw [if_pos (nI_le (Nat.le_refl k) (by omega))], hI'⟩
    · rw [if_neg (nI_ge (show k < N by omega) (by omega))]
      have hs := hs' k
      have ih' := fun X => ih (k + 1) X (by omega) (by omega)
      rw [hT k] at ih'
      generalize T k = P at *
      obtain ⟨s, fo, wi, mi⟩ := P
      dsimp only at hs ih'
      have hX := hI'.1
      have d3 := draw_m (F := F) (n := 3) hX wM hI'.2.2.2.1 hs (by omega) (by omega)
      have i1 := hI'.seed (s2 := drS s) wM
      have l1 := drS_lt s
      have d21 := draw_m (F := F) (n := 21) i1.1 wM i1.2.2.2.1 l1 (by omega) (by omega)
      have d11 := draw_m (F := F) (n := 11) i1.1 wM i1.2.2.2.1 l1 (by omega) (by omega)
      have i2 := i1.seed (s2 := drS (drS s)) wM
      rw [show nI 3 = (3 : Int32) from rfl] at d3
      rw [show nI 21 = (21 : Int32) from rfl] at d21
      rw [show nI 11 = (11 : Int32) from rfl] at d11
      by_cases q0 : drK s = 0
      · have e : (dr_s s, dr_f s fo, dr_w s wi, mi + 1) = (drS (drS s), drS (drS s) / 65536 % 21, wi, mi + 1) := by simp only [dr_s, dr_f, dr_w, if_pos q0]
        rw [e] at ih'
        have i3 := i2.fog (f2 := drS (drS s) / 65536 % 21) wM
        have i4 := i3.min (m2 := mi + 1) wM
        obtain ⟨X4, e2, i5⟩ := ih' _ i4
        refine ⟨X4, ?_, i5⟩
        have z : drS s / 65536 % 3 = 0 := q0
        have e0 := i3.2.2.2.2.2.2.1
        simp only [gM wM, m5 wM, d3, qb2, Option.bind_some, z, if_pos (show nI 0 = (0 : Int32) from rfl), i1.1, d21, i2.1, i3.1, e0, qlt, nI_1]
        exact e2
      · by_cases q1 : drK s = 1
        · have e : (dr_s s, dr_f s fo, dr_w s wi, mi + 1) = (drS (drS s), fo, drS (drS s) / 65536 % 11, mi + 1) := by simp only [dr_s, dr_f, dr_w, if_neg q0, if_pos q1]
          rw [e] at ih'
          have i3 := i2.wind (v2 := drS (drS s) / 65536 % 11) wM
          have i4 := i3.min (m2 := mi + 1) wM
          obtain ⟨X4, e2, i5⟩ := ih' _ i4
          refine ⟨X4, ?_, i5⟩
          have z : drS s / 65536 % 3 = 1 := q1
          have e0 := i3.2.2.2.2.2.2.1
          simp only [gM wM, m5 wM, d3, qb2, Option.bind_some, z, if_neg (show ¬ nI 1 = (0 : Int32) by decide), if_pos (show nI 1 = (1 : Int32) from rfl), i1.1, d11, i2.1, qlt, i3.1, e0, nI_1]
          exact e2
        · have e : (dr_s s, dr_f s fo, dr_w s wi, mi + 1) = (drS s, fo, wi, mi + 1) := by simp only [dr_s, dr_f, dr_w, if_neg q0, if_neg q1]
          rw [e] at ih'
          have i4 := i1.min (m2 := mi + 1) wM
          obtain ⟨X4, e2, i5⟩ := ih' _ i4
          refine ⟨X4, ?_, i5⟩
          have z : drS s / 65536 % 3 = 2 := by
            have := Nat.mod_lt (drS s / 65536) (show 0 < 3 by omega)
            unfold drK at q0 q1
            omega
          have e0 := i1.2.2.2.2.2.2.1
          simp only [gM wM, m5 wM, d3, qb2, Option.bind_some, z, if_neg (show ¬ nI 2 = (0 : Int32) by decide), if_neg (show ¬ nI 2 = (1 : Int32) by decide), i1.1, e0, qlt, nI_1]
          exact e2
set_option maxHeartbeats 1000000 in
theorem op_drift {F : Nat} {X : qH} {sz : Nat} (hI : Inv X sz) (hF : 300000 ≤ F) (v : Int32) : Op sz (fun X => fX9_drift F X sz v) (fun X => fX10_drift F X (sz + 151) v) X := by
  obtain ⟨hW, hRl⟩ := id hI
  obtain ⟨rT, rF, rS, rB, rN, rP, rI, rD, rK⟩ := id hRl
  generalize hX : shX X = Y at hW
  obtain ⟨w9, -, -, -, wN, -, -, -, -, -, -, wM⟩ := id hW
  obtain ⟨b, w, c, ce, po, nn, dd, hb, wB⟩ := rB.get hX hW
  obtain ⟨⟨b3, -⟩, ⟨bw, mw, hw30⟩, -⟩ := id hb
  obtain ⟨c', c8', mc', hn, hg⟩ := id rN
  obtain ⟨⟨mi, hmi, gm⟩, ⟨fo, hfo, gf⟩, ⟨wi, hwi, gw⟩, g4⟩ := id hg
  have gm1 : gi X (sz + 14) 0 = nI mi := hn.1.trans gm
  have gf1 : gi X (sz + 14) 1 = nI fo := hn.2.1.trans gf
  have gw1 : gi X (sz + 14) 2 = nI wi - 5 := hn.2.2.1.trans gw
  dsimp only at gm gf gw
  have r1 := refus_c (F := F) hX w9 wB wN b3 bw hw30 gm1 (by omega) v
  have r2 : ∀ X1 : qH, shX X1 = Y → (∀ q : Nat, sz + 121 ≤ q → X1 q = X q) → fX10_minutesRefused F X1 (sz + 151) v = _ := fun X1 h1 h2 => refus_m (F := F) h1 wM (by rw [gi_congr (h2 _ (by omega))]; exact mw) hw30 (by rw [show ga X1 (sz + 151 + 5) = ga X (sz + 151 + 5) from ga_congr (h2 _ (by omega))]; exact gm) (by omega) v
  by_cases h : ((1 : Int32) ≤ v ∧ v ≤ 99) ∧ w ≠ 0 ∧ mi ≤ 90000
  · rw [if_pos h.1, if_neg h.2.1, if_pos h.2.2] at r1
    obtain ⟨k, hk, rfl⟩ := nI_of2 (M := 99) (n := 99) (by decide) (fun q => i_nle.mpr q (show (0 : Int32) ≤ v from by
      have h1 := h.1.1
      rw [Int32.le_iff_toInt_le] at h1 ⊢
      rw [Int32.toInt_one] at h1
      rw [Int32.toInt_zero]; omega)) h.1.2
    obtain ⟨s, hs, es⟩ := nI_of (i_nlt.mpr rS.2)
    obtain ⟨Xp, a1, a2, a3, a4⟩ := done_op (F := F) hF hX hW hRl
    obtain ⟨T, hT0, hT, hTs, hTb⟩ : ∃ T : Nat → Nat × Nat × Nat × Nat, T 0 = (s, fo, wi, mi) ∧ (∀ k : Nat, T (k + 1) = (dr_s (T k).1, dr_f (T k).1 (T k).2.1, dr_w (T k).1 (T k).2.2.1, (T k).2.2.2 + 1)) ∧ (∀ k : Nat, (T k).1 < 2 ^ 31) ∧ ∀ k : Nat, (T k).1 < 2 ^ 31 ∧ (T k).2.1 ≤ 20 ∧ (T k).2.2.1 ≤ 10 ∧ (T k).2.2.2 = mi + k :=
      ⟨drN (s, fo, wi, mi), rfl, fun k => rfl, fun k => (drN_in (p := (s, fo, wi, mi)) hs hfo hwi k).1, drN_in (p := (s, fo, wi, mi)) hs hfo hwi⟩
    have i0 : dcI Xp Y sz (T 0) Xp := by
      rw [hT0]
      exact ⟨a2, fun _ _ _ => rfl, fun _ _ => rfl, fun _ _ => rfl, by rw [gi_congr (a3 _ (by omega))]; exact es, by rw [gi_congr (a3 _ (by omega))]; exact gf1, by rw [gi_congr (a3 _ (by omega))]; exact gw1, by rw [gi_congr (a3 _ (by omega))]; exact gm1, rfl⟩
    obtain ⟨X1, e1, i1⟩ := drift_c (F := F) (X0 := Xp) hT hTs hk w9 wN F 0 Xp (by omega) (by omega) i0
    obtain ⟨c1, c2, c3, c4, c5, c6, c7, c8, c9⟩ := id i1
    obtain ⟨Xr, b1, b2, b3', b4, b5⟩ := a4 X1 c1 (fun q z0 z1 => c2 q (by omega) (by omega)) (fun i hi => (c3 i hi).trans (gi_congr (a3 _ (by omega)) i)) (fun i hi => (c4 i hi).trans (gr_congr (a3 _ (by omega)) i))
    have ex : ∀ q : Nat, sz + 121 ≤ q → X1 q = X q := fun q hq => (c2 q (by omega) (by omega)).trans (a3 q (by omega))
    have e5 : ga Xr (sz + 151 + 5) = ga X (sz + 151 + 5) := ga_congr ((b3' _ (by omega) (by omega)).trans (ex _ (by omega)))
    have j0 : dmI Xr Y (sz + 151) (T 0) Xr := by
      rw [hT0]
      exact ⟨b2, fun _ _ _ => rfl, fun _ _ => rfl, by rw [b4 9 (by omega), ← rS.1]; exact es, by rw [e5]; exact gf, by rw [e5]; exact gw, by rw [e5]; exact gm, fun _ _ => rfl⟩
    obtain ⟨X2, e2, j1⟩ := drift_m (F := F) (X0 := Xr) hT hTs hk wM F 0 Xr (by omega) (by omega) j0
    obtain ⟨d1, d2, d3, d4, d5, d6, d7, d8⟩ := id j1
    have r2' := r2 _ c1 ex
    rw [if_pos h.1, if_neg h.2.1, if_pos h.2.2] at r2'
    obtain ⟨n1, n2, n3, n4⟩ := hTb k
    rw [show nI 0 = (0 : Int32) from rfl] at e1 e2
    generalize T k = P at n1 n2 n3 n4 c5 c6 c7 c8 d4 d5 d6 d7
    refine ⟨nI P.2.2.2, X1, X2, ?_, ?_, ?_⟩
    · simp only [fX9_drift, g9 w9, gN wN, hX, r1, if_true, Option.bind_some, a1, e1, c1, c8]
    · simp only [fX10_drift, gM wM, m5 wM, c1, r2', if_true, Option.bind_some, b1, e2, d1, d7]
    · have c14 : ∀ q : Nat, q < sz + 151 → X2 q = X1 q := fun q hq => (d2 q (by omega) (by omega)).trans (b3' q (by omega) (by omega))
      refine b5 X2 d1 (fun q z1 z2 => d2 q z1 (by omega)) d3 ?_ ⟨c', c8', by rw [d3 1 (by omega), b4 1 (by omega)]; exact mc', ⟨?_, ?_, ?_, fun t ht => ?_, ?_⟩, ⟨⟨P.2.2.2, by omega, d7⟩, ⟨P.2.1, n2, d5⟩, ⟨P.2.2.1, n3, d6⟩, fun t ht => ?_⟩⟩
      · show gi X2 sz 5 = gi X2 (sz + 151) 9 ∧ 0 ≤ gi X2 sz 5
        rw [gi_congr (c14 _ (by omega)), c5, d4]
        exact ⟨rfl, nI_pos' n1⟩
      · rw [gi_congr (c14 _ (by omega)), c8]; exact d7.symm
      · rw [gi_congr (c14 _ (by omega)), c6]; exact d5.symm
      · rw [gi_congr (c14 _ (by omega)), c7]; exact d6.symm
      · have ea : ∀ j : Nat, 1 ≤ j → j ≤ 4 → ga X2 (sz + 14 + j) = ga X (sz + 14 + j) := fun j j1 j4 => ga_congr ((c14 _ (by omega)).trans ((c2 _ (by omega) (by omega)).trans (a3 _ (by omega))))
        dsimp only
        rw [ea 1 (by omega) (by omega), ea 2 (by omega) (by omega), ea 3 (by omega) (by omega), ea 4 (by omega) (by omega), d8 _ (by omega), d8 _ (by omega), d8 _ (by omega), d8 _ (by omega), e5]
        exact hn.2.2.2.1 t ht
      · rw [gi_congr (c14 _ (by omega)), c9, gi_congr (a3 _ (by omega))]
        have hr := hn.2.2.2.2
        refine ⟨fun p q hp hq => ?_, hr.2.1, fun p q hp hq => ?_⟩
        · dsimp only
          rw [d8 _ (by omega), d8 _ (by omega), e5]
          exact hr.1 p q hp hq
        · dsimp only
          rw [d8 _ (by omega), e5]
          exact hr.2.2 p q hp hq
      · dsimp only
        rw [d8 _ (by omega), d8 _ (by omega), d8 _ (by omega), e5]
        exact g4 t ht
  · have r2' := r2 X hX (fun _ _ => rfl)
    have hne : ¬ (if (1 : Int32) ≤ v ∧ v ≤ 99 then (if w = 0 then (-1000000003 : Int32) else if mi ≤ 90000 then 0 else -1000000004) else -1000000002) = 0 := by
      by_cases q1 : (1 : Int32) ≤ v ∧ v ≤ 99
      · by_cases q2 : w = 0
        · simp only [if_pos q1, if_pos q2]; decide
        · by_cases q3 : mi ≤ 90000
          · exact absurd ⟨q1, q2, q3⟩ h
          · simp only [if_pos q1, if_neg q2, if_neg q3]; decide
      · simp only [if_neg q1]; decide
    generalize (if (1 : Int32) ≤ v ∧ v ≤ 99 then (if w = 0 then (-1000000003 : Int32) else if mi ≤ 90000 then 0 else -1000000004) else -1000000002) = R at r1 r2' hne
    refine ⟨R, X, X, ?_, ?_, hI⟩
    · simp only [fX9_drift, g9 w9, hX, r1, Option.bind_some, if_neg hne]
    · simp only [fX10_drift, gM wM, hX, r2', Option.bind_some, if_neg hne]
