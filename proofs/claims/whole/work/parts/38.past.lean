/-! loops in general; rows that are copied; push against remember; minute, fog, wind -/
theorem lpF {σ ρ : Type} (L : Nat → σ → Option ρ) (S : Nat → σ) (e : Nat) (r : ρ) (he : ∀ n : Nat, L (n + 1) (S e) = some r) (hs : ∀ n g : Nat, g < e → L (n + 1) (S g) = L n (S (g + 1))) : ∀ n g : Nat, g ≤ e → e - g < n → L n (S g) = some r := by
  intro n
  induction n with
  | zero => intro g hg hn; omega
  | succ n ih =>
    intro g hg hn
    by_cases q : g = e
    · subst q; exact he n
    · rw [hs n g (by omega)]
      exact ih (g + 1) (by omega) (by omega)
theorem lpP {σ ρ : Type} (L : Nat → σ → Option ρ) (P : σ → Prop) (Q : ρ → Prop) (m : σ → Nat) (h : ∀ (n : Nat) (s : σ), P s → (∃ r, L (n + 1) s = some r ∧ Q r) ∨ ∃ s2, L (n + 1) s = L n s2 ∧ P s2 ∧ m s2 < m s) : ∀ (n : Nat) (s : σ), P s → m s < n → ∃ r, L n s = some r ∧ Q r := by
  intro n
  induction n with
  | zero => intro s hp hn; omega
  | succ n ih =>
    intro s hp hn
    rcases h n s hp with ⟨r, e, q⟩ | ⟨s2, e, p2, m2⟩
    · exact ⟨r, e, q⟩
    · rw [e]; exact ih s2 p2 (by omega)
/-- behind k steps of a copy into the row tg, from its place off on -/
def cpI (X0 Y : qH) (tg off : Nat) (src : Nat → Int32) (k : Nat) (X : qH) : Prop := shX X = Y ∧ (∀ q : Nat, q ≠ tg → X q = X0 q) ∧ ∀ j : Nat, ga X tg j = if off ≤ j ∧ j < off + k then src (j - off) else ga X0 tg j
theorem cpy {L : Nat → Int32 → qH → Option qH} {X0 Y : qH} {tg off kd len v0 N : Nat} {src : Nat → Int32} (hT : Y tg = some (.inl (kd, len, .inl (fun _ => 0))))
    (he : ∀ (n : Nat) (X : qH), cpI X0 Y tg off src N X → L (n + 1) (nI (v0 + N)) X = some X)
    (hs : ∀ (n k : Nat) (X : qH), k < N → cpI X0 Y tg off src k X → L (n + 1) (nI (v0 + k)) X = L n (nI (v0 + k + 1)) (pA X tg (off + k) (src k))) (hX : shX X0 = Y) {n : Nat} (hn : N < n) : ∃ X2, L n (nI v0) X0 = some X2 ∧ cpI X0 Y tg off src N X2 := by
  have main : ∀ (n k : Nat) (X : qH), k ≤ N → N - k < n → cpI X0 Y tg off src k X → ∃ X2, L n (nI (v0 + k)) X = some X2 ∧ cpI X0 Y tg off src N X2 := by
    intro n
    induction n with
    | zero => intro k X hk hn; omega
    | succ n ih =>
      intro k X hk hn hc
      by_cases q : k = N
      · subst q; exact ⟨X, he n X hc, hc⟩
      · rw [hs n k X (by omega) hc]
        refine ih (k + 1) _ (by omega) (by omega) ⟨shX_pA hc.1 hT _ _, fun q hq => (pA_ne hq).trans (hc.2.1 q hq), fun j => ?_⟩
        rw [ga_pA_self hc.1 hT]
        by_cases z : j = off + k
        · subst z; rw [upd_self, if_pos (by omega), Nat.add_sub_cancel_left]
        · rw [upd_ne _ z, hc.2.2 j]
          by_cases w : off ≤ j ∧ j < off + k
          · rw [if_pos w, if_pos (by omega)]
          · rw [if_neg w, if_neg (by omega)]
  exact main n 0 X0 (by omega) (by omega) ⟨hX, fun _ _ => rfl, fun j => by rw [if_neg (by omega)]⟩
theorem YM.p5 {Y : qH} {m : Nat} (h : YM Y m) : Y (m + 5) = some (.inl (0, 43, .inl (fun _ => 0))) := h.2.2.2.2.2.1
theorem YM.p15 {Y : qH} {m : Nat} (h : YM Y m) : Y (m + 15) = some (.inl (0, 860, .inl (fun _ => 0))) := h.2.2.2.2.2.2.2.2.2.2.2.2.2.2.2.1
theorem YM.p25 {Y : qH} {m : Nat} (h : YM Y m) : Y (m + 25) = some (.inl (0, 88, .inl (fun _ => 0))) := h.2.2.2.2.2.2.2.2.2.2.2.2.2.2.2.2.2.2.2.2.2.2.2.2.2.1
/-- the model's now, at places that are written out -/
theorem m5 {Y : qH} {m : Nat} (h : YM Y m) : (∀ X : qH, shX X = Y → qaI X 0 (m + 5) (0 : Int32) = some (ga X (m + 5) 0)) ∧ (∀ X : qH, shX X = Y → qaI X 0 (m + 5) (1 : Int32) = some (ga X (m + 5) 1)) ∧ (∀ X : qH, shX X = Y → qaI X 0 (m + 5) (2 : Int32) = some (ga X (m + 5) 2)) ∧
    (∀ X : qH, shX X = Y → ∀ v : Int32, qaS X 0 (m + 5) (0 : Int32) v = some (pA X (m + 5) 0 v)) ∧ (∀ X : qH, shX X = Y → ∀ v : Int32, qaS X 0 (m + 5) (1 : Int32) v = some (pA X (m + 5) 1 v)) ∧ (∀ X : qH, shX X = Y → ∀ v : Int32, qaS X 0 (m + 5) (2 : Int32) v = some (pA X (m + 5) 2 v)) :=
  ⟨fun X hX => qaI_Y hX h.p5 (by decide) (j := 0) (by decide), fun X hX => qaI_Y hX h.p5 (by decide) (j := 1) (by decide), fun X hX => qaI_Y hX h.p5 (by decide) (j := 2) (by decide),
   fun X hX v => qaS_Y hX h.p5 (by decide) (j := 0) (by decide) v, fun X hX v => qaS_Y hX h.p5 (by decide) (j := 1) (by decide) v, fun X hX v => qaS_Y hX h.p5 (by decide) (j := 2) (by decide) v⟩
theorem NR.cp {X X2 : qH} {a a2 c : Nat} {g g2 : Nat → Int32} (h : NR X a g c) (c8 : c ≤ 8) (e0 : ∀ k : Nat, k < 4 → gi X2 a2 k = gi X a k) (e1 : ∀ j : Nat, 1 ≤ j → j ≤ 4 → ∀ h : Nat, h < 8 → ga X2 (a2 + j) h = ga X (a + j) h) (hg : ∀ k : Nat, k < 43 → g2 k = g k) : NR X2 a2 g2 c := by
  obtain ⟨h1, h2, h3, h4, h5, h6, h7⟩ := h
  refine ⟨by rw [e0 0 (by omega), hg 2 (by omega)]; exact h1, by rw [e0 1 (by omega), hg 0 (by omega)]; exact h2, by rw [e0 2 (by omega), hg 1 (by omega)]; exact h3, fun h hh => ?_, ?_⟩
  · obtain ⟨a1, a2, a3, a4⟩ := h4 h hh
    exact ⟨by rw [e1 1 (by omega) (by omega) h (by omega), hg (3 + h) (by omega)]; exact a1, by rw [e1 2 (by omega) (by omega) h (by omega), hg (11 + h) (by omega)]; exact a2, by rw [e1 3 (by omega) (by omega) h (by omega), hg (19 + h) (by omega)]; exact a3, by rw [e1 4 (by omega) (by omega) h (by omega), hg (27 + h) (by omega)]; exact a4⟩
  · rw [e0 3 (by omega)]
    refine ⟨fun p q hp hq => ?_, h6, fun p q hp hq => ?_⟩
    · dsimp only
      rw [hg (35 + p) (by omega), hg (35 + q) (by omega)]
      exact h5 p q hp hq
    · dsimp only
      rw [hg (35 + p) (by omega)]
      exact h7 p q hp hq
set_option maxHeartbeats 1000000 in
theorem push_ok {F : Nat} {X Y : qH} {sz cnt nx : Nat} (hX : shX X = Y) (hW : YW Y sz) (hF : 9 ≤ F) (h1 : gi X (sz + 19) 1 = nI nx) (h2 : gi X (sz + 19) 2 = nI cnt) (hn : nx < 20) (hc : cnt ≤ 20) :
    ∃ X1, fX5_push F X (sz + 19) (sz + 14) = some X1 ∧ shX X1 = Y ∧ (∀ q : Nat, q ≠ sz + 19 → q < sz + 19 + 2 + 5 * nx ∨ sz + 19 + 2 + 5 * nx + 5 ≤ q → X1 q = X q) ∧ gi X1 (sz + 19) 1 = nI (if nx = 19 then 0 else nx + 1) ∧ gi X1 (sz + 19) 2 = nI (if cnt = 20 then 20 else cnt + 1) ∧ (∀ k : Nat, k < 4 → gi X1 (sz + 19 + 2 + 5 * nx) k = gi X (sz + 14) k) ∧ ∀ j : Nat, 1 ≤ j → j ≤ 4 → ∀ h : Nat, h < 8 → ga X1 (sz + 19 + 2 + 5 * nx + j) h = ga X (sz + 14 + j) h := by
  obtain ⟨w9, -, -, -, wN, ⟨w5, ⟨f, hf, hf2⟩, wS⟩, -⟩ := id hW
  have er : qaR X (sz + 19 + 1) (nI nx) = some (sz + 19 + 2 + 5 * nx) := by
    rw [qaR_Y hX hf (by decide) hn]; exact hf2 nx hn
  obtain ⟨X4, b1, b2, b3, b4, b5⟩ := become_ok (F := F) hX (wS nx hn) wN (by omega) hF
  have e19 : X4 (sz + 19) = X (sz + 19) := b3 _ (by omega)
  have y1 : gi X4 (sz + 19) 1 = nI nx := by rw [gi_congr e19]; exact h1
  have y2 : gi X4 (sz + 19) 2 = nI cnt := by rw [gi_congr e19]; exact h2
  have ev : (if (20 : Int32) ≤ nI (nx + 1) then (some 0 : Option Int32) else some (nI (nx + 1))) = some (nI (if nx = 19 then 0 else nx + 1)) := by
    by_cases q : nx = 19
    · subst q; rw [if_pos (show (20 : Int32) ≤ nI (19 + 1) by decide), if_pos rfl]; rfl
    · rw [if_neg (show ¬ (20 : Int32) ≤ nI (nx + 1) from nI_ge (b := 20) (by omega) (by decide)), if_neg q]
  have ew : (if (20 : Int32) < nI (cnt + 1) then (20 : Int32) else nI (cnt + 1)) = nI (if cnt = 20 then 20 else cnt + 1) := by
    by_cases q : cnt = 20
    · subst q; rw [if_pos (show (20 : Int32) < nI (20 + 1) by decide), if_pos rfl]; rfl
    · rw [if_neg (show ¬ (20 : Int32) < nI (cnt + 1) from nI_nlt (a := 20) (by omega) (by decide)), if_neg q]
  generalize (if nx = 19 then 0 else nx + 1) = nx2 at ev ⊢
  generalize (if cnt = 20 then 20 else cnt + 1) = cn2 at ew ⊢
  have hX7 : shX (pI X4 (sz + 19) 1 (nI nx2)) = Y := by simp only [k5 w5, b2]
  have y3 : gi (pI X4 (sz + 19) 1 (nI nx2)) (sz + 19) 2 = nI cnt := by simp only [u5 w5, b2]; exact y2
  refine ⟨pI (pI X4 (sz + 19) 1 (nI nx2)) (sz + 19) 2 (nI cn2), ?_, by simp only [k5 w5, hX7], fun q hq hr => ?_, ?_, ?_, fun k hk => ?_, fun j j1 j4 h hh => ?_⟩
  · simp only [fX5_push, g5 w5, s5 w5, hX, h1, er, b1, b2, y1, nI_1, ev, Option.bind_some, hX7, y3, qlt, ew]
  · exact (pV_ne hq).trans ((pV_ne hq).trans (b3 q hr))
  · simp only [u5 w5, hX7, b2]; rfl
  · simp only [u5 w5, hX7, if_true]
  · rw [gi_pI_ne (by omega), gi_pI_ne (by omega)]; exact b4 k hk
  · rw [ga_pI, ga_pI]; exact b5 j j1 j4 h hh
set_option maxHeartbeats 1000000 in
theorem remember_a {F : Nat} {X Y : qH} {m cnt : Nat} (hX : shX X = Y) (hM : YM Y m) (hc : gi X m 27 = nI cnt) (h20 : cnt < 20) (hF : 1000 ≤ F) :
    ∃ X1, fX10_remember_L52 F m F (0 : Int32) X = some X1 ∧ cpI X Y (m + 15) (43 * cnt) (ga X (m + 5)) 43 X1 := by
  refine cpy (v0 := 0) (L := fX10_remember_L52 F m) hM.p15 (fun n X2 h => ?_) (fun n k X2 hk h => ?_) hX (by omega)
  · show fX10_remember_L52_B F m (fX10_remember_L52 F m n) (nI (0 + 43)) X2 = _
    unfold fX10_remember_L52_B
    rw [if_pos (show (43 : Int32) ≤ nI (0 + 43) by decide)]
  · show fX10_remember_L52_B F m (fX10_remember_L52 F m n) (nI (0 + k)) X2 = _
    unfold fX10_remember_L52_B
    obtain ⟨h1, h2, h3⟩ := h
    have e1 : gi X2 m 27 = nI cnt := by rw [gi_congr (h2 m (by omega))]; exact hc
    have e2 : ga X2 (m + 5) = ga X (m + 5) := ga_congr (h2 _ (by omega))
    have e3 : (43 : Int32) * nI cnt + nI k = nI (43 * cnt + k) := by rw [show (43 : Int32) = nI 43 from rfl, pk_mul, nI_add]
    have l1 : 43 * cnt + k < 860 := by omega
    rw [Nat.zero_add, if_neg (show ¬ (43 : Int32) ≤ nI k from nI_ge (b := 43) hk (by decide))]
    simp (maxDischargeDepth := 30) only [gM hM, sM hM, h1, Option.bind_some, e1, e2, e3, hk, l1, qlt, nI_1]
set_option maxHeartbeats 1000000 in
theorem remember_b {F : Nat} {X Y : qH} {m : Nat} (hX : shX X = Y) (hM : YM Y m) (hF : 1000 ≤ F) :
    ∃ X1, fX10_remember_L12 F m F (43 : Int32) X = some X1 ∧ cpI X Y (m + 15) 0 (fun k => ga X (m + 15) (43 + k)) 817 X1 := by
  refine cpy (v0 := 43) (L := fX10_remember_L12 F m) hM.p15 (fun n X2 h => ?_) (fun n k X2 hk h => ?_) hX (by omega)
  · show fX10_remember_L12_B F m (fX10_remember_L12 F m n) (nI (43 + 817)) X2 = _
    unfold fX10_remember_L12_B
    rw [if_pos (show (860 : Int32) ≤ nI (43 + 817) by decide)]
  · show fX10_remember_L12_B F m (fX10_remember_L12 F m n) (nI (43 + k)) X2 = _
    unfold fX10_remember_L12_B
    obtain ⟨h1, h2, h3⟩ := h
    have e2 : ga X2 (m + 15) (43 + k) = ga X (m + 15) (43 + k) := by rw [h3, if_neg (by omega)]
    have e3 : nI (43 + k) - (43 : Int32) = nI (0 + k) := by rw [show (43 : Int32) = nI 43 from rfl, pk_sub (by omega)]; congr 1; omega
    have l1 : 43 + k < 860 := by omega
    have l2 : 0 + k < 860 := by omega
    rw [if_neg (show ¬ (860 : Int32) ≤ nI (43 + k) from nI_ge (b := 860) l1 (by decide))]
    simp (maxDischargeDepth := 30) only [gM hM, sM hM, h1, Option.bind_some, e2, e3, l1, l2, qlt, nI_1]
set_option maxHeartbeats 1000000 in
theorem remember_ok {F : Nat} {X Y : qH} {m cnt : Nat} (hX : shX X = Y) (hM : YM Y m) (hc : gi X m 27 = nI cnt) (h20 : cnt ≤ 20) (hF : 1000 ≤ F) :
    ∃ X1, fX10_remember F X m = some X1 ∧ shX X1 = Y ∧ (∀ q : Nat, q ≠ m → q ≠ m + 15 → X1 q = X q) ∧ (∀ k : Nat, gi X1 m k = if k = 27 then nI (if cnt = 20 then 20 else cnt + 1) else gi X m k) ∧
      ∀ j k : Nat, k < 43 → j < (if cnt = 20 then 20 else cnt + 1) → ga X1 (m + 15) (43 * j + k) = if j + 1 = (if cnt = 20 then 20 else cnt + 1) then ga X (m + 5) k else ga X (m + 15) (43 * (j + (cnt + 1 - (if cnt = 20 then 20 else cnt + 1))) + k) := by
  by_cases q : cnt = 20
  · subst q
    simp only [if_true]
    obtain ⟨X3, a1, a2, a3, a4⟩ := remember_b (F := F) hX hM hF
    have y1 : gi X3 m 27 = nI 20 := by rw [gi_congr (a3 m (by omega))]; exact hc
    have hX4 : shX (pI X3 m 27 (nI 19)) = Y := by simp only [kM hM, a2]
    have y2 : gi (pI X3 m 27 (nI 19)) m 27 = nI 19 := by simp only [uM hM, a2, if_true]
    obtain ⟨X5, b1, b2, b3, b4⟩ := remember_a (F := F) hX4 hM y2 (by omega) hF
    have y3 : gi X5 m 27 = nI 19 := by rw [gi_congr (b3 m (by omega))]; exact y2
    have e19 : nI 20 - 1 = nI 19 := by decide
    have e20 : nI 19 + 1 = nI 20 := by decide
    refine ⟨pI X5 m 27 (nI 20), ?_, by simp only [kM hM, b2], fun z z1 z2 => ?_, fun k => ?_, fun j k hk hj => ?_⟩
    · simp only [fX10_remember, gM hM, sM hM, hX, hc, if_pos (show nI 20 = (20 : Int32) by decide), a1, a2, y1, e19, Option.bind_some, qlt, b1, b2, y3, e20]
    · exact (pV_ne z1).trans ((b3 z z2).trans ((pV_ne z1).trans (a3 z z2)))
    · simp only [uM hM, b2]
      by_cases w : k = 27
      · rw [if_pos w, if_pos w]
      · rw [if_neg w, if_neg w, gi_congr (b3 m (by omega))]
        simp only [uM hM, a2]
        rw [if_neg w, gi_congr (a3 m (by omega))]
    · rw [ga_pI, b4]
      by_cases w : j + 1 = 20
      · rw [if_pos w, if_pos (by omega), ga_pI, ga_congr (a3 (m + 5) (by omega))]
        exact congrArg (ga X (m + 5)) (by omega)
      · rw [if_neg w, if_neg (by omega), ga_pI, a4, if_pos (by omega)]
        exact congrArg (ga X (m + 15)) (by omega)
  · simp only [if_neg q]
    obtain ⟨X5, b1, b2, b3, b4⟩ := remember_a (F := F) hX hM hc (by omega) hF
    have y3 : gi X5 m 27 = nI cnt := by rw [gi_congr (b3 m (by omega))]; exact hc
    have n20 : ¬ nI cnt = (20 : Int32) := fun z => q ((nI_eq (b := 20) (by omega) (by decide)).mp z)
    refine ⟨pI X5 m 27 (nI (cnt + 1)), ?_, by simp only [kM hM, b2], fun z z1 z2 => ?_, fun k => ?_, fun j k hk hj => ?_⟩
    · simp only [fX10_remember, gM hM, sM hM, hX, hc, if_neg n20, Option.bind_some, qlt, b1, b2, y3, nI_1]
    · exact (pV_ne z1).trans (b3 z z2)
    · simp only [uM hM, b2]
      by_cases w : k = 27
      · rw [if_pos w, if_pos w]
      · rw [if_neg w, if_neg w, gi_congr (b3 m (by omega))]
    · rw [ga_pI, b4]
      by_cases w : j + 1 = cnt + 1
      · rw [if_pos w, if_pos (by omega)]
        exact congrArg (ga X (m + 5)) (by omega)
      · rw [if_neg w, if_neg (by omega)]
        exact congrArg (ga X (m + 15)) (by omega)
theorem IP.push {X X2 : qH} {sz c cnt nx : Nat} (c8 : c ≤ 8) (hc : gi X2 (sz + 151) 1 = nI c) (h20 : cnt ≤ 20) (hn : nx < 20)
    (old : ∀ j : Nat, j < cnt → NR X (sz + 19 + 2 + 5 * ((nx + 20 - cnt + j) % 20)) (fun k => ga X (sz + 151 + 15) (43 * j + k)) c ∧ GI (fun k => ga X (sz + 151 + 15) (43 * j + k)) c)
    (nw : NR X (sz + 14) (fun k => ga X (sz + 151 + 5) k) c) (ng : GI (fun k => ga X (sz + 151 + 5) k) c)
    (p1 : gi X2 (sz + 19) 1 = nI (if nx = 19 then 0 else nx + 1)) (p2 : gi X2 (sz + 19) 2 = nI (if cnt = 20 then 20 else cnt + 1)) (p3 : gi X2 (sz + 151) 27 = nI (if cnt = 20 then 20 else cnt + 1))
    (s0 : ∀ k : Nat, k < 4 → gi X2 (sz + 19 + 2 + 5 * nx) k = gi X (sz + 14) k) (s1 : ∀ j : Nat, 1 ≤ j → j ≤ 4 → ∀ h : Nat, h < 8 → ga X2 (sz + 19 + 2 + 5 * nx + j) h = ga X (sz + 14 + j) h)
    (oth : ∀ i : Nat, i < 20 → i ≠ nx → ∀ q : Nat, sz + 19 + 2 + 5 * i ≤ q → q < sz + 19 + 2 + 5 * i + 5 → X2 q = X q)
    (row : ∀ j k : Nat, k < 43 → j < (if cnt = 20 then 20 else cnt + 1) → ga X2 (sz + 151 + 15) (43 * j + k) = if j + 1 = (if cnt = 20 then 20 else cnt + 1) then ga X (sz + 151 + 5) k else ga X (sz + 151 + 15) (43 * (j + (cnt + 1 - (if cnt = 20 then 20 else cnt + 1))) + k)) : IP X2 sz := by
  have hC : ((if cnt = 20 then 20 else cnt + 1) = cnt + 1 ∧ cnt < 20) ∨ ((if cnt = 20 then 20 else cnt + 1) = 20 ∧ cnt = 20) := by
    by_cases q : cnt = 20
    · rw [if_pos q]; exact Or.inr ⟨rfl, q⟩
    · rw [if_neg q]; exact Or.inl ⟨rfl, by omega⟩
  have hN : ((if nx = 19 then 0 else nx + 1) = nx + 1 ∧ nx < 19) ∨ ((if nx = 19 then 0 else nx + 1) = 0 ∧ nx = 19) := by
    by_cases q : nx = 19
    · rw [if_pos q]; exact Or.inr ⟨rfl, q⟩
    · rw [if_neg q]; exact Or.inl ⟨rfl, by omega⟩
  generalize (if cnt = 20 then 20 else cnt + 1) = C2 at *
  generalize (if nx = 19 then 0 else nx + 1) = N2 at *
  refine ⟨c, C2, N2, c8, hc, by omega, by omega, p2, p1, p3, fun j hj => ?_⟩
  by_cases q : j + 1 = C2
  · have e : (N2 + 20 - C2 + j) % 20 = nx := by omega
    rw [e]
    have hg : ∀ k : Nat, k < 43 → (fun k => ga X2 (sz + 151 + 15) (43 * j + k)) k = (fun k => ga X (sz + 151 + 5) k) k := fun k hk => by
      dsimp only
      rw [row j k hk hj, if_pos q]
    exact ⟨nw.cp c8 s0 s1 hg, ng.c c8 hg⟩
  · have e : (N2 + 20 - C2 + j) % 20 = (nx + 20 - cnt + (j + (cnt + 1 - C2))) % 20 := by omega
    have hne : (nx + 20 - cnt + (j + (cnt + 1 - C2))) % 20 ≠ nx := by omega
    have ho := old (j + (cnt + 1 - C2)) (by omega)
    rw [e]
    have hg : ∀ k : Nat, k < 43 → (fun k => ga X2 (sz + 151 + 15) (43 * j + k)) k = (fun k => ga X (sz + 151 + 15) (43 * (j + (cnt + 1 - C2)) + k)) k := fun k hk => by
      dsimp only
      rw [row j k hk hj, if_neg q]
    exact ⟨ho.1.c c8 (fun q' u v => oth _ (Nat.mod_lt _ (by omega)) hne q' u v) hg, ho.2.c c8 hg⟩
set_option maxHeartbeats 1000000 in
/-- light, minute, fog, wind, drift: the past is kept, then now changes -/
theorem done_op {F : Nat} {X Y : qH} {sz : Nat} (hF : 300000 ≤ F) (hX : shX X = Y) (hW : YW Y sz) (hRl : Rel X sz) :
    ∃ Xp, fX5_push F X (sz + 19) (sz + 14) = some Xp ∧ shX Xp = Y ∧ (∀ q : Nat, q < sz + 19 ∨ sz + 121 ≤ q → Xp q = X q) ∧
      ∀ X1 : qH, shX X1 = Y → (∀ q : Nat, sz < q → q < sz + 14 ∨ sz + 19 ≤ q → X1 q = Xp q) → (∀ k : Nat, k ≠ 5 → gi X1 sz k = gi X sz k) → (∀ k : Nat, k ≠ 5 → gr X1 sz k = gr X sz k) →
        ∃ Xr, fX10_remember F X1 (sz + 151) = some Xr ∧ shX Xr = Y ∧ (∀ q : Nat, q ≠ sz + 151 → q ≠ sz + 166 → Xr q = X1 q) ∧ (∀ k : Nat, k ≠ 27 → gi Xr (sz + 151) k = gi X (sz + 151) k) ∧
          ∀ X2 : qH, shX X2 = Y → (∀ q : Nat, q ≠ sz + 151 → q ≠ sz + 156 → X2 q = Xr q) → (∀ k : Nat, k ≠ 9 → gi X2 (sz + 151) k = gi Xr (sz + 151) k) → ISd X2 sz → INw X2 sz → Inv X2 sz := by
  obtain ⟨rT, rF, rS, rB, rN, rP, rI, rD, rK⟩ := id hRl
  obtain ⟨c, cnt, nx, c8, mc, h20, hn, q2, q1, q3, old⟩ := id rP
  obtain ⟨c', c8', mc', nw, ng⟩ := id rN
  have hcc : c' = c := (nI_eq (by omega) (by omega)).mp (mc'.symm.trans mc)
  subst hcc
  have wM := hW.2.2.2.2.2.2.2.2.2.2.2
  obtain ⟨Xp, a1, a2, a3, a4, a5, a6, a7⟩ := push_ok (F := F) hX hW (by omega) q1 q2 hn h20
  refine ⟨Xp, a1, a2, fun q hq => a3 q (by omega) (by omega), fun X1 e1 e2 e3 e4 => ?_⟩
  have em : ∀ q : Nat, sz + 121 ≤ q → X1 q = X q := fun q hq => (e2 q (by omega) (by omega)).trans (a3 q (by omega) (by omega))
  have y3 : gi X1 (sz + 151) 27 = nI cnt := by rw [gi_congr (em _ (by omega))]; exact q3
  obtain ⟨Xr, b1, b2, b3, b4, b5⟩ := remember_ok (F := F) e1 wM y3 h20 (by omega)
  refine ⟨Xr, b1, b2, fun q z1 z2 => b3 q z1 z2, fun k hk => by rw [b4, if_neg hk, gi_congr (em _ (by omega))], fun X2 f1 f2 f3 hS hN => ⟨by rw [f1]; exact hW, ?_⟩⟩
  have sMk : ∀ k : Nat, k ≠ 9 → k ≠ 27 → gi X2 (sz + 151) k = gi X (sz + 151) k := fun k k9 k27 => by rw [f3 k k9, b4, if_neg k27, gi_congr (em _ (by omega))]
  have far : ∀ q : Nat, sz < q → q < sz + 14 ∨ sz + 121 ≤ q → q ≠ sz + 151 → q ≠ sz + 156 → q ≠ sz + 166 → X2 q = X q := fun q z0 z1 z2 z3 z4 => (f2 q z2 z3).trans ((b3 q z2 (by omega)).trans ((e2 q z0 (by omega)).trans (a3 q (by omega) (by omega))))
  obtain ⟨kT, kF, kS, kB, kN, kP, kI, kD, kK⟩ := keep (List.range' 14 107 ++ [156, 166]) [5] [9, 27] hRl (X2 := X2)
    (fun o ho a0 aM => by
      simp only [List.mem_append, List.mem_range'_1, List.mem_cons, List.not_mem_nil, or_false, not_or, not_and, Nat.not_lt] at ho
      exact far (sz + o) (by omega) (by omega) (by omega) (by omega) (by omega))
    (fun j hj => by
      rw [gi_congr ((f2 sz (by omega) (by omega)).trans (b3 sz (by omega) (by omega)))]
      exact e3 j (by simpa using hj))
    (fun j hj => by
      rw [gr_congr ((f2 sz (by omega) (by omega)).trans (b3 sz (by omega) (by omega)))]
      exact e4 j (by simpa using hj))
    (fun j hj => by
      simp only [List.mem_cons, List.not_mem_nil, or_false, not_or] at hj
      exact sMk j hj.1 hj.2)
  have past : ∀ q : Nat, sz + 19 ≤ q → q < sz + 121 → X2 q = Xp q := fun q z0 z1 => (f2 q (by omega) (by omega)).trans ((b3 q (by omega) (by omega)).trans (e2 q (by omega) (by omega)))
  refine ⟨kT (by decide), kF (by decide), hS, kB (by decide), hN, ?_, kI (by decide), kD (by decide), kK (by decide)⟩
  refine IP.push (X := X) c8 (by rw [sMk 1 (by omega) (by omega)]; exact mc) h20 hn old nw ng ?_ ?_ ?_ (fun k hk => ?_) (fun j j1 j4 h hh => ?_) (fun i hi hne q u v => ?_) (fun j k hk hj => ?_)
  · rw [gi_congr (past _ (by omega) (by omega))]; exact a4
  · rw [gi_congr (past _ (by omega) (by omega))]; exact a5
  · rw [f3 27 (by omega), b4, if_pos rfl]
  · rw [gi_congr (past _ (by omega) (by omega))]; exact a6 k hk
  · rw [ga_congr (past _ (by omega) (by omega))]; exact a7 j j1 j4 h hh
  · rw [past q (by omega) (by omega)]; exact a3 q (by omega) (by omega)
  · rw [show ga X2 (sz + 151 + 15) = ga Xr (sz + 151 + 15) from ga_congr (f2 _ (by omega) (by omega)), b5 j k hk hj, show ga X1 (sz + 151 + 5) = ga X (sz + 151 + 5) from ga_congr (em _ (by omega)), show ga X1 (sz + 151 + 15) = ga X (sz + 151 + 15) from ga_congr (em _ (by omega))]
