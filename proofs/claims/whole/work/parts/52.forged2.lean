/-! forged, the operation -/
theorem figuresOf_t {F : Nat} {X Y : qH} {m n : Nat} {e : Nat → Nat} (hX : shX X = Y) (wM : YM Y m) (n1 : 1 ≤ n) (n5 : n ≤ 5) (he : ∀ i : Nat, i < n → 1 ≤ e i ∧ e i ≤ 5) (hF : 100 ≤ F) : ∃ X2, fX10_figuresOf F X m (nI (stN e n)) = some (nI n, X2) ∧ shX X2 = Y ∧ (∀ q : Nat, q ≠ m + 17 → X2 q = X q) ∧ ∀ i : Nat, i < n → ga X2 (m + 17) i = nI (e i) := by
  have hlt := stN_lt5 (d := e) (n := n) (fun i hi => (he i hi).2) n5
  have h4 := figs4_L (F := F) (X := X) (a := m) (v := nI (stN e n)) 10 F (stN e n) 0 (by omega) (by omega) (by omega)
  rw [ndF_stN 10 n (by omega) he, Nat.zero_add, show nI 0 = (0 : Int32) from rfl] at h4
  obtain ⟨X2, k1, k2, k3, k4⟩ := figs38_t (F := F) (v5 := nI n) wM n F X n5 (by omega) he hX
  refine ⟨X2, ?_, k2, k3, fun i hi => by rw [k4, if_pos hi]⟩
  have hpos : 1 ≤ stN e n := by
    obtain ⟨n', rfl⟩ : ∃ q, n = q + 1 := ⟨n - 1, by omega⟩
    have := he n' (by omega)
    rw [stN]; omega
  simp only [fX10_figuresOf, gM wM, hX, h4, Option.bind_some, if_neg (show ¬ nI (stN e n) < (1 : Int32) from nI_nlt (b := 1) hpos (by omega)), if_pos (show nI n ≤ (5 : Int32) from nI_le (b := 5) n5 (by omega)), qlt, k1, qsm1]
theorem figuresOf_f {F : Nat} {X Y : qH} {m N : Nat} (hX : shX X = Y) (wM : YM Y m) (h31 : N < 2 ^ 31) (hno : ¬ (1 ≤ N ∧ N ≤ 99999 ∧ okD 5 N = true)) (hF : 100 ≤ F) : ∃ X2, fX10_figuresOf F X m (nI N) = some (-1, X2) ∧ shX X2 = Y ∧ (∀ q : Nat, q ≠ m + 17 → X2 q = X q) := by
  have h4 := figs4_L (F := F) (X := X) (a := m) (v := nI N) 10 F N 0 h31 (by omega) (by omega)
  rw [Nat.zero_add, show nI 0 = (0 : Int32) from rfl] at h4
  by_cases z : N < 1
  · refine ⟨X, ?_, hX, fun _ _ => rfl⟩
    simp only [fX10_figuresOf, gM wM, hX, h4, Option.bind_some, if_pos (show nI N < (1 : Int32) from nI_lt (b := 1) z (by omega))]
  · have hn1 : ¬ nI N < (1 : Int32) := nI_nlt (b := 1) (by omega) h31
    have h10 := ndF_le 10 10 N (by omega)
    by_cases z2 : N ≤ 99999
    · have hnd := ndF_le 10 5 N (by omega)
      have hok : okD 10 N = false := by
        cases hk : okD 10 N with
        | false => rfl
        | true =>
          obtain ⟨n, e, n10, he, hN⟩ := okD_rep 10 N hk
          have h1 := ndF_stN 10 n n10 he
          rw [← hN] at h1
          have h2 := okD_stN 5 n (by omega) he
          rw [← hN] at h2
          exact absurd ⟨by omega, z2, h2⟩ hno
      have hlt : N < 10 ^ ndF 10 N := by
        by_cases y : N < 10 ^ ndF 10 N
        · exact y
        · have := ndF_ge 10 (ndF 10 N) N (by omega) (by omega)
          omega
      obtain ⟨X2, k1, k2, k3⟩ := figs38_f (F := F) (v5 := nI (ndF 10 N)) wM (ndF 10 N) F N 10 X hnd (by omega) h31 hlt h10 rfl hok hX
      refine ⟨X2, ?_, k2, k3⟩
      simp only [fX10_figuresOf, gM wM, hX, h4, Option.bind_some, if_neg hn1, if_pos (show nI (ndF 10 N) ≤ (5 : Int32) from nI_le (b := 5) hnd (by omega)), qlt, k1, qsm1]
    · have hnd := ndF_ge 10 5 N (by omega) (by omega)
      refine ⟨X, ?_, hX, fun _ _ => rfl⟩
      simp only [fX10_figuresOf, gM wM, hX, h4, Option.bind_some, if_neg hn1, if_neg (show ¬ nI (ndF 10 N) ≤ (5 : Int32) from nI_ge (a := 5) hnd (by omega))]
theorem figuresOf_n {F : Nat} {X Y : qH} {m : Nat} {v : Int32} (hX : shX X = Y) (wM : YM Y m) (hv : v ≤ 0) (hF : 100 ≤ F) : fX10_figuresOf F X m v = some (-1, X) := by
  obtain ⟨F', rfl⟩ : ∃ q, F = q + 1 := ⟨F - 1, by omega⟩
  have h4 : fX10_figuresOf_L4 (F' + 1) X m v (F' + 1) (0 : Int32) v = some 0 := by
    show fX10_figuresOf_L4_B (F' + 1) X m v (fX10_figuresOf_L4 (F' + 1) X m v F') 0 v = _
    unfold fX10_figuresOf_L4_B
    rw [if_pos hv]
  have hv1 : v < 1 := by
    rw [Int32.le_iff_toInt_le, Int32.toInt_zero] at hv
    rw [Int32.lt_iff_toInt_lt, Int32.toInt_one]
    omega
  simp only [fX10_figuresOf, gM wM, hX, h4, Option.bind_some, if_pos hv1]
def ulD (d : Nat → Nat) (n i : Nat) : Nat := if i < n then d i else 0
def ulP (d e : Nat → Nat) (nd ne i : Nat) : Bool := decide (ulD d nd i ≠ ulD e ne i)
theorem rv_mod {d : Nat → Nat} {n i : Nat} (hd : ∀ k : Nat, k < n → 1 ≤ d k ∧ d k ≤ 5) : stN (rvF d n) (n - i) % 10 = ulD d n i ∧ stN (rvF d n) (n - i) / 10 = stN (rvF d n) (n - (i + 1)) := by
  unfold ulD
  by_cases z : i < n
  · obtain ⟨k, hk⟩ : ∃ k, n - i = k + 1 := ⟨n - i - 1, by omega⟩
    have h1 := hd i z
    have e : rvF d n k = d i := congrArg d (by omega)
    rw [hk, show n - (i + 1) = k by omega, stN, e, if_pos z]
    omega
  · rw [show n - i = 0 by omega, show n - (i + 1) = 0 by omega, stN, if_neg z]
    exact ⟨rfl, rfl⟩
theorem unlike_ok {F : Nat} {X : qH} {d e : Nat → Nat} {nd ne : Nat} (hd : ∀ i : Nat, i < nd → 1 ≤ d i ∧ d i ≤ 5) (hnd : nd ≤ 5) (he : ∀ i : Nat, i < ne → 1 ≤ e i ∧ e i ≤ 5) (hne : ne ≤ 5) (hF : 100 ≤ F) : fX8_unlike F X (nI (stN d nd)) (nI (stN e ne)) = some (nI (akF (ulP d e nd ne) 5)) := by
  have f1 := fromTheEnd_ok (F := F) (X := X) hd hnd (by omega)
  have f2 := fromTheEnd_ok (F := F) (X := X) he hne (by omega)
  have b1 : ∀ k : Nat, k ≤ nd → stN (rvF d nd) k < 100000 := fun k hk => stN_lt5 (fun i hi => (hd (nd - 1 - i) (by omega)).2) (by omega)
  have b2 : ∀ k : Nat, k ≤ ne → stN (rvF e ne) k < 100000 := fun k hk => stN_lt5 (fun i hi => (he (ne - 1 - i) (by omega)).2) (by omega)
  have L := lpF (fun n (s : Int32 × Int32 × Int32 × Int32) => fX8_unlike_L16 F X n s.1 s.2.1 s.2.2.1 s.2.2.2) (fun g => (nI (stN (rvF d nd) (nd - g)), nI (stN (rvF e ne) (ne - g)), nI (akF (ulP d e nd ne) g), nI g)) 5 (nI (akF (ulP d e nd ne) 5))
    (fun n => by
      show fX8_unlike_L16_B F X (fX8_unlike_L16 F X n) _ _ _ (nI 5) = _
      unfold fX8_unlike_L16_B
      rw [if_pos (show (5 : Int32) ≤ nI 5 by decide)])
    (fun n g hg => by
      show fX8_unlike_L16_B F X (fX8_unlike_L16 F X n) (nI (stN (rvF d nd) (nd - g))) (nI (stN (rvF e ne) (ne - g))) (nI (akF (ulP d e nd ne) g)) (nI g) = fX8_unlike_L16 F X n (nI (stN (rvF d nd) (nd - (g + 1)))) (nI (stN (rvF e ne) (ne - (g + 1)))) (nI (akF (ulP d e nd ne) (g + 1))) (nI (g + 1))
      unfold fX8_unlike_L16_B
      have h1 := b1 (nd - g) (by omega)
      have h2 := b2 (ne - g) (by omega)
      obtain ⟨r1, r2⟩ := rv_mod (i := g) hd
      obtain ⟨r3, r4⟩ := rv_mod (i := g) he
      have m1 := Nat.mod_lt (stN (rvF d nd) (nd - g)) (show 0 < 10 by omega)
      have m2 := Nat.mod_lt (stN (rvF e ne) (ne - g)) (show 0 < 10 by omega)
      rw [if_neg (show ¬ (5 : Int32) ≤ nI g from nI_ge (b := 5) hg (by omega)), i_div10 (by omega), i_rem10 (by omega), i_div10 (by omega), i_rem10 (by omega), r1, r2, r3, r4, akF]
      rw [r1] at m1
      rw [r3] at m2
      have hq := nI_eq (show ulD d nd g < 2 ^ 31 by omega) (show ulD e ne g < 2 ^ 31 by omega)
      by_cases z : ulD d nd g = ulD e ne g
      · rw [if_neg (show ¬ ulP d e nd ne g = true from fun y => (of_decide_eq_true y) z)]
        simp only [hq, if_pos z, Option.bind_some, qlt, nI_1]
        rfl
      · rw [if_pos (show ulP d e nd ne g = true from decide_eq_true z)]
        simp only [hq, if_neg z, Option.bind_some, qlt, nI_1]) F 0 (by omega) (by omega)
  dsimp only at L
  rw [Nat.sub_zero, Nat.sub_zero, akF, show nI 0 = (0 : Int32) from rfl] at L
  simp only [fX8_unlike, f1, f2, L, Option.bind_some]
def pwF (a k : Nat) : Nat := 9 ^ a * 10 ^ (9 - k)
theorem pw_all : ∀ a k : Fin 6, od 90 (pwF a.val k.val) = pwF (a.val + 1) (k.val + 1) ∧ od 10 (pwF a.val k.val) = pwF a.val (k.val + 1) ∧ (a.val ≤ k.val → pwF a.val k.val ≤ 1000000000) := by decide +kernel
theorem pw_c1 : ∀ a : Fin 6, odI 90 a.val 1000000000 = pwF a.val a.val := by decide +kernel
theorem pw_c2 : ∀ a u : Fin 6, a.val + u.val ≤ 5 → odI 10 u.val (pwF a.val a.val) = pwF a.val (a.val + u.val) := by decide +kernel
theorem Inv.fig {X X2 : qH} {sz : Nat} (hI : Inv X sz) (h1 : shX X2 = shX X) (h2 : ∀ q : Nat, q ≠ sz + 151 + 17 → X2 q = X q) : Inv X2 sz := by
  obtain ⟨hW, hRl⟩ := hI
  obtain ⟨kT, kF, kS, kB, kN, kP, kI, kD, kK⟩ := keep [168] [] [] hRl (X2 := X2)
    (fun o ho a0 aM => h2 _ (by simp only [List.mem_cons, List.not_mem_nil, or_false] at ho; omega))
    (fun j hj => gi_congr (h2 _ (by omega)) j) (fun j hj => gr_congr (h2 _ (by omega)) j) (fun j hj => gi_congr (h2 _ (by omega)) j)
  exact ⟨by rw [h1]; exact hW, kT (by decide), kF (by decide), kS (by decide), kB (by decide), kN (by decide), kP (by decide), kI (by decide), kD (by decide), kK (by decide)⟩
set_option maxHeartbeats 1000000 in
theorem forged_L {F : Nat} {X Y : qH} {m h n nd : Nat} {d e : Nat → Nat} {w3 : Int32} (hX : shX X = Y) (wM : YM Y m) (hh : h < 8) (hn : ga X (m + 3) h = nI nd) (hnd : 1 ≤ nd ∧ nd ≤ 5) (hd : ∀ k : Nat, k < nd → ga X (m + 4) (5 * h + k) = nI (d k) ∧ 1 ≤ d k ∧ d k ≤ 5) (n5 : 1 ≤ n ∧ n ≤ 5) (he : ∀ i : Nat, i < n → 1 ≤ e i ∧ e i ≤ 5) (hfg : ∀ i : Nat, i < n → ga X (m + 17) i = nI (e i)) (hF : 100 ≤ F) {pl : Nat} (hpl : pl = if n ≤ nd then nd else n) :
    fX10_forged_L71 F X m (nI h) w3 (nI n) (nI pl) F (0 : Int32) (1000000000 : Int64) (0 : Int32) = some (nI (akF (ulP d e nd n) pl), lN (pwF (pl - akF (ulP d e nd n) pl) pl)) := by
  have hp5 : pl ≤ 5 := by rw [hpl]; split <;> omega
  have L := lpF (fun t (s : Int32 × Int64 × Int32) => fX10_forged_L71 F X m (nI h) w3 (nI n) (nI pl) t s.1 s.2.1 s.2.2) (fun g => (nI (akF (ulP d e nd n) g), lN (pwF (g - akF (ulP d e nd n) g) g), nI g)) pl (nI (akF (ulP d e nd n) pl), lN (pwF (pl - akF (ulP d e nd n) pl) pl))
    (fun t => by
      show fX10_forged_L71_B F X m (nI h) w3 (nI n) (nI pl) (fX10_forged_L71 F X m (nI h) w3 (nI n) (nI pl) t) _ _ (nI pl) = _
      unfold fX10_forged_L71_B
      rw [if_pos (nI_le (Nat.le_refl pl) (by omega))])
    (fun t g hg => by
      show fX10_forged_L71_B F X m (nI h) w3 (nI n) (nI pl) (fX10_forged_L71 F X m (nI h) w3 (nI n) (nI pl) t) (nI (akF (ulP d e nd n) g)) (lN (pwF (g - akF (ulP d e nd n) g) g)) (nI g) = fX10_forged_L71 F X m (nI h) w3 (nI n) (nI pl) t (nI (akF (ulP d e nd n) (g + 1))) (lN (pwF (g + 1 - akF (ulP d e nd n) (g + 1)) (g + 1))) (nI (g + 1))
      unfold fX10_forged_L71_B
      have hal := akF_le (ulP d e nd n) g
      rw [akF]
      have hcase : (ulP d e nd n g = false ∧ g < n ∧ g < nd ∧ e g = d g) ∨ (ulP d e nd n g = true ∧ (n ≤ g ∨ (g < n ∧ nd ≤ g) ∨ (g < n ∧ g < nd ∧ e g ≠ d g))) := by
        have hor : g < n ∨ g < nd := by rw [hpl] at hg; split at hg <;> omega
        by_cases z1 : g < n
        · by_cases z2 : g < nd
          · by_cases z3 : e g = d g
            · exact Or.inl ⟨decide_eq_false (fun y => y (by unfold ulD; rw [if_pos z1, if_pos z2, z3])), z1, z2, z3⟩
            · exact Or.inr ⟨decide_eq_true (by unfold ulD; rw [if_pos z1, if_pos z2]; exact fun y => z3 y.symm), Or.inr (Or.inr ⟨z1, z2, z3⟩)⟩
          · have := he g z1
            exact Or.inr ⟨decide_eq_true (by unfold ulD; rw [if_pos z1, if_neg z2]; omega), Or.inr (Or.inl ⟨z1, by omega⟩)⟩
        · have z2 : g < nd := by omega
          have := (hd g z2).2
          exact Or.inr ⟨decide_eq_true (by unfold ulD; rw [if_neg z1, if_pos z2]; omega), Or.inl (by omega)⟩
      generalize akF (ulP d e nd n) g = u at hal
      obtain ⟨w1, w2, w4⟩ := pw_all ⟨g - u, by omega⟩ ⟨g, by omega⟩
      dsimp only at w1 w2 w4
      have o90 := od_L (p := 90) (x := pwF (g - u) g) (by omega) (w4 (by omega))
      have o10 := od_L (p := 10) (x := pwF (g - u) g) (by omega) (w4 (by omega))
      rw [w1, show nI 90 = (90 : Int32) from rfl] at o90
      rw [w2, show nI 10 = (10 : Int32) from rfl] at o10
      rw [if_neg (nI_ge hg (by omega))]
      rcases hcase with ⟨hu, z1, z2, z3⟩ | ⟨hu, hz⟩
      · have l5 : g < 5 := by omega
        have e5 : (5 : Int32) * nI h + nI g = nI (5 * h + g) := by rw [show (5 : Int32) = nI 5 from rfl, pk_mul, nI_add]
        have l40 : 5 * h + g < 40 := by omega
        rw [hu, if_neg (show ¬ (false = true) by decide), Nat.add_zero, show g + 1 - u = g - u + 1 by omega]
        simp only [if_neg (nI_ge z1 (by omega)), gM wM, hX, Option.bind_some, hh, hn, if_neg (nI_ge z2 (by omega)), l5, hfg g z1, e5, l40, (hd g z2).1, z3, if_true, if_neg (show ¬ (1 : Int32) = 0 by decide), qlt, Int32.add_zero, o90, nI_1]
      · rw [hu, if_pos rfl, show g + 1 - (u + 1) = g - u by omega]
        rcases hz with z1 | ⟨z1, z2⟩ | ⟨z1, z2, z3⟩
        · simp only [if_pos (nI_le z1 (by omega)), Option.bind_some, if_true, qlt, nI_1, o10]
        · simp only [if_neg (nI_ge z1 (by omega)), gM wM, hX, Option.bind_some, hh, hn, if_pos (nI_le z2 (by omega)), if_true, qlt, nI_1, o10]
        · have l5 : g < 5 := by omega
          have e5 : (5 : Int32) * nI h + nI g = nI (5 * h + g) := by rw [show (5 : Int32) = nI 5 from rfl, pk_mul, nI_add]
          have l40 : 5 * h + g < 40 := by omega
          have b1 := he g z1
          have b2 := (hd g z2).2
          have hq := nI_eq (show e g < 2 ^ 31 by omega) (show d g < 2 ^ 31 by omega)
          simp only [if_neg (nI_ge z1 (by omega)), gM wM, hX, Option.bind_some, hh, hn, if_neg (nI_ge z2 (by omega)), l5, hfg g z1, e5, l40, (hd g z2).1, hq, if_neg z3, if_true, qlt, nI_1, o10]) F 0 (by omega) (by omega)
  dsimp only at L
  rw [akF, show pwF (0 - 0) 0 = 1000000000 by decide +kernel, show lN 1000000000 = (1000000000 : Int64) from rfl, show nI 0 = (0 : Int32) from rfl] at L
  exact L
set_option maxHeartbeats 1000000 in
theorem op_forged {F : Nat} {X : qH} {sz : Nat} (hI : Inv X sz) (hF : 300000 ≤ F) (v u t : Int32) : ∃ (r : Int32) (X2 : qH), fX9_forged F X sz v u t = some r ∧ fX10_forged F X (sz + 151) v u t = some (r, X2) ∧ Inv X2 sz := by
  obtain ⟨hW, hRl⟩ := id hI
  obtain ⟨rT, rF, rS, rB, rN, rP, rI, rD, rK⟩ := id hRl
  generalize hX : shX X = Y at hW
  obtain ⟨w9, -, -, -, wN, -, -, -, -, w2, w1, wM⟩ := id hW
  obtain ⟨b, w, c, ce, po, nn, dd, hb, wB⟩ := rB.get hX hW
  obtain ⟨⟨b3, -⟩, ⟨-, -, hw30⟩, ⟨bc, mc, c8, -⟩, -, -, hs, -⟩ := hb
  have hh1 := has_ok (F := F) hX wB v
  have hh2 := isHouse_ok (F := F) hX wM mc c8 v
  rw [bc] at hh1
  have hin := fun X => l_in F X t 0 1 (l := 0) (h := 1) rfl rfl
  have fig : ∀ X2 : qH, shX X2 = Y → (∀ q : Nat, q ≠ sz + 151 + 17 → X2 q = X q) → Inv X2 sz := fun X2 k1 k2 => hI.fig (k1.trans hX.symm) k2
  by_cases hok : 0 ≤ v ∧ v < nI c
  · rw [if_pos hok] at hh1 hh2
    obtain ⟨h, hl, rfl⟩ := nI_of (i_nlt.mpr hok.1)
    have hc := (nI_ltI hl (by omega)).mp hok.2
    have l8 : h < 8 := by omega
    obtain ⟨-, -, ⟨s1, s2, s3, s4⟩, s5⟩ := hs h hc
    by_cases hu : u ≤ 0
    · have e1 : fX8_areStars F X u = some 0 := by
        unfold fX8_areStars
        rw [if_pos (show u < 1 by
          rw [Int32.le_iff_toInt_le, Int32.toInt_zero] at hu
          rw [Int32.lt_iff_toInt_lt, Int32.toInt_one]
          omega)]
      refine ⟨-1000000002, X, ?_, ?_, hI⟩
      · simp only [fX9_forged, g9 w9, hX, Option.bind_some, b3, hh1, if_neg (show ¬ (1 : Int32) = 0 by decide), e1, if_true]
      · simp only [fX10_forged, gM wM, hX, Option.bind_some, hh2, if_neg (show ¬ (1 : Int32) = 0 by decide), figuresOf_n (F := F) hX wM hu (by omega), qb2, if_pos (show (-1 : Int32) < 0 by decide)]
    obtain ⟨N, hN, rfl⟩ := nI_of (show ¬ u < 0 from fun y => hu (by
      rw [Int32.lt_iff_toInt_lt, Int32.toInt_zero] at y
      rw [Int32.le_iff_toInt_le, Int32.toInt_zero]
      omega))
    have as := areStars_ok (F := F) (X := X) hN (by omega)
    by_cases hst : 1 ≤ N ∧ N ≤ 99999 ∧ okD 5 N = true
    · rw [if_pos hst] at as
      obtain ⟨n, e, n5, he, rfl⟩ := okD_rep 5 N hst.2.2
      have n1 : 1 ≤ n := by
        rcases Nat.eq_zero_or_pos n with z | z
        · subst z
          have := hst.1
          rw [stN] at this
          omega
        · exact z
      obtain ⟨X3, k1, k2, k3, k4⟩ := figuresOf_t (F := F) hX wM n1 n5 he (by omega)
      by_cases ht : 0 ≤ t ∧ t ≤ 1
      · have un := unlike_ok (F := F) (X := X) (d := dd h) (e := e) (fun i hi => (s5 i hi).2) s3 he n5 (by omega)
        have cn1 := count_ok (F := F) (X := X) (fun i hi => (s5 i hi).2) s3 (by omega)
        have cn2 := count_ok (F := F) (X := X) he n5 (by omega)
        have ea : ∀ j : Nat, j ≤ 4 → ga X3 (sz + 151 + j) = ga X (sz + 151 + j) := fun j hj => ga_congr (k3 _ (by omega))
        have m3 : ga X3 (sz + 151 + 3) h = nI (nn h) := by rw [ea 3 (by omega)]; exact s1
        have fl := forged_L (F := F) (w3 := t) k2 wM l8 m3 ⟨s2, s3⟩ (fun k hk => by rw [ea 4 (by omega)]; exact s5 k hk) ⟨n1, n5⟩ he k4 (by omega) rfl
        have hple : (if n ≤ nn h then nn h else n) ≤ 5 := by split <;> omega
        have hplv : (if nI n ≤ nI (nn h) then nI (nn h) else nI n) = nI (if n ≤ nn h then nn h else n) := by
          by_cases z : n ≤ nn h
          · rw [if_pos z, if_pos (nI_le z (by omega))]
          · rw [if_neg z, if_neg (nI_ge (by omega) (by omega))]
        have hplc : (if nI (nn h) < nI n then nI n else nI (nn h)) = nI (if n ≤ nn h then nn h else n) := by
          by_cases z : n ≤ nn h
          · rw [if_pos z, if_neg (nI_nlt z (by omega))]
          · rw [if_neg z, if_pos (nI_lt (by omega) (by omega))]
        have hu5 : akF (ulP (dd h) e (nn h) n) 5 = akF (ulP (dd h) e (nn h) n) (if n ≤ nn h then nn h else n) := by
          obtain ⟨k, hk⟩ : ∃ k, 5 = (if n ≤ nn h then nn h else n) + k := ⟨5 - (if n ≤ nn h then nn h else n), by omega⟩
          have hz : akF (fun i => ulP (dd h) e (nn h) n ((if n ≤ nn h then nn h else n) + i)) k = 0 := akF_none k (fun i hi => decide_eq_false (fun y => y (by
            unfold ulD
            rw [if_neg (by split <;> omega), if_neg (by split <;> omega)])))
          have := akF_split (ulP (dd h) e (nn h) n) (if n ≤ nn h then nn h else n) k
          rw [← hk, hz] at this
          exact this
        rw [hu5] at un
        have hule := akF_le (ulP (dd h) e (nn h) n) (if n ≤ nn h then nn h else n)
        generalize (if n ≤ nn h then nn h else n) = pl at *
        generalize akF (ulP (dd h) e (nn h) n) pl = U at *
        have t0 : ¬ t < 0 := i_nlt.mpr ht.1
        by_cases t1 : t = 0
        · refine ⟨nI U, X3, ?_, ?_, fig X3 k2 k3⟩
          · simp only [fX9_forged, g9 w9, gB wB, hX, Option.bind_some, b3, hh1, if_neg (show ¬ (1 : Int32) = 0 by decide), as, if_neg t0, if_pos ht.2, l8, s4, un, if_pos t1]
          · simp only [fX10_forged, gM wM, hX, k2, Option.bind_some, hh2, if_neg (show ¬ (1 : Int32) = 0 by decide), k1, qb2, if_neg (nI_pos (show n < 2 ^ 31 by omega)), hin, if_pos ht, l8, m3, some_ite, hplv, fl, if_pos t1]
        · have c1 := cutOdds_ok (F := F) (X := X) (p := 90) (x := 1000000000) (t := pl - U) (by omega) (by omega) (by omega) (by omega)
          rw [show odI 90 (pl - U) 1000000000 = pwF (pl - U) (pl - U) from pw_c1 ⟨pl - U, by omega⟩, show nI 1000000000 = (1000000000 : Int32) from rfl, show nI 90 = (90 : Int32) from rfl] at c1
          have c2 := cutOdds_ok (F := F) (X := X) (p := 10) (x := pwF (pl - U) (pl - U)) (t := U) (by omega) ((pw_all ⟨pl - U, by omega⟩ ⟨pl - U, by omega⟩).2.2 (Nat.le_refl _)) (by omega) (by omega)
          have e2 := pw_c2 ⟨pl - U, by omega⟩ ⟨U, by omega⟩ (show pl - U + U ≤ 5 by omega)
          dsimp only at e2
          rw [e2, show pl - U + U = pl by omega, show nI 10 = (10 : Int32) from rfl] at c2
          refine ⟨nI (pwF (pl - U) pl), X3, ?_, ?_, fig X3 k2 k3⟩
          · simp only [fX9_forged, g9 w9, gB wB, hX, Option.bind_some, b3, hh1, if_neg (show ¬ (1 : Int32) = 0 by decide), as, if_neg t0, if_pos ht.2, l8, s4, un, if_neg t1, cn1, cn2, qlt, hplc, pk_sub hule, c1, c2]
          · simp only [fX10_forged, gM wM, hX, k2, Option.bind_some, hh2, if_neg (show ¬ (1 : Int32) = 0 by decide), k1, qb2, if_neg (nI_pos (show n < 2 ^ 31 by omega)), hin, if_pos ht, l8, m3, some_ite, hplv, fl, if_neg t1, lN_i]
      · refine ⟨-1000000002, X3, ?_, ?_, fig X3 k2 k3⟩
        · simp only [fX9_forged, g9 w9, hX, Option.bind_some, b3, hh1, if_neg (show ¬ (1 : Int32) = 0 by decide), as]
          by_cases t0 : t < 0
          · rw [if_pos t0]
          · rw [if_neg t0, if_neg (fun y => ht ⟨i_nlt.mp t0, y⟩)]
        · simp only [fX10_forged, gM wM, hX, k2, Option.bind_some, hh2, if_neg (show ¬ (1 : Int32) = 0 by decide), k1, qb2, if_neg (nI_pos (show n < 2 ^ 31 by omega)), hin, if_neg ht, if_true]
    · rw [if_neg hst] at as
      obtain ⟨X3, k1, k2, k3⟩ := figuresOf_f (F := F) hX wM hN hst (by omega)
      refine ⟨-1000000002, X3, ?_, ?_, fig X3 k2 k3⟩
      · simp only [fX9_forged, g9 w9, hX, Option.bind_some, b3, hh1, if_neg (show ¬ (1 : Int32) = 0 by decide), as, if_true]
      · simp only [fX10_forged, gM wM, hX, Option.bind_some, hh2, if_neg (show ¬ (1 : Int32) = 0 by decide), k1, qb2, if_pos (show (-1 : Int32) < 0 by decide)]
  · rw [if_neg hok] at hh1 hh2
    refine ⟨-1000000001, X, ?_, ?_, hI⟩
    · simp only [fX9_forged, g9 w9, hX, Option.bind_some, b3, hh1, if_true]
    · simp only [fX10_forged, gM wM, hX, Option.bind_some, hh2, if_true]
