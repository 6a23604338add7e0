/-! bay: the model takes what it read -/
section MTK
variable {F : Nat} {Y : qH} {m : Nat}
theorem YM.p1 (h : YM Y m) : Y (m + 1) = some (.inl (0, 8, .inl (fun _ => 0))) := h.2.1
theorem YM.p2 (h : YM Y m) : Y (m + 2) = some (.inl (0, 8, .inl (fun _ => 0))) := h.2.2.1
theorem YM.p3 (h : YM Y m) : Y (m + 3) = some (.inl (0, 8, .inl (fun _ => 0))) := h.2.2.2.1
theorem YM.p4 (h : YM Y m) : Y (m + 4) = some (.inl (0, 40, .inl (fun _ => 0))) := h.2.2.2.2.1
theorem upd_if (fn : Nat → Int32) (k : Nat) (v : Int32) (i : Nat) : upd fn k v i = if i = k then v else fn i := by
  by_cases y : i = k
  · subst y; rw [upd_self, if_pos rfl]
  · rw [upd_ne _ y, if_neg y]
theorem m_L63 (wM : YM Y m) : ∀ (n k : Nat) (X : qH), shX X = Y → k ≤ 43 → 43 - k < n → ∃ X2, fX10_takeRead_L63 F m n (nI k) X = some X2 ∧ shX X2 = Y ∧ (∀ q : Nat, q ≠ m + 5 → X2 q = X q) ∧ ∀ i : Nat, i < 43 → ga X2 (m + 5) i = if k ≤ i then 0 else ga X (m + 5) i := by
  intro n
  induction n with
  | zero => intro k X hX hk hn; omega
  | succ n ih =>
    intro k X hX hk hn
    show ∃ X2, fX10_takeRead_L63_B F m (fX10_takeRead_L63 F m n) (nI k) X = some X2 ∧ _
    unfold fX10_takeRead_L63_B
    by_cases z : k = 43
    · subst z
      refine ⟨X, by rw [if_pos (show (43 : Int32) ≤ nI 43 by decide)], hX, fun _ _ => rfl, fun i hi => by rw [if_neg (by omega)]⟩
    · have l3 : k < 43 := by omega
      have h3 : ¬ (43 : Int32) ≤ nI k := nI_ge (b := 43) l3 (by decide)
      obtain ⟨X2, i1, i2, i3, i5⟩ := ih (k + 1) (pA X (m + 5) k 0) (shX_pA hX wM.p5 _ _) (by omega) (by omega)
      refine ⟨X2, ?_, i2, fun q hq => (i3 q hq).trans (pA_ne hq), fun i hi => ?_⟩
      · simp only [if_neg h3, gM wM, sM wM, hX, Option.bind_some, l3, qlt, nI_1]
        exact i1
      · rw [i5 i hi, ga_pA_self hX wM.p5, upd_if]
        by_cases y : i = k
        · rw [if_neg (by omega), if_pos y, if_pos (by omega)]
        · rw [if_neg y]
          by_cases y2 : k ≤ i
          · rw [if_pos (by omega), if_pos y2]
          · rw [if_neg (by omega), if_neg y2]
def T121 (cnt : Nat) (ro : Nat → Nat) (i : Nat) : Int32 := if i < 11 then (if i - 3 < cnt then nI (ro (i - 3)) else 0) else -1
theorem m_L121 (wM : YM Y m) {cnt : Nat} {ro : Nat → Nat} (hc : cnt ≤ 8) : ∀ (n k : Nat) (X : qH), shX X = Y → gi X m 1 = nI cnt → (∀ g : Nat, g < cnt → ga X (m + 10) g = nI (ro g)) → k ≤ 8 → 8 - k < n → ∃ X2, fX10_takeRead_L121 F m n (nI k) X = some X2 ∧ shX X2 = Y ∧ (∀ q : Nat, q ≠ m + 5 → X2 q = X q) ∧ ∀ i : Nat, ga X2 (m + 5) i = if (3 + k ≤ i ∧ i < 11) ∨ (11 + k ≤ i ∧ i < 19) ∨ (19 + k ≤ i ∧ i < 27) then T121 cnt ro i else ga X (m + 5) i := by
  intro n
  induction n with
  | zero => intro k X hX h1 hr hk hn; omega
  | succ n ih =>
    intro k X hX h1 hr hk hn
    show ∃ X2, fX10_takeRead_L121_B F m (fX10_takeRead_L121 F m n) (nI k) X = some X2 ∧ _
    unfold fX10_takeRead_L121_B
    by_cases z : k = 8
    · subst z
      refine ⟨X, by rw [if_pos (show (8 : Int32) ≤ nI 8 by decide)], hX, fun _ _ => rfl, fun i => by rw [if_neg (by omega)]⟩
    · have l8 : k < 8 := by omega
      have h3 : ¬ (8 : Int32) ≤ nI k := nI_ge (b := 8) l8 (by decide)
      have hv : ((if gi X m 1 ≤ nI k then (some (0 : Int32)) else (some (ga X (m + 10) k))) : Option Int32) = some (T121 cnt ro (3 + k)) := by
        unfold T121
        rw [h1, if_pos (show 3 + k < 11 by omega), Nat.add_sub_cancel_left]
        by_cases y : k < cnt
        · rw [if_neg (nI_ge y (by omega)), if_pos y, hr k y]
        · rw [if_pos (nI_le (by omega) (by omega)), if_neg y]
      have a1 : (3 : Int32) + nI k = nI (3 + k) := by rw [show (3 : Int32) = nI 3 from rfl, nI_add]
      have a2 : (11 : Int32) + nI k = nI (11 + k) := by rw [show (11 : Int32) = nI 11 from rfl, nI_add]
      have a3 : (19 : Int32) + nI k = nI (19 + k) := by rw [show (19 : Int32) = nI 19 from rfl, nI_add]
      have b1 : 3 + k < 43 := by omega
      have b2 : 11 + k < 43 := by omega
      have b3 : 19 + k < 43 := by omega
      have s1 : shX (pA X (m + 5) (3 + k) (T121 cnt ro (3 + k))) = Y := shX_pA hX wM.p5 _ _
      have s2 : shX (pA (pA X (m + 5) (3 + k) (T121 cnt ro (3 + k))) (m + 5) (11 + k) (-1)) = Y := shX_pA s1 wM.p5 _ _
      have s3 : shX (pA (pA (pA X (m + 5) (3 + k) (T121 cnt ro (3 + k))) (m + 5) (11 + k) (-1)) (m + 5) (19 + k) (-1)) = Y := shX_pA s2 wM.p5 _ _
      obtain ⟨X2, i1, i2, i3, i5⟩ := ih (k + 1) _ s3 (by rw [gi_pA, gi_pA, gi_pA]; exact h1) (fun g hg => by rw [ga_pA_ne (by omega), ga_pA_ne (by omega), ga_pA_ne (by omega)]; exact hr g hg) (by omega) (by omega)
      refine ⟨X2, ?_, i2, fun q hq => (i3 q hq).trans ((pA_ne hq).trans ((pA_ne hq).trans (pA_ne hq))), fun i => ?_⟩
      · simp only [if_neg h3, gM wM, sM wM, hX, Option.bind_some, l8, hv, a1, a2, a3, b1, b2, b3, s1, s2, qlt, nI_1]
        exact i1
      · rw [i5 i, ga_pA_self s2 wM.p5, ga_pA_self s1 wM.p5, ga_pA_self hX wM.p5, upd_if, upd_if, upd_if]
        by_cases y : (3 + (k + 1) ≤ i ∧ i < 11) ∨ (11 + (k + 1) ≤ i ∧ i < 19) ∨ (19 + (k + 1) ≤ i ∧ i < 27)
        · rw [if_pos y, if_pos (by omega)]
        · rw [if_neg y]
          by_cases y1 : i = 19 + k
          · rw [if_pos y1, if_pos (by omega)]; unfold T121; rw [if_neg (by omega)]
          · rw [if_neg y1]
            by_cases y2 : i = 11 + k
            · rw [if_pos y2, if_pos (by omega)]; unfold T121; rw [if_neg (by omega)]
            · rw [if_neg y2]
              by_cases y3 : i = 3 + k
              · rw [if_pos y3, if_pos (by omega), y3]
              · rw [if_neg y3, if_neg (by omega)]
theorem m_L227 (wM : YM Y m) {g : Nat} (hg : g < 8) : ∀ (n k : Nat) (X : qH), shX X = Y → k ≤ 5 → 5 - k < n → ∃ X2, fX10_takeRead_L227 F m (nI g) n (nI k) X = some X2 ∧ shX X2 = Y ∧ (∀ q : Nat, q ≠ m + 4 → X2 q = X q) ∧ ∀ i : Nat, ga X2 (m + 4) i = if 5 * g + k ≤ i ∧ i < 5 * g + 5 then ga X (m + 12) i else ga X (m + 4) i := by
  intro n
  induction n with
  | zero => intro k X hX hk hn; omega
  | succ n ih =>
    intro k X hX hk hn
    show ∃ X2, fX10_takeRead_L227_B F m (nI g) (fX10_takeRead_L227 F m (nI g) n) (nI k) X = some X2 ∧ _
    unfold fX10_takeRead_L227_B
    by_cases z : k = 5
    · subst z
      refine ⟨X, by rw [if_pos (show (5 : Int32) ≤ nI 5 by decide)], hX, fun _ _ => rfl, fun i => by rw [if_neg (by omega)]⟩
    · have l5 : k < 5 := by omega
      have h3 : ¬ (5 : Int32) ≤ nI k := nI_ge (b := 5) l5 (by decide)
      have a1 : (5 : Int32) * nI g + nI k = nI (5 * g + k) := by rw [show (5 : Int32) = nI 5 from rfl, pk_mul, nI_add]
      have b1 : 5 * g + k < 40 := by omega
      obtain ⟨X2, i1, i2, i3, i5⟩ := ih (k + 1) (pA X (m + 4) (5 * g + k) (ga X (m + 12) (5 * g + k))) (shX_pA hX wM.p4 _ _) (by omega) (by omega)
      refine ⟨X2, ?_, i2, fun q hq => (i3 q hq).trans (pA_ne hq), fun i => ?_⟩
      · simp only [if_neg h3, gM wM, sM wM, hX, Option.bind_some, a1, b1, qlt, nI_1]
        exact i1
      · rw [i5 i, ga_pA_self hX wM.p4, upd_if, ga_pA_ne (by omega)]
        by_cases y : i = 5 * g + k
        · rw [if_neg (by omega), if_pos y, if_pos (by omega), y]
        · rw [if_neg y]
          by_cases y2 : 5 * g + k ≤ i ∧ i < 5 * g + 5
          · rw [if_pos (by omega), if_pos y2]
          · rw [if_neg (by omega), if_neg y2]
theorem m_L181 (wM : YM Y m) {cnt : Nat} (hc : cnt ≤ 8) (hF : 1000 ≤ F) : ∀ (n g : Nat) (X : qH), shX X = Y → gi X m 1 = nI cnt → g ≤ cnt → cnt - g < n → ∃ X2, fX10_takeRead_L181 F m n (nI g) X = some X2 ∧ shX X2 = Y ∧ (∀ q : Nat, q < m + 1 ∨ m + 5 ≤ q → X2 q = X q) ∧ (∀ i : Nat, ga X2 (m + 1) i = if g ≤ i ∧ i < cnt then ga X (m + 8) i else ga X (m + 1) i) ∧ (∀ i : Nat, ga X2 (m + 2) i = if g ≤ i ∧ i < cnt then ga X (m + 9) i else ga X (m + 2) i) ∧ (∀ i : Nat, ga X2 (m + 3) i = if g ≤ i ∧ i < cnt then ga X (m + 11) i else ga X (m + 3) i) ∧ ∀ i : Nat, ga X2 (m + 4) i = if 5 * g ≤ i ∧ i < 5 * cnt then ga X (m + 12) i else ga X (m + 4) i := by
  intro n
  induction n with
  | zero => intro g X hX h1 hk hn; omega
  | succ n ih =>
    intro g X hX h1 hk hn
    show ∃ X2, fX10_takeRead_L181_B F m (fX10_takeRead_L181 F m n) (nI g) X = some X2 ∧ _
    unfold fX10_takeRead_L181_B
    by_cases z : g = cnt
    · subst z
      refine ⟨X, ?_, hX, fun _ _ => rfl, fun i => by rw [if_neg (by omega)], fun i => by rw [if_neg (by omega)], fun i => by rw [if_neg (by omega)], fun i => by rw [if_neg (by omega)]⟩
      simp only [gM wM, hX, Option.bind_some, h1, if_pos (nI_le (Nat.le_refl g) (by omega))]
    · have lc : g < cnt := by omega
      have l8 : g < 8 := by omega
      have s1 : shX (pA X (m + 1) g (ga X (m + 8) g)) = Y := shX_pA hX wM.p1 _ _
      have s2 : shX (pA (pA X (m + 1) g (ga X (m + 8) g)) (m + 2) g (ga X (m + 9) g)) = Y := shX_pA s1 wM.p2 _ _
      have s3 : shX (pA (pA (pA X (m + 1) g (ga X (m + 8) g)) (m + 2) g (ga X (m + 9) g)) (m + 3) g (ga X (m + 11) g)) = Y := shX_pA s2 wM.p3 _ _
      have e9 : ga (pA X (m + 1) g (ga X (m + 8) g)) (m + 9) g = ga X (m + 9) g := by rw [ga_pA_ne (by omega)]
      have e11 : ga (pA (pA X (m + 1) g (ga X (m + 8) g)) (m + 2) g (ga X (m + 9) g)) (m + 11) g = ga X (m + 11) g := by rw [ga_pA_ne (by omega), ga_pA_ne (by omega)]
      obtain ⟨X62, j1, j2, j3, j4⟩ := m_L227 (F := F) wM l8 F 0 _ s3 (by omega) (by omega)
      rw [show nI 0 = (0 : Int32) from rfl] at j1
      have f62 : ∀ q : Nat, q < m + 1 ∨ m + 5 ≤ q → X62 q = X q := fun q hq => (j3 q (by omega)).trans ((pA_ne (by omega)).trans ((pA_ne (by omega)).trans (pA_ne (by omega))))
      obtain ⟨X2, i1, i2, i3, i4, i5, i6, i7⟩ := ih (g + 1) X62 j2 (by rw [gi_congr (f62 m (by omega))]; exact h1) (by omega) (by omega)
      have t1 : ∀ i : Nat, ga X62 (m + 1) i = if i = g then ga X (m + 8) g else ga X (m + 1) i := fun i => by
        rw [ga_congr (j3 (m + 1) (by omega)), ga_pA_ne (by omega), ga_pA_ne (by omega), ga_pA_self hX wM.p1, upd_if]
      have t2 : ∀ i : Nat, ga X62 (m + 2) i = if i = g then ga X (m + 9) g else ga X (m + 2) i := fun i => by
        rw [ga_congr (j3 (m + 2) (by omega)), ga_pA_ne (by omega), ga_pA_self s1 wM.p2, upd_if, ga_pA_ne (by omega)]
      have t3 : ∀ i : Nat, ga X62 (m + 3) i = if i = g then ga X (m + 11) g else ga X (m + 3) i := fun i => by
        rw [ga_congr (j3 (m + 3) (by omega)), ga_pA_self s2 wM.p3, upd_if, ga_pA_ne (by omega), ga_pA_ne (by omega)]
      have t4 : ∀ i : Nat, ga X62 (m + 4) i = if 5 * g ≤ i ∧ i < 5 * g + 5 then ga X (m + 12) i else ga X (m + 4) i := fun i => by
        rw [j4, Nat.add_zero, ga_pA_ne (by omega), ga_pA_ne (by omega), ga_pA_ne (by omega), ga_pA_ne (by omega), ga_pA_ne (by omega), ga_pA_ne (by omega)]
      refine ⟨X2, ?_, i2, fun q hq => (i3 q hq).trans (f62 q hq), fun i => ?_, fun i => ?_, fun i => ?_, fun i => ?_⟩
      · simp only [gM wM, sM wM, hX, Option.bind_some, h1, if_neg (nI_ge lc (by omega)), l8, s1, s2, s3, e9, e11, j1, qlt, nI_1]
        exact i1
      · rw [i4, t1, ga_congr (f62 (m + 8) (by omega))]
        by_cases y : i = g
        · rw [if_neg (by omega), if_pos y, if_pos (by omega), y]
        · rw [if_neg y]
          by_cases y2 : g ≤ i ∧ i < cnt
          · rw [if_pos (by omega), if_pos y2]
          · rw [if_neg (by omega), if_neg y2]
      · rw [i5, t2, ga_congr (f62 (m + 9) (by omega))]
        by_cases y : i = g
        · rw [if_neg (by omega), if_pos y, if_pos (by omega), y]
        · rw [if_neg y]
          by_cases y2 : g ≤ i ∧ i < cnt
          · rw [if_pos (by omega), if_pos y2]
          · rw [if_neg (by omega), if_neg y2]
      · rw [i6, t3, ga_congr (f62 (m + 11) (by omega))]
        by_cases y : i = g
        · rw [if_neg (by omega), if_pos y, if_pos (by omega), y]
        · rw [if_neg y]
          by_cases y2 : g ≤ i ∧ i < cnt
          · rw [if_pos (by omega), if_pos y2]
          · rw [if_neg (by omega), if_neg y2]
      · rw [i7, t4, ga_congr (f62 (m + 12) (by omega))]
        by_cases y : 5 * (g + 1) ≤ i ∧ i < 5 * cnt
        · rw [if_pos y, if_pos (by omega)]
        · rw [if_neg y]
          by_cases y2 : 5 * g ≤ i ∧ i < 5 * g + 5
          · rw [if_pos y2, if_pos (by omega)]
          · rw [if_neg y2, if_neg (by omega)]
theorem m5s (h : YM Y m) : (∀ X : qH, shX X = Y → ∀ x : Int32, qaS X 0 (m + 5) (0 : Int32) x = some (pA X (m + 5) 0 x)) ∧ (∀ X : qH, shX X = Y → ∀ x : Int32, qaS X 0 (m + 5) (1 : Int32) x = some (pA X (m + 5) 1 x)) :=
  ⟨fun X hX x => qaS_Y hX h.p5 (by decide) (j := 0) (by decide) x, fun X hX x => qaS_Y hX h.p5 (by decide) (j := 1) (by decide) x⟩
set_option maxHeartbeats 2000000 in
theorem m_take (wM : YM Y m) {X : qH} (hX : shX X = Y) {w fo wi cnt sm da : Nat} {hs hd : Bool} {ce po ro nn : Nat → Nat} {dd : Nat → Nat → Nat} (hM : PM X m w fo wi cnt sm da hs hd ce po ro nn dd) (hP : PP w fo wi cnt sm da hs hd ce po ro nn dd) (hF : 1000 ≤ F) :
    ∃ X2, fX10_takeRead F X m = some X2 ∧ shX X2 = Y ∧ (∀ q : Nat, q < m ∨ m + 6 ≤ q → X2 q = X q) ∧ (∀ k : Nat, k ≠ 0 → k ≠ 1 → k ≠ 6 → k ≠ 7 → gi X2 m k = gi X m k) ∧ (gi X2 m 0 = nI w ∧ gi X2 m 1 = nI cnt ∧ gi X2 m 6 = nI sm ∧ gi X2 m 7 = nI da) ∧
      (∀ i : Nat, i < 43 → ga X2 (m + 5) i = if i = 0 then nI fo else if i = 1 then (if w = 0 then 0 else nI wi - 5) else if 3 ≤ i ∧ i < 27 then T121 cnt ro i else 0) ∧
      ∀ g : Nat, g < cnt → ga X2 (m + 1) g = nI (ce g) ∧ ga X2 (m + 2) g = nI (po g) ∧ ga X2 (m + 3) g = nI (nn g) ∧ ∀ k : Nat, k < nn g → ga X2 (m + 4) (5 * g + k) = nI (dd g k) := by
  obtain ⟨⟨m0, m1, m2⟩, ⟨m17, m25, m26⟩, ⟨m13, m14⟩, mg⟩ := id hM
  obtain ⟨⟨pw, pf, pwi, pc, psm, pda⟩, pz, pn1, phs, phg, phi, phj⟩ := id hP
  have k3 : shX (pI X m 0 (nI w)) = Y := by simp only [kM wM, hX]
  have k5 : shX (pI (pI X m 0 (nI w)) m 1 (nI cnt)) = Y := by simp only [kM wM, k3]
  have k8 : shX (pI (pI (pI X m 0 (nI w)) m 1 (nI cnt)) m 6 (nI sm)) = Y := by simp only [kM wM, k5]
  have k11 : shX (pI (pI (pI (pI X m 0 (nI w)) m 1 (nI cnt)) m 6 (nI sm)) m 7 (nI da)) = Y := by simp only [kM wM, k8]
  have gv : ∀ j : Nat, gi (pI (pI (pI (pI X m 0 (nI w)) m 1 (nI cnt)) m 6 (nI sm)) m 7 (nI da)) m j = if j = 7 then nI da else if j = 6 then nI sm else if j = 1 then nI cnt else if j = 0 then nI w else gi X m j := fun j => by
    simp only [uM wM, k8, k5, k3, hX]
  have g3 : gi (pI X m 0 (nI w)) m 17 = nI cnt := by simp only [uM wM, hX]; exact m17
  have g5 : gi (pI (pI X m 0 (nI w)) m 1 (nI cnt)) m 25 = bI hs := by simp only [uM wM, k3, hX]; exact m25
  have g8 : gi (pI (pI (pI X m 0 (nI w)) m 1 (nI cnt)) m 6 (nI sm)) m 26 = bI hd := by simp only [uM wM, k5, k3, hX]; exact m26
  have e7 : ((if bI hs = (0 : Int32) then (some (2 : Int32)) else (some (ga (pI (pI X m 0 (nI w)) m 1 (nI cnt)) (m + 13) 0))) : Option Int32) = some (nI sm) := by
    cases hhs : hs with
    | true => rw [if_neg (by decide), ga_pI, ga_pI, m13 hhs]
    | false => rw [if_pos (by decide), phs.1 hhs]; rfl
  have e10 : ((if bI hd = (0 : Int32) then (some (10 : Int32)) else (some (ga (pI (pI (pI X m 0 (nI w)) m 1 (nI cnt)) m 6 (nI sm)) (m + 14) 0))) : Option Int32) = some (nI da) := by
    cases hhd : hd with
    | true => rw [if_neg (by decide), ga_pI, ga_pI, ga_pI, m14 hhd]
    | false => rw [if_pos (by decide), phs.2 hhd]; rfl
  have hXt : fX10_takeRead F X m = ((fX10_takeRead_L63 F m F (0 : Int32) (pI (pI (pI (pI X m 0 (nI w)) m 1 (nI cnt)) m 6 (nI sm)) m 7 (nI da))).bind fun X17 => (qgR X17 9 m 8).bind fun v18 => (qgR X17 9 m 16).bind fun v19 => (qaI X17 0 v19 (1 : Int32)).bind fun v20 => (qaS X17 0 v18 (0 : Int32) v20).bind fun X21 => (qgR X21 9 m 8).bind fun v22 => (qgI X21 9 m 0).bind fun v23 => (if v23 = (0 : Int32) then (some (0 : Int32)) else ((qgR X21 9 m 16).bind fun v65 => (qaI X21 0 v65 (2 : Int32)).bind fun v66 => some (v66 - (5 : Int32))) : Option Int32).bind fun v24 => (qaS X21 0 v22 (1 : Int32) v24).bind fun X25 => (fX10_takeRead_L121 F m F (0 : Int32) X25).bind fun X39 => (fX10_takeRead_L181 F m F (0 : Int32) X39).bind fun X64 => some X64) := by
    simp only [fX10_takeRead, gM wM, sM wM, m7 wM, hX, Option.bind_some, m0, k3, g3, k5, g5, e7, k8, g8, e10]
  have hfr : ∀ q : Nat, q ≠ m → pI (pI (pI (pI X m 0 (nI w)) m 1 (nI cnt)) m 6 (nI sm)) m 7 (nI da) q = X q := fun q hq => (pV_ne hq).trans ((pV_ne hq).trans ((pV_ne hq).trans (pV_ne hq)))
  generalize pI (pI (pI (pI X m 0 (nI w)) m 1 (nI cnt)) m 6 (nI sm)) m 7 (nI da) = X11 at k11 gv hXt hfr
  obtain ⟨X17, a1, a2, a3, a4⟩ := m_L63 (F := F) wM F 0 X11 k11 (by omega) (by omega)
  rw [show nI 0 = (0 : Int32) from rfl] at a1
  have f17 : ∀ q : Nat, q ≠ m → q ≠ m + 5 → X17 q = X q := fun q h1 h2 => (a3 q h2).trans (hfr q h1)
  have e71 : ga X17 (m + 7) 1 = nI fo := by rw [ga_congr (f17 _ (by omega) (by omega))]; exact m1
  have s21 : shX (pA X17 (m + 5) 0 (nI fo)) = Y := shX_pA a2 wM.p5 _ _
  have g21 : ∀ j : Nat, gi (pA X17 (m + 5) 0 (nI fo)) m j = gi X11 m j := fun j => by rw [gi_pA, gi_congr (a3 m (by omega))]
  have g0 : gi (pA X17 (m + 5) 0 (nI fo)) m 0 = nI w := by rw [g21, gv]; rfl
  have ev : ((if nI w = (0 : Int32) then (some (0 : Int32)) else (some (ga (pA X17 (m + 5) 0 (nI fo)) (m + 7) 2 - 5))) : Option Int32) = some (if w = 0 then 0 else nI wi - 5) := by
    by_cases y : w = 0
    · rw [if_pos y, if_pos (by rw [y]; rfl)]
    · rw [if_neg y, if_neg (nI_ne0 (by omega) (by omega)), ga_pA_ne (by omega), ga_congr (f17 _ (by omega) (by omega)), m2 y]
  have s25 : shX (pA (pA X17 (m + 5) 0 (nI fo)) (m + 5) 1 (if w = 0 then 0 else nI wi - 5)) = Y := shX_pA s21 wM.p5 _ _
  obtain ⟨X39, b1, b2, b3, b4⟩ := m_L121 (F := F) (cnt := cnt) (ro := ro) wM pc F 0 _ s25 (by rw [gi_pA, g21, gv]; rfl) (fun g hg => by rw [ga_pA_ne (by omega), ga_pA_ne (by omega), ga_congr (f17 _ (by omega) (by omega))]; exact (mg g hg).2.2.1) (by omega) (by omega)
  rw [show nI 0 = (0 : Int32) from rfl] at b1
  have f39 : ∀ q : Nat, q ≠ m → q ≠ m + 5 → X39 q = X q := fun q h1 h2 => (b3 q h2).trans ((pA_ne h2).trans ((pA_ne h2).trans (f17 q h1 h2)))
  have g39 : ∀ j : Nat, gi X39 m j = gi X11 m j := fun j => by rw [gi_congr (b3 m (by omega)), gi_pA, g21]
  obtain ⟨X64, c1, c2, c3, c4, c5, c6, c7⟩ := m_L181 (F := F) (cnt := cnt) wM pc hF F 0 X39 b2 (by rw [g39, gv]; rfl) (by omega) (by omega)
  rw [show nI 0 = (0 : Int32) from rfl] at c1
  have g64 : ∀ j : Nat, gi X64 m j = gi X11 m j := fun j => by rw [gi_congr (c3 m (by omega)), g39]
  refine ⟨X64, ?_, c2, fun q hq => (c3 q (by omega)).trans (f39 q (by omega) (by omega)), fun k k0 k1 k6 k7 => by rw [g64, gv, if_neg k7, if_neg k6, if_neg k1, if_neg k0], ⟨by rw [g64, gv]; rfl, by rw [g64, gv]; rfl, by rw [g64, gv]; rfl, by rw [g64, gv]; rfl⟩, fun i hi => ?_, fun g hg => ?_⟩
  · rw [hXt, a1]
    simp only [gM wM, sM wM, m7 wM, m5s wM, a2, Option.bind_some, e71, s21, g0, ev, b1, c1]
  · rw [ga_congr (c3 (m + 5) (by omega)), b4, ga_pA_self s21 wM.p5, ga_pA_self a2 wM.p5, upd_if, upd_if, a4 i hi, if_pos (Nat.zero_le i)]
    by_cases y : (3 + 0 ≤ i ∧ i < 11) ∨ (11 + 0 ≤ i ∧ i < 19) ∨ (19 + 0 ≤ i ∧ i < 27)
    · rw [if_pos y, if_neg (by omega), if_neg (by omega), if_pos (by omega)]
    · rw [if_neg y]
      by_cases y0 : i = 0
      · rw [if_neg (by omega), if_pos y0, if_pos y0]
      · by_cases y1 : i = 1
        · rw [if_pos y1, if_neg y0, if_pos y1]
        · rw [if_neg y1, if_neg y0, if_neg y0, if_neg y1, if_neg (by omega)]
  · have u := mg g hg
    refine ⟨by rw [c4, if_pos (by omega), ga_congr (f39 _ (by omega) (by omega))]; exact u.1, by rw [c5, if_pos (by omega), ga_congr (f39 _ (by omega) (by omega))]; exact u.2.1, by rw [c6, if_pos (by omega), ga_congr (f39 _ (by omega) (by omega))]; exact u.2.2.2.1, fun k hk => ?_⟩
    have := (phg g hg).2.2.2.1.2
    rw [c7, if_pos (by omega), ga_congr (f39 _ (by omega) (by omega))]
    exact u.2.2.2.2 k hk
end MTK
