/-! bay: areLike, takeStars -/
section RDM
variable {F : Nat} {X Y : qH} {m N p : Nat} {tx : Nat → Nat}
theorem areLike_0 (wM : YM Y m) (hX : shX X = Y) {g1 g2 n : Nat} (l1 : g1 < 8) (hn : ga X (m + 11) g1 = nI n ∧ n ≤ 5) : ∀ (t k : Nat), k ≤ n → n - k < t → fX10_areLike_L24 F X m (nI g1) (nI g2) t 0 (nI k) = some 0 := by
  intro t
  induction t with
  | zero => intro k hk ht; omega
  | succ t ih =>
    intro k hk ht
    have n5 := hn.2
    show fX10_areLike_L24_B F X m (nI g1) (nI g2) (fX10_areLike_L24 F X m (nI g1) (nI g2) t) 0 (nI k) = _
    unfold fX10_areLike_L24_B
    by_cases z : k = n
    · subst z
      simp only [gM wM, hX, Option.bind_some, l1, hn.1, if_pos (nI_le (Nat.le_refl k) (by omega))]
    · simp only [gM wM, hX, Option.bind_some, l1, hn.1, if_neg (nI_ge (show k < n by omega) (by omega)), if_true, qlt, nI_1]
      exact ih (k + 1) (by omega) (by omega)
theorem areLike_1 (wM : YM Y m) (hX : shX X = Y) {g1 g2 n : Nat} {d e : Nat → Nat} (l1 : g1 < 8) (l2 : g2 < 8) (hn : ga X (m + 11) g1 = nI n ∧ n ≤ 5) (hd : ∀ k : Nat, k < n → ga X (m + 12) (5 * g1 + k) = nI (d k) ∧ 1 ≤ d k ∧ d k ≤ 5) (he : ∀ k : Nat, k < n → ga X (m + 12) (5 * g2 + k) = nI (e k) ∧ 1 ≤ e k ∧ e k ≤ 5) :
    ∀ (t k : Nat), k ≤ n → n - k < t → ((∀ i : Nat, k ≤ i → i < n → d i = e i) → fX10_areLike_L24 F X m (nI g1) (nI g2) t 1 (nI k) = some 1) ∧ (¬ (∀ i : Nat, k ≤ i → i < n → d i = e i) → fX10_areLike_L24 F X m (nI g1) (nI g2) t 1 (nI k) = some 0) := by
  intro t
  induction t with
  | zero => intro k hk ht; omega
  | succ t ih =>
    intro k hk ht
    have n5 := hn.2
    rw [show fX10_areLike_L24 F X m (nI g1) (nI g2) (t + 1) 1 (nI k) = fX10_areLike_L24_B F X m (nI g1) (nI g2) (fX10_areLike_L24 F X m (nI g1) (nI g2) t) 1 (nI k) from rfl]
    unfold fX10_areLike_L24_B
    by_cases z : k = n
    · subst z
      refine ⟨fun _ => ?_, fun q => absurd (fun i a b => by omega) q⟩
      simp only [gM wM, hX, Option.bind_some, l1, hn.1, if_pos (nI_le (Nat.le_refl k) (by omega))]
    · have hlt : k < n := by omega
      have d1 := hd k hlt
      have d2 := he k hlt
      have i1 : (5 : Int32) * nI g1 + nI k = nI (5 * g1 + k) := by rw [show (5 : Int32) = nI 5 from rfl, pk_mul, nI_add]
      have i2 : (5 : Int32) * nI g2 + nI k = nI (5 * g2 + k) := by rw [show (5 : Int32) = nI 5 from rfl, pk_mul, nI_add]
      have b1 : 5 * g1 + k < 40 := by omega
      have b2 : 5 * g2 + k < 40 := by omega
      have z0 := areLike_0 (F := F) (g2 := g2) wM hX l1 hn t (k + 1) (by omega) (by omega)
      simp only [gM wM, hX, Option.bind_some, l1, hn.1, if_neg (nI_ge hlt (by omega)), if_neg (show ¬ (1 : Int32) = 0 by decide), i1, i2, b1, b2, d1.1, d2.1, nI_eq (show d k < 2 ^ 31 by omega) (show e k < 2 ^ 31 by omega), qlt, nI_1, some_ite]
      by_cases q : d k = e k
      · rw [if_pos q]
        have hh := ih (k + 1) (by omega) (by omega)
        refine ⟨fun a => hh.1 (fun i x y => a i (by omega) y), fun a => hh.2 (fun y => a (fun i x u => ?_))⟩
        by_cases w : i = k
        · subst w; exact q
        · exact y i (by omega) u
      · rw [if_neg q]
        exact ⟨fun a => absurd (a k (Nat.le_refl k) hlt) q, fun _ => z0⟩
theorem areLike_ok (wM : YM Y m) (hX : shX X = Y) {g1 g2 n1 n2 : Nat} {d e : Nat → Nat} (l1 : g1 < 8) (l2 : g2 < 8) (hn : ga X (m + 11) g1 = nI n1 ∧ n1 ≤ 5) (hn2 : ga X (m + 11) g2 = nI n2 ∧ n2 ≤ 5) (hd : ∀ k : Nat, k < n1 → ga X (m + 12) (5 * g1 + k) = nI (d k) ∧ 1 ≤ d k ∧ d k ≤ 5) (he : ∀ k : Nat, k < n2 → ga X (m + 12) (5 * g2 + k) = nI (e k) ∧ 1 ≤ e k ∧ e k ≤ 5) (hF : 10 ≤ F) :
    fX10_areLike F X m (nI g1) (nI g2) = some (if stN d n1 = stN e n2 then 1 else 0) := by
  have b1 := hn.2
  have b2 := hn2.2
  have hinj := stN_inj (d := d) (e := e) n1 n2 (fun i hi => (hd i hi).2) (fun i hi => (he i hi).2)
  by_cases q : n1 = n2
  · subst q
    have hL := areLike_1 (F := F) wM hX l1 l2 hn hd he F 0 (by omega) (by omega)
    rw [show nI 0 = (0 : Int32) from rfl] at hL
    by_cases z : stN d n1 = stN e n1
    · have k := hL.1 (fun i _ hi => (hinj z).2 i hi)
      rw [if_pos z]
      simp only [fX10_areLike, gM wM, hX, Option.bind_some, l1, l2, hn.1, hn2.1, if_true, k, qz1]
    · have k := hL.2 (fun a => z (stN_congr n1 (fun i hi => a i (by omega) hi)))
      rw [if_neg z]
      simp only [fX10_areLike, gM wM, hX, Option.bind_some, l1, l2, hn.1, hn2.1, if_true, k, qz0]
  · rw [if_neg (fun z => q (hinj z).1)]
    have k := areLike_0 (F := F) (g2 := g2) wM hX l1 hn F 0 (by omega) (by omega)
    rw [show nI 0 = (0 : Int32) from rfl] at k
    simp only [fX10_areLike, gM wM, hX, Option.bind_some, l1, l2, hn.1, hn2.1, if_neg (fun z => q ((nI_eq (by omega) (by omega)).mp z)), k, qz0]
theorem stars130 (wM : YM Y m) (hX : shX X = Y) {h n fr : Nat} {d nn : Nat → Nat} {dd : Nat → Nat → Nat} (hh : h < 8) (hn : ga X (m + 11) h = nI n ∧ n ≤ 5) (hd : ∀ k : Nat, k < n → ga X (m + 12) (5 * h + k) = nI (d k) ∧ 1 ≤ d k ∧ d k ≤ 5) (hpic : ∀ g : Nat, g < h → (ga X (m + 11) g = nI (nn g) ∧ nn g ≤ 5) ∧ ∀ k : Nat, k < nn g → ga X (m + 12) (5 * g + k) = nI (dd g k) ∧ 1 ≤ dd g k ∧ dd g k ≤ 5) (hij : ∀ x y : Nat, x < h → y < h → stN (dd x) (nn x) = stN (dd y) (nn y) → x = y) (hF : 10 ≤ F) :
    ∀ (t k : Nat), k ≤ h → h - k < t → (∀ i : Nat, i < k → stN (dd i) (nn i) ≠ stN d n) → (lsF (fun g => stN (dd g) (nn g)) (stN d n) h = -1 → fX10_takeStars_L130 F m (nI h) (nI fr) t 0 (nI k) X = some (0, X)) ∧ (lsF (fun g => stN (dd g) (nn g)) (stN d n) h ≠ -1 → fX10_takeStars_L130 F m (nI h) (nI fr) t 0 (nI k) X = some (4, pI X m 12 (nI fr))) := by
  intro t
  induction t with
  | zero => intro k hk ht; omega
  | succ t ih =>
    intro k hk ht hno
    rw [show fX10_takeStars_L130 F m (nI h) (nI fr) (t + 1) 0 (nI k) X = fX10_takeStars_L130_B F m (nI h) (nI fr) (fX10_takeStars_L130 F m (nI h) (nI fr) t) 0 (nI k) X from rfl]
    unfold fX10_takeStars_L130_B
    by_cases z : k = h
    · subst z
      refine ⟨fun _ => ?_, fun y => absurd (lsF_none k hno) y⟩
      rw [if_pos (nI_le (Nat.le_refl k) (by omega))]
    · have hlt : k < h := by omega
      obtain ⟨p1, p2⟩ := hpic k hlt
      have al := areLike_ok (F := F) wM hX hh (show k < 8 by omega) hn p1 hd p2 hF
      by_cases q : stN d n = stN (dd k) (nn k)
      · rw [if_pos q] at al
        have hhit := lsF_hit (ce := fun g => stN (dd g) (nn g)) (p := stN d n) h hij hlt q.symm
        have hne : lsF (fun g => stN (dd g) (nn g)) (stN d n) h ≠ -1 := by rw [hhit]; exact nI_m1 (by omega)
        refine ⟨fun y => absurd y hne, fun _ => ?_⟩
        obtain ⟨f1, f2, f3⟩ := m_fails (F := F) wM hX (4 : Int32) (nI fr)
        have z4 : fX10_takeStars_L130 F m (nI h) (nI fr) t 4 (nI (k + 1)) (pI X m 12 (nI fr)) = some (4, pI X m 12 (nI fr)) := by
          obtain ⟨t', rfl⟩ : ∃ y, t = y + 1 := ⟨t - 1, by omega⟩
          show fX10_takeStars_L130_B F m (nI h) (nI fr) (fX10_takeStars_L130 F m (nI h) (nI fr) t') 4 (nI (k + 1)) _ = _
          unfold fX10_takeStars_L130_B
          simp only [if_neg (show ¬ (4 : Int32) = 0 by decide), ite_self]
        simp only [if_neg (nI_ge hlt (by omega)), if_true, al, Option.bind_some, if_neg (show ¬ (1 : Int32) = 0 by decide), f1, qb2, qlt, nI_1, z4]
      · rw [if_neg q] at al
        have i1 := ih (k + 1) (by omega) (by omega) (fun i hi => by
          by_cases y : i = k
          · subst y; exact fun w => q w.symm
          · exact hno i (by omega))
        simp only [if_neg (nI_ge hlt (by omega)), if_true, al, Option.bind_some, qb2, qlt, nI_1]
        exact i1
set_option maxHeartbeats 1000000 in
theorem m_stars (wM : YM Y m) (hX : shX X = Y) (hT : MT X m N tx) (hp : gi X m 13 = nI p) (hpN : p ≤ N) {h : Nat} {nn : Nat → Nat} {dd : Nat → Nat → Nat} (hh : h < 8) (hpic : ∀ g : Nat, g < h → (ga X (m + 11) g = nI (nn g) ∧ nn g ≤ 5) ∧ ∀ k : Nat, k < nn g → ga X (m + 12) (5 * g + k) = nI (dd g k) ∧ 1 ≤ dd g k ∧ dd g k ≤ 5) (hij : ∀ x y : Nat, x < h → y < h → stN (dd x) (nn x) = stN (dd y) (nn y) → x = y) (hF : 1000 ≤ F) :
    ∃ X2, fX10_takeStars F X m (nI h) = some (nI (ssF tx N h (fun g => stN (dd g) (nn g)) p), X2) ∧ shX X2 = Y ∧ (∀ y : Nat, y ≠ m → y ≠ m + 11 → y ≠ m + 12 → X2 y = X y) ∧ (∀ k : Nat, k ≠ 12 → k ≠ 13 → gi X2 m k = gi X m k) ∧
      (ssF tx N h (fun g => stN (dd g) (nn g)) p = 0 → gi X2 m 12 = gi X m 12 ∧ gi X2 m 13 = nI (sk tx N p + snN tx N p) ∧ (∀ i : Nat, ga X2 (m + 11) i = if i = h then nI (snN tx N p) else ga X (m + 11) i) ∧ ∀ i : Nat, ga X2 (m + 12) i = if 5 * h ≤ i ∧ i < 5 * h + snN tx N p then nI (sdF tx (sk tx N p) (i - 5 * h)) else ga X (m + 12) i) ∧
      (ssF tx N h (fun g => stN (dd g) (nn g)) p ≠ 0 → gi X2 m 12 = nI (ssP tx N p)) := by
  obtain ⟨X2, k1, k2, k3⟩ := m_here (F := F) wM hX hT hp hpN hF
  have hsk := sk_in (tx := tx) _ p rfl hpN
  have hN := hT.2.1
  have hT2 := hT.s k2 (by decide)
  have hin := l_in F X2 (hvI tx N p) 97 101 (l := 97) (h := 101) rfl rfl
  have hsn : rn tx N 97 101 (sk tx N p) = snN tx N p := rfl
  unfold ssF ssP
  by_cases z : sk tx N p < N ∧ 97 ≤ tx (sk tx N p) ∧ tx (sk tx N p) ≤ 101
  · have hr : ¬ snN tx N p = 0 := by rw [← hsn, rn_step z]; omega
    have t2 := (hT2.2.2 _ z.1).2
    have hy : (97 : Int32) ≤ hvI tx N p ∧ hvI tx N p ≤ 101 := by
      unfold hvI
      rw [if_pos z.1]
      exact ⟨nI_le (a := 97) z.2.1 (by omega), nI_le (b := 101) z.2.2 (by omega)⟩
    have hX9 : shX (pA X2 (m + 11) h 0) = Y := shX_pA k2.1 wM.p11 _ _
    have hS0 : SL X2 Y m h (sk tx N p) tx 0 (pA X2 (m + 11) h 0) := by
      refine ⟨hX9, fun y y1 y2 y3 => pA_ne y2, fun k hk => gi_pA _ _ _ _, by rw [gi_pA]; exact k3, fun i => ?_, fun i => ?_⟩
      · rw [ga_pA_self k2.1 wM.p11]
        by_cases y : i = h
        · subst y; rw [upd_self, if_pos rfl]; rfl
        · rw [upd_ne _ y, if_neg y]
      · rw [ga_pA_ne (by omega), if_neg (by omega)]
    obtain ⟨L1, L2⟩ := m_starsL (F := F) (v3 := nI (sk tx N p)) wM hT2 hh F 0 _ hS0 hsk.2.1 (by omega) (by omega)
    rw [Nat.zero_add, show sk tx N p + 0 = sk tx N p from rfl, hsn] at L1 L2
    have hfr : ∀ y : Nat, y ≠ m → X2 y = X y := k2.2.1
    by_cases z6 : 6 ≤ snN tx N p
    · rw [if_pos (Or.inr z6), if_pos z6]
      obtain ⟨X5, m1, s1, s2, s3, s4, s5, s6⟩ := L2 z6
      obtain ⟨f1, f2, f3⟩ := m_fails (F := F) wM s1 (1 : Int32) (nI (sk tx N p + 5))
      refine ⟨pI X5 m 12 (nI (sk tx N p + 5)), ?_, f2.1, fun y y1 y2 y3 => (pV_ne y1).trans ((s2 y y1 y2 y3).trans (hfr y y1)), fun k j1 j2 => ?_, fun y => by omega, fun _ => f3⟩
      · simp only [fX10_takeStars, gM wM, sM wM, hX, k1, qb2, Option.bind_some, k2.1, k3, hin, if_pos hy, if_neg (show ¬ (1 : Int32) = 0 by decide), hh]
        rw [m1]
        rfl
      · rw [f2.2.2 k (by simpa using j1), s3 k j2, k2.2.2 k (by simpa using j2)]
    · rw [if_neg (by omega), if_neg z6]
      obtain ⟨X5, m1, hS5⟩ := L1 (by omega)
      obtain ⟨s1, s2, s3, s4, s5, s6⟩ := id hS5
      have hd : ∀ k : Nat, k < snN tx N p → ga X5 (m + 12) (5 * h + k) = nI (sdF tx (sk tx N p) k) ∧ 1 ≤ sdF tx (sk tx N p) k ∧ sdF tx (sk tx N p) k ≤ 5 := fun k hk => ⟨by rw [s6, if_pos (by omega), Nat.add_sub_cancel_left], sd_in hk⟩
      obtain ⟨R1, R2⟩ := stars130 (F := F) (fr := sk tx N p) (nn := nn) (dd := dd) wM s1 hh ⟨by rw [s5, if_pos rfl], by omega⟩ hd (fun g hg => by
        obtain ⟨⟨q1, q2⟩, q3⟩ := hpic g hg
        refine ⟨⟨by rw [s5, if_neg (by omega), ga_congr (hfr (m + 11) (by omega))]; exact q1, q2⟩, fun k hk => ?_⟩
        rw [s6, if_neg (by omega), ga_congr (hfr (m + 12) (by omega))]
        exact q3 k hk) hij (by omega) F 0 (by omega) (by omega) (fun i hi => by omega)
      rw [show nI 0 = (0 : Int32) from rfl] at R1 R2
      have e1 : fX10_takeStars F X m (nI h) = qb2 (fX10_takeStars_L130 F m (nI h) (nI (sk tx N p)) F (0 : Int32) (0 : Int32) X5) fun v43 X44 => some (v43, X44) := by
        simp only [fX10_takeStars, gM wM, sM wM, hX, k1, qb2, Option.bind_some, k2.1, k3, hin, if_pos hy, if_neg (show ¬ (1 : Int32) = 0 by decide), hh]
        rw [m1]
        rfl
      have fr5 : ∀ y : Nat, y ≠ m → y ≠ m + 11 → y ≠ m + 12 → X5 y = X y := fun y y1 y2 y3 => (s2 y y1 y2 y3).trans (hfr y y1)
      by_cases zd : lsF (fun g => stN (dd g) (nn g)) (stN (sdF tx (sk tx N p)) (snN tx N p)) h = -1
      · rw [if_pos zd]
        refine ⟨X5, ?_, s1, fr5, fun k j1 j2 => by rw [s3 k j2, k2.2.2 k (by simpa using j2)], fun _ => ⟨by rw [s3 12 (by omega), k2.2.2 12 (by decide)], s4, fun i => by rw [s5, ga_congr (hfr (m + 11) (by omega))], fun i => by rw [s6, ga_congr (hfr (m + 12) (by omega))]⟩, fun y => absurd rfl y⟩
        rw [e1, R1 zd]
        rfl
      · rw [if_neg zd]
        obtain ⟨f1, f2, f3⟩ := m_fails (F := F) wM s1 (4 : Int32) (nI (sk tx N p))
        refine ⟨pI X5 m 12 (nI (sk tx N p)), ?_, f2.1, fun y y1 y2 y3 => (pV_ne y1).trans (fr5 y y1 y2 y3), fun k j1 j2 => by rw [f2.2.2 k (by simpa using j1), s3 k j2, k2.2.2 k (by simpa using j2)], fun y => by omega, fun _ => f3⟩
        rw [e1, R2 zd]
        rfl
  · have hr : snN tx N p = 0 := rn_stop z
    rw [if_pos (Or.inl hr), if_neg (show ¬ 6 ≤ snN tx N p by omega)]
    obtain ⟨f1, f2, f3⟩ := m_fails (F := F) wM k2.1 (1 : Int32) (nI (sk tx N p))
    refine ⟨pI X2 m 12 (nI (sk tx N p)), ?_, f2.1, fun y y1 y2 y3 => (pV_ne y1).trans (k2.2.1 y y1), fun k j1 j2 => by rw [f2.2.2 k (by simpa using j1), k2.2.2 k (by simpa using j2)], fun y => by omega, fun _ => f3⟩
    have hy : ¬ ((97 : Int32) ≤ hvI tx N p ∧ hvI tx N p ≤ 101) := fun y => by
      unfold hvI at y
      by_cases z2 : sk tx N p < N
      · rw [if_pos z2] at y
        have t2 := (hT2.2.2 _ z2).2
        exact z ⟨z2, (nI_leI (a := 97) (by omega) (by omega)).mp y.1, (nI_leI (b := 101) (by omega) (by omega)).mp y.2⟩
      · rw [if_neg z2] at y
        exact absurd y.1 (by decide)
    simp only [fX10_takeStars, gM wM, hX, k1, qb2, Option.bind_some, k2.1, k3, hin, if_neg hy, if_true, f1]
    rfl
end RDM
