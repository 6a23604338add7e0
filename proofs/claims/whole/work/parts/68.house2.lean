/-! bay: the clause h, the model's half -/
theorem YM.p8 {Y : qH} {m : Nat} (h : YM Y m) : Y (m + 8) = some (.inl (0, 8, .inl (fun _ => 0))) := h.2.2.2.2.2.2.2.2.1
theorem YM.p9 {Y : qH} {m : Nat} (h : YM Y m) : Y (m + 9) = some (.inl (0, 8, .inl (fun _ => 0))) := h.2.2.2.2.2.2.2.2.2.1
theorem YM.p10 {Y : qH} {m : Nat} (h : YM Y m) : Y (m + 10) = some (.inl (0, 8, .inl (fun _ => 0))) := h.2.2.2.2.2.2.2.2.2.2.1
theorem nI_pred' (k : Nat) : nI (k + 1) - 1 = nI k := by
  rw [← nI_add]
  exact Int32.add_sub_cancel _ _
section HSM
variable {F : Nat} {X Y : qH} {m N p : Nat} {tx : Nat → Nat}
theorem cell21 (wM : YM Y m) (hX : shX X = Y) {h v fr : Nat} {ce : Nat → Nat} (hh : h < 8) (h14 : gi X m 14 = nI v) (h15 : gi X m 15 = nI fr) (hv : v < 100) (hce : ∀ g : Nat, g < h → ga X (m + 8) g = nI (ce g) ∧ ce g < 30) (hij : ∀ x y : Nat, x < h → y < h → ce x = ce y → x = y) :
    ∀ (t k : Nat), k ≤ h → h - k < t → (∀ i : Nat, i < k → ce i ≠ v) → (lsF ce v h = -1 → fX10_takeCell_L21 F m (nI h) t 0 (nI k) X = some (0, X)) ∧ (lsF ce v h ≠ -1 → fX10_takeCell_L21 F m (nI h) t 0 (nI k) X = some (4, pI X m 12 (nI fr))) := by
  intro t
  induction t with
  | zero => intro k hk ht; omega
  | succ t ih =>
    intro k hk ht hno
    rw [show fX10_takeCell_L21 F m (nI h) (t + 1) 0 (nI k) X = fX10_takeCell_L21_B F m (nI h) (fX10_takeCell_L21 F m (nI h) t) 0 (nI k) X from rfl]
    unfold fX10_takeCell_L21_B
    by_cases z : k = h
    · subst z
      refine ⟨fun _ => ?_, fun y => absurd (lsF_none k hno) y⟩
      rw [if_pos (nI_le (Nat.le_refl k) (by omega))]
    · have hlt : k < h := by omega
      have l8 : k < 8 := by omega
      obtain ⟨p1, p2⟩ := hce k hlt
      have eqk := nI_eq (show ce k < 2 ^ 31 by omega) (show v < 2 ^ 31 by omega)
      by_cases q : ce k = v
      · have hhit := lsF_hit (ce := ce) (p := v) h hij hlt q
        have hne : lsF ce v h ≠ -1 := by rw [hhit]; exact nI_m1 (by omega)
        refine ⟨fun y => absurd y hne, fun _ => ?_⟩
        obtain ⟨f1, f2, f3⟩ := m_fails (F := F) wM hX (4 : Int32) (nI fr)
        have z4 : fX10_takeCell_L21 F m (nI h) t 4 (nI (k + 1)) (pI X m 12 (nI fr)) = some (4, pI X m 12 (nI fr)) := by
          obtain ⟨t', rfl⟩ : ∃ y, t = y + 1 := ⟨t - 1, by omega⟩
          show fX10_takeCell_L21_B F m (nI h) (fX10_takeCell_L21 F m (nI h) t') 4 (nI (k + 1)) _ = _
          unfold fX10_takeCell_L21_B
          simp only [if_neg (show ¬ (4 : Int32) = 0 by decide), ite_self]
        simp only [if_neg (nI_ge hlt (by omega)), if_true, gM wM, hX, Option.bind_some, l8, p1, h14, h15, q, f1, qb2, qlt, nI_1, z4]
      · have i1 := ih (k + 1) (by omega) (by omega) (fun i hi => by
          by_cases y : i = k
          · subst y; exact q
          · exact hno i (by omega))
        simp only [if_neg (nI_ge hlt (by omega)), if_true, gM wM, hX, Option.bind_some, l8, p1, h14, if_neg (fun y => q (eqk.mp y)), qb2, qlt, nI_1]
        exact i1
theorem cell21_n {h : Nat} (hh : h < 8) {f : Nat} (hf : 0 < f ∧ f < 10) (hF : 1 ≤ F) : fX10_takeCell_L21 F m (nI h) F (nI f) (0 : Int32) X = some (nI f, X) := by
  obtain ⟨t, ht⟩ : ∃ y, F = y + 1 := ⟨F - 1, by omega⟩
  rw [show fX10_takeCell_L21 F m (nI h) F (nI f) (0 : Int32) X = fX10_takeCell_L21 F m (nI h) (t + 1) (nI f) (0 : Int32) X by rw [← ht]]
  show fX10_takeCell_L21_B F m (nI h) (fX10_takeCell_L21 F m (nI h) t) (nI f) 0 X = _
  unfold fX10_takeCell_L21_B
  simp only [if_neg (nI_ne0 hf.1 (show f < 2 ^ 31 by omega)), ite_self]
set_option maxHeartbeats 2000000 in
theorem m_house (wM : YM Y m) (hX : shX X = Y) (hT : MT X m N tx) (hp : gi X m 13 = nI p) (hpN : p ≤ N) {h w : Nat} {ce nn : Nat → Nat} {dd : Nat → Nat → Nat} (hh : h < 8) (hw : 2 ≤ w ∧ w ≤ 30) (h17 : gi X m 17 = nI h) (h7 : ga X (m + 7) 0 = nI w) (hce : ∀ g : Nat, g < h → ga X (m + 8) g = nI (ce g) ∧ ce g < 30) (hci : ∀ x y : Nat, x < h → y < h → ce x = ce y → x = y) (hpic : ∀ g : Nat, g < h → (ga X (m + 11) g = nI (nn g) ∧ nn g ≤ 5) ∧ ∀ k : Nat, k < nn g → ga X (m + 12) (5 * g + k) = nI (dd g k) ∧ 1 ≤ dd g k ∧ dd g k ≤ 5) (hij : ∀ x y : Nat, x < h → y < h → stN (dd x) (nn x) = stN (dd y) (nn y) → x = y) (hF : 1000 ≤ F) :
    ∃ X2, fX10_takeHouse F X m = some (nI (hsF tx N w h ce (fun g => stN (dd g) (nn g)) p), X2) ∧ shX X2 = Y ∧ FM m X X2 ∧
      (hsF tx N w h ce (fun g => stN (dd g) (nn g)) p = 0 → (∀ k : Nat, k ≠ 13 → k ≠ 14 → k ≠ 15 → k ≠ 17 → gi X2 m k = gi X m k) ∧ gi X2 m 17 = nI (h + 1) ∧ gi X2 m 13 = nI (sk tx N (nmE tx N (nmE tx N (nmE tx N p))) + snN tx N (nmE tx N (nmE tx N (nmE tx N p)))) ∧
        (ga X2 (m + 7) = ga X (m + 7) ∧ ga X2 (m + 13) = ga X (m + 13) ∧ ga X2 (m + 14) = ga X (m + 14)) ∧ (∀ i : Nat, i ≠ h → ga X2 (m + 8) i = ga X (m + 8) i ∧ ga X2 (m + 9) i = ga X (m + 9) i ∧ ga X2 (m + 10) i = ga X (m + 10) i ∧ ga X2 (m + 11) i = ga X (m + 11) i) ∧ (ga X2 (m + 8) h = nI (nmV tx N p) ∧ ga X2 (m + 9) h = nI (nmV tx N (nmE tx N p)) ∧ ga X2 (m + 10) h = nI (nmV tx N (nmE tx N (nmE tx N p))) ∧ ga X2 (m + 11) h = nI (snN tx N (nmE tx N (nmE tx N (nmE tx N p))))) ∧
        ∀ i : Nat, ga X2 (m + 12) i = if 5 * h ≤ i ∧ i < 5 * h + snN tx N (nmE tx N (nmE tx N (nmE tx N p))) then nI (sdF tx (sk tx N (nmE tx N (nmE tx N (nmE tx N p)))) (i - 5 * h)) else ga X (m + 12) i) ∧
      (hsF tx N w h ce (fun g => stN (dd g) (nn g)) p ≠ 0 → gi X2 m 12 = nI (hsP tx N w h ce p)) := by
  have z0 : nI 0 ≤ (0 : Int32) := by decide
  have s17 := (MS.rfl' (m := m) hX [17]).pI wM (k := 17) (v := nI (h + 1)) (by decide) (by simp only [kM wM, hX]) (fun j => by simp only [uM wM, hX])
  have e17 : gi (pI X m 17 (nI (h + 1))) m 17 = nI (h + 1) := by simp only [uM wM, hX, if_true]
  generalize hX4 : pI X m 17 (nI (h + 1)) = X4 at s17 e17
  have hTH : ∀ r, qb2 (fX10_takeCell F X4 m (nI h)) (fun v5 X6 => qb2 (if v5 ≤ (0 : Int32) then ((qgR X6 9 m 19).bind fun v18 => qb2 (fX10_into F X6 m v18 (nI h) (1 : Int32) (9 : Int32)) fun v19 X20 => some (v19, X20)) else (some (v5, X6))) fun v7 X8 => qb2 (if v7 ≤ (0 : Int32) then ((qgR X8 9 m 20).bind fun v15 => qb2 (fX10_into F X8 m v15 (nI h) (0 : Int32) (9 : Int32)) fun v16 X17 => some (v16, X17)) else (some (v7, X8))) fun v9 X10 => qb2 (if v9 ≤ (0 : Int32) then (qb2 (fX10_takeStars F X10 m (nI h)) fun v13 X14 => some (v13, X14)) else (some (v9, X10))) fun v11 X12 => some (v11, X12)) = r → fX10_takeHouse F X m = r := fun r hr => by
    rw [← hr]
    simp only [fX10_takeHouse, gM wM, sM wM, hX, Option.bind_some, h17, qlt, nI_1, hX4]
  have f4 : FM m X X4 := s17.FM (by decide)
  have hT4 := hT.f f4
  have a13 : gi X4 m 13 = nI p := by rw [s17.2.2 13 (by decide)]; exact hp
  have w1 : nI w - 1 = nI (w - 1) := by
    obtain ⟨k, hk⟩ : ∃ k, w = k + 1 := ⟨w - 1, by omega⟩
    rw [hk]; exact nI_pred' k
  have h74 : ga X4 (m + 7) 0 = nI w := by rw [ga_congr (s17.2.1 _ (by omega))]; exact h7
  obtain ⟨Xa, a1, a2, a3, a4, a5, a6, a7, a8⟩ := m_intoE (F := F) (ar := m + 8) (k := h) (lo := 0) (hi := w - 1) wM s17.1 hT4 a13 hpN (by omega) (by omega) hF wM.p8 (by decide) hh (by omega)
  have a1' : fX10_into F X4 m (m + 8) (nI h) (0 : Int32) (nI (w - 1)) = some (nI (nmF tx N 0 (w - 1) p), Xa) := a1
  have hTC : ∀ r, qb2 (fX10_takeCell_L21 F m (nI h) F (nI (nmF tx N 0 (w - 1) p)) (0 : Int32) Xa) (fun v18 X19 => some (v18, X19)) = r → fX10_takeCell F X4 m (nI h) = r := fun r hr => by
    rw [← hr]
    simp only [fX10_takeCell, gM wM, m7 wM, s17.1, Option.bind_some, h74, w1, a1', qb2]
  have fa := f4.trans a3
  unfold hsF hsP
  by_cases f1 : nmF tx N 0 (w - 1) p = 0
  · rw [if_pos f1, if_pos f1]
    obtain ⟨b12, b13, b14, b15, b16⟩ := a7 f1
    have i1 := nmF_in f1
    obtain ⟨L1, L2⟩ := cell21 (F := F) (v := nmV tx N p) (fr := sk tx N p) (ce := ce) wM a2 hh b14 b15 (by omega) (fun g hg => by
      rw [a6 g (by omega), ga_congr (s17.2.1 _ (by omega))]; exact hce g hg) hci F 0 (by omega) (by omega) (fun i hi => by omega)
    rw [f1] at hTC
    by_cases f2 : lsF ce (nmV tx N p) h = -1
    · rw [if_pos f2, if_pos f2]
      have c1 := hTC _ (by rw [show qb2 (fX10_takeCell_L21 F m (nI h) F (nI 0) (0 : Int32) Xa) (fun v18 X19 => some (v18, X19)) = some (nI 0, Xa) by rw [show fX10_takeCell_L21 F m (nI h) F (nI 0) (0 : Int32) Xa = some (0, Xa) from L1 f2]; rfl])
      have e1 := nmE_ge (tx := tx) (N := N) (p := p) hpN
      have l1 : nmE tx N p ≤ N := by
        have q1 := sk_in (tx := tx) _ p rfl hpN
        have q2 := rn_le (tx := tx) (N := N) (lo := 48) (hi := 57) _ (sk tx N p) rfl q1.2.1
        exact q2
      obtain ⟨Xb, b1, b2, b3, b4, b5, b6, b7, b8⟩ := m_intoE (F := F) (ar := m + 9) (k := h) (lo := 1) (hi := 9) wM a2 (hT.f fa) b13 l1 (by omega) (by omega) hF wM.p9 (by decide) hh (by omega)
      have b1' : fX10_into F Xa m (m + 9) (nI h) (1 : Int32) (9 : Int32) = some (nI (nmF tx N 1 9 (nmE tx N p)), Xb) := b1
      have fb := fa.trans b3
      by_cases f3 : nmF tx N 1 9 (nmE tx N p) = 0
      · rw [if_pos f3, if_pos f3]
        rw [f3] at b1'
        obtain ⟨d12, d13, d14, d15, d16⟩ := b7 f3
        have l2 : nmE tx N (nmE tx N p) ≤ N := by
          have q1 := sk_in (tx := tx) _ (nmE tx N p) rfl l1
          have q2 := rn_le (tx := tx) (N := N) (lo := 48) (hi := 57) _ (sk tx N (nmE tx N p)) rfl q1.2.1
          exact q2
        obtain ⟨Xe, e1, e2, e3, e4, e5, e6, e7, e8⟩ := m_intoE (F := F) (ar := m + 10) (k := h) (lo := 0) (hi := 9) wM b2 (hT.f fb) d13 l2 (by omega) (by omega) hF wM.p10 (by decide) hh (by omega)
        have e1' : fX10_into F Xb m (m + 10) (nI h) (0 : Int32) (9 : Int32) = some (nI (nmF tx N 0 9 (nmE tx N (nmE tx N p))), Xe) := e1
        have fe := fb.trans e3
        by_cases f5 : nmF tx N 0 9 (nmE tx N (nmE tx N p)) = 0
        · rw [if_pos f5, if_pos f5]
          rw [f5] at e1'
          obtain ⟨g12, g13, g14, g15, g16⟩ := e7 f5
          have l3 : nmE tx N (nmE tx N (nmE tx N p)) ≤ N := by
            have q1 := sk_in (tx := tx) _ (nmE tx N (nmE tx N p)) rfl l2
            have q2 := rn_le (tx := tx) (N := N) (lo := 48) (hi := 57) _ (sk tx N (nmE tx N (nmE tx N p))) rfl q1.2.1
            exact q2
          have fr : ∀ y : Nat, y ≠ m → y ≠ m + 8 → y ≠ m + 9 → y ≠ m + 10 → Xe y = X y := fun y y1 y2 y3 y4 => (e4 y y1 y4).trans ((b4 y y1 y3).trans ((a4 y y1 y2).trans (s17.2.1 y y1)))
          obtain ⟨Xs, s1, s2, s3, s4, s5, s6⟩ := m_stars (F := F) (h := h) (nn := nn) (dd := dd) wM e2 (hT.f fe) g13 l3 hh (fun g hg => by
            rw [ga_congr (fr (m + 11) (by omega) (by omega) (by omega) (by omega)), ga_congr (fr (m + 12) (by omega) (by omega) (by omega) (by omega))]; exact hpic g hg) hij hF
          refine ⟨Xs, hTH _ (by simp only [c1, qb2, if_pos z0, gM wM, a2, b2, Option.bind_some, b1', e1', s1]), s2, fe.trans ⟨fun y y1 y2 => s3 y y1 (by omega) (by omega), fun k hk => s4 k (fun q => hk (by rw [q]; decide)) (fun q => hk (by rw [q]; decide))⟩, fun z => ?_, fun z => s6 z⟩
          obtain ⟨t12, t13, t11, t14⟩ := s5 z
          generalize nmE tx N (nmE tx N (nmE tx N p)) = E3 at *
          refine ⟨fun k k1 k2 k3 k4 => ?_, ?_, t13, ⟨?_, ?_, ?_⟩, fun i hi => ⟨?_, ?_, ?_, ?_⟩, ⟨?_, ?_, ?_, ?_⟩, fun i => ?_⟩
          · by_cases k12 : k = 12
            · subst k12
              rw [t12, g12, d12, b12, s17.2.2 12 (by decide)]
            · rw [s4 k k12 k1, e5 k k12 k1 k2 k3, b5 k k12 k1 k2 k3, a5 k k12 k1 k2 k3, s17.2.2 k (by simpa using k4)]
          · rw [s4 17 (by omega) (by omega), e5 17 (by omega) (by omega) (by omega) (by omega), b5 17 (by omega) (by omega) (by omega) (by omega), a5 17 (by omega) (by omega) (by omega) (by omega)]; exact e17
          · exact ga_congr ((s3 _ (by omega) (by omega) (by omega)).trans (fr _ (by omega) (by omega) (by omega) (by omega)))
          · exact ga_congr ((s3 _ (by omega) (by omega) (by omega)).trans (fr _ (by omega) (by omega) (by omega) (by omega)))
          · exact ga_congr ((s3 _ (by omega) (by omega) (by omega)).trans (fr _ (by omega) (by omega) (by omega) (by omega)))
          · rw [ga_congr (s3 (m + 8) (by omega) (by omega) (by omega)), ga_congr (e4 (m + 8) (by omega) (by omega)), ga_congr (b4 (m + 8) (by omega) (by omega)), a6 i hi, ga_congr (s17.2.1 _ (by omega))]
          · rw [ga_congr (s3 (m + 9) (by omega) (by omega) (by omega)), ga_congr (e4 (m + 9) (by omega) (by omega)), b6 i hi, ga_congr (a4 (m + 9) (by omega) (by omega)), ga_congr (s17.2.1 _ (by omega))]
          · rw [ga_congr (s3 (m + 10) (by omega) (by omega) (by omega)), e6 i hi, ga_congr (b4 (m + 10) (by omega) (by omega)), ga_congr (a4 (m + 10) (by omega) (by omega)), ga_congr (s17.2.1 _ (by omega))]
          · rw [t11, if_neg hi, ga_congr (fr _ (by omega) (by omega) (by omega) (by omega))]
          · rw [ga_congr (s3 (m + 8) (by omega) (by omega) (by omega)), ga_congr (e4 (m + 8) (by omega) (by omega)), ga_congr (b4 (m + 8) (by omega) (by omega))]; exact b16
          · rw [ga_congr (s3 (m + 9) (by omega) (by omega) (by omega)), ga_congr (e4 (m + 9) (by omega) (by omega))]; exact d16
          · rw [ga_congr (s3 (m + 10) (by omega) (by omega) (by omega))]; exact g16
          · rw [t11, if_pos rfl]
          · rw [t14, ga_congr (fr (m + 12) (by omega) (by omega) (by omega) (by omega))]
        · rw [if_neg f5, if_neg f5]
          have n5 := nmF_10 f5
          refine ⟨Xe, hTH _ (by simp only [c1, qb2, if_pos z0, gM wM, a2, b2, Option.bind_some, b1', e1', if_neg (nI_nle n5.1 (show nmF tx N 0 9 (nmE tx N (nmE tx N p)) < 2 ^ 31 by omega))]), e2, fe, fun z => absurd z f5, fun z => e8 f5⟩
      · rw [if_neg f3, if_neg f3]
        have n5 := nmF_10 f3
        refine ⟨Xb, hTH _ (by simp only [c1, qb2, if_pos z0, gM wM, a2, Option.bind_some, b1', if_neg (nI_nle n5.1 (show nmF tx N 1 9 (nmE tx N p) < 2 ^ 31 by omega))]), b2, fb, fun z => absurd z f3, fun z => b8 f3⟩
    · rw [if_neg f2, if_neg f2]
      obtain ⟨g1, g2, g3⟩ := m_fails (F := F) wM a2 (4 : Int32) (nI (sk tx N p))
      have c1 := hTC _ (by rw [show qb2 (fX10_takeCell_L21 F m (nI h) F (nI 0) (0 : Int32) Xa) (fun v18 X19 => some (v18, X19)) = some (nI 4, pI Xa m 12 (nI (sk tx N p))) by rw [show fX10_takeCell_L21 F m (nI h) F (nI 0) (0 : Int32) Xa = some (4, pI Xa m 12 (nI (sk tx N p))) from L2 f2]; rfl])
      refine ⟨pI Xa m 12 (nI (sk tx N p)), hTH _ (by simp only [c1, qb2, Option.bind_some, if_neg (show ¬ nI 4 ≤ (0 : Int32) by decide)]), g2.1, fa.trans (g2.FM (by decide)), fun z => by omega, fun _ => g3⟩
  · rw [if_neg f1, if_neg f1]
    have n5 := nmF_10 f1
    have c1 := hTC (some (nI (nmF tx N 0 (w - 1) p), Xa)) (by rw [cell21_n hh n5 (by omega)]; rfl)
    refine ⟨Xa, hTH _ (by simp only [c1, qb2, Option.bind_some, if_neg (nI_nle n5.1 (show nmF tx N 0 (w - 1) p < 2 ^ 31 by omega))]), a2, fa, fun z => absurd z f1, fun z => a8 f1⟩
end HSM
