/-! damp, farShore -/
def od (p x : Nat) : Nat := x * p / 100
def odI (p : Nat) : Nat → Nat → Nat
  | 0, x => x
  | n + 1, x => od p (odI p n x)
theorem od_le {p x : Nat} (hp : p ≤ 100) : od p x ≤ x := by
  unfold od
  have : x * p ≤ x * 100 := Nat.mul_le_mul_left x hp
  omega
theorem odI_le {p x : Nat} (hp : p ≤ 100) : ∀ n : Nat, odI p n x ≤ x := by
  intro n
  induction n with
  | zero => exact Nat.le_refl _
  | succ n ih => exact Nat.le_trans (od_le hp) ih
theorem od_L {p x : Nat} (hp : p ≤ 100) (hx : x ≤ 1000000000) : lN x * (nI p).toInt64 / (100 : Int64) = lN (od p x) := by
  have hb : x * p ≤ 1000000000 * 100 := Nat.mul_le_mul hx hp
  rw [nI_l (by omega), lN_mul, show (100 : Int64) = lN 100 from rfl, pk_lDiv (by omega) (by omega) (by omega)]
  rfl
theorem cutOdds_ok {F : Nat} {X : qH} {p x t : Nat} (hp : p ≤ 100) (hx : x ≤ 1000000000) (ht : t ≤ 100) (hF : 1000 ≤ F) : fX9_cutOdds F X (nI x) (nI p) (nI t) = some (nI (odI p t x)) := by
  have L := lpF (fun n (s : Int64 × Int32) => fX9_cutOdds_L6 F X (nI p) (nI t) n s.1 s.2) (fun g => (lN (odI p g x), nI g)) t (lN (odI p t x))
    (fun n => by
      show fX9_cutOdds_L6_B F X (nI p) (nI t) (fX9_cutOdds_L6 F X (nI p) (nI t) n) _ (nI t) = _
      unfold fX9_cutOdds_L6_B
      rw [if_pos (nI_le (Nat.le_refl t) (by omega))])
    (fun n g hg => by
      show fX9_cutOdds_L6_B F X (nI p) (nI t) (fX9_cutOdds_L6 F X (nI p) (nI t) n) (lN (odI p g x)) (nI g) = _
      unfold fX9_cutOdds_L6_B
      rw [if_neg (nI_ge hg (by omega)), od_L hp (Nat.le_trans (odI_le hp g) hx)]
      simp only [qlt, nI_1, odI]) F 0 (by omega) (by omega)
  dsimp only at L
  rw [show nI 0 = (0 : Int32) from rfl, odI] at L
  simp only [fX9_cutOdds, qlt, nI_l (show x < 2 ^ 31 by omega), L, Option.bind_some, lN_i]
/-- which of the model's 40 places is a green star of the set -/
def gnB (v : Int32) (n : Nat → Nat) (d : Nat → Nat → Nat) (k : Nat) : Bool := v.toBitVec.getLsbD (k / 5) && decide (k % 5 < n (k / 5)) && decide (d (k / 5) (k % 5) = 3)
def dmF (G : Nat → Bool) (p : Nat) : Nat → Nat
  | 0 => 1000000000
  | k + 1 => if G k then od p (dmF G p k) else dmF G p k
def cdF (v : Int32) (n : Nat → Nat) (d : Nat → Nat → Nat) (p : Nat) : Nat → Nat
  | 0 => 1000000000
  | h + 1 => if v.toBitVec.getLsbD h then odI p (gcF (d h) (n h)) (cdF v n d p h) else cdF v n d p h
theorem dmF_le (G : Nat → Bool) {p : Nat} (hp : p ≤ 100) : ∀ k : Nat, dmF G p k ≤ 1000000000 := by
  intro k
  induction k with
  | zero => exact Nat.le_refl _
  | succ k ih =>
    rw [dmF]
    split
    · exact Nat.le_trans (od_le hp) ih
    · exact ih
theorem cdF_le (v : Int32) (n : Nat → Nat) (d : Nat → Nat → Nat) {p : Nat} (hp : p ≤ 100) : ∀ k : Nat, cdF v n d p k ≤ 1000000000 := by
  intro k
  induction k with
  | zero => exact Nat.le_refl _
  | succ k ih =>
    rw [cdF]
    split
    · exact Nat.le_trans (odI_le hp _) ih
    · exact ih
theorem dm_row (v : Int32) (n : Nat → Nat) (d : Nat → Nat → Nat) (p h : Nat) : ∀ j : Nat, j ≤ 5 → dmF (gnB v n d) p (5 * h + j) = if v.toBitVec.getLsbD h then odI p (gcF (d h) (min j (n h))) (dmF (gnB v n d) p (5 * h)) else dmF (gnB v n d) p (5 * h) := by
  intro j
  induction j with
  | zero =>
    intro _
    rw [Nat.zero_min]
    split <;> rfl
  | succ j ih =>
    intro hj
    have e1 : (5 * h + j) / 5 = h := by omega
    have e2 : (5 * h + j) % 5 = j := by omega
    rw [show 5 * h + (j + 1) = (5 * h + j) + 1 by omega, dmF, ih (by omega)]
    unfold gnB
    rw [e1, e2]
    cases hb : v.toBitVec.getLsbD h with
    | false => simp
    | true =>
      by_cases z : j < n h
      · rw [show min j (n h) = j by omega, show min (j + 1) (n h) = j + 1 by omega, gcF]
        by_cases z2 : d h j = 3
        · simp [z, z2, odI]
        · simp [z, z2]
      · rw [show min j (n h) = n h by omega, show min (j + 1) (n h) = n h by omega]
        simp [z]
theorem dm_eq (v : Int32) (n : Nat → Nat) (d : Nat → Nat → Nat) (p c : Nat) (hn : ∀ h : Nat, h < c → n h ≤ 5) : ∀ h : Nat, h ≤ c → dmF (gnB v n d) p (5 * h) = cdF v n d p h := by
  intro h
  induction h with
  | zero => intro _; rfl
  | succ h ih =>
    intro hh
    have := hn h (by omega)
    rw [show 5 * (h + 1) = 5 * h + 5 by omega, dm_row v n d p h 5 (by omega), ih (by omega), cdF, show min 5 (n h) = n h by omega]
theorem op_damp {F : Nat} {X : qH} {sz : Nat} (hI : Inv X sz) (hF : 300000 ≤ F) (v : Int32) : OpR (fun X => fX9_damp F X sz v) (fun X => fX10_damp F X (sz + 151) v) X := by
  obtain ⟨hW, hRl⟩ := id hI
  obtain ⟨rT, rF, rS, rB, rN, rP, rI, rD, rK⟩ := id hRl
  generalize hX : shX X = Y at hW
  obtain ⟨w9, -, -, -, wN, -, -, -, -, w2, w1, wM⟩ := id hW
  obtain ⟨b, w, c, ce, po, nn, dd, hb, wB⟩ := rB.get hX hW
  obtain ⟨⟨b3, -⟩, ⟨bw, mw, hw30⟩, ⟨bc, mc, c8, -⟩, -, ⟨da, hda, b4, m7⟩, hs, -⟩ := id hb
  have h1 := hasAll_ok (F := F) hX wB bc c8 v
  have h2 := isSet_ok (F := F) hX wM mc c8 v
  have hp : (100 : Int32) - nI da = nI (100 - da) := by rw [show (100 : Int32) = nI 100 from rfl, pk_sub hda]
  have hp2 : 100 - da ≤ 100 := by omega
  generalize 100 - da = p at hp hp2
  by_cases hok : 0 ≤ v ∧ v < nI (2 ^ c)
  · rw [if_pos hok] at h1 h2
    have L1 := lpF (fun n (s : Int32 × Int32) => fX9_damp_L19 F X sz v n s.1 s.2) (fun g => (nI (cdF v nn dd p g), nI g)) c (nI (cdF v nn dd p c))
      (fun n => by
        show fX9_damp_L19_B F X sz v (fX9_damp_L19 F X sz v n) _ (nI c) = _
        unfold fX9_damp_L19_B
        simp only [g9 w9, gB wB, hX, Option.bind_some, b3, bc, if_pos (nI_le (Nat.le_refl c) (by omega))])
      (fun n g hg => by
        show fX9_damp_L19_B F X sz v (fX9_damp_L19 F X sz v n) (nI (cdF v nn dd p g)) (nI g) = fX9_damp_L19 F X sz v n (nI (cdF v nn dd p (g + 1))) (nI (g + 1))
        unfold fX9_damp_L19_B
        have l8 : g < 8 := by omega
        obtain ⟨-, -, ⟨s1, s2, s3, s4⟩, s5⟩ := hs g hg
        have gr := greens_ok (F := F) (X := X) (d := dd g) (n := nn g) (fun i hi => (s5 i hi).2) s3 (by omega)
        have gl := gcF_le (dd g) (nn g)
        have co := cutOdds_ok (F := F) (X := X) (p := p) (x := cdF v nn dd p g) (t := gcF (dd g) (nn g)) hp2 (cdF_le v nn dd hp2 g) (by omega) (by omega)
        rw [cdF]
        by_cases z : tb v g
        · rw [if_pos (show v.toBitVec.getLsbD g = true from z)]
          simp only [g9 w9, gB wB, hX, Option.bind_some, b3, bc, if_neg (nI_ge hg (by omega)), if_pos ((shr_tb (show g < 32 by omega)).mpr z), b4, l8, s4, gr, hp, co, qlt, nI_1]
        · rw [if_neg (show ¬ v.toBitVec.getLsbD g = true from z)]
          simp only [g9 w9, gB wB, hX, Option.bind_some, b3, bc, if_neg (nI_ge hg (by omega)), if_neg (fun y => z ((shr_tb (show g < 32 by omega)).mp y)), qlt, nI_1]) F 0 (by omega) (by omega)
    have L2 := lpF (fun n (s : Int64 × Int32) => fX10_damp_L18 F X (sz + 151) v n s.1 s.2) (fun k => (lN (dmF (gnB v nn dd) p k), nI k)) (5 * c) (lN (dmF (gnB v nn dd) p (5 * c)))
      (fun n => by
        show fX10_damp_L18_B F X (sz + 151) v (fX10_damp_L18 F X (sz + 151) v n) _ (nI (5 * c)) = _
        unfold fX10_damp_L18_B
        have e5 : (5 : Int32) * nI c = nI (5 * c) := by rw [show (5 : Int32) = nI 5 from rfl, pk_mul]
        simp only [gM wM, hX, Option.bind_some, mc, e5, if_pos (nI_le (Nat.le_refl (5 * c)) (by omega))])
      (fun n k hk => by
        show fX10_damp_L18_B F X (sz + 151) v (fX10_damp_L18 F X (sz + 151) v n) (lN (dmF (gnB v nn dd) p k)) (nI k) = fX10_damp_L18 F X (sz + 151) v n (lN (dmF (gnB v nn dd) p (k + 1))) (nI (k + 1))
        unfold fX10_damp_L18_B
        have e5 : (5 : Int32) * nI c = nI (5 * c) := by rw [show (5 : Int32) = nI 5 from rfl, pk_mul]
        have ed : nI k / (5 : Int32) = nI (k / 5) := by rw [show (5 : Int32) = nI 5 from rfl, pk_div (by omega) (by omega) (by omega)]
        have em : nI k - nI (k / 5) * (5 : Int32) = nI (k % 5) := by
          rw [← ed, show (5 : Int32) = nI 5 from rfl, pk_rem (by omega) (by omega) (by omega)]
        have hg : k / 5 < c := by omega
        have l8 : k / 5 < 8 := by omega
        have l40 : k < 40 := by omega
        obtain ⟨-, -, ⟨s1, s2, s3, s4⟩, s5⟩ := hs (k / 5) hg
        have k3 := hasM_ok (F := F) (X := X) (x := v) (q := k / 5) (by omega)
        have ol := od_L (p := p) (x := dmF (gnB v nn dd) p k) hp2 (dmF_le _ hp2 k)
        rw [dmF]
        by_cases z : tb v (k / 5)
        · by_cases z2 : k % 5 < nn (k / 5)
          · have sk := s5 (k % 5) z2
            rw [show 5 * (k / 5) + k % 5 = k by omega] at sk
            have e3 : (nI (dd (k / 5) (k % 5)) = (3 : Int32)) = (dd (k / 5) (k % 5) = 3) := propext (nI_eq (b := 3) (by omega) (by omega))
            by_cases z3 : dd (k / 5) (k % 5) = 3
            · rw [if_pos (show gnB v nn dd k = true by unfold gnB; rw [show v.toBitVec.getLsbD (k / 5) = true from z, decide_eq_true z2, decide_eq_true z3]; rfl)]
              simp only [gM wM, hX, Option.bind_some, mc, e5, if_neg (nI_ge hk (by omega)), ed, k3.1 z, if_neg (show ¬ (1 : Int32) = 0 by decide), l8, s1, em, if_neg (nI_ge z2 (by omega)), l40, sk.1, e3, if_pos z3, m7, hp, ol, qlt, nI_1]
            · rw [if_neg (show ¬ gnB v nn dd k = true from fun y => z3 (by unfold gnB at y; rw [Bool.and_eq_true] at y; exact of_decide_eq_true y.2))]
              simp only [gM wM, hX, Option.bind_some, mc, e5, if_neg (nI_ge hk (by omega)), ed, k3.1 z, if_neg (show ¬ (1 : Int32) = 0 by decide), l8, s1, em, if_neg (nI_ge z2 (by omega)), l40, sk.1, e3, if_neg z3, if_true, qlt, nI_1]
          · rw [if_neg (show ¬ gnB v nn dd k = true from fun y => z2 (by unfold gnB at y; rw [Bool.and_eq_true, Bool.and_eq_true] at y; exact of_decide_eq_true y.1.2))]
            simp only [gM wM, hX, Option.bind_some, mc, e5, if_neg (nI_ge hk (by omega)), ed, k3.1 z, if_neg (show ¬ (1 : Int32) = 0 by decide), l8, s1, em, if_pos (nI_le (show nn (k / 5) ≤ k % 5 by omega) (by omega)), if_true, qlt, nI_1]
        · rw [if_neg (show ¬ gnB v nn dd k = true from fun y => z (by unfold gnB at y; rw [Bool.and_eq_true, Bool.and_eq_true] at y; exact y.1.1))]
          simp only [gM wM, hX, Option.bind_some, mc, e5, if_neg (nI_ge hk (by omega)), ed, k3.2 z, if_true, qlt, nI_1]) F 0 (by omega) (by omega)
    dsimp only at L1 L2
    rw [show nI 0 = (0 : Int32) from rfl] at L1 L2
    rw [cdF, show nI 1000000000 = (1000000000 : Int32) from rfl] at L1
    rw [dmF, show lN 1000000000 = (1000000000 : Int64) from rfl, dm_eq v nn dd p c (fun h hh => (hs h hh).2.2.1.2.2.1) c (Nat.le_refl c)] at L2
    refine ⟨nI (cdF v nn dd p c), ?_, ?_⟩
    · simp only [fX9_damp, g9 w9, hX, Option.bind_some, b3, h1, L1, if_neg (show ¬ (1 : Int32) = 0 by decide)]
    · simp only [fX10_damp, gM wM, hX, Option.bind_some, h2, L2, if_neg (show ¬ (1 : Int32) = 0 by decide), lN_i]
  · rw [if_neg hok] at h1 h2
    refine ⟨-1000000001, ?_, ?_⟩
    · simp only [fX9_damp, g9 w9, hX, Option.bind_some, b3, h1, if_true]
    · simp only [fX10_damp, gM wM, hX, Option.bind_some, h2, if_true]
