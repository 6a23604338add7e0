/-! houseOfStars, fromTheEnd (for farShore) -/
theorem houseOfStars_L {F : Nat} {X Y : qH} {b c p : Nat} {ce : Nat → Nat} (hX : shX X = Y) (hB : YB Y b) (h5 : gi X b 5 = nI c) (c8 : c ≤ 8) (hce : ∀ g : Nat, g < c → ga X (b + 4) g = nI (ce g) ∧ ce g < 100000) (hp : p < 1000000) (hi : ∀ x y : Nat, x < c → y < c → ce x = ce y → x = y) :
    ∀ (n g : Nat), g ≤ c → c - g < n → (∀ x : Nat, x < g → ce x ≠ p) → ∃ r, fX0_houseOfStars_L2 F X b (nI p) n (nI g) = some r ∧ qsm0 r (fun z => some z) (some (-1 : Int32)) = some (lsF ce p c) := by
  intro n
  induction n with
  | zero => intro g hg hn; omega
  | succ n ih =>
    intro g hg hn h0
    show ∃ r, fX0_houseOfStars_L2_B F X b (nI p) (fX0_houseOfStars_L2 F X b (nI p) n) (nI g) = some r ∧ _
    unfold fX0_houseOfStars_L2_B
    by_cases hgc : g = c
    · subst hgc
      refine ⟨.inr (), ?_, by rw [lsF_none g h0]; rfl⟩
      simp only [gB hB, hX, Option.bind_some, h5, if_pos (nI_le (Nat.le_refl g) (by omega))]
    · have hlt : g < c := by omega
      have l1 : g < 8 := by omega
      have c1 := (hce g hlt).2
      simp only [gB hB, hX, Option.bind_some, h5, if_neg (nI_ge hlt (by omega)), l1, (hce g hlt).1, qlt, nI_1, nI_eq (show ce g < 2 ^ 31 by omega) (show p < 2 ^ 31 by omega)]
      by_cases q : ce g = p
      · rw [if_pos q]
        exact ⟨_, rfl, by rw [lsF_hit c hi hlt q]; rfl⟩
      · rw [if_neg q]
        exact ih (g + 1) (by omega) (by omega) (fun x hx => by
          by_cases e : x = g
          · subst e; exact q
          · exact h0 x (by omega))
theorem houseOfStars_ok {F : Nat} {X Y : qH} {b c p : Nat} {ce : Nat → Nat} (hX : shX X = Y) (hB : YB Y b) (h5 : gi X b 5 = nI c) (c8 : c ≤ 8) (hce : ∀ g : Nat, g < c → ga X (b + 4) g = nI (ce g) ∧ ce g < 100000) (hp : p < 1000000) (hi : ∀ x y : Nat, x < c → y < c → ce x = ce y → x = y) (hF : 10 ≤ F) : fX0_houseOfStars F X b (nI p) = some (lsF ce p c) := by
  obtain ⟨r, e, hr⟩ := houseOfStars_L (F := F) hX hB h5 c8 hce hp hi F 0 (by omega) (by omega) (fun x hx => by omega)
  rw [show nI 0 = (0 : Int32) from rfl] at e
  simp only [fX0_houseOfStars, gB hB, hX, e, Option.bind_some]
  exact hr
def rvF (d : Nat → Nat) (n : Nat) : Nat → Nat := fun i => d (n - 1 - i)
theorem fromTheEnd_L {F : Nat} {X : qH} {d : Nat → Nat} {m : Nat} (hm : m ≤ 5) (hd : ∀ i : Nat, i < m → 1 ≤ d i ∧ d i ≤ 5) : ∀ (j n : Nat), j ≤ m → j < n → fX8_fromTheEnd_L4 F X n (nI (stN (rvF d m) (m - j))) (nI (stN d j)) = some (nI (stN (rvF d m) m)) := by
  intro j
  induction j with
  | zero =>
    intro n hj hn
    obtain ⟨n', rfl⟩ : ∃ q, n = q + 1 := ⟨n - 1, by omega⟩
    show fX8_fromTheEnd_L4_B F X (fX8_fromTheEnd_L4 F X n') _ (nI (stN d 0)) = _
    unfold fX8_fromTheEnd_L4_B
    rw [show stN d 0 = 0 from rfl, if_pos (show nI 0 ≤ 0 by decide)]
    rfl
  | succ j ih =>
    intro n hj hn
    obtain ⟨n', rfl⟩ : ∃ q, n = q + 1 := ⟨n - 1, by omega⟩
    show fX8_fromTheEnd_L4_B F X (fX8_fromTheEnd_L4 F X n') _ (nI (stN d (j + 1))) = _
    unfold fX8_fromTheEnd_L4_B
    have hlt := stN_lt5 (d := d) (n := j + 1) (fun i hi => (hd i (by omega)).2) (by omega)
    have hdj := hd j (by omega)
    have e : stN d (j + 1) = 10 * stN d j + d j := rfl
    have h0 : ¬ nI (stN d (j + 1)) ≤ 0 := nI_nle (by omega) (by omega)
    have hrm : nI (stN d (j + 1)) - nI (stN d (j + 1)) / 10 * 10 = nI (d j) := by
      rw [show (10 : Int32) = nI 10 from rfl, pk_rem (by omega) (by omega) (by omega), e]
      congr 1
      omega
    have hdv : nI (stN d (j + 1)) / 10 = nI (stN d j) := by
      rw [show (10 : Int32) = nI 10 from rfl, pk_div (by omega) (by omega) (by omega), e]
      congr 1
      omega
    have hst : nI (stN (rvF d m) (m - (j + 1))) * 10 + nI (d j) = nI (stN (rvF d m) (m - j)) := by
      rw [show (10 : Int32) = nI 10 from rfl, pk_mul, nI_add, show m - j = (m - (j + 1)) + 1 by omega, stN, show rvF d m (m - (j + 1)) = d j from congrArg d (by omega), Nat.mul_comm]
    rw [if_neg h0, hrm]
    simp only [qlt, hdv, hst]
    exact ih n' (by omega) (by omega)
theorem fromTheEnd_ok {F : Nat} {X : qH} {d : Nat → Nat} {n : Nat} (hd : ∀ i : Nat, i < n → 1 ≤ d i ∧ d i ≤ 5) (hn : n ≤ 5) (hF : 10 ≤ F) : fX8_fromTheEnd F X (nI (stN d n)) = some (nI (stN (rvF d n) n)) := by
  have e := fromTheEnd_L (F := F) (X := X) hn hd n F (Nat.le_refl n) (by omega)
  rw [Nat.sub_self, show nI (stN (rvF d n) 0) = (0 : Int32) from rfl] at e
  simp only [fX8_fromTheEnd, e, Option.bind_some]
theorem stN_inj {d e : Nat → Nat} : ∀ n m : Nat, (∀ i : Nat, i < n → 1 ≤ d i ∧ d i ≤ 5) → (∀ i : Nat, i < m → 1 ≤ e i ∧ e i ≤ 5) → stN d n = stN e m → n = m ∧ ∀ k : Nat, k < n → d k = e k := by
  intro n
  induction n with
  | zero =>
    intro m _ he q
    cases m with
    | zero => exact ⟨rfl, fun k hk => by omega⟩
    | succ m =>
      have := he m (by omega)
      simp only [stN] at q
      omega
  | succ n ih =>
    intro m hd he q
    have h1 := hd n (by omega)
    cases m with
    | zero =>
      simp only [stN] at q
      omega
    | succ m =>
      have h2 := he m (by omega)
      simp only [stN] at q
      have q2 : d n = e m := by omega
      obtain ⟨r1, r2⟩ := ih m (fun i hi => hd i (by omega)) (fun i hi => he i (by omega)) (by omega)
      subst r1
      refine ⟨rfl, fun k hk => ?_⟩
      by_cases z : k = n
      · subst z; exact q2
      · exact r2 k (by omega)
theorem stN_congr {d e : Nat → Nat} : ∀ n : Nat, (∀ k : Nat, k < n → d k = e k) → stN d n = stN e n := by
  intro n
  induction n with
  | zero => intro _; rfl
  | succ n ih =>
    intro q
    simp only [stN]
    rw [ih (fun k hk => q k (by omega)), q n (by omega)]
theorem isFarOf_L {F : Nat} {X Y : qH} {m g1 g2 n : Nat} {d e : Nat → Nat} (hX : shX X = Y) (hM : YM Y m) (l1 : g1 < 8) (l2 : g2 < 8) (hn : ga X (m + 3) g1 = nI n ∧ n ≤ 5) (hd : ∀ k : Nat, k < n → ga X (m + 4) (5 * g1 + k) = nI (d k) ∧ 1 ≤ d k ∧ d k ≤ 5) (he : ∀ k : Nat, k < n → ga X (m + 4) (5 * g2 + k) = nI (e k) ∧ 1 ≤ e k ∧ e k ≤ 5) :
    ∀ (t k : Nat), k ≤ n → n - k < t → ((∀ i : Nat, k ≤ i → i < n → rvF d n i = e i) → fX10_isFarOf_L24 F X m (nI g1) (nI g2) (t + 1) 1 (nI k) = some 1) ∧ (¬ (∀ i : Nat, k ≤ i → i < n → rvF d n i = e i) → fX10_isFarOf_L24 F X m (nI g1) (nI g2) (t + 1) 1 (nI k) = some 0) := by
  intro t
  induction t with
  | zero => intro k hk ht; omega
  | succ t ih =>
    intro k hk ht
    have hn5 := hn.2
    rw [show fX10_isFarOf_L24 F X m (nI g1) (nI g2) (t + 1 + 1) 1 (nI k) = fX10_isFarOf_L24_B F X m (nI g1) (nI g2) (fX10_isFarOf_L24 F X m (nI g1) (nI g2) (t + 1)) 1 (nI k) from rfl]
    unfold fX10_isFarOf_L24_B
    by_cases hkn : k = n
    · subst hkn
      refine ⟨fun _ => ?_, fun q => absurd (fun i a b => by omega) q⟩
      simp only [gM hM, hX, Option.bind_some, l1, hn.1, if_pos (nI_le (Nat.le_refl k) (by omega))]
    · have hlt : k < n := by omega
      have d1 := hd (n - 1 - k) (by omega)
      have d2 := he k hlt
      have i1 : (5 : Int32) * nI g1 + nI n - 1 - nI k = nI (5 * g1 + (n - 1 - k)) := by
        rw [show (5 : Int32) = nI 5 from rfl, show (1 : Int32) = nI 1 from rfl, pk_mul, nI_add, pk_sub (by omega), pk_sub (by omega)]
        congr 1
        omega
      have i2 : (5 : Int32) * nI g2 + nI k = nI (5 * g2 + k) := by
        rw [show (5 : Int32) = nI 5 from rfl, pk_mul, nI_add]
      have b1 : 5 * g1 + (n - 1 - k) < 40 := by omega
      have b2 : 5 * g2 + k < 40 := by omega
      simp only [gM hM, hX, Option.bind_some, l1, hn.1, if_neg (nI_ge hlt (by omega)), if_neg (show ¬ (1 : Int32) = 0 by decide), i1, i2, b1, b2, d1.1, d2.1, nI_eq (show d (n - 1 - k) < 2 ^ 31 by omega) (show e k < 2 ^ 31 by omega), qlt, nI_1, some_ite]
      by_cases q : d (n - 1 - k) = e k
      · rw [if_pos q]
        have hh := ih (k + 1) (by omega) (by omega)
        refine ⟨fun a => hh.1 (fun i x y => a i (by omega) y), fun a => hh.2 (fun z => a (fun i x y => ?_))⟩
        by_cases w : i = k
        · subst w; exact q
        · exact z i (by omega) y
      · rw [if_neg q]
        refine ⟨fun a => absurd (a k (Nat.le_refl k) hlt) q, fun _ => ?_⟩
        show fX10_isFarOf_L24_B F X m (nI g1) (nI g2) (fX10_isFarOf_L24 F X m (nI g1) (nI g2) t) 0 (nI (k + 1)) = _
        unfold fX10_isFarOf_L24_B
        simp only [gM hM, hX, Option.bind_some, l1, hn.1, if_true, ite_self]
theorem isFarOf_ok {F : Nat} {X Y : qH} {m g1 g2 n1 n2 : Nat} {d e : Nat → Nat} (hX : shX X = Y) (hM : YM Y m) (l1 : g1 < 8) (l2 : g2 < 8) (hn : ga X (m + 3) g1 = nI n1 ∧ n1 ≤ 5) (hn2 : ga X (m + 3) g2 = nI n2 ∧ n2 ≤ 5) (hd : ∀ k : Nat, k < n1 → ga X (m + 4) (5 * g1 + k) = nI (d k) ∧ 1 ≤ d k ∧ d k ≤ 5) (he : ∀ k : Nat, k < n2 → ga X (m + 4) (5 * g2 + k) = nI (e k) ∧ 1 ≤ e k ∧ e k ≤ 5) (hF : 10 ≤ F) :
    fX10_isFarOf F X m (nI g1) (nI g2) = some (if stN (rvF d n1) n1 = stN e n2 then 1 else 0) := by
  have b1 := hn.2
  have b2 := hn2.2
  obtain ⟨F', rfl⟩ : ∃ q, F = q + 1 := ⟨F - 1, by omega⟩
  have hr : ∀ i : Nat, i < n1 → 1 ≤ rvF d n1 i ∧ rvF d n1 i ≤ 5 := fun i hi => (hd (n1 - 1 - i) (by omega)).2
  have hinj := stN_inj (d := rvF d n1) (e := e) n1 n2 hr (fun i hi => (he i hi).2)
  by_cases q : n1 = n2
  · subst q
    have hL := isFarOf_L (F := F' + 1) hX hM l1 l2 hn hd he F' 0 (by omega) (by omega)
    rw [show nI 0 = (0 : Int32) from rfl] at hL
    by_cases z : stN (rvF d n1) n1 = stN e n1
    · have k := hL.1 (fun i _ hi => (hinj z).2 i hi)
      rw [if_pos z]
      simp only [fX10_isFarOf, gM hM, hX, Option.bind_some, l1, l2, hn.1, hn2.1, if_true, k]
      rfl
    · have k := hL.2 (fun a => z (stN_congr n1 (fun i hi => a i (by omega) hi)))
      rw [if_neg z]
      simp only [fX10_isFarOf, gM hM, hX, Option.bind_some, l1, l2, hn.1, hn2.1, if_true, k]
      rfl
  · rw [if_neg (fun z => q (hinj z).1)]
    have k : fX10_isFarOf_L24 (F' + 1) X m (nI g1) (nI g2) (F' + 1) 0 0 = some 0 := by
      show fX10_isFarOf_L24_B (F' + 1) X m (nI g1) (nI g2) (fX10_isFarOf_L24 (F' + 1) X m (nI g1) (nI g2) F') 0 0 = _
      unfold fX10_isFarOf_L24_B
      simp only [gM hM, hX, Option.bind_some, l1, hn.1, if_true, ite_self]
    simp only [fX10_isFarOf, gM hM, hX, Option.bind_some, l1, l2, hn.1, hn2.1, if_neg (fun z => q ((nI_eq (by omega) (by omega)).mp z)), k]
    rfl
