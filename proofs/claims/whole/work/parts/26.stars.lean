/-! stars: count, starNumber -/
theorem stN_lt {d : Nat → Nat} {n : Nat} (hd : ∀ k : Nat, k < n → d k ≤ 5) : stN d n < 10 ^ n := by
  induction n with
  | zero => simp [stN]
  | succ n ih =>
    have := ih (fun k hk => hd k (by omega))
    have h5 := hd n (by omega)
    rw [stN, Nat.pow_succ]
    omega
theorem stN_lt5 {d : Nat → Nat} {n : Nat} (hd : ∀ k : Nat, k < n → d k ≤ 5) (hn : n ≤ 5) : stN d n < 100000 := by
  have h1 := stN_lt hd
  have h2 : 10 ^ n ≤ 10 ^ 5 := Nat.pow_le_pow_right (by omega) hn
  omega
theorem count_L {F : Nat} {X : qH} {d : Nat → Nat} : ∀ (j n k : Nat), (∀ i : Nat, i < j → 1 ≤ d i ∧ d i ≤ 5) → j ≤ 5 → j < n → fX8_count_L4 F X n (nI k) (nI (stN d j)) = some (nI (k + j)) := by
  intro j
  induction j with
  | zero =>
    intro n k hd hj hn
    obtain ⟨n', rfl⟩ : ∃ q, n = q + 1 := ⟨n - 1, by omega⟩
    show fX8_count_L4_B F X (fX8_count_L4 F X n') (nI k) (nI (stN d 0)) = _
    unfold fX8_count_L4_B
    rw [show stN d 0 = 0 from rfl, if_pos (show nI 0 ≤ 0 by decide)]
    rfl
  | succ j ih =>
    intro n k hd hj hn
    obtain ⟨n', rfl⟩ : ∃ q, n = q + 1 := ⟨n - 1, by omega⟩
    show fX8_count_L4_B F X (fX8_count_L4 F X n') (nI k) (nI (stN d (j + 1))) = _
    unfold fX8_count_L4_B
    have hlt := stN_lt5 (d := d) (n := j + 1) (fun i hi => (hd i hi).2) hj
    have hdj := hd j (by omega)
    have e : stN d (j + 1) = 10 * stN d j + d j := rfl
    have h0 : ¬ nI (stN d (j + 1)) ≤ 0 := nI_nle (by omega) (by omega)
    have hdv : nI (stN d (j + 1)) / 10 = nI (stN d j) := by
      rw [show (10 : Int32) = nI 10 from rfl, pk_div (by omega) (by omega) (by omega), e]
      congr 1
      omega
    rw [if_neg h0]
    simp only [qlt, nI_1, hdv]
    rw [ih n' (k + 1) (fun i hi => hd i (by omega)) (by omega) (by omega)]
    congr 2
    omega
theorem count_ok {F : Nat} {X : qH} {d : Nat → Nat} {n : Nat} (hd : ∀ i : Nat, i < n → 1 ≤ d i ∧ d i ≤ 5) (hn : n ≤ 5) (hF : 10 ≤ F) : fX8_count F X (nI (stN d n)) = some (nI n) := by
  unfold fX8_count
  rw [show (0 : Int32) = nI 0 from rfl, count_L n F 0 hd hn (by omega)]
  simp
theorem starNumber_L {F : Nat} {X Y : qH} {m h n : Nat} {d : Nat → Nat} (hX : shX X = Y) (hM : YM Y m) (hh : h < 8) (hn : ga X (m + 3) h = nI n ∧ n ≤ 5) (hd : ∀ k : Nat, k < n → ga X (m + 4) (5 * h + k) = nI (d k) ∧ 1 ≤ d k ∧ d k ≤ 5) :
    ∀ (t k : Nat), k ≤ n → n - k < t → fX10_starNumber_L4 F X m (nI h) t (nI (stN d k)) (nI k) = some (nI (stN d n)) := by
  intro t
  induction t with
  | zero => intro k hk ht; omega
  | succ t ih =>
    intro k hk ht
    have hn5 := hn.2
    show fX10_starNumber_L4_B F X m (nI h) (fX10_starNumber_L4 F X m (nI h) t) (nI (stN d k)) (nI k) = _
    unfold fX10_starNumber_L4_B
    by_cases hkn : k = n
    · subst hkn
      simp only [gM hM, hX, Option.bind_some, hh, hn.1, if_pos (nI_le (Nat.le_refl k) (by omega))]
    · have hlt : k < n := by omega
      have e1 : (5 : Int32) * nI h + nI k = nI (5 * h + k) := by
        rw [show (5 : Int32) = nI 5 from rfl, pk_mul, nI_add]
      have e2 : (10 : Int32) * nI (stN d k) + nI (d k) = nI (stN d (k + 1)) := by
        rw [show (10 : Int32) = nI 10 from rfl, pk_mul, nI_add]; rfl
      have l40 : 5 * h + k < 40 := by omega
      simp only [gM hM, hX, Option.bind_some, hh, hn.1, if_neg (nI_ge hlt (by omega)), e1, l40, (hd k hlt).1, qlt, e2, nI_1]
      exact ih (k + 1) (by omega) (by omega)
theorem starNumber_ok {F : Nat} {X Y : qH} {m h n : Nat} {d : Nat → Nat} (hX : shX X = Y) (hM : YM Y m) (hh : h < 8) (hn : ga X (m + 3) h = nI n ∧ n ≤ 5) (hd : ∀ k : Nat, k < n → ga X (m + 4) (5 * h + k) = nI (d k) ∧ 1 ≤ d k ∧ d k ≤ 5) (hF : 10 ≤ F) : fX10_starNumber F X m (nI h) = some (nI (stN d n)) := by
  have hn5 := hn.2
  have hL := starNumber_L (F := F) hX hM hh hn hd F 0 (by omega) (by omega)
  simp only [fX10_starNumber, gM hM, hX]
  rw [show stN d 0 = 0 from rfl, show nI 0 = (0 : Int32) from rfl] at hL
  rw [hL]; rfl
/-- house(h, what) -/
theorem op_house {F : Nat} {X : qH} {sz : Nat} (hI : Inv X sz) (hF : 300000 ≤ F) (v wh : Int32) : OpR (fun X => fX9_house F X sz v wh) (fun X => fX10_house F X (sz + 151) v wh) X := by
  obtain ⟨hW, hRl⟩ := id hI
  obtain ⟨rT, rF, rS, rB, rN, rP, rI, rD, rK⟩ := id hRl
  generalize hX : shX X = Y at hW
  obtain ⟨w9, -, -, -, wN, -, -, -, -, w2, w1, wM⟩ := id hW
  obtain ⟨b, w, c, ce, po, nn, dd, hb, wB⟩ := rB.get hX hW
  obtain ⟨⟨b3, -⟩, ⟨-, -, hw30⟩, ⟨bc, mc, c8, -⟩, -, -, hh, -⟩ := hb
  obtain ⟨c', c8', mc', ⟨n0, n1, n2, n3, -⟩, -⟩ := rN
  have hcc : c' = c := (nI_eq (by omega) (by omega)).mp (mc'.symm.trans mc)
  subst hcc
  have hh1 := has_ok (F := F) hX wB v
  have hh2 := isHouse_ok (F := F) hX wM mc c8 v
  rw [bc] at hh1
  by_cases hok : 0 ≤ v ∧ v < nI c'
  · rw [if_pos hok] at hh1 hh2
    obtain ⟨h, hl, rfl⟩ := nI_of (i_nlt.mpr hok.1)
    have hc := (nI_ltI hl (by omega)).mp hok.2
    have l8 : h < 8 := by omega
    obtain ⟨⟨q1, q2, q3⟩, ⟨p1, p2, p3, p4⟩, ⟨s1, s2, s3, s4⟩, s5⟩ := hh h hc
    obtain ⟨r1, r2, r3, r4⟩ := n3 h hc
    have cnt := count_ok (F := F) (X := X) (d := dd h) (n := nn h) (fun i hi => (s5 i hi).2) s3 (by omega)
    have sn := starNumber_ok (F := F) (d := dd h) hX wM l8 ⟨s1, s3⟩ s5 (by omega)
    have ra1 := readAs_c (F := F) (ce := ce) (po := po) hX wB bc c8 (fun g hg => ⟨(hh g hg).1.1, by have := (hh g hg).1.2.2; omega⟩) ⟨p1, p4⟩ hc (by omega)
    have ra2 := readAs_m (F := F) (ce := ce) (po := po) hX wM mc c8 (fun g hg => ⟨(hh g hg).1.2.1, by have := (hh g hg).1.2.2; omega⟩) ⟨p2, p4⟩ hc (by omega)
    have e3 : (3 : Int32) + nI h = nI (3 + h) := nI_add 3 h
    have e11 : (11 : Int32) + nI h = nI (11 + h) := nI_add 11 h
    have e19 : (19 : Int32) + nI h = nI (19 + h) := nI_add 19 h
    have l3 : 3 + h < 43 := by omega
    have l11 : 11 + h < 43 := by omega
    have l19 : 19 + h < 43 := by omega
    unfold OpR
    simp only [fX9_house, fX10_house, g9 w9, gB wB, gN wN, gM wM, hX, Option.bind_some, b3, hh1, hh2, if_neg (show ¬ (1 : Int32) = 0 by decide), l8, l3, l11, l19, e3, e11, e19, q1, q2, p1, p2, s1, s4, cnt, sn, ra1, ra2, r1, r2, r3, some_ite]
    exact ⟨_, rfl, rfl⟩
  · rw [if_neg hok] at hh1 hh2
    refine ⟨-1000000001, ?_, ?_⟩
    · simp only [fX9_house, g9 w9, hX, Option.bind_some, b3, hh1, if_true]
    · simp only [fX10_house, gM wM, hX, Option.bind_some, hh2, if_true]
/-- signers(h) -/
def sgF (f : Nat → Nat) (h : Nat) : Nat → Int32
  | 0 => 0
  | g + 1 => if f g = h then sgF f h g ||| ((1 : Int32) <<< (nI g &&& 31)) else sgF f h g
theorem or0 (x : Int32) : x ||| 0 = x := by
  apply Int32.toBitVec_inj.mp
  simp
theorem op_signers {F : Nat} {X : qH} {sz : Nat} (hI : Inv X sz) (hF : 300000 ≤ F) (v : Int32) : OpR (fun X => fX9_signers F X sz v) (fun X => fX10_signers F X (sz + 151) v) X := by
  obtain ⟨hW, hRl⟩ := id hI
  obtain ⟨rT, rF, rS, rB, rN, rP, rI, rD, rK⟩ := id hRl
  generalize hX : shX X = Y at hW
  obtain ⟨w9, -, -, -, wN, -, -, -, -, w2, w1, wM⟩ := id hW
  obtain ⟨b, w, c, ce, po, nn, dd, hb, wB⟩ := rB.get hX hW
  obtain ⟨⟨b3, -⟩, ⟨-, -, hw30⟩, ⟨bc, mc, c8, -⟩, -, -, hh, -⟩ := hb
  have hh1 := has_ok (F := F) hX wB v
  have hh2 := isHouse_ok (F := F) hX wM mc c8 v
  rw [bc] at hh1
  by_cases hok : 0 ≤ v ∧ v < nI c
  · rw [if_pos hok] at hh1 hh2
    obtain ⟨h, hl, rfl⟩ := nI_of (i_nlt.mpr hok.1)
    have hc := (nI_ltI hl (by omega)).mp hok.2
    have ra1 : ∀ g : Nat, g < c → fX0_readAs F X b (nI g) = some (nI (rd ce po c g)) := fun g hg => readAs_c (F := F) (ce := ce) (po := po) hX wB bc c8 (fun g hg => ⟨(hh g hg).1.1, by have := (hh g hg).1.2.2; omega⟩) ⟨(hh g hg).2.1.1, (hh g hg).2.1.2.2.2⟩ hg (by omega)
    have ra2 : ∀ g : Nat, g < c → fX10_readAs F X (sz + 151) (nI g) = some (nI (rd ce po c g)) := fun g hg => readAs_m (F := F) (ce := ce) (po := po) hX wM mc c8 (fun g hg => ⟨(hh g hg).1.2.1, by have := (hh g hg).1.2.2; omega⟩) ⟨(hh g hg).2.1.2.1, (hh g hg).2.1.2.2.2⟩ hg (by omega)
    have L1 : ∀ (n g : Nat), g ≤ c → c - g < n → fX9_signers_L18 F X sz (nI h) n (sgF (rd ce po c) h g) (nI g) = some (sgF (rd ce po c) h c) := by
      intro n
      induction n with
      | zero => intro g hg hn; omega
      | succ n ih =>
        intro g hg hn
        show fX9_signers_L18_B F X sz (nI h) (fX9_signers_L18 F X sz (nI h) n) _ (nI g) = _
        unfold fX9_signers_L18_B
        by_cases hgc : g = c
        · subst hgc
          simp only [g9 w9, gB wB, hX, Option.bind_some, b3, bc, if_pos (nI_le (Nat.le_refl g) (by omega))]
        · have hlt : g < c := by omega
          have hr := rd_lt (ce := ce) (po := po) hlt
          simp only [g9 w9, gB wB, hX, Option.bind_some, b3, bc, if_neg (nI_ge hlt (by omega)), ra1 g hlt, qlt, nI_1, nI_eq (show rd ce po c g < 2 ^ 31 by omega) hl, some_ite]
          exact ih (g + 1) (by omega) (by omega)
    have L2 : ∀ (n g : Nat), g ≤ c → c - g < n → fX10_signers_L15 F X (sz + 151) (nI h) n (sgF (rd ce po c) h g) (nI g) = some (sgF (rd ce po c) h c) := by
      intro n
      induction n with
      | zero => intro g hg hn; omega
      | succ n ih =>
        intro g hg hn
        show fX10_signers_L15_B F X (sz + 151) (nI h) (fX10_signers_L15 F X (sz + 151) (nI h) n) _ (nI g) = _
        unfold fX10_signers_L15_B
        by_cases hgc : g = c
        · subst hgc
          simp only [gM wM, hX, Option.bind_some, mc, if_pos (nI_le (Nat.le_refl g) (by omega))]
        · have hlt : g < c := by omega
          have hr := rd_lt (ce := ce) (po := po) hlt
          simp only [gM wM, hX, Option.bind_some, mc, if_neg (nI_ge hlt (by omega)), ra2 g hlt, qlt, nI_1, nI_eq (show rd ce po c g < 2 ^ 31 by omega) hl, some_ite]
          have e : (sgF (rd ce po c) h g ||| if rd ce po c g = h then (1 : Int32) <<< (nI g &&& 31) else 0) = sgF (rd ce po c) h (g + 1) := by
            rw [show sgF (rd ce po c) h (g + 1) = if rd ce po c g = h then sgF (rd ce po c) h g ||| ((1 : Int32) <<< (nI g &&& 31)) else sgF (rd ce po c) h g from rfl]
            split
            · rfl
            · rw [or0]
          rw [e]
          exact ih (g + 1) (by omega) (by omega)
    have e1 := L1 F 0 (by omega) (by omega)
    have e2 := L2 F 0 (by omega) (by omega)
    rw [show sgF (rd ce po c) h 0 = 0 from rfl, show nI 0 = (0 : Int32) from rfl] at e1 e2
    refine ⟨sgF (rd ce po c) h c, ?_, ?_⟩
    · simp only [fX9_signers, g9 w9, hX, Option.bind_some, b3, hh1, e1, if_neg (show ¬ (1 : Int32) = 0 by decide)]
    · simp only [fX10_signers, gM wM, hX, Option.bind_some, hh2, e2, if_neg (show ¬ (1 : Int32) = 0 by decide)]
  · rw [if_neg hok] at hh1 hh2
    refine ⟨-1000000001, ?_, ?_⟩
    · simp only [fX9_signers, g9 w9, hX, Option.bind_some, b3, hh1, if_true]
    · simp only [fX10_signers, gM wM, hX, Option.bind_some, hh2, if_true]
