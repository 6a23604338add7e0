/-! bay: stars, in the class; numbers, in the model -/
def sdF (tx : Nat → Nat) (q i : Nat) : Nat := tx (q + i) - 96
def snN (tx : Nat → Nat) (N p : Nat) : Nat := rn tx N 97 101 (sk tx N p)
def ssF (tx : Nat → Nat) (N cnt : Nat) (st : Nat → Nat) (p : Nat) : Nat := if snN tx N p = 0 ∨ 6 ≤ snN tx N p then 1 else if lsF st (stN (sdF tx (sk tx N p)) (snN tx N p)) cnt = -1 then 0 else 4
def ssP (tx : Nat → Nat) (N p : Nat) : Nat := if 6 ≤ snN tx N p then sk tx N p + 5 else sk tx N p
theorem sd_in {tx : Nat → Nat} {N p : Nat} {i : Nat} (h : i < snN tx N p) : 1 ≤ sdF tx (sk tx N p) i ∧ sdF tx (sk tx N p) i ≤ 5 := by
  have := rn_all i _ h
  unfold sdF
  omega
section RDC
variable {F : Nat} {X0 X Y : qH} {sz N f p : Nat} {fp : Int32} {tx : Nat → Nat}
theorem c_starsL (w6 : Y6 Y (sz + 12)) (w9 : Y9 Y sz) {q b : Nat} : ∀ (n j : Nat) (X : qH), RC X0 Y sz N tx f fp (q + j) X → j ≤ 5 → N - (q + j) < n → ∃ X2, fX6_readStars_L20 F (sz + 12) b (nI q) n (nI (stN (sdF tx q) j)) X = some (nI (stN (sdF tx q) (min 5 (j + rn tx N 97 101 (q + j)))), X2) ∧ RC X0 Y sz N tx f fp (q + min 5 (j + rn tx N 97 101 (q + j))) X2 := by
  intro n
  induction n with
  | zero => intro j X h hj hn; omega
  | succ n ih =>
    intro j X h hj hn
    obtain ⟨h1, h2, h3, h4, ⟨h5, h5b, h5c⟩, h6, h7, h8, h9⟩ := id h
    show ∃ X2, fX6_readStars_L20_B F (sz + 12) b (nI q) (fX6_readStars_L20 F (sz + 12) b (nI q) n) (nI (stN (sdF tx q) j)) X = _ ∧ _
    unfold fX6_readStars_L20_B
    by_cases z : q + j < N
    · have l : q + j < 230 := by omega
      obtain ⟨t1, t2⟩ := h9 (q + j) z
      by_cases z1 : tx (q + j) < 97
      · have e : min 5 (j + rn tx N 97 101 (q + j)) = j := by rw [rn_stop (by omega)]; omega
        rw [e]
        refine ⟨X, ?_, h⟩
        simp only [g6 w6, g9 w9, h1, Option.bind_some, h3, h4, h5, if_neg (nI_ge z (by omega)), l, t1, if_pos (show nI (tx (q + j)) < (97 : Int32) from nI_lt (b := 97) z1 (by omega))]
      · have n1 : ¬ nI (tx (q + j)) < (97 : Int32) := nI_nlt (b := 97) (by omega) (by omega)
        by_cases z2 : 101 < tx (q + j)
        · have e : min 5 (j + rn tx N 97 101 (q + j)) = j := by rw [rn_stop (by omega)]; omega
          rw [e]
          refine ⟨X, ?_, h⟩
          simp only [g6 w6, g9 w9, h1, Option.bind_some, h3, h4, h5, if_neg (nI_ge z (by omega)), l, t1, if_neg n1, if_pos (show (101 : Int32) < nI (tx (q + j)) from nI_lt (a := 101) z2 (by omega))]
        · have n2 : ¬ (101 : Int32) < nI (tx (q + j)) := nI_nlt (a := 101) (by omega) (by omega)
          have es : nI (q + j) - nI q = nI j := by rw [pk_sub (by omega), Nat.add_sub_cancel_left]
          by_cases z3 : j = 5
          · have e : min 5 (j + rn tx N 97 101 (q + j)) = j := by omega
            rw [e]
            refine ⟨X, ?_, h⟩
            simp only [g6 w6, g9 w9, h1, Option.bind_some, h3, h4, h5, if_neg (nI_ge z (by omega)), l, t1, if_neg n1, if_neg n2, es, if_pos (show (5 : Int32) ≤ nI j from nI_le (a := 5) (by omega) (by omega))]
          · obtain ⟨a1, a2⟩ := h.at w6 (p2 := q + j + 1) (by omega)
            obtain ⟨X2, k1, k2⟩ := ih (j + 1) _ a1 (by omega) (by omega)
            have ev : nI (stN (sdF tx q) j) * (10 : Int32) + nI (tx (q + j)) - (97 : Int32) + 1 = nI (stN (sdF tx q) (j + 1)) := by
              rw [show (10 : Int32) = nI 10 from rfl, show (97 : Int32) = nI 97 from rfl, pk_mul, nI_add, pk_sub (by omega), nI_1, stN]
              congr 1
              unfold sdF
              omega
            have er : rn tx N 97 101 (q + j) = rn tx N 97 101 (q + (j + 1)) + 1 := rn_step ⟨z, by omega, by omega⟩
            have e : min 5 (j + rn tx N 97 101 (q + j)) = min 5 (j + 1 + rn tx N 97 101 (q + (j + 1))) := by omega
            rw [e]
            refine ⟨X2, ?_, k2⟩
            simp only [g6 w6, s6 w6, g9 w9, h1, Option.bind_some, h3, h4, h5, if_neg (nI_ge z (by omega)), l, t1, if_neg n1, if_neg n2, es, if_neg (show ¬ (5 : Int32) ≤ nI j from nI_ge (b := 5) (by omega) (by omega)), qlt, ev]
            rw [nI_1 (q + j)]
            exact k1
    · have e : min 5 (j + rn tx N 97 101 (q + j)) = j := by rw [rn_stop (by omega)]; omega
      rw [e]
      refine ⟨X, ?_, h⟩
      simp only [g6 w6, h1, Option.bind_some, h4, h5, if_pos (nI_le (show N ≤ q + j by omega) (by omega))]
theorem c_stars (w6 : Y6 Y (sz + 12)) (w9 : Y9 Y sz) (hF : 1000 ≤ F) {b cnt : Nat} {st : Nat → Nat} (wB : YB Y b) (hb : b + 5 ≤ sz + 12) (c8 : cnt ≤ 8) (hc : gi X0 b 5 = nI cnt) (hst : ∀ g : Nat, g < cnt → ga X0 (b + 4) g = nI (st g) ∧ st g < 100000) (hij : ∀ x y : Nat, x < cnt → y < cnt → st x = st y → x = y) (h : RC X0 Y sz N tx 0 (-1) p X) :
    (ssF tx N cnt st p = 0 → ∃ X2, fX6_readStars F X (sz + 12) b = some (nI (stN (sdF tx (sk tx N p)) (snN tx N p)), X2) ∧ RC X0 Y sz N tx 0 (-1) (sk tx N p + snN tx N p) X2) ∧
    (ssF tx N cnt st p ≠ 0 → ∃ v X2 p2, fX6_readStars F X (sz + 12) b = some (v, X2) ∧ RC X0 Y sz N tx (ssF tx N cnt st p) (nI (ssP tx N p)) p2 X2) := by
  obtain ⟨X2, k1, k2, k3⟩ := c_skip (F := F) w6 w9 hF h
  obtain ⟨h1, h2, h3, h4, ⟨h5, h5b, h5c⟩, h6, h7, h8, h9⟩ := id k2
  obtain ⟨X5, m1, m2⟩ := c_starsL (F := F) (q := sk tx N p) (b := b) w6 w9 F 0 X2 k2 (by omega) (by omega)
  have hle := rn_le (tx := tx) (N := N) (lo := 97) (hi := 101) _ (sk tx N p) rfl h5b
  rw [Nat.zero_add, show sk tx N p + 0 = sk tx N p from rfl] at m1 m2
  have hsd := fun i hi => sd_in (tx := tx) (N := N) (p := p) (i := i) hi
  have hssp : ssP tx N p = if 6 ≤ snN tx N p then sk tx N p + 5 else sk tx N p := rfl
  have hssf : ssF tx N cnt st p = if snN tx N p = 0 ∨ 6 ≤ snN tx N p then 1 else if lsF st (stN (sdF tx (sk tx N p)) (snN tx N p)) cnt = -1 then 0 else 4 := rfl
  have hsn : rn tx N 97 101 (sk tx N p) = snN tx N p := rfl
  have hstop : snN tx N p ≤ 5 → ¬ (sk tx N p + snN tx N p < N ∧ 97 ≤ tx (sk tx N p + snN tx N p) ∧ tx (sk tx N p + snN tx N p) ≤ 101) := by
    have key : ∀ n q : Nat, rn tx N 97 101 q = n → ¬ (q + n < N ∧ 97 ≤ tx (q + n) ∧ tx (q + n) ≤ 101) := by
      intro n
      induction n with
      | zero =>
        intro q hq y
        rw [rn_step (by exact y)] at hq
        omega
      | succ n ih =>
        intro q hq
        have hp := rn_pos (show 0 < rn tx N 97 101 q by omega)
        rw [rn_step hp] at hq
        have := ih (q + 1) (by omega)
        rwa [show q + 1 + n = q + (n + 1) by omega] at this
    exact fun _ => key _ _ rfl
  rw [hsn] at m1 m2 hle
  have m1' : fX6_readStars_L20 F (sz + 12) b (nI (sk tx N p)) F (0 : Int32) X2 = some (nI (stN (sdF tx (sk tx N p)) (min 5 (snN tx N p))), X5) := m1
  obtain ⟨g1, g2, g3, g4, ⟨g5, g5b, g5c⟩, g6', g7, g8, g9'⟩ := id m2
  have hh6 : gi X (sz + 12) 4 = nI 0 := h.2.2.2.2.2.1
  rw [hssf, hssp]
  by_cases z0 : snN tx N p = 0
  · rw [if_pos (Or.inl z0), if_neg (show ¬ 6 ≤ snN tx N p by omega)]
    refine ⟨fun y => by omega, fun _ => ?_⟩
    have emin : min 5 (snN tx N p) = 0 := by omega
    rw [emin] at m1' m2 g5
    rw [show sk tx N p + 0 = sk tx N p from rfl] at m2 g5
    obtain ⟨X6, f1, f2⟩ := c_fail (F := F) w6 m2 (k := 1) (by omega) (nI (sk tx N p))
    have f1' : fX6_fail F X5 (sz + 12) (1 : Int32) (nI (sk tx N p)) = some X6 := f1
    refine ⟨nI (stN (sdF tx (sk tx N p)) 0), X6, _, ?_, f2⟩
    simp only [fX6_readStars, g6 w6, h.1, Option.bind_some, hh6, if_pos (show nI 0 = (0 : Int32) from rfl), k1, h1, h5, m1', qb2, g1, g5, qlab, if_true, f1']
  · by_cases z6 : 6 ≤ snN tx N p
    · rw [if_pos (Or.inr z6), if_pos z6]
      refine ⟨fun y => by omega, fun _ => ?_⟩
      have emin : min 5 (snN tx N p) = 5 := by omega
      rw [emin] at m1' m2 g5
      obtain ⟨X6, f1, f2⟩ := c_fail (F := F) w6 m2 (k := 1) (by omega) (nI (sk tx N p + 5))
      have f1' : fX6_fail F X5 (sz + 12) (1 : Int32) (nI (sk tx N p + 5)) = some X6 := f1
      have hlt : sk tx N p + 5 < N := by omega
      obtain ⟨t1, t2⟩ := g9' _ hlt
      have hst5 := rn_all (tx := tx) (N := N) (lo := 97) (hi := 101) 5 (sk tx N p) (by omega)
      have ne : ¬ nI (sk tx N p + 5) = nI (sk tx N p) := fun y => by have := (nI_eq (by omega) (by omega)).mp y; omega
      have l : sk tx N p + 5 < 230 := by omega
      refine ⟨nI (stN (sdF tx (sk tx N p)) 5), X6, _, ?_, f2⟩
      simp only [fX6_readStars, g6 w6, g9 w9, h.1, Option.bind_some, hh6, if_pos (show nI 0 = (0 : Int32) from rfl), k1, h1, h5, m1', qb2, g1, g5, qlab, if_neg ne, g4, if_neg (nI_ge hlt (by omega)), g3, l, t1, if_neg (show ¬ nI (tx (sk tx N p + 5)) < (97 : Int32) from nI_nlt (b := 97) (by omega) (by omega)), if_neg (show ¬ (101 : Int32) < nI (tx (sk tx N p + 5)) from nI_nlt (a := 101) (by omega) (by omega)), f1']
    · rw [if_neg (by omega), if_neg z6]
      have emin : min 5 (snN tx N p) = snN tx N p := by omega
      rw [emin] at m1' m2 g5
      have ne : ¬ nI (sk tx N p + snN tx N p) = nI (sk tx N p) := fun y => by have := (nI_eq (by omega) (by omega)).mp y; omega
      have hv := stN_lt5 (d := sdF tx (sk tx N p)) (n := snN tx N p) (fun i hi => (hsd i hi).2) (by omega)
      have hos := houseOfStars_ok (F := F) (p := stN (sdF tx (sk tx N p)) (snN tx N p)) (ce := st) g1 wB (by rw [gi_congr (g2 b (by omega))]; exact hc) c8 (fun g hg => by rw [ga_congr (g2 (b + 4) (by omega))]; exact hst g hg) (by omega) hij (by omega)
      have hJ : ∀ {α : Type} (A B : Option α), (if nI N ≤ nI (sk tx N p + snN tx N p) then A else ((qgR X5 6 (sz + 12) 0).bind fun v32 => (qgI X5 6 (sz + 12) 2).bind fun v33 => (qaI X5 0 v32 v33).bind fun v34 => if v34 < (97 : Int32) then A else ((qgR X5 6 (sz + 12) 0).bind fun v35 => (qgI X5 6 (sz + 12) 2).bind fun v36 => (qaI X5 0 v35 v36).bind fun v37 => if (101 : Int32) < v37 then A else B))) = A := fun {α} A B => by
        by_cases y : N ≤ sk tx N p + snN tx N p
        · rw [if_pos (nI_le y (by omega))]
        · have hlt : sk tx N p + snN tx N p < N := by omega
          have l : sk tx N p + snN tx N p < 230 := by omega
          obtain ⟨t1, t2⟩ := g9' (sk tx N p + snN tx N p) hlt
          rw [if_neg (nI_ge hlt (by omega))]
          simp only [g6 w6, g9 w9, g1, Option.bind_some, g3, g5, l, t1]
          by_cases y1 : tx (sk tx N p + snN tx N p) < 97
          · rw [if_pos (show nI (tx (sk tx N p + snN tx N p)) < (97 : Int32) from nI_lt (b := 97) y1 (by omega))]
          · rw [if_neg (show ¬ nI (tx (sk tx N p + snN tx N p)) < (97 : Int32) from nI_nlt (b := 97) (by omega) (by omega))]
            have := hstop (by omega)
            rw [if_pos (show (101 : Int32) < nI (tx (sk tx N p + snN tx N p)) from nI_lt (a := 101) (by omega) (by omega))]
      generalize hZ : lsF st (stN (sdF tx (sk tx N p)) (snN tx N p)) cnt = Z at hos
      by_cases zd : Z = -1
      · rw [if_pos zd]
        refine ⟨fun _ => ⟨X5, ?_, m2⟩, fun y => absurd rfl y⟩
        simp only [fX6_readStars, g6 w6, h.1, Option.bind_some, hh6, if_pos (show nI 0 = (0 : Int32) from rfl), k1, h1, h5, m1', qb2, g1, g5, qlab, if_neg ne, g4]
        have hj := hJ (α := qH) ((fX0_houseOfStars F X5 b (nI (stN (sdF tx (sk tx N p)) (snN tx N p)))).bind fun v30 => if v30 = (-1 : Int32) then (some X5) else ((fX6_fail F X5 (sz + 12) (4 : Int32) (nI (sk tx N p))).bind fun X31 => some X31)) ((fX6_fail F X5 (sz + 12) (1 : Int32) (nI (sk tx N p + snN tx N p))).bind fun X27 => some X27)
        simp only [g6 w6, g1, Option.bind_some, g5] at hj
        rw [hj, hos, Option.bind_some, if_pos zd]
        rfl
      · rw [if_neg zd]
        refine ⟨fun y => by omega, fun _ => ?_⟩
        obtain ⟨X6, f1, f2⟩ := c_fail (F := F) w6 m2 (k := 4) (by omega) (nI (sk tx N p))
        have f1' : fX6_fail F X5 (sz + 12) (4 : Int32) (nI (sk tx N p)) = some X6 := f1
        refine ⟨nI (stN (sdF tx (sk tx N p)) (snN tx N p)), X6, _, ?_, f2⟩
        simp only [fX6_readStars, g6 w6, h.1, Option.bind_some, hh6, if_pos (show nI 0 = (0 : Int32) from rfl), k1, h1, h5, m1', qb2, g1, g5, qlab, if_neg ne, g4]
        have hj := hJ (α := qH) ((fX0_houseOfStars F X5 b (nI (stN (sdF tx (sk tx N p)) (snN tx N p)))).bind fun v30 => if v30 = (-1 : Int32) then (some X5) else ((fX6_fail F X5 (sz + 12) (4 : Int32) (nI (sk tx N p))).bind fun X31 => some X31)) ((fX6_fail F X5 (sz + 12) (1 : Int32) (nI (sk tx N p + snN tx N p))).bind fun X27 => some X27)
        simp only [g6 w6, g1, Option.bind_some, g5] at hj
        rw [hj, hos, Option.bind_some, if_neg zd, f1']
        rfl
end RDC
/-! the model -/
def MT (X : qH) (m N : Nat) (tx : Nat → Nat) : Prop := gi X m 11 = nI N ∧ N ≤ 230 ∧ ∀ i : Nat, i < N → ga X (m + 6) i = nI (tx i) ∧ tx i ≤ 255
def MS (S : List Nat) (Y X : qH) (m : Nat) (X2 : qH) : Prop := shX X2 = Y ∧ (∀ q : Nat, q ≠ m → X2 q = X q) ∧ ∀ k : Nat, k ∉ S → gi X2 m k = gi X m k
section RDM
variable {F : Nat} {X Y : qH} {m N p : Nat} {tx : Nat → Nat}
theorem MT.s {X X2 : qH} {S : List Nat} (h : MT X m N tx) (hs : MS S Y X m X2) (h11 : 11 ∉ S) : MT X2 m N tx := by
  obtain ⟨a1, a2, a3⟩ := h
  refine ⟨by rw [hs.2.2 11 h11]; exact a1, a2, fun i hi => ?_⟩
  rw [ga_congr (hs.2.1 (m + 6) (by omega))]
  exact a3 i hi
theorem MS.rfl' (hX : shX X = Y) (S : List Nat) : MS S Y X m X := ⟨hX, fun _ _ => rfl, fun _ _ => rfl⟩
theorem MS.pI {X2 : qH} {S : List Nat} (h : MS S Y X m X2) (wM : YM Y m) {k : Nat} (hk : k ∈ S) {v : Int32} (hsh : shX (pI X2 m k v) = Y) (hu : ∀ j : Nat, gi (pI X2 m k v) m j = if j = k then v else gi X2 m j) : MS S Y X m (pI X2 m k v) :=
  ⟨hsh, fun q hq => (pV_ne hq).trans (h.2.1 q hq), fun j hj => by rw [hu, if_neg (fun y => hj (by rw [y]; exact hk))]; exact h.2.2 j hj⟩
theorem m_hereL (wM : YM Y m) {X0 : qH} (hT : MT X0 m N tx) : ∀ (n p : Nat) (X : qH), MS [13] Y X0 m X → gi X m 13 = nI p → p ≤ N → N - p < n → ∃ X2, fX10_here_L0 F m n X = some X2 ∧ MS [13] Y X0 m X2 ∧ gi X2 m 13 = nI (sk tx N p) := by
  intro n
  induction n with
  | zero => intro p X h1 h2 h3 hn; omega
  | succ n ih =>
    intro p X h1 h2 h3 hn
    obtain ⟨t11, t30, ht⟩ := hT.s h1 (by decide)
    show ∃ X2, fX10_here_L0_B F m (fX10_here_L0 F m n) X = some X2 ∧ _
    unfold fX10_here_L0_B
    by_cases z : p < N
    · have l : p < 230 := by omega
      obtain ⟨t1, t2⟩ := ht p z
      have e32 : (nI (tx p) = (32 : Int32)) = (tx p = 32) := propext (nI_eq (b := 32) (by omega) (by omega))
      by_cases z2 : tx p = 32
      · have hs := h1.pI wM (k := 13) (v := nI (p + 1)) (by decide) (by simp only [kM wM, h1.1]) (fun j => by simp only [uM wM, h1.1])
        obtain ⟨X2, k1, k2, k3⟩ := ih (p + 1) _ hs (by simp only [uM wM, h1.1, if_true]) (by omega) (by omega)
        refine ⟨X2, ?_, k2, by rw [sk_step z z2]; exact k3⟩
        simp only [gM wM, sM wM, h1.1, Option.bind_some, h2, t11, if_neg (nI_ge z (by omega)), l, t1, e32, if_pos z2, qlt, nI_1]
        exact k1
      · refine ⟨X, ?_, h1, by rw [sk_stay (fun y => z2 y.2)]; exact h2⟩
        simp only [gM wM, h1.1, Option.bind_some, h2, t11, if_neg (nI_ge z (by omega)), l, t1, e32, if_neg z2]
    · refine ⟨X, ?_, h1, by rw [sk_stay (fun y => z y.1)]; exact h2⟩
      simp only [gM wM, h1.1, Option.bind_some, h2, t11, if_pos (nI_le (show N ≤ p by omega) (by omega))]
def hvI (tx : Nat → Nat) (N p : Nat) : Int32 := if sk tx N p < N then nI (tx (sk tx N p)) else -1
theorem m_here (wM : YM Y m) (hX : shX X = Y) (hT : MT X m N tx) (hp : gi X m 13 = nI p) (hpN : p ≤ N) (hF : 1000 ≤ F) : ∃ X2, fX10_here F X m = some (hvI tx N p, X2) ∧ MS [13] Y X m X2 ∧ gi X2 m 13 = nI (sk tx N p) := by
  have hN := hT.2.1
  obtain ⟨X2, k1, k2, k3⟩ := m_hereL (F := F) wM hT F p X (MS.rfl' hX _) hp hpN (by omega)
  obtain ⟨t11, t30, ht⟩ := hT.s k2 (by decide)
  refine ⟨X2, ?_, k2, k3⟩
  unfold hvI
  by_cases z : sk tx N p < N
  · have l : sk tx N p < 230 := by omega
    rw [if_pos z]
    simp only [fX10_here, gM wM, hX, k1, k2.1, Option.bind_some, k3, t11, if_neg (nI_ge z (by omega)), l, (ht _ z).1]
  · have hle := (sk_in (tx := tx) _ p rfl hpN).2.1
    rw [if_neg z]
    simp only [fX10_here, gM wM, hX, k1, k2.1, Option.bind_some, k3, t11, if_pos (nI_le (show N ≤ sk tx N p by omega) (by omega))]
theorem m_numL (wM : YM Y m) {X0 : qH} {q : Nat} {lo hi : Int32} (hT : MT X0 m N tx) : ∀ (n j : Nat) (X : qH), MS [13, 14, 15] Y X0 m X → gi X m 13 = nI (q + j) → (j ≤ 3 → gi X m 14 = nI (vl tx q j)) → gi X m 15 = nI q → q + j ≤ N → (∀ i : Nat, i < j → tx (q + i) ≤ 57) → N - (q + j) < n → ∃ X2, fX10_takeNumber_L42 F m lo hi n X = some X2 ∧ MS [13, 14, 15] Y X0 m X2 ∧ gi X2 m 13 = nI (q + (j + rn tx N 48 57 (q + j))) ∧ (j + rn tx N 48 57 (q + j) ≤ 3 → gi X2 m 14 = nI (vl tx q (j + rn tx N 48 57 (q + j)))) ∧ gi X2 m 15 = nI q := by
  intro n
  induction n with
  | zero => intro j X h1 h2 h3 h4 h5 h6 hn; omega
  | succ n ih =>
    intro j X h1 h2 h3 h4 h5 h6 hn
    obtain ⟨t11, t30, ht⟩ := hT.s h1 (by decide)
    show ∃ X2, fX10_takeNumber_L42_B F m lo hi (fX10_takeNumber_L42 F m lo hi n) X = some X2 ∧ _
    unfold fX10_takeNumber_L42_B
    by_cases z : q + j < N
    · have l : q + j < 230 := by omega
      obtain ⟨t1, t2⟩ := ht (q + j) z
      have hin := l_in F X (nI (tx (q + j))) 48 57 (l := 48) (h := 57) rfl rfl
      by_cases z1 : 48 ≤ tx (q + j) ∧ tx (q + j) ≤ 57
      · have hy : (48 : Int32) ≤ nI (tx (q + j)) ∧ nI (tx (q + j)) ≤ 57 := ⟨nI_le (a := 48) z1.1 (by omega), nI_le (b := 57) z1.2 (by omega)⟩
        have er : rn tx N 48 57 (q + j) = rn tx N 48 57 (q + (j + 1)) + 1 := rn_step ⟨z, z1⟩
        have hv : ∃ w : Int32, (if gi X m 14 ≤ (10000 : Int32) then (10 : Int32) * gi X m 14 + nI (tx (q + j)) - 48 else gi X m 14) = w ∧ (j + 1 ≤ 3 → w = nI (vl tx q (j + 1))) := by
          refine ⟨_, rfl, fun hj => ?_⟩
          have hb := vl_lt (tx := tx) (p := q) j h6
          have hb2 : 10 ^ j ≤ 10 ^ 3 := Nat.pow_le_pow_right (by omega) (by omega)
          rw [h3 (by omega), if_pos (show nI (vl tx q j) ≤ (10000 : Int32) from nI_le (b := 10000) (by omega) (by omega)), show (10 : Int32) = nI 10 from rfl, show (48 : Int32) = nI 48 from rfl, pk_mul, nI_add, pk_sub (by omega), vl]
          congr 1
          omega
        obtain ⟨w, hw1, hw2⟩ := hv
        have s1 := h1.pI wM (k := 14) (v := w) (by decide) (by simp only [kM wM, h1.1]) (fun j => by simp only [uM wM, h1.1])
        have s2 := s1.pI wM (k := 13) (v := nI (q + j + 1)) (by decide) (by simp only [kM wM, s1.1]) (fun j => by simp only [uM wM, s1.1])
        have e13 : gi (pI X m 14 w) m 13 = nI (q + j) := by simp only [uM wM, h1.1]; exact h2
        obtain ⟨X2, k1, k2, k3, k4, k5⟩ := ih (j + 1) _ s2 (by simp only [uM wM, s1.1, if_true]; rfl) (fun hj => by simp only [uM wM, s1.1, h1.1]; exact hw2 hj) (by simp only [uM wM, s1.1, h1.1]; exact h4) (by omega) (fun i hi => by
          by_cases y : i = j
          · subst y; exact z1.2
          · exact h6 i (by omega)) (by omega)
        refine ⟨X2, ?_, k2, by rw [er, show j + (rn tx N 48 57 (q + (j + 1)) + 1) = j + 1 + rn tx N 48 57 (q + (j + 1)) by omega]; exact k3, by rw [er, show j + (rn tx N 48 57 (q + (j + 1)) + 1) = j + 1 + rn tx N 48 57 (q + (j + 1)) by omega]; exact k4, k5⟩
        simp only [gM wM, sM wM, h1.1, Option.bind_some, h2, t11, if_neg (nI_ge z (by omega)), l, t1, hin, if_pos hy, if_neg (show ¬ (1 : Int32) = 0 by decide), some_ite, hw1, s1.1, e13, qlt, nI_1]
        exact k1
      · have hy : ¬ ((48 : Int32) ≤ nI (tx (q + j)) ∧ nI (tx (q + j)) ≤ 57) := fun y => z1 ⟨(nI_leI (a := 48) (by omega) (by omega)).mp y.1, (nI_leI (b := 57) (by omega) (by omega)).mp y.2⟩
        have er : rn tx N 48 57 (q + j) = 0 := rn_stop (fun y => z1 y.2)
        refine ⟨X, ?_, h1, by rw [er]; exact h2, by rw [er]; exact h3, h4⟩
        simp only [gM wM, h1.1, Option.bind_some, h2, t11, if_neg (nI_ge z (by omega)), l, t1, hin, if_neg hy, if_true]
    · have er : rn tx N 48 57 (q + j) = 0 := rn_stop (fun y => z y.1)
      refine ⟨X, ?_, h1, by rw [er]; exact h2, by rw [er]; exact h3, h4⟩
      simp only [gM wM, h1.1, Option.bind_some, h2, t11, if_pos (nI_le (show N ≤ q + j by omega) (by omega))]
end RDM
