/-! houseOn; cross -/
def lsF (ce : Nat → Nat) (p : Nat) : Nat → Int32
  | 0 => -1
  | k + 1 => if ce k = p then nI k else lsF ce p k
theorem lsF_hit {ce : Nat → Nat} {p g : Nat} : ∀ c : Nat, (∀ x y : Nat, x < c → y < c → ce x = ce y → x = y) → g < c → ce g = p → lsF ce p c = nI g := by
  intro c
  induction c with
  | zero => intro _ h; omega
  | succ c ih =>
    intro hi hg hp
    by_cases hgc : g = c
    · subst hgc
      simp only [lsF, if_pos hp]
    · have hne : ¬ ce c = p := fun q => hgc (hi g c (by omega) (by omega) (by rw [hp, q]))
      simp only [lsF, if_neg hne]
      exact ih (fun x y hx hy => hi x y (by omega) (by omega)) (by omega) hp
theorem lsF_none {ce : Nat → Nat} {p : Nat} : ∀ c : Nat, (∀ g : Nat, g < c → ce g ≠ p) → lsF ce p c = -1 := by
  intro c
  induction c with
  | zero => intro _; rfl
  | succ c ih =>
    intro h
    simp only [lsF, if_neg (h c (by omega))]
    exact ih (fun g hg => h g (by omega))
theorem houseOn_L {F : Nat} {X Y : qH} {b c p : Nat} {ce : Nat → Nat} (hX : shX X = Y) (hB : YB Y b) (h5 : gi X b 5 = nI c) (c8 : c ≤ 8) (hce : ∀ g : Nat, g < c → ga X (b + 1) g = nI (ce g) ∧ ce g < 30) (hp : p < 100) (hi : ∀ x y : Nat, x < c → y < c → ce x = ce y → x = y) :
    ∀ (n g : Nat), g ≤ c → c - g < n → (∀ x : Nat, x < g → ce x ≠ p) → ∃ r, fX0_houseOn_L2 F X b (nI p) n (nI g) = some r ∧ qsm0 r (fun z => some z) (some (-1 : Int32)) = some (lsF ce p c) := by
  intro n
  induction n with
  | zero => intro g hg hn; omega
  | succ n ih =>
    intro g hg hn h0
    show ∃ r, fX0_houseOn_L2_B F X b (nI p) (fX0_houseOn_L2 F X b (nI p) n) (nI g) = some r ∧ _
    unfold fX0_houseOn_L2_B
    by_cases hgc : g = c
    · subst hgc
      refine ⟨.inr (), ?_, by rw [lsF_none g h0]; rfl⟩
      simp only [gB hB, hX, Option.bind_some, h5, if_pos (nI_le (Nat.le_refl g) (by omega))]
    · have hlt : g < c := by omega
      have l1 : g < 8 := by omega
      have c1 := (hce g hlt).2
      simp only [gB hB, hX, Option.bind_some, h5, if_neg (nI_ge hlt (by omega)), l1, (hce g hlt).1, qlt, nI_1, nI_eq (show ce g < 2 ^ 31 by omega) (show p < 2 ^ 31 by omega)]
      by_cases q : ce g = p
      · rw [if_pos q]
        exact ⟨_, rfl, by rw [lsF_hit c hi hlt q]; rfl⟩
      · rw [if_neg q]
        exact ih (g + 1) (by omega) (by omega) (fun x hx => by
          by_cases e : x = g
          · subst e; exact q
          · exact h0 x (by omega))
theorem houseOn_ok {F : Nat} {X Y : qH} {b c p : Nat} {ce : Nat → Nat} (hX : shX X = Y) (hB : YB Y b) (h5 : gi X b 5 = nI c) (c8 : c ≤ 8) (hce : ∀ g : Nat, g < c → ga X (b + 1) g = nI (ce g) ∧ ce g < 30) (hp : p < 100) (hi : ∀ x y : Nat, x < c → y < c → ce x = ce y → x = y) (hF : 10 ≤ F) : fX0_houseOn F X b (nI p) = some (lsF ce p c) := by
  obtain ⟨r, e, hr⟩ := houseOn_L (F := F) hX hB h5 c8 hce hp hi F 0 (by omega) (by omega) (fun x hx => by omega)
  rw [show nI 0 = (0 : Int32) from rfl] at e
  simp only [fX0_houseOn, gB hB, hX, e, Option.bind_some]
  exact hr
theorem ap_comm (p q : Nat) : ap p q = ap q p := by unfold ap; split <;> split <;> omega
theorem apart_cl {F : Nat} {X Y : qH} {b g k p q : Nat} (hX : shX X = Y) (hB : YB Y b) (hg : g < 8) (hk : k < 8) (e1 : ga X (b + 1) g = nI p) (e2 : ga X (b + 1) k = nI q) (hp : p < 1000) (hq : q < 1000) : fX0_apart F X b (nI g) (nI k) = some (nI (ap q p)) := by
  simp only [fX0_apart, gB hB, hX, Option.bind_some, hg, hk, e1, e2, qlt, ap_c hq hp]
theorem cross_L {F : Nat} {X Y : qH} {m c g1 g2 : Nat} {ce : Nat → Nat} {T : Nat → Int32} (hX : shX X = Y) (hM : YM Y m) (h5 : gi X m 1 = nI c) (c8 : c ≤ 8) (hce : ∀ g : Nat, g < c → ga X (m + 1) g = nI (ce g) ∧ ce g < 30) (i1 : g1 < c) (i2 : g2 < c) (hT : ∀ g : Nat, g < c → T (g + 1) = if ap (ce g1) (ce g2) = 2 ∧ 2 * ce g = ce g1 + ce g2 then nI g else T g) :
    ∀ (n g : Nat), g ≤ c → c - g < n → fX10_cross_L17 F X m (nI g1) (nI g2) n (T g) (nI g) = some (T c) := by
  intro n
  induction n with
  | zero => intro g hg hn; omega
  | succ n ih =>
    intro g hg hn
    show fX10_cross_L17_B F X m (nI g1) (nI g2) (fX10_cross_L17 F X m (nI g1) (nI g2) n) _ (nI g) = _
    unfold fX10_cross_L17_B
    by_cases hgc : g = c
    · subst hgc
      simp only [gM hM, hX, Option.bind_some, h5, if_pos (nI_le (Nat.le_refl g) (by omega))]
    · have hlt : g < c := by omega
      have l1 : g < 8 := by omega
      have l2 : g1 < 8 := by omega
      have l3 : g2 < 8 := by omega
      have c1 := (hce g hlt).2
      have c2 := (hce g1 i1).2
      have c3 := (hce g2 i2).2
      have hap : ap (ce g1) (ce g2) < 2 ^ 31 := by unfold ap; split <;> omega
      have e2 : ((2 : Int32) * nI (ce g) = nI (ce g1) + nI (ce g2)) = (2 * ce g = ce g1 + ce g2) := by
        rw [show (2 : Int32) = nI 2 from rfl, pk_mul, nI_add]
        exact propext (nI_eq (by omega) (by omega))
      have e3 : (nI (ap (ce g1) (ce g2)) = (2 : Int32)) = (ap (ce g1) (ce g2) = 2) := propext (nI_eq (b := 2) hap (by omega))
      simp only [gM hM, hX, Option.bind_some, h5, if_neg (nI_ge hlt (by omega)), l1, l2, l3, (hce g hlt).1, (hce g1 i1).1, (hce g2 i2).1, qlt, nI_1, apart_m (F := F) (X := X) (show ce g1 < 1000 by omega) (show ce g2 < 1000 by omega), e2, e3, some_ite]
      have e : (if ap (ce g1) (ce g2) = 2 then if 2 * ce g = ce g1 + ce g2 then nI g else T g else T g) = T (g + 1) := by
        rw [hT g hlt]
        by_cases q1 : ap (ce g1) (ce g2) = 2
        · by_cases q2 : 2 * ce g = ce g1 + ce g2
          · rw [if_pos q1, if_pos q2, if_pos ⟨q1, q2⟩]
          · rw [if_pos q1, if_neg q2, if_neg (fun q => q2 q.2)]
        · rw [if_neg q1, if_neg (fun q => q1 q.1)]
      rw [e]
      exact ih (g + 1) (by omega) (by omega)
theorem op_cross {F : Nat} {X : qH} {sz : Nat} (hI : Inv X sz) (hF : 300000 ≤ F) (u v : Int32) : OpR (fun X => fX9_cross F X sz u v) (fun X => fX10_cross F X (sz + 151) u v) X := by
  obtain ⟨hW, hRl⟩ := id hI
  obtain ⟨rT, rF, rS, rB, rN, rP, rI, rD, rK⟩ := id hRl
  generalize hX : shX X = Y at hW
  obtain ⟨w9, -, -, -, wN, -, -, -, -, w2, w1, wM⟩ := id hW
  obtain ⟨b, w, c, ce, po, nn, dd, hb, wB⟩ := rB.get hX hW
  obtain ⟨⟨b3, -⟩, ⟨bw, mw, hw30⟩, ⟨bc, mc, c8, -⟩, -, -, hs, hinj, -⟩ := id hb
  have ht := hasTwo_ok (F := F) hX wB bc u v
  have ha := areTwo_ok (F := F) hX wM mc c8 u v
  have cb : ∀ g : Nat, g < c → ga X (b + 1) g = nI (ce g) ∧ ce g < 30 := fun g hg => ⟨(hs g hg).1.1, by have := (hs g hg).1.2.2; omega⟩
  have cm : ∀ g : Nat, g < c → ga X (sz + 151 + 1) g = nI (ce g) ∧ ce g < 30 := fun g hg => ⟨(hs g hg).1.2.1, by have := (hs g hg).1.2.2; omega⟩
  by_cases hok : (0 ≤ u ∧ u < nI c) ∧ (0 ≤ v ∧ v < nI c) ∧ u ≠ v
  · rw [if_pos hok] at ht ha
    obtain ⟨g1, hl1, rfl⟩ := nI_of (i_nlt.mpr hok.1.1)
    obtain ⟨g2, hl2, rfl⟩ := nI_of (i_nlt.mpr hok.2.1.1)
    have i1 := (nI_ltI hl1 (by omega)).mp hok.1.2
    have i2 := (nI_ltI hl2 (by omega)).mp hok.2.1.2
    have l2 : g1 < 8 := by omega
    have l3 : g2 < 8 := by omega
    have c2 := (cb g1 i1).2
    have c3 := (cb g2 i2).2
    have hap : ap (ce g1) (ce g2) < 2 ^ 31 := by unfold ap; split <;> omega
    have e3 : (nI (ap (ce g1) (ce g2)) = (2 : Int32)) = (ap (ce g1) (ce g2) = 2) := propext (nI_eq (b := 2) hap (by omega))
    have ea := apart_cl (F := F) hX wB l2 l3 (cb g1 i1).1 (cb g2 i2).1 (by omega) (by omega)
    rw [ap_comm] at ea
    by_cases q : ap (ce g1) (ce g2) = 2
    · have hmin : (if nI (ce g2) < nI (ce g1) then nI (ce g2) else nI (ce g1)) + 1 = nI ((if ce g2 < ce g1 then ce g2 else ce g1) + 1) := by
        rw [← nI_1]
        by_cases q1 : ce g2 < ce g1
        · rw [if_pos q1, if_pos ((nI_ltI (by omega) (by omega)).mpr q1)]
        · rw [if_neg q1, if_neg (fun z => q1 ((nI_ltI (by omega) (by omega)).mp z))]
      have hp : (if ce g2 < ce g1 then ce g2 else ce g1) + 1 < 100 := by split <;> omega
      have hsum : ∀ z : Nat, (z = (if ce g2 < ce g1 then ce g2 else ce g1) + 1) ↔ (2 * z = ce g1 + ce g2) := by
        intro z
        unfold ap at q
        split <;> split at q <;> omega
      generalize (if ce g2 < ce g1 then ce g2 else ce g1) + 1 = p at hmin hp hsum
      have ho := houseOn_ok (F := F) hX wB bc c8 cb hp hinj (by omega)
      have hl := cross_L (F := F) (T := lsF ce p) hX wM mc c8 cm i1 i2 (fun g _ => by
        show (if ce g = p then nI g else lsF ce p g) = _
        by_cases z : ce g = p
        · rw [if_pos z, if_pos ⟨q, (hsum _).mp z⟩]
        · rw [if_neg z, if_neg (fun y => z ((hsum _).mpr y.2))]) F 0 (by omega) (by omega)
      rw [show lsF ce p 0 = -1 from rfl, show nI 0 = (0 : Int32) from rfl] at hl
      refine ⟨lsF ce p c, ?_, ?_⟩
      · simp only [fX9_cross, g9 w9, gB wB, hX, Option.bind_some, b3, ht, ea, e3, if_pos q, l2, l3, (cb g1 i1).1, (cb g2 i2).1, qlt, hmin, ho, if_neg (show ¬ (1 : Int32) = 0 by decide)]
      · simp only [fX10_cross, gM wM, hX, Option.bind_some, ha, hl, if_neg (show ¬ (1 : Int32) = 0 by decide)]
    · have hl := cross_L (F := F) (T := fun _ => (-1 : Int32)) hX wM mc c8 cm i1 i2 (fun g _ => by
        rw [if_neg (fun y => q y.1)]) F 0 (by omega) (by omega)
      rw [show nI 0 = (0 : Int32) from rfl] at hl
      refine ⟨-1, ?_, ?_⟩
      · simp only [fX9_cross, g9 w9, gB wB, hX, Option.bind_some, b3, ht, ea, e3, if_neg q, if_neg (show ¬ (1 : Int32) = 0 by decide)]
      · simp only [fX10_cross, gM wM, hX, Option.bind_some, ha, hl, if_neg (show ¬ (1 : Int32) = 0 by decide)]
  · rw [if_neg hok] at ht ha
    refine ⟨-1000000001, ?_, ?_⟩
    · simp only [fX9_cross, g9 w9, hX, Option.bind_some, b3, ht, if_true]
    · simp only [fX10_cross, gM wM, hX, Option.bind_some, ha, if_true]
