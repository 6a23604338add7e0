/-! bay: the clauses -/
theorem YM.p7 {Y : qH} {m : Nat} (h : YM Y m) : Y (m + 7) = some (.inl (0, 3, .inl (fun _ => 0))) := h.2.2.2.2.2.2.2.1
theorem YM.p13 {Y : qH} {m : Nat} (h : YM Y m) : Y (m + 13) = some (.inl (0, 1, .inl (fun _ => 0))) := h.2.2.2.2.2.2.2.2.2.2.2.2.2.1
theorem YM.p14 {Y : qH} {m : Nat} (h : YM Y m) : Y (m + 14) = some (.inl (0, 1, .inl (fun _ => 0))) := h.2.2.2.2.2.2.2.2.2.2.2.2.2.2.1
theorem m7 {Y : qH} {m : Nat} (h : YM Y m) : (∀ X : qH, shX X = Y → qaI X 0 (m + 7) (0 : Int32) = some (ga X (m + 7) 0)) ∧ (∀ X : qH, shX X = Y → qaI X 0 (m + 7) (1 : Int32) = some (ga X (m + 7) 1)) ∧ (∀ X : qH, shX X = Y → qaI X 0 (m + 7) (2 : Int32) = some (ga X (m + 7) 2)) ∧ (∀ X : qH, shX X = Y → qaI X 0 (m + 13) (0 : Int32) = some (ga X (m + 13) 0)) ∧ (∀ X : qH, shX X = Y → qaI X 0 (m + 14) (0 : Int32) = some (ga X (m + 14) 0)) :=
  ⟨fun X hX => qaI_Y hX h.p7 (by decide) (j := 0) (by decide), fun X hX => qaI_Y hX h.p7 (by decide) (j := 1) (by decide), fun X hX => qaI_Y hX h.p7 (by decide) (j := 2) (by decide), fun X hX => qaI_Y hX h.p13 (by decide) (j := 0) (by decide), fun X hX => qaI_Y hX h.p14 (by decide) (j := 0) (by decide)⟩
def bI (x : Bool) : Int32 := if x then 1 else 0
/-- what the text told so far: bounds; the class's Bay; the model's rows -/
def PP (w fo wi cnt sm da : Nat) (hs hd : Bool) (ce po ro nn : Nat → Nat) (dd : Nat → Nat → Nat) : Prop := (w ≤ 30 ∧ fo ≤ 20 ∧ wi ≤ 10 ∧ cnt ≤ 8 ∧ sm ≤ 9 ∧ da ≤ 100) ∧ (w = 0 → cnt = 0 ∧ fo = 0) ∧ (w ≠ 1) ∧ ((hs = false → sm = 2) ∧ (hd = false → da = 10)) ∧ (∀ g : Nat, g < cnt → ce g < w ∧ (1 ≤ po g ∧ po g ≤ 9) ∧ ro g ≤ 9 ∧ (1 ≤ nn g ∧ nn g ≤ 5) ∧ ∀ k : Nat, k < nn g → 1 ≤ dd g k ∧ dd g k ≤ 5) ∧ (∀ x y : Nat, x < cnt → y < cnt → ce x = ce y → x = y) ∧ ∀ x y : Nat, x < cnt → y < cnt → stN (dd x) (nn x) = stN (dd y) (nn y) → x = y
def PC (X : qH) (sz b : Nat) (w fo wi cnt sm da : Nat) (hs hd : Bool) (ce po ro nn : Nat → Nat) (dd : Nat → Nat → Nat) : Prop := (gi X b 0 = nI w ∧ gi X b 1 = nI fo ∧ gi X b 2 = (if w = 0 then 0 else nI wi - 5) ∧ gi X b 3 = nI sm ∧ gi X b 4 = nI da ∧ gi X b 5 = nI cnt) ∧ (gi X (sz + 12) 6 = bI hs ∧ gi X (sz + 12) 7 = bI hd) ∧ ∀ g : Nat, g < cnt → ga X (b + 1) g = nI (ce g) ∧ ga X (b + 2) g = nI (po g) ∧ ga X (b + 3) g = nI (ro g) ∧ ga X (b + 4) g = nI (stN (dd g) (nn g))
def PM (X : qH) (m : Nat) (w fo wi cnt sm da : Nat) (hs hd : Bool) (ce po ro nn : Nat → Nat) (dd : Nat → Nat → Nat) : Prop := (ga X (m + 7) 0 = nI w ∧ ga X (m + 7) 1 = nI fo ∧ (w ≠ 0 → ga X (m + 7) 2 = nI wi)) ∧ (gi X m 17 = nI cnt ∧ gi X m 25 = bI hs ∧ gi X m 26 = bI hd) ∧ ((hs = true → ga X (m + 13) 0 = nI sm) ∧ (hd = true → ga X (m + 14) 0 = nI da)) ∧ ∀ g : Nat, g < cnt → ga X (m + 8) g = nI (ce g) ∧ ga X (m + 9) g = nI (po g) ∧ ga X (m + 10) g = nI (ro g) ∧ ga X (m + 11) g = nI (nn g) ∧ ∀ k : Nat, k < nn g → ga X (m + 12) (5 * g + k) = nI (dd g k)
/-- both readers at p -/
def JS (Y : qH) (sz b N : Nat) (tx : Nat → Nat) (p : Nat) (Xc Xm : qH) : Prop := ∃ (w fo wi cnt sm da : Nat) (hs hd : Bool) (ce po ro nn : Nat → Nat) (dd : Nat → Nat → Nat), RC Xc Y sz N tx 0 (-1) p Xc ∧ PP w fo wi cnt sm da hs hd ce po ro nn dd ∧ PC Xc sz b w fo wi cnt sm da hs hd ce po ro nn dd ∧ shX Xm = Y ∧ MT Xm (sz + 151) N tx ∧ gi Xm (sz + 151) 13 = nI p ∧ PM Xm (sz + 151) w fo wi cnt sm da hs hd ce po ro nn dd
def FC (sz b : Nat) (X X2 : qH) : Prop := ∀ q : Nat, q ≠ sz + 12 → q < b ∨ b + 5 ≤ q → X2 q = X q
def FM (m : Nat) (X X2 : qH) : Prop := (∀ q : Nat, q ≠ m → q < m + 7 ∨ m + 15 ≤ q → X2 q = X q) ∧ ∀ k : Nat, k ∉ [12, 13, 14, 15, 17, 25, 26] → gi X2 m k = gi X m k
/-- behind a clause: both go on, or both tell the same fault -/
def JR (Y : qH) (sz b N : Nat) (tx : Nat → Nat) (p : Nat) (Xc Xm : qH) (f : Nat) (Xc2 Xm2 : qH) : Prop := shX Xc2 = Y ∧ FC sz b Xc Xc2 ∧ shX Xm2 = Y ∧ FM (sz + 151) Xm Xm2 ∧ ((f = 0 ∧ (∃ p2 : Nat, p < p2 ∧ p2 ≤ N ∧ JS Y sz b N tx p2 Xc2 Xm2) ∧ gi Xm2 (sz + 151) 12 = gi Xm (sz + 151) 12) ∨ (0 < f ∧ f < 10 ∧ (∃ (pe : Nat) (fe : Int32), RC Xc Y sz N tx f fe pe Xc2) ∧ gi Xc2 (sz + 12) 4 = nI f ∧ ∃ fp : Nat, gi Xc2 (sz + 12) 5 = nI fp ∧ gi Xm2 (sz + 151) 12 = nI fp))
theorem RC.FC {X0 Y X : qH} {sz N b f p : Nat} {fp : Int32} {tx : Nat → Nat} (h : RC X0 Y sz N tx f fp p X) : FC sz b X0 X := fun q q1 _ => h.2.1 q q1
theorem MS.FM {S : List Nat} {Y X X2 : qH} {m : Nat} (h : MS S Y X m X2) (hs : ∀ k : Nat, k ∈ S → k ∈ [12, 13, 14, 15, 17, 25, 26]) : FM m X X2 := ⟨fun q q1 _ => h.2.1 q q1, fun k hk => h.2.2 k (fun y => hk (hs k y))⟩
theorem FM.trans {X X2 X3 : qH} {m : Nat} (h : FM m X X2) (h2 : FM m X2 X3) : FM m X X3 := ⟨fun q q1 q2 => (h2.1 q q1 q2).trans (h.1 q q1 q2), fun k hk => (h2.2 k hk).trans (h.2 k hk)⟩
theorem FM.pA {X X2 : qH} {m a i : Nat} {v : Int32} (h : FM m X X2) (ha : m + 7 ≤ a ∧ a < m + 15) : FM m X (pA X2 a i v) := ⟨fun q q1 q2 => (pA_ne (by omega)).trans (h.1 q q1 q2), fun k hk => by rw [gi_pA]; exact h.2 k hk⟩
theorem MT.f {X X2 : qH} {m N : Nat} {tx : Nat → Nat} (h : MT X m N tx) (hf : FM m X X2) : MT X2 m N tx := by
  obtain ⟨a1, a2, a3⟩ := h
  refine ⟨by rw [hf.2 11 (by decide)]; exact a1, a2, fun i hi => ?_⟩
  rw [ga_congr (hf.1 (m + 6) (by omega) (by omega))]
  exact a3 i hi
/-- the model's clause, its beginning: the word is passed -/
theorem m_pre {F : Nat} {X Y : qH} {m N p : Nat} {tx : Nat → Nat} (wM : YM Y m) (hX : shX X = Y) (hT : MT X m N tx) (hp : gi X m 13 = nI p) (hpN : p < N) (hbl : tx p ≠ 32) (hF : 1000 ≤ F) {h25 h26 v25 v26 : Bool} (e25 : gi X m 25 = bI h25) (e26 : gi X m 26 = bI h26) :
    ∃ X2, fX10_here F X m = some (nI (tx p), X2) ∧ MS [13] Y X m X2 ∧ gi X2 m 13 = nI p ∧ gi X2 m 25 = bI h25 ∧ gi X2 m 26 = bI h26 ∧ shX (pI X2 m 13 (nI (p + 1))) = Y ∧ gi (pI X2 m 13 (nI (p + 1))) m 25 = bI h25 ∧ shX (pI (pI X2 m 13 (nI (p + 1))) m 25 (bI v25)) = Y ∧ gi (pI (pI X2 m 13 (nI (p + 1))) m 25 (bI v25)) m 26 = bI h26 ∧ MS [13, 25, 26] Y X m (pI (pI (pI X2 m 13 (nI (p + 1))) m 25 (bI v25)) m 26 (bI v26)) ∧ gi (pI (pI (pI X2 m 13 (nI (p + 1))) m 25 (bI v25)) m 26 (bI v26)) m 13 = nI (p + 1) ∧ gi (pI (pI (pI X2 m 13 (nI (p + 1))) m 25 (bI v25)) m 26 (bI v26)) m 25 = bI v25 ∧ gi (pI (pI (pI X2 m 13 (nI (p + 1))) m 25 (bI v25)) m 26 (bI v26)) m 26 = bI v26 := by
  obtain ⟨X2, k1, k2, k3⟩ := m_here (F := F) wM hX hT hp (by omega) hF
  have hsk : sk tx N p = p := sk_stay (fun y => hbl y.2)
  have hv : hvI tx N p = nI (tx p) := by unfold hvI; rw [hsk, if_pos hpN]
  rw [hv] at k1
  rw [hsk] at k3
  have s1 := (k2.mono (T := [13, 25, 26]) (by decide)).pI wM (k := 13) (v := nI (p + 1)) (by decide) (by simp only [kM wM, k2.1]) (fun j => by simp only [uM wM, k2.1])
  have s2 := s1.pI wM (k := 25) (v := bI v25) (by decide) (by simp only [kM wM, s1.1]) (fun j => by simp only [uM wM, s1.1])
  have s3 := s2.pI wM (k := 26) (v := bI v26) (by decide) (by simp only [kM wM, s2.1]) (fun j => by simp only [uM wM, s2.1])
  refine ⟨X2, k1, k2, k3, by rw [k2.2.2 25 (by decide)]; exact e25, by rw [k2.2.2 26 (by decide)]; exact e26, s1.1, ?_, s2.1, ?_, s3, ?_, ?_, ?_⟩
  · simp only [uM wM, k2.1]
    rw [if_neg (by omega), k2.2.2 25 (by decide)]; exact e25
  · simp only [uM wM, k2.1, s1.1]
    rw [if_neg (by omega), if_neg (by omega), k2.2.2 26 (by decide)]; exact e26
  · simp only [uM wM, s2.1, s1.1, k2.1]
    rfl
  · simp only [uM wM, s2.1, s1.1]
    rfl
  · simp only [uM wM, s2.1, if_true]
theorem bI_z (x : Bool) : (bI x = 0) = (x = false) := by cases x with | true => exact propext ⟨fun y => absurd y (by decide), fun y => by cases y⟩ | false => exact propext ⟨fun _ => rfl, fun _ => rfl⟩
theorem bI_01 (x : Bool) : bI x = 0 ∨ bI x = 1 := by cases x with | true => exact Or.inr rfl | false => exact Or.inl rfl
set_option maxHeartbeats 1000000 in
theorem cl_m {F : Nat} {Xc Xm Y : qH} {sz b N p : Nat} {tx : Nat → Nat} (hW : YW Y sz) (wB : YB Y b) (hb : sz + 2 ≤ b ∧ b + 5 ≤ sz + 12) (hF : 1000 ≤ F) (hJ : JS Y sz b N tx p Xc Xm) (hpN : p < N) (hw : gi Xc b 0 ≠ 0) (htx : tx p = 109) :
    ∃ Xc2 Xm2 f, fX6_readSmoke F Xc (sz + 12) b = some Xc2 ∧ fX10_takeClause F Xm (sz + 151) = some (nI f, Xm2) ∧ JR Y sz b N tx p Xc Xm f Xc2 Xm2 := by
  obtain ⟨w, fo, wi, cnt, sm, da, hs, hd, ce, po, ro, nn, dd, hR, hP, hC, hXm, hT, h13, hM⟩ := hJ
  obtain ⟨w9, -, -, w6, -, -, -, -, -, -, -, wM⟩ := id hW
  obtain ⟨⟨c0, c1, c2, c3, c4, c5⟩, ⟨c6, c7⟩, c8⟩ := id hC
  obtain ⟨⟨m0, m1, m2⟩, ⟨m17, m25, m26⟩, ⟨m13, m14⟩, mg⟩ := id hM
  have hw0 : w ≠ 0 := fun y => hw (by rw [c0, y]; rfl)
  have hw30 := hP.1.1
  have hw' : ¬ nI w = (0 : Int32) := nI_ne0 (by omega) (by omega)
  have hN := hT.2.1
  obtain ⟨X2, k1, k2, k3, k25, k26, ka, kb, kc, kd, ke, kf, kg, kh⟩ := m_pre (F := F) (v25 := true) (v26 := hd) wM hXm hT h13 hpN (by omega) hF m25 m26
  rw [htx] at k1
  have k1' : fX10_here F Xm (sz + 151) = some ((109 : Int32), X2) := k1
  have m0' : ga X2 (sz + 151 + 7) 0 = nI w := by rw [ga_congr (k2.2.1 _ (by omega))]; exact m0
  cases hs : hs with
  | true =>
    rw [hs] at c6 k25
    obtain ⟨-, ⟨Xd, d1, d2⟩⟩ := c_word (F := F) w6 hR hpN
    have c6' : gi Xc (sz + 12) 6 = (1 : Int32) := c6
    have d3 := c_num_dead (F := F) w6 d2 (by omega) (0 : Int32) (9 : Int32)
    obtain ⟨Xe, pe, d4, d5⟩ := c_end_dead (F := F) w6 w9 hF d2 (by omega)
    obtain ⟨f1, f2, f3⟩ := m_fails (F := F) wM k2.1 (3 : Int32) (nI p)
    refine ⟨Xe, pI X2 (sz + 151) 12 (nI p), 3, ?_, ?_, d5.1, d5.FC, f2.1, (k2.FM (by decide)).trans (f2.FM (by decide)), Or.inr ⟨by omega, by omega, ⟨_, _, d5⟩, d5.2.2.2.2.2.1, p, d5.2.2.2.2.2.2.1, f3⟩⟩
    · simp only [fX6_readSmoke, g6 w6, hR.1, Option.bind_some, c6', d1, d3, qb2, d4, d5.1, d5.2.2.2.2.2.1, if_neg (show ¬ nI 3 = (0 : Int32) by decide)]
    · have k25' : gi X2 (sz + 151) 25 = (1 : Int32) := k25
      simp only [fX10_takeClause, gM wM, m7 wM, hXm, k1', qb2, Option.bind_some, if_neg (show ¬ (109 : Int32) = 98 by decide), if_neg (show ¬ (109 : Int32) = 104 by decide), if_true, qlab, k2.1, m0', hw', if_false, k25', if_neg (show ¬ (1 : Int32) = 0 by decide), k3, f1, if_neg (show ¬ (2 : Int32) < 0 by decide), if_neg (show ¬ (2 : Int32) ≤ 0 by decide), if_neg (show ¬ (2 : Int32) = 0 by decide), if_neg (show ¬ (2 : Int32) = 1 by decide), if_neg (show ¬ (2 : Int32) = 3 by decide)]
      rfl
  | false =>
    rw [hs] at c6 k25
    have c6' : gi Xc (sz + 12) 6 = (0 : Int32) := c6
    have k25' : gi X2 (sz + 151) 25 = (0 : Int32) := k25
    obtain ⟨⟨Xd, d1, d2⟩, -⟩ := c_word (F := F) w6 hR hpN
    obtain ⟨n1, n2⟩ := c_num (F := F) (lo := 0) (hi := 9) w6 w9 hF (by omega) (by omega) d2
    obtain ⟨Xn, q1, q2, q3, q4⟩ := m_num (F := F) (lo := 0) (hi := 9) wM ke.1 (hT.s ke (by decide)) kf (by omega) (by omega) (by omega) hF
    have hin := m_into (F := F) (ar := sz + 151 + 13) (k := 0) wM ke.1 q1 q2.1 (fun x => qaS_Y q2.1 wM.p13 (by decide) (by decide) x)
    have hXi : shX (pA Xn (sz + 151 + 13) 0 (gi Xn (sz + 151) 14)) = Y := shX_pA q2.1 wM.p13 _ _
    have hfm : FM (sz + 151) Xm (pA Xn (sz + 151 + 13) 0 (gi Xn (sz + 151) 14)) := ((ke.FM (by decide)).trans (q2.FM (by decide))).pA (by omega)
    
    have mpre : ∀ Z, (qlab (fun (X19 : qH) => (qgI X19 9 (sz + 151) 13).bind fun v20 => qlt (v20 + (1 : Int32)) fun v21 => (qpI X19 9 (sz + 151) 13 v21).bind fun X22 => some (nI (nmF tx N 0 9 (p + 1)), X22)) fun J28 => if nI (nmF tx N 0 9 (p + 1)) = (0 : Int32) then (qb2 (fX10_here F (pA Xn (sz + 151 + 13) 0 (gi Xn (sz + 151) 14)) (sz + 151)) fun v23 X24 => if v23 = (59 : Int32) then (J28 X24) else ((qgI X24 9 (sz + 151) 13).bind fun v25 => qb2 (fX10_fails F X24 (sz + 151) (1 : Int32) v25) fun v26 X27 => some (v26, X27))) else (J28 (pA Xn (sz + 151 + 13) 0 (gi Xn (sz + 151) 14)))) = Z → fX10_takeClause F Xm (sz + 151) = Z := fun Z hz => by
      have hin' : fX10_into F (pI (pI (pI X2 (sz + 151) 13 (nI (p + 1))) (sz + 151) 25 (bI true)) (sz + 151) 26 (bI hd)) (sz + 151) (sz + 151 + 13) (0 : Int32) (0 : Int32) (9 : Int32) = some (nI (nmF tx N 0 9 (p + 1)), pA Xn (sz + 151 + 13) 0 (gi Xn (sz + 151) 14)) := hin
      rw [← hz]
      have e25 : (if gi (pI X2 (sz + 151) 13 (nI (p + 1))) (sz + 151) 25 = (0 : Int32) then (some (1 : Int32) : Option Int32) else (some (1 : Int32) : Option Int32)) = some (bI true) := by
        rw [kb]
        rw [ite_self]; rfl
      have e26 : (if gi (pI (pI X2 (sz + 151) 13 (nI (p + 1))) (sz + 151) 25 (bI true)) (sz + 151) 26 = (0 : Int32) then (some (0 : Int32) : Option Int32) else (some (1 : Int32) : Option Int32)) = some (bI hd) := by
        rw [kd]
        cases hd <;> rfl
      simp only [fX10_takeClause, gM wM, sM wM, m7 wM, hXm, k1', qb2, Option.bind_some, if_neg (show ¬ (109 : Int32) = 98 by decide), if_neg (show ¬ (109 : Int32) = 104 by decide), if_true, qlab, k2.1, m0', hw', if_false, k25', k3, ka, kc, ke.1, if_neg (show ¬ (2 : Int32) < 0 by decide), if_neg (show ¬ (2 : Int32) ≤ 0 by decide), if_neg (show ¬ (2 : Int32) = 0 by decide), if_neg (show ¬ (2 : Int32) = 1 by decide), if_neg (show ¬ (2 : Int32) = 3 by decide), qlt, nI_1, e25, e26, bI_01, hin']
    have e13 : nmF tx N 0 9 (p + 1) = 0 → gi (pA Xn (sz + 151 + 13) 0 (gi Xn (sz + 151) 14)) (sz + 151) 13 = nI (nmE tx N (p + 1)) := fun y => by rw [gi_pA]; exact (q3 y).2.1
    by_cases z : nmF tx N 0 9 (p + 1) = 0
    · obtain ⟨Xn1, n1a, n1b, n1c⟩ := n1 z
      have n1a' : fX6_readNumber F Xd (sz + 12) (0 : Int32) (9 : Int32) = some (nI (nmV tx N (p + 1)), Xn1) := n1a
      have hle := n1b.2.2.2.2.1.2.1
      obtain ⟨X24, a1, a2, a3⟩ := m_here (F := F) wM hXi (hT.f hfm) (e13 z) hle hF
      obtain ⟨E1, E2⟩ := c_end (F := F) w6 w9 hF n1b
      have hskle := sk_in (tx := tx) _ (nmE tx N (p + 1)) rfl hle
      have hskp := sk_in (tx := tx) _ (p + 1) rfl (show p + 1 ≤ N by omega)
      have hnp : p + 1 ≤ nmE tx N (p + 1) := by unfold nmE; omega
      by_cases ze : sk tx N (nmE tx N (p + 1)) < N ∧ tx (sk tx N (nmE tx N (p + 1))) = 59
      · obtain ⟨Xe, e1, e2⟩ := E1 ze
        have hv : hvI tx N (nmE tx N (p + 1)) = (59 : Int32) := by unfold hvI; rw [if_pos ze.1, ze.2]; rfl
        have hval : nmV tx N (p + 1) ≤ 9 := by
          unfold nmF at z
          split at z
          · omega
          · split at z
            · rename_i y; exact y.2.2
            · omega
        have hX8 : shX (pI Xe b 3 (nI (nmV tx N (p + 1)))) = Y := by simp only [kB wB, e2.1]
        have hX9 : shX (pI (pI Xe b 3 (nI (nmV tx N (p + 1)))) (sz + 12) 6 1) = Y := by simp only [k6 w6, hX8]
        have s24 := a2.pI wM (k := 13) (v := nI (sk tx N (nmE tx N (p + 1)) + 1)) (by decide) (by simp only [kM wM, a2.1]) (fun j => by simp only [uM wM, a2.1])
        have hfm2 := hfm.trans (s24.FM (by decide))
        refine ⟨pI (pI Xe b 3 (nI (nmV tx N (p + 1)))) (sz + 12) 6 1, pI X24 (sz + 151) 13 (nI (sk tx N (nmE tx N (p + 1)) + 1)), 0, ?_, ?_, hX9, fun y y1 y2 => (pV_ne y1).trans ((pV_ne (by omega)).trans (e2.2.1 y y1)), s24.1, hfm2, Or.inl ⟨rfl, ⟨sk tx N (nmE tx N (p + 1)) + 1, by omega, by omega, w, fo, wi, cnt, nmV tx N (p + 1), da, true, hd, ce, po, ro, nn, dd, ?_, ?_, ?_, s24.1, hT.f hfm2, ?_, ?_⟩, ?_⟩⟩
        · simp only [fX6_readSmoke, g6 w6, s6 w6, sB wB, hR.1, Option.bind_some, c6', d1, n1a', qb2, e1, e2.1, e2.2.2.2.2.2.1, if_pos (show nI 0 = (0 : Int32) from rfl), hX8, or_true]
        · refine mpre _ ?_
          simp only [qlab, z, if_pos (show nI 0 = (0 : Int32) from rfl), a1, qb2, Option.bind_some, hv, if_true, gM wM, sM wM, a2.1, a3, qlt, nI_1]
        · obtain ⟨r1, r2, r3, r4, r5, r6, r7, r8, r9⟩ := id e2
          have un : ∀ k : Nat, gi (pI (pI Xe b 3 (nI (nmV tx N (p + 1)))) (sz + 12) 6 1) (sz + 12) k = if k = 6 then 1 else gi Xe (sz + 12) k := fun k => by
            simp only [u6 w6, hX8]
            rw [gi_pI_ne (by omega)]
          refine ⟨hX9, fun _ _ => rfl, by rw [gr_pI _ _ _ (by omega), gr_pI_ne' (by omega)]; exact r3, by rw [un, if_neg (by omega)]; exact r4, ⟨by rw [un, if_neg (by omega)]; exact r5.1, r5.2⟩, by rw [un, if_neg (by omega)]; exact r6, by rw [un, if_neg (by omega)]; exact r7, ⟨rfl, rfl⟩, fun i hi => by rw [ga_pI, ga_pI]; exact r9 i hi⟩
        · obtain ⟨p1, p2, p3, p4, p5⟩ := hP
          exact ⟨by omega, p2, p3, ⟨fun y => (by cases y), p4.2⟩, p5⟩
        · have ub : ∀ k : Nat, gi (pI (pI Xe b 3 (nI (nmV tx N (p + 1)))) (sz + 12) 6 1) b k = if k = 3 then nI (nmV tx N (p + 1)) else gi Xc b k := fun k => by
            rw [gi_pI_ne (by omega)]
            simp only [uB wB, e2.1]
            rw [gi_congr (e2.2.1 b (by omega))]
          have un : ∀ k : Nat, gi (pI (pI Xe b 3 (nI (nmV tx N (p + 1)))) (sz + 12) 6 1) (sz + 12) k = if k = 6 then 1 else gi Xe (sz + 12) k := fun k => by
            simp only [u6 w6, hX8]
            rw [gi_pI_ne (by omega)]
          have ue : ∀ j : Nat, ga (pI (pI Xe b 3 (nI (nmV tx N (p + 1)))) (sz + 12) 6 1) (b + j) = ga Xe (b + j) := fun j => by rw [ga_pI, ga_pI]
          refine ⟨⟨by rw [ub, if_neg (by omega)]; exact c0, by rw [ub, if_neg (by omega)]; exact c1, by rw [ub, if_neg (by omega)]; exact c2, by rw [ub, if_pos rfl], by rw [ub, if_neg (by omega)]; exact c4, by rw [ub, if_neg (by omega)]; exact c5⟩, ⟨by rw [un, if_pos rfl]; rfl, by rw [un, if_neg (by omega), e2.2.2.2.2.2.2.2.1.2]; exact c7⟩, fun g hg => ?_⟩
          rw [ue, ue, ue, ue, ga_congr (e2.2.1 (b + 1) (by omega)), ga_congr (e2.2.1 (b + 2) (by omega)), ga_congr (e2.2.1 (b + 3) (by omega)), ga_congr (e2.2.1 (b + 4) (by omega))]
          exact c8 g hg
        · simp only [uM wM, a2.1, if_true]
        · have ga' : ∀ j : Nat, 7 ≤ j → j ≤ 14 → j ≠ 13 → ga (pI X24 (sz + 151) 13 (nI (sk tx N (nmE tx N (p + 1)) + 1))) (sz + 151 + j) = ga Xm (sz + 151 + j) := fun j j1 j2 j3 => by
            rw [ga_pI, ga_congr (a2.2.1 _ (by omega)), ga_pA_ne (by omega), ga_congr (q2.2.1 _ (by omega)), ga_congr (ke.2.1 _ (by omega))]
          have gar : ga (pI X24 (sz + 151) 13 (nI (sk tx N (nmE tx N (p + 1)) + 1))) (sz + 151 + 13) 0 = nI (nmV tx N (p + 1)) := by
            rw [ga_pI, ga_congr (a2.2.1 _ (by omega)), ga_pA_self q2.1 wM.p13, upd_self]; exact (q3 z).2.2.1
          have gf : ∀ k : Nat, k ≠ 12 → k ≠ 13 → k ≠ 14 → k ≠ 15 → gi (pI X24 (sz + 151) 13 (nI (sk tx N (nmE tx N (p + 1)) + 1))) (sz + 151) k = gi (pI (pI (pI X2 (sz + 151) 13 (nI (p + 1))) (sz + 151) 25 (bI true)) (sz + 151) 26 (bI hd)) (sz + 151) k := fun k y1 y2 y3 y4 => by
            simp only [uM wM, a2.1]
            rw [if_neg y2, a2.2.2 k (by simpa using y2), gi_pA, q2.2.2 k (by simp [y1, y2, y3, y4])]
          refine ⟨by rw [ga' 7 (by omega) (by omega) (by omega)]; exact ⟨m0, m1, m2⟩, ⟨by rw [gf 17 (by omega) (by omega) (by omega) (by omega), ke.2.2 17 (by decide)]; exact m17, by rw [gf 25 (by omega) (by omega) (by omega) (by omega)]; exact kg, by rw [gf 26 (by omega) (by omega) (by omega) (by omega)]; exact kh⟩, ⟨fun _ => gar, fun y => by rw [ga' 14 (by omega) (by omega) (by omega)]; exact m14 y⟩, fun g hg => ?_⟩
          rw [ga' 8 (by omega) (by omega) (by omega), ga' 9 (by omega) (by omega) (by omega), ga' 10 (by omega) (by omega) (by omega), ga' 11 (by omega) (by omega) (by omega), ga' 12 (by omega) (by omega) (by omega)]
          exact mg g hg
        · simp only [uM wM, a2.1]
          rw [if_neg (by omega), a2.2.2 12 (by decide), gi_pA, (q3 z).1, ke.2.2 12 (by decide)]
      · obtain ⟨Xe, e1, e2⟩ := E2 ze
        obtain ⟨f1, f2, f3⟩ := m_fails (F := F) wM a2.1 (1 : Int32) (nI (sk tx N (nmE tx N (p + 1))))
        have hv : ¬ hvI tx N (nmE tx N (p + 1)) = (59 : Int32) := by
          unfold hvI
          by_cases y : sk tx N (nmE tx N (p + 1)) < N
          · have t2 := (hT.2.2 _ y).2
            rw [if_pos y]
            exact fun u => ze ⟨y, (nI_eq (b := 59) (by omega) (by omega)).mp u⟩
          · rw [if_neg y]; decide
        refine ⟨Xe, pI X24 (sz + 151) 12 (nI (sk tx N (nmE tx N (p + 1)))), 1, ?_, ?_, e2.1, e2.FC, f2.1, (hfm.trans (a2.FM (by decide))).trans (f2.FM (by decide)), Or.inr ⟨by omega, by omega, ⟨_, _, e2⟩, e2.2.2.2.2.2.1, _, e2.2.2.2.2.2.2.1, f3⟩⟩
        · simp only [fX6_readSmoke, g6 w6, hR.1, Option.bind_some, c6', d1, n1a', qb2, e1, e2.1, e2.2.2.2.2.2.1, if_neg (show ¬ nI 1 = (0 : Int32) by decide)]
        · refine mpre _ ?_
          simp only [qlab, z, if_pos (show nI 0 = (0 : Int32) from rfl), a1, qb2, Option.bind_some, if_neg hv, gM wM, a2.1, a3, f1]
          rfl
    · obtain ⟨Xn1, pn, n2a, n2b⟩ := n2 z
      have n2a' : fX6_readNumber F Xd (sz + 12) (0 : Int32) (9 : Int32) = some (-1, Xn1) := n2a
      have hf10 : 0 < nmF tx N 0 9 (p + 1) ∧ nmF tx N 0 9 (p + 1) < 10 := by
        refine ⟨by omega, ?_⟩
        unfold nmF
        split
        · omega
        · split <;> omega
      obtain ⟨Xe, pe, d4, d5⟩ := c_end_dead (F := F) w6 w9 hF n2b hf10
      have nz : ¬ nI (nmF tx N 0 9 (p + 1)) = (0 : Int32) := nI_ne0 hf10.1 (by omega)
      have s13 := (MS.rfl' (m := sz + 151) hXi [13]).pI wM (k := 13) (v := gi (pA Xn (sz + 151 + 13) 0 (gi Xn (sz + 151) 14)) (sz + 151) 13 + 1) (by decide) (by simp only [kM wM, hXi]) (fun j => by simp only [uM wM, hXi])
      refine ⟨Xe, pI (pA Xn (sz + 151 + 13) 0 (gi Xn (sz + 151) 14)) (sz + 151) 13 (gi (pA Xn (sz + 151 + 13) 0 (gi Xn (sz + 151) 14)) (sz + 151) 13 + 1), nmF tx N 0 9 (p + 1), ?_, ?_, d5.1, d5.FC, s13.1, hfm.trans (s13.FM (by decide)), Or.inr ⟨hf10.1, hf10.2, ⟨_, _, d5⟩, d5.2.2.2.2.2.1, _, d5.2.2.2.2.2.2.1, ?_⟩⟩
      · simp only [fX6_readSmoke, g6 w6, hR.1, Option.bind_some, c6', d1, n2a', qb2, d4, d5.1, d5.2.2.2.2.2.1, if_neg nz]
      · refine mpre _ ?_
        simp only [qlab, if_neg nz, gM wM, sM wM, hXi, Option.bind_some, qlt]
      · rw [s13.2.2 12 (by decide), gi_pA]; exact q4 z
set_option maxHeartbeats 1000000 in
theorem cl_g {F : Nat} {Xc Xm Y : qH} {sz b N p : Nat} {tx : Nat → Nat} (hW : YW Y sz) (wB : YB Y b) (hb : sz + 2 ≤ b ∧ b + 5 ≤ sz + 12) (hF : 1000 ≤ F) (hJ : JS Y sz b N tx p Xc Xm) (hpN : p < N) (hw : gi Xc b 0 ≠ 0) (htx : tx p = 103) :
    ∃ Xc2 Xm2 f, fX6_readDamp F Xc (sz + 12) b = some Xc2 ∧ fX10_takeClause F Xm (sz + 151) = some (nI f, Xm2) ∧ JR Y sz b N tx p Xc Xm f Xc2 Xm2 := by
  obtain ⟨w, fo, wi, cnt, sm, da, hs, hd, ce, po, ro, nn, dd, hR, hP, hC, hXm, hT, h13, hM⟩ := hJ
  obtain ⟨w9, -, -, w6, -, -, -, -, -, -, -, wM⟩ := id hW
  obtain ⟨⟨c0, c1, c2, c3, c4, c5⟩, ⟨c6, c7⟩, c8⟩ := id hC
  obtain ⟨⟨m0, m1, m2⟩, ⟨m17, m25, m26⟩, ⟨m13, m14⟩, mg⟩ := id hM
  have hw0 : w ≠ 0 := fun y => hw (by rw [c0, y]; rfl)
  have hw30 := hP.1.1
  have hw' : ¬ nI w = (0 : Int32) := nI_ne0 (by omega) (by omega)
  have hN := hT.2.1
  obtain ⟨X2, k1, k2, k3, k25, k26, ka, kb, kc, kd, ke, kf, kg, kh⟩ := m_pre (F := F) (v25 := hs) (v26 := true) wM hXm hT h13 hpN (by omega) hF m25 m26
  rw [htx] at k1
  have k1' : fX10_here F Xm (sz + 151) = some ((103 : Int32), X2) := k1
  have m0' : ga X2 (sz + 151 + 7) 0 = nI w := by rw [ga_congr (k2.2.1 _ (by omega))]; exact m0
  cases hd : hd with
  | true =>
    rw [hd] at c7 k26
    obtain ⟨-, ⟨Xd, d1, d2⟩⟩ := c_word (F := F) w6 hR hpN
    have c6' : gi Xc (sz + 12) 7 = (1 : Int32) := c7
    have d3 := c_num_dead (F := F) w6 d2 (by omega) (0 : Int32) (100 : Int32)
    obtain ⟨Xe, pe, d4, d5⟩ := c_end_dead (F := F) w6 w9 hF d2 (by omega)
    obtain ⟨f1, f2, f3⟩ := m_fails (F := F) wM k2.1 (3 : Int32) (nI p)
    refine ⟨Xe, pI X2 (sz + 151) 12 (nI p), 3, ?_, ?_, d5.1, d5.FC, f2.1, (k2.FM (by decide)).trans (f2.FM (by decide)), Or.inr ⟨by omega, by omega, ⟨_, _, d5⟩, d5.2.2.2.2.2.1, p, d5.2.2.2.2.2.2.1, f3⟩⟩
    · simp only [fX6_readDamp, g6 w6, hR.1, Option.bind_some, c6', d1, d3, qb2, d4, d5.1, d5.2.2.2.2.2.1, if_neg (show ¬ nI 3 = (0 : Int32) by decide)]
    · have k25' : gi X2 (sz + 151) 26 = (1 : Int32) := k26
      simp only [fX10_takeClause, gM wM, m7 wM, hXm, k1', qb2, Option.bind_some, if_neg (show ¬ (103 : Int32) = 98 by decide), if_neg (show ¬ (103 : Int32) = 104 by decide), if_neg (show ¬ (103 : Int32) = 109 by decide), if_true, qlab, k2.1, m0', hw', if_false, k25', if_neg (show ¬ (1 : Int32) = 0 by decide), k3, f1, if_neg (show ¬ (3 : Int32) < 0 by decide), if_neg (show ¬ (3 : Int32) ≤ 0 by decide), if_neg (show ¬ (3 : Int32) = 0 by decide), if_neg (show ¬ (3 : Int32) = 1 by decide), if_neg (show ¬ (3 : Int32) = 2 by decide)]
      rfl
  | false =>
    rw [hd] at c7 k26
    have c6' : gi Xc (sz + 12) 7 = (0 : Int32) := c7
    have k25' : gi X2 (sz + 151) 26 = (0 : Int32) := k26
    obtain ⟨⟨Xd, d1, d2⟩, -⟩ := c_word (F := F) w6 hR hpN
    obtain ⟨n1, n2⟩ := c_num (F := F) (lo := 0) (hi := 100) w6 w9 hF (by omega) (by omega) d2
    obtain ⟨Xn, q1, q2, q3, q4⟩ := m_num (F := F) (lo := 0) (hi := 100) wM ke.1 (hT.s ke (by decide)) kf (by omega) (by omega) (by omega) hF
    have hin := m_into (F := F) (ar := sz + 151 + 14) (k := 0) wM ke.1 q1 q2.1 (fun x => qaS_Y q2.1 wM.p14 (by decide) (by decide) x)
    have hXi : shX (pA Xn (sz + 151 + 14) 0 (gi Xn (sz + 151) 14)) = Y := shX_pA q2.1 wM.p14 _ _
    have hfm : FM (sz + 151) Xm (pA Xn (sz + 151 + 14) 0 (gi Xn (sz + 151) 14)) := ((ke.FM (by decide)).trans (q2.FM (by decide))).pA (by omega)
    
    have mpre : ∀ Z, (qlab (fun (X19 : qH) => (qgI X19 9 (sz + 151) 13).bind fun v20 => qlt (v20 + (1 : Int32)) fun v21 => (qpI X19 9 (sz + 151) 13 v21).bind fun X22 => some (nI (nmF tx N 0 100 (p + 1)), X22)) fun J28 => if nI (nmF tx N 0 100 (p + 1)) = (0 : Int32) then (qb2 (fX10_here F (pA Xn (sz + 151 + 14) 0 (gi Xn (sz + 151) 14)) (sz + 151)) fun v23 X24 => if v23 = (59 : Int32) then (J28 X24) else ((qgI X24 9 (sz + 151) 13).bind fun v25 => qb2 (fX10_fails F X24 (sz + 151) (1 : Int32) v25) fun v26 X27 => some (v26, X27))) else (J28 (pA Xn (sz + 151 + 14) 0 (gi Xn (sz + 151) 14)))) = Z → fX10_takeClause F Xm (sz + 151) = Z := fun Z hz => by
      have hin' : fX10_into F (pI (pI (pI X2 (sz + 151) 13 (nI (p + 1))) (sz + 151) 25 (bI hs)) (sz + 151) 26 (bI true)) (sz + 151) (sz + 151 + 14) (0 : Int32) (0 : Int32) (100 : Int32) = some (nI (nmF tx N 0 100 (p + 1)), pA Xn (sz + 151 + 14) 0 (gi Xn (sz + 151) 14)) := hin
      rw [← hz]
      have e25 : (if gi (pI X2 (sz + 151) 13 (nI (p + 1))) (sz + 151) 25 = (0 : Int32) then (some (0 : Int32) : Option Int32) else (some (1 : Int32) : Option Int32)) = some (bI hs) := by
        rw [kb]
        cases hs <;> rfl
      have e26 : (if gi (pI (pI X2 (sz + 151) 13 (nI (p + 1))) (sz + 151) 25 (bI hs)) (sz + 151) 26 = (0 : Int32) then (some (1 : Int32) : Option Int32) else (some (1 : Int32) : Option Int32)) = some (bI true) := by
        rw [kd]
        rw [ite_self]; rfl
      simp only [fX10_takeClause, gM wM, sM wM, m7 wM, hXm, k1', qb2, Option.bind_some, if_neg (show ¬ (103 : Int32) = 98 by decide), if_neg (show ¬ (103 : Int32) = 104 by decide), if_neg (show ¬ (103 : Int32) = 109 by decide), if_true, qlab, k2.1, m0', hw', if_false, k25', k3, ka, kc, ke.1, if_neg (show ¬ (3 : Int32) < 0 by decide), if_neg (show ¬ (3 : Int32) ≤ 0 by decide), if_neg (show ¬ (3 : Int32) = 0 by decide), if_neg (show ¬ (3 : Int32) = 1 by decide), if_neg (show ¬ (3 : Int32) = 2 by decide), qlt, nI_1, e25, e26, bI_01, hin']
    have e13 : nmF tx N 0 100 (p + 1) = 0 → gi (pA Xn (sz + 151 + 14) 0 (gi Xn (sz + 151) 14)) (sz + 151) 13 = nI (nmE tx N (p + 1)) := fun y => by rw [gi_pA]; exact (q3 y).2.1
    by_cases z : nmF tx N 0 100 (p + 1) = 0
    · obtain ⟨Xn1, n1a, n1b, n1c⟩ := n1 z
      have n1a' : fX6_readNumber F Xd (sz + 12) (0 : Int32) (100 : Int32) = some (nI (nmV tx N (p + 1)), Xn1) := n1a
      have hle := n1b.2.2.2.2.1.2.1
      obtain ⟨X24, a1, a2, a3⟩ := m_here (F := F) wM hXi (hT.f hfm) (e13 z) hle hF
      obtain ⟨E1, E2⟩ := c_end (F := F) w6 w9 hF n1b
      have hskle := sk_in (tx := tx) _ (nmE tx N (p + 1)) rfl hle
      have hskp := sk_in (tx := tx) _ (p + 1) rfl (show p + 1 ≤ N by omega)
      have hnp : p + 1 ≤ nmE tx N (p + 1) := by unfold nmE; omega
      by_cases ze : sk tx N (nmE tx N (p + 1)) < N ∧ tx (sk tx N (nmE tx N (p + 1))) = 59
      · obtain ⟨Xe, e1, e2⟩ := E1 ze
        have hv : hvI tx N (nmE tx N (p + 1)) = (59 : Int32) := by unfold hvI; rw [if_pos ze.1, ze.2]; rfl
        have hval : nmV tx N (p + 1) ≤ 100 := by
          unfold nmF at z
          split at z
          · omega
          · split at z
            · rename_i y; exact y.2.2
            · omega
        have hX8 : shX (pI Xe b 4 (nI (nmV tx N (p + 1)))) = Y := by simp only [kB wB, e2.1]
        have hX9 : shX (pI (pI Xe b 4 (nI (nmV tx N (p + 1)))) (sz + 12) 7 1) = Y := by simp only [k6 w6, hX8]
        have s24 := a2.pI wM (k := 13) (v := nI (sk tx N (nmE tx N (p + 1)) + 1)) (by decide) (by simp only [kM wM, a2.1]) (fun j => by simp only [uM wM, a2.1])
        have hfm2 := hfm.trans (s24.FM (by decide))
        refine ⟨pI (pI Xe b 4 (nI (nmV tx N (p + 1)))) (sz + 12) 7 1, pI X24 (sz + 151) 13 (nI (sk tx N (nmE tx N (p + 1)) + 1)), 0, ?_, ?_, hX9, fun y y1 y2 => (pV_ne y1).trans ((pV_ne (by omega)).trans (e2.2.1 y y1)), s24.1, hfm2, Or.inl ⟨rfl, ⟨sk tx N (nmE tx N (p + 1)) + 1, by omega, by omega, w, fo, wi, cnt, sm, nmV tx N (p + 1), hs, true, ce, po, ro, nn, dd, ?_, ?_, ?_, s24.1, hT.f hfm2, ?_, ?_⟩, ?_⟩⟩
        · simp only [fX6_readDamp, g6 w6, s6 w6, sB wB, hR.1, Option.bind_some, c6', d1, n1a', qb2, e1, e2.1, e2.2.2.2.2.2.1, if_pos (show nI 0 = (0 : Int32) from rfl), hX8, or_true]
        · refine mpre _ ?_
          simp only [qlab, z, if_pos (show nI 0 = (0 : Int32) from rfl), a1, qb2, Option.bind_some, hv, if_true, gM wM, sM wM, a2.1, a3, qlt, nI_1]
        · obtain ⟨r1, r2, r3, r4, r5, r6, r7, r8, r9⟩ := id e2
          have un : ∀ k : Nat, gi (pI (pI Xe b 4 (nI (nmV tx N (p + 1)))) (sz + 12) 7 1) (sz + 12) k = if k = 7 then 1 else gi Xe (sz + 12) k := fun k => by
            simp only [u6 w6, hX8]
            rw [gi_pI_ne (by omega)]
          refine ⟨hX9, fun _ _ => rfl, by rw [gr_pI _ _ _ (by omega), gr_pI_ne' (by omega)]; exact r3, by rw [un, if_neg (by omega)]; exact r4, ⟨by rw [un, if_neg (by omega)]; exact r5.1, r5.2⟩, by rw [un, if_neg (by omega)]; exact r6, by rw [un, if_neg (by omega)]; exact r7, ⟨rfl, rfl⟩, fun i hi => by rw [ga_pI, ga_pI]; exact r9 i hi⟩
        · obtain ⟨p1, p2, p3, p4, p5⟩ := hP
          exact ⟨by omega, p2, p3, ⟨p4.1, fun y => (by cases y)⟩, p5⟩
        · have ub : ∀ k : Nat, gi (pI (pI Xe b 4 (nI (nmV tx N (p + 1)))) (sz + 12) 7 1) b k = if k = 4 then nI (nmV tx N (p + 1)) else gi Xc b k := fun k => by
            rw [gi_pI_ne (by omega)]
            simp only [uB wB, e2.1]
            rw [gi_congr (e2.2.1 b (by omega))]
          have un : ∀ k : Nat, gi (pI (pI Xe b 4 (nI (nmV tx N (p + 1)))) (sz + 12) 7 1) (sz + 12) k = if k = 7 then 1 else gi Xe (sz + 12) k := fun k => by
            simp only [u6 w6, hX8]
            rw [gi_pI_ne (by omega)]
          have ue : ∀ j : Nat, ga (pI (pI Xe b 4 (nI (nmV tx N (p + 1)))) (sz + 12) 7 1) (b + j) = ga Xe (b + j) := fun j => by rw [ga_pI, ga_pI]
          refine ⟨⟨by rw [ub, if_neg (by omega)]; exact c0, by rw [ub, if_neg (by omega)]; exact c1, by rw [ub, if_neg (by omega)]; exact c2, by rw [ub, if_neg (by omega)]; exact c3, by rw [ub, if_pos rfl], by rw [ub, if_neg (by omega)]; exact c5⟩, ⟨by rw [un, if_neg (by omega), e2.2.2.2.2.2.2.2.1.1]; exact c6, by rw [un, if_pos rfl]; rfl⟩, fun g hg => ?_⟩
          rw [ue, ue, ue, ue, ga_congr (e2.2.1 (b + 1) (by omega)), ga_congr (e2.2.1 (b + 2) (by omega)), ga_congr (e2.2.1 (b + 3) (by omega)), ga_congr (e2.2.1 (b + 4) (by omega))]
          exact c8 g hg
        · simp only [uM wM, a2.1, if_true]
        · have ga' : ∀ j : Nat, 7 ≤ j → j ≤ 14 → j ≠ 14 → ga (pI X24 (sz + 151) 13 (nI (sk tx N (nmE tx N (p + 1)) + 1))) (sz + 151 + j) = ga Xm (sz + 151 + j) := fun j j1 j2 j3 => by
            rw [ga_pI, ga_congr (a2.2.1 _ (by omega)), ga_pA_ne (by omega), ga_congr (q2.2.1 _ (by omega)), ga_congr (ke.2.1 _ (by omega))]
          have gar : ga (pI X24 (sz + 151) 13 (nI (sk tx N (nmE tx N (p + 1)) + 1))) (sz + 151 + 14) 0 = nI (nmV tx N (p + 1)) := by
            rw [ga_pI, ga_congr (a2.2.1 _ (by omega)), ga_pA_self q2.1 wM.p14, upd_self]; exact (q3 z).2.2.1
          have gf : ∀ k : Nat, k ≠ 12 → k ≠ 13 → k ≠ 14 → k ≠ 15 → gi (pI X24 (sz + 151) 13 (nI (sk tx N (nmE tx N (p + 1)) + 1))) (sz + 151) k = gi (pI (pI (pI X2 (sz + 151) 13 (nI (p + 1))) (sz + 151) 25 (bI hs)) (sz + 151) 26 (bI true)) (sz + 151) k := fun k y1 y2 y3 y4 => by
            simp only [uM wM, a2.1]
            rw [if_neg y2, a2.2.2 k (by simpa using y2), gi_pA, q2.2.2 k (by simp [y1, y2, y3, y4])]
          refine ⟨by rw [ga' 7 (by omega) (by omega) (by omega)]; exact ⟨m0, m1, m2⟩, ⟨by rw [gf 17 (by omega) (by omega) (by omega) (by omega), ke.2.2 17 (by decide)]; exact m17, by rw [gf 25 (by omega) (by omega) (by omega) (by omega)]; exact kg, by rw [gf 26 (by omega) (by omega) (by omega) (by omega)]; exact kh⟩, ⟨fun y => by rw [ga' 13 (by omega) (by omega) (by omega)]; exact m13 y, fun _ => gar⟩, fun g hg => ?_⟩
          rw [ga' 8 (by omega) (by omega) (by omega), ga' 9 (by omega) (by omega) (by omega), ga' 10 (by omega) (by omega) (by omega), ga' 11 (by omega) (by omega) (by omega), ga' 12 (by omega) (by omega) (by omega)]
          exact mg g hg
        · simp only [uM wM, a2.1]
          rw [if_neg (by omega), a2.2.2 12 (by decide), gi_pA, (q3 z).1, ke.2.2 12 (by decide)]
      · obtain ⟨Xe, e1, e2⟩ := E2 ze
        obtain ⟨f1, f2, f3⟩ := m_fails (F := F) wM a2.1 (1 : Int32) (nI (sk tx N (nmE tx N (p + 1))))
        have hv : ¬ hvI tx N (nmE tx N (p + 1)) = (59 : Int32) := by
          unfold hvI
          by_cases y : sk tx N (nmE tx N (p + 1)) < N
          · have t2 := (hT.2.2 _ y).2
            rw [if_pos y]
            exact fun u => ze ⟨y, (nI_eq (b := 59) (by omega) (by omega)).mp u⟩
          · rw [if_neg y]; decide
        refine ⟨Xe, pI X24 (sz + 151) 12 (nI (sk tx N (nmE tx N (p + 1)))), 1, ?_, ?_, e2.1, e2.FC, f2.1, (hfm.trans (a2.FM (by decide))).trans (f2.FM (by decide)), Or.inr ⟨by omega, by omega, ⟨_, _, e2⟩, e2.2.2.2.2.2.1, _, e2.2.2.2.2.2.2.1, f3⟩⟩
        · simp only [fX6_readDamp, g6 w6, hR.1, Option.bind_some, c6', d1, n1a', qb2, e1, e2.1, e2.2.2.2.2.2.1, if_neg (show ¬ nI 1 = (0 : Int32) by decide)]
        · refine mpre _ ?_
          simp only [qlab, z, if_pos (show nI 0 = (0 : Int32) from rfl), a1, qb2, Option.bind_some, if_neg hv, gM wM, a2.1, a3, f1]
          rfl
    · obtain ⟨Xn1, pn, n2a, n2b⟩ := n2 z
      have n2a' : fX6_readNumber F Xd (sz + 12) (0 : Int32) (100 : Int32) = some (-1, Xn1) := n2a
      have hf10 : 0 < nmF tx N 0 100 (p + 1) ∧ nmF tx N 0 100 (p + 1) < 10 := by
        refine ⟨by omega, ?_⟩
        unfold nmF
        split
        · omega
        · split <;> omega
      obtain ⟨Xe, pe, d4, d5⟩ := c_end_dead (F := F) w6 w9 hF n2b hf10
      have nz : ¬ nI (nmF tx N 0 100 (p + 1)) = (0 : Int32) := nI_ne0 hf10.1 (by omega)
      have s13 := (MS.rfl' (m := sz + 151) hXi [13]).pI wM (k := 13) (v := gi (pA Xn (sz + 151 + 14) 0 (gi Xn (sz + 151) 14)) (sz + 151) 13 + 1) (by decide) (by simp only [kM wM, hXi]) (fun j => by simp only [uM wM, hXi])
      refine ⟨Xe, pI (pA Xn (sz + 151 + 14) 0 (gi Xn (sz + 151) 14)) (sz + 151) 13 (gi (pA Xn (sz + 151 + 14) 0 (gi Xn (sz + 151) 14)) (sz + 151) 13 + 1), nmF tx N 0 100 (p + 1), ?_, ?_, d5.1, d5.FC, s13.1, hfm.trans (s13.FM (by decide)), Or.inr ⟨hf10.1, hf10.2, ⟨_, _, d5⟩, d5.2.2.2.2.2.1, _, d5.2.2.2.2.2.2.1, ?_⟩⟩
      · simp only [fX6_readDamp, g6 w6, hR.1, Option.bind_some, c6', d1, n2a', qb2, d4, d5.1, d5.2.2.2.2.2.1, if_neg nz]
      · refine mpre _ ?_
        simp only [qlab, if_neg nz, gM wM, sM wM, hXi, Option.bind_some, qlt]
      · rw [s13.2.2 12 (by decide), gi_pA]; exact q4 z
