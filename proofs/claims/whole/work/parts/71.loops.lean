/-! bay: the loops over the clauses -/
theorem nI_nneg {n : Nat} (h : n < 2 ^ 31) : ¬ nI n < (0 : Int32) := Int32.not_lt.mpr (nI_pos' h)
theorem RC.self {X0 X Y : qH} {sz N f p : Nat} {fp : Int32} {tx : Nat → Nat} (h : RC X0 Y sz N tx f fp p X) : RC X Y sz N tx f fp p X := ⟨h.1, fun _ _ => rfl, h.2.2.1, h.2.2.2.1, h.2.2.2.2.1, h.2.2.2.2.2.1, h.2.2.2.2.2.2.1, ⟨rfl, rfl⟩, h.2.2.2.2.2.2.2.2⟩
theorem PC.f {X0 X Y : qH} {sz b N f p : Nat} {fp : Int32} {tx : Nat → Nat} {w fo wi cnt sm da : Nat} {hs hd : Bool} {ce po ro nn : Nat → Nat} {dd : Nat → Nat → Nat} (hC : PC X0 sz b w fo wi cnt sm da hs hd ce po ro nn dd) (h : RC X0 Y sz N tx f fp p X) (hb : b + 5 ≤ sz + 12) : PC X sz b w fo wi cnt sm da hs hd ce po ro nn dd := by
  obtain ⟨⟨c0, c1, c2, c3, c4, c5⟩, ⟨c6, c7⟩, c8⟩ := hC
  have fb : ∀ k : Nat, gi X b k = gi X0 b k := fun k => gi_congr (h.2.1 b (by omega)) k
  refine ⟨⟨by rw [fb]; exact c0, by rw [fb]; exact c1, by rw [fb]; exact c2, by rw [fb]; exact c3, by rw [fb]; exact c4, by rw [fb]; exact c5⟩, ⟨by rw [h.2.2.2.2.2.2.2.1.1]; exact c6, by rw [h.2.2.2.2.2.2.2.1.2]; exact c7⟩, fun g hg => ?_⟩
  rw [ga_congr (h.2.1 (b + 1) (by omega)), ga_congr (h.2.1 (b + 2) (by omega)), ga_congr (h.2.1 (b + 3) (by omega)), ga_congr (h.2.1 (b + 4) (by omega))]
  exact c8 g hg
theorem PM.f {X X2 Y : qH} {m : Nat} {w fo wi cnt sm da : Nat} {hs hd : Bool} {ce po ro nn : Nat → Nat} {dd : Nat → Nat → Nat} (hM : PM X m w fo wi cnt sm da hs hd ce po ro nn dd) (h : MS [13] Y X m X2) : PM X2 m w fo wi cnt sm da hs hd ce po ro nn dd := by
  obtain ⟨m0, m1, m2, mg⟩ := hM
  unfold PM
  rw [ga_congr (h.2.1 (m + 7) (by omega)), ga_congr (h.2.1 (m + 8) (by omega)), ga_congr (h.2.1 (m + 9) (by omega)), ga_congr (h.2.1 (m + 10) (by omega)), ga_congr (h.2.1 (m + 11) (by omega)), ga_congr (h.2.1 (m + 12) (by omega)), ga_congr (h.2.1 (m + 13) (by omega)), ga_congr (h.2.1 (m + 14) (by omega)), h.2.2 17 (by decide), h.2.2 25 (by decide), h.2.2 26 (by decide)]
  exact ⟨m0, m1, m2, mg⟩
def JE (Y : qH) (sz b : Nat) (Xc Xm : qH) (f : Nat) (Xc2 Xm2 : qH) : Prop := shX Xc2 = Y ∧ FC sz b Xc Xc2 ∧ shX Xm2 = Y ∧ FM (sz + 151) Xm Xm2 ∧ f < 10 ∧ gi Xc2 (sz + 12) 4 = nI f ∧ ((f = 0 ∧ (∃ (w fo wi cnt sm da : Nat) (hs hd : Bool) (ce po ro nn : Nat → Nat) (dd : Nat → Nat → Nat), PP w fo wi cnt sm da hs hd ce po ro nn dd ∧ PC Xc2 sz b w fo wi cnt sm da hs hd ce po ro nn dd ∧ PM Xm2 (sz + 151) w fo wi cnt sm da hs hd ce po ro nn dd) ∧ gi Xm2 (sz + 151) 12 = gi Xm (sz + 151) 12) ∨ (0 < f ∧ ∃ fp : Nat, gi Xc2 (sz + 12) 5 = nI fp ∧ gi Xm2 (sz + 151) 12 = nI fp))
theorem FC.trans {sz b : Nat} {X X2 X3 : qH} (h : FC sz b X X2) (h2 : FC sz b X2 X3) : FC sz b X X3 := fun q q1 q2 => (h2 q q1 q2).trans (h q q1 q2)
set_option maxHeartbeats 1000000 in
theorem cl_loop {F : Nat} {Y : qH} {sz b N : Nat} {tx : Nat → Nat} (hW : YW Y sz) (wB : YB Y b) (hb : sz + 2 ≤ b ∧ b + 5 ≤ sz + 12) (hF : 1000 ≤ F) :
    ∀ (n k q : Nat) (Xc Xm : qH), JS Y sz b N tx q Xc Xm → N - q + 1 < n → k ≤ q → ∃ Xc2 Xm2 f, ((fX6_skipBlanks F Xc (sz + 12)).bind fun X => fX6_read_L51 F (sz + 12) b n (nI k) X) = some Xc2 ∧ fX10_bay_L47 F (sz + 151) n (0 : Int32) Xm = some (nI f, Xm2) ∧ JE Y sz b Xc Xm f Xc2 Xm2 := by
  obtain ⟨w9, -, -, w6, -, -, -, -, -, -, -, wM⟩ := id hW
  intro n
  induction n with
  | zero => intro k q Xc Xm hJ hn hk; omega
  | succ n ih =>
    intro k q Xc Xm hJ hn hk
    obtain ⟨w, fo, wi, cnt, sm, da, hs, hd, ce, po, ro, nn, dd, hR, hP, hC, hXm, hT, h13, hM⟩ := hJ
    have hqN := hR.2.2.2.2.1.2.1
    have hN := hT.2.1
    obtain ⟨Xs, s1, s2, -⟩ := c_skip (F := F) w6 w9 hF hR
    obtain ⟨Xh, a1, a2, a3⟩ := m_here (F := F) wM hXm hT h13 hqN hF
    have hsk := sk_in (tx := tx) _ q rfl hqN
    have hC2 := hC.f s2 hb.2
    have hM2 := hM.f a2
    obtain ⟨x1, x2, x3, x4, ⟨x5, x5b, x5c⟩, x6, x7, x8, x9⟩ := id s2
    rw [s1]
    show ∃ Xc2 Xm2 f, fX6_read_L51_B F (sz + 12) b (fX6_read_L51 F (sz + 12) b n) (nI k) Xs = some Xc2 ∧ fX10_bay_L47_B F (sz + 151) (fX10_bay_L47 F (sz + 151) n) 0 Xm = some (nI f, Xm2) ∧ _
    by_cases z : sk tx N q < N
    · have hJ2 : JS Y sz b N tx (sk tx N q) Xs Xh := ⟨w, fo, wi, cnt, sm, da, hs, hd, ce, po, ro, nn, dd, s2.self, hP, hC2, a2.1, hT.s a2 (by decide), a3, hM2⟩
      have hbl : tx (sk tx N q) ≠ 32 := fun y => hsk.2.2 ⟨z, y⟩
      have t2 := (x9 _ z).2
      obtain ⟨Xc2, Xm2, f, r1, r2, r3, r4, r5, r6, r7⟩ := cl_all (F := F) hW wB hb hF hJ2 z hbl
      have hvn : ¬ hvI tx N q < (0 : Int32) := by
        unfold hvI
        rw [if_pos z]
        exact nI_nneg (by omega)
      have hfc : FC sz b Xc Xs := s2.FC
      have h230 : ¬ (230 : Int32) ≤ nI k := nI_ge (b := 230) (show k < 230 by omega) (by decide)
      rcases r7 with ⟨rfl, ⟨p2, p2a, p2b, J3⟩, r12⟩ | ⟨f0, f10, ⟨pe, fe, hRe⟩, r4f, fp, r5f, r12⟩
      · obtain ⟨Xc3, Xm3, f, i1, i2, i3, i4, i5, i6, i7, i8, i9⟩ := ih (k + 1) p2 Xc2 Xm2 J3 (by omega) (by omega)
        refine ⟨Xc3, Xm3, f, ?_, ?_, i3, (hfc.trans r4).trans i4, i5, ((a2.FM (by decide)).trans r6).trans i6, i7, i8, ?_⟩
        · unfold fX6_read_L51_B
          simp only [if_neg h230, g6 w6, x1, x4, x5, Option.bind_some, if_neg (nI_ge z (by omega)), x6, if_pos (show nI 0 = (0 : Int32) from rfl), r1, qlt, nI_1]
          exact i1
        · unfold fX10_bay_L47_B
          simp only [if_true, a1, qb2, Option.bind_some, if_neg hvn, r2]
          exact i2
        · rcases i9 with ⟨y1, y2, y3⟩ | y
          · exact Or.inl ⟨y1, y2, by rw [y3, r12, a2.2.2 12 (by decide)]⟩
          · exact Or.inr y
      · obtain ⟨Xe, e1, e2, -⟩ := c_skip (F := F) w6 w9 hF hRe
        obtain ⟨n', rfl⟩ : ∃ y, n = y + 1 := ⟨n - 1, by omega⟩
        have nz := nI_ne0 f0 (show f < 2 ^ 31 by omega)
        refine ⟨Xe, Xm2, f, ?_, ?_, e2.1, fun y y1 y2 => (e2.2.1 y y1).trans (x2 y y1), r5, (a2.FM (by decide)).trans r6, f10, e2.2.2.2.2.2.1, Or.inr ⟨f0, fp, ?_, r12⟩⟩
        · unfold fX6_read_L51_B
          simp only [if_neg h230, g6 w6, x1, x4, x5, Option.bind_some, if_neg (nI_ge z (by omega)), x6, if_pos (show nI 0 = (0 : Int32) from rfl), r1, qlt, nI_1, e1]
          show fX6_read_L51_B F (sz + 12) b (fX6_read_L51 F (sz + 12) b n') (nI (k + 1)) Xe = _
          unfold fX6_read_L51_B
          simp only [g6 w6, e2.1, Option.bind_some, e2.2.2.2.2.2.1, if_neg nz, ite_self]
        · unfold fX10_bay_L47_B
          simp only [if_true, a1, qb2, Option.bind_some, if_neg hvn, r2]
          show fX10_bay_L47_B F (sz + 151) (fX10_bay_L47 F (sz + 151) n') (nI f) Xm2 = _
          unfold fX10_bay_L47_B
          rw [if_neg nz]
        · rw [e2.2.2.2.2.2.2.1, ← hRe.2.2.2.2.2.2.1]; exact r5f
    · have hv : hvI tx N q = -1 := by unfold hvI; rw [if_neg z]
      refine ⟨Xs, Xh, 0, ?_, ?_, x1, s2.FC, a2.1, a2.FM (by decide), by omega, x6, Or.inl ⟨rfl, ⟨w, fo, wi, cnt, sm, da, hs, hd, ce, po, ro, nn, dd, hP, hC2, hM2⟩, a2.2.2 12 (by decide)⟩⟩
      · unfold fX6_read_L51_B
        simp only [g6 w6, x1, x4, x5, Option.bind_some, if_pos (nI_le (show N ≤ sk tx N q by omega) (by omega)), ite_self]
      · unfold fX10_bay_L47_B
        simp only [if_true, a1, qb2, Option.bind_some, hv, if_pos (show (-1 : Int32) < 0 by decide)]
        rfl
