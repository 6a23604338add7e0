/-! bay: the class's reader -/
section RDC
variable {F : Nat} {X0 X Y : qH} {sz N f p : Nat} {fp : Int32} {tx : Nat → Nat}
theorem c_skipL (w6 : Y6 Y (sz + 12)) (w9 : Y9 Y sz) : ∀ (n p : Nat) (X : qH), RC X0 Y sz N tx f fp p X → N - p < n → ∃ X2, fX6_skipBlanks_L0 F (sz + 12) n X = some X2 ∧ RC X0 Y sz N tx f fp (sk tx N p) X2 ∧ gi X2 (sz + 12) 3 = gi X (sz + 12) 3 := by
  intro n
  induction n with
  | zero => intro p X h hn; omega
  | succ n ih =>
    intro p X h hn
    obtain ⟨h1, h2, h3, h4, ⟨h5, h5b, h5c⟩, h6, h7, h8, h9⟩ := id h
    show ∃ X2, fX6_skipBlanks_L0_B F (sz + 12) (fX6_skipBlanks_L0 F (sz + 12) n) X = some X2 ∧ _
    unfold fX6_skipBlanks_L0_B
    by_cases z : p < N
    · have l : p < 230 := by omega
      obtain ⟨t1, t2⟩ := h9 p z
      have e32 : (nI (tx p) = (32 : Int32)) = (tx p = 32) := propext (nI_eq (b := 32) (by omega) (by omega))
      by_cases z2 : tx p = 32
      · obtain ⟨a1, a2⟩ := h.at w6 (p2 := p + 1) (by omega)
        obtain ⟨X2, k1, k2, k3⟩ := ih (p + 1) _ a1 (by omega)
        refine ⟨X2, ?_, by rw [sk_step z z2]; exact k2, by rw [k3, a2]⟩
        simp only [g6 w6, s6 w6, g9 w9, h1, Option.bind_some, h3, h4, h5, if_neg (nI_ge z (by omega)), l, t1, e32, if_pos z2, qlt, nI_1]
        exact k1
      · refine ⟨X, ?_, by rw [sk_stay (fun y => z2 y.2)]; exact h, rfl⟩
        simp only [g6 w6, g9 w9, h1, Option.bind_some, h3, h4, h5, if_neg (nI_ge z (by omega)), l, t1, e32, if_neg z2]
    · refine ⟨X, ?_, by rw [sk_stay (fun y => z y.1)]; exact h, rfl⟩
      simp only [g6 w6, h1, Option.bind_some, h4, h5, if_pos (nI_le (show N ≤ p by omega) (by omega))]
theorem c_skip (w6 : Y6 Y (sz + 12)) (w9 : Y9 Y sz) (hF : 1000 ≤ F) (h : RC X0 Y sz N tx f fp p X) : ∃ X2, fX6_skipBlanks F X (sz + 12) = some X2 ∧ RC X0 Y sz N tx f fp (sk tx N p) X2 ∧ gi X2 (sz + 12) 3 = gi X (sz + 12) 3 := by
  obtain ⟨X2, k1, k2, k3⟩ := c_skipL (F := F) w6 w9 F p X h (by have := h.2.2.2.2.1.2.2; omega)
  refine ⟨X2, ?_, k2, k3⟩
  simp only [fX6_skipBlanks, g6 w6, h.1, k1, Option.bind_some]
/-- the first fault -/
theorem c_fail (w6 : Y6 Y (sz + 12)) (h : RC X0 Y sz N tx 0 fp p X) {k : Nat} (k9 : k < 10) (v : Int32) : ∃ X2, fX6_fail F X (sz + 12) (nI k) v = some X2 ∧ RC X0 Y sz N tx k v p X2 := by
  obtain ⟨h1, h2, h3, h4, h5, h6, h7, h8, h9⟩ := id h
  have hX3 : shX (pI X (sz + 12) 4 (nI k)) = Y := by simp only [k6 w6, h1]
  refine ⟨pI (pI X (sz + 12) 4 (nI k)) (sz + 12) 5 v, ?_, by simp only [k6 w6, hX3], fun q hq => (pV_ne hq).trans ((pV_ne hq).trans (h2 q hq)), by rw [gr_pI _ _ _ (by omega), gr_pI _ _ _ (by omega)]; exact h3, ?_, ⟨?_, h5.2⟩, ?_, ?_, ⟨?_, ?_⟩, fun i hi => by rw [ga_pI, ga_pI]; exact h9 i hi⟩
  · simp only [fX6_fail, g6 w6, s6 w6, h1, hX3, Option.bind_some, h6, if_pos (show nI 0 = (0 : Int32) from rfl)]
  · simp only [u6 w6, h1, hX3]; exact h4
  · simp only [u6 w6, h1, hX3]; exact h5.1
  · simp only [u6 w6, h1, hX3]; rfl
  · simp only [u6 w6, h1, hX3, if_true]
  · simp only [u6 w6, h1, hX3]; exact h8.1
  · simp only [u6 w6, h1, hX3]; exact h8.2
theorem c_fail_dead (w6 : Y6 Y (sz + 12)) (h : RC X0 Y sz N tx f fp p X) (hf : 0 < f ∧ f < 10) (k v : Int32) : fX6_fail F X (sz + 12) k v = some X := by
  obtain ⟨h1, h2, h3, h4, h5, h6, h7, h8, h9⟩ := id h
  simp only [fX6_fail, g6 w6, h1, Option.bind_some, h6, if_neg (nI_ne0 hf.1 (by omega))]
theorem c_numL (w6 : Y6 Y (sz + 12)) (w9 : Y9 Y sz) {q : Nat} {lo hi na : Int32} : ∀ (n j : Nat) (X : qH), RC X0 Y sz N tx f fp (q + j) X → gi X (sz + 12) 3 = na → N - (q + j) < n → ∃ X2, fX6_readNumber_L23 F (sz + 12) lo hi n (nI (vl tx q j)) X = some (nI (vl tx q (j + rn tx N 48 57 (q + j))), X2) ∧ RC X0 Y sz N tx f fp (q + j + rn tx N 48 57 (q + j)) X2 ∧ gi X2 (sz + 12) 3 = na := by
  intro n
  induction n with
  | zero => intro j X h hna hn; omega
  | succ n ih =>
    intro j X h hna hn
    obtain ⟨h1, h2, h3, h4, ⟨h5, h5b, h5c⟩, h6, h7, h8, h9⟩ := id h
    show ∃ X2, fX6_readNumber_L23_B F (sz + 12) lo hi (fX6_readNumber_L23 F (sz + 12) lo hi n) (nI (vl tx q j)) X = _ ∧ _
    unfold fX6_readNumber_L23_B
    by_cases z : q + j < N
    · have l : q + j < 230 := by omega
      obtain ⟨t1, t2⟩ := h9 (q + j) z
      by_cases z1 : tx (q + j) < 48
      · refine ⟨X, ?_, by rw [rn_stop (by omega)]; exact h, hna⟩
        rw [rn_stop (by omega)]
        simp only [g6 w6, g9 w9, h1, Option.bind_some, h3, h4, h5, if_neg (nI_ge z (by omega)), l, t1, if_pos (show nI (tx (q + j)) < (48 : Int32) from nI_lt (b := 48) z1 (by omega))]
        rfl
      · have n1 : ¬ nI (tx (q + j)) < (48 : Int32) := nI_nlt (b := 48) (by omega) (by omega)
        by_cases z2 : 57 < tx (q + j)
        · refine ⟨X, ?_, by rw [rn_stop (by omega)]; exact h, hna⟩
          rw [rn_stop (by omega)]
          simp only [g6 w6, g9 w9, h1, Option.bind_some, h3, h4, h5, if_neg (nI_ge z (by omega)), l, t1, if_neg n1, if_pos (show (57 : Int32) < nI (tx (q + j)) from nI_lt (a := 57) z2 (by omega))]
          rfl
        · have n2 : ¬ (57 : Int32) < nI (tx (q + j)) := nI_nlt (a := 57) (by omega) (by omega)
          obtain ⟨a1, a2⟩ := h.at w6 (p2 := q + j + 1) (by omega)
          obtain ⟨X2, k1, k2, k3⟩ := ih (j + 1) _ a1 (by rw [a2]; exact hna) (by omega)
          have ev : nI (vl tx q j) * (10 : Int32) + nI (tx (q + j)) - (48 : Int32) = nI (vl tx q (j + 1)) := by
            rw [show (10 : Int32) = nI 10 from rfl, show (48 : Int32) = nI 48 from rfl, pk_mul, nI_add, pk_sub (by omega), vl]
            congr 1
            omega
          have er : rn tx N 48 57 (q + j) = rn tx N 48 57 (q + (j + 1)) + 1 := rn_step ⟨z, by omega, by omega⟩
          refine ⟨X2, ?_, ?_, k3⟩
          · rw [er, show j + (rn tx N 48 57 (q + (j + 1)) + 1) = (j + 1) + rn tx N 48 57 (q + (j + 1)) by omega]
            simp only [g6 w6, s6 w6, g9 w9, h1, Option.bind_some, h3, h4, h5, if_neg (nI_ge z (by omega)), l, t1, if_neg n1, if_neg n2, qlt, ev, nI_1]
            exact k1
          · rw [er, show q + j + (rn tx N 48 57 (q + (j + 1)) + 1) = q + (j + 1) + rn tx N 48 57 (q + (j + 1)) by omega]
            exact k2
    · refine ⟨X, ?_, by rw [rn_stop (by omega)]; exact h, hna⟩
      rw [rn_stop (by omega)]
      simp only [g6 w6, h1, Option.bind_some, h4, h5, if_pos (nI_le (show N ≤ q + j by omega) (by omega))]
      rfl
theorem vl_lt {tx : Nat → Nat} {p : Nat} : ∀ j : Nat, (∀ i : Nat, i < j → tx (p + i) ≤ 57) → vl tx p j < 10 ^ j := by
  intro j
  induction j with
  | zero => intro _; exact Nat.zero_lt_one
  | succ j ih =>
    intro h
    have := ih (fun i hi => h i (by omega))
    have := h j (by omega)
    rw [vl, Nat.pow_succ]
    omega
theorem rn_all {tx : Nat → Nat} {N lo hi : Nat} : ∀ i p : Nat, i < rn tx N lo hi p → lo ≤ tx (p + i) ∧ tx (p + i) ≤ hi := by
  intro i
  induction i with
  | zero => intro p h; exact (rn_pos h).2
  | succ i ih =>
    intro p h
    have hp := rn_pos (show 0 < rn tx N lo hi p by omega)
    rw [rn_step hp] at h
    have := ih (p + 1) (by omega)
    rwa [show p + 1 + i = p + (i + 1) by omega] at this
/-- a number is read; f = 0 so far -/
theorem c_num (w6 : Y6 Y (sz + 12)) (w9 : Y9 Y sz) (hF : 1000 ≤ F) {lo hi : Nat} (hlo : lo < 1000) (hhi : hi < 1000) (h : RC X0 Y sz N tx 0 (-1) p X) :
    (nmF tx N lo hi p = 0 → ∃ X2, fX6_readNumber F X (sz + 12) (nI lo) (nI hi) = some (nI (nmV tx N p), X2) ∧ RC X0 Y sz N tx 0 (-1) (nmE tx N p) X2 ∧ gi X2 (sz + 12) 3 = nI (sk tx N p)) ∧
    (nmF tx N lo hi p ≠ 0 → ∃ X2 p2, fX6_readNumber F X (sz + 12) (nI lo) (nI hi) = some (-1, X2) ∧ RC X0 Y sz N tx (nmF tx N lo hi p) (nI (sk tx N p)) p2 X2) := by
  obtain ⟨X2, k1, k2, k3⟩ := c_skip (F := F) w6 w9 hF h
  obtain ⟨h1, h2, h3, h4, ⟨h5, h5b, h5c⟩, h6, h7, h8, h9⟩ := id k2
  have hX4 : shX (pI X2 (sz + 12) 3 (nI (sk tx N p))) = Y := by simp only [k6 w6, h1]
  have hR4 : RC X0 Y sz N tx 0 (-1) (sk tx N p + 0) (pI X2 (sz + 12) 3 (nI (sk tx N p))) := by
    refine ⟨hX4, fun q hq => (pV_ne hq).trans (h2 q hq), by rw [gr_pI _ _ _ (by omega)]; exact h3, ?_, ⟨?_, h5b, h5c⟩, ?_, ?_, ⟨?_, ?_⟩, fun i hi => by rw [ga_pI]; exact h9 i hi⟩
    · simp only [u6 w6, h1]; exact h4
    · simp only [u6 w6, h1]; exact h5
    · simp only [u6 w6, h1]; exact h6
    · simp only [u6 w6, h1]; exact h7
    · simp only [u6 w6, h1]; exact h8.1
    · simp only [u6 w6, h1]; exact h8.2
  have hn3 : gi (pI X2 (sz + 12) 3 (nI (sk tx N p))) (sz + 12) 3 = nI (sk tx N p) := by simp only [u6 w6, h1, if_true]
  obtain ⟨X5, m1, m2, m3⟩ := c_numL (F := F) (lo := nI lo) (hi := nI hi) w6 w9 F 0 _ hR4 hn3 (by omega)
  rw [Nat.zero_add] at m1
  rw [show sk tx N p + 0 = sk tx N p from rfl] at m1 m2
  have hle := rn_le (tx := tx) (N := N) (lo := 48) (hi := 57) _ (sk tx N p) rfl h5b
  have m1' : fX6_readNumber_L23 F (sz + 12) (nI lo) (nI hi) F (0 : Int32) (pI X2 (sz + 12) 3 (nI (sk tx N p))) = some (nI (nmV tx N p), X5) := m1
  have m5 := m2.2.2.2.2.1.1
  have esub : nI (sk tx N p + rn tx N 48 57 (sk tx N p)) - nI (sk tx N p) = nI (rn tx N 48 57 (sk tx N p)) := by
    rw [pk_sub (by omega), Nat.add_sub_cancel_left]
  have hh6 : gi X (sz + 12) 4 = nI 0 := h.2.2.2.2.2.1
  unfold nmF
  by_cases z0 : rn tx N 48 57 (sk tx N p) = 0
  · rw [if_pos z0]
    refine ⟨fun y => by omega, fun _ => ?_⟩
    obtain ⟨X6, f1, f2⟩ := c_fail (F := F) w6 m2 (k := 1) (by omega) (nI (sk tx N p + rn tx N 48 57 (sk tx N p)))
    refine ⟨X6, _, ?_, by rw [z0] at f2; exact f2⟩
    rw [z0] at esub m5 f1
    have f1' : fX6_fail F X5 (sz + 12) (1 : Int32) (nI (sk tx N p + 0)) = some X6 := f1
    simp only [fX6_readNumber, g6 w6, s6 w6, h.1, Option.bind_some, hh6, if_pos (show nI 0 = (0 : Int32) from rfl), k1, h1, h5, m1', qb2, m2.1, m5, m3, esub, qlt, f1']
  · rw [if_neg z0]
    have nz : ¬ nI (rn tx N 48 57 (sk tx N p)) = (0 : Int32) := nI_ne0 (by omega) (by omega)
    obtain ⟨X6, f1, f2⟩ := c_fail (F := F) w6 m2 (k := 2) (by omega) (nI (sk tx N p))
    have f1' : fX6_fail F X5 (sz + 12) (2 : Int32) (nI (sk tx N p)) = some X6 := f1
    by_cases z3 : rn tx N 48 57 (sk tx N p) ≤ 3
    · have hv : nmV tx N p < 1000 := by
        have := vl_lt (tx := tx) (p := sk tx N p) (rn tx N 48 57 (sk tx N p)) (fun i hi => (rn_all i _ hi).2)
        have h2 : 10 ^ rn tx N 48 57 (sk tx N p) ≤ 10 ^ 3 := Nat.pow_le_pow_right (by omega) z3
        unfold nmV
        omega
      have n3 : ¬ (3 : Int32) < nI (rn tx N 48 57 (sk tx N p)) := nI_nlt (a := 3) z3 (by omega)
      by_cases z4 : lo ≤ nmV tx N p ∧ nmV tx N p ≤ hi
      · rw [if_pos ⟨z3, z4⟩]
        refine ⟨fun _ => ⟨X5, ?_, m2, m3⟩, fun y => absurd rfl y⟩
        simp only [fX6_readNumber, g6 w6, s6 w6, h.1, Option.bind_some, hh6, if_pos (show nI 0 = (0 : Int32) from rfl), k1, h1, h5, m1', qb2, m2.1, m5, m3, esub, qlt, if_neg nz, qlab, if_neg n3, if_neg (nI_nlt z4.1 (by omega)), if_pos (nI_le z4.2 (by omega))]
      · rw [if_neg (fun y => z4 y.2)]
        refine ⟨fun y => by omega, fun _ => ⟨X6, _, ?_, f2⟩⟩
        by_cases z5 : nmV tx N p < lo
        · simp only [fX6_readNumber, g6 w6, s6 w6, h.1, Option.bind_some, hh6, if_pos (show nI 0 = (0 : Int32) from rfl), k1, h1, h5, m1', qb2, m2.1, m5, m3, esub, qlt, if_neg nz, qlab, if_neg n3, if_pos (nI_lt z5 (by omega)), f1']
        · simp only [fX6_readNumber, g6 w6, s6 w6, h.1, Option.bind_some, hh6, if_pos (show nI 0 = (0 : Int32) from rfl), k1, h1, h5, m1', qb2, m2.1, m5, m3, esub, qlt, if_neg nz, qlab, if_neg n3, if_neg (nI_nlt (show lo ≤ nmV tx N p by omega) (by omega)), if_neg (nI_ge (show hi < nmV tx N p by omega) (by omega)), f1']
    · rw [if_neg (fun y => z3 y.1)]
      refine ⟨fun y => by omega, fun _ => ⟨X6, _, ?_, f2⟩⟩
      have n3 : (3 : Int32) < nI (rn tx N 48 57 (sk tx N p)) := nI_lt (a := 3) (by omega) (by omega)
      simp only [fX6_readNumber, g6 w6, s6 w6, h.1, Option.bind_some, hh6, if_pos (show nI 0 = (0 : Int32) from rfl), k1, h1, h5, m1', qb2, m2.1, m5, m3, esub, qlt, if_neg nz, qlab, if_pos n3, f1']
theorem c_num_dead (w6 : Y6 Y (sz + 12)) (h : RC X0 Y sz N tx f fp p X) (hf : 0 < f ∧ f < 10) (lo hi : Int32) : fX6_readNumber F X (sz + 12) lo hi = some (-1, X) := by
  obtain ⟨h1, h2, h3, h4, h5, h6, h7, h8, h9⟩ := id h
  simp only [fX6_readNumber, g6 w6, h1, Option.bind_some, h6, if_neg (nI_ne0 hf.1 (by omega))]
theorem c_stars_dead (w6 : Y6 Y (sz + 12)) (h : RC X0 Y sz N tx f fp p X) (hf : 0 < f ∧ f < 10) (b : Nat) : fX6_readStars F X (sz + 12) b = some (-1, X) := by
  obtain ⟨h1, h2, h3, h4, h5, h6, h7, h8, h9⟩ := id h
  simp only [fX6_readStars, g6 w6, h1, Option.bind_some, h6, if_neg (nI_ne0 hf.1 (by omega))]
/-- the clause's end -/
theorem c_end (w6 : Y6 Y (sz + 12)) (w9 : Y9 Y sz) (hF : 1000 ≤ F) (h : RC X0 Y sz N tx 0 (-1) p X) :
    ((sk tx N p < N ∧ tx (sk tx N p) = 59) → ∃ X2, fX6_passEnd F X (sz + 12) = some X2 ∧ RC X0 Y sz N tx 0 (-1) (sk tx N p + 1) X2) ∧
    (¬ (sk tx N p < N ∧ tx (sk tx N p) = 59) → ∃ X2, fX6_passEnd F X (sz + 12) = some X2 ∧ RC X0 Y sz N tx 1 (nI (sk tx N p)) (sk tx N p) X2) := by
  obtain ⟨X2, k1, k2, k3⟩ := c_skip (F := F) w6 w9 hF h
  obtain ⟨h1, h2, h3, h4, ⟨h5, h5b, h5c⟩, h6, h7, h8, h9⟩ := id k2
  obtain ⟨X6, f1, f2⟩ := c_fail (F := F) w6 k2 (k := 1) (by omega) (nI (sk tx N p))
  have f1' : fX6_fail F X2 (sz + 12) (1 : Int32) (nI (sk tx N p)) = some X6 := f1
  by_cases z : sk tx N p < N
  · have l : sk tx N p < 230 := by omega
    obtain ⟨t1, t2⟩ := h9 _ z
    have e59 : (nI (tx (sk tx N p)) = (59 : Int32)) = (tx (sk tx N p) = 59) := propext (nI_eq (b := 59) (by omega) (by omega))
    by_cases z2 : tx (sk tx N p) = 59
    · refine ⟨fun _ => ⟨pI X2 (sz + 12) 2 (nI (sk tx N p + 1)), ?_, (k2.at w6 (by omega)).1⟩, fun y => absurd ⟨z, z2⟩ y⟩
      simp only [fX6_passEnd, g6 w6, s6 w6, g9 w9, h.1, k1, h1, Option.bind_some, h3, h4, h5, qlab, if_neg (nI_ge z (by omega)), l, t1, e59, if_pos z2, qlt, nI_1]
    · refine ⟨fun y => absurd y.2 z2, fun _ => ⟨X6, ?_, f2⟩⟩
      simp only [fX6_passEnd, g6 w6, s6 w6, g9 w9, h.1, k1, h1, Option.bind_some, h3, h4, h5, qlab, if_neg (nI_ge z (by omega)), l, t1, e59, if_neg z2, f1']
  · refine ⟨fun y => absurd y.1 z, fun _ => ⟨X6, ?_, f2⟩⟩
    simp only [fX6_passEnd, g6 w6, h.1, k1, h1, Option.bind_some, h4, h5, qlab, if_pos (nI_le (show N ≤ sk tx N p by omega) (by omega)), f1']
theorem c_end_dead (w6 : Y6 Y (sz + 12)) (w9 : Y9 Y sz) (hF : 1000 ≤ F) (h : RC X0 Y sz N tx f fp p X) (hf : 0 < f ∧ f < 10) : ∃ X2 p2, fX6_passEnd F X (sz + 12) = some X2 ∧ RC X0 Y sz N tx f fp p2 X2 := by
  obtain ⟨X2, k1, k2, k3⟩ := c_skip (F := F) w6 w9 hF h
  obtain ⟨h1, h2, h3, h4, ⟨h5, h5b, h5c⟩, h6, h7, h8, h9⟩ := id k2
  have fd := c_fail_dead (F := F) w6 k2 hf (1 : Int32) (nI (sk tx N p))
  by_cases z : sk tx N p < N
  · have l : sk tx N p < 230 := by omega
    obtain ⟨t1, t2⟩ := h9 _ z
    by_cases z2 : nI (tx (sk tx N p)) = (59 : Int32)
    · refine ⟨pI X2 (sz + 12) 2 (nI (sk tx N p + 1)), sk tx N p + 1, ?_, (k2.at w6 (by omega)).1⟩
      simp only [fX6_passEnd, g6 w6, s6 w6, g9 w9, h.1, k1, h1, Option.bind_some, h3, h4, h5, qlab, if_neg (nI_ge z (by omega)), l, t1, if_pos z2, qlt, nI_1]
    · refine ⟨X2, _, ?_, k2⟩
      simp only [fX6_passEnd, g6 w6, s6 w6, g9 w9, h.1, k1, h1, Option.bind_some, h3, h4, h5, qlab, if_neg (nI_ge z (by omega)), l, t1, if_neg z2, fd]
  · refine ⟨X2, _, ?_, k2⟩
    simp only [fX6_passEnd, g6 w6, h.1, k1, h1, Option.bind_some, h4, h5, qlab, if_pos (nI_le (show N ≤ sk tx N p by omega) (by omega)), fd]
theorem c_word (w6 : Y6 Y (sz + 12)) (h : RC X0 Y sz N tx 0 (-1) p X) (hp : p < N) : (∃ X2, fX6_passWord F X (sz + 12) (0 : Int32) = some X2 ∧ RC X0 Y sz N tx 0 (-1) (p + 1) X2) ∧ (∃ X2, fX6_passWord F X (sz + 12) (1 : Int32) = some X2 ∧ RC X0 Y sz N tx 3 (nI p) (p + 1) X2) := by
  obtain ⟨h1, h2, h3, h4, ⟨h5, h5b, h5c⟩, h6, h7, h8, h9⟩ := id h
  obtain ⟨X6, f1, f2⟩ := c_fail (F := F) w6 h (k := 3) (by omega) (nI p)
  have f1' : fX6_fail F X (sz + 12) (3 : Int32) (nI p) = some X6 := f1
  constructor
  · refine ⟨pI X (sz + 12) 2 (nI (p + 1)), ?_, (h.at w6 (by omega)).1⟩
    simp only [fX6_passWord, g6 w6, s6 w6, h1, Option.bind_some, if_true, h5, qlt, nI_1]
  · refine ⟨pI X6 (sz + 12) 2 (nI (p + 1)), ?_, (f2.at w6 (by omega)).1⟩
    simp only [fX6_passWord, g6 w6, s6 w6, h1, f2.1, Option.bind_some, if_neg (show ¬ (1 : Int32) = 0 by decide), h5, f1', f2.2.2.2.2.1.1, qlt, nI_1]
end RDC
