theorem cAt.frN {X X2 : qH} {n m : Nat} {l : List (Option va_E)} (h : cAt X n l) (hm : l.length = m) (fr : ∀ q : Nat, n ≤ q → q < n + m → X2 q = X q) : cAt X2 n l := h.fr (fun q a b => fr q a (by omega))
theorem st_put {Z Z2 : qH} {a p k ci : Nat} {fs : List Value} (o : Z a = some (.inr (ci, fs))) (hap : a < p) (fr : ∀ q : Nat, q < p → Z2 q = Z q) (hk : k < fs.length) (v : Nat) : ∃ Z3, qpR Z2 ci a k v = some Z3 ∧ Z3 a = some (.inr (ci, fs.set k (.ref v))) ∧ ∀ q : Nat, q ≠ a → Z3 q = Z2 q := by
  have o2 : Z2 a = some (.inr (ci, fs)) := by rw [fr a hap]; exact o
  exact ⟨_, qp_at o2 hk _, up_self, fun q h => up_ne h⟩
theorem shX_at {X : qH} {q : Nat} {c : Option va_E} (h : X q = c) : shX X q = shp c := by rw [← h]; rfl
theorem n_YN {X : qH} {p : Nat} (h : cAt X p (nCells p)) : YN (shX X) p := ⟨shX_at (h 0 _ rfl), shX_at (h 1 _ rfl), shX_at (h 2 _ rfl), shX_at (h 3 _ rfl), shX_at (h 4 _ rfl)⟩
theorem b_YB {X : qH} {p : Nat} (h : cAt X p (bCells p)) : YB (shX X) p := ⟨shX_at (h 0 _ rfl), shX_at (h 1 _ rfl), shX_at (h 2 _ rfl), shX_at (h 3 _ rfl), shX_at (h 4 _ rfl)⟩
theorem YN.fr {X X2 : qH} {p : Nat} (h : YN (shX X) p) (fr : ∀ q : Nat, p ≤ q → q < p + 5 → X2 q = X q) : YN (shX X2) p := by
  have e : ∀ q : Nat, p ≤ q → q < p + 5 → shX X2 q = shX X q := fun q a b => by unfold shX; rw [fr q a b]
  obtain ⟨h0, h1, h2, h3, h4⟩ := h
  exact ⟨by rw [e p (by omega) (by omega)]; exact h0, by rw [e _ (by omega) (by omega)]; exact h1, by rw [e _ (by omega) (by omega)]; exact h2, by rw [e _ (by omega) (by omega)]; exact h3, by rw [e _ (by omega) (by omega)]; exact h4⟩
/-- the Night of a new FireworkDeeds -/
def VN (X : qH) (p : Nat) : Prop := YN (shX X) p ∧ (gi X p 0 = 0 ∧ gi X p 1 = 0 ∧ gi X p 2 = 0 ∧ gi X p 3 = 0) ∧ ∀ h : Nat, h < 8 → ga X (p + 1) h = 0 ∧ ga X (p + 2) h = -1 ∧ ga X (p + 3) h = -1 ∧ ga X (p + 4) h = 0
theorem VN.fr {X X2 : qH} {p : Nat} (h : VN X p) (fr : ∀ q : Nat, p ≤ q → q < p + 5 → X2 q = X q) : VN X2 p := by
  obtain ⟨h0, h1, h2⟩ := h
  have e0 : ∀ k, gi X2 p k = gi X p k := fun k => gi_congr (fr p (by omega) (by omega)) k
  have e : ∀ j, 1 ≤ j → j ≤ 4 → ga X2 (p + j) = ga X (p + j) := fun j _ _ => ga_congr (fr (p + j) (by omega) (by omega))
  refine ⟨h0.fr fr, by simp only [e0]; exact h1, fun h hh => ?_⟩
  rw [e 1 (by omega) (by omega), e 2 (by omega) (by omega), e 3 (by omega) (by omega), e 4 (by omega) (by omega)]
  exact h2 h hh
/-- what a new FireworkDeeds is -/
def V9 (X2 : qH) (n a : Nat) : Prop := X2 a = some (.inr (8, [.ref n, .int 0, .int (-1), .ref (n + 1), .ref (n + 6), .int 0, .ref (n + 11), .ref (n + 13), .ref (n + 18), .ref (n + 120), .ref (n + 131), .ref (n + 132), .ref (n + 133), .ref (n + 140), .ref (n + 143), .ref (n + 146)])) ∧ (cAt X2 (n) [some (.inl (0, 230, .inl (fun _ => 0)))]) ∧ (cAt X2 (n + 1) (bCells (n + 1))) ∧ (cAt X2 (n + 6) (bCells (n + 6))) ∧ (cAt X2 (n + 11) [some (.inr (6, [.ref (n + 12), .int 0, .int 0, .int 0, .int 0, .int 0, .int 0, .int 0])), some (.inl (0, 0, .inl (fun _ => 0)))]) ∧ (VN X2 (n + 13)) ∧ (cAt X2 (n + 18) [some (.inr (5, [.ref (n + 19), .int 0, .int 0]))]) ∧ (PS X2 X2 (n + 19) 20 20) ∧ (PS X2 X2 (n + 120) 2 2) ∧ (cAt X2 (n + 131) [some (.inl (1, 2, .inl (fun _ => 0)))]) ∧ (cAt X2 (n + 132) [some (.inl (0, 2, .inl (fun _ => 0)))]) ∧ (cAt X2 (n + 133) [some (.inr (7, [.ref (n + 134), .ref (n + 135)])), some (.inl (0, 6, .inl (fun _ => 0)))]) ∧ (cAt X2 (n + 135) (nCells (n + 135))) ∧ (cAt X2 (n + 140) [some (.inr (4, [.ref (n + 141), .ref (n + 142)])), some (.inl (0, 8, .inl (fun _ => 0))), some (.inl (0, 8, .inl (fun _ => 0)))]) ∧ (cAt X2 (n + 143) [some (.inr (2, [.int 0, .ref (n + 144), .ref (n + 145)])), some (.inl (0, 6, .inl (fun _ => 0))), some (.inl (0, 6, .inl (fun _ => 0)))]) ∧ (cAt X2 (n + 146) [some (.inr (1, [.int 0, .ref (n + 147), .ref (n + 148), .ref (n + 149)])), some (.inl (0, 15, .inl (fun _ => 0))), some (.inl (0, 15, .inl (fun _ => 0))), some (.inl (1, 15, .inl (fun _ => 0)))])
set_option maxHeartbeats 4000000 in
theorem init_X9 {F : Nat} {X : qH} {n a : Nat} (o0 : X a = some (.inr (8, [.null, .int 0, .int 0, .null, .null, .int 0, .null, .null, .null, .null, .null, .null, .null, .null, .null, .null]))) (hn : n = a + 1) (hF : 9 ≤ F) : ∃ X2, fX9_init F X n a = some X2 ∧ V9 X2 n a := by
  have han : a < n := by omega
  obtain ⟨Z0, hZ0⟩ : ∃ Z : qH, Z = X := ⟨_, rfl⟩
  rw [← hZ0] at o0 ⊢
  obtain ⟨Z1, e1, o1, l9, f9⟩ := cs_arr (n := n) (k := 0) o0 cAt.nil (m := 0) rfl (by omega) (Nat.le_of_ble_eq_true rfl) (.inl (0, 230, .inl (fun _ => 0)))
  have e1 : qpR (qnI Z0 n 230) 8 a 0 n = some Z1 := e1
  have o1 : Z1 a = some (.inr (8, [.ref n, .int 0, .int 0, .null, .null, .int 0, .null, .null, .null, .null, .null, .null, .null, .null, .null, .null])) := o1
  have g1 : cAt Z1 (n) [some (.inl (0, 230, .inl (fun _ => 0)))] := l9
  obtain ⟨Z2, e2, o2, l9, f9⟩ := cs_int (n := n) (k := 1) o1 cAt.nil (by omega) (Nat.le_of_ble_eq_true rfl) (0)
  have o2 : Z2 a = some (.inr (8, [.ref n, .int 0, .int 0, .null, .null, .int 0, .null, .null, .null, .null, .null, .null, .null, .null, .null, .null])) := o2
  have g1 : cAt Z2 (n) [some (.inl (0, 230, .inl (fun _ => 0)))] := g1.frN (m := 1) rfl (fun q h1 h2 => f9 q (by omega))
  obtain ⟨Z3, e3, o3, l9, f9⟩ := cs_int (n := n) (k := 2) o2 cAt.nil (by omega) (Nat.le_of_ble_eq_true rfl) (-1)
  have o3 : Z3 a = some (.inr (8, [.ref n, .int 0, .int (-1), .null, .null, .int 0, .null, .null, .null, .null, .null, .null, .null, .null, .null, .null])) := o3
  have g1 : cAt Z3 (n) [some (.inl (0, 230, .inl (fun _ => 0)))] := g1.frN (m := 1) rfl (fun q h1 h2 => f9 q (by omega))
  obtain ⟨W4, w4, lw, fw⟩ := new_bay (F := F) (X := Z3) (p := n + 1)
  have w4 : fX0_init F (qnO Z3 (n + 1) 0 [.int 0, .int 0, .int 0, .int 0, .int 0, .int 0, .null, .null, .null, .null]) (n + 2) (n + 1) = some W4 := w4
  obtain ⟨Z4, e4, o4, f9⟩ := st_put (k := 3) o3 (p := n + 1) (by omega) fw (Nat.le_of_ble_eq_true rfl) (n + 1)
  have o4 : Z4 a = some (.inr (8, [.ref n, .int 0, .int (-1), .ref (n + 1), .null, .int 0, .null, .null, .null, .null, .null, .null, .null, .null, .null, .null])) := o4
  have g1 : cAt Z4 (n) [some (.inl (0, 230, .inl (fun _ => 0)))] := g1.frN (m := 1) rfl (fun q h1 h2 => (f9 q (by omega)).trans (fw q (by omega)))
  have g4_0 : cAt Z4 (n + 1) (bCells (n + 1)) := cAt.frN (X := W4) (m := 5) lw rfl (fun q h1 h2 => f9 q (by omega))
  obtain ⟨W5, w5, lw, fw⟩ := new_bay (F := F) (X := Z4) (p := n + 6)
  have w5 : fX0_init F (qnO Z4 (n + 6) 0 [.int 0, .int 0, .int 0, .int 0, .int 0, .int 0, .null, .null, .null, .null]) (n + 7) (n + 6) = some W5 := w5
  obtain ⟨Z5, e5, o5, f9⟩ := st_put (k := 4) o4 (p := n + 6) (by omega) fw (Nat.le_of_ble_eq_true rfl) (n + 6)
  have o5 : Z5 a = some (.inr (8, [.ref n, .int 0, .int (-1), .ref (n + 1), .ref (n + 6), .int 0, .null, .null, .null, .null, .null, .null, .null, .null, .null, .null])) := o5
  have g1 : cAt Z5 (n) [some (.inl (0, 230, .inl (fun _ => 0)))] := g1.frN (m := 1) rfl (fun q h1 h2 => (f9 q (by omega)).trans (fw q (by omega)))
  have g4_0 : cAt Z5 (n + 1) (bCells (n + 1)) := g4_0.frN (m := 5) rfl (fun q h1 h2 => (f9 q (by omega)).trans (fw q (by omega)))
  have g5_0 : cAt Z5 (n + 6) (bCells (n + 6)) := cAt.frN (X := W5) (m := 5) lw rfl (fun q h1 h2 => f9 q (by omega))
  obtain ⟨Z6, e6, o6, l9, f9⟩ := cs_int (n := n) (k := 5) o5 cAt.nil (by omega) (Nat.le_of_ble_eq_true rfl) (0)
  have o6 : Z6 a = some (.inr (8, [.ref n, .int 0, .int (-1), .ref (n + 1), .ref (n + 6), .int 0, .null, .null, .null, .null, .null, .null, .null, .null, .null, .null])) := o6
  have g1 : cAt Z6 (n) [some (.inl (0, 230, .inl (fun _ => 0)))] := g1.frN (m := 1) rfl (fun q h1 h2 => f9 q (by omega))
  have g4_0 : cAt Z6 (n + 1) (bCells (n + 1)) := g4_0.frN (m := 5) rfl (fun q h1 h2 => f9 q (by omega))
  have g5_0 : cAt Z6 (n + 6) (bCells (n + 6)) := g5_0.frN (m := 5) rfl (fun q h1 h2 => f9 q (by omega))
  obtain ⟨W7, w7, ow, lw, fw0⟩ := init_X6 (F := F) (X := qnO Z6 (n + 11) 6 [.null, .int 0, .int 0, .int 0, .int 0, .int 0, .int 0, .int 0]) (n := n + 12) (a := n + 11) up_self (by omega)
  have w7 : fX6_init F (qnO Z6 (n + 11) 6 [.null, .int 0, .int 0, .int 0, .int 0, .int 0, .int 0, .int 0]) (n + 12) (n + 11) = some W7 := w7
  have fw : ∀ q : Nat, q < n + 11 → W7 q = Z6 q := fun q hq => (fw0 q (by omega) (by omega)).trans (up_ne (by omega))
  obtain ⟨Z7, e7, o7, f9⟩ := st_put (k := 6) o6 (p := n + 11) (by omega) fw (Nat.le_of_ble_eq_true rfl) (n + 11)
  have o7 : Z7 a = some (.inr (8, [.ref n, .int 0, .int (-1), .ref (n + 1), .ref (n + 6), .int 0, .ref (n + 11), .null, .null, .null, .null, .null, .null, .null, .null, .null])) := o7
  have g1 : cAt Z7 (n) [some (.inl (0, 230, .inl (fun _ => 0)))] := g1.frN (m := 1) rfl (fun q h1 h2 => (f9 q (by omega)).trans (fw q (by omega)))
  have g4_0 : cAt Z7 (n + 1) (bCells (n + 1)) := g4_0.frN (m := 5) rfl (fun q h1 h2 => (f9 q (by omega)).trans (fw q (by omega)))
  have g5_0 : cAt Z7 (n + 6) (bCells (n + 6)) := g5_0.frN (m := 5) rfl (fun q h1 h2 => (f9 q (by omega)).trans (fw q (by omega)))
  have g7_0 : cAt Z7 (n + 11) [some (.inr (6, [.ref (n + 12), .int 0, .int 0, .int 0, .int 0, .int 0, .int 0, .int 0])), some (.inl (0, 0, .inl (fun _ => 0)))] := cAt.frN (X := W7) (m := 2) (cAt.cons ow lw) rfl (fun q h1 h2 => f9 q (by omega))
  obtain ⟨W8, w8, lw, fw⟩ := new_night (F := F) (X := Z7) (p := n + 13)
  have w8 : fX3_init F (qnO Z7 (n + 13) 3 [.int 0, .int 0, .int 0, .int 0, .null, .null, .null, .null]) (n + 14) (n + 13) = some W8 := w8
  obtain ⟨Z8, e8, o8, f9⟩ := st_put (k := 7) o7 (p := n + 13) (by omega) fw (Nat.le_of_ble_eq_true rfl) (n + 13)
  have o8 : Z8 a = some (.inr (8, [.ref n, .int 0, .int (-1), .ref (n + 1), .ref (n + 6), .int 0, .ref (n + 11), .ref (n + 13), .null, .null, .null, .null, .null, .null, .null, .null])) := o8
  have g1 : cAt Z8 (n) [some (.inl (0, 230, .inl (fun _ => 0)))] := g1.frN (m := 1) rfl (fun q h1 h2 => (f9 q (by omega)).trans (fw q (by omega)))
  have g4_0 : cAt Z8 (n + 1) (bCells (n + 1)) := g4_0.frN (m := 5) rfl (fun q h1 h2 => (f9 q (by omega)).trans (fw q (by omega)))
  have g5_0 : cAt Z8 (n + 6) (bCells (n + 6)) := g5_0.frN (m := 5) rfl (fun q h1 h2 => (f9 q (by omega)).trans (fw q (by omega)))
  have g7_0 : cAt Z8 (n + 11) [some (.inr (6, [.ref (n + 12), .int 0, .int 0, .int 0, .int 0, .int 0, .int 0, .int 0])), some (.inl (0, 0, .inl (fun _ => 0)))] := g7_0.frN (m := 2) rfl (fun q h1 h2 => (f9 q (by omega)).trans (fw q (by omega)))
  have g8_0 : cAt Z8 (n + 13) (nCells (n + 13)) := cAt.frN (X := W8) (m := 5) lw rfl (fun q h1 h2 => f9 q (by omega))
  have q7 : qgR Z8 8 a 7 = some (n + 13) := by simp only [qgR, o8]; rfl
  have q3 : qgR Z8 8 a 3 = some (n + 1) := by simp only [qgR, o8]; rfl
  have b0 := g4_0 0 _ rfl
  obtain ⟨Z9, e9, sh9, fr9, v9, w9⟩ := begin_ok (F := F) (c := 0) rfl (n_YN g8_0) (b_YB g4_0) (by omega) (by omega) (by simp only [gi, show Z8 (n + 1) = _ from b0]; rfl) hF
  have o9 : Z9 a = some (.inr (8, [.ref n, .int 0, .int (-1), .ref (n + 1), .ref (n + 6), .int 0, .ref (n + 11), .ref (n + 13), .null, .null, .null, .null, .null, .null, .null, .null])) := by rw [fr9 a (by omega)]; exact o8
  have gN9 : VN Z9 (n + 13) := ⟨by rw [sh9]; exact n_YN g8_0, ⟨v9.1, by rw [v9.2.1]; simp only [gi, show Z8 (n + 1) = _ from b0]; rfl, by rw [v9.2.2.1]; simp only [gi, show Z8 (n + 1) = _ from b0]; rfl, v9.2.2.2⟩, fun h hh => ⟨by rw [(w9 h hh).1, if_neg (by omega)], (w9 h hh).2⟩⟩
  have g1 : cAt Z9 (n) [some (.inl (0, 230, .inl (fun _ => 0)))] := g1.frN (m := 1) rfl (fun q h1 h2 => fr9 q (by omega))
  have g4_0 : cAt Z9 (n + 1) (bCells (n + 1)) := g4_0.frN (m := 5) rfl (fun q h1 h2 => fr9 q (by omega))
  have g5_0 : cAt Z9 (n + 6) (bCells (n + 6)) := g5_0.frN (m := 5) rfl (fun q h1 h2 => fr9 q (by omega))
  have g7_0 : cAt Z9 (n + 11) [some (.inr (6, [.ref (n + 12), .int 0, .int 0, .int 0, .int 0, .int 0, .int 0, .int 0])), some (.inl (0, 0, .inl (fun _ => 0)))] := g7_0.frN (m := 2) rfl (fun q h1 h2 => fr9 q (by omega))
  obtain ⟨W10, w10, ow, lw, fw0⟩ := init_X5 (F := F) (X := qnO Z9 (n + 18) 5 [.null, .int 0, .int 0]) (n := n + 19) (a := n + 18) up_self (by omega)
  have w10 : fX5_init F (qnO Z9 (n + 18) 5 [.null, .int 0, .int 0]) (n + 19) (n + 18) = some W10 := w10
  have fw : ∀ q : Nat, q < n + 18 → W10 q = Z9 q := fun q hq => (fw0 q (by omega) (by omega)).trans (up_ne (by omega))
  obtain ⟨Z10, e10, o10, f9⟩ := st_put (k := 8) o9 (p := n + 18) (by omega) fw (Nat.le_of_ble_eq_true rfl) (n + 18)
  have o10 : Z10 a = some (.inr (8, [.ref n, .int 0, .int (-1), .ref (n + 1), .ref (n + 6), .int 0, .ref (n + 11), .ref (n + 13), .ref (n + 18), .null, .null, .null, .null, .null, .null, .null])) := o10
  have g1 : cAt Z10 (n) [some (.inl (0, 230, .inl (fun _ => 0)))] := g1.frN (m := 1) rfl (fun q h1 h2 => (f9 q (by omega)).trans (fw q (by omega)))
  have g4_0 : cAt Z10 (n + 1) (bCells (n + 1)) := g4_0.frN (m := 5) rfl (fun q h1 h2 => (f9 q (by omega)).trans (fw q (by omega)))
  have g5_0 : cAt Z10 (n + 6) (bCells (n + 6)) := g5_0.frN (m := 5) rfl (fun q h1 h2 => (f9 q (by omega)).trans (fw q (by omega)))
  have g7_0 : cAt Z10 (n + 11) [some (.inr (6, [.ref (n + 12), .int 0, .int 0, .int 0, .int 0, .int 0, .int 0, .int 0])), some (.inl (0, 0, .inl (fun _ => 0)))] := g7_0.frN (m := 2) rfl (fun q h1 h2 => (f9 q (by omega)).trans (fw q (by omega)))
  have gN9 := gN9.fr (fun q h1 h2 => show Z10 q = Z9 q from (f9 q (by omega)).trans (fw q (by omega)))
  have g10_0 : cAt Z10 (n + 18) [some (.inr (5, [.ref (n + 19), .int 0, .int 0]))] := cAt.frN (X := W10) (m := 1) (cAt.one ow) rfl (fun q h1 h2 => f9 q (by omega))
  have g10_1 := PS.fr (X2 := Z10) lw (fun q h1 h2 => f9 q (by omega))
  obtain ⟨Z11, e11, o11, l9, f9⟩ := cs_arr (n := n + 120) (k := 9) o10 cAt.nil (m := 0) rfl (by omega) (Nat.le_of_ble_eq_true rfl) (.inl (2, 2, .inr (.inr (.inr (.inr (fun _ => none))))))
  have e11 : qpR (qnR Z10 (n + 120) 2) 8 a 9 (n + 120) = some Z11 := e11
  have o11 : Z11 a = some (.inr (8, [.ref n, .int 0, .int (-1), .ref (n + 1), .ref (n + 6), .int 0, .ref (n + 11), .ref (n + 13), .ref (n + 18), .ref (n + 120), .null, .null, .null, .null, .null, .null])) := o11
  have g1 : cAt Z11 (n) [some (.inl (0, 230, .inl (fun _ => 0)))] := g1.frN (m := 1) rfl (fun q h1 h2 => f9 q (by omega) (by omega))
  have g4_0 : cAt Z11 (n + 1) (bCells (n + 1)) := g4_0.frN (m := 5) rfl (fun q h1 h2 => f9 q (by omega) (by omega))
  have g5_0 : cAt Z11 (n + 6) (bCells (n + 6)) := g5_0.frN (m := 5) rfl (fun q h1 h2 => f9 q (by omega) (by omega))
  have g7_0 : cAt Z11 (n + 11) [some (.inr (6, [.ref (n + 12), .int 0, .int 0, .int 0, .int 0, .int 0, .int 0, .int 0])), some (.inl (0, 0, .inl (fun _ => 0)))] := g7_0.frN (m := 2) rfl (fun q h1 h2 => f9 q (by omega) (by omega))
  have gN9 := gN9.fr (fun q h1 h2 => show Z11 q = Z10 q from f9 q (by omega) (by omega))
  have g10_0 : cAt Z11 (n + 18) [some (.inr (5, [.ref (n + 19), .int 0, .int 0]))] := g10_0.frN (m := 1) rfl (fun q h1 h2 => f9 q (by omega) (by omega))
  have g10_1 := PS.fr (X2 := Z11) g10_1 (fun q h1 h2 => f9 q (by omega) (by omega))
  have s11 : PS Z11 Z11 (n + 120) 2 0 := ⟨⟨_, l9 0 _ rfl, fun j hj => by omega⟩, fun j hj => by omega, fun q hq => rfl⟩
  have q9a : qgR Z11 8 a 9 = some (n + 120) := by simp only [qgR, o11]; rfl
  obtain ⟨W12, Z12, w12, t12, s12⟩ := night_step (F := F) (i := 0) s11 (by omega) (by omega)
  have w12 : fX3_init F (qnO Z11 (n + 121) 3 [.int 0, .int 0, .int 0, .int 0, .null, .null, .null, .null]) (n + 122) (n + 121) = some W12 := w12
  have t12 : qaT W12 (n + 120) (0 : Int32) (n + 121) = some Z12 := t12
  have q9b : qgR Z12 8 a 9 = some (n + 120) := by simp only [qgR, s12.2.2 a (by omega), o11]; rfl
  obtain ⟨W13, Z13, w13, t13, s13⟩ := night_step (F := F) (i := 1) s12 (by omega) (by omega)
  have w13 : fX3_init F (qnO Z12 (n + 126) 3 [.int 0, .int 0, .int 0, .int 0, .null, .null, .null, .null]) (n + 127) (n + 126) = some W13 := w13
  have t13 : qaT W13 (n + 120) (1 : Int32) (n + 126) = some Z13 := t13
  have o13 : Z13 a = some (.inr (8, [.ref n, .int 0, .int (-1), .ref (n + 1), .ref (n + 6), .int 0, .ref (n + 11), .ref (n + 13), .ref (n + 18), .ref (n + 120), .null, .null, .null, .null, .null, .null])) := by rw [s13.2.2 a (by omega)]; exact o11
  have g1 : cAt Z13 (n) [some (.inl (0, 230, .inl (fun _ => 0)))] := g1.frN (m := 1) rfl (fun q h1 h2 => s13.2.2 q (by omega))
  have g4_0 : cAt Z13 (n + 1) (bCells (n + 1)) := g4_0.frN (m := 5) rfl (fun q h1 h2 => s13.2.2 q (by omega))
  have g5_0 : cAt Z13 (n + 6) (bCells (n + 6)) := g5_0.frN (m := 5) rfl (fun q h1 h2 => s13.2.2 q (by omega))
  have g7_0 : cAt Z13 (n + 11) [some (.inr (6, [.ref (n + 12), .int 0, .int 0, .int 0, .int 0, .int 0, .int 0, .int 0])), some (.inl (0, 0, .inl (fun _ => 0)))] := g7_0.frN (m := 2) rfl (fun q h1 h2 => s13.2.2 q (by omega))
  have gN9 : VN Z13 (n + 13) := gN9.fr (fun q h1 h2 => s13.2.2 q (by omega))
  have g10_0 : cAt Z13 (n + 18) [some (.inr (5, [.ref (n + 19), .int 0, .int 0]))] := g10_0.frN (m := 1) rfl (fun q h1 h2 => s13.2.2 q (by omega))
  have g10_1 := PS.fr (X2 := Z13) g10_1 (fun q h1 h2 => s13.2.2 q (by omega))
  have gI9 := s13
  have gI9 := PS.fr (X2 := Z13) gI9 (fun q _ _ => rfl)
  obtain ⟨Z14, e14, o14, l9, f9⟩ := cs_arr (n := n + 131) (k := 10) o13 cAt.nil (m := 0) rfl (by omega) (Nat.le_of_ble_eq_true rfl) (.inl (1, 2, .inl (fun _ => 0)))
  have e14 : qpR (qnZ Z13 (n + 131) 2) 8 a 10 (n + 131) = some Z14 := e14
  have o14 : Z14 a = some (.inr (8, [.ref n, .int 0, .int (-1), .ref (n + 1), .ref (n + 6), .int 0, .ref (n + 11), .ref (n + 13), .ref (n + 18), .ref (n + 120), .ref (n + 131), .null, .null, .null, .null, .null])) := o14
  have g1 : cAt Z14 (n) [some (.inl (0, 230, .inl (fun _ => 0)))] := g1.frN (m := 1) rfl (fun q h1 h2 => f9 q (by omega) (by omega))
  have g4_0 : cAt Z14 (n + 1) (bCells (n + 1)) := g4_0.frN (m := 5) rfl (fun q h1 h2 => f9 q (by omega) (by omega))
  have g5_0 : cAt Z14 (n + 6) (bCells (n + 6)) := g5_0.frN (m := 5) rfl (fun q h1 h2 => f9 q (by omega) (by omega))
  have g7_0 : cAt Z14 (n + 11) [some (.inr (6, [.ref (n + 12), .int 0, .int 0, .int 0, .int 0, .int 0, .int 0, .int 0])), some (.inl (0, 0, .inl (fun _ => 0)))] := g7_0.frN (m := 2) rfl (fun q h1 h2 => f9 q (by omega) (by omega))
  have gN9 := gN9.fr (fun q h1 h2 => show Z14 q = Z13 q from f9 q (by omega) (by omega))
  have g10_0 : cAt Z14 (n + 18) [some (.inr (5, [.ref (n + 19), .int 0, .int 0]))] := g10_0.frN (m := 1) rfl (fun q h1 h2 => f9 q (by omega) (by omega))
  have g10_1 := PS.fr (X2 := Z14) g10_1 (fun q h1 h2 => f9 q (by omega) (by omega))
  have gI9 := PS.fr (X2 := Z14) gI9 (fun q h1 h2 => f9 q (by omega) (by omega))
  have g14 : cAt Z14 (n + 131) [some (.inl (1, 2, .inl (fun _ => 0)))] := l9
  obtain ⟨Z15, e15, o15, l9, f9⟩ := cs_arr (n := n + 132) (k := 11) o14 cAt.nil (m := 0) rfl (by omega) (Nat.le_of_ble_eq_true rfl) (.inl (0, 2, .inl (fun _ => 0)))
  have e15 : qpR (qnI Z14 (n + 132) 2) 8 a 11 (n + 132) = some Z15 := e15
  have o15 : Z15 a = some (.inr (8, [.ref n, .int 0, .int (-1), .ref (n + 1), .ref (n + 6), .int 0, .ref (n + 11), .ref (n + 13), .ref (n + 18), .ref (n + 120), .ref (n + 131), .ref (n + 132), .null, .null, .null, .null])) := o15
  have g1 : cAt Z15 (n) [some (.inl (0, 230, .inl (fun _ => 0)))] := g1.frN (m := 1) rfl (fun q h1 h2 => f9 q (by omega) (by omega))
  have g4_0 : cAt Z15 (n + 1) (bCells (n + 1)) := g4_0.frN (m := 5) rfl (fun q h1 h2 => f9 q (by omega) (by omega))
  have g5_0 : cAt Z15 (n + 6) (bCells (n + 6)) := g5_0.frN (m := 5) rfl (fun q h1 h2 => f9 q (by omega) (by omega))
  have g7_0 : cAt Z15 (n + 11) [some (.inr (6, [.ref (n + 12), .int 0, .int 0, .int 0, .int 0, .int 0, .int 0, .int 0])), some (.inl (0, 0, .inl (fun _ => 0)))] := g7_0.frN (m := 2) rfl (fun q h1 h2 => f9 q (by omega) (by omega))
  have gN9 := gN9.fr (fun q h1 h2 => show Z15 q = Z14 q from f9 q (by omega) (by omega))
  have g10_0 : cAt Z15 (n + 18) [some (.inr (5, [.ref (n + 19), .int 0, .int 0]))] := g10_0.frN (m := 1) rfl (fun q h1 h2 => f9 q (by omega) (by omega))
  have g10_1 := PS.fr (X2 := Z15) g10_1 (fun q h1 h2 => f9 q (by omega) (by omega))
  have gI9 := PS.fr (X2 := Z15) gI9 (fun q h1 h2 => f9 q (by omega) (by omega))
  have g14 : cAt Z15 (n + 131) [some (.inl (1, 2, .inl (fun _ => 0)))] := g14.frN (m := 1) rfl (fun q h1 h2 => f9 q (by omega) (by omega))
  have g15 : cAt Z15 (n + 132) [some (.inl (0, 2, .inl (fun _ => 0)))] := l9
  obtain ⟨W16, w16, ow, aw, lw, fw0⟩ := init_X7 (F := F) (X := qnO Z15 (n + 133) 7 [.null, .null]) (n := n + 134) (a := n + 133) up_self (by omega)
  have w16 : fX7_init F (qnO Z15 (n + 133) 7 [.null, .null]) (n + 134) (n + 133) = some W16 := w16
  have fw : ∀ q : Nat, q < n + 133 → W16 q = Z15 q := fun q hq => (fw0 q (by omega) (by omega)).trans (up_ne (by omega))
  obtain ⟨Z16, e16, o16, f9⟩ := st_put (k := 12) o15 (p := n + 133) (by omega) fw (Nat.le_of_ble_eq_true rfl) (n + 133)
  have o16 : Z16 a = some (.inr (8, [.ref n, .int 0, .int (-1), .ref (n + 1), .ref (n + 6), .int 0, .ref (n + 11), .ref (n + 13), .ref (n + 18), .ref (n + 120), .ref (n + 131), .ref (n + 132), .ref (n + 133), .null, .null, .null])) := o16
  have g1 : cAt Z16 (n) [some (.inl (0, 230, .inl (fun _ => 0)))] := g1.frN (m := 1) rfl (fun q h1 h2 => (f9 q (by omega)).trans (fw q (by omega)))
  have g4_0 : cAt Z16 (n + 1) (bCells (n + 1)) := g4_0.frN (m := 5) rfl (fun q h1 h2 => (f9 q (by omega)).trans (fw q (by omega)))
  have g5_0 : cAt Z16 (n + 6) (bCells (n + 6)) := g5_0.frN (m := 5) rfl (fun q h1 h2 => (f9 q (by omega)).trans (fw q (by omega)))
  have g7_0 : cAt Z16 (n + 11) [some (.inr (6, [.ref (n + 12), .int 0, .int 0, .int 0, .int 0, .int 0, .int 0, .int 0])), some (.inl (0, 0, .inl (fun _ => 0)))] := g7_0.frN (m := 2) rfl (fun q h1 h2 => (f9 q (by omega)).trans (fw q (by omega)))
  have gN9 := gN9.fr (fun q h1 h2 => show Z16 q = Z15 q from (f9 q (by omega)).trans (fw q (by omega)))
  have g10_0 : cAt Z16 (n + 18) [some (.inr (5, [.ref (n + 19), .int 0, .int 0]))] := g10_0.frN (m := 1) rfl (fun q h1 h2 => (f9 q (by omega)).trans (fw q (by omega)))
  have g10_1 := PS.fr (X2 := Z16) g10_1 (fun q h1 h2 => (f9 q (by omega)).trans (fw q (by omega)))
  have gI9 := PS.fr (X2 := Z16) gI9 (fun q h1 h2 => (f9 q (by omega)).trans (fw q (by omega)))
  have g14 : cAt Z16 (n + 131) [some (.inl (1, 2, .inl (fun _ => 0)))] := g14.frN (m := 1) rfl (fun q h1 h2 => (f9 q (by omega)).trans (fw q (by omega)))
  have g15 : cAt Z16 (n + 132) [some (.inl (0, 2, .inl (fun _ => 0)))] := g15.frN (m := 1) rfl (fun q h1 h2 => (f9 q (by omega)).trans (fw q (by omega)))
  have g16_0 : cAt Z16 (n + 133) [some (.inr (7, [.ref (n + 134), .ref (n + 135)])), some (.inl (0, 6, .inl (fun _ => 0)))] := cAt.frN (X := W16) (m := 2) (cAt.cons ow (cAt.one aw)) rfl (fun q h1 h2 => f9 q (by omega))
  have g16_1 : cAt Z16 (n + 135) (nCells (n + 135)) := cAt.frN (X := W16) (m := 5) lw rfl (fun q h1 h2 => f9 q (by omega))
  obtain ⟨W17, w17, ow, lw, fw0⟩ := init_X4 (F := F) (X := qnO Z16 (n + 140) 4 [.null, .null]) (n := n + 141) (a := n + 140) up_self (by omega)
  have w17 : fX4_init F (qnO Z16 (n + 140) 4 [.null, .null]) (n + 141) (n + 140) = some W17 := w17
  have fw : ∀ q : Nat, q < n + 140 → W17 q = Z16 q := fun q hq => (fw0 q (by omega) (by omega)).trans (up_ne (by omega))
  obtain ⟨Z17, e17, o17, f9⟩ := st_put (k := 13) o16 (p := n + 140) (by omega) fw (Nat.le_of_ble_eq_true rfl) (n + 140)
  have o17 : Z17 a = some (.inr (8, [.ref n, .int 0, .int (-1), .ref (n + 1), .ref (n + 6), .int 0, .ref (n + 11), .ref (n + 13), .ref (n + 18), .ref (n + 120), .ref (n + 131), .ref (n + 132), .ref (n + 133), .ref (n + 140), .null, .null])) := o17
  have g1 : cAt Z17 (n) [some (.inl (0, 230, .inl (fun _ => 0)))] := g1.frN (m := 1) rfl (fun q h1 h2 => (f9 q (by omega)).trans (fw q (by omega)))
  have g4_0 : cAt Z17 (n + 1) (bCells (n + 1)) := g4_0.frN (m := 5) rfl (fun q h1 h2 => (f9 q (by omega)).trans (fw q (by omega)))
  have g5_0 : cAt Z17 (n + 6) (bCells (n + 6)) := g5_0.frN (m := 5) rfl (fun q h1 h2 => (f9 q (by omega)).trans (fw q (by omega)))
  have g7_0 : cAt Z17 (n + 11) [some (.inr (6, [.ref (n + 12), .int 0, .int 0, .int 0, .int 0, .int 0, .int 0, .int 0])), some (.inl (0, 0, .inl (fun _ => 0)))] := g7_0.frN (m := 2) rfl (fun q h1 h2 => (f9 q (by omega)).trans (fw q (by omega)))
  have gN9 := gN9.fr (fun q h1 h2 => show Z17 q = Z16 q from (f9 q (by omega)).trans (fw q (by omega)))
  have g10_0 : cAt Z17 (n + 18) [some (.inr (5, [.ref (n + 19), .int 0, .int 0]))] := g10_0.frN (m := 1) rfl (fun q h1 h2 => (f9 q (by omega)).trans (fw q (by omega)))
  have g10_1 := PS.fr (X2 := Z17) g10_1 (fun q h1 h2 => (f9 q (by omega)).trans (fw q (by omega)))
  have gI9 := PS.fr (X2 := Z17) gI9 (fun q h1 h2 => (f9 q (by omega)).trans (fw q (by omega)))
  have g14 : cAt Z17 (n + 131) [some (.inl (1, 2, .inl (fun _ => 0)))] := g14.frN (m := 1) rfl (fun q h1 h2 => (f9 q (by omega)).trans (fw q (by omega)))
  have g15 : cAt Z17 (n + 132) [some (.inl (0, 2, .inl (fun _ => 0)))] := g15.frN (m := 1) rfl (fun q h1 h2 => (f9 q (by omega)).trans (fw q (by omega)))
  have g16_0 : cAt Z17 (n + 133) [some (.inr (7, [.ref (n + 134), .ref (n + 135)])), some (.inl (0, 6, .inl (fun _ => 0)))] := g16_0.frN (m := 2) rfl (fun q h1 h2 => (f9 q (by omega)).trans (fw q (by omega)))
  have g16_1 : cAt Z17 (n + 135) (nCells (n + 135)) := g16_1.frN (m := 5) rfl (fun q h1 h2 => (f9 q (by omega)).trans (fw q (by omega)))
  have g17_0 : cAt Z17 (n + 140) [some (.inr (4, [.ref (n + 141), .ref (n + 142)])), some (.inl (0, 8, .inl (fun _ => 0))), some (.inl (0, 8, .inl (fun _ => 0)))] := cAt.frN (X := W17) (m := 3) (cAt.cons ow lw) rfl (fun q h1 h2 => f9 q (by omega))
  obtain ⟨W18, w18, ow, lw, fw0⟩ := init_X2 (F := F) (X := qnO Z17 (n + 143) 2 [.int 0, .null, .null]) (n := n + 144) (a := n + 143) up_self (by omega)
  have w18 : fX2_init F (qnO Z17 (n + 143) 2 [.int 0, .null, .null]) (n + 144) (n + 143) = some W18 := w18
  have fw : ∀ q : Nat, q < n + 143 → W18 q = Z17 q := fun q hq => (fw0 q (by omega) (by omega)).trans (up_ne (by omega))
  obtain ⟨Z18, e18, o18, f9⟩ := st_put (k := 14) o17 (p := n + 143) (by omega) fw (Nat.le_of_ble_eq_true rfl) (n + 143)
  have o18 : Z18 a = some (.inr (8, [.ref n, .int 0, .int (-1), .ref (n + 1), .ref (n + 6), .int 0, .ref (n + 11), .ref (n + 13), .ref (n + 18), .ref (n + 120), .ref (n + 131), .ref (n + 132), .ref (n + 133), .ref (n + 140), .ref (n + 143), .null])) := o18
  have g1 : cAt Z18 (n) [some (.inl (0, 230, .inl (fun _ => 0)))] := g1.frN (m := 1) rfl (fun q h1 h2 => (f9 q (by omega)).trans (fw q (by omega)))
  have g4_0 : cAt Z18 (n + 1) (bCells (n + 1)) := g4_0.frN (m := 5) rfl (fun q h1 h2 => (f9 q (by omega)).trans (fw q (by omega)))
  have g5_0 : cAt Z18 (n + 6) (bCells (n + 6)) := g5_0.frN (m := 5) rfl (fun q h1 h2 => (f9 q (by omega)).trans (fw q (by omega)))
  have g7_0 : cAt Z18 (n + 11) [some (.inr (6, [.ref (n + 12), .int 0, .int 0, .int 0, .int 0, .int 0, .int 0, .int 0])), some (.inl (0, 0, .inl (fun _ => 0)))] := g7_0.frN (m := 2) rfl (fun q h1 h2 => (f9 q (by omega)).trans (fw q (by omega)))
  have gN9 := gN9.fr (fun q h1 h2 => show Z18 q = Z17 q from (f9 q (by omega)).trans (fw q (by omega)))
  have g10_0 : cAt Z18 (n + 18) [some (.inr (5, [.ref (n + 19), .int 0, .int 0]))] := g10_0.frN (m := 1) rfl (fun q h1 h2 => (f9 q (by omega)).trans (fw q (by omega)))
  have g10_1 := PS.fr (X2 := Z18) g10_1 (fun q h1 h2 => (f9 q (by omega)).trans (fw q (by omega)))
  have gI9 := PS.fr (X2 := Z18) gI9 (fun q h1 h2 => (f9 q (by omega)).trans (fw q (by omega)))
  have g14 : cAt Z18 (n + 131) [some (.inl (1, 2, .inl (fun _ => 0)))] := g14.frN (m := 1) rfl (fun q h1 h2 => (f9 q (by omega)).trans (fw q (by omega)))
  have g15 : cAt Z18 (n + 132) [some (.inl (0, 2, .inl (fun _ => 0)))] := g15.frN (m := 1) rfl (fun q h1 h2 => (f9 q (by omega)).trans (fw q (by omega)))
  have g16_0 : cAt Z18 (n + 133) [some (.inr (7, [.ref (n + 134), .ref (n + 135)])), some (.inl (0, 6, .inl (fun _ => 0)))] := g16_0.frN (m := 2) rfl (fun q h1 h2 => (f9 q (by omega)).trans (fw q (by omega)))
  have g16_1 : cAt Z18 (n + 135) (nCells (n + 135)) := g16_1.frN (m := 5) rfl (fun q h1 h2 => (f9 q (by omega)).trans (fw q (by omega)))
  have g17_0 : cAt Z18 (n + 140) [some (.inr (4, [.ref (n + 141), .ref (n + 142)])), some (.inl (0, 8, .inl (fun _ => 0))), some (.inl (0, 8, .inl (fun _ => 0)))] := g17_0.frN (m := 3) rfl (fun q h1 h2 => (f9 q (by omega)).trans (fw q (by omega)))
  have g18_0 : cAt Z18 (n + 143) [some (.inr (2, [.int 0, .ref (n + 144), .ref (n + 145)])), some (.inl (0, 6, .inl (fun _ => 0))), some (.inl (0, 6, .inl (fun _ => 0)))] := cAt.frN (X := W18) (m := 3) (cAt.cons ow lw) rfl (fun q h1 h2 => f9 q (by omega))
  obtain ⟨W19, w19, ow, lw, fw0⟩ := init_X1 (F := F) (X := qnO Z18 (n + 146) 1 [.int 0, .null, .null, .null]) (n := n + 147) (a := n + 146) up_self (by omega)
  have w19 : fX1_init F (qnO Z18 (n + 146) 1 [.int 0, .null, .null, .null]) (n + 147) (n + 146) = some W19 := w19
  have fw : ∀ q : Nat, q < n + 146 → W19 q = Z18 q := fun q hq => (fw0 q (by omega) (by omega)).trans (up_ne (by omega))
  obtain ⟨Z19, e19, o19, f9⟩ := st_put (k := 15) o18 (p := n + 146) (by omega) fw (Nat.le_of_ble_eq_true rfl) (n + 146)
  have o19 : Z19 a = some (.inr (8, [.ref n, .int 0, .int (-1), .ref (n + 1), .ref (n + 6), .int 0, .ref (n + 11), .ref (n + 13), .ref (n + 18), .ref (n + 120), .ref (n + 131), .ref (n + 132), .ref (n + 133), .ref (n + 140), .ref (n + 143), .ref (n + 146)])) := o19
  have g1 : cAt Z19 (n) [some (.inl (0, 230, .inl (fun _ => 0)))] := g1.frN (m := 1) rfl (fun q h1 h2 => (f9 q (by omega)).trans (fw q (by omega)))
  have g4_0 : cAt Z19 (n + 1) (bCells (n + 1)) := g4_0.frN (m := 5) rfl (fun q h1 h2 => (f9 q (by omega)).trans (fw q (by omega)))
  have g5_0 : cAt Z19 (n + 6) (bCells (n + 6)) := g5_0.frN (m := 5) rfl (fun q h1 h2 => (f9 q (by omega)).trans (fw q (by omega)))
  have g7_0 : cAt Z19 (n + 11) [some (.inr (6, [.ref (n + 12), .int 0, .int 0, .int 0, .int 0, .int 0, .int 0, .int 0])), some (.inl (0, 0, .inl (fun _ => 0)))] := g7_0.frN (m := 2) rfl (fun q h1 h2 => (f9 q (by omega)).trans (fw q (by omega)))
  have gN9 := gN9.fr (fun q h1 h2 => show Z19 q = Z18 q from (f9 q (by omega)).trans (fw q (by omega)))
  have g10_0 : cAt Z19 (n + 18) [some (.inr (5, [.ref (n + 19), .int 0, .int 0]))] := g10_0.frN (m := 1) rfl (fun q h1 h2 => (f9 q (by omega)).trans (fw q (by omega)))
  have g10_1 := PS.fr (X2 := Z19) g10_1 (fun q h1 h2 => (f9 q (by omega)).trans (fw q (by omega)))
  have gI9 := PS.fr (X2 := Z19) gI9 (fun q h1 h2 => (f9 q (by omega)).trans (fw q (by omega)))
  have g14 : cAt Z19 (n + 131) [some (.inl (1, 2, .inl (fun _ => 0)))] := g14.frN (m := 1) rfl (fun q h1 h2 => (f9 q (by omega)).trans (fw q (by omega)))
  have g15 : cAt Z19 (n + 132) [some (.inl (0, 2, .inl (fun _ => 0)))] := g15.frN (m := 1) rfl (fun q h1 h2 => (f9 q (by omega)).trans (fw q (by omega)))
  have g16_0 : cAt Z19 (n + 133) [some (.inr (7, [.ref (n + 134), .ref (n + 135)])), some (.inl (0, 6, .inl (fun _ => 0)))] := g16_0.frN (m := 2) rfl (fun q h1 h2 => (f9 q (by omega)).trans (fw q (by omega)))
  have g16_1 : cAt Z19 (n + 135) (nCells (n + 135)) := g16_1.frN (m := 5) rfl (fun q h1 h2 => (f9 q (by omega)).trans (fw q (by omega)))
  have g17_0 : cAt Z19 (n + 140) [some (.inr (4, [.ref (n + 141), .ref (n + 142)])), some (.inl (0, 8, .inl (fun _ => 0))), some (.inl (0, 8, .inl (fun _ => 0)))] := g17_0.frN (m := 3) rfl (fun q h1 h2 => (f9 q (by omega)).trans (fw q (by omega)))
  have g18_0 : cAt Z19 (n + 143) [some (.inr (2, [.int 0, .ref (n + 144), .ref (n + 145)])), some (.inl (0, 6, .inl (fun _ => 0))), some (.inl (0, 6, .inl (fun _ => 0)))] := g18_0.frN (m := 3) rfl (fun q h1 h2 => (f9 q (by omega)).trans (fw q (by omega)))
  have g19_0 : cAt Z19 (n + 146) [some (.inr (1, [.int 0, .ref (n + 147), .ref (n + 148), .ref (n + 149)])), some (.inl (0, 15, .inl (fun _ => 0))), some (.inl (0, 15, .inl (fun _ => 0))), some (.inl (1, 15, .inl (fun _ => 0)))] := cAt.frN (X := W19) (m := 4) (cAt.cons ow lw) rfl (fun q h1 h2 => f9 q (by omega))
  refine ⟨Z19, ?_, o19, g1, g4_0, g5_0, g7_0, gN9, g10_0, g10_1, gI9, g14, g15, g16_0, g16_1, g17_0, g18_0, g19_0⟩
  unfold fX9_init
  exact q_step e1 (q_step e2 (q_step e3 (q_step w4 (q_step e4 (q_step w5 (q_step e5 (q_step e6 (q_step w7 (q_step e7 (q_step w8 (q_step e8 (q_step q7 (q_step q3 (q_step e9 (q_step w10 (q_step e10 (q_step e11 (q_step q9a (q_step w12 (q_step t12 (q_step q9b (q_step w13 (q_step t13 (q_step e14 (q_step e15 (q_step w16 (q_step e16 (q_step w17 (q_step e17 (q_step w18 (q_step e18 (q_step w19 (q_step e19 (rfl))))))))))))))))))))))))))))))))))
