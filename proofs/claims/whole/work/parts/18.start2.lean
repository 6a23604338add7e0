/-- a blank Night at p: its five cells -/
def nCells (p : Nat) : List (Option va_E) := [some (.inr (3, [.int 0, .int 0, .int 0, .int 0, .ref (p + 1), .ref (p + 2), .ref (p + 3), .ref (p + 4)])), some (.inl (0, 8, .inl (fun _ => 0))), some (.inl (0, 8, .inl (fun _ => 0))), some (.inl (0, 8, .inl (fun _ => 0))), some (.inl (0, 8, .inl (fun _ => 0)))]
def bCells (p : Nat) : List (Option va_E) := [some (.inr (0, [.int 0, .int 0, .int 0, .int 2, .int 10, .int 0, .ref (p + 1), .ref (p + 2), .ref (p + 3), .ref (p + 4)])), some (.inl (0, 8, .inl (fun _ => 0))), some (.inl (0, 8, .inl (fun _ => 0))), some (.inl (0, 8, .inl (fun _ => 0))), some (.inl (0, 8, .inl (fun _ => 0)))]
theorem cAt.fr {X X2 : qH} {n : Nat} {l : List (Option va_E)} (h : cAt X n l) (fr : ∀ q : Nat, n ≤ q → q < n + l.length → X2 q = X q) : cAt X2 n l := fun j c hj => by
  have := (List.getElem?_eq_some_iff.mp hj).1
  rw [fr (n + j) (by omega) (by omega)]; exact h j c hj
theorem cAt.cons {X : qH} {n : Nat} {c : Option va_E} {l : List (Option va_E)} (h : X n = c) (h2 : cAt X (n + 1) l) : cAt X n (c :: l) := fun j d hj => by
  cases j with
  | zero => cases hj; exact h
  | succ j =>
    have := h2 j d hj
    rwa [show n + 1 + j = n + (j + 1) by omega] at this
/-- a new Night at p -/
theorem new_night {F : Nat} {X : qH} {p : Nat} : ∃ X2, fX3_init F (qnO X p 3 [.int 0, .int 0, .int 0, .int 0, .null, .null, .null, .null]) (p + 1) p = some X2 ∧ cAt X2 p (nCells p) ∧ ∀ q : Nat, q < p → X2 q = X q := by
  obtain ⟨X2, e, o, l, f⟩ := init_X3 (F := F) (X := qnO X p 3 [.int 0, .int 0, .int 0, .int 0, .null, .null, .null, .null]) (n := p + 1) (a := p) up_self (by omega)
  exact ⟨X2, e, cAt.cons o l, fun q hq => by rw [f q (by omega) (by omega)]; exact up_ne (by omega)⟩
theorem new_bay {F : Nat} {X : qH} {p : Nat} : ∃ X2, fX0_init F (qnO X p 0 [.int 0, .int 0, .int 0, .int 0, .int 0, .int 0, .null, .null, .null, .null]) (p + 1) p = some X2 ∧ cAt X2 p (bCells p) ∧ ∀ q : Nat, q < p → X2 q = X q := by
  obtain ⟨X2, e, o, l, f⟩ := init_X0 (F := F) (X := qnO X p 0 [.int 0, .int 0, .int 0, .int 0, .int 0, .int 0, .null, .null, .null, .null]) (n := p + 1) (a := p) up_self (by omega)
  exact ⟨X2, e, cAt.cons o l, fun q hq => by rw [f q (by omega) (by omega)]; exact up_ne (by omega)⟩
/-- nights in a row: i of N are made, at n + 1, n + 6 .. -/
def PS (X0 X : qH) (n N i : Nat) : Prop := (∃ f, X n = some (.inl (2, N, .inr (.inr (.inr (.inr f))))) ∧ ∀ j : Nat, j < i → f j = some (n + 1 + 5 * j)) ∧ (∀ j : Nat, j < i → cAt X (n + 1 + 5 * j) (nCells (n + 1 + 5 * j))) ∧ ∀ q : Nat, q < n → X q = X0 q
theorem night_step {F : Nat} {X0 X : qH} {n N i : Nat} (h : PS X0 X n N i) (hi : i < N) (hN : N < 2 ^ 31) : ∃ X2 X3, fX3_init F (qnO X (n + 1 + 5 * i) 3 [.int 0, .int 0, .int 0, .int 0, .null, .null, .null, .null]) (n + 1 + 5 * i + 1) (n + 1 + 5 * i) = some X2 ∧ qaT X2 n (nI i) (n + 1 + 5 * i) = some X3 ∧ PS X0 X3 n N (i + 1) := by
  obtain ⟨⟨f, h1, h2⟩, h3, h4⟩ := h
  obtain ⟨X2, e, l, fr⟩ := new_night (F := F) (X := X) (p := n + 1 + 5 * i)
  have hn : X2 n = some (.inl (2, N, .inr (.inr (.inr (.inr f))))) := by rw [fr n (by omega)]; exact h1
  have hv : X2 (n + 1 + 5 * i) = some (.inr (3, [.int 0, .int 0, .int 0, .int 0, .ref (n + 1 + 5 * i + 1), .ref (n + 1 + 5 * i + 2), .ref (n + 1 + 5 * i + 3), .ref (n + 1 + 5 * i + 4)])) := l 0 _ rfl
  refine ⟨X2, va_up X2 n (some (.inl (2, N, .inr (.inr (.inr (.inr (va_up f i (some (n + 1 + 5 * i))))))))), e, ?_, ⟨_, up_self, fun j hj => ?_⟩, fun j hj => ?_, fun q hq => ?_⟩
  · have hc := nI_in2 hi hN
    simp only [qaT, hn, hv, hc, nI_clamp (show i < 2 ^ 31 by omega), hi, and_self, true_and, if_true, not_false_eq_true]
  · by_cases hji : j = i
    · subst hji; simp [va_up]
    · simp only [va_up, if_neg hji]; exact h2 j (by omega)
  · by_cases hji : j = i
    · subst hji
      exact l.fr (fun q h1 h2 => up_ne (by omega))
    · exact (h3 j (by omega)).fr (fun q h1 h2 => by
        have hl : (nCells (n + 1 + 5 * j)).length = 5 := rfl
        rw [up_ne (by omega), fr q (by omega)])
  · rw [up_ne (by omega), fr q (by omega)]; exact h4 q hq
theorem PS.fr {X0 X X2 : qH} {n N i : Nat} (h : PS X0 X n N i) (fr : ∀ q : Nat, n ≤ q → q < n + 1 + 5 * i → X2 q = X q) : PS X2 X2 n N i := by
  obtain ⟨⟨f, h1, h2⟩, h3, -⟩ := h
  refine ⟨⟨f, by rw [fr n (by omega) (by omega)]; exact h1, h2⟩, fun j hj => (h3 j hj).fr (fun q a b => ?_), fun q _ => rfl⟩
  have hl : (nCells (n + 1 + 5 * j)).length = 5 := rfl
  exact fr q (by omega) (by omega)
set_option maxHeartbeats 4000000 in
theorem init_X5 {F : Nat} {X : qH} {n a : Nat} (o0 : X a = some (.inr (5, [.null, .int 0, .int 0]))) (han : a < n) : ∃ X2, fX5_init F X n a = some X2 ∧ X2 a = some (.inr (5, [.ref n, .int 0, .int 0])) ∧ PS X2 X2 n 20 20 ∧ ∀ q : Nat, q ≠ a → q < n → X2 q = X q := by
  obtain ⟨Z0, e0, o1, l1, f1⟩ := cs_arr (k := 0) o0 (cAt.nil (n := n)) (m := 0) rfl han (Nat.le_of_ble_eq_true rfl) (.inl (2, 20, .inr (.inr (.inr (.inr (fun _ => none))))))
  have e0 : qpR (qnR X n 20) 5 a 0 n = some Z0 := e0
  have o1 : Z0 a = some (.inr (5, [.ref n, .int 0, .int 0])) := o1
  have s0 : PS Z0 Z0 n 20 0 := ⟨⟨_, l1 0 _ rfl, fun j hj => by omega⟩, fun j hj => by omega, fun q hq => rfl⟩
  obtain ⟨A0, Z1, a0, t0, s1⟩ := night_step (F := F) (i := 0) s0 (by omega) (by omega)
  have a0 : fX3_init F (qnO Z0 (n + 1) 3 [.int 0, .int 0, .int 0, .int 0, .null, .null, .null, .null]) (n + 2) (n + 1) = some A0 := a0
  have t0 : qaT A0 n (0 : Int32) (n + 1) = some Z1 := t0
  obtain ⟨A1, Z2, a1, t1, s2⟩ := night_step (F := F) (i := 1) s1 (by omega) (by omega)
  have a1 : fX3_init F (qnO Z1 (n + 6) 3 [.int 0, .int 0, .int 0, .int 0, .null, .null, .null, .null]) (n + 7) (n + 6) = some A1 := a1
  have t1 : qaT A1 n (1 : Int32) (n + 6) = some Z2 := t1
  obtain ⟨A2, Z3, a2, t2, s3⟩ := night_step (F := F) (i := 2) s2 (by omega) (by omega)
  have a2 : fX3_init F (qnO Z2 (n + 11) 3 [.int 0, .int 0, .int 0, .int 0, .null, .null, .null, .null]) (n + 12) (n + 11) = some A2 := a2
  have t2 : qaT A2 n (2 : Int32) (n + 11) = some Z3 := t2
  obtain ⟨A3, Z4, a3, t3, s4⟩ := night_step (F := F) (i := 3) s3 (by omega) (by omega)
  have a3 : fX3_init F (qnO Z3 (n + 16) 3 [.int 0, .int 0, .int 0, .int 0, .null, .null, .null, .null]) (n + 17) (n + 16) = some A3 := a3
  have t3 : qaT A3 n (3 : Int32) (n + 16) = some Z4 := t3
  obtain ⟨A4, Z5, a4, t4, s5⟩ := night_step (F := F) (i := 4) s4 (by omega) (by omega)
  have a4 : fX3_init F (qnO Z4 (n + 21) 3 [.int 0, .int 0, .int 0, .int 0, .null, .null, .null, .null]) (n + 22) (n + 21) = some A4 := a4
  have t4 : qaT A4 n (4 : Int32) (n + 21) = some Z5 := t4
  obtain ⟨A5, Z6, a5, t5, s6⟩ := night_step (F := F) (i := 5) s5 (by omega) (by omega)
  have a5 : fX3_init F (qnO Z5 (n + 26) 3 [.int 0, .int 0, .int 0, .int 0, .null, .null, .null, .null]) (n + 27) (n + 26) = some A5 := a5
  have t5 : qaT A5 n (5 : Int32) (n + 26) = some Z6 := t5
  obtain ⟨A6, Z7, a6, t6, s7⟩ := night_step (F := F) (i := 6) s6 (by omega) (by omega)
  have a6 : fX3_init F (qnO Z6 (n + 31) 3 [.int 0, .int 0, .int 0, .int 0, .null, .null, .null, .null]) (n + 32) (n + 31) = some A6 := a6
  have t6 : qaT A6 n (6 : Int32) (n + 31) = some Z7 := t6
  obtain ⟨A7, Z8, a7, t7, s8⟩ := night_step (F := F) (i := 7) s7 (by omega) (by omega)
  have a7 : fX3_init F (qnO Z7 (n + 36) 3 [.int 0, .int 0, .int 0, .int 0, .null, .null, .null, .null]) (n + 37) (n + 36) = some A7 := a7
  have t7 : qaT A7 n (7 : Int32) (n + 36) = some Z8 := t7
  obtain ⟨A8, Z9, a8, t8, s9⟩ := night_step (F := F) (i := 8) s8 (by omega) (by omega)
  have a8 : fX3_init F (qnO Z8 (n + 41) 3 [.int 0, .int 0, .int 0, .int 0, .null, .null, .null, .null]) (n + 42) (n + 41) = some A8 := a8
  have t8 : qaT A8 n (8 : Int32) (n + 41) = some Z9 := t8
  obtain ⟨A9, Z10, a9, t9, s10⟩ := night_step (F := F) (i := 9) s9 (by omega) (by omega)
  have a9 : fX3_init F (qnO Z9 (n + 46) 3 [.int 0, .int 0, .int 0, .int 0, .null, .null, .null, .null]) (n + 47) (n + 46) = some A9 := a9
  have t9 : qaT A9 n (9 : Int32) (n + 46) = some Z10 := t9
  obtain ⟨A10, Z11, a10, t10, s11⟩ := night_step (F := F) (i := 10) s10 (by omega) (by omega)
  have a10 : fX3_init F (qnO Z10 (n + 51) 3 [.int 0, .int 0, .int 0, .int 0, .null, .null, .null, .null]) (n + 52) (n + 51) = some A10 := a10
  have t10 : qaT A10 n (10 : Int32) (n + 51) = some Z11 := t10
  obtain ⟨A11, Z12, a11, t11, s12⟩ := night_step (F := F) (i := 11) s11 (by omega) (by omega)
  have a11 : fX3_init F (qnO Z11 (n + 56) 3 [.int 0, .int 0, .int 0, .int 0, .null, .null, .null, .null]) (n + 57) (n + 56) = some A11 := a11
  have t11 : qaT A11 n (11 : Int32) (n + 56) = some Z12 := t11
  obtain ⟨A12, Z13, a12, t12, s13⟩ := night_step (F := F) (i := 12) s12 (by omega) (by omega)
  have a12 : fX3_init F (qnO Z12 (n + 61) 3 [.int 0, .int 0, .int 0, .int 0, .null, .null, .null, .null]) (n + 62) (n + 61) = some A12 := a12
  have t12 : qaT A12 n (12 : Int32) (n + 61) = some Z13 := t12
  obtain ⟨A13, Z14, a13, t13, s14⟩ := night_step (F := F) (i := 13) s13 (by omega) (by omega)
  have a13 : fX3_init F (qnO Z13 (n + 66) 3 [.int 0, .int 0, .int 0, .int 0, .null, .null, .null, .null]) (n + 67) (n + 66) = some A13 := a13
  have t13 : qaT A13 n (13 : Int32) (n + 66) = some Z14 := t13
  obtain ⟨A14, Z15, a14, t14, s15⟩ := night_step (F := F) (i := 14) s14 (by omega) (by omega)
  have a14 : fX3_init F (qnO Z14 (n + 71) 3 [.int 0, .int 0, .int 0, .int 0, .null, .null, .null, .null]) (n + 72) (n + 71) = some A14 := a14
  have t14 : qaT A14 n (14 : Int32) (n + 71) = some Z15 := t14
  obtain ⟨A15, Z16, a15, t15, s16⟩ := night_step (F := F) (i := 15) s15 (by omega) (by omega)
  have a15 : fX3_init F (qnO Z15 (n + 76) 3 [.int 0, .int 0, .int 0, .int 0, .null, .null, .null, .null]) (n + 77) (n + 76) = some A15 := a15
  have t15 : qaT A15 n (15 : Int32) (n + 76) = some Z16 := t15
  obtain ⟨A16, Z17, a16, t16, s17⟩ := night_step (F := F) (i := 16) s16 (by omega) (by omega)
  have a16 : fX3_init F (qnO Z16 (n + 81) 3 [.int 0, .int 0, .int 0, .int 0, .null, .null, .null, .null]) (n + 82) (n + 81) = some A16 := a16
  have t16 : qaT A16 n (16 : Int32) (n + 81) = some Z17 := t16
  obtain ⟨A17, Z18, a17, t17, s18⟩ := night_step (F := F) (i := 17) s17 (by omega) (by omega)
  have a17 : fX3_init F (qnO Z17 (n + 86) 3 [.int 0, .int 0, .int 0, .int 0, .null, .null, .null, .null]) (n + 87) (n + 86) = some A17 := a17
  have t17 : qaT A17 n (17 : Int32) (n + 86) = some Z18 := t17
  obtain ⟨A18, Z19, a18, t18, s19⟩ := night_step (F := F) (i := 18) s18 (by omega) (by omega)
  have a18 : fX3_init F (qnO Z18 (n + 91) 3 [.int 0, .int 0, .int 0, .int 0, .null, .null, .null, .null]) (n + 92) (n + 91) = some A18 := a18
  have t18 : qaT A18 n (18 : Int32) (n + 91) = some Z19 := t18
  obtain ⟨A19, Z20, a19, t19, s20⟩ := night_step (F := F) (i := 19) s19 (by omega) (by omega)
  have a19 : fX3_init F (qnO Z19 (n + 96) 3 [.int 0, .int 0, .int 0, .int 0, .null, .null, .null, .null]) (n + 97) (n + 96) = some A19 := a19
  have t19 : qaT A19 n (19 : Int32) (n + 96) = some Z20 := t19
  have hobj : ∀ Z : qH, (∀ q : Nat, q < n → Z q = Z0 q) → qgR Z 5 a 0 = some n := fun Z hZ => by simp only [qgR, hZ a han, o1]; rfl
  refine ⟨Z20, ?_, by rw [s20.2.2 a han]; exact o1, s20.fr (fun q _ _ => rfl), fun q h1 h2 => by rw [s20.2.2 q h2]; exact f1 q h1 (by omega)⟩
  unfold fX5_init
  exact q_step e0 (q_step (hobj Z0 s0.2.2) (q_step a0 (q_step t0 (q_step (hobj Z1 s1.2.2) (q_step a1 (q_step t1 (q_step (hobj Z2 s2.2.2) (q_step a2 (q_step t2 (q_step (hobj Z3 s3.2.2) (q_step a3 (q_step t3 (q_step (hobj Z4 s4.2.2) (q_step a4 (q_step t4 (q_step (hobj Z5 s5.2.2) (q_step a5 (q_step t5 (q_step (hobj Z6 s6.2.2) (q_step a6 (q_step t6 (q_step (hobj Z7 s7.2.2) (q_step a7 (q_step t7 (q_step (hobj Z8 s8.2.2) (q_step a8 (q_step t8 (q_step (hobj Z9 s9.2.2) (q_step a9 (q_step t9 (q_step (hobj Z10 s10.2.2) (q_step a10 (q_step t10 (q_step (hobj Z11 s11.2.2) (q_step a11 (q_step t11 (q_step (hobj Z12 s12.2.2) (q_step a12 (q_step t12 (q_step (hobj Z13 s13.2.2) (q_step a13 (q_step t13 (q_step (hobj Z14 s14.2.2) (q_step a14 (q_step t14 (q_step (hobj Z15 s15.2.2) (q_step a15 (q_step t15 (q_step (hobj Z16 s16.2.2) (q_step a16 (q_step t16 (q_step (hobj Z17 s17.2.2) (q_step a17 (q_step t17 (q_step (hobj Z18 s18.2.2) (q_step a18 (q_step t18 (q_step (hobj Z19 s19.2.2) (q_step a19 (q_step t19 (rfl)))))))))))))))))))))))))))))))))))))))))))))))))))))))))))))
set_option maxHeartbeats 4000000 in
theorem init_X7 {F : Nat} {X : qH} {n a : Nat} (o0 : X a = some (.inr (7, [.null, .null]))) (han : a < n) : ∃ X2, fX7_init F X n a = some X2 ∧ X2 a = some (.inr (7, [.ref n, .ref (n + 1)])) ∧ X2 n = some (.inl (0, 6, .inl (fun _ => 0))) ∧ cAt X2 (n + 1) (nCells (n + 1)) ∧ ∀ q : Nat, q ≠ a → q < n → X2 q = X q := by
  obtain ⟨Z0, e0, o1, l1, f1⟩ := cs_arr (k := 0) o0 (cAt.nil (n := n)) (m := 0) rfl han (Nat.le_of_ble_eq_true rfl) (.inl (0, 6, .inl (fun _ => 0)))
  have e0 : qpR (qnI X n 6) 7 a 0 n = some Z0 := e0
  have o1 : Z0 a = some (.inr (7, [.ref n, .null])) := o1
  obtain ⟨Z1, e1, l2, f2⟩ := new_night (F := F) (X := Z0) (p := n + 1)
  have e1 : fX3_init F (qnO Z0 (n + 1) 3 [.int 0, .int 0, .int 0, .int 0, .null, .null, .null, .null]) (n + 2) (n + 1) = some Z1 := e1
  have o2 : Z1 a = some (.inr (7, [.ref n, .null])) := by rw [f2 a (by omega)]; exact o1
  have e2 : qpR Z1 7 a 1 (n + 1) = some (va_up Z1 a (some (.inr (7, [.ref n, .ref (n + 1)])))) := qp_at o2 (Nat.le_of_ble_eq_true rfl) _
  refine ⟨_, ?_, up_self, by rw [up_ne (by omega), f2 n (by omega)]; exact l1 0 _ rfl, l2.fr (fun q h1 h2 => up_ne (by omega)), fun q h1 h2 => by rw [up_ne h1, f2 q (by omega)]; exact f1 q h1 (by omega)⟩
  unfold fX7_init
  exact q_step e0 (q_step e1 (q_step e2 rfl))
