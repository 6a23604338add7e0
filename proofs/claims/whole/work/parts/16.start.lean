/-! THE START: what the constructors make -/
def cAt (X : qH) (n : Nat) (l : List (Option va_E)) : Prop := ∀ (j : Nat) (c : Option va_E), l[j]? = some c → X (n + j) = c
theorem q_step {α β : Type} {x : Option α} {k : α → Option β} {v : α} {r : Option β} (h : x = some v) (h2 : k v = r) : x.bind k = r := by rw [h]; exact h2
theorem cAt.nil {X : qH} {n : Nat} : cAt X n [] := fun j c h => by simp at h
theorem cAt.app {X X2 : qH} {n m : Nat} {l l2 : List (Option va_E)} (h : cAt X n l) (hm : l.length = m) (fr : ∀ q : Nat, n ≤ q → q < n + m → X2 q = X q) (h2 : cAt X2 (n + m) l2) : cAt X2 n (l ++ l2) := by
  intro j c hj
  by_cases hl : j < l.length
  · rw [List.getElem?_append_left hl] at hj
    rw [fr (n + j) (by omega) (by omega)]
    exact h j c hj
  · rw [List.getElem?_append_right (by omega)] at hj
    have := h2 (j - l.length) c hj
    rwa [show n + m + (j - l.length) = n + j by omega] at this
theorem cAt.one {X : qH} {n : Nat} {c : Option va_E} (h : X n = c) : cAt X n [c] := fun j d hj => by
  have hz : j < 1 := (List.getElem?_eq_some_iff.mp hj).1
  rw [show j = 0 by omega] at hj ⊢
  cases hj
  exact h
theorem up_self {X : qH} {a : Nat} {c : Option va_E} : va_up X a c a = c := by simp [va_up]
theorem up_ne {X : qH} {a q : Nat} {c : Option va_E} (h : q ≠ a) : va_up X a c q = X q := by simp [va_up, h]
theorem qp_at {X : qH} {a ci k : Nat} {fs : List Value} (ho : X a = some (.inr (ci, fs))) (hk : k < fs.length) (v : Value) : qp X ci a k v = some (va_up X a (some (.inr (ci, fs.set k v)))) := by simp only [qp, ho, hk, and_self, if_true]
/-- an array at the end, and the object's field -/
theorem cs_arr {X : qH} {a ci n m k : Nat} {fs : List Value} {l : List (Option va_E)} (ho : X a = some (.inr (ci, fs))) (hl : cAt X n l) (hm : l.length = m) (han : a < n) (hk : k < fs.length) (cell : va_E) :
    ∃ X2, qpR (va_up X (n + m) (some cell)) ci a k (n + m) = some X2 ∧ X2 a = some (.inr (ci, fs.set k (.ref (n + m)))) ∧ cAt X2 n (l ++ [some cell]) ∧ ∀ q : Nat, q ≠ a → (q < n + m ∨ n + m < q) → X2 q = X q := by
  have ho1 : va_up X (n + m) (some cell) a = some (.inr (ci, fs)) := by rw [up_ne (by omega)]; exact ho
  refine ⟨_, qp_at ho1 hk _, up_self, hl.app hm (fun q h1 h2 => by rw [up_ne (by omega), up_ne (by omega)]) (cAt.one (by rw [up_ne (by omega), up_self])), fun q h1 h2 => by rw [up_ne h1, up_ne (by omega)]⟩
theorem cs_int {X : qH} {a ci n k : Nat} {fs : List Value} {l : List (Option va_E)} (ho : X a = some (.inr (ci, fs))) (hl : cAt X n l) (han : a < n) (hk : k < fs.length) (v : Int32) :
    ∃ X2, qpI X ci a k v = some X2 ∧ X2 a = some (.inr (ci, fs.set k (.int v))) ∧ cAt X2 n l ∧ ∀ q : Nat, q ≠ a → X2 q = X q := by
  refine ⟨_, qp_at ho hk _, up_self, ?_, fun q h1 => up_ne h1⟩
  intro j c hj
  rw [up_ne (by omega)]
  exact hl j c hj

set_option maxHeartbeats 2000000 in
theorem init_X0 {F : Nat} {X : qH} {n a : Nat} (o0 : X a = some (.inr (0, [.int 0, .int 0, .int 0, .int 0, .int 0, .int 0, .null, .null, .null, .null]))) (han : a < n) : ∃ X2, fX0_init F X n a = some X2 ∧ X2 a = some (.inr (0, [.int 0, .int 0, .int 0, .int 2, .int 10, .int 0, .ref (n), .ref (n + 1), .ref (n + 2), .ref (n + 3)])) ∧ cAt X2 n [some (.inl (0, 8, .inl (fun _ => 0))), some (.inl (0, 8, .inl (fun _ => 0))), some (.inl (0, 8, .inl (fun _ => 0))), some (.inl (0, 8, .inl (fun _ => 0)))] ∧ ∀ q : Nat, q ≠ a → (q < n ∨ n + 4 ≤ q) → X2 q = X q := by
  have l0 : cAt X n [] := cAt.nil
  obtain ⟨Z1, e1, o1, l1, f1⟩ := cs_arr (k := 6) o0 l0 (m := 0) rfl han (Nat.le_of_ble_eq_true rfl) (.inl (0, 8, .inl (fun _ => 0)))
  have e1 : qpR (qnI X n 8) 0 a 6 n = some Z1 := e1
  have o1 : Z1 a = some (.inr (0, [.int 0, .int 0, .int 0, .int 0, .int 0, .int 0, .ref (n), .null, .null, .null])) := o1
  have l1 : cAt Z1 n [some (.inl (0, 8, .inl (fun _ => 0)))] := l1
  obtain ⟨Z2, e2, o2, l2, f2⟩ := cs_arr (k := 7) o1 l1 (m := 1) rfl han (Nat.le_of_ble_eq_true rfl) (.inl (0, 8, .inl (fun _ => 0)))
  have e2 : qpR (qnI Z1 (n + 1) 8) 0 a 7 (n + 1) = some Z2 := e2
  have o2 : Z2 a = some (.inr (0, [.int 0, .int 0, .int 0, .int 0, .int 0, .int 0, .ref (n), .ref (n + 1), .null, .null])) := o2
  have l2 : cAt Z2 n [some (.inl (0, 8, .inl (fun _ => 0))), some (.inl (0, 8, .inl (fun _ => 0)))] := l2
  obtain ⟨Z3, e3, o3, l3, f3⟩ := cs_arr (k := 8) o2 l2 (m := 2) rfl han (Nat.le_of_ble_eq_true rfl) (.inl (0, 8, .inl (fun _ => 0)))
  have e3 : qpR (qnI Z2 (n + 2) 8) 0 a 8 (n + 2) = some Z3 := e3
  have o3 : Z3 a = some (.inr (0, [.int 0, .int 0, .int 0, .int 0, .int 0, .int 0, .ref (n), .ref (n + 1), .ref (n + 2), .null])) := o3
  have l3 : cAt Z3 n [some (.inl (0, 8, .inl (fun _ => 0))), some (.inl (0, 8, .inl (fun _ => 0))), some (.inl (0, 8, .inl (fun _ => 0)))] := l3
  obtain ⟨Z4, e4, o4, l4, f4⟩ := cs_arr (k := 9) o3 l3 (m := 3) rfl han (Nat.le_of_ble_eq_true rfl) (.inl (0, 8, .inl (fun _ => 0)))
  have e4 : qpR (qnI Z3 (n + 3) 8) 0 a 9 (n + 3) = some Z4 := e4
  have o4 : Z4 a = some (.inr (0, [.int 0, .int 0, .int 0, .int 0, .int 0, .int 0, .ref (n), .ref (n + 1), .ref (n + 2), .ref (n + 3)])) := o4
  have l4 : cAt Z4 n [some (.inl (0, 8, .inl (fun _ => 0))), some (.inl (0, 8, .inl (fun _ => 0))), some (.inl (0, 8, .inl (fun _ => 0))), some (.inl (0, 8, .inl (fun _ => 0)))] := l4
  obtain ⟨Z5, e5, o5, l5, f5⟩ := cs_int (k := 0) o4 l4 han (Nat.le_of_ble_eq_true rfl) (0)
  have o5 : Z5 a = some (.inr (0, [.int 0, .int 0, .int 0, .int 0, .int 0, .int 0, .ref (n), .ref (n + 1), .ref (n + 2), .ref (n + 3)])) := o5
  obtain ⟨Z6, e6, o6, l6, f6⟩ := cs_int (k := 1) o5 l5 han (Nat.le_of_ble_eq_true rfl) (0)
  have o6 : Z6 a = some (.inr (0, [.int 0, .int 0, .int 0, .int 0, .int 0, .int 0, .ref (n), .ref (n + 1), .ref (n + 2), .ref (n + 3)])) := o6
  obtain ⟨Z7, e7, o7, l7, f7⟩ := cs_int (k := 2) o6 l6 han (Nat.le_of_ble_eq_true rfl) (0)
  have o7 : Z7 a = some (.inr (0, [.int 0, .int 0, .int 0, .int 0, .int 0, .int 0, .ref (n), .ref (n + 1), .ref (n + 2), .ref (n + 3)])) := o7
  obtain ⟨Z8, e8, o8, l8, f8⟩ := cs_int (k := 3) o7 l7 han (Nat.le_of_ble_eq_true rfl) (2)
  have o8 : Z8 a = some (.inr (0, [.int 0, .int 0, .int 0, .int 2, .int 0, .int 0, .ref (n), .ref (n + 1), .ref (n + 2), .ref (n + 3)])) := o8
  obtain ⟨Z9, e9, o9, l9, f9⟩ := cs_int (k := 4) o8 l8 han (Nat.le_of_ble_eq_true rfl) (10)
  have o9 : Z9 a = some (.inr (0, [.int 0, .int 0, .int 0, .int 2, .int 10, .int 0, .ref (n), .ref (n + 1), .ref (n + 2), .ref (n + 3)])) := o9
  obtain ⟨Z10, e10, o10, l10, f10⟩ := cs_int (k := 5) o9 l9 han (Nat.le_of_ble_eq_true rfl) (0)
  have o10 : Z10 a = some (.inr (0, [.int 0, .int 0, .int 0, .int 2, .int 10, .int 0, .ref (n), .ref (n + 1), .ref (n + 2), .ref (n + 3)])) := o10
  refine ⟨Z10, ?_, o10, l10, fun q h1 h2 => ?_⟩
  · have hz : ∀ (x : Option qH), qIs 0 Z4 a x = x := fun x => by simp only [qIs, o4]; rfl
    unfold fX0_init
    simp only [fX0_empty, qlt, e1, e2, e3, e4, e5, e6, e7, e8, e9, e10, hz, Option.bind_some]
  · exact ((f10 q h1).trans ((f9 q h1).trans ((f8 q h1).trans ((f7 q h1).trans ((f6 q h1).trans ((f5 q h1).trans ((f4 q h1 (by omega)).trans ((f3 q h1 (by omega)).trans ((f2 q h1 (by omega)).trans ((f1 q h1 (by omega)).trans rfl))))))))))
set_option maxHeartbeats 2000000 in
theorem init_X1 {F : Nat} {X : qH} {n a : Nat} (o0 : X a = some (.inr (1, [.int 0, .null, .null, .null]))) (han : a < n) : ∃ X2, fX1_init F X n a = some X2 ∧ X2 a = some (.inr (1, [.int 0, .ref (n), .ref (n + 1), .ref (n + 2)])) ∧ cAt X2 n [some (.inl (0, 15, .inl (fun _ => 0))), some (.inl (0, 15, .inl (fun _ => 0))), some (.inl (1, 15, .inl (fun _ => 0)))] ∧ ∀ q : Nat, q ≠ a → (q < n ∨ n + 3 ≤ q) → X2 q = X q := by
  have l0 : cAt X n [] := cAt.nil
  obtain ⟨Z1, e1, o1, l1, f1⟩ := cs_arr (k := 1) o0 l0 (m := 0) rfl han (Nat.le_of_ble_eq_true rfl) (.inl (0, 15, .inl (fun _ => 0)))
  have e1 : qpR (qnI X n 15) 1 a 1 n = some Z1 := e1
  have o1 : Z1 a = some (.inr (1, [.int 0, .ref (n), .null, .null])) := o1
  have l1 : cAt Z1 n [some (.inl (0, 15, .inl (fun _ => 0)))] := l1
  obtain ⟨Z2, e2, o2, l2, f2⟩ := cs_arr (k := 2) o1 l1 (m := 1) rfl han (Nat.le_of_ble_eq_true rfl) (.inl (0, 15, .inl (fun _ => 0)))
  have e2 : qpR (qnI Z1 (n + 1) 15) 1 a 2 (n + 1) = some Z2 := e2
  have o2 : Z2 a = some (.inr (1, [.int 0, .ref (n), .ref (n + 1), .null])) := o2
  have l2 : cAt Z2 n [some (.inl (0, 15, .inl (fun _ => 0))), some (.inl (0, 15, .inl (fun _ => 0)))] := l2
  obtain ⟨Z3, e3, o3, l3, f3⟩ := cs_arr (k := 3) o2 l2 (m := 2) rfl han (Nat.le_of_ble_eq_true rfl) (.inl (1, 15, .inl (fun _ => 0)))
  have e3 : qpR (qnZ Z2 (n + 2) 15) 1 a 3 (n + 2) = some Z3 := e3
  have o3 : Z3 a = some (.inr (1, [.int 0, .ref (n), .ref (n + 1), .ref (n + 2)])) := o3
  have l3 : cAt Z3 n [some (.inl (0, 15, .inl (fun _ => 0))), some (.inl (0, 15, .inl (fun _ => 0))), some (.inl (1, 15, .inl (fun _ => 0)))] := l3
  refine ⟨Z3, ?_, o3, l3, fun q h1 h2 => ?_⟩
  · unfold fX1_init
    exact q_step e1 (q_step e2 (q_step e3 (rfl)))
  · exact ((f3 q h1 (by omega)).trans ((f2 q h1 (by omega)).trans ((f1 q h1 (by omega)).trans rfl)))
set_option maxHeartbeats 2000000 in
theorem init_X2 {F : Nat} {X : qH} {n a : Nat} (o0 : X a = some (.inr (2, [.int 0, .null, .null]))) (han : a < n) : ∃ X2, fX2_init F X n a = some X2 ∧ X2 a = some (.inr (2, [.int 0, .ref (n), .ref (n + 1)])) ∧ cAt X2 n [some (.inl (0, 6, .inl (fun _ => 0))), some (.inl (0, 6, .inl (fun _ => 0)))] ∧ ∀ q : Nat, q ≠ a → (q < n ∨ n + 2 ≤ q) → X2 q = X q := by
  have l0 : cAt X n [] := cAt.nil
  obtain ⟨Z1, e1, o1, l1, f1⟩ := cs_arr (k := 1) o0 l0 (m := 0) rfl han (Nat.le_of_ble_eq_true rfl) (.inl (0, 6, .inl (fun _ => 0)))
  have e1 : qpR (qnI X n 6) 2 a 1 n = some Z1 := e1
  have o1 : Z1 a = some (.inr (2, [.int 0, .ref (n), .null])) := o1
  have l1 : cAt Z1 n [some (.inl (0, 6, .inl (fun _ => 0)))] := l1
  obtain ⟨Z2, e2, o2, l2, f2⟩ := cs_arr (k := 2) o1 l1 (m := 1) rfl han (Nat.le_of_ble_eq_true rfl) (.inl (0, 6, .inl (fun _ => 0)))
  have e2 : qpR (qnI Z1 (n + 1) 6) 2 a 2 (n + 1) = some Z2 := e2
  have o2 : Z2 a = some (.inr (2, [.int 0, .ref (n), .ref (n + 1)])) := o2
  have l2 : cAt Z2 n [some (.inl (0, 6, .inl (fun _ => 0))), some (.inl (0, 6, .inl (fun _ => 0)))] := l2
  refine ⟨Z2, ?_, o2, l2, fun q h1 h2 => ?_⟩
  · unfold fX2_init
    exact q_step e1 (q_step e2 (rfl))
  · exact ((f2 q h1 (by omega)).trans ((f1 q h1 (by omega)).trans rfl))
set_option maxHeartbeats 2000000 in
theorem init_X3 {F : Nat} {X : qH} {n a : Nat} (o0 : X a = some (.inr (3, [.int 0, .int 0, .int 0, .int 0, .null, .null, .null, .null]))) (han : a < n) : ∃ X2, fX3_init F X n a = some X2 ∧ X2 a = some (.inr (3, [.int 0, .int 0, .int 0, .int 0, .ref (n), .ref (n + 1), .ref (n + 2), .ref (n + 3)])) ∧ cAt X2 n [some (.inl (0, 8, .inl (fun _ => 0))), some (.inl (0, 8, .inl (fun _ => 0))), some (.inl (0, 8, .inl (fun _ => 0))), some (.inl (0, 8, .inl (fun _ => 0)))] ∧ ∀ q : Nat, q ≠ a → (q < n ∨ n + 4 ≤ q) → X2 q = X q := by
  have l0 : cAt X n [] := cAt.nil
  obtain ⟨Z1, e1, o1, l1, f1⟩ := cs_arr (k := 4) o0 l0 (m := 0) rfl han (Nat.le_of_ble_eq_true rfl) (.inl (0, 8, .inl (fun _ => 0)))
  have e1 : qpR (qnI X n 8) 3 a 4 n = some Z1 := e1
  have o1 : Z1 a = some (.inr (3, [.int 0, .int 0, .int 0, .int 0, .ref (n), .null, .null, .null])) := o1
  have l1 : cAt Z1 n [some (.inl (0, 8, .inl (fun _ => 0)))] := l1
  obtain ⟨Z2, e2, o2, l2, f2⟩ := cs_arr (k := 5) o1 l1 (m := 1) rfl han (Nat.le_of_ble_eq_true rfl) (.inl (0, 8, .inl (fun _ => 0)))
  have e2 : qpR (qnI Z1 (n + 1) 8) 3 a 5 (n + 1) = some Z2 := e2
  have o2 : Z2 a = some (.inr (3, [.int 0, .int 0, .int 0, .int 0, .ref (n), .ref (n + 1), .null, .null])) := o2
  have l2 : cAt Z2 n [some (.inl (0, 8, .inl (fun _ => 0))), some (.inl (0, 8, .inl (fun _ => 0)))] := l2
  obtain ⟨Z3, e3, o3, l3, f3⟩ := cs_arr (k := 6) o2 l2 (m := 2) rfl han (Nat.le_of_ble_eq_true rfl) (.inl (0, 8, .inl (fun _ => 0)))
  have e3 : qpR (qnI Z2 (n + 2) 8) 3 a 6 (n + 2) = some Z3 := e3
  have o3 : Z3 a = some (.inr (3, [.int 0, .int 0, .int 0, .int 0, .ref (n), .ref (n + 1), .ref (n + 2), .null])) := o3
  have l3 : cAt Z3 n [some (.inl (0, 8, .inl (fun _ => 0))), some (.inl (0, 8, .inl (fun _ => 0))), some (.inl (0, 8, .inl (fun _ => 0)))] := l3
  obtain ⟨Z4, e4, o4, l4, f4⟩ := cs_arr (k := 7) o3 l3 (m := 3) rfl han (Nat.le_of_ble_eq_true rfl) (.inl (0, 8, .inl (fun _ => 0)))
  have e4 : qpR (qnI Z3 (n + 3) 8) 3 a 7 (n + 3) = some Z4 := e4
  have o4 : Z4 a = some (.inr (3, [.int 0, .int 0, .int 0, .int 0, .ref (n), .ref (n + 1), .ref (n + 2), .ref (n + 3)])) := o4
  have l4 : cAt Z4 n [some (.inl (0, 8, .inl (fun _ => 0))), some (.inl (0, 8, .inl (fun _ => 0))), some (.inl (0, 8, .inl (fun _ => 0))), some (.inl (0, 8, .inl (fun _ => 0)))] := l4
  refine ⟨Z4, ?_, o4, l4, fun q h1 h2 => ?_⟩
  · unfold fX3_init
    exact q_step e1 (q_step e2 (q_step e3 (q_step e4 (rfl))))
  · exact ((f4 q h1 (by omega)).trans ((f3 q h1 (by omega)).trans ((f2 q h1 (by omega)).trans ((f1 q h1 (by omega)).trans rfl))))
set_option maxHeartbeats 2000000 in
theorem init_X4 {F : Nat} {X : qH} {n a : Nat} (o0 : X a = some (.inr (4, [.null, .null]))) (han : a < n) : ∃ X2, fX4_init F X n a = some X2 ∧ X2 a = some (.inr (4, [.ref (n), .ref (n + 1)])) ∧ cAt X2 n [some (.inl (0, 8, .inl (fun _ => 0))), some (.inl (0, 8, .inl (fun _ => 0)))] ∧ ∀ q : Nat, q ≠ a → (q < n ∨ n + 2 ≤ q) → X2 q = X q := by
  have l0 : cAt X n [] := cAt.nil
  obtain ⟨Z1, e1, o1, l1, f1⟩ := cs_arr (k := 0) o0 l0 (m := 0) rfl han (Nat.le_of_ble_eq_true rfl) (.inl (0, 8, .inl (fun _ => 0)))
  have e1 : qpR (qnI X n 8) 4 a 0 n = some Z1 := e1
  have o1 : Z1 a = some (.inr (4, [.ref (n), .null])) := o1
  have l1 : cAt Z1 n [some (.inl (0, 8, .inl (fun _ => 0)))] := l1
  obtain ⟨Z2, e2, o2, l2, f2⟩ := cs_arr (k := 1) o1 l1 (m := 1) rfl han (Nat.le_of_ble_eq_true rfl) (.inl (0, 8, .inl (fun _ => 0)))
  have e2 : qpR (qnI Z1 (n + 1) 8) 4 a 1 (n + 1) = some Z2 := e2
  have o2 : Z2 a = some (.inr (4, [.ref (n), .ref (n + 1)])) := o2
  have l2 : cAt Z2 n [some (.inl (0, 8, .inl (fun _ => 0))), some (.inl (0, 8, .inl (fun _ => 0)))] := l2
  refine ⟨Z2, ?_, o2, l2, fun q h1 h2 => ?_⟩
  · unfold fX4_init
    exact q_step e1 (q_step e2 (rfl))
  · exact ((f2 q h1 (by omega)).trans ((f1 q h1 (by omega)).trans rfl))
set_option maxHeartbeats 2000000 in
theorem init_X6 {F : Nat} {X : qH} {n a : Nat} (o0 : X a = some (.inr (6, [.null, .int 0, .int 0, .int 0, .int 0, .int 0, .int 0, .int 0]))) (han : a < n) : ∃ X2, fX6_init F X n a = some X2 ∧ X2 a = some (.inr (6, [.ref (n), .int 0, .int 0, .int 0, .int 0, .int 0, .int 0, .int 0])) ∧ cAt X2 n [some (.inl (0, 0, .inl (fun _ => 0)))] ∧ ∀ q : Nat, q ≠ a → (q < n ∨ n + 1 ≤ q) → X2 q = X q := by
  have l0 : cAt X n [] := cAt.nil
  obtain ⟨Z1, e1, o1, l1, f1⟩ := cs_arr (k := 0) o0 l0 (m := 0) rfl han (Nat.le_of_ble_eq_true rfl) (.inl (0, 0, .inl (fun _ => 0)))
  have e1 : qpR (qnI X n 0) 6 a 0 n = some Z1 := e1
  have o1 : Z1 a = some (.inr (6, [.ref (n), .int 0, .int 0, .int 0, .int 0, .int 0, .int 0, .int 0])) := o1
  have l1 : cAt Z1 n [some (.inl (0, 0, .inl (fun _ => 0)))] := l1
  refine ⟨Z1, ?_, o1, l1, fun q h1 h2 => ?_⟩
  · unfold fX6_init
    exact q_step e1 (rfl)
  · exact ((f1 q h1 (by omega)).trans rfl)
set_option maxHeartbeats 2000000 in
theorem init_X10 {F : Nat} {X : qH} {n a : Nat} (o0 : X a = some (.inr (9, [.int 0, .int 0, .null, .null, .null, .null, .int 0, .int 0, .null, .int 0, .null, .int 0, .int 0, .int 0, .int 0, .int 0, .null, .int 0, .null, .null, .null, .null, .null, .null, .null, .int 0, .int 0, .int 0, .null, .null, .null, .null, .null, .int 0, .null, .null, .int 0, .null, .null, .null, .null, .null]))) (han : a < n) : ∃ X2, fX10_init F X n a = some X2 ∧ X2 a = some (.inr (9, [.int 0, .int 0, .ref (n), .ref (n + 1), .ref (n + 2), .ref (n + 3), .int 2, .int 10, .ref (n + 4), .int 0, .ref (n + 5), .int 0, .int (-1), .int 0, .int 0, .int 0, .ref (n + 6), .int 0, .ref (n + 7), .ref (n + 8), .ref (n + 9), .ref (n + 10), .ref (n + 11), .ref (n + 12), .ref (n + 13), .int 0, .int 0, .int 0, .ref (n + 14), .ref (n + 15), .ref (n + 16), .ref (n + 17), .ref (n + 18), .int 0, .ref (n + 19), .ref (n + 20), .int 0, .ref (n + 21), .ref (n + 22), .ref (n + 23), .ref (n + 24), .ref (n + 25)])) ∧ cAt X2 n [some (.inl (0, 8, .inl (fun _ => 0))), some (.inl (0, 8, .inl (fun _ => 0))), some (.inl (0, 8, .inl (fun _ => 0))), some (.inl (0, 40, .inl (fun _ => 0))), some (.inl (0, 43, .inl (fun _ => 0))), some (.inl (0, 230, .inl (fun _ => 0))), some (.inl (0, 3, .inl (fun _ => 0))), some (.inl (0, 8, .inl (fun _ => 0))), some (.inl (0, 8, .inl (fun _ => 0))), some (.inl (0, 8, .inl (fun _ => 0))), some (.inl (0, 8, .inl (fun _ => 0))), some (.inl (0, 40, .inl (fun _ => 0))), some (.inl (0, 1, .inl (fun _ => 0))), some (.inl (0, 1, .inl (fun _ => 0))), some (.inl (0, 860, .inl (fun _ => 0))), some (.inl (0, 43, .inl (fun _ => 0))), some (.inl (0, 5, .inl (fun _ => 0))), some (.inl (0, 8, .inl (fun _ => 0))), some (.inl (0, 8, .inl (fun _ => 0))), some (.inl (0, 6, .inl (fun _ => 0))), some (.inl (0, 6, .inl (fun _ => 0))), some (.inl (0, 15, .inl (fun _ => 0))), some (.inl (0, 15, .inl (fun _ => 0))), some (.inl (1, 15, .inl (fun _ => 0))), some (.inl (0, 88, .inl (fun _ => 0))), some (.inl (1, 2, .inl (fun _ => 0)))] ∧ ∀ q : Nat, q ≠ a → (q < n ∨ n + 26 ≤ q) → X2 q = X q := by
  have l0 : cAt X n [] := cAt.nil
  obtain ⟨Z1, e1, o1, l1, f1⟩ := cs_arr (k := 2) o0 l0 (m := 0) rfl han (Nat.le_of_ble_eq_true rfl) (.inl (0, 8, .inl (fun _ => 0)))
  have e1 : qpR (qnI X n 8) 9 a 2 n = some Z1 := e1
  simp only [List.set_cons_succ, List.set_cons_zero, Nat.add_zero] at o1
  have l1 : cAt Z1 n [some (.inl (0, 8, .inl (fun _ => 0)))] := l1
  obtain ⟨Z2, e2, o2, l2, f2⟩ := cs_arr (k := 3) o1 l1 (m := 1) rfl han (Nat.le_of_ble_eq_true rfl) (.inl (0, 8, .inl (fun _ => 0)))
  have e2 : qpR (qnI Z1 (n + 1) 8) 9 a 3 (n + 1) = some Z2 := e2
  simp only [List.set_cons_succ, List.set_cons_zero, Nat.add_zero] at o2
  have l2 : cAt Z2 n [some (.inl (0, 8, .inl (fun _ => 0))), some (.inl (0, 8, .inl (fun _ => 0)))] := l2
  obtain ⟨Z3, e3, o3, l3, f3⟩ := cs_arr (k := 4) o2 l2 (m := 2) rfl han (Nat.le_of_ble_eq_true rfl) (.inl (0, 8, .inl (fun _ => 0)))
  have e3 : qpR (qnI Z2 (n + 2) 8) 9 a 4 (n + 2) = some Z3 := e3
  simp only [List.set_cons_succ, List.set_cons_zero, Nat.add_zero] at o3
  have l3 : cAt Z3 n [some (.inl (0, 8, .inl (fun _ => 0))), some (.inl (0, 8, .inl (fun _ => 0))), some (.inl (0, 8, .inl (fun _ => 0)))] := l3
  obtain ⟨Z4, e4, o4, l4, f4⟩ := cs_arr (k := 5) o3 l3 (m := 3) rfl han (Nat.le_of_ble_eq_true rfl) (.inl (0, 40, .inl (fun _ => 0)))
  have e4 : qpR (qnI Z3 (n + 3) 40) 9 a 5 (n + 3) = some Z4 := e4
  simp only [List.set_cons_succ, List.set_cons_zero, Nat.add_zero] at o4
  have l4 : cAt Z4 n [some (.inl (0, 8, .inl (fun _ => 0))), some (.inl (0, 8, .inl (fun _ => 0))), some (.inl (0, 8, .inl (fun _ => 0))), some (.inl (0, 40, .inl (fun _ => 0)))] := l4
  obtain ⟨Z5, e5, o5, l5, f5⟩ := cs_int (k := 6) o4 l4 han (Nat.le_of_ble_eq_true rfl) (2)
  simp only [List.set_cons_succ, List.set_cons_zero, Nat.add_zero] at o5
  obtain ⟨Z6, e6, o6, l6, f6⟩ := cs_int (k := 7) o5 l5 han (Nat.le_of_ble_eq_true rfl) (10)
  simp only [List.set_cons_succ, List.set_cons_zero, Nat.add_zero] at o6
  obtain ⟨Z7, e7, o7, l7, f7⟩ := cs_arr (k := 8) o6 l6 (m := 4) rfl han (Nat.le_of_ble_eq_true rfl) (.inl (0, 43, .inl (fun _ => 0)))
  have e7 : qpR (qnI Z6 (n + 4) 43) 9 a 8 (n + 4) = some Z7 := e7
  simp only [List.set_cons_succ, List.set_cons_zero, Nat.add_zero] at o7
  have l7 : cAt Z7 n [some (.inl (0, 8, .inl (fun _ => 0))), some (.inl (0, 8, .inl (fun _ => 0))), some (.inl (0, 8, .inl (fun _ => 0))), some (.inl (0, 40, .inl (fun _ => 0))), some (.inl (0, 43, .inl (fun _ => 0)))] := l7
  obtain ⟨Z8, e8, o8, l8, f8⟩ := cs_arr (k := 10) o7 l7 (m := 5) rfl han (Nat.le_of_ble_eq_true rfl) (.inl (0, 230, .inl (fun _ => 0)))
  have e8 : qpR (qnI Z7 (n + 5) 230) 9 a 10 (n + 5) = some Z8 := e8
  simp only [List.set_cons_succ, List.set_cons_zero, Nat.add_zero] at o8
  have l8 : cAt Z8 n [some (.inl (0, 8, .inl (fun _ => 0))), some (.inl (0, 8, .inl (fun _ => 0))), some (.inl (0, 8, .inl (fun _ => 0))), some (.inl (0, 40, .inl (fun _ => 0))), some (.inl (0, 43, .inl (fun _ => 0))), some (.inl (0, 230, .inl (fun _ => 0)))] := l8
  obtain ⟨Z9, e9, o9, l9, f9⟩ := cs_int (k := 12) o8 l8 han (Nat.le_of_ble_eq_true rfl) (-1)
  simp only [List.set_cons_succ, List.set_cons_zero, Nat.add_zero] at o9
  obtain ⟨Z10, e10, o10, l10, f10⟩ := cs_arr (k := 16) o9 l9 (m := 6) rfl han (Nat.le_of_ble_eq_true rfl) (.inl (0, 3, .inl (fun _ => 0)))
  have e10 : qpR (qnI Z9 (n + 6) 3) 9 a 16 (n + 6) = some Z10 := e10
  simp only [List.set_cons_succ, List.set_cons_zero, Nat.add_zero] at o10
  have l10 : cAt Z10 n [some (.inl (0, 8, .inl (fun _ => 0))), some (.inl (0, 8, .inl (fun _ => 0))), some (.inl (0, 8, .inl (fun _ => 0))), some (.inl (0, 40, .inl (fun _ => 0))), some (.inl (0, 43, .inl (fun _ => 0))), some (.inl (0, 230, .inl (fun _ => 0))), some (.inl (0, 3, .inl (fun _ => 0)))] := l10
  obtain ⟨Z11, e11, o11, l11, f11⟩ := cs_arr (k := 18) o10 l10 (m := 7) rfl han (Nat.le_of_ble_eq_true rfl) (.inl (0, 8, .inl (fun _ => 0)))
  have e11 : qpR (qnI Z10 (n + 7) 8) 9 a 18 (n + 7) = some Z11 := e11
  simp only [List.set_cons_succ, List.set_cons_zero, Nat.add_zero] at o11
  have l11 : cAt Z11 n [some (.inl (0, 8, .inl (fun _ => 0))), some (.inl (0, 8, .inl (fun _ => 0))), some (.inl (0, 8, .inl (fun _ => 0))), some (.inl (0, 40, .inl (fun _ => 0))), some (.inl (0, 43, .inl (fun _ => 0))), some (.inl (0, 230, .inl (fun _ => 0))), some (.inl (0, 3, .inl (fun _ => 0))), some (.inl (0, 8, .inl (fun _ => 0)))] := l11
  obtain ⟨Z12, e12, o12, l12, f12⟩ := cs_arr (k := 19) o11 l11 (m := 8) rfl han (Nat.le_of_ble_eq_true rfl) (.inl (0, 8, .inl (fun _ => 0)))
  have e12 : qpR (qnI Z11 (n + 8) 8) 9 a 19 (n + 8) = some Z12 := e12
  simp only [List.set_cons_succ, List.set_cons_zero, Nat.add_zero] at o12
  have l12 : cAt Z12 n [some (.inl (0, 8, .inl (fun _ => 0))), some (.inl (0, 8, .inl (fun _ => 0))), some (.inl (0, 8, .inl (fun _ => 0))), some (.inl (0, 40, .inl (fun _ => 0))), some (.inl (0, 43, .inl (fun _ => 0))), some (.inl (0, 230, .inl (fun _ => 0))), some (.inl (0, 3, .inl (fun _ => 0))), some (.inl (0, 8, .inl (fun _ => 0))), some (.inl (0, 8, .inl (fun _ => 0)))] := l12
  obtain ⟨Z13, e13, o13, l13, f13⟩ := cs_arr (k := 20) o12 l12 (m := 9) rfl han (Nat.le_of_ble_eq_true rfl) (.inl (0, 8, .inl (fun _ => 0)))
  have e13 : qpR (qnI Z12 (n + 9) 8) 9 a 20 (n + 9) = some Z13 := e13
  simp only [List.set_cons_succ, List.set_cons_zero, Nat.add_zero] at o13
  have l13 : cAt Z13 n [some (.inl (0, 8, .inl (fun _ => 0))), some (.inl (0, 8, .inl (fun _ => 0))), some (.inl (0, 8, .inl (fun _ => 0))), some (.inl (0, 40, .inl (fun _ => 0))), some (.inl (0, 43, .inl (fun _ => 0))), some (.inl (0, 230, .inl (fun _ => 0))), some (.inl (0, 3, .inl (fun _ => 0))), some (.inl (0, 8, .inl (fun _ => 0))), some (.inl (0, 8, .inl (fun _ => 0))), some (.inl (0, 8, .inl (fun _ => 0)))] := l13
  obtain ⟨Z14, e14, o14, l14, f14⟩ := cs_arr (k := 21) o13 l13 (m := 10) rfl han (Nat.le_of_ble_eq_true rfl) (.inl (0, 8, .inl (fun _ => 0)))
  have e14 : qpR (qnI Z13 (n + 10) 8) 9 a 21 (n + 10) = some Z14 := e14
  simp only [List.set_cons_succ, List.set_cons_zero, Nat.add_zero] at o14
  have l14 : cAt Z14 n [some (.inl (0, 8, .inl (fun _ => 0))), some (.inl (0, 8, .inl (fun _ => 0))), some (.inl (0, 8, .inl (fun _ => 0))), some (.inl (0, 40, .inl (fun _ => 0))), some (.inl (0, 43, .inl (fun _ => 0))), some (.inl (0, 230, .inl (fun _ => 0))), some (.inl (0, 3, .inl (fun _ => 0))), some (.inl (0, 8, .inl (fun _ => 0))), some (.inl (0, 8, .inl (fun _ => 0))), some (.inl (0, 8, .inl (fun _ => 0))), some (.inl (0, 8, .inl (fun _ => 0)))] := l14
  obtain ⟨Z15, e15, o15, l15, f15⟩ := cs_arr (k := 22) o14 l14 (m := 11) rfl han (Nat.le_of_ble_eq_true rfl) (.inl (0, 40, .inl (fun _ => 0)))
  have e15 : qpR (qnI Z14 (n + 11) 40) 9 a 22 (n + 11) = some Z15 := e15
  simp only [List.set_cons_succ, List.set_cons_zero, Nat.add_zero] at o15
  have l15 : cAt Z15 n [some (.inl (0, 8, .inl (fun _ => 0))), some (.inl (0, 8, .inl (fun _ => 0))), some (.inl (0, 8, .inl (fun _ => 0))), some (.inl (0, 40, .inl (fun _ => 0))), some (.inl (0, 43, .inl (fun _ => 0))), some (.inl (0, 230, .inl (fun _ => 0))), some (.inl (0, 3, .inl (fun _ => 0))), some (.inl (0, 8, .inl (fun _ => 0))), some (.inl (0, 8, .inl (fun _ => 0))), some (.inl (0, 8, .inl (fun _ => 0))), some (.inl (0, 8, .inl (fun _ => 0))), some (.inl (0, 40, .inl (fun _ => 0)))] := l15
  obtain ⟨Z16, e16, o16, l16, f16⟩ := cs_arr (k := 23) o15 l15 (m := 12) rfl han (Nat.le_of_ble_eq_true rfl) (.inl (0, 1, .inl (fun _ => 0)))
  have e16 : qpR (qnI Z15 (n + 12) 1) 9 a 23 (n + 12) = some Z16 := e16
  simp only [List.set_cons_succ, List.set_cons_zero, Nat.add_zero] at o16
  have l16 : cAt Z16 n [some (.inl (0, 8, .inl (fun _ => 0))), some (.inl (0, 8, .inl (fun _ => 0))), some (.inl (0, 8, .inl (fun _ => 0))), some (.inl (0, 40, .inl (fun _ => 0))), some (.inl (0, 43, .inl (fun _ => 0))), some (.inl (0, 230, .inl (fun _ => 0))), some (.inl (0, 3, .inl (fun _ => 0))), some (.inl (0, 8, .inl (fun _ => 0))), some (.inl (0, 8, .inl (fun _ => 0))), some (.inl (0, 8, .inl (fun _ => 0))), some (.inl (0, 8, .inl (fun _ => 0))), some (.inl (0, 40, .inl (fun _ => 0))), some (.inl (0, 1, .inl (fun _ => 0)))] := l16
  obtain ⟨Z17, e17, o17, l17, f17⟩ := cs_arr (k := 24) o16 l16 (m := 13) rfl han (Nat.le_of_ble_eq_true rfl) (.inl (0, 1, .inl (fun _ => 0)))
  have e17 : qpR (qnI Z16 (n + 13) 1) 9 a 24 (n + 13) = some Z17 := e17
  simp only [List.set_cons_succ, List.set_cons_zero, Nat.add_zero] at o17
  have l17 : cAt Z17 n [some (.inl (0, 8, .inl (fun _ => 0))), some (.inl (0, 8, .inl (fun _ => 0))), some (.inl (0, 8, .inl (fun _ => 0))), some (.inl (0, 40, .inl (fun _ => 0))), some (.inl (0, 43, .inl (fun _ => 0))), some (.inl (0, 230, .inl (fun _ => 0))), some (.inl (0, 3, .inl (fun _ => 0))), some (.inl (0, 8, .inl (fun _ => 0))), some (.inl (0, 8, .inl (fun _ => 0))), some (.inl (0, 8, .inl (fun _ => 0))), some (.inl (0, 8, .inl (fun _ => 0))), some (.inl (0, 40, .inl (fun _ => 0))), some (.inl (0, 1, .inl (fun _ => 0))), some (.inl (0, 1, .inl (fun _ => 0)))] := l17
  obtain ⟨Z18, e18, o18, l18, f18⟩ := cs_arr (k := 28) o17 l17 (m := 14) rfl han (Nat.le_of_ble_eq_true rfl) (.inl (0, 860, .inl (fun _ => 0)))
  have e18 : qpR (qnI Z17 (n + 14) 860) 9 a 28 (n + 14) = some Z18 := e18
  simp only [List.set_cons_succ, List.set_cons_zero, Nat.add_zero] at o18
  have l18 : cAt Z18 n [some (.inl (0, 8, .inl (fun _ => 0))), some (.inl (0, 8, .inl (fun _ => 0))), some (.inl (0, 8, .inl (fun _ => 0))), some (.inl (0, 40, .inl (fun _ => 0))), some (.inl (0, 43, .inl (fun _ => 0))), some (.inl (0, 230, .inl (fun _ => 0))), some (.inl (0, 3, .inl (fun _ => 0))), some (.inl (0, 8, .inl (fun _ => 0))), some (.inl (0, 8, .inl (fun _ => 0))), some (.inl (0, 8, .inl (fun _ => 0))), some (.inl (0, 8, .inl (fun _ => 0))), some (.inl (0, 40, .inl (fun _ => 0))), some (.inl (0, 1, .inl (fun _ => 0))), some (.inl (0, 1, .inl (fun _ => 0))), some (.inl (0, 860, .inl (fun _ => 0)))] := l18
  obtain ⟨Z19, e19, o19, l19, f19⟩ := cs_arr (k := 29) o18 l18 (m := 15) rfl han (Nat.le_of_ble_eq_true rfl) (.inl (0, 43, .inl (fun _ => 0)))
  have e19 : qpR (qnI Z18 (n + 15) 43) 9 a 29 (n + 15) = some Z19 := e19
  simp only [List.set_cons_succ, List.set_cons_zero, Nat.add_zero] at o19
  have l19 : cAt Z19 n [some (.inl (0, 8, .inl (fun _ => 0))), some (.inl (0, 8, .inl (fun _ => 0))), some (.inl (0, 8, .inl (fun _ => 0))), some (.inl (0, 40, .inl (fun _ => 0))), some (.inl (0, 43, .inl (fun _ => 0))), some (.inl (0, 230, .inl (fun _ => 0))), some (.inl (0, 3, .inl (fun _ => 0))), some (.inl (0, 8, .inl (fun _ => 0))), some (.inl (0, 8, .inl (fun _ => 0))), some (.inl (0, 8, .inl (fun _ => 0))), some (.inl (0, 8, .inl (fun _ => 0))), some (.inl (0, 40, .inl (fun _ => 0))), some (.inl (0, 1, .inl (fun _ => 0))), some (.inl (0, 1, .inl (fun _ => 0))), some (.inl (0, 860, .inl (fun _ => 0))), some (.inl (0, 43, .inl (fun _ => 0)))] := l19
  obtain ⟨Z20, e20, o20, l20, f20⟩ := cs_arr (k := 30) o19 l19 (m := 16) rfl han (Nat.le_of_ble_eq_true rfl) (.inl (0, 5, .inl (fun _ => 0)))
  have e20 : qpR (qnI Z19 (n + 16) 5) 9 a 30 (n + 16) = some Z20 := e20
  simp only [List.set_cons_succ, List.set_cons_zero, Nat.add_zero] at o20
  have l20 : cAt Z20 n [some (.inl (0, 8, .inl (fun _ => 0))), some (.inl (0, 8, .inl (fun _ => 0))), some (.inl (0, 8, .inl (fun _ => 0))), some (.inl (0, 40, .inl (fun _ => 0))), some (.inl (0, 43, .inl (fun _ => 0))), some (.inl (0, 230, .inl (fun _ => 0))), some (.inl (0, 3, .inl (fun _ => 0))), some (.inl (0, 8, .inl (fun _ => 0))), some (.inl (0, 8, .inl (fun _ => 0))), some (.inl (0, 8, .inl (fun _ => 0))), some (.inl (0, 8, .inl (fun _ => 0))), some (.inl (0, 40, .inl (fun _ => 0))), some (.inl (0, 1, .inl (fun _ => 0))), some (.inl (0, 1, .inl (fun _ => 0))), some (.inl (0, 860, .inl (fun _ => 0))), some (.inl (0, 43, .inl (fun _ => 0))), some (.inl (0, 5, .inl (fun _ => 0)))] := l20
  obtain ⟨Z21, e21, o21, l21, f21⟩ := cs_arr (k := 31) o20 l20 (m := 17) rfl han (Nat.le_of_ble_eq_true rfl) (.inl (0, 8, .inl (fun _ => 0)))
  have e21 : qpR (qnI Z20 (n + 17) 8) 9 a 31 (n + 17) = some Z21 := e21
  simp only [List.set_cons_succ, List.set_cons_zero, Nat.add_zero] at o21
  have l21 : cAt Z21 n [some (.inl (0, 8, .inl (fun _ => 0))), some (.inl (0, 8, .inl (fun _ => 0))), some (.inl (0, 8, .inl (fun _ => 0))), some (.inl (0, 40, .inl (fun _ => 0))), some (.inl (0, 43, .inl (fun _ => 0))), some (.inl (0, 230, .inl (fun _ => 0))), some (.inl (0, 3, .inl (fun _ => 0))), some (.inl (0, 8, .inl (fun _ => 0))), some (.inl (0, 8, .inl (fun _ => 0))), some (.inl (0, 8, .inl (fun _ => 0))), some (.inl (0, 8, .inl (fun _ => 0))), some (.inl (0, 40, .inl (fun _ => 0))), some (.inl (0, 1, .inl (fun _ => 0))), some (.inl (0, 1, .inl (fun _ => 0))), some (.inl (0, 860, .inl (fun _ => 0))), some (.inl (0, 43, .inl (fun _ => 0))), some (.inl (0, 5, .inl (fun _ => 0))), some (.inl (0, 8, .inl (fun _ => 0)))] := l21
  obtain ⟨Z22, e22, o22, l22, f22⟩ := cs_arr (k := 32) o21 l21 (m := 18) rfl han (Nat.le_of_ble_eq_true rfl) (.inl (0, 8, .inl (fun _ => 0)))
  have e22 : qpR (qnI Z21 (n + 18) 8) 9 a 32 (n + 18) = some Z22 := e22
  simp only [List.set_cons_succ, List.set_cons_zero, Nat.add_zero] at o22
  have l22 : cAt Z22 n [some (.inl (0, 8, .inl (fun _ => 0))), some (.inl (0, 8, .inl (fun _ => 0))), some (.inl (0, 8, .inl (fun _ => 0))), some (.inl (0, 40, .inl (fun _ => 0))), some (.inl (0, 43, .inl (fun _ => 0))), some (.inl (0, 230, .inl (fun _ => 0))), some (.inl (0, 3, .inl (fun _ => 0))), some (.inl (0, 8, .inl (fun _ => 0))), some (.inl (0, 8, .inl (fun _ => 0))), some (.inl (0, 8, .inl (fun _ => 0))), some (.inl (0, 8, .inl (fun _ => 0))), some (.inl (0, 40, .inl (fun _ => 0))), some (.inl (0, 1, .inl (fun _ => 0))), some (.inl (0, 1, .inl (fun _ => 0))), some (.inl (0, 860, .inl (fun _ => 0))), some (.inl (0, 43, .inl (fun _ => 0))), some (.inl (0, 5, .inl (fun _ => 0))), some (.inl (0, 8, .inl (fun _ => 0))), some (.inl (0, 8, .inl (fun _ => 0)))] := l22
  obtain ⟨Z23, e23, o23, l23, f23⟩ := cs_arr (k := 34) o22 l22 (m := 19) rfl han (Nat.le_of_ble_eq_true rfl) (.inl (0, 6, .inl (fun _ => 0)))
  have e23 : qpR (qnI Z22 (n + 19) 6) 9 a 34 (n + 19) = some Z23 := e23
  simp only [List.set_cons_succ, List.set_cons_zero, Nat.add_zero] at o23
  have l23 : cAt Z23 n [some (.inl (0, 8, .inl (fun _ => 0))), some (.inl (0, 8, .inl (fun _ => 0))), some (.inl (0, 8, .inl (fun _ => 0))), some (.inl (0, 40, .inl (fun _ => 0))), some (.inl (0, 43, .inl (fun _ => 0))), some (.inl (0, 230, .inl (fun _ => 0))), some (.inl (0, 3, .inl (fun _ => 0))), some (.inl (0, 8, .inl (fun _ => 0))), some (.inl (0, 8, .inl (fun _ => 0))), some (.inl (0, 8, .inl (fun _ => 0))), some (.inl (0, 8, .inl (fun _ => 0))), some (.inl (0, 40, .inl (fun _ => 0))), some (.inl (0, 1, .inl (fun _ => 0))), some (.inl (0, 1, .inl (fun _ => 0))), some (.inl (0, 860, .inl (fun _ => 0))), some (.inl (0, 43, .inl (fun _ => 0))), some (.inl (0, 5, .inl (fun _ => 0))), some (.inl (0, 8, .inl (fun _ => 0))), some (.inl (0, 8, .inl (fun _ => 0))), some (.inl (0, 6, .inl (fun _ => 0)))] := l23
  obtain ⟨Z24, e24, o24, l24, f24⟩ := cs_arr (k := 35) o23 l23 (m := 20) rfl han (Nat.le_of_ble_eq_true rfl) (.inl (0, 6, .inl (fun _ => 0)))
  have e24 : qpR (qnI Z23 (n + 20) 6) 9 a 35 (n + 20) = some Z24 := e24
  simp only [List.set_cons_succ, List.set_cons_zero, Nat.add_zero] at o24
  have l24 : cAt Z24 n [some (.inl (0, 8, .inl (fun _ => 0))), some (.inl (0, 8, .inl (fun _ => 0))), some (.inl (0, 8, .inl (fun _ => 0))), some (.inl (0, 40, .inl (fun _ => 0))), some (.inl (0, 43, .inl (fun _ => 0))), some (.inl (0, 230, .inl (fun _ => 0))), some (.inl (0, 3, .inl (fun _ => 0))), some (.inl (0, 8, .inl (fun _ => 0))), some (.inl (0, 8, .inl (fun _ => 0))), some (.inl (0, 8, .inl (fun _ => 0))), some (.inl (0, 8, .inl (fun _ => 0))), some (.inl (0, 40, .inl (fun _ => 0))), some (.inl (0, 1, .inl (fun _ => 0))), some (.inl (0, 1, .inl (fun _ => 0))), some (.inl (0, 860, .inl (fun _ => 0))), some (.inl (0, 43, .inl (fun _ => 0))), some (.inl (0, 5, .inl (fun _ => 0))), some (.inl (0, 8, .inl (fun _ => 0))), some (.inl (0, 8, .inl (fun _ => 0))), some (.inl (0, 6, .inl (fun _ => 0))), some (.inl (0, 6, .inl (fun _ => 0)))] := l24
  obtain ⟨Z25, e25, o25, l25, f25⟩ := cs_arr (k := 37) o24 l24 (m := 21) rfl han (Nat.le_of_ble_eq_true rfl) (.inl (0, 15, .inl (fun _ => 0)))
  have e25 : qpR (qnI Z24 (n + 21) 15) 9 a 37 (n + 21) = some Z25 := e25
  simp only [List.set_cons_succ, List.set_cons_zero, Nat.add_zero] at o25
  have l25 : cAt Z25 n [some (.inl (0, 8, .inl (fun _ => 0))), some (.inl (0, 8, .inl (fun _ => 0))), some (.inl (0, 8, .inl (fun _ => 0))), some (.inl (0, 40, .inl (fun _ => 0))), some (.inl (0, 43, .inl (fun _ => 0))), some (.inl (0, 230, .inl (fun _ => 0))), some (.inl (0, 3, .inl (fun _ => 0))), some (.inl (0, 8, .inl (fun _ => 0))), some (.inl (0, 8, .inl (fun _ => 0))), some (.inl (0, 8, .inl (fun _ => 0))), some (.inl (0, 8, .inl (fun _ => 0))), some (.inl (0, 40, .inl (fun _ => 0))), some (.inl (0, 1, .inl (fun _ => 0))), some (.inl (0, 1, .inl (fun _ => 0))), some (.inl (0, 860, .inl (fun _ => 0))), some (.inl (0, 43, .inl (fun _ => 0))), some (.inl (0, 5, .inl (fun _ => 0))), some (.inl (0, 8, .inl (fun _ => 0))), some (.inl (0, 8, .inl (fun _ => 0))), some (.inl (0, 6, .inl (fun _ => 0))), some (.inl (0, 6, .inl (fun _ => 0))), some (.inl (0, 15, .inl (fun _ => 0)))] := l25
  obtain ⟨Z26, e26, o26, l26, f26⟩ := cs_arr (k := 38) o25 l25 (m := 22) rfl han (Nat.le_of_ble_eq_true rfl) (.inl (0, 15, .inl (fun _ => 0)))
  have e26 : qpR (qnI Z25 (n + 22) 15) 9 a 38 (n + 22) = some Z26 := e26
  simp only [List.set_cons_succ, List.set_cons_zero, Nat.add_zero] at o26
  have l26 : cAt Z26 n [some (.inl (0, 8, .inl (fun _ => 0))), some (.inl (0, 8, .inl (fun _ => 0))), some (.inl (0, 8, .inl (fun _ => 0))), some (.inl (0, 40, .inl (fun _ => 0))), some (.inl (0, 43, .inl (fun _ => 0))), some (.inl (0, 230, .inl (fun _ => 0))), some (.inl (0, 3, .inl (fun _ => 0))), some (.inl (0, 8, .inl (fun _ => 0))), some (.inl (0, 8, .inl (fun _ => 0))), some (.inl (0, 8, .inl (fun _ => 0))), some (.inl (0, 8, .inl (fun _ => 0))), some (.inl (0, 40, .inl (fun _ => 0))), some (.inl (0, 1, .inl (fun _ => 0))), some (.inl (0, 1, .inl (fun _ => 0))), some (.inl (0, 860, .inl (fun _ => 0))), some (.inl (0, 43, .inl (fun _ => 0))), some (.inl (0, 5, .inl (fun _ => 0))), some (.inl (0, 8, .inl (fun _ => 0))), some (.inl (0, 8, .inl (fun _ => 0))), some (.inl (0, 6, .inl (fun _ => 0))), some (.inl (0, 6, .inl (fun _ => 0))), some (.inl (0, 15, .inl (fun _ => 0))), some (.inl (0, 15, .inl (fun _ => 0)))] := l26
  obtain ⟨Z27, e27, o27, l27, f27⟩ := cs_arr (k := 39) o26 l26 (m := 23) rfl han (Nat.le_of_ble_eq_true rfl) (.inl (1, 15, .inl (fun _ => 0)))
  have e27 : qpR (qnZ Z26 (n + 23) 15) 9 a 39 (n + 23) = some Z27 := e27
  simp only [List.set_cons_succ, List.set_cons_zero, Nat.add_zero] at o27
  have l27 : cAt Z27 n [some (.inl (0, 8, .inl (fun _ => 0))), some (.inl (0, 8, .inl (fun _ => 0))), some (.inl (0, 8, .inl (fun _ => 0))), some (.inl (0, 40, .inl (fun _ => 0))), some (.inl (0, 43, .inl (fun _ => 0))), some (.inl (0, 230, .inl (fun _ => 0))), some (.inl (0, 3, .inl (fun _ => 0))), some (.inl (0, 8, .inl (fun _ => 0))), some (.inl (0, 8, .inl (fun _ => 0))), some (.inl (0, 8, .inl (fun _ => 0))), some (.inl (0, 8, .inl (fun _ => 0))), some (.inl (0, 40, .inl (fun _ => 0))), some (.inl (0, 1, .inl (fun _ => 0))), some (.inl (0, 1, .inl (fun _ => 0))), some (.inl (0, 860, .inl (fun _ => 0))), some (.inl (0, 43, .inl (fun _ => 0))), some (.inl (0, 5, .inl (fun _ => 0))), some (.inl (0, 8, .inl (fun _ => 0))), some (.inl (0, 8, .inl (fun _ => 0))), some (.inl (0, 6, .inl (fun _ => 0))), some (.inl (0, 6, .inl (fun _ => 0))), some (.inl (0, 15, .inl (fun _ => 0))), some (.inl (0, 15, .inl (fun _ => 0))), some (.inl (1, 15, .inl (fun _ => 0)))] := l27
  obtain ⟨Z28, e28, o28, l28, f28⟩ := cs_arr (k := 40) o27 l27 (m := 24) rfl han (Nat.le_of_ble_eq_true rfl) (.inl (0, 88, .inl (fun _ => 0)))
  have e28 : qpR (qnI Z27 (n + 24) 88) 9 a 40 (n + 24) = some Z28 := e28
  simp only [List.set_cons_succ, List.set_cons_zero, Nat.add_zero] at o28
  have l28 : cAt Z28 n [some (.inl (0, 8, .inl (fun _ => 0))), some (.inl (0, 8, .inl (fun _ => 0))), some (.inl (0, 8, .inl (fun _ => 0))), some (.inl (0, 40, .inl (fun _ => 0))), some (.inl (0, 43, .inl (fun _ => 0))), some (.inl (0, 230, .inl (fun _ => 0))), some (.inl (0, 3, .inl (fun _ => 0))), some (.inl (0, 8, .inl (fun _ => 0))), some (.inl (0, 8, .inl (fun _ => 0))), some (.inl (0, 8, .inl (fun _ => 0))), some (.inl (0, 8, .inl (fun _ => 0))), some (.inl (0, 40, .inl (fun _ => 0))), some (.inl (0, 1, .inl (fun _ => 0))), some (.inl (0, 1, .inl (fun _ => 0))), some (.inl (0, 860, .inl (fun _ => 0))), some (.inl (0, 43, .inl (fun _ => 0))), some (.inl (0, 5, .inl (fun _ => 0))), some (.inl (0, 8, .inl (fun _ => 0))), some (.inl (0, 8, .inl (fun _ => 0))), some (.inl (0, 6, .inl (fun _ => 0))), some (.inl (0, 6, .inl (fun _ => 0))), some (.inl (0, 15, .inl (fun _ => 0))), some (.inl (0, 15, .inl (fun _ => 0))), some (.inl (1, 15, .inl (fun _ => 0))), some (.inl (0, 88, .inl (fun _ => 0)))] := l28
  obtain ⟨Z29, e29, o29, l29, f29⟩ := cs_arr (k := 41) o28 l28 (m := 25) rfl han (Nat.le_of_ble_eq_true rfl) (.inl (1, 2, .inl (fun _ => 0)))
  have e29 : qpR (qnZ Z28 (n + 25) 2) 9 a 41 (n + 25) = some Z29 := e29
  simp only [List.set_cons_succ, List.set_cons_zero, Nat.add_zero] at o29
  have l29 : cAt Z29 n [some (.inl (0, 8, .inl (fun _ => 0))), some (.inl (0, 8, .inl (fun _ => 0))), some (.inl (0, 8, .inl (fun _ => 0))), some (.inl (0, 40, .inl (fun _ => 0))), some (.inl (0, 43, .inl (fun _ => 0))), some (.inl (0, 230, .inl (fun _ => 0))), some (.inl (0, 3, .inl (fun _ => 0))), some (.inl (0, 8, .inl (fun _ => 0))), some (.inl (0, 8, .inl (fun _ => 0))), some (.inl (0, 8, .inl (fun _ => 0))), some (.inl (0, 8, .inl (fun _ => 0))), some (.inl (0, 40, .inl (fun _ => 0))), some (.inl (0, 1, .inl (fun _ => 0))), some (.inl (0, 1, .inl (fun _ => 0))), some (.inl (0, 860, .inl (fun _ => 0))), some (.inl (0, 43, .inl (fun _ => 0))), some (.inl (0, 5, .inl (fun _ => 0))), some (.inl (0, 8, .inl (fun _ => 0))), some (.inl (0, 8, .inl (fun _ => 0))), some (.inl (0, 6, .inl (fun _ => 0))), some (.inl (0, 6, .inl (fun _ => 0))), some (.inl (0, 15, .inl (fun _ => 0))), some (.inl (0, 15, .inl (fun _ => 0))), some (.inl (1, 15, .inl (fun _ => 0))), some (.inl (0, 88, .inl (fun _ => 0))), some (.inl (1, 2, .inl (fun _ => 0)))] := l29
  obtain ⟨Z30, e30, o30, l30, f30⟩ := cs_int (k := 0) o29 l29 han (Nat.le_of_ble_eq_true rfl) (0)
  simp only [List.set_cons_succ, List.set_cons_zero, Nat.add_zero] at o30
  refine ⟨Z30, ?_, o30, l30, fun q h1 h2 => ?_⟩
  · unfold fX10_init
    exact q_step e1 (q_step e2 (q_step e3 (q_step e4 (q_step e5 (q_step e6 (q_step e7 (q_step e8 (q_step e9 (q_step e10 (q_step e11 (q_step e12 (q_step e13 (q_step e14 (q_step e15 (q_step e16 (q_step e17 (q_step e18 (q_step e19 (q_step e20 (q_step e21 (q_step e22 (q_step e23 (q_step e24 (q_step e25 (q_step e26 (q_step e27 (q_step e28 (q_step e29 (q_step e30 (rfl))))))))))))))))))))))))))))))
  · exact ((f30 q h1).trans ((f29 q h1 (by omega)).trans ((f28 q h1 (by omega)).trans ((f27 q h1 (by omega)).trans ((f26 q h1 (by omega)).trans ((f25 q h1 (by omega)).trans ((f24 q h1 (by omega)).trans ((f23 q h1 (by omega)).trans ((f22 q h1 (by omega)).trans ((f21 q h1 (by omega)).trans ((f20 q h1 (by omega)).trans ((f19 q h1 (by omega)).trans ((f18 q h1 (by omega)).trans ((f17 q h1 (by omega)).trans ((f16 q h1 (by omega)).trans ((f15 q h1 (by omega)).trans ((f14 q h1 (by omega)).trans ((f13 q h1 (by omega)).trans ((f12 q h1 (by omega)).trans ((f11 q h1 (by omega)).trans ((f10 q h1 (by omega)).trans ((f9 q h1).trans ((f8 q h1 (by omega)).trans ((f7 q h1 (by omega)).trans ((f6 q h1).trans ((f5 q h1).trans ((f4 q h1 (by omega)).trans ((f3 q h1 (by omega)).trans ((f2 q h1 (by omega)).trans ((f1 q h1 (by omega)).trans rfl))))))))))))))))))))))))))))))
