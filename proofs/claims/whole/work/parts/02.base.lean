/-! THE ABSTRACT HEAP: a partial map from addresses to cells; an array's first number is its KIND (0 int, 1 boolean, 2 Night), an object's the number of its class in vwCl -/
abbrev qH : Type := Nat → Option va_E
def qE (kz : Nat → Nat) (c : va_E) : va_E := match c with
  | .inl x => .inl (kz x.1, x.2)
  | .inr o => .inr o
def qA (b0 : Nat) : Nat → Prop := fun q => b0 ≤ q
def qR (D : va_G) (kz : Nat → Nat) (b0 : Nat) (X : qH) (H : Heap) : Prop := ∀ (a : Nat) (c : va_E), X a = some c → b0 ≤ a ∧ va_at D vwCl (a, qE kz c) H
abbrev qT (kz : Nat → Nat) : List (ClassId × FieldType) := [(kz 0, .int), (kz 1, .boolean), (kz 2, .object "FireworkDeeds$Night")]
/-- what isn't in wsL_law: private members of nest mates, arrays of Night -/
def qN (U : State) : Prop := va_Nw (.fieldLinkNest RX9 103 RX6 "faultAt" "I" RX9) U ∧ va_Nw (.methodLinkNest RX9 35 yX6_init RX9) U ∧ va_Nw (.methodLinkNest RX9 42 yX3_init RX9) U ∧ va_Nw (.methodLinkNest RX9 71 yX7_init RX9) U ∧ va_Nw (.methodLinkNest RX9 78 yX4_init RX9) U ∧ va_Nw (.methodLinkNest RX9 85 yX2_init RX9) U ∧ va_Nw (.methodLinkNest RX9 92 yX1_init RX9) U ∧ va_Nw (.methodLinkNest RX5 17 yX3_init RX9) U ∧ va_Nw (.methodLinkNest RX7 17 yX3_init RX9) U ∧ va_AO RX3 U
theorem qN.warm {s U : State} (hW : s.WarmedH U.vm) (h : qN s) : qN U := by
  obtain ⟨h1, h2, h3, h4, h5, h6, h7, h8, h9, h10⟩ := h
  exact ⟨h1.warmF hW, h2.warmM hW, h3.warmM hW, h4.warmM hW, h5.warmM hW, h6.warmM hW, h7.warmM hW, h8.warmM hW, h9.warmM hW, h10.moved hW.alike⟩
theorem qN.same {s U : State} (hW : s.vm = U.vm) (h : qN s) : qN U := by
  obtain ⟨h1, h2, h3, h4, h5, h6, h7, h8, h9, h10⟩ := h
  exact ⟨h1.same rfl hW, h2.same rfl hW, h3.same rfl hW, h4.same rfl hW, h5.same rfl hW, h6.same rfl hW, h7.same rfl hW, h8.same rfl hW, h9.same rfl hW, h10.moved (by rw [hW]; exact Vm.Alike.refl _)⟩
/-- what holds of the tables in a state -/
def qV (D : va_G) (kz : Nat → Nat) (U : State) : Prop := va_K D vwCl (qT kz) U ∧ qN U
theorem qV.warm {D : va_G} {kz : Nat → Nat} {s U : State} (hW : s.WarmedH U.vm) (h : qV D kz s) : qV D kz U := ⟨va_K.moved hW.alike h.1, h.2.warm hW⟩
def qU (D : va_G) (kz : Nat → Nat) (b0 sz : Nat) (X : qH) (U : State) : Prop := qR D kz b0 X U.heap ∧ qV D kz U ∧ U.heap.size = sz
/-- behind a method: the heap alone -/
def qO (D : va_G) (kz : Nat → Nat) (b0 sz : Nat) (X : qH) (U : State) : Prop := qR D kz b0 X U.heap ∧ U.heap.size = sz
/-! operations -/
def qgI (X : qH) (ci a k : Nat) : Option Int32 := match X a with
  | some (.inr (c, fs)) => if c = ci then (match fs[k]? with | some (.int v) => some v | _ => none) else none
  | _ => none
def qgR (X : qH) (ci a k : Nat) : Option Nat := match X a with
  | some (.inr (c, fs)) => if c = ci then (match fs[k]? with | some (.ref v) => some v | _ => none) else none
  | _ => none
def qp (X : qH) (ci a k : Nat) (v : Value) : Option qH := match X a with
  | some (.inr (c, fs)) => if c = ci ∧ k < fs.length then some (va_up X a (some (.inr (c, fs.set k v)))) else none
  | _ => none
def qpI (X : qH) (ci a k : Nat) (v : Int32) : Option qH := qp X ci a k (.int v)
def qpZ (X : qH) (ci a k : Nat) (v : Int32) : Option qH := if v = 0 ∨ v = 1 then qp X ci a k (.int v) else none
def qpR (X : qH) (ci a k : Nat) (v : Nat) : Option qH := qp X ci a k (.ref v)
def qaI (X : qH) (kd a : Nat) (i : Int32) : Option Int32 := match X a with
  | some (.inl (k, n, .inl f)) => if k = kd ∧ ¬ i < 0 ∧ i.toNatClampNeg < n then some (f i.toNatClampNeg) else none
  | _ => none
def qaS (X : qH) (kd a : Nat) (i x : Int32) : Option qH := match X a with
  | some (.inl (k, n, .inl f)) => if k = kd ∧ ¬ i < 0 ∧ i.toNatClampNeg < n then some (va_up X a (some (.inl (k, n, .inl (upd f i.toNatClampNeg x))))) else none
  | _ => none
def qaZ (X : qH) (a : Nat) (i x : Int32) : Option qH := if x = 0 ∨ x = 1 then qaS X 1 a i x else none
def qaR (X : qH) (a : Nat) (i : Int32) : Option Nat := match X a with
  | some (.inl (k, n, .inr (.inr (.inr (.inr f))))) => if k = 2 ∧ ¬ i < 0 ∧ i.toNatClampNeg < n then f i.toNatClampNeg else none
  | _ => none
def qaT (X : qH) (a : Nat) (i : Int32) (v : Nat) : Option qH := match X a, X v with
  | some (.inl (k, n, .inr (.inr (.inr (.inr f))))), some (.inr (c, _)) => if k = 2 ∧ c = 3 ∧ ¬ i < 0 ∧ i.toNatClampNeg < n then some (va_up X a (some (.inl (k, n, .inr (.inr (.inr (.inr (va_up f i.toNatClampNeg (some v))))))))) else none
  | _, _ => none
def qln (X : qH) (a : Nat) : Option Int32 := match X a with
  | some (.inl (k, n, .inl _)) => if k = 0 then some (Int32.ofNat n) else none
  | _ => none
def qIs {α : Type} (ci : Nat) (X : qH) (a : Nat) (x : Option α) : Option α := match X a with
  | some (.inr (c, _)) => if c = ci then x else none
  | _ => none
/-- a boolean answer is 0 or 1 -/
def qz (v : Int32) : Option Int32 := if v = 0 ∨ v = 1 then some v else none
/-- a name for a computed value -/
def qlt {α β : Type} (v : α) (k : α → β) : β := k v
/-- a division, where the divisor isn't 0 -/
def qnz {β : Type} (v : Int32) (k : Option β) : Option β := if v = 0 then none else k
def qnzL {β : Type} (v : Int64) (k : Option β) : Option β := if v = 0 then none else k
/-! eliminations -/
theorem q_b {α β : Type} {x : Option α} {k : α → Option β} {r : β} (h : x.bind k = some r) : ∃ v, x = some v ∧ k v = some r := Option.bind_eq_some_iff.mp h
theorem q_t {c : Prop} [Decidable c] {α : Type} {a b : Option α} {r : α} (h : (if c then a else b) = some r) (hc : c) : a = some r := by rwa [if_pos hc] at h
theorem q_f {c : Prop} [Decidable c] {α : Type} {a b : Option α} {r : α} (h : (if c then a else b) = some r) (hc : ¬ c) : b = some r := by rwa [if_neg hc] at h
theorem q_tn {c : Prop} [Decidable c] {α : Type} {a b : Option α} {r : α} (h : (if c then a else b) = some r) (hc : ¬ ¬ c) : a = some r := by rwa [if_pos (Decidable.not_not.mp hc)] at h
theorem qnz_spec {β : Type} {v : Int32} {k : Option β} {r : β} (h : qnz v k = some r) : ¬ v = 0 ∧ k = some r := by
  unfold qnz at h
  split at h
  · cases h
  · rename_i hv; exact ⟨hv, h⟩
theorem qnzL_spec {β : Type} {v : Int64} {k : Option β} {r : β} (h : qnzL v k = some r) : ¬ v = 0 ∧ k = some r := by
  unfold qnzL at h
  split at h
  · cases h
  · rename_i hv; exact ⟨hv, h⟩
theorem qz_spec {v r : Int32} (h : qz v = some r) : v = r ∧ (v = 0 ∨ v = 1) := by
  unfold qz at h
  split at h
  · rename_i hv; exact ⟨Option.some.inj h, hv⟩
  · cases h
theorem qIs_spec {α : Type} {ci : Nat} {X : qH} {a : Nat} {x : Option α} {r : α} (h : qIs ci X a x = some r) : (∃ fs, X a = some (.inr (ci, fs))) ∧ x = some r := by
  unfold qIs at h
  split at h
  · rename_i c fs hX
    split at h
    · rename_i hc; subst hc; exact ⟨⟨fs, hX⟩, h⟩
    · cases h
  · cases h
theorem qgI_spec {X : qH} {ci a k : Nat} {v : Int32} (h : qgI X ci a k = some v) : ∃ fs, X a = some (.inr (ci, fs)) ∧ fs[k]? = some (.int v) := by
  unfold qgI at h
  split at h
  · rename_i c fs hX
    split at h
    · rename_i hc; subst hc
      split at h
      · rename_i w hw; cases h; exact ⟨fs, hX, hw⟩
      · cases h
    · cases h
  · cases h
theorem qgR_spec {X : qH} {ci a k : Nat} {v : Nat} (h : qgR X ci a k = some v) : ∃ fs, X a = some (.inr (ci, fs)) ∧ fs[k]? = some (.ref v) := by
  unfold qgR at h
  split at h
  · rename_i c fs hX
    split at h
    · rename_i hc; subst hc
      split at h
      · rename_i w hw; cases h; exact ⟨fs, hX, hw⟩
      · cases h
    · cases h
  · cases h
theorem qp_spec {X X2 : qH} {ci a k : Nat} {v : Value} (h : qp X ci a k v = some X2) : ∃ fs, X a = some (.inr (ci, fs)) ∧ k < fs.length ∧ X2 = va_up X a (some (.inr (ci, fs.set k v))) := by
  unfold qp at h
  split at h
  · rename_i c fs hX
    split at h
    · rename_i hc; obtain ⟨rfl, hk⟩ := hc; cases h; exact ⟨fs, hX, hk, rfl⟩
    · cases h
  · cases h
theorem qpZ_spec {X X2 : qH} {ci a k : Nat} {v : Int32} (h : qpZ X ci a k v = some X2) : (v = 0 ∨ v = 1) ∧ qp X ci a k (.int v) = some X2 := by
  unfold qpZ at h
  split at h
  · rename_i hv; exact ⟨hv, h⟩
  · cases h
theorem q_vpin {i : Int32} {n : Nat} (h1 : ¬ i < 0) (h2 : i.toNatClampNeg < n) : vp_in i n := fun q => q.elim h1 (fun q => Nat.not_le.mpr h2 q)
theorem qaI_spec {X : qH} {kd a : Nat} {i v : Int32} (h : qaI X kd a i = some v) : ∃ n f, X a = some (.inl (kd, n, .inl f)) ∧ vp_in i n ∧ v = f i.toNatClampNeg := by
  unfold qaI at h
  split at h
  · rename_i k n f hX
    split at h
    · rename_i hc; obtain ⟨rfl, h1, h2⟩ := hc; cases h; exact ⟨n, f, hX, q_vpin h1 h2, rfl⟩
    · cases h
  · cases h
theorem qaS_spec {X X2 : qH} {kd a : Nat} {i x : Int32} (h : qaS X kd a i x = some X2) : ∃ n f, X a = some (.inl (kd, n, .inl f)) ∧ vp_in i n ∧ X2 = va_up X a (some (.inl (kd, n, .inl (upd f i.toNatClampNeg x)))) := by
  unfold qaS at h
  split at h
  · rename_i k n f hX
    split at h
    · rename_i hc; obtain ⟨rfl, h1, h2⟩ := hc; cases h; exact ⟨n, f, hX, q_vpin h1 h2, rfl⟩
    · cases h
  · cases h
theorem qaZ_spec {X X2 : qH} {a : Nat} {i x : Int32} (h : qaZ X a i x = some X2) : (x = 0 ∨ x = 1) ∧ qaS X 1 a i x = some X2 := by
  unfold qaZ at h
  split at h
  · rename_i hv; exact ⟨hv, h⟩
  · cases h
theorem qaR_spec {X : qH} {a : Nat} {i : Int32} {v : Nat} (h : qaR X a i = some v) : ∃ n f, X a = some (.inl (2, n, .inr (.inr (.inr (.inr f))))) ∧ vp_in i n ∧ f i.toNatClampNeg = some v := by
  unfold qaR at h
  split at h
  · rename_i k n f hX
    split at h
    · rename_i hc; obtain ⟨rfl, h1, h2⟩ := hc; exact ⟨n, f, hX, q_vpin h1 h2, h⟩
    · cases h
  · cases h
theorem qaT_spec {X X2 : qH} {a : Nat} {i : Int32} {v : Nat} (h : qaT X a i v = some X2) : ∃ n f fs, X a = some (.inl (2, n, .inr (.inr (.inr (.inr f))))) ∧ X v = some (.inr (3, fs)) ∧ vp_in i n ∧ X2 = va_up X a (some (.inl (2, n, .inr (.inr (.inr (.inr (va_up f i.toNatClampNeg (some v)))))))) := by
  unfold qaT at h
  split at h
  · rename_i k n f c fs hX hV
    split at h
    · rename_i hc; obtain ⟨rfl, rfl, h1, h2⟩ := hc; cases h; exact ⟨n, f, fs, hX, hV, q_vpin h1 h2, rfl⟩
    · cases h
  · cases h
theorem qln_spec {X : qH} {a : Nat} {v : Int32} (h : qln X a = some v) : ∃ n f, X a = some (.inl (0, n, .inl f)) ∧ Int32.ofNat n = v := by
  unfold qln at h
  split at h
  · rename_i k n f hX
    split at h
    · rename_i hc; subst hc; exact ⟨n, f, hX, Option.some.inj h⟩
    · cases h
  · cases h
theorem q_nar {v : Int32} (h : v = 0 ∨ v = 1) : narrow .boolean (.int v) = .int v := by rcases h with rfl | rfl <;> rfl
theorem q_vnar {v : Int32} (h : v = 0 ∨ v = 1) : vp_nar .boolean v = v := by rcases h with rfl | rfl <;> rfl
theorem q_fit {v : Int32} (h : v = 0 ∨ v = 1) : fits .boolean (.int v) = true := by rcases h with rfl | rfl <;> rfl
theorem qR.P {D : va_G} {kz : Nat → Nat} {b0 : Nat} {X : qH} {H : Heap} {a : Nat} {c : va_E} (h : qR D kz b0 X H) (ha : X a = some c) : va_P D vwCl [(a, qE kz c)] H := by
  intro k q hk
  have hz : k < 1 := (List.getElem?_eq_some_iff.mp hk).1
  rw [show k = 0 by omega] at hk
  cases hk
  exact (h a c ha).2
/-- one cell is written, the others stay -/
theorem qR.set {D : va_G} {kz : Nat → Nat} {b0 : Nat} {X : qH} {H H1 : Heap} {a : Nat} {c : va_E} (h : qR D kz b0 X H) (hb : b0 ≤ a) (hc : va_at D vwCl (a, qE kz c) H1) (oq : ∀ q : Nat, q ≠ a → H1[q]? = H[q]?) : qR D kz b0 (va_up X a (some c)) H1 := by
  intro x d hx
  by_cases he : x = a
  · subst he
    simp only [va_up, if_true] at hx
    cases hx
    exact ⟨hb, hc⟩
  · simp only [va_up, if_neg he] at hx
    exact ⟨(h x d hx).1, (h x d hx).2.kept (oq x he)⟩
theorem qR.kept {D : va_G} {kz : Nat → Nat} {b0 : Nat} {X : qH} {H H1 : Heap} (h : qR D kz b0 X H) (oq : ∀ q : Nat, q < H.size → H1[q]? = H[q]?) : qR D kz b0 X H1 :=
  fun x d hx => ⟨(h x d hx).1, (h x d hx).2.kept (oq x (h x d hx).2.lt)⟩
theorem qU.blind {D : va_G} {kz : Nat → Nat} {b0 sz : Nat} {X : qH} {av : List Value} : FrameBlind (va_Pc av (qU D kz b0 sz X)) := fun a U g mk q => by
  obtain ⟨q0, qr, ⟨qK, qn⟩, qz⟩ := q
  exact ⟨q0, qr, ⟨va_K.moved (u := U) (U := U.calling g mk a) (Vm.Alike.refl U.vm) qK, qn.same (U := U.calling g mk a) rfl⟩, qz⟩
theorem q_preS {D : va_G} {kz : Nat → Nat} {b0 sz : Nat} {X : qH} {s : State} {H : Heap} {As : List Value} (hR : qR D kz b0 X H) (hK : qV D kz s) (hz : H.size = sz) : PreS s H (va_Pc As (qU D kz b0 sz X)) As :=
  ⟨qU.blind, fun U hU hW => ⟨rfl, by rw [hU]; exact hR, hK.warm hW, by rw [hU]; exact hz⟩⟩
theorem q_preV {D : va_G} {kz : Nat → Nat} {b0 sz : Nat} {X : qH} {s : State} {H : Heap} {As : List Value} {ci b N : Nat} {T : u_T} {C : String} (hc : vwCl[ci]? = some (C, T, N)) (hX : ∃ fs, X b = some (.inr (ci, fs))) (hR : qR D kz b0 X H) (hK : qV D kz s) (hz : H.size = sz) : PreV s H C b (va_Pc (.ref b :: As) (qU D kz b0 sz X)) As :=
  ⟨qU.blind, (by obtain ⟨fs, hX⟩ := hX; exact va_recv hK.1 (hR.P hX) hc (q0 := 0) (ci := ci) (fs := fs) rfl), fun U hU hW => ⟨rfl, by rw [hU]; exact hR, hK.warm hW, by rw [hU]; exact hz⟩⟩
section QW
variable {p : Program} {l : Launch} {e : Env} {R : Room} {s : State} {m : MethodId} {args : Array Value} {below : List Frame} {meth : Method} {c : Code} {H : Heap} {locs : List Loc} {cells slots : Nat} {Q : State → Prop}
variable {cc : ByteArray} {pc : Nat} {ls : Array Slot} {rest st0 : List Value} {D : va_G} {kz : Nat → Nat} {b0 a sz : Nat} {X : qH} {H0 : Heap} {own : String} {T : u_T} {N ci index : Nat} {C : String} {Ts : List Cond} {ρ : Type} {res : ρ}
theorem q_gI (hx : p.tables.exec = Jvm.exec) (hb : c.code = cc) (hts : ∀ w ∈ Ts, w.before args s = true) (hown : s.vm.findClass own = some m.cls) (hK : qV D kz s) (hR : qR D kz b0 X H) (hin : ∀ w ∈ u_ws C T N, w ∈ Ts) (hc : vwCl[ci]? = some (C, T, N)) (k : Nat) (hk : k < N) (hlink : (Cond.fieldLink own index (T k).1 (T k).2.1 (T k).2.2.1).before args s = true) {K : Int32 → Option ρ} (hf : (qgI X ci a k).bind K = some res) (hdg : decode cc pc = .ok (.getfield index, 3))
    (kk : ∀ v : Int32, K v = some res → W p l e R s m args below meth c H locs cells slots Q (F0 m (pc + 3) ls (.int v :: rest))) : W p l e R s m args below meth c H locs cells slots Q (F0 m pc ls (.ref a :: rest)) := by
  obtain ⟨v, hv, hf⟩ := q_b hf
  obtain ⟨fs, hX, hv⟩ := qgI_spec hv
  exact va_get hx hb hts hin hown hK.1 (hR.P hX) 0 rfl hc k hk hlink (fun _ h => h) hv hdg (kk v hf)
theorem q_gR (hx : p.tables.exec = Jvm.exec) (hb : c.code = cc) (hts : ∀ w ∈ Ts, w.before args s = true) (hown : s.vm.findClass own = some m.cls) (hK : qV D kz s) (hR : qR D kz b0 X H) (hin : ∀ w ∈ u_ws C T N, w ∈ Ts) (hc : vwCl[ci]? = some (C, T, N)) (k : Nat) (hk : k < N) (hlink : (Cond.fieldLink own index (T k).1 (T k).2.1 (T k).2.2.1).before args s = true) {K : Nat → Option ρ} (hf : (qgR X ci a k).bind K = some res) (hdg : decode cc pc = .ok (.getfield index, 3))
    (kk : ∀ v : Nat, K v = some res → W p l e R s m args below meth c H locs cells slots Q (F0 m (pc + 3) ls (.ref v :: rest))) : W p l e R s m args below meth c H locs cells slots Q (F0 m pc ls (.ref a :: rest)) := by
  obtain ⟨v, hv, hf⟩ := q_b hf
  obtain ⟨fs, hX, hv⟩ := qgR_spec hv
  exact va_get hx hb hts hin hown hK.1 (hR.P hX) 0 rfl hc k hk hlink (fun _ h => h) hv hdg (kk v hf)
/-- a nest mate's private field -/
theorem q_gIN {host : String} (hx : p.tables.exec = Jvm.exec) (hb : c.code = cc) (hts : ∀ w ∈ Ts, w.before args s = true) (hown : s.vm.findClass own = some m.cls) (hK : qV D kz s) (hR : qR D kz b0 X H) (hin : ∀ w ∈ u_ws C T N, w ∈ Ts) (hc : vwCl[ci]? = some (C, T, N)) (k : Nat) (hk : k < N) (hlink : (Cond.fieldLinkNest own index (T k).1 (T k).2.1 (T k).2.2.1 host).before args s = true) {K : Int32 → Option ρ} (hf : (qgI X ci a k).bind K = some res) (hdg : decode cc pc = .ok (.getfield index, 3))
    (kk : ∀ v : Int32, K v = some res → W p l e R s m args below meth c H locs cells slots Q (F0 m (pc + 3) ls (.int v :: rest))) : W p l e R s m args below meth c H locs cells slots Q (F0 m pc ls (.ref a :: rest)) := by
  obtain ⟨v, hv, hf⟩ := q_b hf
  obtain ⟨fs, hX, hv⟩ := qgI_spec hv
  exact va_getN hx hb hts hin hown hK.1 (hR.P hX) 0 rfl hc k hk hlink (fun _ h => h) hv hdg (kk v hf)
theorem q_iald (hx : p.tables.exec = Jvm.exec) (hb : c.code = cc) (hK : qV D kz s) (hR : qR D kz b0 X H) {i : Int32} {K : Int32 → Option ρ} (hf : (qaI X 0 a i).bind K = some res) (hdg : decode cc pc = .ok (.iaload, 1))
    (kk : ∀ v : Int32, K v = some res → W p l e R s m args below meth c H locs cells slots Q (F0 m (pc + 1) ls (.int v :: rest))) : W p l e R s m args below meth c H locs cells slots Q (F0 m pc ls (.int i :: .ref a :: rest)) := by
  obtain ⟨v, hv, hf⟩ := q_b hf
  obtain ⟨n, f, hX, hin, rfl⟩ := qaI_spec hv
  exact va_iald hx hb hK.1 (hR.P hX) 0 0 rfl rfl hin hdg (kk _ hf)
theorem q_zald (hx : p.tables.exec = Jvm.exec) (hb : c.code = cc) (hK : qV D kz s) (hR : qR D kz b0 X H) {i : Int32} {K : Int32 → Option ρ} (hf : (qaI X 1 a i).bind K = some res) (hdg : decode cc pc = .ok (.baload, 1))
    (kk : ∀ v : Int32, K v = some res → W p l e R s m args below meth c H locs cells slots Q (F0 m (pc + 1) ls (.int v :: rest))) : W p l e R s m args below meth c H locs cells slots Q (F0 m pc ls (.int i :: .ref a :: rest)) := by
  obtain ⟨v, hv, hf⟩ := q_b hf
  obtain ⟨n, f, hX, hin, rfl⟩ := qaI_spec hv
  exact va_zald hx hb hK.1 (hR.P hX) 0 1 rfl rfl hin hdg (kk _ hf)
theorem q_aald (hx : p.tables.exec = Jvm.exec) (hb : c.code = cc) (hK : qV D kz s) (hR : qR D kz b0 X H) {i : Int32} {K : Nat → Option ρ} (hf : (qaR X a i).bind K = some res) (hdg : decode cc pc = .ok (.aaload, 1))
    (kk : ∀ v : Nat, K v = some res → W p l e R s m args below meth c H locs cells slots Q (F0 m (pc + 1) ls (.ref v :: rest))) : W p l e R s m args below meth c H locs cells slots Q (F0 m pc ls (.int i :: .ref a :: rest)) := by
  obtain ⟨v, hv, hf⟩ := q_b hf
  obtain ⟨n, f, hX, hin, hv⟩ := qaR_spec hv
  have := kk v hf
  exact va_aldq hx hb hK.1 (hR.P hX) 0 2 rfl rfl hin hdg (by rw [hv]; exact this)
theorem q_alen (hx : p.tables.exec = Jvm.exec) (hb : c.code = cc) (hK : qV D kz s) (hR : qR D kz b0 X H) {K : Int32 → Option ρ} (hf : (qln X a).bind K = some res) (hdg : decode cc pc = .ok (.arraylength, 1))
    (kk : ∀ v : Int32, K v = some res → W p l e R s m args below meth c H locs cells slots Q (F0 m (pc + 1) ls (.int v :: rest))) : W p l e R s m args below meth c H locs cells slots Q (F0 m pc ls (.ref a :: rest)) := by
  obtain ⟨v, hv, hf⟩ := q_b hf
  obtain ⟨n, f, hX, hv⟩ := qln_spec hv
  exact va_alen hx hb hK.1 (hR.P hX) 0 0 rfl rfl hv hdg (kk v hf)
end QW
