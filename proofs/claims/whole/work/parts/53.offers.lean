/-! partner: the asking as a pure process -/
def oI : Option Nat → Int32
  | none => -1
  | some g => nI g
def fu (f : Nat → Option Nat) (i : Nat) (v : Option Nat) : Nat → Option Nat := fun k => if k = i then v else f k
theorem fu_self (f : Nat → Option Nat) (i : Nat) (v : Option Nat) : fu f i v i = v := if_pos rfl
theorem fu_ne {f : Nat → Option Nat} {i k : Nat} (v : Option Nat) (h : k ≠ i) : fu f i v k = f k := if_neg h
def nrB (ce : Nat → Nat) (g h o : Nat) : Bool := decide (ap (ce g) (ce h) < ap (ce g) (ce o) ∨ (ap (ce g) (ce h) = ap (ce g) (ce o) ∧ h < o))
def askT (ce : Nat → Nat) (tk : Nat → Option Nat) (h g : Nat) : Nat → Option Nat :=
  match tk g with
  | none => fu (fu tk h (some g)) g (some h)
  | some o => if nrB ce g h o then fu (fu (fu tk o none) h (some g)) g (some h) else tk
def askR (ce : Nat → Nat) (tk : Nat → Option Nat) (rf : Nat → Int32) (h g : Nat) : Nat → Int32 :=
  match tk g with
  | none => rf
  | some o => if nrB ce g h o then upd rf o (rf o ||| ((1 : Int32) <<< (nI g &&& 31))) else upd rf h (rf h ||| ((1 : Int32) <<< (nI g &&& 31)))
def nbF (op : Nat → Bool) (dst : Nat → Nat) : Nat → Option Nat
  | 0 => none
  | k + 1 => if op (2 * k + 1) then (match nbF op dst k with
    | none => some (2 * k + 1)
    | some x => if dst (2 * k + 1) < dst x then some (2 * k + 1) else some x) else nbF op dst k
theorem nbF_in {op : Nat → Bool} {dst : Nat → Nat} : ∀ K g : Nat, nbF op dst K = some g → op g = true ∧ g < 2 * K ∧ g % 2 = 1 := by
  intro K
  induction K with
  | zero => intro g h; cases h
  | succ k ih =>
    intro g h
    unfold nbF at h
    by_cases z : op (2 * k + 1) = true
    · rw [if_pos z] at h
      cases hb : nbF op dst k with
      | none =>
        rw [hb] at h
        cases h
        exact ⟨z, by omega, by omega⟩
      | some x =>
        rw [hb] at h
        dsimp only at h
        split at h
        · cases h
          exact ⟨z, by omega, by omega⟩
        · cases h
          have := ih g hb
          exact ⟨this.1, by omega, this.2.2⟩
    · rw [if_neg z] at h
      have := ih g h
      exact ⟨this.1, by omega, this.2.2⟩
def opB (rk : Nat → Bool) (x : Int32) (g : Nat) : Bool := rk g && !(x.toBitVec.getLsbD g)
/-- consistent pairs; who is paired wasn't refused -/
def JP (c : Nat) (tk : Nat → Option Nat) (rf : Nat → Int32) : Prop := (∀ x y : Nat, tk x = some y → x < c ∧ y < c ∧ tk y = some x ∧ x % 2 ≠ y % 2) ∧ ∀ h g : Nat, h % 2 = 0 → tk h = some g → ¬ tb (rf h) g
def phF (tk : Nat → Option Nat) (rf : Nat → Int32) (k : Nat) : Nat := akF (fun i => (rf (2 * k)).toBitVec.getLsbD i) 8 + (if tk (2 * k) = none then 0 else 1)
def PH (tk : Nat → Option Nat) (rf : Nat → Int32) : Nat := S1 (phF tk rf) 4
theorem PH_le (tk : Nat → Option Nat) (rf : Nat → Int32) : PH tk rf ≤ 36 := by
  have h : ∀ k : Nat, phF tk rf k ≤ 9 := fun k => by
    unfold phF
    have := akF_le (fun i => (rf (2 * k)).toBitVec.getLsbD i) 8
    split <;> omega
  have h0 := h 0
  have h1 := h 1
  have h2 := h 2
  have h3 := h 3
  show S1 (phF tk rf) 0 + phF tk rf 0 + phF tk rf 1 + phF tk rf 2 + phF tk rf 3 ≤ 36
  rw [S1]
  omega
theorem S1_bump {f g : Nat → Nat} {k0 : Nat} (h0 : g k0 = f k0 + 1) (h : ∀ k : Nat, k ≠ k0 → g k = f k) : ∀ n : Nat, k0 < n → S1 g n = S1 f n + 1 := by
  intro n
  induction n with
  | zero => intro q; omega
  | succ n ih =>
    intro q
    rw [S1, S1]
    by_cases z : k0 = n
    · subst z
      rw [h0, S1_congr (g := g) (h := f) k0 (fun k hk => h k (by omega))]
      omega
    · rw [ih (by omega), h n (fun y => z y.symm)]
      omega
theorem ct8_set {x : Int32} {i : Nat} (h : i < 8) (hb : ¬ tb x i) : akF (fun k => (x ||| ((1 : Int32) <<< (nI i &&& 31))).toBitVec.getLsbD k) 8 = akF (fun k => x.toBitVec.getLsbD k) 8 + 1 := by
  have nt : ∀ {x : Bool}, ¬ x = true → x = false := fun {x} h => by cases x with | true => exact absurd rfl h | false => rfl
  rw [akF_set (P := fun k => x.toBitVec.getLsbD k) (i := i) (nt hb) (fun k => ?_) 8, if_pos h]
  have q := tb_or (x := x) (show i < 32 by omega) k
  unfold tb at q
  cases hx : x.toBitVec.getLsbD k with
  | true => exact q.mpr (Or.inl hx)
  | false =>
    by_cases z : k = i
    · rw [decide_eq_true z]; exact q.mpr (Or.inr z)
    · rw [decide_eq_false z]
      exact nt (fun y => (q.mp y).elim (fun w => by rw [w] at hx; cases hx) z)
theorem ask_J {c h g : Nat} {ce : Nat → Nat} {tk : Nat → Option Nat} {rf : Nat → Int32} (c8 : c ≤ 8) (hJ : JP c tk rf) (hh : h < c) (h2 : h % 2 = 0) (hg : g < c) (g2 : g % 2 = 1) (hn : tk h = none) (hb : ¬ tb (rf h) g) : JP c (askT ce tk h g) (askR ce tk rf h g) ∧ PH (askT ce tk h g) (askR ce tk rf h g) = PH tk rf + 1 := by
  have hgh : g ≠ h := by omega
  obtain ⟨j1, j2⟩ := hJ
  obtain ⟨k0, hk0⟩ : ∃ k, h = 2 * k := ⟨h / 2, by omega⟩
  unfold askT askR
  cases ho : tk g with
  | none =>
    dsimp only
    refine ⟨⟨fun x y e => ?_, fun x y x2 e => ?_⟩, ?_⟩
    · by_cases z1 : x = g
      · subst z1
        rw [fu_self] at e
        cases e
        exact ⟨hg, hh, by rw [fu_ne _ (Ne.symm hgh), fu_self], by omega⟩
      · rw [fu_ne _ z1] at e
        by_cases z2 : x = h
        · subst z2
          rw [fu_self] at e
          cases e
          exact ⟨hh, hg, by rw [fu_self], by omega⟩
        · rw [fu_ne _ z2] at e
          obtain ⟨a1, a2, a3, a4⟩ := j1 x y e
          have y1 : y ≠ g := fun q => by rw [q, ho] at a3; cases a3
          have y2 : y ≠ h := fun q => by rw [q, hn] at a3; cases a3
          exact ⟨a1, a2, by rw [fu_ne _ y1, fu_ne _ y2]; exact a3, a4⟩
    · have z1 : x ≠ g := fun q => by omega
      rw [fu_ne _ z1] at e
      by_cases z2 : x = h
      · subst z2
        rw [fu_self] at e
        cases e
        exact hb
      · rw [fu_ne _ z2] at e
        exact j2 x y x2 e
    · refine S1_bump (k0 := k0) ?_ (fun k hk => ?_) 4 (by omega)
      · unfold phF
        rw [← hk0, fu_ne _ (Ne.symm hgh), fu_self, hn]
        simp
      · unfold phF
        rw [fu_ne _ (by omega), fu_ne _ (by omega)]
  | some o =>
    dsimp only
    obtain ⟨o1, o2, o3, o4⟩ := j1 g o ho
    have oh : o ≠ h := fun q => by rw [q, hn] at o3; cases o3
    have og : o ≠ g := fun q => by omega
    have o5 := j2 o g (by omega) o3
    obtain ⟨k1, hk1⟩ : ∃ k, o = 2 * k := ⟨o / 2, by omega⟩
    by_cases zn : nrB ce g h o = true
    · rw [if_pos zn, if_pos zn]
      refine ⟨⟨fun x y e => ?_, fun x y x2 e => ?_⟩, ?_⟩
      · by_cases z1 : x = g
        · subst z1
          rw [fu_self] at e
          cases e
          exact ⟨hg, hh, by rw [fu_ne _ (Ne.symm hgh), fu_self], by omega⟩
        · rw [fu_ne _ z1] at e
          by_cases z2 : x = h
          · subst z2
            rw [fu_self] at e
            cases e
            exact ⟨hh, hg, by rw [fu_self], by omega⟩
          · rw [fu_ne _ z2] at e
            by_cases z3 : x = o
            · subst z3
              rw [fu_self] at e
              cases e
            · rw [fu_ne _ z3] at e
              obtain ⟨a1, a2, a3, a4⟩ := j1 x y e
              have y1 : y ≠ g := fun q => by rw [q, ho] at a3; cases a3; exact z3 rfl
              have y2 : y ≠ h := fun q => by rw [q, hn] at a3; cases a3
              have y3 : y ≠ o := fun q => by rw [q, o3] at a3; cases a3; exact z1 rfl
              exact ⟨a1, a2, by rw [fu_ne _ y1, fu_ne _ y2, fu_ne _ y3]; exact a3, a4⟩
      · have z1 : x ≠ g := fun q => by omega
        rw [fu_ne _ z1] at e
        by_cases z2 : x = h
        · subst z2
          rw [fu_self] at e
          cases e
          rw [upd_ne _ (Ne.symm oh)]
          exact hb
        · rw [fu_ne _ z2] at e
          by_cases z3 : x = o
          · subst z3
            rw [fu_self] at e
            cases e
          · rw [fu_ne _ z3] at e
            rw [upd_ne _ z3]
            exact j2 x y x2 e
      · refine S1_bump (k0 := k0) ?_ (fun k hk => ?_) 4 (by omega)
        · unfold phF
          rw [← hk0, fu_ne _ (Ne.symm hgh), fu_self, hn, upd_ne _ (Ne.symm oh)]
          simp
        · unfold phF
          by_cases z : k = k1
          · subst z
            rw [← hk1, fu_ne _ og, fu_ne _ oh, fu_self, o3, upd_self, ct8_set (by omega) o5]
            simp
          · rw [fu_ne _ (by omega), fu_ne _ (by omega), fu_ne _ (by omega), upd_ne _ (by omega)]
    · rw [if_neg zn, if_neg zn]
      refine ⟨⟨j1, fun x y x2 e => ?_⟩, ?_⟩
      · by_cases z2 : x = h
        · subst z2
          rw [hn] at e
          cases e
        · rw [upd_ne _ z2]
          exact j2 x y x2 e
      · refine S1_bump (k0 := k0) ?_ (fun k hk => ?_) 4 (by omega)
        · unfold phF
          rw [← hk0, upd_self, ct8_set (by omega) hb]
          omega
        · unfold phF
          rw [upd_ne _ (by omega)]
def stp (rk : Nat → Bool) (ce : Nat → Nat) (c : Nat) (s : Bool × (Nat → Option Nat) × (Nat → Int32)) (h : Nat) : Bool × (Nat → Option Nat) × (Nat → Int32) :=
  if rk h && (s.2.1 h).isNone then (match nbF (opB rk (s.2.2 h)) (fun g => ap (ce h) (ce g)) (c / 2) with
    | none => s
    | some g => (true, askT ce s.2.1 h g, askR ce s.2.1 s.2.2 h g)) else s
def rdT (rk : Nat → Bool) (ce : Nat → Nat) (c : Nat) (s0 : (Nat → Option Nat) × (Nat → Int32)) : Nat → Bool × (Nat → Option Nat) × (Nat → Int32)
  | 0 => (false, s0.1, s0.2)
  | k + 1 => stp rk ce c (rdT rk ce c s0 k) (2 * k)
def itT (rk : Nat → Bool) (ce : Nat → Nat) (c : Nat) : Nat → Bool × (Nat → Option Nat) × (Nat → Int32)
  | 0 => (true, fun _ => none, fun _ => 0)
  | n + 1 => if (itT rk ce c n).1 then rdT rk ce c (itT rk ce c n).2 ((c + 1) / 2) else itT rk ce c n
theorem rdT_J {rk : Nat → Bool} {ce : Nat → Nat} {c : Nat} {s0 : (Nat → Option Nat) × (Nat → Int32)} (c8 : c ≤ 8) (hJ : JP c s0.1 s0.2) : ∀ k : Nat, k ≤ (c + 1) / 2 → JP c (rdT rk ce c s0 k).2.1 (rdT rk ce c s0 k).2.2 ∧ PH s0.1 s0.2 ≤ PH (rdT rk ce c s0 k).2.1 (rdT rk ce c s0 k).2.2 ∧ ((rdT rk ce c s0 k).1 = true → PH s0.1 s0.2 + 1 ≤ PH (rdT rk ce c s0 k).2.1 (rdT rk ce c s0 k).2.2) := by
  intro k
  induction k with
  | zero => intro _; exact ⟨hJ, Nat.le_refl _, fun y => by cases y⟩
  | succ k ih =>
    intro hk
    obtain ⟨i1, i2, i3⟩ := ih (by omega)
    rw [rdT]
    generalize rdT rk ce c s0 k = s at *
    unfold stp
    by_cases z : (rk (2 * k) && (s.2.1 (2 * k)).isNone) = true
    · rw [if_pos z]
      rw [Bool.and_eq_true, Option.isNone_iff_eq_none] at z
      cases hb : nbF (opB rk (s.2.2 (2 * k))) (fun g => ap (ce (2 * k)) (ce g)) (c / 2) with
      | none => exact ⟨i1, i2, i3⟩
      | some g =>
        dsimp only
        obtain ⟨b1, b2, b3⟩ := nbF_in _ _ hb
        have hbit : ¬ tb (s.2.2 (2 * k)) g := fun y => by
          unfold opB at b1
          unfold tb at y
          rw [y] at b1
          simp at b1
        obtain ⟨a1, a2⟩ := ask_J (ce := ce) c8 i1 (show 2 * k < c by omega) (by omega) (show g < c by omega) b3 z.2 hbit
        exact ⟨a1, by omega, fun _ => by omega⟩
    · rw [if_neg z]
      exact ⟨i1, i2, i3⟩
theorem itT_J {rk : Nat → Bool} {ce : Nat → Nat} {c : Nat} (c8 : c ≤ 8) : ∀ n : Nat, JP c (itT rk ce c n).2.1 (itT rk ce c n).2.2 ∧ ((itT rk ce c n).1 = true → n ≤ PH (itT rk ce c n).2.1 (itT rk ce c n).2.2) := by
  intro n
  induction n with
  | zero => exact ⟨⟨fun x y e => (by cases e), fun x y _ e => (by cases e)⟩, fun _ => Nat.zero_le _⟩
  | succ n ih =>
    rw [itT]
    by_cases z : (itT rk ce c n).1 = true
    · rw [if_pos z]
      obtain ⟨r1, r2, r3⟩ := rdT_J (rk := rk) (ce := ce) c8 ih.1 ((c + 1) / 2) (Nat.le_refl _)
      have := ih.2 z
      exact ⟨r1, fun y => by have := r3 y; omega⟩
    · rw [if_neg z]
      exact ⟨ih.1, fun y => absurd y z⟩
theorem itT_37 {rk : Nat → Bool} {ce : Nat → Nat} {c : Nat} (c8 : c ≤ 8) : (itT rk ce c 37).1 = false := by
  cases h : (itT rk ce c 37).1 with
  | false => rfl
  | true =>
    have h1 := (itT_J (rk := rk) (ce := ce) c8 37).2 h
    have h2 := PH_le (itT rk ce c 37).2.1 (itT rk ce c 37).2.2
    omega
theorem itT_stay {rk : Nat → Bool} {ce : Nat → Nat} {c n : Nat} (h : (itT rk ce c n).1 = false) : ∀ k : Nat, itT rk ce c (n + k) = itT rk ce c n := by
  intro k
  induction k with
  | zero => rfl
  | succ k ih =>
    rw [show n + (k + 1) = (n + k) + 1 from rfl, itT, ih, h, if_neg (by decide)]
