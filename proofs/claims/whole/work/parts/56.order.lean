/-! order: rows of houses as codes -/
theorem m1_all : ∀ j : Fin 32, (-1 : Int32).toBitVec.getLsbD j.val = true := by decide +kernel
theorem i_not_tb (x : Int32) (j : Nat) (hj : j < 32) : tb (x ^^^ (-1 : Int32)) j ↔ ¬ tb x j := by
  unfold tb
  rw [Int32.toBitVec_xor, BitVec.getLsbD_xor]
  have e : (-1 : Int32).toBitVec.getLsbD j = true := m1_all ⟨j, hj⟩
  rw [e]
  cases x.toBitVec.getLsbD j <;> decide
theorem off_tb {x : Int32} {h : Nat} (hh : h < 32) (j : Nat) : tb (x &&& (((1 : Int32) <<< (nI h &&& 31)) ^^^ (-1 : Int32))) j ↔ (tb x j ∧ j ≠ h) := by
  by_cases hj : j < 32
  · have e1 : tb (x &&& (((1 : Int32) <<< (nI h &&& 31)) ^^^ (-1 : Int32))) j ↔ (tb x j ∧ tb (((1 : Int32) <<< (nI h &&& 31)) ^^^ (-1 : Int32)) j) := by
      unfold tb
      rw [Int32.toBitVec_and, BitVec.getLsbD_and, Bool.and_eq_true]
    rw [e1, i_not_tb _ _ hj]
    have e2 : tb ((1 : Int32) <<< (nI h &&& 31)) j ↔ j = h := by
      have := tb_or (x := 0) hh j
      rw [i_0or] at this
      rw [this]
      exact ⟨fun q => q.elim (fun y => absurd y (tb0 j)) id, Or.inr⟩
    rw [e2]
  · have hno : ∀ y : Int32, ¬ tb y j := fun y => by
      unfold tb
      rw [BitVec.getLsbD_of_ge _ _ (by omega)]
      decide
    exact ⟨fun q => absurd q (hno _), fun q => absurd q.1 (hno _)⟩
def cnL (L : Int32) : Nat := akF (fun i => L.toBitVec.getLsbD i) 8
theorem b_nt {x : Bool} (h : ¬ x = true) : x = false := by cases x with | true => exact absurd rfl h | false => rfl
theorem cnL_0 {L : Int32} (hL : ∀ g : Nat, tb L g → g < 8) (h : cnL L = 0) : L = 0 := by
  have key : ∀ n : Nat, akF (fun i => L.toBitVec.getLsbD i) n = 0 → ∀ i : Nat, i < n → L.toBitVec.getLsbD i = false := by
    intro n
    induction n with
    | zero => intro _ i hi; omega
    | succ n ih =>
      intro e i hi
      rw [akF] at e
      by_cases z : i = n
      · subst z
        cases hx : L.toBitVec.getLsbD i with
        | false => rfl
        | true => rw [hx, if_pos rfl] at e; omega
      · exact ih (by omega) i (by omega)
  apply Int32.toBitVec_inj.mp
  apply BitVec.eq_of_getLsbD_eq
  intro i hi
  rw [show (0 : Int32).toBitVec.getLsbD i = false from BitVec.getLsbD_zero]
  by_cases z : i < 8
  · exact key 8 h i z
  · exact b_nt (fun y => z (hL i y))
theorem cnL_off {L : Int32} {h : Nat} (hh : h < 8) (hb : tb L h) : cnL L = cnL (L &&& (((1 : Int32) <<< (nI h &&& 31)) ^^^ (-1 : Int32))) + 1 := by
  unfold cnL
  rw [akF_set (P := fun i => (L &&& (((1 : Int32) <<< (nI h &&& 31)) ^^^ (-1 : Int32))).toBitVec.getLsbD i) (Q := fun i => L.toBitVec.getLsbD i) (i := h) (b_nt (fun y => ((off_tb (x := L) (show h < 32 by omega) h).mp y).2 rfl)) (fun k => ?_) 8, if_pos hh]
  have e := off_tb (x := L) (h := h) (by omega) k
  unfold tb at e
  cases hx : L.toBitVec.getLsbD k with
  | true =>
    by_cases z : k = h
    · rw [decide_eq_true z, Bool.or_true]
    · rw [e.mpr ⟨hx, z⟩, Bool.true_or]
  | false =>
    rw [b_nt (x := (L &&& (((1 : Int32) <<< (nI h &&& 31)) ^^^ (-1 : Int32))).toBitVec.getLsbD k) (fun y => by rw [(e.mp y).1] at hx; cases hx)]
    by_cases z : k = h
    · subst z; unfold tb at hb; rw [hb] at hx; cases hx
    · rw [decide_eq_false z]; rfl
/-- a code's figures: in the set, apart; and seen as they are lit -/
def V1 (ce : Nat → Nat) : Nat → Nat → Int32 → Nat → Nat → Bool
  | 0, _, _, _, _ => true
  | r + 1, p, L, pv, m => (L.toBitVec.getLsbD (m / 8 ^ r) && (decide (p = 0) || decide (ap (ce (m / 8 ^ r)) (ce pv) ≠ 1))) && V1 ce r (p + 1) (L &&& (((1 : Int32) <<< (nI (m / 8 ^ r) &&& 31)) ^^^ (-1 : Int32))) (m / 8 ^ r) (m % 8 ^ r)
def V2 (SE : (Nat → Int32) → (Nat → Int32) → Nat → Nat → Bool) (OV MI : Nat → Int32) : Nat → Nat → (Nat → Int32) → (Nat → Int32) → Nat → Bool
  | 0, _, _, _, _ => true
  | r + 1, p, sa, so, m => SE sa so p (m / 8 ^ r) && V2 SE OV MI r (p + 1) (upd sa (m / 8 ^ r) (MI p)) (upd so (m / 8 ^ r) (OV (m / 8 ^ r))) (m % 8 ^ r)
def VV (ce : Nat → Nat) (SE : (Nat → Int32) → (Nat → Int32) → Nat → Nat → Bool) (OV MI : Nat → Int32) (r p : Nat) (L : Int32) (pv : Nat) (sa so : Nat → Int32) (m : Nat) : Bool := V1 ce r p L pv m && V2 SE OV MI r p sa so m
def stB (ce : Nat → Nat) (SE : (Nat → Int32) → (Nat → Int32) → Nat → Nat → Bool) (p : Nat) (L : Int32) (pv : Nat) (sa so : Nat → Int32) (h : Nat) : Bool := (L.toBitVec.getLsbD h && (decide (p = 0) || decide (ap (ce h) (ce pv) ≠ 1))) && SE sa so p h
theorem VV_step {ce : Nat → Nat} {SE : (Nat → Int32) → (Nat → Int32) → Nat → Nat → Bool} {OV MI : Nat → Int32} {r p pv h t : Nat} {L : Int32} {sa so : Nat → Int32} (ht : t < 8 ^ r) : VV ce SE OV MI (r + 1) p L pv sa so (h * 8 ^ r + t) = (stB ce SE p L pv sa so h && VV ce SE OV MI r (p + 1) (L &&& (((1 : Int32) <<< (nI h &&& 31)) ^^^ (-1 : Int32))) h (upd sa h (MI p)) (upd so h (OV h)) t) := by
  have hp : 0 < 8 ^ r := Nat.pow_pos (by omega)
  have e1 : (h * 8 ^ r + t) / 8 ^ r = h := by rw [Nat.add_comm, Nat.add_mul_div_right _ _ hp, Nat.div_eq_of_lt ht]; omega
  have e2 : (h * 8 ^ r + t) % 8 ^ r = t := by rw [Nat.add_comm, Nat.add_mul_mod_self_right, Nat.mod_eq_of_lt ht]
  unfold VV stB
  rw [V1, V2, e1, e2]
  generalize (L.toBitVec.getLsbD h && (decide (p = 0) || decide (ap (ce h) (ce pv) ≠ 1))) = A
  generalize SE sa so p h = B
  generalize V1 ce r (p + 1) (L &&& (((1 : Int32) <<< (nI h &&& 31)) ^^^ (-1 : Int32))) h t = C
  generalize V2 SE OV MI r (p + 1) (upd sa h (MI p)) (upd so h (OV h)) t = D
  cases A <;> cases B <;> cases C <;> cases D <;> rfl
/-- who isn't seen wherever it stands: no row at all -/
theorem VV_ir {ce : Nat → Nat} {SE : (Nat → Int32) → (Nat → Int32) → Nat → Nat → Bool} {OV MI : Nat → Int32} {IR : Nat → Bool} (hSE : ∀ sa so p h, SE sa so p h = true → IR h = true) : ∀ r p : Nat, ∀ L : Int32, ∀ pv : Nat, ∀ sa so : Nat → Int32, ∀ m : Nat, (∀ g : Nat, tb L g → g < 8) → cnL L = r → m < 8 ^ r → VV ce SE OV MI r p L pv sa so m = true → ∀ g : Nat, tb L g → IR g = true := by
  intro r
  induction r with
  | zero =>
    intro p L pv sa so m hL hc hm hv g hg
    rw [cnL_0 hL hc] at hg
    exact absurd hg (tb0 g)
  | succ r ih =>
    intro p L pv sa so m hL hc hm hv g hg
    have hp : 0 < 8 ^ r := Nat.pow_pos (by omega)
    have e : m = (m / 8 ^ r) * 8 ^ r + m % 8 ^ r := by rw [Nat.mul_comm]; exact (Nat.div_add_mod m (8 ^ r)).symm
    have hlt : m % 8 ^ r < 8 ^ r := Nat.mod_lt _ hp
    rw [e, VV_step hlt, Bool.and_eq_true] at hv
    obtain ⟨v1, v2⟩ := hv
    unfold stB at v1
    rw [Bool.and_eq_true, Bool.and_eq_true] at v1
    have hb : tb L (m / 8 ^ r) := v1.1.1
    have h8 := hL _ hb
    by_cases z : g = m / 8 ^ r
    · rw [z]; exact hSE _ _ _ _ v1.2
    · exact ih (p + 1) _ (m / 8 ^ r) _ _ (m % 8 ^ r) (fun y hy => hL y ((off_tb (by omega) y).mp hy).1) (by have := cnL_off h8 hb; omega) hlt v2 g ((off_tb (by omega) g).mpr ⟨hg, z⟩)
theorem irF_st {ce : Nat → Nat} {R : Int32} {o h : Nat} : ∀ k : Nat, irF ce R o h k = stF (fun k => ¬ (k = h ∨ R < nI (ap o (ce k)))) k := by
  intro k
  induction k with
  | zero => rfl
  | succ k ih =>
    rw [irF, stF, ih]
    by_cases z : k = h ∨ R < nI (ap o (ce k))
    · rw [if_pos z, if_neg (fun y => y z)]
    · rw [if_neg z, if_pos z]
theorem irV_bits {F : Nat} {X : qH} {ce po : Nat → Nat} {w c wi h : Nat} {fo : Int32} (c8 : c ≤ 8) : fJ6_bitCount_0f7a4 F X (irV ce po w c wi fo h) = some (bcF (irV ce po w c wi fo h) 8) := by
  unfold irV
  rw [irF_st]
  exact (stF_bits (F := F) (X := X) _ c8).1
theorem bcF_0 : bcF 0 8 = 0 := by decide
/-- seen by two -/
def seB (ce po : Nat → Nat) (w c wi sm : Nat) (fo : Int32) (mi : Nat) (sa so : Nat → Int32) (p h : Nat) : Bool := decide (¬ bcF (vwV ce po w c wi sm fo sa so (nI (mi + p)) h) 8 < 2)
theorem seB_ir {ce po : Nat → Nat} {w c wi sm : Nat} {fo : Int32} {mi : Nat} {sa so : Nat → Int32} {p h : Nat} (hs : seB ce po w c wi sm fo mi sa so p h = true) : decide (¬ bcF (irV ce po w c wi fo h) 8 < 2) = true := by
  unfold seB at hs
  have hs := of_decide_eq_true hs
  unfold vwV at hs
  by_cases z : hdV ce w c wi sm sa so (nI (mi + p)) h = true
  · rw [if_pos z, bcF_0] at hs
    exact absurd (by decide) hs
  · rw [if_neg z] at hs
    exact decide_eq_true hs
theorem seB_hd {ce po : Nat → Nat} {w c wi sm : Nat} {fo : Int32} {mi : Nat} {sa so : Nat → Int32} {p h : Nat} (hir : decide (¬ bcF (irV ce po w c wi fo h) 8 < 2) = true) : seB ce po w c wi sm fo mi sa so p h = !hdV ce w c wi sm sa so (nI (mi + p)) h := by
  have hir := of_decide_eq_true hir
  unfold seB vwV
  cases hz : hdV ce w c wi sm sa so (nI (mi + p)) h with
  | true =>
    rw [if_pos rfl, bcF_0]
    decide
  | false =>
    rw [if_neg (by decide), decide_eq_true hir]
    rfl
theorem seB_congr {ce po : Nat → Nat} {w c wi sm : Nat} {fo : Int32} {mi : Nat} {sa so sa2 so2 : Nat → Int32} {p h : Nat} (e : ∀ g : Nat, g < c → sa2 g = sa g ∧ so2 g = so g) : seB ce po w c wi sm fo mi sa2 so2 p h = seB ce po w c wi sm fo mi sa so p h := by
  unfold seB
  rw [vwV_congr e]
