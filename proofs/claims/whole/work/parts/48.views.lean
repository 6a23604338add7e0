/-! light: what is seen, as numbers; contracts as bits -/
theorem tb_or {x : Int32} {i : Nat} (h : i < 32) (j : Nat) : tb (x ||| ((1 : Int32) <<< (nI i &&& 31))) j ↔ (tb x j ∨ j = i) := by
  have es : ((nI i &&& 31).toBitVec.smod 32).toNat = i := sm_ix ⟨i, h⟩
  unfold tb
  rw [Int32.toBitVec_or]
  show (x.toBitVec ||| (1#32 <<< ((nI i &&& 31).toBitVec.smod 32).toNat)).getLsbD j = true ↔ _
  rw [es, BitVec.getLsbD_or, BitVec.getLsbD_shiftLeft, BitVec.getLsbD_one, Bool.or_eq_true]
  constructor
  · rintro (q | q)
    · exact Or.inl q
    · simp at q
      exact Or.inr (by omega)
  · rintro (q | rfl)
    · exact Or.inl q
    · right
      simp [h]
theorem i_or_bit {x : Int32} {i : Nat} (h : i < 32) (hb : tb x i) : x ||| ((1 : Int32) <<< (nI i &&& 31)) = x := by
  apply Int32.toBitVec_inj.mp
  apply BitVec.eq_of_getLsbD_eq
  intro j hj
  have k := tb_or (x := x) h j
  unfold tb at k hb
  cases hx : x.toBitVec.getLsbD j with
  | true => exact k.mpr (Or.inl hx)
  | false =>
    cases hy : (x ||| ((1 : Int32) <<< (nI i &&& 31))).toBitVec.getLsbD j with
    | false => rfl
    | true =>
      rcases k.mp hy with z | z
      · rw [z] at hx; cases hx
      · rw [z, hb] at hx; cases hx
theorem akF_set {P Q : Nat → Bool} {i : Nat} (hi : P i = false) (hq : ∀ k : Nat, Q k = (P k || decide (k = i))) : ∀ n : Nat, akF Q n = akF P n + if i < n then 1 else 0 := by
  intro n
  induction n with
  | zero => rfl
  | succ n ih =>
    rw [akF, akF, ih, hq n]
    by_cases z : n = i
    · subst z
      rw [hi, if_neg (Nat.lt_irrefl n), if_pos (Nat.lt_succ_self n)]
      simp
    · rw [decide_eq_false z, Bool.or_false]
      by_cases z2 : i < n
      · rw [if_pos z2, if_pos (show i < n + 1 by omega)]; omega
      · rw [if_neg z2, if_neg (show ¬ i < n + 1 by omega)]; omega
theorem ct_set {x : Int32} {i : Nat} (h : i < 32) (hb : ¬ tb x i) : akF (fun k => (x ||| ((1 : Int32) <<< (nI i &&& 31))).toBitVec.getLsbD k) 32 = akF (fun k => x.toBitVec.getLsbD k) 32 + 1 := by
  have nt : ∀ {x : Bool}, ¬ x = true → x = false := fun {x} h => by cases x with | true => exact absurd rfl h | false => rfl
  rw [akF_set (P := fun k => x.toBitVec.getLsbD k) (i := i) (nt hb) (fun k => ?_) 32, if_pos h]
  have q := tb_or (x := x) h k
  unfold tb at q
  cases hx : x.toBitVec.getLsbD k with
  | true => exact q.mpr (Or.inl hx)
  | false =>
    by_cases z : k = i
    · rw [decide_eq_true z]; exact q.mpr (Or.inr z)
    · rw [decide_eq_false z]
      exact nt (fun y => (q.mp y).elim (fun w => by rw [w] at hx; cases hx) z)
theorem pIx_inj : ∀ p q r s : Fin 8, p.val < q.val → r.val < s.val → pIx p.val q.val = pIx r.val s.val → p.val = r.val ∧ q.val = s.val := by decide +kernel
def gset (g : Nat → Int32) (p q : Nat) : Nat → Int32 := upd (upd g p (g p ||| ((1 : Int32) <<< (nI q &&& 31)))) q (g q ||| ((1 : Int32) <<< (nI p &&& 31)))
theorem gset_tb {g : Nat → Int32} {p q : Nat} (hp : p < 8) (hq : q < 8) (hpq : p ≠ q) (r s : Nat) : tb (gset g p q r) s ↔ (tb (g r) s ∨ (r = p ∧ s = q) ∨ (r = q ∧ s = p)) := by
  unfold gset
  by_cases z1 : r = q
  · subst z1
    rw [upd_self, tb_or (by omega)]
    constructor
    · rintro (y | y)
      · exact Or.inl y
      · exact Or.inr (Or.inr ⟨rfl, y⟩)
    · rintro (y | ⟨y, -⟩ | ⟨-, y⟩)
      · exact Or.inl y
      · exact absurd y.symm hpq
      · exact Or.inr y
  · rw [upd_ne _ z1]
    by_cases z2 : r = p
    · subst z2
      rw [upd_self, tb_or (by omega)]
      constructor
      · rintro (y | y)
        · exact Or.inl y
        · exact Or.inr (Or.inl ⟨rfl, y⟩)
      · rintro (y | ⟨-, y⟩ | ⟨y, -⟩)
        · exact Or.inl y
        · exact Or.inr y
        · exact absurd y z1
    · rw [upd_ne _ z2]
      constructor
      · exact Or.inl
      · rintro (y | ⟨y, -⟩ | ⟨y, -⟩)
        · exact y
        · exact absurd y z2
        · exact absurd y z1
theorem HR.set {ho : Int32} {g : Nat → Int32} {c p q : Nat} (hr : HR ho g c) (c8 : c ≤ 8) (hp : p < c) (hq : q < c) (hpq : p ≠ q) : HR (ho ||| ((1 : Int32) <<< (nI (pIy p q) &&& 31))) (gset g p q) c := by
  have h28 := (pb_all ⟨p, by omega⟩ ⟨q, by omega⟩ hpq).2
  dsimp only at h28
  refine ⟨fun r s hrs hs => ⟨?_, ?_⟩, fun i hi => ?_, fun r s hr8 hs => ?_⟩
  · rw [tb_or (by omega), gset_tb (by omega) (by omega) hpq, (hr.1 r s hrs hs).1]
    have e : pIx r s = pIy p q ↔ ((r = p ∧ s = q) ∨ (r = q ∧ s = p)) := by
      unfold pIy
      by_cases z : p < q
      · rw [if_pos z]
        constructor
        · intro y
          have := pIx_inj ⟨r, by omega⟩ ⟨s, hs⟩ ⟨p, by omega⟩ ⟨q, by omega⟩ hrs z y
          exact Or.inl this
        · rintro (⟨rfl, rfl⟩ | ⟨rfl, rfl⟩)
          · rfl
          · omega
      · rw [if_neg z]
        constructor
        · intro y
          have := pIx_inj ⟨r, by omega⟩ ⟨s, hs⟩ ⟨q, by omega⟩ ⟨p, by omega⟩ hrs (by show q < p; omega) y
          exact Or.inr this
        · rintro (⟨rfl, rfl⟩ | ⟨rfl, rfl⟩)
          · omega
          · rfl
    rw [e]
  · rw [gset_tb (by omega) (by omega) hpq, gset_tb (by omega) (by omega) hpq, (hr.1 r s hrs hs).2]
    constructor
    · rintro (y | ⟨y1, y2⟩ | ⟨y1, y2⟩)
      · exact Or.inl y
      · exact Or.inr (Or.inr ⟨y2, y1⟩)
      · exact Or.inr (Or.inl ⟨y2, y1⟩)
    · rintro (y | ⟨y1, y2⟩ | ⟨y1, y2⟩)
      · exact Or.inl y
      · exact Or.inr (Or.inr ⟨y2, y1⟩)
      · exact Or.inr (Or.inl ⟨y2, y1⟩)
  · rw [tb_or (by omega)]
    rintro (y | y)
    · exact hr.2.1 i hi y
    · omega
  · rw [gset_tb (by omega) (by omega) hpq]
    rintro (y | ⟨-, y⟩ | ⟨-, y⟩)
    · exact hr.2.2 r s hr8 hs y
    · omega
    · omega
/-- the bay, as the class and as the model hold it -/
def BC (X : qH) (b w c sm : Nat) (ce po : Nat → Nat) : Prop := gi X b 0 = nI w ∧ gi X b 5 = nI c ∧ gi X b 3 = nI sm ∧ ∀ g : Nat, g < c → ga X (b + 1) g = nI (ce g) ∧ ga X (b + 2) g = nI (po g)
def BM (X : qH) (m w c sm : Nat) (ce po : Nat → Nat) : Prop := gi X m 0 = nI w ∧ gi X m 1 = nI c ∧ gi X m 6 = nI sm ∧ ∀ g : Nat, g < c → ga X (m + 1) g = nI (ce g) ∧ ga X (m + 2) g = nI (po g)
def BP (w c sm : Nat) (ce po : Nat → Nat) : Prop := w ≤ 30 ∧ c ≤ 8 ∧ sm ≤ 9 ∧ (w = 0 → c = 0) ∧ (∀ g : Nat, g < c → ce g < w ∧ 1 ≤ po g ∧ po g ≤ 9) ∧ (∀ h g : Nat, h < c → g < c → ce h = ce g → h = g)
theorem BC.c {X X2 : qH} {b w c sm : Nat} {ce po : Nat → Nat} (h : BC X b w c sm ce po) (e : ∀ q : Nat, b ≤ q → q < b + 3 → X2 q = X q) : BC X2 b w c sm ce po := by
  obtain ⟨h1, h2, h3, h4⟩ := h
  have e0 : ∀ k, gi X2 b k = gi X b k := fun k => gi_congr (e b (by omega) (by omega)) k
  refine ⟨by rw [e0]; exact h1, by rw [e0]; exact h2, by rw [e0]; exact h3, fun g hg => ?_⟩
  rw [ga_congr (e (b + 1) (by omega) (by omega)), ga_congr (e (b + 2) (by omega) (by omega))]
  exact h4 g hg
theorem BM.c {X X2 : qH} {m w c sm : Nat} {ce po : Nat → Nat} (h : BM X m w c sm ce po) (e0 : ∀ k : Nat, k = 0 ∨ k = 1 ∨ k = 6 → gi X2 m k = gi X m k) (e1 : X2 (m + 1) = X (m + 1)) (e2 : X2 (m + 2) = X (m + 2)) : BM X2 m w c sm ce po := by
  obtain ⟨h1, h2, h3, h4⟩ := h
  refine ⟨by rw [e0 0 (by omega)]; exact h1, by rw [e0 1 (by omega)]; exact h2, by rw [e0 6 (by omega)]; exact h3, fun g hg => ?_⟩
  rw [ga_congr e1, ga_congr e2]
  exact h4 g hg
theorem IBc.view {X : qH} {sz b w c : Nat} {ce po nn : Nat → Nat} {dd : Nat → Nat → Nat} (h : IBc X sz b w c ce po nn dd) : ∃ sm : Nat, BC X b w c sm ce po ∧ BM X (sz + 151) w c sm ce po ∧ BP w c sm ce po := by
  obtain ⟨-, ⟨bw, mw, hw30⟩, ⟨bc, mc, c8, hw0⟩, ⟨sm, hsm, bs, ms⟩, -, hs, hinj, -⟩ := h
  exact ⟨sm, ⟨bw, bc, bs, fun g hg => ⟨(hs g hg).1.1, (hs g hg).2.1.1⟩⟩, ⟨mw, mc, ms, fun g hg => ⟨(hs g hg).1.2.1, (hs g hg).2.1.2.1⟩⟩, ⟨hw30, c8, hsm, hw0, fun g hg => ⟨(hs g hg).1.2.2, (hs g hg).2.1.2.2.1, (hs g hg).2.1.2.2.2⟩, hinj⟩⟩
/-- what is seen of h's rocket -/
def hdV (ce : Nat → Nat) (w c wi sm : Nat) (sa so : Nat → Int32) (mi : Int32) (h : Nat) : Bool := hdF (hdP sa so mi (nI sm) (ov ce w wi h) h) c
def irV (ce po : Nat → Nat) (w c wi : Nat) (fo : Int32) (h : Nat) : Int32 := irF ce (nI (po h) + 3 - fo / 2) (ov ce w wi h) h c
def vwV (ce po : Nat → Nat) (w c wi sm : Nat) (fo : Int32) (sa so : Nat → Int32) (mi : Int32) (h : Nat) : Int32 := if hdV ce w c wi sm sa so mi h = true then 0 else irV ce po w c wi fo h
theorem hdV_congr {ce : Nat → Nat} {w c wi sm : Nat} {sa so sa2 so2 : Nat → Int32} {mi : Int32} {h : Nat} (e : ∀ g : Nat, g < c → sa2 g = sa g ∧ so2 g = so g) : hdV ce w c wi sm sa2 so2 mi h = hdV ce w c wi sm sa so mi h := hdF_congr c (fun g hg => by
  unfold hdP
  rw [(e g hg).1, (e g hg).2])
theorem vwV_congr {ce po : Nat → Nat} {w c wi sm : Nat} {fo : Int32} {sa so sa2 so2 : Nat → Int32} {mi : Int32} {h : Nat} (e : ∀ g : Nat, g < c → sa2 g = sa g ∧ so2 g = so g) : vwV ce po w c wi sm fo sa2 so2 mi h = vwV ce po w c wi sm fo sa so mi h := by
  unfold vwV
  rw [hdV_congr e]
theorem viewers_val {F : Nat} {X Y : qH} {a b w c sm wi h : Nat} {ce po : Nat → Nat} (hX : shX X = Y) (wN : YN Y a) (wB : YB Y b) (hB : BC X b w c sm ce po) (hP : BP w c sm ce po) (hwi : gi X a 2 = nI wi - 5 ∧ wi ≤ 10) (hh : h < c) (hF : 10 ≤ F) :
    fX3_cellOver F X a b (nI h) = some (nI (ov ce w wi h)) ∧ ov ce w wi h < 30 ∧ fX3_hidden F X a b (nI h) = some (if hdV ce w c wi sm (ga X (a + 2)) (ga X (a + 3)) (gi X a 0) h = true then 1 else 0) ∧ fX3_inReach F X a b (nI h) = some (irV ce po w c wi (gi X a 1) h) ∧ fX3_viewers F X a b (nI h) = some (vwV ce po w c wi sm (gi X a 1) (ga X (a + 2)) (ga X (a + 3)) (gi X a 0) h) := by
  obtain ⟨bw, bc, bs, hs⟩ := hB
  obtain ⟨hw30, c8, hsm, hw0, hp, -⟩ := hP
  have hw1 : 1 ≤ w := by
    rcases Nat.eq_zero_or_pos w with q | q
    · have := hw0 q; omega
    · exact q
  have l8 : h < 8 := by omega
  have cb : ∀ g : Nat, g < c → ga X (b + 1) g = nI (ce g) ∧ ce g < 30 := fun g hg => ⟨(hs g hg).1, by have := (hp g hg).1; omega⟩
  have ov1 := cellOver_ok (F := F) (wi := wi) hX wN wB l8 ⟨hw1, hw30, bw⟩ (cb h hh) hwi
  have ho : ov ce w wi h < 30 := by have := ov_lt (ce := ce) (wi := wi) (h := h) hw1; omega
  have r1 := reach_c (F := F) hX wN wB l8
  rw [(hs h hh).2] at r1
  have i1 := inReach_L (F := F) (R := nI (po h) + 3 - gi X a 1 / 2) hX wB bc c8 cb l8 ho F 0 (by omega) (by omega)
  rw [show irF ce (nI (po h) + 3 - gi X a 1 / 2) (ov ce w wi h) h 0 = 0 from rfl, show nI 0 = (0 : Int32) from rfl] at i1
  have d1 := hidden_ok (F := F) hX wN wB bc bs c8 l8 ov1 hF
  have i3 : fX3_inReach F X a b (nI h) = some (irV ce po w c wi (gi X a 1) h) := by
    simp only [fX3_inReach, gN wN, hX, ov1, r1, i1, Option.bind_some]
    rfl
  refine ⟨ov1, ho, d1, i3, ?_⟩
  simp only [fX3_viewers, gN wN, hX, d1, i3, Option.bind_some]
  unfold vwV hdV
  cases hdF (hdP (ga X (a + 2)) (ga X (a + 3)) (gi X a 0) (nI sm) (ov ce w wi h) h) c <;> rfl
theorem seers_val {F : Nat} {X Y : qH} {m w c sm wi h : Nat} {ce po : Nat → Nat} (hX : shX X = Y) (wM : YM Y m) (hB : BM X m w c sm ce po) (hP : BP w c sm ce po) (hwi : ga X (m + 5) 1 = nI wi - 5 ∧ wi ≤ 10) (hsa : ∀ g : Nat, g < c → ga X (m + 5) (11 + g) = -1 ∨ ¬ ga X (m + 5) (11 + g) < 0) (hh : h < c) (hF : 10 ≤ F) :
    fX10_overOf F X m (nI h) = some (nI (ov ce w wi h)) ∧ fX10_seers F X m (nI h) = some (vwV ce po w c wi sm (ga X (m + 5) 0) (fun k => ga X (m + 5) (11 + k)) (fun k => ga X (m + 5) (19 + k)) (ga X (m + 5) 2) h) := by
  obtain ⟨bw, bc, bs, hs⟩ := hB
  obtain ⟨hw30, c8, hsm, hw0, hp, -⟩ := hP
  have hw1 : 1 ≤ w := by
    rcases Nat.eq_zero_or_pos w with q | q
    · have := hw0 q; omega
    · exact q
  have l8 : h < 8 := by omega
  have cb : ∀ g : Nat, g < c → ga X (m + 1) g = nI (ce g) ∧ ce g < 30 := fun g hg => ⟨(hs g hg).1, by have := (hp g hg).1; omega⟩
  have ov2 := overOf_ok (F := F) (wi := wi) hX wM l8 ⟨hw1, hw30, bw⟩ (cb h hh) hwi
  have ho : ov ce w wi h < 30 := by have := ov_lt (ce := ce) (wi := wi) (h := h) hw1; omega
  have r2 := reach_m (F := F) hX wM l8
  rw [(hs h hh).2] at r2
  have i2 := seers_L (F := F) hX wM bc c8 cb l8 ho r2 F 0 (by omega) (by omega)
  rw [show irF ce (nI (po h) + 3 - ga X (m + 5) 0 / 2) (ov ce w wi h) h 0 = 0 from rfl, show nI 0 = (0 : Int32) from rfl] at i2
  have d2 := isHidden_ok (F := F) (o := ov ce w wi h) hX wM bc bs c8 l8 hsa hF
  refine ⟨ov2, ?_⟩
  simp only [fX10_seers, gM wM, hX, ov2, i2, d2, Option.bind_some]
  unfold vwV hdV irV
  cases hdF (hdP (fun k => ga X (m + 5) (11 + k)) (fun k => ga X (m + 5) (19 + k)) (ga X (m + 5) 2) (nI sm) (ov ce w wi h) h) c <;> rfl
/-- a rocket of h is lit: the class's Night at a -/
theorem sign_ok {F : Nat} {X Y : qH} {a b w c sm wi h : Nat} {ce po : Nat → Nat} (hX : shX X = Y) (wN : YN Y a) (wB : YB Y b) (hab : a + 5 ≤ b ∨ b + 5 ≤ a) (hB : BC X b w c sm ce po) (hP : BP w c sm ce po) (hwi : gi X a 2 = nI wi - 5 ∧ wi ≤ 10) (hh : h < c) (hF : 10 ≤ F) :
    ∃ X2, fX3_sign F X a b (nI h) = some X2 ∧ shX X2 = Y ∧ (∀ q : Nat, q ≠ a + 2 → q ≠ a + 3 → q ≠ a + 4 → X2 q = X q) ∧ ga X2 (a + 2) = upd (ga X (a + 2)) h (gi X a 0) ∧ ga X2 (a + 3) = upd (ga X (a + 3)) h (nI (ov ce w wi h)) ∧ ga X2 (a + 4) = upd (ga X (a + 4)) h (vwV ce po w c wi sm (gi X a 1) (ga X (a + 2)) (ga X (a + 3)) (gi X a 0) h) := by
  have l8 : h < 8 := by have := hP.2.1; omega
  obtain ⟨v1, v2, v3, v4, v5⟩ := viewers_val (F := F) hX wN wB hB hP hwi hh hF
  generalize vwV ce po w c wi sm (gi X a 1) (ga X (a + 2)) (ga X (a + 3)) (gi X a 0) h = V at v5 ⊢
  have hX3 : shX (pA X (a + 4) h V) = Y := by simp only [kN wN, hX]
  have hX6 : shX (pA (pA X (a + 4) h V) (a + 2) h (gi X a 0)) = Y := by simp only [kN wN, hX3]
  have hX9 : shX (pA (pA (pA X (a + 4) h V) (a + 2) h (gi X a 0)) (a + 3) h (nI (ov ce w wi h))) = Y := by simp only [kN wN, hX6]
  have hB6 : BC (pA (pA X (a + 4) h V) (a + 2) h (gi X a 0)) b w c sm ce po := hB.c (fun q z1 z2 => (pA_ne (by omega)).trans (pA_ne (by omega)))
  have w6 := (viewers_val (F := F) hX6 wN wB hB6 hP ⟨by rw [gi_pA, gi_pA]; exact hwi.1, hwi.2⟩ hh hF).1
  refine ⟨_, ?_, hX9, fun q z2 z3 z4 => (pA_ne z3).trans ((pA_ne z2).trans (pA_ne z4)), ?_, ?_, ?_⟩
  · simp (maxDischargeDepth := 30) only [fX3_sign, gN wN, sN wN, hX, hX3, hX6, v5, l8, Option.bind_some, gi_pA, w6]
  · rw [ga_pA_ne (by omega), ga_pA_self hX3 wN.2.2.1, ga_pA_ne (by omega)]
  · rw [ga_pA_self hX6 wN.2.2.2.1, ga_pA_ne (by omega), ga_pA_ne (by omega)]
  · rw [ga_pA_ne (by omega), ga_pA_ne (by omega), ga_pA_self hX wN.2.2.2.2]
theorem lightNow_ok {F : Nat} {X Y : qH} {m w c sm wi h : Nat} {ce po : Nat → Nat} (hX : shX X = Y) (wM : YM Y m) (hB : BM X m w c sm ce po) (hP : BP w c sm ce po) (hwi : ga X (m + 5) 1 = nI wi - 5 ∧ wi ≤ 10) (hsa : ∀ g : Nat, g < c → ga X (m + 5) (11 + g) = -1 ∨ ¬ ga X (m + 5) (11 + g) < 0) (hh : h < c) (hF : 10 ≤ F) :
    ∃ X2, fX10_lightNow F X m (nI h) = some X2 ∧ shX X2 = Y ∧ (∀ q : Nat, q ≠ m + 5 → X2 q = X q) ∧ ga X2 (m + 5) = upd (upd (upd (ga X (m + 5)) (19 + h) (nI (ov ce w wi h))) (11 + h) (ga X (m + 5) 2)) (27 + h) (vwV ce po w c wi sm (ga X (m + 5) 0) (fun k => ga X (m + 5) (11 + k)) (fun k => ga X (m + 5) (19 + k)) (ga X (m + 5) 2) h) := by
  have l8 : h < 8 := by have := hP.2.1; omega
  obtain ⟨v1, v2⟩ := seers_val (F := F) hX wM hB hP hwi hsa hh hF
  generalize vwV ce po w c wi sm (ga X (m + 5) 0) (fun k => ga X (m + 5) (11 + k)) (fun k => ga X (m + 5) (19 + k)) (ga X (m + 5) 2) h = V at v2 ⊢
  have e11 : (11 : Int32) + nI h = nI (11 + h) := nI_add 11 h
  have e19 : (19 : Int32) + nI h = nI (19 + h) := nI_add 19 h
  have e27 : (27 : Int32) + nI h = nI (27 + h) := nI_add 27 h
  have l11 : 11 + h < 43 := by omega
  have l19 : 19 + h < 43 := by omega
  have l27 : 27 + h < 43 := by omega
  have hX4 : shX (pA X (m + 5) (19 + h) (nI (ov ce w wi h))) = Y := shX_pA hX wM.p5 _ _
  have hX8 : shX (pA (pA X (m + 5) (19 + h) (nI (ov ce w wi h))) (m + 5) (11 + h) (ga X (m + 5) 2)) = Y := shX_pA hX4 wM.p5 _ _
  have u4 : ga (pA X (m + 5) (19 + h) (nI (ov ce w wi h))) (m + 5) 2 = ga X (m + 5) 2 := by rw [ga_pA_self hX wM.p5, upd_ne _ (by omega)]
  refine ⟨_, ?_, shX_pA hX8 wM.p5 (27 + h) V, fun q z => (pA_ne z).trans ((pA_ne z).trans (pA_ne z)), ?_⟩
  · simp (maxDischargeDepth := 30) only [fX10_lightNow, gM wM, sM wM, m5 wM, hX, hX4, hX8, v1, v2, e11, e19, e27, l11, l19, l27, u4, Option.bind_some]
  · rw [ga_pA_self hX8 wM.p5, ga_pA_self hX4 wM.p5, ga_pA_self hX wM.p5]
