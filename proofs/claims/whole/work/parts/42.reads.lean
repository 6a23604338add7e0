/-! judge, treaty, lit -/
/-- the first place below n where P fails to hold .. -/
def fwF (P : Nat → Bool) : Nat → Nat → Int32
  | 0, _ => -1
  | k + 1, i => if P i then nI i else fwF P k (i + 1)
theorem op_judge {F : Nat} {X : qH} {sz : Nat} (hI : Inv X sz) (hF : 300000 ≤ F) : OpR (fun X => fX9_judge F X sz) (fun X => fX10_judge F X (sz + 151)) X := by
  obtain ⟨hW, hRl⟩ := id hI
  obtain ⟨rT, rF, rS, rB, rN, rP, rI, rD, rK⟩ := id hRl
  generalize hX : shX X = Y at hW
  obtain ⟨w9, -, -, -, wN, -, -, -, -, w2, w1, wM⟩ := id hW
  obtain ⟨c, c8, mc, hn, hg⟩ := rN
  obtain ⟨n, c', n15, c8', mc', k1', k2', ent⟩ := rK
  have hcc : c' = c := (nI_eq (by omega) (by omega)).mp (mc'.symm.trans mc)
  subst hcc
  have key : ∀ i : Nat, i < n → ∃ (p q : Nat) (r : Int32), p < 8 ∧ q < 8 ∧ ga X (sz + 147 + 1) i = nI p ∧ ga X (sz + 147 + 2) i = nI q ∧ ga X (sz + 151 + 22) i = nI p ∧ ga X (sz + 151 + 23) i = nI q ∧ fX3_holdsFor F X (sz + 14) (nI p) (nI q) = some r ∧ fX10_has F X (ga X (sz + 151 + 5) (35 + p)) (nI q) = some r := fun i hi => by
    obtain ⟨e1, e2, e3, e4, p, q, hp, hq, hpq, e5, e6⟩ := ent i hi
    have hy := HR.y hn.2.2.2.2 (show p < 8 by omega) (show q < 8 by omega) hpq
    dsimp only at hy
    have k1 := holdsFor_ok (F := F) hX wN (show p < 8 by omega) (show q < 8 by omega) hpq
    have k2 := hasM_ok (F := F) (X := X) (x := ga X (sz + 151 + 5) (35 + p)) (q := q) (by omega)
    by_cases z : tb (ga X (sz + 151 + 5) (35 + p)) q
    · exact ⟨p, q, 1, by omega, by omega, e5, e6, e1 ▸ e5, e2 ▸ e6, k1.1 (hy.mpr z), k2.1 z⟩
    · exact ⟨p, q, 0, by omega, by omega, e5, e6, e1 ▸ e5, e2 ▸ e6, k1.2 (fun y => z (hy.mp y)), k2.2 z⟩
  have main : ∀ (t i : Nat), i ≤ n → n - i < t → ∃ r, fX1_firstWrong_L2 F X (sz + 147) (sz + 14) t (nI i) = some r ∧ fX10_judge_L2 F X (sz + 151) t (nI i) = some r := by
    intro t
    induction t with
    | zero => intro i hi ht; omega
    | succ t ih =>
      intro i hi ht
      show ∃ r, fX1_firstWrong_L2_B F X (sz + 147) (sz + 14) (fX1_firstWrong_L2 F X (sz + 147) (sz + 14) t) (nI i) = some r ∧ fX10_judge_L2_B F X (sz + 151) (fX10_judge_L2 F X (sz + 151) t) (nI i) = some r
      unfold fX1_firstWrong_L2_B fX10_judge_L2_B
      by_cases q : i = n
      · subst q
        refine ⟨.inr (), ?_, ?_⟩
        · simp only [g1 w1, hX, Option.bind_some, k1', if_pos (nI_le (Nat.le_refl i) (by omega))]
        · simp only [gM wM, hX, Option.bind_some, k2', if_pos (nI_le (Nat.le_refl i) (by omega))]
      · have hlt : i < n := by omega
        have l15 : i < 15 := by omega
        obtain ⟨p, q, r, hp, hq, e1, e2, e3, e4, e5, e6⟩ := key i hlt
        have e7 := (ent i hlt).2.2.1
        have e35 : (35 : Int32) + nI p = nI (35 + p) := nI_add 35 p
        have l35 : 35 + p < 43 := by omega
        simp only [g1 w1, gM wM, hX, Option.bind_some, k1', k2', if_neg (nI_ge hlt (by omega)), l15, e1, e2, e3, e4, e5, e35, l35, e6, e7, qlt, nI_1]
        by_cases z : r = ga X (sz + 151 + 24) i
        · simp only [if_pos z]
          exact ih (i + 1) (by omega) (by omega)
        · simp only [if_neg z]
          exact ⟨_, rfl, rfl⟩
  obtain ⟨r, e1, e2⟩ := main F 0 (by omega) (by omega)
  rw [show nI 0 = (0 : Int32) from rfl] at e1 e2
  cases r with
  | inl z =>
    refine ⟨z, ?_, ?_⟩
    · simp only [fX9_judge, fX1_firstWrong, g9 w9, g1 w1, hX, Option.bind_some, e1, qsm0]
    · simp only [fX10_judge, gM wM, hX, Option.bind_some, e2, qsm0]
  | inr z =>
    refine ⟨-1, ?_, ?_⟩
    · simp only [fX9_judge, fX1_firstWrong, g9 w9, g1 w1, hX, Option.bind_some, e1, qsm0]
    · simp only [fX10_judge, gM wM, hX, Option.bind_some, e2, qsm0]
/-! lit -/
theorem over_eq {F : Nat} {X Y : qH} {sz b w c : Nat} {ce po nn : Nat → Nat} {dd : Nat → Nat → Nat} (hX : shX X = Y) (wN : YN Y (sz + 14)) (wB : YB Y b) (wM : YM Y (sz + 151)) (hb : IBc X sz b w c ce po nn dd) (hn : NR X (sz + 14) (fun k => ga X (sz + 151 + 5) k) c) (hg : GI (fun k => ga X (sz + 151 + 5) k) c) :
    ∃ ov' : Nat → Nat, ∀ h : Nat, h < c → ov' h < 30 ∧ fX3_cellOver F X (sz + 14) b (nI h) = some (nI (ov' h)) ∧ fX10_overOf F X (sz + 151) (nI h) = some (nI (ov' h)) := by
  obtain ⟨⟨b3, -⟩, ⟨bw, mw, hw30⟩, ⟨bc, mc, c8, hw0⟩, -, -, hs, -⟩ := hb
  obtain ⟨n0, n1, n2, n3, -⟩ := hn
  obtain ⟨-, -, ⟨wi, hwi, g1⟩, g4⟩ := hg
  dsimp only at n0 n1 n2 n3 g1 g4
  refine ⟨ov ce w wi, fun h hh => ?_⟩
  have hw1 : 1 ≤ w := by
    rcases Nat.eq_zero_or_pos w with q | q
    · have := hw0 q; omega
    · exact q
  have l8 : h < 8 := by omega
  have cw := (hs h hh).1.2.2
  exact ⟨by have := ov_lt (ce := ce) (wi := wi) (h := h) hw1; omega, cellOver_ok (F := F) (wi := wi) hX wN wB l8 ⟨hw1, hw30, bw⟩ ⟨(hs h hh).1.1, by omega⟩ ⟨by rw [n2]; exact g1, hwi⟩, overOf_ok (F := F) (wi := wi) hX wM l8 ⟨hw1, hw30, mw⟩ ⟨(hs h hh).1.2.1, by omega⟩ ⟨g1, hwi⟩⟩
/-- a set of the first c houses, told by P -/
def stF (P : Nat → Prop) [DecidablePred P] : Nat → Int32
  | 0 => 0
  | g + 1 => if P g then stF P g ||| ((1 : Int32) <<< (nI g &&& 31)) else stF P g
theorem stF_lt (P : Nat → Prop) [DecidablePred P] : ∀ c : Nat, c ≤ 8 → ∃ x : Nat, x < 2 ^ c ∧ stF P c = nI x := by
  intro c
  induction c with
  | zero => intro _; exact ⟨0, by decide, rfl⟩
  | succ c ih =>
    intro hc
    obtain ⟨x, hx, e⟩ := ih (by omega)
    have hp : 2 ^ (c + 1) = 2 ^ c * 2 := Nat.pow_succ 2 c
    unfold stF
    split
    · refine ⟨x ||| 2 ^ c, Nat.or_lt_two_pow (by omega) (by omega), ?_⟩
      rw [e, shl_c (by omega)]
      apply Int32.toBitVec_inj.mp
      show BitVec.ofNat 32 x ||| BitVec.ofNat 32 (2 ^ c) = BitVec.ofNat 32 (x ||| 2 ^ c)
      apply BitVec.eq_of_getLsbD_eq
      intro i hi
      simp [hi]
    · exact ⟨x, by omega, e⟩
theorem bcF_in {x : Nat} (h : x < 256) : ∃ k : Nat, k < 9 ∧ bcF (nI x) 8 = nI k := by
  obtain ⟨k, hk⟩ := (bcE_all ⟨x, h⟩).2
  exact ⟨k.val, k.isLt, hk⟩
theorem stF_bits {F : Nat} {X : qH} {c : Nat} (P : Nat → Prop) [DecidablePred P] (c8 : c ≤ 8) : fJ6_bitCount_0f7a4 F X (stF P c) = some (bcF (stF P c) 8) ∧ ∃ k : Nat, k < 9 ∧ bcF (stF P c) 8 = nI k := by
  obtain ⟨x, hx, e⟩ := stF_lt P c c8
  have hx8 : x < 256 := Nat.lt_of_lt_of_le hx (pow_c c8).2
  rw [e]
  exact ⟨bitCount_ok hx8, bcF_in hx8⟩
theorem housesOver_ok {F : Nat} {X Y : qH} {sz b c : Nat} {ov' : Nat → Nat} {v : Int32} (hX : shX X = Y) (wN : YN Y (sz + 14)) (wB : YB Y b) (bc : gi X b 5 = nI c) (c8 : c ≤ 8) (ho : ∀ h : Nat, h < c → fX3_cellOver F X (sz + 14) b (nI h) = some (nI (ov' h))) (hF : 100 ≤ F) : fX3_housesOver F X (sz + 14) b v = some (stF (fun h => nI (ov' h) = v) c) := by
  have L := lpF (fun n (s : Int32 × Int32) => fX3_housesOver_L5 F X (sz + 14) b v n s.1 s.2) (fun g => (stF (fun h => nI (ov' h) = v) g, nI g)) c (stF (fun h => nI (ov' h) = v) c)
    (fun n => by
      show fX3_housesOver_L5_B F X (sz + 14) b v (fX3_housesOver_L5 F X (sz + 14) b v n) _ (nI c) = _
      unfold fX3_housesOver_L5_B
      simp only [gB wB, hX, Option.bind_some, bc, if_pos (nI_le (Nat.le_refl c) (by omega))])
    (fun n g hg => by
      show fX3_housesOver_L5_B F X (sz + 14) b v (fX3_housesOver_L5 F X (sz + 14) b v n) _ (nI g) = _
      unfold fX3_housesOver_L5_B
      simp only [gB wB, hX, Option.bind_some, bc, if_neg (nI_ge hg (by omega)), ho g hg, qlt, nI_1, some_ite]
      rfl) F 0 (by omega) (by omega)
  dsimp only at L
  rw [show nI 0 = (0 : Int32) from rfl, show stF (fun h => nI (ov' h) = v) 0 = 0 from rfl] at L
  simp only [fX3_housesOver, gN wN, hX, L, Option.bind_some]
theorem litOver_ok {F : Nat} {X Y : qH} {m c : Nat} {ov' : Nat → Nat} {v : Int32} (hX : shX X = Y) (wM : YM Y m) (mc : gi X m 1 = nI c) (c8 : c ≤ 8) (ho : ∀ h : Nat, h < c → fX10_overOf F X m (nI h) = some (nI (ov' h))) (hF : 100 ≤ F) : fX10_litOver F X m v = some (stF (fun h => nI (ov' h) = v) c) := by
  have L := lpF (fun n (s : Int32 × Int32) => fX10_litOver_L4 F X m v n s.1 s.2) (fun g => (stF (fun h => nI (ov' h) = v) g, nI g)) c (stF (fun h => nI (ov' h) = v) c)
    (fun n => by
      show fX10_litOver_L4_B F X m v (fX10_litOver_L4 F X m v n) _ (nI c) = _
      unfold fX10_litOver_L4_B
      simp only [gM wM, hX, Option.bind_some, mc, if_pos (nI_le (Nat.le_refl c) (by omega))])
    (fun n g hg => by
      show fX10_litOver_L4_B F X m v (fX10_litOver_L4 F X m v n) _ (nI g) = _
      unfold fX10_litOver_L4_B
      have e : (stF (fun h => nI (ov' h) = v) g ||| if nI (ov' g) = v then (1 : Int32) <<< (nI g &&& 31) else 0) = stF (fun h => nI (ov' h) = v) (g + 1) := by
        rw [show stF (fun h => nI (ov' h) = v) (g + 1) = if nI (ov' g) = v then stF (fun h => nI (ov' h) = v) g ||| ((1 : Int32) <<< (nI g &&& 31)) else stF (fun h => nI (ov' h) = v) g from rfl]
        split
        · rfl
        · rw [or0]
      simp only [gM wM, hX, Option.bind_some, mc, if_neg (nI_ge hg (by omega)), ho g hg, qlt, nI_1, some_ite, e]) F 0 (by omega) (by omega)
  dsimp only at L
  rw [show nI 0 = (0 : Int32) from rfl, show stF (fun h => nI (ov' h) = v) 0 = 0 from rfl] at L
  simp only [fX10_litOver, gM wM, hX, L, Option.bind_some]
/-- how many ahead of k are like it -/
def akF (P : Nat → Bool) : Nat → Nat
  | 0 => 0
  | i + 1 => akF P i + if P i then 1 else 0
theorem akF_le (P : Nat → Bool) : ∀ k : Nat, akF P k ≤ k := by
  intro k
  induction k with
  | zero => exact Nat.le_refl _
  | succ k ih => rw [akF]; split <;> omega
theorem i_sub1 (a b : Nat) (x : Int32) : x - nI a - nI b = x - nI (a + b) := by
  rw [← nI_add]
  apply Int32.toBitVec_inj.mp
  simp [BitVec.sub_sub]
def alP (f g : Nat → Int32) (i j : Nat) : Bool := decide (f j = f i ∧ g j = g i)
theorem alP_t {f g : Nat → Int32} {i j : Nat} (h1 : f j = f i) (h2 : g j = g i) : alP f g i j = true := decide_eq_true ⟨h1, h2⟩
theorem alP_f {f g : Nat → Int32} {i j : Nat} (h : ¬ (f j = f i ∧ g j = g i)) : ¬ alP f g i j = true := fun y => h (of_decide_eq_true y)
theorem alike_L {F : Nat} {X Y : qH} {a i : Nat} {f g : Nat → Int32} (hX : shX X = Y) (w2 : Y2 Y a) (hi : i < 6) (hf : ∀ k : Nat, k ≤ i → ga X (a + 1) k = f k ∧ ga X (a + 2) k = g k) (hF : 100 ≤ F) : fX2_alikeAhead F X a (nI i) = some (nI (akF (alP f g i) i)) := by
  have L := lpF (fun n (s : Int32 × Int32) => fX2_alikeAhead_L4 F X a (nI i) n s.1 s.2) (fun k => (nI (akF (alP f g i) k), nI k)) i (nI (akF (alP f g i) i))
    (fun n => by
      show fX2_alikeAhead_L4_B F X a (nI i) (fX2_alikeAhead_L4 F X a (nI i) n) _ (nI i) = _
      unfold fX2_alikeAhead_L4_B
      rw [if_pos (nI_le (Nat.le_refl i) (by omega))])
    (fun n k hk => by
      show fX2_alikeAhead_L4_B F X a (nI i) (fX2_alikeAhead_L4 F X a (nI i) n) _ (nI k) = _
      unfold fX2_alikeAhead_L4_B
      have lg : k < 6 := by omega
      obtain ⟨e1, e2⟩ := hf i (Nat.le_refl i)
      obtain ⟨e3, e4⟩ := hf k (by omega)
      have e : (if f k = f i then (if g k = g i then nI (akF (alP f g i) k + 1) else nI (akF (alP f g i) k)) else nI (akF (alP f g i) k)) = nI (akF (alP f g i) (k + 1)) := by
        rw [akF]
        by_cases z1 : f k = f i
        · by_cases z2 : g k = g i
          · rw [if_pos z1, if_pos z2, if_pos (alP_t z1 z2)]
          · rw [if_pos z1, if_neg z2, if_neg (alP_f (fun y => z2 y.2)), Nat.add_zero]
        · rw [if_neg z1, if_neg (alP_f (fun y => z1 y.1)), Nat.add_zero]
      simp only [if_neg (nI_ge hk (by omega)), g2 w2, hX, Option.bind_some, lg, hi, e1, e2, e3, e4, qlt, nI_1, some_ite, e]) F 0 (by omega) (by omega)
  dsimp only at L
  rw [akF, show nI 0 = (0 : Int32) from rfl] at L
  simp only [fX2_alikeAhead, g2 w2, hX, L, Option.bind_some]
theorem lit66_L {F : Nat} {X Y : qH} {m i kk : Nat} {u : Int32} (hX : shX X = Y) (wM : YM Y m) (hi : i < 6) (hF : 100 ≤ F) : fX10_lit_L66 F X m u (nI i) F (nI kk) (0 : Int32) = some (nI kk - nI (akF (alP (ga X (m + 20)) (ga X (m + 21)) i) i)) := by
  have L := lpF (fun n (s : Int32 × Int32) => fX10_lit_L66 F X m u (nI i) n s.1 s.2) (fun k => (nI kk - nI (akF (alP (ga X (m + 20)) (ga X (m + 21)) i) k), nI k)) i (nI kk - nI (akF (alP (ga X (m + 20)) (ga X (m + 21)) i) i))
    (fun n => by
      show fX10_lit_L66_B F X m u (nI i) (fX10_lit_L66 F X m u (nI i) n) _ (nI i) = _
      unfold fX10_lit_L66_B
      rw [if_pos (nI_le (Nat.le_refl i) (by omega))])
    (fun n k hk => by
      show fX10_lit_L66_B F X m u (nI i) (fX10_lit_L66 F X m u (nI i) n) _ (nI k) = _
      unfold fX10_lit_L66_B
      have lg : k < 6 := by omega
      have e : (nI kk - nI (akF (alP (ga X (m + 20)) (ga X (m + 21)) i) k)) - (if ga X (m + 20) i = ga X (m + 20) k then (if ga X (m + 21) i = ga X (m + 21) k then (1 : Int32) else 0) else 0) = nI kk - nI (akF (alP (ga X (m + 20)) (ga X (m + 21)) i) (k + 1)) := by
        rw [akF]
        by_cases z1 : ga X (m + 20) i = ga X (m + 20) k
        · by_cases z2 : ga X (m + 21) i = ga X (m + 21) k
          · rw [if_pos z1, if_pos z2, if_pos (alP_t z1.symm z2.symm), show (1 : Int32) = nI 1 from rfl, i_sub1]
          · rw [if_pos z1, if_neg z2, if_neg (alP_f (fun y => z2 y.2.symm)), Int32.sub_zero]; rfl
        · rw [if_neg z1, if_neg (alP_f (fun y => z1 y.1.symm)), Int32.sub_zero]; rfl
      simp only [if_neg (nI_ge hk (by omega)), gM wM, hX, Option.bind_some, lg, hi, qlt, nI_1, some_ite, e]) F 0 (by omega) (by omega)
  dsimp only at L
  rw [akF, show nI 0 = (0 : Int32) from rfl, Int32.sub_zero] at L
  exact L
theorem ways_L {F : Nat} {X Y : qH} {ad an am b c' n : Nat} {ov' : Nat → Nat} (hX : shX X = Y) (w2 : Y2 Y (ad)) (wM : YM Y (am)) (c8 : c' ≤ 8) (hF : 300000 ≤ F) (hn6 : n ≤ 6) (d1 : gi X (ad) 0 = nI n) (d2 : gi X (am) 33 = nI n) (dk : ∀ i : Nat, i < n → ga X (ad + 1) i = ga X (am + 20) i ∧ ga X (ad + 2) i = ga X (am + 21) i)
    (H1 : ∀ v : Int32, fX3_housesOver F X (an) b v = some (stF (fun h => nI (ov' h) = v) c')) (H2 : ∀ v : Int32, fX10_litOver F X (am) v = some (stF (fun h => nI (ov' h) = v) c')) : ∀ (t i : Nat) (u : Int32), i ≤ n → n - i < t → ∃ r, fX2_ways_L5 F X (ad) b (an) t u (nI i) = some r ∧ fX10_lit_L40 F X (am) t u (nI i) = some r := by
  have bc2 := fun v : Int32 => stF_bits (F := F) (X := X) (fun h => nI (ov' h) = v) c8
  intro t
  induction t with
  | zero => intro i u hi ht; omega
  | succ t ih =>
    intro i u hi ht
    show ∃ r, fX2_ways_L5_B F X (ad) b (an) (fX2_ways_L5 F X (ad) b (an) t) u (nI i) = some r ∧ fX10_lit_L40_B F X (am) (fX10_lit_L40 F X (am) t) u (nI i) = some r
    by_cases q : i = n
    · subst q
      refine ⟨u, ?_, ?_⟩
      · unfold fX2_ways_L5_B
        simp only [g2 w2, hX, Option.bind_some, d1, if_pos (nI_le (Nat.le_refl i) (by omega))]
      · unfold fX10_lit_L40_B
        simp only [gM wM, hX, Option.bind_some, d2, if_pos (nI_le (Nat.le_refl i) (by omega))]
    · have hlt : i < n := by omega
      have l6 : i < 6 := by omega
      obtain ⟨e1, e2⟩ := dk i hlt
      obtain ⟨bb, kk, hk9, hkk⟩ := bc2 (ga X (am + 21) i)
      rw [hkk] at bb
      have bits' := bits_ok (F := F) (X := X) (stF (fun h => nI (ov' h) = ga X (am + 21) i) c') (by omega)
      rw [hkk] at bits'
      have ak := alike_L (F := F) (f := ga X (am + 20)) (g := ga X (am + 21)) hX w2 l6 (fun k hk => dk k (by omega)) (by omega)
      have Lb := lit66_L (F := F) (kk := kk) (u := u) hX wM l6 (by omega)
      generalize akF (alP (ga X (am + 20)) (ga X (am + 21)) i) i = al at ak Lb
      have ev : (if nI kk - nI (al) ≤ 0 then (0 : Int32) else nI kk - nI (al)) = (if 0 < nI kk - nI (al) then nI kk - nI (al) else 0) := by
        by_cases z : (0 : Int32) < nI kk - nI (al)
        · rw [if_pos z, if_neg (i_nle.mpr z)]
        · rw [if_neg z, if_pos (i_nlt.mp z)]
      have hH1 := H1 (ga X (am + 21) i)
      have hH2 := H2 (ga X (am + 21) i)
      generalize stF (fun h => nI (ov' h) = ga X (am + 21) i) c' = S at hH1 hH2 bb bits'
      refine Exists.imp (fun r h => ⟨?_, ?_⟩) (ih (i + 1) (u * (if 0 < nI kk - nI al then nI kk - nI al else 0)) (by omega) (by omega))
      · rw [← h.1]
        unfold fX2_ways_L5_B
        rw [(g2 w2).2.1 X hX, Option.bind_some, d1, if_neg (nI_ge hlt (by omega)), (g2 w2).2.2.2.1 X hX, Option.bind_some, (g2 w2).2.2.2.2.2 X hX i l6, Option.bind_some, e2, hH1, Option.bind_some, bb, Option.bind_some, ak, Option.bind_some]
        simp only [qlt, nI_1]
      · rw [← h.2]
        unfold fX10_lit_L40_B
        simp only [gM wM, hX, Option.bind_some, d2, if_neg (nI_ge hlt (by omega)), l6, hH2, bits', Lb, some_ite, ev, qlt, nI_1]
theorem op_lit {F : Nat} {X : qH} {sz : Nat} (hI : Inv X sz) (hF : 300000 ≤ F) (v : Int32) : OpR (fun X => fX9_lit F X sz v) (fun X => fX10_lit F X (sz + 151) v) X := by
  obtain ⟨hW, hRl⟩ := id hI
  obtain ⟨rT, rF, rS, rB, rN, rP, rI, rD, rK⟩ := id hRl
  generalize hX : shX X = Y at hW
  obtain ⟨w9, -, -, -, wN, -, -, -, -, w2, w1, wM⟩ := id hW
  obtain ⟨b, w, c, ce, po, nn, dd, hb, wB⟩ := rB.get hX hW
  obtain ⟨⟨b3, -⟩, ⟨bw, mw, hw30⟩, ⟨bc, mc, c8, -⟩, -⟩ := id hb
  obtain ⟨c', c8', mc', hn, hg⟩ := rN
  have hcc : c' = c := (nI_eq (by omega) (by omega)).mp (mc'.symm.trans mc)
  subst hcc
  obtain ⟨n, hn6, d1, d2, dk⟩ := rD
  obtain ⟨ov', ho⟩ := over_eq (F := F) hX wN wB wM hb hn hg
  have H1 := fun v => housesOver_ok (F := F) (v := v) hX wN wB bc c8 (fun h hh => (ho h hh).2.1) (by omega)
  have H2 := fun v => litOver_ok (F := F) (v := v) hX wM mc c8 (fun h hh => (ho h hh).2.2) (by omega)
  by_cases hv : v = -1
  · subst hv
    have main := ways_L (F := F) hX w2 wM c8 hF hn6 d1 d2 dk H1 H2
    obtain ⟨r, e1, e2⟩ := main F 0 1 (by omega) (by omega)
    rw [show nI 0 = (0 : Int32) from rfl] at e1 e2
    refine ⟨r, ?_, ?_⟩
    · simp only [fX9_lit, fX2_ways, g9 w9, g2 w2, hX, Option.bind_some, b3, e1, if_true]
    · simp only [fX10_lit, gM wM, hX, Option.bind_some, e2, if_true]
  · have hin := l_in F X v 0 (nI n - 1) (l := 0) (h := (nI n - 1).toInt64) rfl rfl
    have e : (0 ≤ v ∧ v ≤ nI n - 1) ↔ (0 ≤ v ∧ v < nI n) := by
      have h1 : (nI n - 1).toInt = (n : Int) - 1 := by
        show (nI n - nI 1).toInt = _
        rw [pk_sub_toInt (by omega) (by omega)]; rfl
      rw [Int32.le_iff_toInt_le, Int32.le_iff_toInt_le, Int32.lt_iff_toInt_lt, h1, nI_toInt (by omega)]
      omega
    by_cases hok : 0 ≤ v ∧ v < nI n
    · obtain ⟨k, hl, rfl⟩ := nI_of (i_nlt.mpr hok.1)
      have hk := (nI_ltI hl (by omega)).mp hok.2
      have l6 : k < 6 := by omega
      refine ⟨stF (fun h => nI (ov' h) = ga X (sz + 151 + 21) k) c', ?_, ?_⟩
      · simp only [fX9_lit, g9 w9, g2 w2, hX, Option.bind_some, if_neg hv, if_neg (i_nlt.mpr hok.1), d1, if_pos hok.2, b3, l6, (dk k hk).2, H1]
      · simp only [fX10_lit, gM wM, hX, Option.bind_some, if_neg hv, d2, hin, if_pos (e.mpr hok), if_neg (show ¬ (1 : Int32) = 0 by decide), l6, H2]
    · refine ⟨-1, ?_, ?_⟩
      · simp only [fX9_lit, g9 w9, g2 w2, hX, Option.bind_some, if_neg hv, d1]
        by_cases z : v < 0
        · rw [if_pos z]
        · rw [if_neg z, if_neg (fun y => hok ⟨i_nlt.mp z, y⟩)]
      · simp only [fX10_lit, gM wM, hX, Option.bind_some, if_neg hv, d2, hin, if_neg (fun y => hok (e.mp y)), if_true]
