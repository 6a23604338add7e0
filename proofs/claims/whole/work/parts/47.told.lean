/-! told -/
def S1 (g : Nat → Nat) : Nat → Nat
  | 0 => 0
  | k + 1 => S1 g k + g k
theorem S1_congr {g h : Nat → Nat} : ∀ n : Nat, (∀ k : Nat, k < n → g k = h k) → S1 g n = S1 h n := by
  intro n
  induction n with
  | zero => intro _; rfl
  | succ n ih => intro q; rw [S1, S1, ih (fun k hk => q k (by omega)), q n (by omega)]
theorem S1_add (g h : Nat → Nat) : ∀ n : Nat, S1 (fun k => g k + h k) n = S1 g n + S1 h n := by
  intro n
  induction n with
  | zero => rfl
  | succ n ih => rw [S1, S1, S1, ih]; omega
theorem akF_S1 (P : Nat → Bool) : ∀ n : Nat, akF P n = S1 (fun k => if P k then 1 else 0) n := by
  intro n
  induction n with
  | zero => rfl
  | succ n ih => rw [akF, S1, ih]
theorem akF_none {P : Nat → Bool} : ∀ n : Nat, (∀ k : Nat, k < n → P k = false) → akF P n = 0 := by
  intro n
  induction n with
  | zero => intro _; rfl
  | succ n ih => intro h; rw [akF, ih (fun k hk => h k (by omega)), h n (by omega)]; rfl
/-- pairs by the greater one, pairs by the lesser one -/
def pA1 (f : Nat → Nat → Bool) (c : Nat) : Nat := S1 (fun q => akF (fun p => f p q) q) c
def pM1 (f : Nat → Nat → Bool) (c : Nat) : Nat := S1 (fun a => akF (fun j => f a (a + 1 + j)) (c - (a + 1))) c
theorem pair_swap (f : Nat → Nat → Bool) : ∀ c : Nat, pA1 f c = pM1 f c := by
  intro c
  induction c with
  | zero => rfl
  | succ c ih =>
    have h1 : pA1 f (c + 1) = pA1 f c + akF (fun p => f p c) c := rfl
    have h2 : pM1 f (c + 1) = S1 (fun a => akF (fun j => f a (a + 1 + j)) (c + 1 - (a + 1))) c + akF (fun j => f c (c + 1 + j)) (c + 1 - (c + 1)) := rfl
    have h3 : S1 (fun a => akF (fun j => f a (a + 1 + j)) (c + 1 - (a + 1))) c = S1 (fun a => akF (fun j => f a (a + 1 + j)) (c - (a + 1)) + (if f a c then 1 else 0)) c := S1_congr c (fun a ha => by
      rw [show c + 1 - (a + 1) = (c - (a + 1)) + 1 by omega, akF, show a + 1 + (c - (a + 1)) = c by omega])
    rw [h1, h2, h3, S1_add, Nat.sub_self, akF_S1 _ c, ih]
    rfl
theorem pA1_congr {f g : Nat → Nat → Bool} (c : Nat) (h : ∀ p q : Nat, p < q → q < c → f p q = g p q) : pA1 f c = pA1 g c := S1_congr c (fun q hq => akF_congr q (fun p hp => h p q hp hq))
theorem pA1_cut {f : Nat → Nat → Bool} {c : Nat} : ∀ n : Nat, (∀ p q : Nat, p < q → c ≤ q → q < c + n → f p q = false) → pA1 f (c + n) = pA1 f c := by
  intro n
  induction n with
  | zero => intro _; rfl
  | succ n ih =>
    intro h
    have h1 : pA1 f (c + (n + 1)) = pA1 f (c + n) + akF (fun p => f p (c + n)) (c + n) := rfl
    rw [h1, ih (fun p q a b d => h p q a b (by omega)), akF_none _ (fun p hp => h p (c + n) hp (by omega) (by omega))]
    rfl
theorem pA1_le (f : Nat → Nat → Bool) : ∀ c : Nat, c ≤ 8 → pA1 f c ≤ 8 * c := by
  intro c
  induction c with
  | zero => intro _; exact Nat.le_refl _
  | succ c ih =>
    intro hc
    have h1 : pA1 f (c + 1) = pA1 f c + akF (fun p => f p c) c := rfl
    have := ih (by omega)
    have := akF_le (fun p => f p c) c
    omega
theorem pIx_step : ∀ q : Fin 8, (q.val + 1) * ((q.val + 1) - 1) / 2 = q.val * (q.val - 1) / 2 + q.val := by decide +kernel
theorem ak_tri (P : Nat → Bool) : ∀ q : Nat, q ≤ 8 → akF P (q * (q - 1) / 2) = pA1 (fun p q => P (pIx p q)) q := by
  intro q
  induction q with
  | zero => intro _; rfl
  | succ q ih =>
    intro hq
    have h1 : pA1 (fun p q => P (pIx p q)) (q + 1) = pA1 (fun p q => P (pIx p q)) q + akF (fun p => P (pIx p q)) q := rfl
    rw [pIx_step ⟨q, by omega⟩, akF_split, ih (by omega), h1]
    rfl
/-- how many contracts hold, by the class's bits, by the model's rows -/
theorem HR.count {ho : Int32} {g : Nat → Int32} {c : Nat} (hr : HR ho g c) (c8 : c ≤ 8) : akF (fun i => ho.toBitVec.getLsbD i) 32 = pA1 (fun p q => (g p).toBitVec.getLsbD q) c := by
  have nt : ∀ {x : Bool}, ¬ x = true → x = false := fun {x} h => by cases x with | true => exact absurd rfl h | false => rfl
  have e1 : akF (fun i => ho.toBitVec.getLsbD i) 32 = akF (fun i => ho.toBitVec.getLsbD i) 28 := by
    refine (akF_split (fun i => ho.toBitVec.getLsbD i) 28 4).trans ?_
    rw [akF_none 4 (fun k hk => nt (hr.2.1 (28 + k) (by omega)))]
    rfl
  have e2 := ak_tri (fun i => ho.toBitVec.getLsbD i) 8 (by omega)
  rw [show 8 * (8 - 1) / 2 = 28 from rfl] at e2
  rw [e1, e2]
  have e3 : pA1 (fun p q => ho.toBitVec.getLsbD (pIx p q)) 8 = pA1 (fun p q => (g p).toBitVec.getLsbD q) 8 := pA1_congr 8 (fun p q hp hq => by
    have h := (hr.1 p q hp hq).1
    unfold tb at h
    cases hz : (g p).toBitVec.getLsbD q with
    | true => exact h.mpr hz
    | false => exact nt (fun y => by rw [h.mp y] at hz; cases hz))
  rw [e3]
  obtain ⟨n, hn⟩ : ∃ n, 8 = c + n := ⟨8 - c, by omega⟩
  rw [hn]
  exact pA1_cut n (fun p q hp hc hq => nt (hr.2.2 p q (by omega) hc))
theorem contracts_ok {F : Nat} {X Y : qH} {m c : Nat} {grn : Nat → Bool} {one : Bool} {v : Int32} (hX : shX X = Y) (wM : YM Y m) (mc : gi X m 1 = nI c) (c8 : c ≤ 8) (hv : v = if one then 1 else 0) (hgr : ∀ h : Nat, h < c → fX10_isGreen F X m (nI h) = some (if grn h then 1 else 0)) (hF : 1000 ≤ F) :
    fX10_contracts F X m v = some (nI (pM1 (fun p q => (ga X (m + 5) (35 + p)).toBitVec.getLsbD q && (!one || (grn p || grn q))) c)) := by
  have inner : ∀ (z a : Nat), a < c → fX10_contracts_L17 F X m v (nI a) F (nI z) (nI (a + 1)) = some (nI (z + akF (fun j => (ga X (m + 5) (35 + a)).toBitVec.getLsbD (a + 1 + j) && (!one || (grn a || grn (a + 1 + j)))) (c - (a + 1)))) := fun z a ha => by
    have L := lpF (fun n (s : Int32 × Int32) => fX10_contracts_L17 F X m v (nI a) n s.1 s.2) (fun k => (nI (z + akF (fun j => (ga X (m + 5) (35 + a)).toBitVec.getLsbD (a + 1 + j) && (!one || (grn a || grn (a + 1 + j)))) k), nI (a + 1 + k))) (c - (a + 1)) (nI (z + akF (fun j => (ga X (m + 5) (35 + a)).toBitVec.getLsbD (a + 1 + j) && (!one || (grn a || grn (a + 1 + j)))) (c - (a + 1))))
      (fun n => by
        show fX10_contracts_L17_B F X m v (nI a) (fX10_contracts_L17 F X m v (nI a) n) _ (nI (a + 1 + (c - (a + 1)))) = _
        unfold fX10_contracts_L17_B
        rw [show a + 1 + (c - (a + 1)) = c by omega]
        simp only [gM wM, hX, Option.bind_some, mc, if_pos (nI_le (Nat.le_refl c) (by omega))])
      (fun n k hk => by
        show fX10_contracts_L17_B F X m v (nI a) (fX10_contracts_L17 F X m v (nI a) n) (nI (z + akF (fun j => (ga X (m + 5) (35 + a)).toBitVec.getLsbD (a + 1 + j) && (!one || (grn a || grn (a + 1 + j)))) k)) (nI (a + 1 + k)) = fX10_contracts_L17 F X m v (nI a) n (nI (z + (akF (fun j => (ga X (m + 5) (35 + a)).toBitVec.getLsbD (a + 1 + j) && (!one || (grn a || grn (a + 1 + j)))) k + if ((ga X (m + 5) (35 + a)).toBitVec.getLsbD (a + 1 + k) && (!one || (grn a || grn (a + 1 + k)))) = true then 1 else 0))) (nI (a + 1 + (k + 1)))
        unfold fX10_contracts_L17_B
        have hb : a + 1 + k < c := by omega
        have e35 : (35 : Int32) + nI a = nI (35 + a) := nI_add 35 a
        have l35 : 35 + a < 43 := by omega
        have g1 := hgr a ha
        have g2 := hgr (a + 1 + k) hb
        have k3 := hasM_ok (F := F) (X := X) (x := ga X (m + 5) (35 + a)) (q := a + 1 + k) (by omega)
        generalize akF (fun j => (ga X (m + 5) (35 + a)).toBitVec.getLsbD (a + 1 + j) && (!one || (grn a || grn (a + 1 + j)))) k = A
        unfold tb at k3
        generalize grn a = ga1 at g1
        generalize grn (a + 1 + k) = gb1 at g2
        cases hz : (ga X (m + 5) (35 + a)).toBitVec.getLsbD (a + 1 + k) with
        | false =>
          have k4 := k3.2 (by rw [hz]; decide)
          simp only [gM wM, hX, Option.bind_some, mc, if_neg (nI_ge hb (by omega)), e35, l35, k4, if_true, qlt, nI_1, Int32.add_zero]
          rfl
        | true =>
          have k4 := k3.1 hz
          cases one with
          | false =>
            rw [if_neg (by decide)] at hv
            subst hv
            simp only [gM wM, hX, Option.bind_some, mc, if_neg (nI_ge hb (by omega)), e35, l35, k4, if_true, if_neg (show ¬ (1 : Int32) = 0 by decide), qlt, nI_1, Int32.add_zero]
            rfl
          | true =>
            rw [if_pos rfl] at hv
            subst hv
            cases ga1 with
            | true =>
              simp only [gM wM, hX, Option.bind_some, mc, if_neg (nI_ge hb (by omega)), e35, l35, k4, g1, if_true, if_neg (show ¬ (1 : Int32) = 0 by decide), qlt, nI_1, Int32.add_zero]
              rfl
            | false =>
              rw [if_neg (by decide)] at g1
              cases gb1 with
              | true =>
                rw [if_pos rfl] at g2
                simp only [gM wM, hX, Option.bind_some, mc, if_neg (nI_ge hb (by omega)), e35, l35, k4, g1, g2, if_true, if_neg (show ¬ (1 : Int32) = 0 by decide), qlt, nI_1, Int32.add_zero]
                rfl
              | false =>
                rw [if_neg (by decide)] at g2
                simp only [gM wM, hX, Option.bind_some, mc, if_neg (nI_ge hb (by omega)), e35, l35, k4, g1, g2, if_true, if_neg (show ¬ (1 : Int32) = 0 by decide), qlt, nI_1, Int32.add_zero]
                rfl) F 0 (by omega) (by omega)
    exact L
  have L := lpF (fun n (s : Int32 × Int32) => fX10_contracts_L4 F X m v n s.1 s.2) (fun g => (nI (S1 (fun a => akF (fun j => (ga X (m + 5) (35 + a)).toBitVec.getLsbD (a + 1 + j) && (!one || (grn a || grn (a + 1 + j)))) (c - (a + 1))) g), nI g)) c (nI (S1 (fun a => akF (fun j => (ga X (m + 5) (35 + a)).toBitVec.getLsbD (a + 1 + j) && (!one || (grn a || grn (a + 1 + j)))) (c - (a + 1))) c))
    (fun n => by
      show fX10_contracts_L4_B F X m v (fX10_contracts_L4 F X m v n) _ (nI c) = _
      unfold fX10_contracts_L4_B
      simp only [gM wM, hX, Option.bind_some, mc, if_pos (nI_le (Nat.le_refl c) (by omega))])
    (fun n g hg => by
      show fX10_contracts_L4_B F X m v (fX10_contracts_L4 F X m v n) _ (nI g) = _
      unfold fX10_contracts_L4_B
      simp only [gM wM, hX, Option.bind_some, mc, if_neg (nI_ge hg (by omega)), qlt, nI_1, inner _ g hg]
      rfl) F 0 (by omega) (by omega)
  dsimp only at L
  rw [show nI 0 = (0 : Int32) from rfl, S1, show nI 0 = (0 : Int32) from rfl] at L
  simp only [fX10_contracts, gM wM, hX, L, Option.bind_some]
  rfl
theorem conditionals_ok {F : Nat} {X Y : qH} {a b c : Nat} {f : Nat → Nat → Bool} (hX : shX X = Y) (wN : YN Y a) (wB : YB Y b) (bc : gi X b 5 = nI c) (c8 : c ≤ 8) (hf : ∀ p q : Nat, p < q → q < c → (f p q = true → fX3_holdsFor F X a (nI p) (nI q) = some 1 ∧ fX0_anyGreen F X b (nI p) (nI q) = some 1) ∧ (f p q = false → fX3_holdsFor F X a (nI p) (nI q) = some 0 ∨ (fX3_holdsFor F X a (nI p) (nI q) = some 1 ∧ fX0_anyGreen F X b (nI p) (nI q) = some 0))) (hF : 1000 ≤ F) :
    fX3_conditionals F X a b = some (nI (pA1 f c)) := by
  have inner : ∀ (z q : Nat), q < c → fX3_conditionals_L15 F X a b (nI q) F (nI z) (0 : Int32) = some (nI (z + akF (fun p => f p q) q)) := fun z q hq => by
    have L := lpF (fun n (s : Int32 × Int32) => fX3_conditionals_L15 F X a b (nI q) n s.1 s.2) (fun k => (nI (z + akF (fun p => f p q) k), nI k)) q (nI (z + akF (fun p => f p q) q))
      (fun n => by
        show fX3_conditionals_L15_B F X a b (nI q) (fX3_conditionals_L15 F X a b (nI q) n) _ (nI q) = _
        unfold fX3_conditionals_L15_B
        rw [if_pos (nI_le (Nat.le_refl q) (by omega))])
      (fun n k hk => by
        show fX3_conditionals_L15_B F X a b (nI q) (fX3_conditionals_L15 F X a b (nI q) n) (nI (z + akF (fun p => f p q) k)) (nI k) = fX3_conditionals_L15 F X a b (nI q) n (nI (z + (akF (fun p => f p q) k + if f k q = true then 1 else 0))) (nI (k + 1))
        unfold fX3_conditionals_L15_B
        rw [if_neg (nI_ge hk (by omega))]
        obtain ⟨h1, h2⟩ := hf k q hk hq
        cases hz : f k q with
        | true =>
          obtain ⟨k1, k2⟩ := h1 hz
          simp only [k1, k2, Option.bind_some, if_neg (show ¬ (1 : Int32) = 0 by decide), qlt, nI_1, if_true]
          rfl
        | false =>
          rcases h2 hz with k1 | ⟨k1, k2⟩
          · simp only [k1, Option.bind_some, if_true, qlt, nI_1]
            rfl
          · simp only [k1, k2, Option.bind_some, if_neg (show ¬ (1 : Int32) = 0 by decide), if_true, qlt, nI_1]
            rfl) F 0 (by omega) (by omega)
    exact L
  by_cases hc : c = 0
  · subst hc
    obtain ⟨F', rfl⟩ : ∃ k, F = k + 1 := ⟨F - 1, by omega⟩
    have e : fX3_conditionals_L4 (F' + 1) X a b (F' + 1) (0 : Int32) (1 : Int32) = some 0 := by
      show fX3_conditionals_L4_B (F' + 1) X a b (fX3_conditionals_L4 (F' + 1) X a b F') 0 1 = _
      unfold fX3_conditionals_L4_B
      simp only [gB wB, hX, Option.bind_some, bc, if_pos (show nI 0 ≤ (1 : Int32) by decide)]
    simp only [fX3_conditionals, gN wN, hX, e, Option.bind_some]
    rfl
  · have L := lpF (fun n (s : Int32 × Int32) => fX3_conditionals_L4 F X a b n s.1 s.2) (fun g => (nI (pA1 f g), nI g)) c (nI (pA1 f c))
      (fun n => by
        show fX3_conditionals_L4_B F X a b (fX3_conditionals_L4 F X a b n) _ (nI c) = _
        unfold fX3_conditionals_L4_B
        simp only [gB wB, hX, Option.bind_some, bc, if_pos (nI_le (Nat.le_refl c) (by omega))])
      (fun n g hg => by
        show fX3_conditionals_L4_B F X a b (fX3_conditionals_L4 F X a b n) _ (nI g) = _
        unfold fX3_conditionals_L4_B
        simp only [gB wB, hX, Option.bind_some, bc, if_neg (nI_ge hg (by omega)), qlt, nI_1, inner _ g hg]
        rfl) F 1 (by omega) (by omega)
    dsimp only at L
    rw [show nI (pA1 f 1) = (0 : Int32) from rfl, show nI 1 = (1 : Int32) from rfl] at L
    simp only [fX3_conditionals, gN wN, hX, L, Option.bind_some]
theorem op_told {F : Nat} {X : qH} {sz : Nat} (hI : Inv X sz) (hF : 300000 ≤ F) (v : Int32) : OpR (fun X => fX9_told F X sz v) (fun X => fX10_told F X (sz + 151) v) X := by
  obtain ⟨hW, hRl⟩ := id hI
  obtain ⟨rT, rF, rS, rB, rN, rP, rI, rD, rK⟩ := id hRl
  generalize hX : shX X = Y at hW
  obtain ⟨w9, -, -, -, wN, ⟨w5, -, -⟩, -, -, -, w2, w1, wM⟩ := id hW
  obtain ⟨b, w, c, ce, po, nn, dd, hb, wB⟩ := rB.get hX hW
  obtain ⟨⟨b3, -⟩, ⟨bw, mw, hw30⟩, ⟨bc, mc, c8, -⟩, ⟨sm, hsm, bs, ms⟩, ⟨da, hda, bd, md⟩, hs, hinj, -⟩ := id hb
  obtain ⟨c', c8', mc', hn, hg⟩ := rN
  have hcc : c' = c := (nI_eq (by omega) (by omega)).mp (mc'.symm.trans mc)
  subst hcc
  obtain ⟨nt, hnt, t1, t2, -⟩ := rT
  obtain ⟨nd, hnd, d1, d2, -⟩ := rD
  obtain ⟨nk, ck, hnk, -, -, k1', k2', -⟩ := rK
  obtain ⟨cp, cnt, nx, -, -, -, -, p1, -, p2, -⟩ := rP
  have n0 := hn.1
  have n1 := hn.2.1
  have n2 := hn.2.2.1
  dsimp only at n0 n1 n2
  have hgr : ∀ h : Nat, h < c' → fX10_isGreen F X (sz + 151) (nI h) = some (if decide (gcF (dd h) (nn h) ≠ 0) = true then 1 else 0) := fun h hh => by
    have s1 := hs h hh
    rw [isGreen_ok (F := F) hX wM (by omega) ⟨s1.2.2.1.1, s1.2.2.1.2.2.1⟩ s1.2.2.2 (by omega)]
    by_cases z : gcF (dd h) (nn h) = 0
    · rw [if_pos z, if_neg (fun y => (of_decide_eq_true y) z)]
    · rw [if_neg z, if_pos (decide_eq_true z)]
  have cA := fun one v hv => contracts_ok (F := F) (grn := fun h => decide (gcF (dd h) (nn h) ≠ 0)) (one := one) (v := v) hX wM mc c8 hv hgr (by omega)
  have c0 := cA false 0 rfl
  have c1 := cA true 1 rfl
  have ho := hn.2.2.2.2.count c8
  have e8 : fJ6_bitCount_0f7a4 F X (gi X (sz + 14) 3) = some (nI (pM1 (fun p q => (ga X (sz + 151 + 5) (35 + p)).toBitVec.getLsbD q && (!false || (decide (gcF (dd p) (nn p) ≠ 0) || decide (gcF (dd q) (nn q) ≠ 0)))) c')) := by
    rw [bitCount_all, ho, pair_swap]
    simp only [Bool.not_false, Bool.true_or, Bool.and_true]
  have e9 : fX3_conditionals F X (sz + 14) b = some (nI (pM1 (fun p q => (ga X (sz + 151 + 5) (35 + p)).toBitVec.getLsbD q && (!true || (decide (gcF (dd p) (nn p) ≠ 0) || decide (gcF (dd q) (nn q) ≠ 0)))) c')) := by
    rw [← pair_swap]
    refine conditionals_ok (F := F) hX wN wB bc c8 (fun p q hp hq => ?_) (by omega)
    have hy := HR.y hn.2.2.2.2 (show p < 8 by omega) (show q < 8 by omega) (show p ≠ q by omega)
    dsimp only at hy
    have k1 := holdsFor_ok (F := F) hX wN (show p < 8 by omega) (show q < 8 by omega) (show p ≠ q by omega)
    have s1 := hs p (by omega)
    have s2 := hs q hq
    have gr1 := greens_ok (F := F) (X := X) (d := dd p) (n := nn p) (fun i hi => (s1.2.2.2 i hi).2) s1.2.2.1.2.2.1 (by omega)
    have gr2 := greens_ok (F := F) (X := X) (d := dd q) (n := nn q) (fun i hi => (s2.2.2.2 i hi).2) s2.2.2.1.2.2.1 (by omega)
    have b1 := gcF_le (dd p) (nn p)
    have b2 := gcF_le (dd q) (nn q)
    have m1 := s1.2.2.1.2.2.1
    have m2 := s2.2.2.1.2.2.1
    have l2 : p < 8 := by omega
    have l3 : q < 8 := by omega
    have ag : fX0_anyGreen F X b (nI p) (nI q) = some (if gcF (dd p) (nn p) + gcF (dd q) (nn q) = 0 then 0 else 1) := by
      simp only [fX0_anyGreen, gB wB, hX, Option.bind_some, l2, l3, s1.2.2.1.2.2.2, s2.2.2.1.2.2.2, gr1, gr2, nI_add]
      by_cases z : gcF (dd p) (nn p) + gcF (dd q) (nn q) = 0
      · rw [if_pos z, z, if_pos (show nI 0 ≤ 0 by decide)]; rfl
      · rw [if_neg z, if_neg (nI_nle (by omega) (by omega))]; rfl
    unfold tb at hy k1
    cases hz : (ga X (sz + 151 + 5) (35 + p)).toBitVec.getLsbD q with
    | false =>
      refine ⟨fun y => by simp at y, fun _ => Or.inl (k1.2 (fun y => by rw [hy.mp y] at hz; cases hz))⟩
    | true =>
      have k2 := k1.1 (hy.mpr hz)
      by_cases z : gcF (dd p) (nn p) + gcF (dd q) (nn q) = 0
      · rw [if_pos z] at ag
        refine ⟨fun y => ?_, fun _ => Or.inr ⟨k2, ag⟩⟩
        have z1 : gcF (dd p) (nn p) = 0 := by omega
        have z2 : gcF (dd q) (nn q) = 0 := by omega
        simp [z1, z2] at y
      · rw [if_neg z] at ag
        refine ⟨fun _ => ⟨k2, ag⟩, fun y => ?_⟩
        have : ¬ gcF (dd p) (nn p) = 0 ∨ ¬ gcF (dd q) (nn q) = 0 := by omega
        rcases this with z1 | z1 <;> simp [z1] at y
  generalize (pM1 (fun p q => (ga X (sz + 151 + 5) (35 + p)).toBitVec.getLsbD q && (!false || (decide (gcF (dd p) (nn p) ≠ 0) || decide (gcF (dd q) (nn q) ≠ 0)))) c') = V8 at c0 e8
  generalize (pM1 (fun p q => (ga X (sz + 151 + 5) (35 + p)).toBitVec.getLsbD q && (!true || (decide (gcF (dd p) (nn p) ≠ 0) || decide (gcF (dd q) (nn q) ≠ 0)))) c') = V9 at c1 e9
  unfold OpR
  unfold fX9_told
  generalize fJ6_bitCount_0f7a4 = fB at e8 ⊢
  simp only [fX10_told, g9 w9, gB wB, gN wN, g5 w5, g2 w2, g1 w1, gM wM, m5 wM, hX, Option.bind_some, b3, bw, mw, bc, mc, bs, ms, bd, md, t1, t2, n0, n1, n2, d1, d2, k1', k2', p1, p2, e8, e9, c0, c1, some_ite]
  exact ⟨_, rfl, rfl⟩
