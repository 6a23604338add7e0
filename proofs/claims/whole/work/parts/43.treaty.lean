/-! treaty -/
theorem jI_toInt {z : Int} (h1 : -1000000 ≤ z) (h2 : z ≤ 1000000) : (Int32.ofInt z).toInt = z := by
  rw [Int32.toInt_ofInt]
  show z.bmod (2 ^ 32) = z
  rw [Int.bmod_eq_of_le (by omega) (by omega)]
theorem jI_nat (n : Nat) : nI n = Int32.ofInt (n : Int) := rfl
theorem jI_lt {a b : Int} (h1 : -1000000 ≤ a) (h2 : a ≤ 1000000) (h3 : -1000000 ≤ b) (h4 : b ≤ 1000000) : Int32.ofInt a < Int32.ofInt b ↔ a < b := by
  rw [Int32.lt_iff_toInt_lt, jI_toInt h1 h2, jI_toInt h3 h4]
theorem jI_le {a b : Int} (h1 : -1000000 ≤ a) (h2 : a ≤ 1000000) (h3 : -1000000 ≤ b) (h4 : b ≤ 1000000) : Int32.ofInt a ≤ Int32.ofInt b ↔ a ≤ b := by
  rw [Int32.le_iff_toInt_le, jI_toInt h1 h2, jI_toInt h3 h4]
theorem jI_sub (a b : Int) : Int32.ofInt a - Int32.ofInt b = Int32.ofInt (a - b) := (Int32.ofInt_sub a b).symm
theorem jI_eq {a b : Int} (h1 : -1000000 ≤ a) (h2 : a ≤ 1000000) (h3 : -1000000 ≤ b) (h4 : b ≤ 1000000) : Int32.ofInt a = Int32.ofInt b ↔ a = b := by
  rw [← Int32.toInt_inj, jI_toInt h1 h2, jI_toInt h3 h4]
/-- the farthest of a set, and what powder wants for it -/
def faF (S : Nat → Bool) (d : Nat → Nat) : Nat → Int
  | 0 => -1
  | k + 1 => if S k then (if faF S d k < (d k : Int) then (d k : Int) else faF S d k) else faF S d k
def moF (S : Nat → Bool) (d : Nat → Nat) (R : Int) : Nat → Int
  | 0 => 0
  | k + 1 => if S k then (if (d k : Int) - R ≤ moF S d R k then moF S d R k else (d k : Int) - R) else moF S d R k
theorem faF_in (S : Nat → Bool) (d : Nat → Nat) (hd : ∀ k : Nat, d k < 100) : ∀ k : Nat, -1 ≤ faF S d k ∧ faF S d k < 100 := by
  intro k
  induction k with
  | zero => exact ⟨by simp [faF], by simp [faF]⟩
  | succ k ih =>
    have := hd k
    rw [faF]
    split
    · split <;> omega
    · exact ih
theorem moF_eq (S : Nat → Bool) (d : Nat → Nat) (hd : ∀ k : Nat, d k < 100) (R : Int) : ∀ k : Nat, moF S d R k = if faF S d k = -1 then 0 else (if 0 < faF S d k - R then faF S d k - R else 0) := by
  intro k
  induction k with
  | zero => simp [moF, faF]
  | succ k ih =>
    have h1 := hd k
    have h2 := faF_in S d hd k
    rw [moF, faF]
    by_cases z : S k = true
    · rw [if_pos z, if_pos z, ih]
      generalize faF S d k = x at *
      (repeat' split) <;> omega
    · rw [if_neg z, if_neg z, ih]
theorem moF_in (S : Nat → Bool) (d : Nat → Nat) (hd : ∀ k : Nat, d k < 100) {R : Int} (hR : -100 ≤ R ∧ R ≤ 100) (k : Nat) : 0 ≤ moF S d R k ∧ moF S d R k ≤ 300 := by
  have h2 := faF_in S d hd k
  rw [moF_eq S d hd R k]
  split
  · omega
  · split <;> omega
/-- reach as a number -/
theorem rc_val {p f : Nat} (hp : p ≤ 9) (hf : f ≤ 20) : nI p + 3 - nI f / 2 = Int32.ofInt ((p : Int) + 3 - ((f / 2 : Nat) : Int)) := by
  rw [show (2 : Int32) = nI 2 from rfl, pk_div (by omega) (by omega) (by omega), show (3 : Int32) = nI 3 from rfl, nI_add, jI_nat, jI_nat, jI_sub]
  rfl
def tsB (x : Int32) (h k : Nat) : Bool := decide (k ≠ h) && x.toBitVec.getLsbD k
theorem tsB_t {x : Int32} {h k : Nat} (h1 : k ≠ h) (h2 : tb x k) : tsB x h k = true := by
  unfold tsB
  rw [show x.toBitVec.getLsbD k = true from h2, decide_eq_true h1]; rfl
theorem tsB_f {x : Int32} {h k : Nat} (h1 : ¬ (k ≠ h ∧ tb x k)) : ¬ tsB x h k = true := fun y => by
  unfold tsB at y
  rw [Bool.and_eq_true] at y
  exact h1 ⟨of_decide_eq_true y.1, y.2⟩
def dsF (ce : Nat → Nat) (c o k : Nat) : Nat := if k < c then ap o (ce k) else 0
theorem dsF_lt {ce : Nat → Nat} {c o : Nat} (hce : ∀ g : Nat, g < c → ce g < 30) (ho : o < 30) (k : Nat) : dsF ce c o k < 100 := by
  unfold dsF
  split
  · rename_i q
    have := hce k q
    unfold ap
    split <;> omega
  · omega
theorem lack_ok {F : Nat} {X Y : qH} {a b c h o : Nat} {ce : Nat → Nat} {x : Int32} {R : Int} (hX : shX X = Y) (wN : YN Y a) (wB : YB Y b) (bc : gi X b 5 = nI c) (c8 : c ≤ 8) (hce : ∀ g : Nat, g < c → ga X (b + 1) g = nI (ce g) ∧ ce g < 30) (hh : h < c) (ho : o < 30) (hov : fX3_cellOver F X a b (nI h) = some (nI o)) (hR : fX3_reach F X a b (nI h) = some (Int32.ofInt R)) (hR2 : -100 ≤ R ∧ R ≤ 100) (hF : 100 ≤ F) :
    fX3_lackOfPowder F X a b (nI h) x = some (Int32.ofInt (moF (tsB x h) (dsF ce c o) R c)) := by
  have hd := dsF_lt (c := c) (fun g hg => (hce g hg).2) ho
  have fin := faF_in (tsB x h) (dsF ce c o) hd
  have L := lpF (fun n (s : Int32 × Int32) => fX3_lackOfPowder_L14 F X a b (nI h) x (nI o) n s.1 s.2) (fun g => (Int32.ofInt (faF (tsB x h) (dsF ce c o) g), nI g)) c (Int32.ofInt (faF (tsB x h) (dsF ce c o) c))
    (fun n => by
      show fX3_lackOfPowder_L14_B F X a b (nI h) x (nI o) (fX3_lackOfPowder_L14 F X a b (nI h) x (nI o) n) _ (nI c) = _
      unfold fX3_lackOfPowder_L14_B
      simp only [gB wB, hX, Option.bind_some, bc, if_pos (nI_le (Nat.le_refl c) (by omega))])
    (fun n g hg => by
      show fX3_lackOfPowder_L14_B F X a b (nI h) x (nI o) (fX3_lackOfPowder_L14 F X a b (nI h) x (nI o) n) _ (nI g) = _
      unfold fX3_lackOfPowder_L14_B
      have l1 : g < 8 := by omega
      have c1 := (hce g hg).2
      have hap : ap o (ce g) = dsF ce c o g := by unfold dsF; rw [if_pos hg]
      have hdg := hd g
      have hfg := fin g
      have e : (if g = h then Int32.ofInt (faF (tsB x h) (dsF ce c o) g) else if (x >>> (nI g &&& 31)) &&& 1 = 1 then (if Int32.ofInt (faF (tsB x h) (dsF ce c o) g) < nI (dsF ce c o g) then nI (dsF ce c o g) else Int32.ofInt (faF (tsB x h) (dsF ce c o) g)) else Int32.ofInt (faF (tsB x h) (dsF ce c o) g)) = Int32.ofInt (faF (tsB x h) (dsF ce c o) (g + 1)) := by
        rw [faF]
        by_cases z1 : g = h
        · rw [if_pos z1, if_neg (tsB_f (fun y => y.1 z1))]
        · rw [if_neg z1]
          by_cases z2 : tb x g
          · rw [if_pos ((shr_tb (by omega)).mpr z2), if_pos (tsB_t z1 z2), jI_nat]
            by_cases z3 : faF (tsB x h) (dsF ce c o) g < (dsF ce c o g : Int)
            · rw [if_pos z3, if_pos ((jI_lt (by omega) (by omega) (by omega) (by omega)).mpr z3)]
            · rw [if_neg z3, if_neg (fun y => z3 ((jI_lt (by omega) (by omega) (by omega) (by omega)).mp y))]
          · rw [if_neg (fun y => z2 ((shr_tb (by omega)).mp y)), if_neg (tsB_f (fun y => z2 y.2))]
      simp only [gB wB, hX, Option.bind_some, bc, if_neg (nI_ge hg (by omega)), l1, (hce g hg).1, qlt, nI_1, ap_c (show o < 1000 by omega) (show ce g < 1000 by omega), hap, nI_eq (show g < 2 ^ 31 by omega) (show h < 2 ^ 31 by omega), some_ite, e]) F 0 (by omega) (by omega)
  dsimp only at L
  rw [show nI 0 = (0 : Int32) from rfl, show Int32.ofInt (faF (tsB x h) (dsF ce c o) 0) = (-1 : Int32) from rfl] at L
  have fc := fin c
  have e1 : (Int32.ofInt (faF (tsB x h) (dsF ce c o) c) = (-1 : Int32)) = (faF (tsB x h) (dsF ce c o) c = -1) := propext (jI_eq (b := -1) (by omega) (by omega) (by omega) (by omega))
  have e2 : (if (0 : Int32) < Int32.ofInt (faF (tsB x h) (dsF ce c o) c) - Int32.ofInt R then Int32.ofInt (faF (tsB x h) (dsF ce c o) c) - Int32.ofInt R else 0) = Int32.ofInt (if 0 < faF (tsB x h) (dsF ce c o) c - R then faF (tsB x h) (dsF ce c o) c - R else 0) := by
    rw [jI_sub]
    by_cases z : 0 < faF (tsB x h) (dsF ce c o) c - R
    · rw [if_pos z, if_pos (show (0 : Int32) < _ from (jI_lt (a := 0) (by omega) (by omega) (by omega) (by omega)).mpr z)]
    · rw [if_neg z, if_neg (show ¬ (0 : Int32) < _ from fun y => z ((jI_lt (a := 0) (by omega) (by omega) (by omega) (by omega)).mp y))]; rfl
  rw [moF_eq _ _ hd]
  simp only [fX3_lackOfPowder, gN wN, hX, hov, L, hR, Option.bind_some, qlt, e1, e2, some_ite]
  by_cases z : faF (tsB x h) (dsF ce c o) c = -1
  · rw [if_pos z, if_pos z]; rfl
  · rw [if_neg z, if_neg z]
theorem treat29 {F : Nat} {X Y : qH} {m c h o : Nat} {ce : Nat → Nat} {x u : Int32} {R : Int} (hX : shX X = Y) (wM : YM Y m) (mc : gi X m 1 = nI c) (c8 : c ≤ 8) (hce : ∀ g : Nat, g < c → ga X (m + 1) g = nI (ce g) ∧ ce g < 30) (hh : h < c) (ho : o < 30) (hov : fX10_overOf F X m (nI h) = some (nI o)) (hR : fX10_reach F X m (nI h) = some (Int32.ofInt R)) (hR2 : -100 ≤ R ∧ R ≤ 100) (hF : 100 ≤ F) :
    fX10_treaty_L29 F X m x u (nI h) F (0 : Int32) (0 : Int32) = some (Int32.ofInt (moF (tsB x h) (dsF ce c o) R c)) := by
  have hd := dsF_lt (c := c) (fun g hg => (hce g hg).2) ho
  have fin := moF_in (tsB x h) (dsF ce c o) hd hR2
  have L := lpF (fun n (s : Int32 × Int32) => fX10_treaty_L29 F X m x u (nI h) n s.1 s.2) (fun g => (Int32.ofInt (moF (tsB x h) (dsF ce c o) R g), nI g)) c (Int32.ofInt (moF (tsB x h) (dsF ce c o) R c))
    (fun n => by
      show fX10_treaty_L29_B F X m x u (nI h) (fX10_treaty_L29 F X m x u (nI h) n) _ (nI c) = _
      unfold fX10_treaty_L29_B
      simp only [gM wM, hX, Option.bind_some, mc, if_pos (nI_le (Nat.le_refl c) (by omega))])
    (fun n g hg => by
      show fX10_treaty_L29_B F X m x u (nI h) (fX10_treaty_L29 F X m x u (nI h) n) _ (nI g) = _
      unfold fX10_treaty_L29_B
      have l1 : g < 8 := by omega
      have c1 := (hce g hg).2
      have hap : ap o (ce g) = dsF ce c o g := by unfold dsF; rw [if_pos hg]
      have hdg := hd g
      have hfg := fin g
      have e0 : (if (0 : Int32) ≤ Int32.ofInt (moF (tsB x h) (dsF ce c o) R g) then Int32.ofInt (moF (tsB x h) (dsF ce c o) R g) else 0) = Int32.ofInt (moF (tsB x h) (dsF ce c o) R g) := by
        rw [if_pos (show (0 : Int32) ≤ _ from (jI_le (a := 0) (by omega) (by omega) (by omega) (by omega)).mpr (by omega))]
      dsimp only
      rw [moF]
      by_cases z1 : g = h
      · simp only [gM wM, hX, Option.bind_some, mc, if_neg (nI_ge hg (by omega)), nI_eq (show g < 2 ^ 31 by omega) (show h < 2 ^ 31 by omega), if_pos z1, some_ite, e0, qlt, nI_1, if_neg (tsB_f (x := x) (fun y => y.1 z1))]
      · by_cases z2 : tb x g
        · have k1 := (hasM_ok (F := F) (X := X) (x := x) (q := g) (by omega)).1 z2
          have es : nI (dsF ce c o g) - Int32.ofInt R = Int32.ofInt ((dsF ce c o g : Int) - R) := by rw [jI_nat, jI_sub]
          have e : (if Int32.ofInt ((dsF ce c o g : Int) - R) ≤ Int32.ofInt (moF (tsB x h) (dsF ce c o) R g) then Int32.ofInt (moF (tsB x h) (dsF ce c o) R g) else Int32.ofInt ((dsF ce c o g : Int) - R)) = Int32.ofInt (if (dsF ce c o g : Int) - R ≤ moF (tsB x h) (dsF ce c o) R g then moF (tsB x h) (dsF ce c o) R g else (dsF ce c o g : Int) - R) := by
            by_cases z3 : (dsF ce c o g : Int) - R ≤ moF (tsB x h) (dsF ce c o) R g
            · rw [if_pos z3, if_pos ((jI_le (by omega) (by omega) (by omega) (by omega)).mpr z3)]
            · rw [if_neg z3, if_neg (fun y => z3 ((jI_le (by omega) (by omega) (by omega) (by omega)).mp y))]
          simp only [gM wM, hX, Option.bind_some, mc, if_neg (nI_ge hg (by omega)), nI_eq (show g < 2 ^ 31 by omega) (show h < 2 ^ 31 by omega), if_neg z1, k1, if_neg (show ¬ (1 : Int32) = 0 by decide), hov, l1, (hce g hg).1, apart_m (F := F) (X := X) (show o < 1000 by omega) (show ce g < 1000 by omega), hap, hR, es, some_ite, e, qlt, nI_1, if_pos (tsB_t z1 z2)]
        · have k1 := (hasM_ok (F := F) (X := X) (x := x) (q := g) (by omega)).2 z2
          simp only [gM wM, hX, Option.bind_some, mc, if_neg (nI_ge hg (by omega)), nI_eq (show g < 2 ^ 31 by omega) (show h < 2 ^ 31 by omega), if_neg z1, k1, if_true, some_ite, e0, qlt, nI_1, if_neg (tsB_f (x := x) (h := h) (fun y => z2 y.2))]) F 0 (by omega) (by omega)
  dsimp only at L
  exact L
def trF (x : Int32) (w : Nat → Int32) : Nat → Int32
  | 0 => 0
  | h + 1 => if x.toBitVec.getLsbD h then trF x w h + w h else trF x w h
theorem op_treaty {F : Nat} {X : qH} {sz : Nat} (hI : Inv X sz) (hF : 300000 ≤ F) (v : Int32) : OpR (fun X => fX9_treaty F X sz v) (fun X => fX10_treaty F X (sz + 151) v) X := by
  obtain ⟨hW, hRl⟩ := id hI
  obtain ⟨rT, rF, rS, rB, rN, rP, rI, rD, rK⟩ := id hRl
  generalize hX : shX X = Y at hW
  obtain ⟨w9, -, -, -, wN, -, -, -, -, w2, w1, wM⟩ := id hW
  obtain ⟨b, w, c, ce, po, nn, dd, hb, wB⟩ := rB.get hX hW
  obtain ⟨⟨b3, -⟩, ⟨bw, mw, hw30⟩, ⟨bc, mc, c8, -⟩, -, -, hs, -⟩ := id hb
  obtain ⟨c', c8', mc', hn, hg⟩ := rN
  have hcc : c' = c := (nI_eq (by omega) (by omega)).mp (mc'.symm.trans mc)
  subst hcc
  have cb : ∀ g : Nat, g < c' → ga X (b + 1) g = nI (ce g) ∧ ce g < 30 := fun g hg => ⟨(hs g hg).1.1, by have := (hs g hg).1.2.2; omega⟩
  have cm : ∀ g : Nat, g < c' → ga X (sz + 151 + 1) g = nI (ce g) ∧ ce g < 30 := fun g hg => ⟨(hs g hg).1.2.1, by have := (hs g hg).1.2.2; omega⟩
  obtain ⟨ov', ho⟩ := over_eq (F := F) hX wN wB wM hb hn hg
  obtain ⟨fo, hfo, gf⟩ := hg.2.1
  have gf1 := hn.2.1
  dsimp only at gf gf1
  have key : ∀ h : Nat, h < c' → ∃ V : Int32, fX3_lackOfPowder F X (sz + 14) b (nI h) v = some V ∧ ∀ u : Int32, fX10_treaty_L29 F X (sz + 151) v u (nI h) F (0 : Int32) (0 : Int32) = some V := fun h hh => by
    have l8 : h < 8 := by omega
    have p9 := (hs h hh).2.1.2.2.2
    have r1 := reach_c (F := F) hX wN wB l8
    have r2 := reach_m (F := F) hX wM l8
    rw [gf1, gf, (hs h hh).2.1.1, rc_val p9 hfo] at r1
    rw [gf, (hs h hh).2.1.2.1, rc_val p9 hfo] at r2
    have hR : -100 ≤ ((po h : Int) + 3 - ((fo / 2 : Nat) : Int)) ∧ ((po h : Int) + 3 - ((fo / 2 : Nat) : Int)) ≤ 100 := by omega
    generalize ((po h : Int) + 3 - ((fo / 2 : Nat) : Int)) = R at r1 r2 hR
    exact ⟨_, lack_ok (F := F) (x := v) hX wN wB bc c8 cb hh (ho h hh).1 (ho h hh).2.1 r1 hR (by omega), fun u => treat29 (F := F) (x := v) (u := u) hX wM mc c8 cm hh (ho h hh).1 (ho h hh).2.2 r2 hR (by omega)⟩
  have h1 := hasAll_ok (F := F) hX wB bc c8 v
  have h2 := isSet_ok (F := F) hX wM mc c8 v
  by_cases hok : 0 ≤ v ∧ v < nI (2 ^ c')
  · rw [if_pos hok] at h1 h2
    have main : ∀ (t g : Nat) (u : Int32), g ≤ c' → c' - g < t → ∃ r, fX9_treaty_L18 F X sz v t u (nI g) = some r ∧ fX10_treaty_L15 F X (sz + 151) v t u (nI g) = some r := by
      intro t
      induction t with
      | zero => intro g u hg ht; omega
      | succ t ih =>
        intro g u hg ht
        show ∃ r, fX9_treaty_L18_B F X sz v (fX9_treaty_L18 F X sz v t) u (nI g) = some r ∧ fX10_treaty_L15_B F X (sz + 151) v (fX10_treaty_L15 F X (sz + 151) v t) u (nI g) = some r
        unfold fX9_treaty_L18_B fX10_treaty_L15_B
        by_cases q : g = c'
        · subst q
          refine ⟨u, ?_, ?_⟩
          · simp only [g9 w9, gB wB, hX, Option.bind_some, b3, bc, if_pos (nI_le (Nat.le_refl g) (by omega))]
          · simp only [gM wM, hX, Option.bind_some, mc, if_pos (nI_le (Nat.le_refl g) (by omega))]
        · have hlt : g < c' := by omega
          obtain ⟨V, k1, k2⟩ := key g hlt
          have k3 := hasM_ok (F := F) (X := X) (x := v) (q := g) (by omega)
          have k4 := shr_tb (x := v) (i := g) (by omega)
          by_cases z : tb v g
          · simp only [g9 w9, gB wB, gM wM, hX, Option.bind_some, b3, bc, mc, if_neg (nI_ge hlt (by omega)), if_pos (k4.mpr z), k1, k2, k3.1 z, if_neg (show ¬ (1 : Int32) = 0 by decide), qlt, nI_1]
            exact ih (g + 1) _ (by omega) (by omega)
          · simp only [g9 w9, gB wB, gM wM, hX, Option.bind_some, b3, bc, mc, if_neg (nI_ge hlt (by omega)), if_neg (fun y => z (k4.mp y)), k2, k3.2 z, if_true, qlt, nI_1, Int32.add_zero]
            exact ih (g + 1) _ (by omega) (by omega)
    obtain ⟨r, e1, e2⟩ := main F 0 0 (by omega) (by omega)
    rw [show nI 0 = (0 : Int32) from rfl] at e1 e2
    refine ⟨r, ?_, ?_⟩
    · simp only [fX9_treaty, g9 w9, hX, Option.bind_some, b3, h1, e1, if_neg (show ¬ (1 : Int32) = 0 by decide)]
    · simp only [fX10_treaty, gM wM, hX, Option.bind_some, h2, e2, if_neg (show ¬ (1 : Int32) = 0 by decide)]
  · rw [if_neg hok] at h1 h2
    refine ⟨-1000000001, ?_, ?_⟩
    · simp only [fX9_treaty, g9 w9, hX, Option.bind_some, b3, h1, if_true]
    · simp only [fX10_treaty, gM wM, hX, Option.bind_some, h2, if_true]
