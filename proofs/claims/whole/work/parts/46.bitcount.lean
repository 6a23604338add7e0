/-! Integer.bitCount counts the bits -/
theorem and_split {a m : Nat} (ha : a < 256) (hm : m < 256) (A M : Nat) : (256 * A + a) &&& (256 * M + m) = 256 * (A &&& M) + (a &&& m) := by
  have h2 : a &&& m < 2 ^ 8 := Nat.lt_of_le_of_lt Nat.and_le_left ha
  apply Nat.eq_of_testBit_eq
  intro i
  rw [Nat.testBit_and, show 256 * A + a = 2 ^ 8 * A + a from rfl, show 256 * M + m = 2 ^ 8 * M + m from rfl, show 256 * (A &&& M) + (a &&& m) = 2 ^ 8 * (A &&& M) + (a &&& m) from rfl, Nat.testBit_two_pow_mul_add A (show a < 2 ^ 8 from ha), Nat.testBit_two_pow_mul_add M (show m < 2 ^ 8 from hm), Nat.testBit_two_pow_mul_add (A &&& M) h2]
  split
  · rw [Nat.testBit_and]
  · rw [Nat.testBit_and]
theorem bt85 : ∀ a : Fin 256, ∀ t : Fin 2, (128 * t.val + a.val / 2) &&& 85 = (a.val / 2) &&& 85 ∧ (a.val / 2) &&& 85 ≤ a.val := by decide +kernel
theorem bt51 : ∀ a : Fin 256, ∀ t : Fin 4, (64 * t.val + a.val / 4) &&& 51 = (a.val / 4) &&& 51 := by decide +kernel
def bw1 (a : Nat) : Nat := a - ((a / 2) &&& 85)
def bw2 (a : Nat) : Nat := (a &&& 51) + ((a / 4) &&& 51)
theorem bt_w : ∀ a : Fin 256, bw1 a.val < 256 ∧ bw2 (bw1 a.val) % 16 ≤ 4 ∧ bw2 (bw1 a.val) / 16 ≤ 4 ∧ bw2 (bw1 a.val) % 16 + bw2 (bw1 a.val) / 16 = akF (fun i => a.val.testBit i) 8 := by decide +kernel
theorem bt_r1 {a : Nat} (ha : a < 256) (Z M : Nat) : ((256 * Z + a) / 2) &&& (256 * M + 85) = 256 * ((Z / 2) &&& M) + ((a / 2) &&& 85) := by
  have h := (bt85 ⟨a, ha⟩ ⟨Z % 2, Nat.mod_lt _ (by omega)⟩).1
  dsimp only at h
  rw [show (256 * Z + a) / 2 = 256 * (Z / 2) + (128 * (Z % 2) + a / 2) by omega, and_split (by omega) (by omega), h]
theorem bt_r2 {a : Nat} (ha : a < 256) (Z M : Nat) : ((256 * Z + a) / 4) &&& (256 * M + 51) = 256 * ((Z / 4) &&& M) + ((a / 4) &&& 51) := by
  have h := bt51 ⟨a, ha⟩ ⟨Z % 4, Nat.mod_lt _ (by omega)⟩
  dsimp only at h
  rw [show (256 * Z + a) / 4 = 256 * (Z / 4) + (64 * (Z % 4) + a / 4) by omega, and_split (by omega) (by omega), h]
theorem bt_1 {a b c d : Nat} (ha : a < 256) (hb : b < 256) (hc : c < 256) (hd : d < 256) : (256 * (256 * (256 * d + c) + b) + a) - (((256 * (256 * (256 * d + c) + b) + a) / 2) &&& 1431655765) = 256 * (256 * (256 * bw1 d + bw1 c) + bw1 b) + bw1 a ∧ ((256 * (256 * (256 * d + c) + b) + a) / 2) &&& 1431655765 ≤ 256 * (256 * (256 * d + c) + b) + a := by
  have h0 := (bt85 ⟨a, ha⟩ 0).2
  have h1 := (bt85 ⟨b, hb⟩ 0).2
  have h2 := (bt85 ⟨c, hc⟩ 0).2
  have h3 := (bt85 ⟨d, hd⟩ 0).2
  dsimp only at h0 h1 h2 h3
  rw [show (1431655765 : Nat) = 256 * (256 * (256 * 85 + 85) + 85) + 85 from rfl, bt_r1 ha, bt_r1 hb, bt_r1 hc]
  unfold bw1
  omega
theorem bt_2 {a b c d : Nat} (ha : a < 256) (hb : b < 256) (hc : c < 256) (hd : d < 256) : ((256 * (256 * (256 * d + c) + b) + a) &&& 858993459) + (((256 * (256 * (256 * d + c) + b) + a) / 4) &&& 858993459) = 256 * (256 * (256 * bw2 d + bw2 c) + bw2 b) + bw2 a := by
  rw [show (858993459 : Nat) = 256 * (256 * (256 * 51 + 51) + 51) + 51 from rfl, bt_r2 ha, bt_r2 hb, bt_r2 hc, and_split ha (by omega), and_split hb (by omega), and_split hc (by omega)]
  unfold bw2
  omega
theorem bt_3 {a b c d : Nat} (ha : a % 16 ≤ 4 ∧ a / 16 ≤ 4) (hb : b % 16 ≤ 4 ∧ b / 16 ≤ 4) (hc : c % 16 ≤ 4 ∧ c / 16 ≤ 4) (hd : d % 16 ≤ 4 ∧ d / 16 ≤ 4) : ((256 * (256 * (256 * d + c) + b) + a) + (256 * (256 * (256 * d + c) + b) + a) / 16) &&& 252645135 = 256 * (256 * (256 * (d % 16 + d / 16) + (c % 16 + c / 16)) + (b % 16 + b / 16)) + (a % 16 + a / 16) := by
  have e : (256 * (256 * (256 * d + c) + b) + a) + (256 * (256 * (256 * d + c) + b) + a) / 16 = 256 * (256 * (256 * (d + d / 16) + (c + c / 16 + 16 * (d % 16))) + (b + b / 16 + 16 * (c % 16))) + (a + a / 16 + 16 * (b % 16)) := by omega
  have m4 : ∀ x t : Nat, x % 16 ≤ 4 ∧ x / 16 ≤ 4 → (x + x / 16 + 16 * t) % 16 = x % 16 + x / 16 := fun x t h => by omega
  have m15 : ∀ x : Nat, x &&& 15 = x % 16 := fun x => Nat.and_two_pow_sub_one_eq_mod x 4
  rw [e, show (252645135 : Nat) = 256 * (256 * (256 * 15 + 15) + 15) + 15 from rfl, and_split (by omega) (by omega), and_split (by omega) (by omega), and_split (by omega) (by omega), m15, m15, m15, m15, m4 a (b % 16) ha, m4 b (c % 16) hb, m4 c (d % 16) hc]
  have := m4 d 0 hd
  rw [show d + d / 16 + 16 * 0 = d + d / 16 from rfl] at this
  rw [this]
theorem bt_4 {a b c d : Nat} (ha : a ≤ 8) (hb : b ≤ 8) (hc : c ≤ 8) (hd : d ≤ 8) {y : Nat} (hy : y = 256 * (256 * (256 * d + c) + b) + a) : ((y + y / 256) + (y + y / 256) / 65536) % 64 = a + b + c + d := by
  have e1 : y + y / 256 = 65536 * (256 * d + (c + d)) + (256 * (b + c) + (a + b)) := by omega
  have e2 : (y + y / 256) / 65536 = 256 * d + (c + d) := by rw [e1]; omega
  rw [e2, e1]
  omega
theorem nx_and (a b : Nat) : nI a &&& nI b = nI (a &&& b) := by
  apply Int32.toBitVec_inj.1
  show BitVec.ofNat 32 a &&& BitVec.ofNat 32 b = BitVec.ofNat 32 (a &&& b)
  apply BitVec.eq_of_getLsbD_eq
  intro i hi
  simp [hi]
theorem bcE_nat {n : Nat} (hn : n < 2 ^ 32) : bcE (nI n) = nI (akF (fun i => (n % 256).testBit i) 8 + akF (fun i => (n / 256 % 256).testBit i) 8 + akF (fun i => (n / 65536 % 256).testBit i) 8 + akF (fun i => (n / 16777216 % 256).testBit i) 8) := by
  have e : n = 256 * (256 * (256 * (n / 16777216 % 256) + n / 65536 % 256) + n / 256 % 256) + n % 256 := by omega
  have wa := bt_w ⟨n % 256, Nat.mod_lt _ (by omega)⟩
  have wb := bt_w ⟨n / 256 % 256, Nat.mod_lt _ (by omega)⟩
  have wc := bt_w ⟨n / 65536 % 256, Nat.mod_lt _ (by omega)⟩
  have wd := bt_w ⟨n / 16777216 % 256, Nat.mod_lt _ (by omega)⟩
  dsimp only at wa wb wc wd
  have la : n % 256 < 256 := Nat.mod_lt _ (by omega)
  have lb : n / 256 % 256 < 256 := Nat.mod_lt _ (by omega)
  have lc : n / 65536 % 256 < 256 := Nat.mod_lt _ (by omega)
  have ld : n / 16777216 % 256 < 256 := Nat.mod_lt _ (by omega)
  rw [← wa.2.2.2, ← wb.2.2.2, ← wc.2.2.2, ← wd.2.2.2]
  generalize n % 256 = a at *
  generalize n / 256 % 256 = b at *
  generalize n / 65536 % 256 = c at *
  generalize n / 16777216 % 256 = d at *
  have s1 := bt_1 la lb lc ld
  rw [← e] at s1
  have s2 := bt_2 wa.1 wb.1 wc.1 wd.1
  have s3 := bt_3 ⟨wa.2.1, wa.2.2.1⟩ ⟨wb.2.1, wb.2.2.1⟩ ⟨wc.2.1, wc.2.2.1⟩ ⟨wd.2.1, wd.2.2.1⟩
  have s4 := bt_4 (a := bw2 (bw1 a) % 16 + bw2 (bw1 a) / 16) (b := bw2 (bw1 b) % 16 + bw2 (bw1 b) / 16) (c := bw2 (bw1 c) % 16 + bw2 (bw1 c) / 16) (d := bw2 (bw1 d) % 16 + bw2 (bw1 d) / 16) (by omega) (by omega) (by omega) (by omega) rfl
  unfold bcE
  dsimp only
  have h1 : nI n - (((nI n).toUInt32 >>> ((1 : Int32).toUInt32 &&& Int32.toUInt32 31)).toInt32 &&& (1431655765 : Int32)) = nI (256 * (256 * (256 * bw1 d + bw1 c) + bw1 b) + bw1 a) := by
    rw [pk_ushrN hn 1 1 (by decide), show (1431655765 : Int32) = nI 1431655765 from rfl, nx_and, pk_sub s1.2, s1.1]
  rw [h1]
  have b1 : 256 * (256 * (256 * bw1 d + bw1 c) + bw1 b) + bw1 a < 2 ^ 32 := by omega
  generalize 256 * (256 * (256 * bw1 d + bw1 c) + bw1 b) + bw1 a = y1 at *
  have h2 : (nI y1 &&& (858993459 : Int32)) + (((nI y1).toUInt32 >>> ((2 : Int32).toUInt32 &&& Int32.toUInt32 31)).toInt32 &&& (858993459 : Int32)) = nI (256 * (256 * (256 * bw2 (bw1 d) + bw2 (bw1 c)) + bw2 (bw1 b)) + bw2 (bw1 a)) := by
    rw [pk_ushrN b1 2 2 (by decide), show (858993459 : Int32) = nI 858993459 from rfl, nx_and, nx_and, nI_add, show (2 : Nat) ^ 2 = 4 from rfl, s2]
  rw [h2]
  have b2 : 256 * (256 * (256 * bw2 (bw1 d) + bw2 (bw1 c)) + bw2 (bw1 b)) + bw2 (bw1 a) < 2 ^ 32 := by omega
  generalize 256 * (256 * (256 * bw2 (bw1 d) + bw2 (bw1 c)) + bw2 (bw1 b)) + bw2 (bw1 a) = y2 at *
  have h3 : (nI y2 + ((nI y2).toUInt32 >>> ((4 : Int32).toUInt32 &&& Int32.toUInt32 31)).toInt32) &&& (252645135 : Int32) = nI (256 * (256 * (256 * (bw2 (bw1 d) % 16 + bw2 (bw1 d) / 16) + (bw2 (bw1 c) % 16 + bw2 (bw1 c) / 16)) + (bw2 (bw1 b) % 16 + bw2 (bw1 b) / 16)) + (bw2 (bw1 a) % 16 + bw2 (bw1 a) / 16)) := by
    rw [pk_ushrN b2 4 4 (by decide), show (252645135 : Int32) = nI 252645135 from rfl, nI_add, nx_and, show (2 : Nat) ^ 4 = 16 from rfl, s3]
  rw [h3]
  have b3 : 256 * (256 * (256 * (bw2 (bw1 d) % 16 + bw2 (bw1 d) / 16) + (bw2 (bw1 c) % 16 + bw2 (bw1 c) / 16)) + (bw2 (bw1 b) % 16 + bw2 (bw1 b) / 16)) + (bw2 (bw1 a) % 16 + bw2 (bw1 a) / 16) < 2 ^ 28 := by omega
  generalize 256 * (256 * (256 * (bw2 (bw1 d) % 16 + bw2 (bw1 d) / 16) + (bw2 (bw1 c) % 16 + bw2 (bw1 c) / 16)) + (bw2 (bw1 b) % 16 + bw2 (bw1 b) / 16)) + (bw2 (bw1 a) % 16 + bw2 (bw1 a) / 16) = y3 at *
  have h4 : nI y3 + ((nI y3).toUInt32 >>> ((8 : Int32).toUInt32 &&& Int32.toUInt32 31)).toInt32 = nI (y3 + y3 / 256) := by
    rw [pk_ushrN (by omega) 8 8 (by decide), nI_add]
  rw [h4]
  have h5 : nI (y3 + y3 / 256) + ((nI (y3 + y3 / 256)).toUInt32 >>> ((16 : Int32).toUInt32 &&& Int32.toUInt32 31)).toInt32 = nI ((y3 + y3 / 256) + (y3 + y3 / 256) / 65536) := by
    rw [pk_ushrN (by omega) 16 16 (by decide), nI_add]
  rw [h5, pk_andN (by omega) 6 (by decide), show (2 : Nat) ^ 6 = 64 from rfl, s4]
theorem akF_congr {P Q : Nat → Bool} : ∀ n : Nat, (∀ k : Nat, k < n → P k = Q k) → akF P n = akF Q n := by
  intro n
  induction n with
  | zero => intro _; rfl
  | succ n ih => intro h; rw [akF, akF, ih (fun k hk => h k (by omega)), h n (by omega)]
theorem akF_split (P : Nat → Bool) (m : Nat) : ∀ n : Nat, akF P (m + n) = akF P m + akF (fun k => P (m + k)) n := by
  intro n
  induction n with
  | zero => rfl
  | succ n ih => rw [show m + (n + 1) = (m + n) + 1 from rfl, akF, akF, ih]; omega
theorem bitCount_all {F : Nat} {X : qH} (x : Int32) : fJ6_bitCount_0f7a4 F X x = some (nI (akF (fun i => x.toBitVec.getLsbD i) 32)) := by
  have e : fJ6_bitCount_0f7a4 F X x = some (bcE x) := rfl
  rw [e]
  have hx : x = nI x.toBitVec.toNat := Int32.toBitVec_inj.mp (by show _ = BitVec.ofNat 32 _; simp)
  have hn : x.toBitVec.toNat < 2 ^ 32 := x.toBitVec.isLt
  have hb : ∀ i : Nat, x.toBitVec.getLsbD i = x.toBitVec.toNat.testBit i := fun i => rfl
  conv => lhs; rw [hx]
  rw [bcE_nat hn, akF_congr 32 (fun k _ => hb k)]
  generalize x.toBitVec.toNat = n at hn
  have hq : ∀ s : Nat, akF (fun k => n.testBit (s + k)) 8 = akF (fun i => (n / 2 ^ s % 256).testBit i) 8 := fun s => akF_congr 8 (fun k hk => by
    rw [show (256 : Nat) = 2 ^ 8 from rfl, Nat.testBit_mod_two_pow, Nat.testBit_div_two_pow, decide_eq_true hk, Bool.true_and, Nat.add_comm])
  rw [show (32 : Nat) = 24 + 8 from rfl, akF_split _ 24 8, show (24 : Nat) = 16 + 8 from rfl, akF_split _ 16 8, show (16 : Nat) = 8 + 8 from rfl, akF_split _ 8 8]
  have h0 := hq 0
  have h1 := hq 8
  have h2 := hq 16
  have h3 := hq 24
  simp only [Nat.zero_add, Nat.pow_zero, Nat.div_one] at h0
  rw [show (2 : Nat) ^ 8 = 256 from rfl] at h1
  rw [show (2 : Nat) ^ 16 = 65536 from rfl] at h2
  rw [show (2 : Nat) ^ 24 = 16777216 from rfl] at h3
  rw [← h0, ← h1, ← h2, ← h3]
