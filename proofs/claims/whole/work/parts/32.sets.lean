/-! sets of houses: hasAll, isSet, bits, bitCount -/
theorem shl_c {c : Nat} (h : c ≤ 8) : (1 : Int32) <<< (nI c &&& 31) = nI (2 ^ c) := by
  rcases (show c = 0 ∨ c = 1 ∨ c = 2 ∨ c = 3 ∨ c = 4 ∨ c = 5 ∨ c = 6 ∨ c = 7 ∨ c = 8 by omega) with q | q | q | q | q | q | q | q | q <;> subst q <;> decide
theorem pow_c {c : Nat} (h : c ≤ 8) : 1 ≤ 2 ^ c ∧ 2 ^ c ≤ 256 := ⟨Nat.one_le_two_pow, Nat.le_trans (Nat.pow_le_pow_right (by omega) h) (Nat.le_refl 256)⟩
theorem hasAll_ok {F : Nat} {X Y : qH} {b c : Nat} (hX : shX X = Y) (hB : YB Y b) (h5 : gi X b 5 = nI c) (c8 : c ≤ 8) (v : Int32) : fX0_hasAll F X b v = some (if 0 ≤ v ∧ v < nI (2 ^ c) then 1 else 0) := by
  by_cases h0 : v < 0
  · rw [if_neg (fun q => i_nlt.mpr q.1 h0)]
    simp only [fX0_hasAll, gB hB, hX, Option.bind_some, if_pos h0]
    rfl
  · by_cases h1 : nI (2 ^ c) ≤ v
    · rw [if_neg (fun q => (i_nlt.mpr h1) q.2)]
      simp only [fX0_hasAll, gB hB, hX, Option.bind_some, if_neg h0, h5, shl_c c8, if_pos h1]
      rfl
    · rw [if_pos ⟨i_nlt.mp h0, Int32.not_le.mp h1⟩]
      simp only [fX0_hasAll, gB hB, hX, Option.bind_some, if_neg h0, h5, shl_c c8, if_neg h1]
      rfl
theorem isSet_ok {F : Nat} {X Y : qH} {m c : Nat} (hX : shX X = Y) (hM : YM Y m) (h5 : gi X m 1 = nI c) (c8 : c ≤ 8) (v : Int32) : fX10_isSet F X m v = some (if 0 ≤ v ∧ v < nI (2 ^ c) then 1 else 0) := by
  have hp := pow_c c8
  have e : nI (2 ^ c) - 1 = nI (2 ^ c - 1) := pk_sub (b := 1) hp.1
  have hiff : (0 ≤ v ∧ v ≤ nI (2 ^ c - 1)) ↔ (0 ≤ v ∧ v < nI (2 ^ c)) := by
    constructor
    · rintro ⟨a1, a2⟩
      obtain ⟨k, hk, rfl⟩ := nI_of (i_nlt.mpr a1)
      refine ⟨a1, (nI_ltI hk (by omega)).mpr ?_⟩
      by_cases z : k < 2 ^ c
      · exact z
      · exact absurd a2 (nI_ge (show 2 ^ c - 1 < k by omega) (by omega))
    · rintro ⟨a1, a2⟩
      obtain ⟨k, hk, rfl⟩ := nI_of (i_nlt.mpr a1)
      have := (nI_ltI hk (by omega)).mp a2
      exact ⟨a1, nI_le (show k ≤ 2 ^ c - 1 by omega) (by omega)⟩
  have hin := l_in F X v 0 (nI (2 ^ c - 1)) (l := 0) (h := (nI (2 ^ c - 1)).toInt64) rfl rfl
  simp only [fX10_isSet, gM hM, hX, Option.bind_some, h5, shl_c c8, e, hin]
  by_cases q : 0 ≤ v ∧ v < nI (2 ^ c)
  · rw [if_pos q, if_pos (hiff.mpr q)]; rfl
  · rw [if_neg q, if_neg (fun z => q (hiff.mp z))]; rfl
def bcF (x : Int32) : Nat → Int32
  | 0 => 0
  | k + 1 => bcF x k + ((x >>> (nI k &&& 31)) &&& 1)
theorem bits_L {F : Nat} {X : qH} {x : Int32} : ∀ (n k : Nat), k ≤ 8 → 8 - k < n → fX10_bits_L4 F X x n (bcF x k) (nI k) = some (bcF x 8) := by
  intro n
  induction n with
  | zero => intro k hk hn; omega
  | succ n ih =>
    intro k hk hn
    show fX10_bits_L4_B F X x (fX10_bits_L4 F X x n) _ (nI k) = _
    unfold fX10_bits_L4_B
    by_cases hgc : k = 8
    · subst hgc
      rw [if_pos (show (8 : Int32) ≤ nI 8 by decide)]
    · rw [if_neg (show ¬ (8 : Int32) ≤ nI k from nI_ge (b := 8) (show k < 8 by omega) (by omega))]
      simp only [qlt, nI_1]
      exact ih (k + 1) (by omega) (by omega)
theorem bits_ok {F : Nat} {X : qH} (x : Int32) (hF : 9 ≤ F) : fX10_bits F X x = some (bcF x 8) := by
  have e := bits_L (F := F) (X := X) (x := x) F 0 (by omega) (by omega)
  rw [show nI 0 = (0 : Int32) from rfl, show bcF x 0 = 0 from rfl] at e
  simp only [fX10_bits, e, Option.bind_some]
def bcE (x : Int32) : Int32 :=
  let v1 := x - (((x.toUInt32 >>> ((1 : Int32).toUInt32 &&& Int32.toUInt32 31)).toInt32) &&& (1431655765 : Int32))
  let v2 := (v1 &&& (858993459 : Int32)) + (((v1.toUInt32 >>> ((2 : Int32).toUInt32 &&& Int32.toUInt32 31)).toInt32) &&& (858993459 : Int32))
  let v3 := (v2 + ((v2.toUInt32 >>> ((4 : Int32).toUInt32 &&& Int32.toUInt32 31)).toInt32)) &&& (252645135 : Int32)
  let v4 := v3 + ((v3.toUInt32 >>> ((8 : Int32).toUInt32 &&& Int32.toUInt32 31)).toInt32)
  let v5 := v4 + ((v4.toUInt32 >>> ((16 : Int32).toUInt32 &&& Int32.toUInt32 31)).toInt32)
  v5 &&& (63 : Int32)
set_option maxRecDepth 20000 in
theorem bcE_all : ∀ m : Fin 256, bcE (nI m.val) = bcF (nI m.val) 8 ∧ ∃ k : Fin 9, bcF (nI m.val) 8 = nI k.val := by decide +kernel
theorem bitCount_ok {F : Nat} {X : qH} {m : Nat} (h : m < 256) : fJ6_bitCount_0f7a4 F X (nI m) = some (bcF (nI m) 8) := by
  rw [← (bcE_all ⟨m, h⟩).1]
  rfl
