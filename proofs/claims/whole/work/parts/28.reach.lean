/-! reach, inReach against the model's seers (without hiding) -/
def ap (p q : Nat) : Nat := if p ≤ q then q - p else p - q
theorem ap_c {p q : Nat} (hp : p < 1000) (hq : q < 1000) : (if 0 ≤ nI q - nI p then nI q - nI p else 0 - (nI q - nI p)) = nI (ap p q) := by
  have hx : (nI q - nI p).toInt = (q : Int) - p := pk_sub_toInt (by omega) (by omega)
  by_cases h : p ≤ q
  · have h0 : (0 : Int32) ≤ nI q - nI p := by rw [Int32.le_iff_toInt_le, hx, Int32.toInt_zero]; omega
    rw [if_pos h0, ap, if_pos h, pk_sub h]
  · have h0 : ¬ (0 : Int32) ≤ nI q - nI p := by rw [Int32.le_iff_toInt_le, hx, Int32.toInt_zero]; omega
    rw [if_neg h0, ap, if_neg h]
    have e : 0 - (nI q - nI p) = nI p - nI q := by
      apply Int32.toBitVec_inj.mp
      simp
    rw [e, pk_sub (by omega)]
theorem apart_m {F : Nat} {X : qH} {p q : Nat} (hp : p < 1000) (hq : q < 1000) : fX10_apart F X (nI p) (nI q) = some (nI (ap p q)) := by
  unfold fX10_apart ap
  by_cases h : p ≤ q
  · rw [if_pos (nI_le h (by omega)), if_pos h, pk_sub h]; rfl
  · rw [if_neg (nI_ge (by omega) (by omega)), if_neg h, pk_sub (by omega)]; rfl
/-- those in reach, as a set: of the first k houses -/
def irF (ce : Nat → Nat) (R : Int32) (o h : Nat) : Nat → Int32
  | 0 => 0
  | k + 1 => if k = h ∨ R < nI (ap o (ce k)) then irF ce R o h k else irF ce R o h k ||| ((1 : Int32) <<< (nI k &&& 31))
theorem inReach_L {F : Nat} {X Y : qH} {b c h o : Nat} {R : Int32} {ce : Nat → Nat} (hX : shX X = Y) (hB : YB Y b) (h5 : gi X b 5 = nI c) (c8 : c ≤ 8) (hce : ∀ g : Nat, g < c → ga X (b + 1) g = nI (ce g) ∧ ce g < 30) (hh : h < 8) (ho : o < 30) :
    ∀ (n g : Nat), g ≤ c → c - g < n → fX3_inReach_L21 F X b (nI h) (nI o) R n (irF ce R o h g) (nI g) = some (irF ce R o h c) := by
  intro n
  induction n with
  | zero => intro g hg hn; omega
  | succ n ih =>
    intro g hg hn
    show fX3_inReach_L21_B F X b (nI h) (nI o) R (fX3_inReach_L21 F X b (nI h) (nI o) R n) _ (nI g) = _
    unfold fX3_inReach_L21_B
    by_cases hgc : g = c
    · subst hgc
      simp only [gB hB, hX, Option.bind_some, h5, if_pos (nI_le (Nat.le_refl g) (by omega))]
    · have hlt : g < c := by omega
      have l1 : g < 8 := by omega
      have c1 := (hce g hlt).2
      simp only [gB hB, hX, Option.bind_some, h5, if_neg (nI_ge hlt (by omega)), l1, (hce g hlt).1, qlt, nI_1, ap_c (show o < 1000 by omega) (show ce g < 1000 by omega), nI_eq (show g < 2 ^ 31 by omega) (show h < 2 ^ 31 by omega), some_ite]
      have e : (if g = h then irF ce R o h g else if R < nI (ap o (ce g)) then irF ce R o h g else irF ce R o h g ||| ((1 : Int32) <<< (nI g &&& 31))) = irF ce R o h (g + 1) := by
        rw [show irF ce R o h (g + 1) = if g = h ∨ R < nI (ap o (ce g)) then irF ce R o h g else irF ce R o h g ||| ((1 : Int32) <<< (nI g &&& 31)) from rfl]
        by_cases q1 : g = h
        · rw [if_pos q1, if_pos (Or.inl q1)]
        · rw [if_neg q1]
          by_cases q2 : R < nI (ap o (ce g))
          · rw [if_pos q2, if_pos (Or.inr q2)]
          · rw [if_neg q2, if_neg (fun q => q.elim q1 q2)]
      rw [e]
      exact ih (g + 1) (by omega) (by omega)
theorem seers_L {F : Nat} {X Y : qH} {m c h o : Nat} {R : Int32} {ce : Nat → Nat} (hX : shX X = Y) (hM : YM Y m) (h5 : gi X m 1 = nI c) (c8 : c ≤ 8) (hce : ∀ g : Nat, g < c → ga X (m + 1) g = nI (ce g) ∧ ce g < 30) (hh : h < 8) (ho : o < 30) (hR : fX10_reach F X m (nI h) = some R) :
    ∀ (n g : Nat), g ≤ c → c - g < n → fX10_seers_L11 F X m (nI h) (nI o) n (irF ce R o h g) (nI g) = some (irF ce R o h c) := by
  intro n
  induction n with
  | zero => intro g hg hn; omega
  | succ n ih =>
    intro g hg hn
    show fX10_seers_L11_B F X m (nI h) (nI o) (fX10_seers_L11 F X m (nI h) (nI o) n) _ (nI g) = _
    unfold fX10_seers_L11_B
    by_cases hgc : g = c
    · subst hgc
      simp only [gM hM, hX, Option.bind_some, h5, if_pos (nI_le (Nat.le_refl g) (by omega))]
    · have hlt : g < c := by omega
      have l1 : g < 8 := by omega
      have c1 := (hce g hlt).2
      simp only [gM hM, hX, Option.bind_some, h5, if_neg (nI_ge hlt (by omega)), l1, (hce g hlt).1, qlt, nI_1, apart_m (F := F) (X := X) (show o < 1000 by omega) (show ce g < 1000 by omega), hR, nI_eq (show g < 2 ^ 31 by omega) (show h < 2 ^ 31 by omega), some_ite]
      have e : (irF ce R o h g ||| if g = h then 0 else if R < nI (ap o (ce g)) then 0 else ((1 : Int32) <<< (nI g &&& 31))) = irF ce R o h (g + 1) := by
        rw [show irF ce R o h (g + 1) = if g = h ∨ R < nI (ap o (ce g)) then irF ce R o h g else irF ce R o h g ||| ((1 : Int32) <<< (nI g &&& 31)) from rfl]
        by_cases q1 : g = h
        · rw [if_pos q1, if_pos (Or.inl q1), or0]
        · rw [if_neg q1]
          by_cases q2 : R < nI (ap o (ce g))
          · rw [if_pos q2, if_pos (Or.inr q2), or0]
          · rw [if_neg q2, if_neg (fun q => q.elim q1 q2)]
      rw [e]
      exact ih (g + 1) (by omega) (by omega)
theorem reach_c {F : Nat} {X Y : qH} {a b h : Nat} (hX : shX X = Y) (hN : YN Y a) (hB : YB Y b) (hh : h < 8) : fX3_reach F X a b (nI h) = some (ga X (b + 2) h + 3 - gi X a 1 / 2) := by
  simp only [fX3_reach, gN hN, gB hB, hX, hh, Option.bind_some]
theorem reach_m {F : Nat} {X Y : qH} {m h : Nat} (hX : shX X = Y) (hM : YM Y m) (hh : h < 8) : fX10_reach F X m (nI h) = some (ga X (m + 2) h + 3 - ga X (m + 5) 0 / 2) := by
  have l1 : qaI X 0 (m + 5) (0 : Int32) = some (ga X (m + 5) 0) := by
    simp only [show (0 : Int32) = nI 0 from rfl, gM hM, hX, show 0 < 43 by decide]
  simp only [fX10_reach, gM hM, hX, hh, l1, Option.bind_some]
