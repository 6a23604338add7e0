/-! greens, isGreen, anyGreen -/
def gcF (d : Nat → Nat) : Nat → Nat
  | 0 => 0
  | n + 1 => gcF d n + if d n = 3 then 1 else 0
theorem gcF_le (d : Nat → Nat) : ∀ n : Nat, gcF d n ≤ n := by
  intro n
  induction n with
  | zero => exact Nat.le_refl _
  | succ n ih => rw [gcF]; split <;> omega
theorem greens_L {F : Nat} {X : qH} {d : Nat → Nat} : ∀ (j n k : Nat), (∀ i : Nat, i < j → 1 ≤ d i ∧ d i ≤ 5) → j ≤ 5 → j < n → fX8_greens_L4 F X n (nI k) (nI (stN d j)) = some (nI (k + gcF d j)) := by
  intro j
  induction j with
  | zero =>
    intro n k hd hj hn
    obtain ⟨n', rfl⟩ : ∃ q, n = q + 1 := ⟨n - 1, by omega⟩
    show fX8_greens_L4_B F X (fX8_greens_L4 F X n') (nI k) (nI (stN d 0)) = _
    unfold fX8_greens_L4_B
    rw [show stN d 0 = 0 from rfl, if_pos (show nI 0 ≤ 0 by decide)]
    rfl
  | succ j ih =>
    intro n k hd hj hn
    obtain ⟨n', rfl⟩ : ∃ q, n = q + 1 := ⟨n - 1, by omega⟩
    show fX8_greens_L4_B F X (fX8_greens_L4 F X n') (nI k) (nI (stN d (j + 1))) = _
    unfold fX8_greens_L4_B
    have hlt := stN_lt5 (d := d) (n := j + 1) (fun i hi => (hd i hi).2) hj
    have hdj := hd j (by omega)
    have e : stN d (j + 1) = 10 * stN d j + d j := rfl
    have h0 : ¬ nI (stN d (j + 1)) ≤ 0 := nI_nle (by omega) (by omega)
    have hrm : nI (stN d (j + 1)) - nI (stN d (j + 1)) / 10 * 10 = nI (d j) := by
      rw [show (10 : Int32) = nI 10 from rfl, pk_rem (by omega) (by omega) (by omega), e]
      congr 1
      omega
    have hdv : nI (stN d (j + 1)) / 10 = nI (stN d j) := by
      rw [show (10 : Int32) = nI 10 from rfl, pk_div (by omega) (by omega) (by omega), e]
      congr 1
      omega
    have e3 : (nI (d j) = (3 : Int32)) = (d j = 3) := propext (nI_eq (b := 3) (by omega) (by omega))
    rw [if_neg h0, hrm]
    simp only [qlt, nI_1, hdv, e3, some_ite, Option.bind_some]
    by_cases q : d j = 3
    · rw [if_pos q, ih n' (k + 1) (fun i hi => hd i (by omega)) (by omega) (by omega), gcF, if_pos q]
      congr 2
      omega
    · rw [if_neg q, ih n' k (fun i hi => hd i (by omega)) (by omega) (by omega), gcF, if_neg q]
      rfl
theorem greens_ok {F : Nat} {X : qH} {d : Nat → Nat} {n : Nat} (hd : ∀ i : Nat, i < n → 1 ≤ d i ∧ d i ≤ 5) (hn : n ≤ 5) (hF : 10 ≤ F) : fX8_greens F X (nI (stN d n)) = some (nI (gcF d n)) := by
  unfold fX8_greens
  rw [show (0 : Int32) = nI 0 from rfl, greens_L n F 0 hd hn (by omega)]
  simp
theorem isGreen_L {F : Nat} {X Y : qH} {m h n : Nat} {d : Nat → Nat} (hX : shX X = Y) (hM : YM Y m) (hh : h < 8) (hn : ga X (m + 3) h = nI n ∧ n ≤ 5) (hd : ∀ k : Nat, k < n → ga X (m + 4) (5 * h + k) = nI (d k) ∧ 1 ≤ d k ∧ d k ≤ 5) :
    ∀ (t k : Nat), k ≤ n → n - k < t → fX10_isGreen_L4 F X m (nI h) t (if gcF d k = 0 then 0 else 1) (nI k) = some (if gcF d n = 0 then 0 else 1) := by
  intro t
  induction t with
  | zero => intro k hk ht; omega
  | succ t ih =>
    intro k hk ht
    have hn5 := hn.2
    show fX10_isGreen_L4_B F X m (nI h) (fX10_isGreen_L4 F X m (nI h) t) _ (nI k) = _
    unfold fX10_isGreen_L4_B
    by_cases hkn : k = n
    · subst hkn
      simp only [gM hM, hX, Option.bind_some, hh, hn.1, if_pos (nI_le (Nat.le_refl k) (by omega))]
    · have hlt : k < n := by omega
      have hd1 := hd k hlt
      have l40 : 5 * h + k < 40 := by omega
      have e5 : (5 : Int32) * nI h + nI k = nI (5 * h + k) := by
        rw [show (5 : Int32) = nI 5 from rfl, pk_mul, nI_add]
      have e3 : (nI (d k) = (3 : Int32)) = (d k = 3) := propext (nI_eq (b := 3) (by omega) (by omega))
      simp only [gM hM, hX, Option.bind_some, hh, hn.1, if_neg (nI_ge hlt (by omega)), e5, l40, hd1.1, e3, qlt, nI_1, some_ite]
      have e : (if (if gcF d k = 0 then (0 : Int32) else 1) = 0 then (if d k = 3 then (1 : Int32) else 0) else 1) = if gcF d (k + 1) = 0 then 0 else 1 := by
        rw [gcF]
        by_cases q : gcF d k = 0
        · rw [if_pos q, if_pos rfl, q]
          by_cases q2 : d k = 3
          · rw [if_pos q2, if_pos q2, if_neg (by omega)]
          · rw [if_neg q2, if_neg q2, if_pos rfl]
        · rw [if_neg q, if_neg (show ¬ (1 : Int32) = 0 by decide), if_neg (by omega)]
      rw [e]
      exact ih (k + 1) (by omega) (by omega)
theorem isGreen_ok {F : Nat} {X Y : qH} {m h n : Nat} {d : Nat → Nat} (hX : shX X = Y) (hM : YM Y m) (hh : h < 8) (hn : ga X (m + 3) h = nI n ∧ n ≤ 5) (hd : ∀ k : Nat, k < n → ga X (m + 4) (5 * h + k) = nI (d k) ∧ 1 ≤ d k ∧ d k ≤ 5) (hF : 10 ≤ F) : fX10_isGreen F X m (nI h) = some (if gcF d n = 0 then 0 else 1) := by
  have hn5 := hn.2
  have e := isGreen_L (F := F) hX hM hh hn hd F 0 (by omega) (by omega)
  rw [show nI 0 = (0 : Int32) from rfl, show (if gcF d 0 = 0 then (0 : Int32) else 1) = 0 from rfl] at e
  simp only [fX10_isGreen, gM hM, hX, e, Option.bind_some]
  split <;> rfl
