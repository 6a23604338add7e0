/-! forged -/
def okD : Nat → Nat → Bool
  | 0, N => decide (N = 0)
  | k + 1, N => decide (N = 0) || (decide (1 ≤ N % 10 ∧ N % 10 ≤ 5) && okD k (N / 10))
theorem okD_rep : ∀ k N : Nat, okD k N = true → ∃ (n : Nat) (e : Nat → Nat), n ≤ k ∧ (∀ i : Nat, i < n → 1 ≤ e i ∧ e i ≤ 5) ∧ N = stN e n := by
  intro k
  induction k with
  | zero => intro N h; exact ⟨0, fun _ => 0, Nat.le_refl _, fun i hi => by omega, of_decide_eq_true h⟩
  | succ k ih =>
    intro N h
    unfold okD at h
    rw [Bool.or_eq_true, Bool.and_eq_true] at h
    rcases h with h | ⟨h1, h2⟩
    · exact ⟨0, fun _ => 0, by omega, fun i hi => by omega, of_decide_eq_true h⟩
    · have h1 := of_decide_eq_true h1
      obtain ⟨n, e, hn, he, hN⟩ := ih (N / 10) h2
      refine ⟨n + 1, fun i => if i = n then N % 10 else e i, by omega, fun i hi => ?_, ?_⟩
      · dsimp only
        by_cases z : i = n
        · rw [if_pos z]; exact h1
        · rw [if_neg z]; exact he i (by omega)
      · rw [stN, if_pos rfl, stN_congr (d := fun i => if i = n then N % 10 else e i) (e := e) n (fun i hi => if_neg (by omega)), ← hN]
        omega
theorem okD_stN {e : Nat → Nat} : ∀ k n : Nat, n ≤ k → (∀ i : Nat, i < n → 1 ≤ e i ∧ e i ≤ 5) → okD k (stN e n) = true := by
  intro k
  induction k with
  | zero => intro n hn _; rw [show n = 0 by omega]; rfl
  | succ k ih =>
    intro n hn he
    unfold okD
    cases n with
    | zero => rfl
    | succ n =>
      have h1 := he n (by omega)
      rw [show stN e (n + 1) = 10 * stN e n + e n from rfl, show (10 * stN e n + e n) % 10 = e n by omega, show (10 * stN e n + e n) / 10 = stN e n by omega, decide_eq_true h1, ih n (by omega) (fun i hi => he i (by omega))]
      simp
def ndF : Nat → Nat → Nat
  | 0, _ => 0
  | k + 1, N => if N = 0 then 0 else ndF k (N / 10) + 1
theorem ndF_le : ∀ k j N : Nat, N < 10 ^ j → ndF k N ≤ j := by
  intro k
  induction k with
  | zero => intro j N _; exact Nat.zero_le _
  | succ k ih =>
    intro j N h
    unfold ndF
    by_cases z : N = 0
    · rw [if_pos z]; exact Nat.zero_le _
    · rw [if_neg z]
      cases j with
      | zero => rw [Nat.pow_zero] at h; omega
      | succ j =>
        rw [Nat.pow_succ] at h
        have := ih j (N / 10) (by omega)
        omega
theorem ndF_ge : ∀ k j N : Nat, j < k → 10 ^ j ≤ N → j < ndF k N := by
  intro k
  induction k with
  | zero => intro j N h; omega
  | succ k ih =>
    intro j N hj h
    unfold ndF
    have h0 : 1 ≤ 10 ^ j := Nat.one_le_pow _ _ (by omega)
    rw [if_neg (by omega)]
    cases j with
    | zero => omega
    | succ j =>
      rw [Nat.pow_succ] at h
      have := ih j (N / 10) (by omega) (by omega)
      omega
theorem ndF_stN {e : Nat → Nat} : ∀ k n : Nat, n ≤ k → (∀ i : Nat, i < n → 1 ≤ e i ∧ e i ≤ 5) → ndF k (stN e n) = n := by
  intro k
  induction k with
  | zero => intro n hn _; rw [show n = 0 by omega]; rfl
  | succ k ih =>
    intro n hn he
    unfold ndF
    cases n with
    | zero => rfl
    | succ n =>
      have h1 := he n (by omega)
      rw [show stN e (n + 1) = 10 * stN e n + e n from rfl, if_neg (by omega), show (10 * stN e n + e n) / 10 = stN e n by omega, ih n (by omega) (fun i hi => he i (by omega))]
theorem i_div10 {N : Nat} (h : N < 2 ^ 31) : nI N / (10 : Int32) = nI (N / 10) := by
  rw [show (10 : Int32) = nI 10 from rfl, pk_div h (by omega) (by omega)]
theorem i_rem10 {N : Nat} (h : N < 2 ^ 31) : nI N - nI (N / 10) * (10 : Int32) = nI (N % 10) := by
  rw [← i_div10 h, show (10 : Int32) = nI 10 from rfl, pk_rem h (by omega) (by omega)]
theorem areStars_L {F : Nat} {X : qH} : ∀ k n N : Nat, N < 2 ^ 31 → k < n → N < 10 ^ k → fX8_areStars_L15 F X n (nI N) = some (if okD k N = true then .inr () else .inl 0) := by
  intro k
  induction k with
  | zero =>
    intro n N h31 hn h
    obtain ⟨n', rfl⟩ : ∃ q, n = q + 1 := ⟨n - 1, by omega⟩
    rw [Nat.pow_zero] at h
    rw [show N = 0 by omega]
    show fX8_areStars_L15_B F X (fX8_areStars_L15 F X n') (nI 0) = _
    unfold fX8_areStars_L15_B
    rw [if_pos (show nI 0 ≤ (0 : Int32) by decide)]
    rfl
  | succ k ih =>
    intro n N h31 hn h
    obtain ⟨n', rfl⟩ : ∃ q, n = q + 1 := ⟨n - 1, by omega⟩
    show fX8_areStars_L15_B F X (fX8_areStars_L15 F X n') (nI N) = _
    unfold fX8_areStars_L15_B
    by_cases z : N = 0
    · subst z
      rw [if_pos (show nI 0 ≤ (0 : Int32) by decide)]
      rfl
    · rw [if_neg (nI_nle (by omega) h31)]
      rw [Nat.pow_succ] at h
      simp only [i_div10 h31, i_rem10 h31, qlt]
      have hm := Nat.mod_lt N (show 0 < 10 by omega)
      have hi := ih n' (N / 10) (by omega) (by omega) (by omega)
      by_cases z1 : N % 10 < 1
      · rw [if_pos (show nI (N % 10) < (1 : Int32) from nI_lt (b := 1) z1 (by omega)), if_neg (show ¬ okD (k + 1) N = true from fun y => by
          unfold okD at y
          rw [Bool.or_eq_true, Bool.and_eq_true] at y
          rcases y with y | ⟨y, -⟩
          · exact z (of_decide_eq_true y)
          · have := of_decide_eq_true y; omega)]
      · rw [if_neg (show ¬ nI (N % 10) < (1 : Int32) from nI_nlt (b := 1) (by omega) (by omega))]
        by_cases z2 : N % 10 ≤ 5
        · rw [if_pos (show nI (N % 10) ≤ (5 : Int32) from nI_le (b := 5) z2 (by omega)), hi]
          have e : okD (k + 1) N = okD k (N / 10) := by
            rw [okD, decide_eq_false z, decide_eq_true (show 1 ≤ N % 10 ∧ N % 10 ≤ 5 by omega)]
            simp
          rw [e]
        · rw [if_neg (show ¬ nI (N % 10) ≤ (5 : Int32) from nI_ge (a := 5) (by omega) (by omega)), if_neg (show ¬ okD (k + 1) N = true from fun y => by
            unfold okD at y
            rw [Bool.or_eq_true, Bool.and_eq_true] at y
            rcases y with y | ⟨y, -⟩
            · exact z (of_decide_eq_true y)
            · have := of_decide_eq_true y; omega)]
theorem areStars_ok {F : Nat} {X : qH} {N : Nat} (h : N < 2 ^ 31) (hF : 100 ≤ F) : fX8_areStars F X (nI N) = some (if 1 ≤ N ∧ N ≤ 99999 ∧ okD 5 N = true then 1 else 0) := by
  unfold fX8_areStars
  by_cases z : N < 1
  · rw [if_pos (show nI N < (1 : Int32) from nI_lt (b := 1) z (by omega)), if_neg (by omega)]
  · rw [if_neg (show ¬ nI N < (1 : Int32) from nI_nlt (b := 1) (by omega) h)]
    by_cases z2 : N ≤ 99999
    · rw [if_pos (show nI N ≤ (99999 : Int32) from nI_le (b := 99999) z2 (by omega)), areStars_L 5 F N h (by omega) (by omega)]
      by_cases z3 : okD 5 N = true
      · rw [if_pos z3, if_pos ⟨by omega, z2, z3⟩]; rfl
      · rw [if_neg z3, if_neg (fun y => z3 y.2.2)]; rfl
    · rw [if_neg (show ¬ nI N ≤ (99999 : Int32) from nI_ge (a := 99999) (by omega) h), if_neg (by omega)]
theorem figs4_L {F : Nat} {X : qH} {a : Nat} {v : Int32} : ∀ k n N t : Nat, N < 2 ^ 31 → k < n → N < 10 ^ k → fX10_figuresOf_L4 F X a v n (nI t) (nI N) = some (nI (t + ndF k N)) := by
  intro k
  induction k with
  | zero =>
    intro n N t h31 hn h
    obtain ⟨n', rfl⟩ : ∃ q, n = q + 1 := ⟨n - 1, by omega⟩
    rw [Nat.pow_zero] at h
    rw [show N = 0 by omega]
    show fX10_figuresOf_L4_B F X a v (fX10_figuresOf_L4 F X a v n') (nI t) (nI 0) = _
    unfold fX10_figuresOf_L4_B
    rw [if_pos (show nI 0 ≤ (0 : Int32) by decide)]
    rfl
  | succ k ih =>
    intro n N t h31 hn h
    obtain ⟨n', rfl⟩ : ∃ q, n = q + 1 := ⟨n - 1, by omega⟩
    show fX10_figuresOf_L4_B F X a v (fX10_figuresOf_L4 F X a v n') (nI t) (nI N) = _
    unfold fX10_figuresOf_L4_B
    by_cases z : N = 0
    · subst z
      rw [if_pos (show nI 0 ≤ (0 : Int32) by decide)]
      rfl
    · rw [Nat.pow_succ] at h
      rw [if_neg (nI_nle (by omega) h31), i_div10 h31]
      simp only [qlt, nI_1]
      rw [ih n' (N / 10) (t + 1) (by omega) (by omega) (by omega), ndF, if_neg z]
      congr 2
      omega
theorem i_m1 (x : Int32) : x + (-1 : Int32) = x - 1 := by
  rw [Int32.sub_eq_add_neg]
theorem YM.p17 {Y : qH} {m : Nat} (h : YM Y m) : Y (m + 17) = some (.inl (0, 5, .inl (fun _ => 0))) := h.2.2.2.2.2.2.2.2.2.2.2.2.2.2.2.2.2.1
theorem figs38_t {F : Nat} {Y : qH} {m : Nat} {v5 : Int32} {e : Nat → Nat} (wM : YM Y m) : ∀ j n : Nat, ∀ X : qH, j ≤ 5 → j < n → (∀ i : Nat, i < j → 1 ≤ e i ∧ e i ≤ 5) → shX X = Y → ∃ X2, fX10_figuresOf_L38 F m v5 n (nI (stN e j)) (nI j - 1) X = some (.inr X2) ∧ shX X2 = Y ∧ (∀ q : Nat, q ≠ m + 17 → X2 q = X q) ∧ ∀ i : Nat, ga X2 (m + 17) i = if i < j then nI (e i) else ga X (m + 17) i := by
  intro j
  induction j with
  | zero =>
    intro n X hj hn he hX
    obtain ⟨n', rfl⟩ : ∃ q, n = q + 1 := ⟨n - 1, by omega⟩
    refine ⟨X, ?_, hX, fun _ _ => rfl, fun i => by rw [if_neg (by omega)]⟩
    show fX10_figuresOf_L38_B F m v5 (fX10_figuresOf_L38 F m v5 n') (nI (stN e 0)) (nI 0 - 1) X = _
    unfold fX10_figuresOf_L38_B
    rw [if_pos (show nI 0 - 1 < (0 : Int32) by decide)]
  | succ j ih =>
    intro n X hj hn he hX
    obtain ⟨n', rfl⟩ : ∃ q, n = q + 1 := ⟨n - 1, by omega⟩
    have hlt := stN_lt5 (d := e) (n := j + 1) (fun i hi => (he i hi).2) hj
    have he1 := he j (by omega)
    have l5 : j < 5 := by omega
    have hX12 : shX (pA X (m + 17) j (nI (e j))) = Y := shX_pA hX wM.p17 _ _
    have u12 : ga (pA X (m + 17) j (nI (e j))) (m + 17) j = nI (e j) := by rw [ga_pA_self hX wM.p17, upd_self]
    have hin := l_in F (pA X (m + 17) j (nI (e j))) (nI (e j)) 1 5 (l := 1) (h := 5) rfl rfl
    have hy : (1 : Int32) ≤ nI (e j) ∧ nI (e j) ≤ 5 := ⟨nI_le (a := 1) he1.1 (by omega), nI_le (b := 5) he1.2 (by omega)⟩
    obtain ⟨X2, k1, k2, k3, k4⟩ := ih n' (pA X (m + 17) j (nI (e j))) (by omega) (by omega) (fun i hi => he i (by omega)) hX12
    refine ⟨X2, ?_, k2, fun q hq => (k3 q hq).trans (pA_ne hq), fun i => ?_⟩
    · show fX10_figuresOf_L38_B F m v5 (fX10_figuresOf_L38 F m v5 n') (nI (stN e (j + 1))) (nI (j + 1) - 1) X = _
      unfold fX10_figuresOf_L38_B
      rw [nI_pred, if_neg (nI_pos (by omega)), i_div10 (by omega), i_rem10 (by omega), show stN e (j + 1) % 10 = e j by rw [stN]; omega, show stN e (j + 1) / 10 = stN e j by rw [stN]; omega]
      simp only [gM wM, sM wM, hX, hX12, l5, Option.bind_some, qlt, u12, hin, if_pos hy, if_neg (show ¬ (1 : Int32) = 0 by decide), i_m1]
      exact k1
    · rw [k4 i, ga_pA_self hX wM.p17]
      by_cases z : i < j
      · rw [if_pos z, if_pos (by omega)]
      · rw [if_neg z]
        by_cases z2 : i = j
        · subst z2; rw [upd_self, if_pos (by omega)]
        · rw [upd_ne _ z2, if_neg (by omega)]
theorem figs38_f {F : Nat} {Y : qH} {m : Nat} {v5 : Int32} (wM : YM Y m) : ∀ j n M k : Nat, ∀ X : qH, j ≤ 5 → j < n → M < 2 ^ 31 → M < 10 ^ j → j ≤ k → ndF k M = j → okD k M = false → shX X = Y → ∃ X2, fX10_figuresOf_L38 F m v5 n (nI M) (nI j - 1) X = some (.inl (-1, X2)) ∧ shX X2 = Y ∧ (∀ q : Nat, q ≠ m + 17 → X2 q = X q) := by
  intro j
  induction j with
  | zero =>
    intro n M k X hj hn hM h10 hjk hnd hok hX
    rw [Nat.pow_zero] at h10
    rw [show M = 0 by omega] at hok
    cases k with
    | zero => cases hok
    | succ k => cases hok
  | succ j ih =>
    intro n M k X hj hn hM h10 hjk hnd hok hX
    obtain ⟨n', rfl⟩ : ∃ q, n = q + 1 := ⟨n - 1, by omega⟩
    obtain ⟨k', rfl⟩ : ∃ q, k = q + 1 := ⟨k - 1, by omega⟩
    have l5 : j < 5 := by omega
    have hX12 : shX (pA X (m + 17) j (nI (M % 10))) = Y := shX_pA hX wM.p17 _ _
    have u12 : ga (pA X (m + 17) j (nI (M % 10))) (m + 17) j = nI (M % 10) := by rw [ga_pA_self hX wM.p17, upd_self]
    have hin := l_in F (pA X (m + 17) j (nI (M % 10))) (nI (M % 10)) 1 5 (l := 1) (h := 5) rfl rfl
    have hm := Nat.mod_lt M (show 0 < 10 by omega)
    have hM0 : ¬ M = 0 := fun y => by
      rw [y] at hnd
      unfold ndF at hnd
      rw [if_pos rfl] at hnd
      omega
    unfold ndF at hnd
    rw [if_neg hM0] at hnd
    show ∃ X2, fX10_figuresOf_L38_B F m v5 (fX10_figuresOf_L38 F m v5 n') (nI M) (nI (j + 1) - 1) X = _ ∧ _
    unfold fX10_figuresOf_L38_B
    rw [nI_pred, if_neg (nI_pos (by omega)), i_div10 hM, i_rem10 hM]
    by_cases z : 1 ≤ M % 10 ∧ M % 10 ≤ 5
    · have hy : (1 : Int32) ≤ nI (M % 10) ∧ nI (M % 10) ≤ 5 := ⟨nI_le (a := 1) z.1 (by omega), nI_le (b := 5) z.2 (by omega)⟩
      have hok2 : okD k' (M / 10) = false := by
        rw [okD, decide_eq_false hM0, decide_eq_true z] at hok
        simpa using hok
      rw [Nat.pow_succ] at h10
      obtain ⟨X2, k1, k2, k3⟩ := ih n' (M / 10) k' (pA X (m + 17) j (nI (M % 10))) (by omega) (by omega) (by omega) (by omega) (by omega) (by omega) hok2 hX12
      refine ⟨X2, ?_, k2, fun q hq => (k3 q hq).trans (pA_ne hq)⟩
      simp only [gM wM, sM wM, hX, hX12, l5, Option.bind_some, qlt, u12, hin, if_pos hy, if_neg (show ¬ (1 : Int32) = 0 by decide), i_m1]
      exact k1
    · have hy : ¬ ((1 : Int32) ≤ nI (M % 10) ∧ nI (M % 10) ≤ 5) := fun y => z ⟨(nI_leI (a := 1) (by omega) (by omega)).mp y.1, (nI_leI (b := 5) (by omega) (by omega)).mp y.2⟩
      refine ⟨pA X (m + 17) j (nI (M % 10)), ?_, hX12, fun q hq => pA_ne hq⟩
      simp only [gM wM, sM wM, hX, hX12, l5, Option.bind_some, qlt, u12, hin, if_neg hy, if_true]
