/-! bay: the text; the class's reader, piece by piece -/
def skF (tx : Nat → Nat) (N : Nat) : Nat → Nat → Nat
  | 0, p => p
  | k + 1, p => if p < N ∧ tx p = 32 then skF tx N k (p + 1) else p
def sk (tx : Nat → Nat) (N p : Nat) : Nat := skF tx N (N - p) p
theorem sk_step {tx : Nat → Nat} {N p : Nat} (h : p < N) (h2 : tx p = 32) : sk tx N p = sk tx N (p + 1) := by
  unfold sk
  obtain ⟨k, hk⟩ : ∃ k, N - p = k + 1 := ⟨N - p - 1, by omega⟩
  rw [hk, skF, if_pos ⟨h, h2⟩, show N - (p + 1) = k by omega]
theorem sk_stay {tx : Nat → Nat} {N p : Nat} (h : ¬ (p < N ∧ tx p = 32)) : sk tx N p = p := by
  unfold sk
  cases hk : N - p with
  | zero => rfl
  | succ k => rw [skF, if_neg h]
theorem sk_in {tx : Nat → Nat} {N : Nat} : ∀ k p : Nat, N - p = k → p ≤ N → p ≤ sk tx N p ∧ sk tx N p ≤ N ∧ ¬ (sk tx N p < N ∧ tx (sk tx N p) = 32) := by
  intro k
  induction k with
  | zero =>
    intro p hk hp
    rw [sk_stay (by omega)]
    exact ⟨Nat.le_refl _, hp, by omega⟩
  | succ k ih =>
    intro p hk hp
    by_cases z : p < N ∧ tx p = 32
    · rw [sk_step z.1 z.2]
      have := ih (p + 1) (by omega) (by omega)
      exact ⟨by omega, this.2.1, this.2.2⟩
    · rw [sk_stay z]
      exact ⟨Nat.le_refl _, hp, z⟩
theorem sk_sk {tx : Nat → Nat} {N p : Nat} (hp : p ≤ N) : sk tx N (sk tx N p) = sk tx N p := sk_stay (sk_in _ p rfl hp).2.2
/-- how many letters from p on are within lo .. hi -/
def rnF (tx : Nat → Nat) (N lo hi : Nat) : Nat → Nat → Nat
  | 0, _ => 0
  | k + 1, p => if p < N ∧ lo ≤ tx p ∧ tx p ≤ hi then rnF tx N lo hi k (p + 1) + 1 else 0
def rn (tx : Nat → Nat) (N lo hi p : Nat) : Nat := rnF tx N lo hi (N - p) p
theorem rn_step {tx : Nat → Nat} {N lo hi p : Nat} (h : p < N ∧ lo ≤ tx p ∧ tx p ≤ hi) : rn tx N lo hi p = rn tx N lo hi (p + 1) + 1 := by
  unfold rn
  obtain ⟨k, hk⟩ : ∃ k, N - p = k + 1 := ⟨N - p - 1, by omega⟩
  rw [hk, rnF, if_pos h, show N - (p + 1) = k by omega]
theorem rn_stop {tx : Nat → Nat} {N lo hi p : Nat} (h : ¬ (p < N ∧ lo ≤ tx p ∧ tx p ≤ hi)) : rn tx N lo hi p = 0 := by
  unfold rn
  cases hk : N - p with
  | zero => rfl
  | succ k => rw [rnF, if_neg h]
theorem rn_le {tx : Nat → Nat} {N lo hi : Nat} : ∀ k p : Nat, N - p = k → p ≤ N → p + rn tx N lo hi p ≤ N := by
  intro k
  induction k with
  | zero => intro p hk hp; rw [rn_stop (by omega)]; omega
  | succ k ih =>
    intro p hk hp
    by_cases z : p < N ∧ lo ≤ tx p ∧ tx p ≤ hi
    · rw [rn_step z]
      have := ih (p + 1) (by omega) (by omega)
      omega
    · rw [rn_stop z]; omega
theorem rn_pos {tx : Nat → Nat} {N lo hi p : Nat} (h : 0 < rn tx N lo hi p) : p < N ∧ lo ≤ tx p ∧ tx p ≤ hi := by
  by_cases z : p < N ∧ lo ≤ tx p ∧ tx p ≤ hi
  · exact z
  · rw [rn_stop z] at h; omega
/-- a number's value by its first j figures -/
def vl (tx : Nat → Nat) (p : Nat) : Nat → Nat
  | 0 => 0
  | j + 1 => 10 * vl tx p j + (tx (p + j) - 48)
def nmV (tx : Nat → Nat) (N p : Nat) : Nat := vl tx (sk tx N p) (rn tx N 48 57 (sk tx N p))
/-- a number within lo .. hi is due at p: its fault -/
def nmF (tx : Nat → Nat) (N lo hi p : Nat) : Nat := if rn tx N 48 57 (sk tx N p) = 0 then 1 else if rn tx N 48 57 (sk tx N p) ≤ 3 ∧ lo ≤ nmV tx N p ∧ nmV tx N p ≤ hi then 0 else 2
def nmE (tx : Nat → Nat) (N p : Nat) : Nat := sk tx N p + rn tx N 48 57 (sk tx N p)
section RDC
variable {F : Nat} {X0 X Y : qH} {sz N f p : Nat} {fp : Int32} {tx : Nat → Nat}
/-- the class's reader: fault f at fp, place p -/
def RC (X0 Y : qH) (sz N : Nat) (tx : Nat → Nat) (f : Nat) (fp : Int32) (p : Nat) (X : qH) : Prop := shX X = Y ∧ (∀ q : Nat, q ≠ sz + 12 → X q = X0 q) ∧ gr X (sz + 12) 0 = sz + 1 ∧ gi X (sz + 12) 1 = nI N ∧ (gi X (sz + 12) 2 = nI p ∧ p ≤ N ∧ N ≤ 230) ∧ gi X (sz + 12) 4 = nI f ∧ gi X (sz + 12) 5 = fp ∧ (gi X (sz + 12) 6 = gi X0 (sz + 12) 6 ∧ gi X (sz + 12) 7 = gi X0 (sz + 12) 7) ∧ ∀ i : Nat, i < N → ga X (sz + 1) i = nI (tx i) ∧ tx i ≤ 255
theorem RC.at (h : RC X0 Y sz N tx f fp p X) (w6 : Y6 Y (sz + 12)) {p2 : Nat} (hp : p2 ≤ N) : RC X0 Y sz N tx f fp p2 (pI X (sz + 12) 2 (nI p2)) ∧ gi (pI X (sz + 12) 2 (nI p2)) (sz + 12) 3 = gi X (sz + 12) 3 := by
  obtain ⟨h1, h2, h3, h4, h5, h6, h7, h8, h9⟩ := h
  refine ⟨⟨by simp only [k6 w6, h1], fun q hq => (pV_ne hq).trans (h2 q hq), by rw [gr_pI _ _ _ (by omega)]; exact h3, ?_, ⟨?_, hp, h5.2.2⟩, ?_, ?_, ⟨?_, ?_⟩, fun i hi => by rw [ga_pI]; exact h9 i hi⟩, ?_⟩
  · simp only [u6 w6, h1]; exact h4
  · simp only [u6 w6, h1, if_true]
  · simp only [u6 w6, h1]; exact h6
  · simp only [u6 w6, h1]; exact h7
  · simp only [u6 w6, h1]; exact h8.1
  · simp only [u6 w6, h1]; exact h8.2
  · simp only [u6 w6, h1]; rfl
end RDC
