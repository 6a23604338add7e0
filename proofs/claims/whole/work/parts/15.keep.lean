/-- what an operation leaves alone: ch the changed cells (by their distance from sz; sz and sz + 151 apart), c9 and cM the changed fields of the two objects -/
theorem keep {X X2 : qH} {sz : Nat} (ch c9 cM : List Nat) (h : Rel X sz) (far : ∀ o : Nat, o ∉ ch → o ≠ 0 → o ≠ 151 → X2 (sz + o) = X (sz + o)) (s9 : ∀ k : Nat, k ∉ c9 → gi X2 sz k = gi X sz k) (r9 : ∀ k : Nat, k ∉ c9 → gr X2 sz k = gr X sz k) (sM : ∀ k : Nat, k ∉ cM → gi X2 (sz + 151) k = gi X (sz + 151) k) :
    ((1 ∉ c9 ∧ 11 ∉ cM ∧ 1 ∉ ch ∧ 157 ∉ ch) → IT X2 sz) ∧ ((2 ∉ c9 ∧ 12 ∉ cM) → IFt X2 sz) ∧ ((5 ∉ c9 ∧ 9 ∉ cM) → ISd X2 sz) ∧
    ((3 ∉ c9 ∧ 4 ∉ c9 ∧ 0 ∉ cM ∧ 1 ∉ cM ∧ 6 ∉ cM ∧ 7 ∉ cM ∧ (∀ o ∈ ch, ¬ (2 ≤ o ∧ o < 12) ∧ ¬ (152 ≤ o ∧ o < 156))) → IB X2 sz) ∧
    ((1 ∉ cM ∧ ∀ o ∈ ch, ¬ (14 ≤ o ∧ o < 19) ∧ o ≠ 156) → INw X2 sz) ∧ ((1 ∉ cM ∧ 27 ∉ cM ∧ ∀ o ∈ ch, ¬ (19 ≤ o ∧ o < 121) ∧ o ≠ 166) → IP X2 sz) ∧
    ((1 ∉ cM ∧ ∀ o ∈ ch, ¬ (122 ≤ o ∧ o < 134) ∧ o ≠ 176 ∧ o ≠ 177) → II X2 sz) ∧ ((33 ∉ cM ∧ ∀ o ∈ ch, ¬ (144 ≤ o ∧ o < 147) ∧ o ≠ 171 ∧ o ≠ 172) → ID X2 sz) ∧
    ((1 ∉ cM ∧ 36 ∉ cM ∧ ∀ o ∈ ch, ¬ (147 ≤ o ∧ o < 151) ∧ ¬ (173 ≤ o ∧ o < 176)) → IK X2 sz) := by
  obtain ⟨rT, rF, rS, rB, rN, rP, rI, rD, rK⟩ := h
  have F : ∀ q : Nat, sz < q → q ≠ sz + 151 → (q - sz) ∉ ch → X2 q = X q := fun q h1 h2 h3 => by
    have := far (q - sz) h3 (by omega) (by omega)
    rwa [show sz + (q - sz) = q by omega] at this
  refine ⟨fun a => ?_, fun a => ?_, fun a => ?_, fun a => ?_, fun a => ?_, fun a => ?_, fun a => ?_, fun a => ?_, fun a => ?_⟩
  · exact rT.c (s9 1 a.1) (sM 11 a.2.1) (far 1 a.2.2.1 (by omega) (by omega)) (far 157 a.2.2.2 (by omega) (by omega))
  · show gi X2 sz 2 = gi X2 (sz + 151) 12
    rw [s9 2 a.1, sM 12 a.2]; exact rF
  · show gi X2 sz 5 = gi X2 (sz + 151) 9 ∧ 0 ≤ gi X2 sz 5
    rw [s9 5 a.1, sM 9 a.2]; exact rS
  · obtain ⟨a3, a4, b0, b1, b6, b7, ac⟩ := a
    refine rB.c (r9 3 a3) (r9 4 a4) (fun q h1 h2 => F q (by omega) (by omega) (fun m => (ac _ m).1 (by omega))) (fun k hk => ?_) (fun q h1 h2 => F q (by omega) (by omega) (fun m => (ac _ m).2 (by omega)))
    rcases hk with rfl | rfl | rfl | rfl
    · exact sM 0 b0
    · exact sM 1 b1
    · exact sM 6 b6
    · exact sM 7 b7
  · exact rN.c (sM 1 a.1) (fun q h1 h2 => F q (by omega) (by omega) (fun m => (a.2 _ m).1 (by omega))) (F _ (by omega) (by omega) (fun m => (a.2 _ m).2 (by omega)))
  · exact rP.c (sM 1 a.1) (fun q h1 h2 => F q (by omega) (by omega) (fun m => (a.2.2 _ m).1 (by omega))) (sM 27 a.2.1) (F _ (by omega) (by omega) (fun m => (a.2.2 _ m).2 (by omega)))
  · exact rI.c (sM 1 a.1) (fun q h1 h2 => F q (by omega) (by omega) (fun m => (a.2 _ m).1 (by omega))) (F _ (by omega) (by omega) (fun m => (a.2 _ m).2.2 (by omega))) (F _ (by omega) (by omega) (fun m => (a.2 _ m).2.1 (by omega)))
  · exact rD.c (fun q h1 h2 => F q (by omega) (by omega) (fun m => (a.2 _ m).1 (by omega))) (sM 33 a.1) (F _ (by omega) (by omega) (fun m => (a.2 _ m).2.1 (by omega))) (F _ (by omega) (by omega) (fun m => (a.2 _ m).2.2 (by omega)))
  · exact rK.c (fun q h1 h2 => F q (by omega) (by omega) (fun m => (a.2.2 _ m).1 (by omega))) (sM 36 a.2.1) (sM 1 a.1) (fun q h1 h2 => F q (by omega) (by omega) (fun m => (a.2.2 _ m).2 (by omega)))
