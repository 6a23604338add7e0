/-! houseOfStars, fromTheEnd (for farShore) -/
theorem houseOfStars_L {F : Nat} {X Y : qH} {b c p : Nat} {ce : Nat → Nat} (hX : shX X = Y) (hB : YB Y b) (h5 : gi X b 5 = nI c) (c8 : c ≤ 8) (hce : ∀ g : Nat, g < c → ga X (b + 4) g = nI (ce g) ∧ ce g < 100000) (hp : p < 1000000) (hi : ∀ x y : Nat, x < c → y < c → ce x = ce y → x = y) :
    ∀ (n g : Nat), g ≤ c → c - g < n → (∀ x : Nat, x < g → ce x ≠ p) → ∃ r, fX0_houseOfStars_L2 F X b (nI p) n (nI g) = some r ∧ qsm0 r (fun z => some z) (some (-1 : Int32)) = some (lsF ce p c) := by
  intro n
  induction n with
  | zero => intro g hg hn; omega
  | succ n ih =>
    intro g hg hn h0
    show ∃ r, fX0_houseOfStars_L2_B F X b (nI p) (fX0_houseOfStars_L2 F X b (nI p) n) (nI g) = some r ∧ _
    unfold fX0_houseOfStars_L2_B
    by_cases hgc : g = c
    · subst hgc
      refine ⟨.inr (), ?_, by rw [lsF_none g h0]; rfl⟩
      simp only [gB hB, hX, Option.bind_some, h5, if_pos (nI_le (Nat.le_refl g) (by omega))]
    · have hlt : g < c := by omega
      have l1 : g < 8 := by omega
      have c1 := (hce g hlt).2
      simp only [gB hB, hX, Option.bind_some, h5, if_neg (nI_ge hlt (by omega)), l1, (hce g hlt).1, qlt, nI_1, nI_eq (show ce g < 2 ^ 31 by omega) (show p < 2 ^ 31 by omega)]
      by_cases q : ce g = p
      · rw [if_pos q]
        exact ⟨_, rfl, by rw [lsF_hit c hi hlt q]; rfl⟩
      · rw [if_neg q]
        exact ih (g + 1) (by omega) (by omega) (fun x hx => by
          by_cases e : x = g
          · subst e; exact q
          · exact h0 x (by omega))
theorem houseOfStars_ok {F : Nat} {X Y : qH} {b c p : Nat} {ce : Nat → Nat} (hX : shX X = Y) (hB : YB Y b) (h5 : gi X b 5 = nI c) (c8 : c ≤ 8) (hce : ∀ g : Nat, g < c → ga X (b + 4) g = nI (ce g) ∧ ce g < 100000) (hp : p < 1000000) (hi : ∀ x y : Nat, x < c → y < c → ce x = ce y → x = y) (hF : 10 ≤ F) : fX0_houseOfStars F X b (nI p) = some (lsF ce p c) := by
  obtain ⟨r, e, hr⟩ := houseOfStars_L (F := F) hX hB h5 c8 hce hp hi F 0 (by omega) (by omega) (fun x hx => by omega)
  rw [show nI 0 = (0 : Int32) from rfl] at e
  simp only [fX0_houseOfStars, gB hB, hX, e, Option.bind_some]
  exact hr
