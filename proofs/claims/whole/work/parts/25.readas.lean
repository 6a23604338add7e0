/-! readAs: as whom a house is read -/
def rdF (ce : Nat → Nat) (h : Nat) : Nat → Nat
  | 0 => h
  | k + 1 => if ce h < ce k ∧ (rdF ce h k = h ∨ ce k < ce (rdF ce h k)) then k else rdF ce h k
def rd (ce po : Nat → Nat) (c h : Nat) : Nat := if po h ≤ 2 then rdF ce h c else h
theorem rdF_lt {ce : Nat → Nat} {h c : Nat} (hh : h < c) : ∀ k : Nat, k ≤ c → rdF ce h k < c := by
  intro k
  induction k with
  | zero => intro _; exact hh
  | succ k ih =>
    intro hk
    have := ih (by omega)
    unfold rdF
    split <;> omega
theorem rd_lt {ce po : Nat → Nat} {c h : Nat} (hh : h < c) : rd ce po c h < c := by
  unfold rd
  split
  · exact rdF_lt hh c (Nat.le_refl c)
  · exact hh
set_option maxHeartbeats 1000000 in
theorem readAs_cL {F : Nat} {X Y : qH} {b c h : Nat} {ce : Nat → Nat} (hX : shX X = Y) (hB : YB Y b) (h5 : gi X b 5 = nI c) (c8 : c ≤ 8) (hce : ∀ g : Nat, g < c → ga X (b + 1) g = nI (ce g) ∧ ce g < 30) (hh : h < c) :
    ∀ (n g : Nat), g ≤ c → c - g < n → fX0_readAs_L16 F X b (nI h) n (nI (rdF ce h g)) (nI g) = some (nI (rdF ce h c)) := by
  intro n
  induction n with
  | zero => intro g hg hn; omega
  | succ n ih =>
    intro g hg hn
    show fX0_readAs_L16_B F X b (nI h) (fX0_readAs_L16 F X b (nI h) n) (nI (rdF ce h g)) (nI g) = _
    unfold fX0_readAs_L16_B
    by_cases hgc : g = c
    · subst hgc
      simp only [gB hB, hX, Option.bind_some, h5, if_pos (nI_le (Nat.le_refl g) (by omega))]
    · have hlt : g < c := by omega
      have hr := rdF_lt (ce := ce) hh g hg
      have l1 : g < 8 := by omega
      have l2 : h < 8 := by omega
      have l3 : rdF ce h g < 8 := by omega
      have c1 := (hce g hlt).2
      have c2 := (hce h hh).2
      have c3 := (hce _ hr).2
      simp only [gB hB, hX, Option.bind_some, h5, if_neg (nI_ge hlt (by omega)), l1, l2, l3, (hce g hlt).1, (hce h hh).1, (hce _ hr).1, qlt, nI_1, nI_leI (show ce g < 2 ^ 31 by omega) (show ce h < 2 ^ 31 by omega), nI_leI (show ce (rdF ce h g) < 2 ^ 31 by omega) (show ce g < 2 ^ 31 by omega), nI_eq (show rdF ce h g < 2 ^ 31 by omega) (show h < 2 ^ 31 by omega)]
      have e : (if ce g ≤ ce h then some (nI (rdF ce h g)) else if rdF ce h g = h then some (nI g) else if ce (rdF ce h g) ≤ ce g then some (nI (rdF ce h g)) else some (nI g)) = some (nI (rdF ce h (g + 1))) := by
        rw [show rdF ce h (g + 1) = if ce h < ce g ∧ (rdF ce h g = h ∨ ce g < ce (rdF ce h g)) then g else rdF ce h g from rfl]
        by_cases q1 : ce g ≤ ce h
        · rw [if_pos q1, if_neg (by omega)]
        · rw [if_neg q1]
          by_cases q2 : rdF ce h g = h
          · rw [if_pos q2, if_pos ⟨by omega, Or.inl q2⟩]
          · rw [if_neg q2]
            by_cases q3 : ce (rdF ce h g) ≤ ce g
            · rw [if_pos q3, if_neg (fun q => q.2.elim q2 (by omega))]
            · rw [if_neg q3, if_pos ⟨by omega, Or.inr (by omega)⟩]
      rw [e]
      exact ih (g + 1) (by omega) (by omega)
theorem readAs_c {F : Nat} {X Y : qH} {b c h : Nat} {ce po : Nat → Nat} (hX : shX X = Y) (hB : YB Y b) (h5 : gi X b 5 = nI c) (c8 : c ≤ 8) (hce : ∀ g : Nat, g < c → ga X (b + 1) g = nI (ce g) ∧ ce g < 30) (hpo : ga X (b + 2) h = nI (po h) ∧ po h ≤ 9) (hh : h < c) (hF : 10 ≤ F) : fX0_readAs F X b (nI h) = some (nI (rd ce po c h)) := by
  have l2 : h < 8 := by omega
  have hp9 := hpo.2
  have hL := readAs_cL (F := F) hX hB h5 c8 hce hh F 0 (by omega) (by omega)
  simp only [fX0_readAs, gB hB, hX, Option.bind_some, l2, hpo.1, rd]
  by_cases q : po h ≤ 2
  · rw [if_pos (show nI (po h) ≤ (2 : Int32) from nI_le (b := 2) q (by decide)), if_pos q]
    rw [show rdF ce h 0 = h from rfl, show nI 0 = (0 : Int32) from rfl] at hL
    rw [hL]; rfl
  · rw [if_neg (show ¬ nI (po h) ≤ (2 : Int32) from nI_ge (a := 2) (by omega) (by omega)), if_neg q]
set_option maxHeartbeats 1000000 in
theorem readAs_mL {F : Nat} {X Y : qH} {m c h : Nat} {ce po : Nat → Nat} (hX : shX X = Y) (hM : YM Y m) (h5 : gi X m 1 = nI c) (c8 : c ≤ 8) (hce : ∀ g : Nat, g < c → ga X (m + 1) g = nI (ce g) ∧ ce g < 30) (hpo : ga X (m + 2) h = nI (po h) ∧ po h ≤ 9) (hh : h < c) :
    ∀ (n g : Nat), g ≤ c → c - g < n → po h ≤ 2 → fX10_readAs_L4 F X m (nI h) n (nI (rdF ce h g)) (nI g) = some (nI (rdF ce h c)) := by
  intro n
  induction n with
  | zero => intro g hg hn; omega
  | succ n ih =>
    intro g hg hn hp
    show fX10_readAs_L4_B F X m (nI h) (fX10_readAs_L4 F X m (nI h) n) (nI (rdF ce h g)) (nI g) = _
    unfold fX10_readAs_L4_B
    by_cases hgc : g = c
    · subst hgc
      simp only [gM hM, hX, Option.bind_some, h5, if_pos (nI_le (Nat.le_refl g) (by omega))]
    · have hlt : g < c := by omega
      have hr := rdF_lt (ce := ce) hh g hg
      have l1 : g < 8 := by omega
      have l2 : h < 8 := by omega
      have l3 : rdF ce h g < 8 := by omega
      have c1 := (hce g hlt).2
      have c2 := (hce h hh).2
      have c3 := (hce _ hr).2
      have n3 : ¬ (3 : Int32) ≤ nI (po h) := nI_ge (a := po h) (b := 3) (by omega) (by decide)
      simp only [gM hM, hX, Option.bind_some, h5, if_neg (nI_ge hlt (by omega)), l1, l2, l3, (hce g hlt).1, (hce h hh).1, (hce _ hr).1, hpo.1, if_neg n3, qlt, nI_1, nI_leI (show ce g < 2 ^ 31 by omega) (show ce h < 2 ^ 31 by omega), nI_leI (show ce (rdF ce h g) < 2 ^ 31 by omega) (show ce g < 2 ^ 31 by omega), nI_eq (show rdF ce h g < 2 ^ 31 by omega) (show h < 2 ^ 31 by omega)]
      have e : (if ce g ≤ ce h then (some 0 : Option Int32) else if rdF ce h g = h then some 1 else if ce (rdF ce h g) ≤ ce g then some 0 else some 1) = some (if ce h < ce g ∧ (rdF ce h g = h ∨ ce g < ce (rdF ce h g)) then 1 else 0) := by
        by_cases q1 : ce g ≤ ce h
        · rw [if_pos q1, if_neg (by omega)]
        · rw [if_neg q1]
          by_cases q2 : rdF ce h g = h
          · rw [if_pos q2, if_pos ⟨by omega, Or.inl q2⟩]
          · rw [if_neg q2]
            by_cases q3 : ce (rdF ce h g) ≤ ce g
            · rw [if_pos q3, if_neg (fun q => q.2.elim q2 (by omega))]
            · rw [if_neg q3, if_pos ⟨by omega, Or.inr (by omega)⟩]
      rw [e]
      have e2 : (if (if ce h < ce g ∧ (rdF ce h g = h ∨ ce g < ce (rdF ce h g)) then (1 : Int32) else 0) = 0 then some (nI (rdF ce h g)) else some (nI g)) = some (nI (rdF ce h (g + 1))) := by
        rw [show rdF ce h (g + 1) = if ce h < ce g ∧ (rdF ce h g = h ∨ ce g < ce (rdF ce h g)) then g else rdF ce h g from rfl]
        by_cases q : ce h < ce g ∧ (rdF ce h g = h ∨ ce g < ce (rdF ce h g))
        · simp only [if_pos q, if_neg (show ¬ (1 : Int32) = 0 by decide)]
        · simp only [if_neg q, if_true]
      simp only [Option.bind_some]
      rw [e2]
      exact ih (g + 1) (by omega) (by omega) hp
theorem readAs_m {F : Nat} {X Y : qH} {m c h : Nat} {ce po : Nat → Nat} (hX : shX X = Y) (hM : YM Y m) (h5 : gi X m 1 = nI c) (c8 : c ≤ 8) (hce : ∀ g : Nat, g < c → ga X (m + 1) g = nI (ce g) ∧ ce g < 30) (hpo : ga X (m + 2) h = nI (po h) ∧ po h ≤ 9) (hh : h < c) (hF : 10 ≤ F) : fX10_readAs F X m (nI h) = some (nI (rd ce po c h)) := by
  have l2 : h < 8 := by omega
  have hp9 := hpo.2
  by_cases q : po h ≤ 2
  · have hL := readAs_mL (F := F) hX hM h5 c8 hce hpo hh F 0 (by omega) (by omega) q
    rw [show rdF ce h 0 = h from rfl, show nI 0 = (0 : Int32) from rfl] at hL
    simp only [fX10_readAs, gM hM, hX, hL, Option.bind_some, rd, if_pos q]
  · obtain ⟨F', rfl⟩ : ∃ k, F = k + 1 := ⟨F - 1, by omega⟩
    have hL : fX10_readAs_L4 (F' + 1) X m (nI h) (F' + 1) (nI h) 0 = some (nI h) := by
      show fX10_readAs_L4_B (F' + 1) X m (nI h) (fX10_readAs_L4 (F' + 1) X m (nI h) F') (nI h) 0 = _
      unfold fX10_readAs_L4_B
      have n3 : (3 : Int32) ≤ nI (po h) := nI_le (a := 3) (by omega) (by omega)
      have n0 : ¬ nI c ≤ (0 : Int32) := nI_ge (a := 0) (by omega) (by omega)
      simp only [gM hM, hX, Option.bind_some, h5, if_neg n0, l2, hpo.1, if_pos n3]
    simp only [fX10_readAs, gM hM, hX, hL, Option.bind_some, rd, if_neg q]
