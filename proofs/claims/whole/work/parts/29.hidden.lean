/-! hidden against isHidden; viewers against seers; sees -/
/-- g's latest rocket hides the cell o -/
def hdP (sa so : Nat → Int32) (mi sm : Int32) (o h g : Nat) : Bool := decide (g ≠ h ∧ sa g ≠ -1 ∧ so g = nI o ∧ ¬ sm < mi - sa g)
def hdF (P : Nat → Bool) : Nat → Bool
  | 0 => false
  | k + 1 => hdF P k || P k
theorem hdF_mono {P : Nat → Bool} {g : Nat} (h : hdF P g = true) : ∀ c : Nat, g ≤ c → hdF P c = true := by
  intro c
  induction c with
  | zero => intro hc; rw [show g = 0 by omega] at h; exact h
  | succ c ih =>
    intro hc
    by_cases e : g = c + 1
    · rw [← e]; exact h
    · simp only [hdF, ih (by omega), Bool.true_or]
theorem hidden_L {F : Nat} {X Y : qH} {a b c h o : Nat} {sm : Int32} (hX : shX X = Y) (hN : YN Y a) (hB : YB Y b) (h5 : gi X b 5 = nI c) (hsm : gi X b 3 = sm) (c8 : c ≤ 8) (hh : h < 8) :
    ∀ (n g : Nat), g ≤ c → c - g < n → hdF (hdP (ga X (a + 2)) (ga X (a + 3)) (gi X a 0) sm o h) g = false → ∃ r, fX3_hidden_L10 F X a b (nI h) (nI o) n (nI g) = some r ∧ ((hdF (hdP (ga X (a + 2)) (ga X (a + 3)) (gi X a 0) sm o h) c = true ∧ r = .inl 1) ∨ (hdF (hdP (ga X (a + 2)) (ga X (a + 3)) (gi X a 0) sm o h) c = false ∧ r = .inr ())) := by
  intro n
  induction n with
  | zero => intro g hg hn; omega
  | succ n ih =>
    intro g hg hn h0
    show ∃ r, fX3_hidden_L10_B F X a b (nI h) (nI o) (fX3_hidden_L10 F X a b (nI h) (nI o) n) (nI g) = some r ∧ _
    unfold fX3_hidden_L10_B
    by_cases hgc : g = c
    · subst hgc
      refine ⟨.inr (), ?_, Or.inr ⟨h0, rfl⟩⟩
      simp only [gN hN, gB hB, hX, Option.bind_some, h5, if_pos (nI_le (Nat.le_refl g) (by omega))]
    · have hlt : g < c := by omega
      have l1 : g < 8 := by omega
      simp only [gN hN, gB hB, hX, Option.bind_some, h5, hsm, if_neg (nI_ge hlt (by omega)), l1, qlt, nI_1, nI_eq (show g < 2 ^ 31 by omega) (show h < 2 ^ 31 by omega), some_ite]
      have hs : hdF (hdP (ga X (a + 2)) (ga X (a + 3)) (gi X a 0) sm o h) (g + 1) = hdP (ga X (a + 2)) (ga X (a + 3)) (gi X a 0) sm o h g := by
        simp only [hdF, h0, Bool.false_or]
      by_cases q : g ≠ h ∧ ga X (a + 2) g ≠ -1 ∧ ga X (a + 3) g = nI o
      · have e1 : (if g = h then (0 : Int32) else if ga X (a + 2) g = -1 then 0 else if ga X (a + 3) g = nI o then 1 else 0) = 1 := by
          rw [if_neg q.1, if_neg q.2.1, if_pos q.2.2]
        rw [e1, if_neg (show ¬ (1 : Int32) = 0 by decide)]
        by_cases q2 : sm < gi X a 0 - ga X (a + 2) g
        · rw [if_pos q2]
          exact ih (g + 1) (by omega) (by omega) (by rw [hs]; simp only [hdP, decide_eq_false_iff_not]; exact fun z => z.2.2.2 q2)
        · rw [if_neg q2]
          refine ⟨.inl 1, rfl, Or.inl ⟨hdF_mono (g := g + 1) (by rw [hs]; simp only [hdP, decide_eq_true_eq]; exact ⟨q.1, q.2.1, q.2.2, q2⟩) c (by omega), rfl⟩⟩
      · have e1 : (if g = h then (0 : Int32) else if ga X (a + 2) g = -1 then 0 else if ga X (a + 3) g = nI o then 1 else 0) = 0 := by
          by_cases z1 : g = h
          · rw [if_pos z1]
          · rw [if_neg z1]
            by_cases z2 : ga X (a + 2) g = -1
            · rw [if_pos z2]
            · rw [if_neg z2, if_neg (fun z3 => q ⟨z1, z2, z3⟩)]
        rw [e1, if_pos rfl]
        exact ih (g + 1) (by omega) (by omega) (by rw [hs]; simp only [hdP, decide_eq_false_iff_not]; exact fun z => q ⟨z.1, z.2.1, z.2.2.1⟩)
theorem hidden_ok {F : Nat} {X Y : qH} {a b c h o : Nat} {sm : Int32} (hX : shX X = Y) (hN : YN Y a) (hB : YB Y b) (h5 : gi X b 5 = nI c) (hsm : gi X b 3 = sm) (c8 : c ≤ 8) (hh : h < 8) (hov : fX3_cellOver F X a b (nI h) = some (nI o)) (hF : 10 ≤ F) :
    fX3_hidden F X a b (nI h) = some (if hdF (hdP (ga X (a + 2)) (ga X (a + 3)) (gi X a 0) sm o h) c = true then 1 else 0) := by
  obtain ⟨r, e, hr⟩ := hidden_L (F := F) (o := o) hX hN hB h5 hsm c8 hh F 0 (by omega) (by omega) rfl
  rw [show nI 0 = (0 : Int32) from rfl] at e
  simp only [fX3_hidden, gN hN, hX, hov, Option.bind_some, e]
  rcases hr with ⟨h1, rfl⟩ | ⟨h1, rfl⟩
  · rw [h1]; rfl
  · rw [h1]; rfl
theorem isHidden_L {F : Nat} {X Y : qH} {m c h o : Nat} {sm : Int32} (hX : shX X = Y) (hM : YM Y m) (h5 : gi X m 1 = nI c) (hsm : gi X m 6 = sm) (c8 : c ≤ 8) (hh : h < 8) (hsa : ∀ g : Nat, g < c → ga X (m + 5) (11 + g) = -1 ∨ ¬ ga X (m + 5) (11 + g) < 0) :
    ∀ (n g : Nat), g ≤ c → c - g < n → fX10_isHidden_L5 F X m (nI h) (nI o) n (if hdF (hdP (fun k => ga X (m + 5) (11 + k)) (fun k => ga X (m + 5) (19 + k)) (ga X (m + 5) 2) sm o h) g = true then 1 else 0) (nI g) = some (if hdF (hdP (fun k => ga X (m + 5) (11 + k)) (fun k => ga X (m + 5) (19 + k)) (ga X (m + 5) 2) sm o h) c = true then 1 else 0) := by
  intro n
  induction n with
  | zero => intro g hg hn; omega
  | succ n ih =>
    intro g hg hn
    show fX10_isHidden_L5_B F X m (nI h) (nI o) (fX10_isHidden_L5 F X m (nI h) (nI o) n) _ (nI g) = _
    unfold fX10_isHidden_L5_B
    by_cases hgc : g = c
    · subst hgc
      simp only [gM hM, hX, Option.bind_some, h5, if_pos (nI_le (Nat.le_refl g) (by omega))]
    · have hlt : g < c := by omega
      have l11 : 11 + g < 43 := by omega
      have l19 : 19 + g < 43 := by omega
      have e11 : (11 : Int32) + nI g = nI (11 + g) := nI_add 11 g
      have e19 : (19 : Int32) + nI g = nI (19 + g) := nI_add 19 g
      have l2 : qaI X 0 (m + 5) (2 : Int32) = some (ga X (m + 5) 2) := by
        simp only [show (2 : Int32) = nI 2 from rfl, gM hM, hX, show 2 < 43 by decide]
      simp only [gM hM, hX, Option.bind_some, h5, hsm, if_neg (nI_ge hlt (by omega)), e11, e19, l11, l19, l2, qlt, nI_1, nI_eq (show g < 2 ^ 31 by omega) (show h < 2 ^ 31 by omega), some_ite]
      have e : (if (if hdF (hdP (fun k => ga X (m + 5) (11 + k)) (fun k => ga X (m + 5) (19 + k)) (ga X (m + 5) 2) sm o h) g = true then (1 : Int32) else 0) = 0 then (if g = h then (0 : Int32) else if ga X (m + 5) (19 + g) = nI o then (if ga X (m + 5) (11 + g) < 0 then 0 else if sm < ga X (m + 5) 2 - ga X (m + 5) (11 + g) then 0 else 1) else 0) else 1) = (if hdF (hdP (fun k => ga X (m + 5) (11 + k)) (fun k => ga X (m + 5) (19 + k)) (ga X (m + 5) 2) sm o h) (g + 1) = true then 1 else 0) := by
        cases hv : hdF (hdP (fun k => ga X (m + 5) (11 + k)) (fun k => ga X (m + 5) (19 + k)) (ga X (m + 5) 2) sm o h) g with
        | true =>
          simp only [if_true, if_neg (show ¬ (1 : Int32) = 0 by decide), hdF, hv, Bool.true_or]
        | false =>
          have hs : hdF (hdP (fun k => ga X (m + 5) (11 + k)) (fun k => ga X (m + 5) (19 + k)) (ga X (m + 5) 2) sm o h) (g + 1) = hdP (fun k => ga X (m + 5) (11 + k)) (fun k => ga X (m + 5) (19 + k)) (ga X (m + 5) 2) sm o h g := by
            simp only [hdF, hv, Bool.false_or]
          rw [hs]
          simp only [hdP, decide_eq_true_eq, if_neg (show ¬ false = true by decide), if_true]
          by_cases z1 : g = h
          · rw [if_pos z1, if_neg (fun z => z.1 z1)]
          · rw [if_neg z1]
            by_cases z2 : ga X (m + 5) (19 + g) = nI o
            · rw [if_pos z2]
              rcases hsa g hlt with z3 | z3
              · rw [z3, if_pos (show (-1 : Int32) < 0 by decide), if_neg (fun z => z.2.1 rfl)]
              · rw [if_neg z3]
                have z4 : ga X (m + 5) (11 + g) ≠ -1 := fun q => z3 (by rw [q]; decide)
                by_cases z5 : sm < ga X (m + 5) 2 - ga X (m + 5) (11 + g)
                · rw [if_pos z5, if_neg (fun z => z.2.2.2 z5)]
                · rw [if_neg z5, if_pos ⟨z1, z4, z2, z5⟩]
            · rw [if_neg z2, if_neg (fun z => z2 z.2.2.1)]
      rw [e]
      exact ih (g + 1) (by omega) (by omega)
theorem isHidden_ok {F : Nat} {X Y : qH} {m c h o : Nat} {sm : Int32} (hX : shX X = Y) (hM : YM Y m) (h5 : gi X m 1 = nI c) (hsm : gi X m 6 = sm) (c8 : c ≤ 8) (hh : h < 8) (hsa : ∀ g : Nat, g < c → ga X (m + 5) (11 + g) = -1 ∨ ¬ ga X (m + 5) (11 + g) < 0) (hF : 10 ≤ F) :
    fX10_isHidden F X m (nI h) (nI o) = some (if hdF (hdP (fun k => ga X (m + 5) (11 + k)) (fun k => ga X (m + 5) (19 + k)) (ga X (m + 5) 2) sm o h) c = true then 1 else 0) := by
  have e := isHidden_L (F := F) (o := o) hX hM h5 hsm c8 hh hsa F 0 (by omega) (by omega)
  rw [show nI 0 = (0 : Int32) from rfl, show hdF (hdP (fun k => ga X (m + 5) (11 + k)) (fun k => ga X (m + 5) (19 + k)) (ga X (m + 5) 2) sm o h) 0 = false from rfl, if_neg (by decide)] at e
  simp only [fX10_isHidden, gM hM, hX, e, Option.bind_some, qz_ite]
