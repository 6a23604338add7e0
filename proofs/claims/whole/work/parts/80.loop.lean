/-- all that the law's loop needs of the operations -/
def AllOps (F sz : Nat) : Prop := ∀ X : qH, Inv X sz → (∀ c0 : Int32, Op sz (fun X => fX9_feed F X sz c0) (fun X => fX10_feed F X (sz + 151) c0) X) ∧ (Op sz (fun X => fX9_bay F X sz ) (fun X => fX10_bay F X (sz + 151) ) X) ∧ (OpR (fun X => fX9_fault F X sz ) (fun X => fX10_fault F X (sz + 151) ) X) ∧ (∀ c0 : Int32, OpR (fun X => fX9_told F X sz c0) (fun X => fX10_told F X (sz + 151) c0) X) ∧ (∀ c0 c1 : Int32, OpR (fun X => fX9_house F X sz c0 c1) (fun X => fX10_house F X (sz + 151) c0 c1) X) ∧ (∀ c0 c1 : Int32, OpR (fun X => fX9_sees F X sz c0 c1) (fun X => fX10_sees F X (sz + 151) c0 c1) X) ∧ (∀ c0 c1 : Int32, OpR (fun X => fX9_contract F X sz c0 c1) (fun X => fX10_contract F X (sz + 151) c0 c1) X) ∧ (∀ c0 : Int32, Op sz (fun X => fX9_light F X sz c0) (fun X => fX10_light F X (sz + 151) c0) X) ∧ (∀ c0 : Int32, Op sz (fun X => fX9_minute F X sz c0) (fun X => fX10_minute F X (sz + 151) c0) X) ∧ (∀ c0 : Int32, Op sz (fun X => fX9_fog F X sz c0) (fun X => fX10_fog F X (sz + 151) c0) X) ∧ (∀ c0 : Int32, Op sz (fun X => fX9_wind F X sz c0) (fun X => fX10_wind F X (sz + 151) c0) X) ∧ (∀ c0 : Int32, Op sz (fun X => fX9_drift F X sz c0) (fun X => fX10_drift F X (sz + 151) c0) X) ∧ (Op sz (fun X => fX9_undo F X sz ) (fun X => fX10_undo F X (sz + 151) ) X) ∧ (∀ c0 c1 : Int32, Op sz (fun X => fX9_order F X sz c0 c1) (fun X => fX10_order F X (sz + 151) c0 c1) X) ∧ (∀ c0 : Int32, OpR (fun X => fX9_signers F X sz c0) (fun X => fX10_signers F X (sz + 151) c0) X) ∧ (∀ c0 : Int32, OpR (fun X => fX9_farShore F X sz c0) (fun X => fX10_farShore F X (sz + 151) c0) X) ∧ (∀ c0 c1 : Int32, OpR (fun X => fX9_cross F X sz c0 c1) (fun X => fX10_cross F X (sz + 151) c0 c1) X) ∧ (∀ c0 : Int32, OpR (fun X => fX9_treaty F X sz c0) (fun X => fX10_treaty F X (sz + 151) c0) X) ∧ (∀ c0 c1 c2 : Int32, ∃ (r : Int32) (X2 : qH), fX9_forged F X sz c0 c1 c2 = some r ∧ fX10_forged F X (sz + 151) c0 c1 c2 = some (r, X2) ∧ Inv X2 sz) ∧ (∀ c0 : Int32, OpR (fun X => fX9_damp F X sz c0) (fun X => fX10_damp F X (sz + 151) c0) X) ∧ (∀ c0 : Int32, Op sz (fun X => fX9_partner F X sz c0) (fun X => fX10_partner F X (sz + 151) c0) X) ∧ (∀ c0 c1 : Int32, Op sz (fun X => fX9_duck F X sz c0 c1) (fun X => fX10_duck F X (sz + 151) c0 c1) X) ∧ (∀ c0 : Int32, OpR (fun X => fX9_lit F X sz c0) (fun X => fX10_lit F X (sz + 151) c0) X) ∧ (∀ c0 c1 c2 : Int32, (c2 = 0 ∨ c2 = 1) → Op sz (fun X => fX9_write F X sz c0 c1 c2) (fun X => fX10_write F X (sz + 151) c0 c1 c2) X) ∧ (Op sz (fun X => fX9_tear F X sz ) (fun X => fX10_tear F X (sz + 151) ) X) ∧ (OpR (fun X => fX9_judge F X sz ) (fun X => fX10_judge F X (sz + 151) ) X) ∧ (∀ c0 : Int32, Op sz (fun X => fX9_seed F X sz c0) (fun X => fX10_seed F X (sz + 151) c0) X) ∧ (∀ c0 : Int32, Op sz (fun X => fX9_keep F X sz c0) (fun X => fX10_keep F X (sz + 151) c0) X) ∧ (∀ c0 : Int32, Op sz (fun X => fX9_goBack F X sz c0) (fun X => fX10_goBack F X (sz + 151) c0) X)
theorem qsc_ok {L : Nat} {xs : Nat → Int32} {i : Nat} (hL : L ≤ 256) (hi : i < L) : qsc L xs (nI i) = some (xs i) := by
  unfold qsc
  rw [if_pos ⟨nI_pos (by omega), by rw [nI_clamp (by omega)]; exact hi⟩, nI_clamp (by omega)]
set_option maxHeartbeats 4000000 in
theorem law_loop {F L : Nat} {xs : Nat → Int32} {b sz : Nat} (hL : L ≤ 256) (hops : AllOps F sz) : ∀ (n i : Nat) (X : qH), Inv X sz → i ≤ L + 3 → L + 4 - i < n → ∃ X2, fL_law_L18 F L xs b sz n (nI i) X = some (.inr X2) := by
  intro n
  induction n with
  | zero => intro i X hI hi hn; omega
  | succ n ih =>
    intro i X hI hi hn
    show ∃ X2, fL_law_L18_B F L xs b sz (fL_law_L18 F L xs b sz n) (nI i) X = some (.inr X2)
    unfold fL_law_L18_B
    have hlen : (Int32.ofNat L - (4 : Int32)).toInt = (L : Int) - 4 := by
      show (nI L - nI 4).toInt = _
      rw [pk_sub_toInt (by omega) (by omega)]; rfl
    have hcond : ((Int32.ofNat L - (4 : Int32)) < nI i) ↔ L < i + 4 := by
      rw [Int32.lt_iff_toInt_lt, hlen, nI_toInt (by omega)]; omega
    by_cases hend : L < i + 4
    · rw [if_pos (hcond.mpr hend)]
      exact ⟨X, rfl⟩
    rw [if_neg (fun q => hend (hcond.mp q))]
    have e1 : nI i + 1 = nI (i + 1) := nI_1 i
    have e2 : nI i + 2 = nI (i + 2) := nI_add i 2
    have e3 : nI i + 3 = nI (i + 3) := nI_add i 3
    have e4 : nI i + 4 = nI (i + 4) := nI_add i 4
    simp only [e1, e2, e3, e4, qsc_ok (xs := xs) hL (show i < L by omega), qsc_ok (xs := xs) hL (show i + 1 < L by omega), qsc_ok (xs := xs) hL (show i + 2 < L by omega), qsc_ok (xs := xs) hL (show i + 3 < L by omega), Option.bind_some, qlt]
    generalize xs i &&& 31 = w
    generalize xs (i + 1) = p1
    generalize xs (i + 2) = p2
    generalize xs (i + 3) = p3
    have hall := hops X hI
    have go : ∀ X2 : qH, Inv X2 sz → ∃ X3, fL_law_L18 F L xs b sz n (nI (i + 4)) X2 = some (.inr X3) := fun X2 h2 => ih (i + 4) X2 h2 (by omega) (by omega)
    obtain ⟨o0, o1, o2, o3, o4, o5, o6, o7, o8, o9, o10, o11, o12, o13, o14, o15, o16, o17, o18, o19, o20, o21, o22, o23, o24, o25, o26, o27, o28⟩ := hall
    by_cases hc0 : w = 0
    · rw [if_pos hc0]
      obtain ⟨r, X1, X2, f1, f2, h2⟩ := o0 p1
      dsimp only at f1 f2
      simp only [Option.bind_some, qb2, f1, f2, if_true]
      exact go X2 h2
    rw [if_neg hc0]
    by_cases hc1 : w = 1
    · rw [if_pos hc1]
      obtain ⟨r, X1, X2, f1, f2, h2⟩ := o1 
      dsimp only at f1 f2
      simp only [Option.bind_some, qb2, f1, f2, if_true]
      exact go X2 h2
    rw [if_neg hc1]
    by_cases hc2 : w = 2
    · rw [if_pos hc2]
      obtain ⟨r, f1, f2⟩ := o2 
      dsimp only at f1 f2
      simp only [Option.bind_some, f1, f2, if_true]
      exact go X hI
    rw [if_neg hc2]
    by_cases hc3 : w = 3
    · rw [if_pos hc3]
      obtain ⟨r, f1, f2⟩ := o3 p1
      dsimp only at f1 f2
      simp only [Option.bind_some, f1, f2, if_true]
      exact go X hI
    rw [if_neg hc3]
    by_cases hc4 : w = 4
    · rw [if_pos hc4]
      obtain ⟨r, f1, f2⟩ := o4 p1 p2
      dsimp only at f1 f2
      simp only [Option.bind_some, f1, f2, if_true]
      exact go X hI
    rw [if_neg hc4]
    by_cases hc5 : w = 5
    · rw [if_pos hc5]
      obtain ⟨r, f1, f2⟩ := o5 p1 p2
      dsimp only at f1 f2
      simp only [Option.bind_some, f1, f2, if_true]
      exact go X hI
    rw [if_neg hc5]
    by_cases hc6 : w = 6
    · rw [if_pos hc6]
      obtain ⟨r, f1, f2⟩ := o6 p1 p2
      dsimp only at f1 f2
      simp only [Option.bind_some, f1, f2, if_true]
      exact go X hI
    rw [if_neg hc6]
    by_cases hc7 : w = 7
    · rw [if_pos hc7]
      obtain ⟨r, X1, X2, f1, f2, h2⟩ := o7 p1
      dsimp only at f1 f2
      simp only [Option.bind_some, qb2, f1, f2, if_true]
      exact go X2 h2
    rw [if_neg hc7]
    by_cases hc8 : w = 8
    · rw [if_pos hc8]
      obtain ⟨r, X1, X2, f1, f2, h2⟩ := o8 p1
      dsimp only at f1 f2
      simp only [Option.bind_some, qb2, f1, f2, if_true]
      exact go X2 h2
    rw [if_neg hc8]
    by_cases hc9 : w = 9
    · rw [if_pos hc9]
      obtain ⟨r, X1, X2, f1, f2, h2⟩ := o9 p1
      dsimp only at f1 f2
      simp only [Option.bind_some, qb2, f1, f2, if_true]
      exact go X2 h2
    rw [if_neg hc9]
    by_cases hc10 : w = 10
    · rw [if_pos hc10]
      obtain ⟨r, X1, X2, f1, f2, h2⟩ := o10 p1
      dsimp only at f1 f2
      simp only [Option.bind_some, qb2, f1, f2, if_true]
      exact go X2 h2
    rw [if_neg hc10]
    by_cases hc11 : w = 11
    · rw [if_pos hc11]
      obtain ⟨r, X1, X2, f1, f2, h2⟩ := o11 p1
      dsimp only at f1 f2
      simp only [Option.bind_some, qb2, f1, f2, if_true]
      exact go X2 h2
    rw [if_neg hc11]
    by_cases hc12 : w = 12
    · rw [if_pos hc12]
      obtain ⟨r, X1, X2, f1, f2, h2⟩ := o12 
      dsimp only at f1 f2
      simp only [Option.bind_some, qb2, f1, f2, if_true]
      exact go X2 h2
    rw [if_neg hc12]
    by_cases hc13 : w = 13
    · rw [if_pos hc13]
      obtain ⟨r, X1, X2, f1, f2, h2⟩ := o13 p1 p2
      dsimp only at f1 f2
      simp only [Option.bind_some, qb2, f1, f2, if_true]
      exact go X2 h2
    rw [if_neg hc13]
    by_cases hc14 : w = 14
    · rw [if_pos hc14]
      obtain ⟨r, f1, f2⟩ := o14 p1
      dsimp only at f1 f2
      simp only [Option.bind_some, f1, f2, if_true]
      exact go X hI
    rw [if_neg hc14]
    by_cases hc15 : w = 15
    · rw [if_pos hc15]
      obtain ⟨r, f1, f2⟩ := o15 p1
      dsimp only at f1 f2
      simp only [Option.bind_some, f1, f2, if_true]
      exact go X hI
    rw [if_neg hc15]
    by_cases hc16 : w = 16
    · rw [if_pos hc16]
      obtain ⟨r, f1, f2⟩ := o16 p1 p2
      dsimp only at f1 f2
      simp only [Option.bind_some, f1, f2, if_true]
      exact go X hI
    rw [if_neg hc16]
    by_cases hc17 : w = 17
    · rw [if_pos hc17]
      obtain ⟨r, f1, f2⟩ := o17 p1
      dsimp only at f1 f2
      simp only [Option.bind_some, f1, f2, if_true]
      exact go X hI
    rw [if_neg hc17]
    by_cases hc18 : w = 18
    · rw [if_pos hc18]
      obtain ⟨r, X2, f1, f2, h2⟩ := o18 p1 p2 p3
      simp only [Option.bind_some, qb2, f1, f2, if_true]
      exact go X2 h2
    rw [if_neg hc18]
    by_cases hc19 : w = 19
    · rw [if_pos hc19]
      obtain ⟨r, f1, f2⟩ := o19 p1
      dsimp only at f1 f2
      simp only [Option.bind_some, f1, f2, if_true]
      exact go X hI
    rw [if_neg hc19]
    by_cases hc20 : w = 20
    · rw [if_pos hc20]
      obtain ⟨r, X1, X2, f1, f2, h2⟩ := o20 p1
      dsimp only at f1 f2
      simp only [Option.bind_some, qb2, f1, f2, if_true]
      exact go X2 h2
    rw [if_neg hc20]
    by_cases hc21 : w = 21
    · rw [if_pos hc21]
      obtain ⟨r, X1, X2, f1, f2, h2⟩ := o21 p1 p2
      dsimp only at f1 f2
      simp only [Option.bind_some, qb2, f1, f2, if_true]
      exact go X2 h2
    rw [if_neg hc21]
    by_cases hc22 : w = 22
    · rw [if_pos hc22]
      obtain ⟨r, f1, f2⟩ := o22 p1
      dsimp only at f1 f2
      simp only [Option.bind_some, f1, f2, if_true]
      exact go X hI
    rw [if_neg hc22]
    by_cases hc23 : w = 23
    · rw [if_pos hc23]
      have hb3 : (if p3 = 0 then (some 0 : Option Int32) else some 1) = some (if p3 = 0 then 0 else 1) := by split <;> rfl
      have hb4 : (if p3 = 0 then (0 : Int32) else 1) = 0 ∨ (if p3 = 0 then (0 : Int32) else 1) = 1 := by split <;> simp
      obtain ⟨r, X1, X2, f1, f2, h2⟩ := o23 p1 p2 _ hb4
      dsimp only at f1 f2
      simp only [hb3, Option.bind_some, qb2, f1, f2, if_true]
      exact go X2 h2
    rw [if_neg hc23]
    by_cases hc24 : w = 24
    · rw [if_pos hc24]
      obtain ⟨r, X1, X2, f1, f2, h2⟩ := o24 
      dsimp only at f1 f2
      simp only [Option.bind_some, qb2, f1, f2, if_true]
      exact go X2 h2
    rw [if_neg hc24]
    by_cases hc25 : w = 25
    · rw [if_pos hc25]
      obtain ⟨r, f1, f2⟩ := o25 
      dsimp only at f1 f2
      simp only [Option.bind_some, f1, f2, if_true]
      exact go X hI
    rw [if_neg hc25]
    by_cases hc26 : w = 26
    · rw [if_pos hc26]
      obtain ⟨r, X1, X2, f1, f2, h2⟩ := o26 p1
      dsimp only at f1 f2
      simp only [Option.bind_some, qb2, f1, f2, if_true]
      exact go X2 h2
    rw [if_neg hc26]
    by_cases hc27 : w = 27
    · rw [if_pos hc27]
      obtain ⟨r, X1, X2, f1, f2, h2⟩ := o27 p1
      dsimp only at f1 f2
      simp only [Option.bind_some, qb2, f1, f2, if_true]
      exact go X2 h2
    rw [if_neg hc27]
    by_cases hc28 : w = 28
    · rw [if_pos hc28]
      obtain ⟨r, X1, X2, f1, f2, h2⟩ := o28 p1
      dsimp only at f1 f2
      simp only [Option.bind_some, qb2, f1, f2, if_true]
      exact go X2 h2
    rw [if_neg hc28]
    exact go X hI
/-- the start: the two constructors make a heap with the invariant -/
def Start (F sz : Nat) : Prop := ∃ X2 X4 : qH, fX9_init F (qnO (fun _ => none) sz 8 [.null, .int 0, .int 0, .null, .null, .int 0, .null, .null, .null, .null, .null, .null, .null, .null, .null, .null]) (sz + 1) sz = some X2 ∧ fX10_init F (qnO X2 (sz + 151) 9 [.int 0, .int 0, .null, .null, .null, .null, .int 0, .int 0, .null, .int 0, .null, .int 0, .int 0, .int 0, .int 0, .int 0, .null, .int 0, .null, .null, .null, .null, .null, .null, .null, .int 0, .int 0, .int 0, .null, .null, .null, .null, .null, .int 0, .null, .null, .int 0, .null, .null, .null, .null, .null]) (sz + 152) (sz + 151) = some X4 ∧ Inv X4 sz
theorem pure_open {F L : Nat} {xs : Nat → Int32} {b sz : Nat} (hL : L ≤ 256) (hF : 300 ≤ F) (hs : Start F sz) (hops : AllOps F sz) : fL_law F L xs b (fun _ => none) sz = some 1 := by
  obtain ⟨X2, X4, f1, f2, hI⟩ := hs
  obtain ⟨X5, h5⟩ := law_loop (b := b) (xs := xs) hL hops F 0 X4 hI (by omega) (by omega)
  unfold fL_law
  simp only [qlt, f1, f2, Option.bind_some]
  rw [show (0 : Int32) = nI 0 from rfl, h5]
  rfl
