/-! partner: the class -/
theorem oI_m1 {o : Option Nat} (h : ∀ g : Nat, o = some g → g < 100) : (oI o = -1) = (o = none) := by
  cases o with
  | none => exact propext ⟨fun _ => rfl, fun _ => rfl⟩
  | some g => exact propext ⟨fun q => absurd q (nI_m1 (h g rfl)), fun q => by cases q⟩
theorem oI_neg {o : Option Nat} (h : ∀ g : Nat, o = some g → g < 100) : (oI o < 0) = (o = none) := by
  cases o with
  | none => exact propext ⟨fun _ => rfl, fun _ => by show (-1 : Int32) < 0; decide⟩
  | some g => exact propext ⟨fun q => absurd q (nI_pos (by have := h g rfl; omega)), fun q => by cases q⟩
/-- what the asking reads, and its two rows: the class -/
def ocI (X0 Y : qH) (a : Nat) (tk : Nat → Option Nat) (rf : Nat → Int32) (X : qH) : Prop := shX X = Y ∧ (∀ q : Nat, q ≠ a + 1 → q ≠ a + 2 → X q = X0 q) ∧ ∀ i : Nat, i < 8 → ga X (a + 1) i = oI (tk i) ∧ ga X (a + 2) i = rf i
def omI (X0 Y : qH) (m : Nat) (tk : Nat → Option Nat) (rf : Nat → Int32) (X : qH) : Prop := shX X = Y ∧ (∀ q : Nat, q ≠ m + 18 → q ≠ m + 19 → X q = X0 q) ∧ ∀ i : Nat, i < 8 → ga X (m + 19) i = oI (tk i) ∧ ga X (m + 18) i = rf i
theorem i_0le {o : Option Nat} (h : ∀ g : Nat, o = some g → g < 100) : (0 ≤ oI o) = ¬ (o = none) := by
  rw [← oI_neg h]
  exact propext ⟨fun q => i_nlt.mpr q, fun q => i_nlt.mp q⟩
theorem shr0 {x : Int32} {i : Nat} (h : i < 32) : ((x >>> (nI i &&& 31)) &&& 1 = 0) ↔ ¬ tb x i := by
  rw [← shr_tb h]
  have : ((x >>> (nI i &&& 31)) &&& 1) = 0 ∨ ((x >>> (nI i &&& 31)) &&& 1) = 1 := by
    obtain ⟨j, hj, e⟩ := pk_andE (x >>> (nI i &&& 31)) (m := 1) 1 (by decide)
    rw [e]
    rcases (show j = 0 ∨ j = 1 by omega) with rfl | rfl
    · exact Or.inl rfl
    · exact Or.inr rfl
  rcases this with q | q
  · rw [q]; exact ⟨fun _ => by decide, fun _ => rfl⟩
  · rw [q]; exact ⟨fun y => absurd y (by decide), fun y => absurd rfl y⟩
theorem nearC {F : Nat} {X Y : qH} {a b nt c h : Nat} {ce : Nat → Nat} {rk : Nat → Bool} {x : Int32} (hX : shX X = Y) (w4 : Y4 Y a) (wB : YB Y b) (wN : YN Y nt) (bc : gi X b 5 = nI c) (c8 : c ≤ 8) (hce : ∀ g : Nat, g < c → ga X (b + 1) g = nI (ce g) ∧ ce g < 30) (hrk : ∀ g : Nat, g < c → (ga X (nt + 1) g ≤ 0) = ¬ (rk g = true)) (hh : h < c) (hx : ga X (a + 2) h = x) (hF : 100 ≤ F) :
    fX4_nearestToAsk F X a b nt (nI h) = some (oI (nbF (opB rk x) (fun g => ap (ce h) (ce g)) (c / 2))) := by
  have hin : ∀ k g : Nat, nbF (opB rk x) (fun g => ap (ce h) (ce g)) k = some g → g < 2 * k := fun k g e => (nbF_in k g e).2.1
  have L := lpF (fun n (s : Int32 × Int32) => fX4_nearestToAsk_L6 F X a b nt (nI h) n s.1 s.2) (fun k => (oI (nbF (opB rk x) (fun g => ap (ce h) (ce g)) k), nI (2 * k + 1))) (c / 2) (oI (nbF (opB rk x) (fun g => ap (ce h) (ce g)) (c / 2)))
    (fun n => by
      show fX4_nearestToAsk_L6_B F X a b nt (nI h) (fX4_nearestToAsk_L6 F X a b nt (nI h) n) _ (nI (2 * (c / 2) + 1)) = _
      unfold fX4_nearestToAsk_L6_B
      simp only [gB wB, hX, Option.bind_some, bc, if_pos (nI_le (show c ≤ 2 * (c / 2) + 1 by omega) (by omega))])
    (fun n k hk => by
      show fX4_nearestToAsk_L6_B F X a b nt (nI h) (fX4_nearestToAsk_L6 F X a b nt (nI h) n) (oI (nbF (opB rk x) (fun g => ap (ce h) (ce g)) k)) (nI (2 * k + 1)) = fX4_nearestToAsk_L6 F X a b nt (nI h) n (oI (nbF (opB rk x) (fun g => ap (ce h) (ce g)) (k + 1))) (nI (2 * (k + 1) + 1))
      unfold fX4_nearestToAsk_L6_B
      have hg : 2 * k + 1 < c := by omega
      have l8 : 2 * k + 1 < 8 := by omega
      have lh : h < 8 := by omega
      have e2 : nI (2 * k + 1) + (2 : Int32) = nI (2 * (k + 1) + 1) := nI_add (2 * k + 1) 2
      have c1 := (hce h hh).2
      have c2 := (hce _ hg).2
      have hbk := hin k
      rw [nbF]
      cases hop : opB rk x (2 * k + 1) with
      | false =>
        rw [if_neg (show ¬ (false = true) by decide)]
        by_cases z : rk (2 * k + 1) = true
        · have hb : tb x (2 * k + 1) := by
            unfold opB at hop
            rw [z] at hop
            unfold tb
            simpa using hop
          simp only [gB wB, gN wN, g4 w4, hX, Option.bind_some, bc, if_neg (nI_ge hg (by omega)), l8, hrk _ hg, if_neg (show ¬ ¬ (rk (2 * k + 1) = true) from fun y => y z), lh, hx, if_neg (fun y => (shr0 (show 2 * k + 1 < 32 by omega)).mp y hb), if_true, qlt, e2]
        · simp only [gB wB, gN wN, g4 w4, hX, Option.bind_some, bc, if_neg (nI_ge hg (by omega)), l8, hrk _ hg, if_pos z, if_true, qlt, e2]
      | true =>
        have z : rk (2 * k + 1) = true := by
          unfold opB at hop
          rw [Bool.and_eq_true] at hop
          exact hop.1
        have hb : ¬ tb x (2 * k + 1) := fun y => by
          unfold opB at hop
          unfold tb at y
          rw [y] at hop
          simp at hop
        rw [if_pos rfl]
        cases hn : nbF (opB rk x) (fun g => ap (ce h) (ce g)) k with
        | none =>
          have e1 : oI none = (-1 : Int32) := rfl
          simp only [gB wB, gN wN, g4 w4, hX, Option.bind_some, bc, if_neg (nI_ge hg (by omega)), l8, hrk _ hg, if_neg (show ¬ ¬ (rk (2 * k + 1) = true) from fun y => y z), lh, hx, if_pos ((shr0 (show 2 * k + 1 < 32 by omega)).mpr hb), if_neg (show ¬ (1 : Int32) = 0 by decide), e1, if_true, qlt, e2]
          rfl
        | some y =>
          have hy := hbk y hn
          have ly : y < 8 := by omega
          have c3 := (hce y (by omega)).2
          have a1 := apart_cl (F := F) hX wB lh l8 (hce h hh).1 (hce _ hg).1 (by omega) (by omega)
          have a2 := apart_cl (F := F) hX wB lh ly (hce h hh).1 (hce y (by omega)).1 (by omega) (by omega)
          rw [ap_comm] at a1 a2
          have e1 : oI (some y) = nI y := rfl
          have ne1 : ¬ nI y = (-1 : Int32) := nI_m1 (by omega)
          have d1 : ap (ce h) (ce (2 * k + 1)) < 100 := by unfold ap; split <;> omega
          have d2 : ap (ce h) (ce y) < 100 := by unfold ap; split <;> omega
          have hle := nI_leI (show ap (ce h) (ce y) < 2 ^ 31 by omega) (show ap (ce h) (ce (2 * k + 1)) < 2 ^ 31 by omega)
          dsimp only
          by_cases z3 : ap (ce h) (ce (2 * k + 1)) < ap (ce h) (ce y)
          · rw [if_pos z3]
            simp only [gB wB, gN wN, g4 w4, hX, Option.bind_some, bc, if_neg (nI_ge hg (by omega)), l8, hrk _ hg, if_neg (show ¬ ¬ (rk (2 * k + 1) = true) from fun y => y z), lh, hx, if_pos ((shr0 (show 2 * k + 1 < 32 by omega)).mpr hb), if_neg (show ¬ (1 : Int32) = 0 by decide), e1, if_neg ne1, a1, a2, hle, if_neg (show ¬ ap (ce h) (ce y) ≤ ap (ce h) (ce (2 * k + 1)) by omega), qlt, e2]
            rfl
          · rw [if_neg z3]
            simp only [gB wB, gN wN, g4 w4, hX, Option.bind_some, bc, if_neg (nI_ge hg (by omega)), l8, hrk _ hg, if_neg (show ¬ ¬ (rk (2 * k + 1) = true) from fun y => y z), lh, hx, if_pos ((shr0 (show 2 * k + 1 < 32 by omega)).mpr hb), if_neg (show ¬ (1 : Int32) = 0 by decide), e1, if_neg ne1, a1, a2, hle, if_pos (show ap (ce h) (ce y) ≤ ap (ce h) (ce (2 * k + 1)) by omega), qlt, e2]) F 0 (by omega) (by omega)
  dsimp only at L
  rw [nbF, show oI none = (-1 : Int32) from rfl, show nI (2 * 0 + 1) = (1 : Int32) from rfl] at L
  simp only [fX4_nearestToAsk, g4 w4, hX, L, Option.bind_some]
theorem upd_oI {f : Nat → Int32} {tk : Nat → Option Nat} {k i : Nat} {v : Option Nat} {x : Int32} (hf : f i = oI (tk i)) (hx : x = oI v) : upd f k x i = oI (fu tk k v i) := by
  by_cases z : i = k
  · subst z; rw [upd_self, fu_self, hx]
  · rw [upd_ne _ z, fu_ne _ z, hf]
theorem upd_rf {f rf : Nat → Int32} {k i : Nat} {x y : Int32} (hf : f i = rf i) (hx : x = y) : upd f k x i = upd rf k y i := by
  by_cases z : i = k
  · subst z; rw [upd_self, upd_self, hx]
  · rw [upd_ne _ z, upd_ne _ z, hf]
set_option maxHeartbeats 1000000 in
theorem askC {F : Nat} {X0 X Y : qH} {a b c h g : Nat} {ce : Nat → Nat} {tk : Nat → Option Nat} {rf : Nat → Int32} (w4 : Y4 Y a) (wB : YB Y b) (hA : ocI X0 Y a tk rf X) (hce : ∀ g : Nat, g < c → ga X (b + 1) g = nI (ce g) ∧ ce g < 30) (c8 : c ≤ 8) (hJ : JP c tk rf) (hh : h < c) (h2 : h % 2 = 0) (hg : g < c) (g2 : g % 2 = 1) (hn : tk h = none) :
    ∃ X2, fX4_ask F X a b (nI h) (nI g) = some X2 ∧ ocI X0 Y a (askT ce tk h g) (askR ce tk rf h g) X2 := by
  obtain ⟨h1, h2', h3⟩ := hA
  have l8 : h < 8 := by omega
  have lg : g < 8 := by omega
  have hpr : ∀ X1 tk1 rf1, ocI X0 Y a tk1 rf1 X1 → ∃ X2, fX4_pair F X1 a (nI h) (nI g) = some X2 ∧ ocI X0 Y a (fu (fu tk1 h (some g)) g (some h)) rf1 X2 := fun X1 tk1 rf1 hA1 => by
    obtain ⟨k1, k2, k3⟩ := hA1
    have hXa : shX (pA X1 (a + 1) h (nI g)) = Y := by simp only [k4 w4, k1]
    have hXb : shX (pA (pA X1 (a + 1) h (nI g)) (a + 1) g (nI h)) = Y := by simp only [k4 w4, hXa]
    refine ⟨pA (pA X1 (a + 1) h (nI g)) (a + 1) g (nI h), ?_, hXb, fun q q1 q2 => (pA_ne q1).trans ((pA_ne q1).trans (k2 q q1 q2)), fun i hi => ⟨?_, ?_⟩⟩
    · simp only [fX4_pair, g4 w4, s4 w4, k1, hXa, l8, lg, Option.bind_some]
    · rw [ga_pA_self hXa w4.2.1, ga_pA_self k1 w4.2.1]
      exact upd_oI (upd_oI (k3 i hi).1 rfl) rfl
    · rw [ga_pA_ne (by omega), ga_pA_ne (by omega)]
      exact (k3 i hi).2
  have hgo : ga X (a + 1) g = oI (tk g) := (h3 g lg).1
  unfold askT askR
  cases ho : tk g with
  | none =>
    dsimp only
    obtain ⟨X2, p1, p2⟩ := hpr X tk rf ⟨h1, h2', h3⟩
    refine ⟨X2, ?_, p2⟩
    rw [ho] at hgo
    have hgo' : ga X (a + 1) g = (-1 : Int32) := hgo
    simp only [fX4_ask, g4 w4, h1, lg, hgo', Option.bind_some, if_true, p1]
  | some o =>
    dsimp only
    rw [ho] at hgo
    have hgo' : ga X (a + 1) g = nI o := hgo
    obtain ⟨o1, o2, o3, o4⟩ := hJ.1 g o ho
    have lo : o < 8 := by omega
    have oh : o ≠ h := fun q => by rw [q, hn] at o3; cases o3
    have ne1 : ¬ nI o = (-1 : Int32) := nI_m1 (by omega)
    have c1 := (hce h hh).2
    have c2 := (hce g hg).2
    have c3 := (hce o o2).2
    have a1 := apart_cl (F := F) h1 wB lg l8 (hce g hg).1 (hce h hh).1 (by omega) (by omega)
    have a2 := apart_cl (F := F) h1 wB lg lo (hce g hg).1 (hce o o2).1 (by omega) (by omega)
    rw [ap_comm] at a1 a2
    have d1 : ap (ce g) (ce h) < 100 := by unfold ap; split <;> omega
    have d2 : ap (ce g) (ce o) < 100 := by unfold ap; split <;> omega
    have hnr : fX4_isNearer F X b (nI g) (nI h) (nI o) = some (if nrB ce g h o = true then 1 else 0) := by
      unfold fX4_isNearer
      simp only [a1, a2, Option.bind_some, nI_ltI (show ap (ce g) (ce h) < 2 ^ 31 by omega) (show ap (ce g) (ce o) < 2 ^ 31 by omega), nI_eq (show ap (ce g) (ce h) < 2 ^ 31 by omega) (show ap (ce g) (ce o) < 2 ^ 31 by omega), nI_leI (show o < 2 ^ 31 by omega) (show h < 2 ^ 31 by omega)]
      unfold nrB
      by_cases z1 : ap (ce g) (ce h) < ap (ce g) (ce o)
      · rw [if_pos z1, if_pos (decide_eq_true (Or.inl z1))]; rfl
      · rw [if_neg z1]
        by_cases z2 : ap (ce g) (ce h) = ap (ce g) (ce o)
        · rw [if_pos z2]
          by_cases z3 : o ≤ h
          · rw [if_pos z3, if_neg (fun y => by rcases of_decide_eq_true y with w | w <;> omega)]; rfl
          · rw [if_neg z3, if_pos (decide_eq_true (Or.inr ⟨z2, by omega⟩))]; rfl
        · rw [if_neg z2, if_neg (fun y => by rcases of_decide_eq_true y with w | w <;> omega)]; rfl
    by_cases zn : nrB ce g h o = true
    · rw [if_pos zn] at hnr ⊢
      rw [if_pos zn]
      have hX11 : shX (pA X (a + 1) o (-1)) = Y := by simp only [k4 w4, h1]
      have hX15 : shX (pA (pA X (a + 1) o (-1)) (a + 2) o (rf o ||| ((1 : Int32) <<< (nI g &&& 31)))) = Y := by simp only [k4 w4, hX11]
      have e13 : ga (pA X (a + 1) o (-1)) (a + 2) o = rf o := by rw [ga_pA_ne (by omega)]; exact (h3 o lo).2
      obtain ⟨X2, p1, p2⟩ := hpr (pA (pA X (a + 1) o (-1)) (a + 2) o (rf o ||| ((1 : Int32) <<< (nI g &&& 31)))) (fu tk o none) (upd rf o (rf o ||| ((1 : Int32) <<< (nI g &&& 31)))) ⟨hX15, fun q q1 q2 => (pA_ne q2).trans ((pA_ne q1).trans (h2' q q1 q2)), fun i hi => ⟨by
        rw [ga_pA_ne (by omega), ga_pA_self h1 w4.2.1]
        exact upd_oI (h3 i hi).1 rfl, by
        rw [ga_pA_self hX11 w4.2.2, ga_pA_ne (by omega)]
        exact upd_rf (h3 i hi).2 rfl⟩⟩
      refine ⟨X2, ?_, p2⟩
      simp only [fX4_ask, g4 w4, s4 w4, h1, lg, lo, hgo', Option.bind_some, if_neg ne1, hnr, if_neg (show ¬ (1 : Int32) = 0 by decide), hX11, e13, qlt, p1]
    · rw [if_neg zn] at hnr ⊢
      rw [if_neg zn]
      have hX9 : shX (pA X (a + 2) h (rf h ||| ((1 : Int32) <<< (nI g &&& 31)))) = Y := by simp only [k4 w4, h1]
      refine ⟨pA X (a + 2) h (rf h ||| ((1 : Int32) <<< (nI g &&& 31))), ?_, hX9, fun q q1 q2 => (pA_ne q2).trans (h2' q q1 q2), fun i hi => ⟨?_, ?_⟩⟩
      · simp only [fX4_ask, g4 w4, s4 w4, h1, lg, l8, hgo', Option.bind_some, if_neg ne1, hnr, if_true, (h3 h l8).2, qlt]
      · rw [ga_pA_ne (by omega)]; exact (h3 i hi).1
      · rw [ga_pA_self h1 w4.2.2]; exact upd_rf (h3 i hi).2 rfl
set_option maxHeartbeats 1000000 in
theorem askAllC {F : Nat} {X0 Y : qH} {a b nt c : Nat} {ce : Nat → Nat} {rk : Nat → Bool} {s0 : (Nat → Option Nat) × (Nat → Int32)} (w4 : Y4 Y a) (wB : YB Y b) (wN : YN Y nt) (hb : a + 3 ≤ b ∨ b + 5 ≤ a) (hnt : a + 3 ≤ nt ∨ nt + 5 ≤ a) (bc : gi X0 b 5 = nI c) (c8 : c ≤ 8) (hce : ∀ g : Nat, g < c → ga X0 (b + 1) g = nI (ce g) ∧ ce g < 30) (hrk : ∀ g : Nat, g < c → (ga X0 (nt + 1) g ≤ 0) = ¬ (rk g = true)) (hJ : JP c s0.1 s0.2) (hF : 100 ≤ F) {X : qH} (hA : ocI X0 Y a s0.1 s0.2 X) :
    ∃ X2, fX4_askAll F X a b nt = some (if (rdT rk ce c s0 ((c + 1) / 2)).1 = true then 1 else 0, X2) ∧ ocI X0 Y a (rdT rk ce c s0 ((c + 1) / 2)).2.1 (rdT rk ce c s0 ((c + 1) / 2)).2.2 X2 := by
  have main : ∀ (n k : Nat) (X : qH), k ≤ (c + 1) / 2 → (c + 1) / 2 - k < n → ocI X0 Y a (rdT rk ce c s0 k).2.1 (rdT rk ce c s0 k).2.2 X → ∃ X2, fX4_askAll_L5 F a b nt n (if (rdT rk ce c s0 k).1 = true then 1 else 0) (nI (2 * k)) X = some (if (rdT rk ce c s0 ((c + 1) / 2)).1 = true then 1 else 0, X2) ∧ ocI X0 Y a (rdT rk ce c s0 ((c + 1) / 2)).2.1 (rdT rk ce c s0 ((c + 1) / 2)).2.2 X2 := by
    intro n
    induction n with
    | zero => intro k X hk hn; omega
    | succ n ih =>
      intro k X hk hn hA
      show ∃ X2, fX4_askAll_L5_B F a b nt (fX4_askAll_L5 F a b nt n) _ (nI (2 * k)) X = _ ∧ _
      unfold fX4_askAll_L5_B
      obtain ⟨h1, h2, h3⟩ := id hA
      have bcX : gi X b 5 = nI c := by rw [gi_congr (h2 b (by omega) (by omega))]; exact bc
      have ceX : ∀ g : Nat, g < c → ga X (b + 1) g = nI (ce g) ∧ ce g < 30 := fun g hg => by rw [ga_congr (h2 (b + 1) (by omega) (by omega))]; exact hce g hg
      have rkX : ∀ g : Nat, g < c → (ga X (nt + 1) g ≤ 0) = ¬ (rk g = true) := fun g hg => by rw [ga_congr (h2 (nt + 1) (by omega) (by omega))]; exact hrk g hg
      by_cases q : k = (c + 1) / 2
      · subst q
        refine ⟨X, ?_, hA⟩
        simp only [gB wB, h1, Option.bind_some, bcX, if_pos (nI_le (show c ≤ 2 * ((c + 1) / 2) by omega) (by omega))]
      · have hlt : 2 * k < c := by omega
        have l8 : 2 * k < 8 := by omega
        have ih' := fun X => ih (k + 1) X (by omega) (by omega)
        have e2 : nI (2 * k) + (2 : Int32) = nI (2 * (k + 1)) := nI_add (2 * k) 2
        rw [rdT] at ih'
        have hJk := (rdT_J (rk := rk) (ce := ce) c8 hJ k (by omega)).1
        generalize rdT rk ce c s0 k = s at *
        unfold stp at ih'
        have htl : ∀ g : Nat, s.2.1 (2 * k) = some g → g < 100 := fun g e => by have := (hJk.1 _ _ e).2.1; omega
        by_cases z1 : rk (2 * k) = true
        · by_cases z2 : s.2.1 (2 * k) = none
          · rw [if_pos (by rw [z1, z2]; rfl)] at ih'
            have nc := nearC (F := F) (x := s.2.2 (2 * k)) h1 w4 wB wN bcX c8 ceX rkX hlt (h3 _ l8).2 hF
            have t1 : ga X (a + 1) (2 * k) = (-1 : Int32) := by rw [(h3 _ l8).1, z2]; rfl
            cases hnb : nbF (opB rk (s.2.2 (2 * k))) (fun g => ap (ce (2 * k)) (ce g)) (c / 2) with
            | none =>
              rw [hnb] at ih' nc
              obtain ⟨X2, k1, k2⟩ := ih' X hA
              refine ⟨X2, ?_, k2⟩
              have nc' : fX4_nearestToAsk F X a b nt (nI (2 * k)) = some (-1 : Int32) := nc
              simp only [gB wB, gN wN, g4 w4, h1, Option.bind_some, bcX, if_neg (nI_ge hlt (by omega)), l8, rkX _ hlt, if_neg (show ¬ ¬ (rk (2 * k) = true) from fun y => y z1), t1, nc', if_true, qb2, qlt, e2]
              exact k1
            | some g =>
              rw [hnb] at ih' nc
              dsimp only at ih'
              obtain ⟨b1, b2, b3⟩ := nbF_in _ _ hnb
              have nc' : fX4_nearestToAsk F X a b nt (nI (2 * k)) = some (nI g) := nc
              obtain ⟨X3, m1, m2⟩ := askC (F := F) w4 wB hA ceX c8 hJk hlt (by omega) (show g < c by omega) b3 z2
              obtain ⟨X2, k1, k2⟩ := ih' X3 m2
              refine ⟨X2, ?_, k2⟩
              simp only [gB wB, gN wN, g4 w4, h1, Option.bind_some, bcX, if_neg (nI_ge hlt (by omega)), l8, rkX _ hlt, if_neg (show ¬ ¬ (rk (2 * k) = true) from fun y => y z1), t1, nc', if_true, if_neg (nI_m1 (show g < 100 by omega)), m1, qb2, qlt, e2]
              simp only [if_true] at k1
              exact k1
          · have zz : ¬ (rk (2 * k) && (s.2.1 (2 * k)).isNone) = true := fun y => by
              rw [Bool.and_eq_true, Option.isNone_iff_eq_none] at y
              exact z2 y.2
            rw [if_neg zz] at ih'
            obtain ⟨X2, k1, k2⟩ := ih' X hA
            refine ⟨X2, ?_, k2⟩
            simp only [gB wB, gN wN, g4 w4, h1, Option.bind_some, bcX, if_neg (nI_ge hlt (by omega)), l8, rkX _ hlt, if_neg (show ¬ ¬ (rk (2 * k) = true) from fun y => y z1), (h3 _ l8).1, oI_m1 htl, if_neg z2, qb2, qlt, e2]
            exact k1
        · have zz : ¬ (rk (2 * k) && (s.2.1 (2 * k)).isNone) = true := fun y => by
            rw [Bool.and_eq_true] at y
            exact z1 y.1
          rw [if_neg zz] at ih'
          obtain ⟨X2, k1, k2⟩ := ih' X hA
          refine ⟨X2, ?_, k2⟩
          simp only [gB wB, gN wN, h1, Option.bind_some, bcX, if_neg (nI_ge hlt (by omega)), l8, rkX _ hlt, if_pos z1, qb2, qlt, e2]
          exact k1
  obtain ⟨X2, k1, k2⟩ := main F 0 X (by omega) (by omega) hA
  refine ⟨X2, ?_, k2⟩
  have k1' : fX4_askAll_L5 F a b nt F (0 : Int32) (0 : Int32) X = _ := k1
  simp only [fX4_askAll, g4 w4, hA.1, k1', qb2, Option.bind_some, qz_ite]
theorem settleC {F : Nat} {X Y : qH} {a b nt c : Nat} {ce : Nat → Nat} {rk : Nat → Bool} (hX : shX X = Y) (w4 : Y4 Y a) (wB : YB Y b) (wN : YN Y nt) (hb : a + 3 ≤ b ∨ b + 5 ≤ a) (hnt : a + 3 ≤ nt ∨ nt + 5 ≤ a) (bc : gi X b 5 = nI c) (c8 : c ≤ 8) (hce : ∀ g : Nat, g < c → ga X (b + 1) g = nI (ce g) ∧ ce g < 30) (hrk : ∀ g : Nat, g < c → (ga X (nt + 1) g ≤ 0) = ¬ (rk g = true)) (hF : 100 ≤ F) :
    ∃ X2, fX4_settle F X a b nt = some X2 ∧ ocI X Y a (itT rk ce c 37).2.1 (itT rk ce c 37).2.2 X2 := by
  have init : ∀ (n k : Nat) (X1 : qH), k ≤ 8 → 8 - k < n → shX X1 = Y → (∀ q : Nat, q ≠ a + 1 → q ≠ a + 2 → X1 q = X q) → (∀ i : Nat, i < k → ga X1 (a + 1) i = -1 ∧ ga X1 (a + 2) i = 0) → ∃ X2, fX4_settle_L2 F a b nt n (nI k) X1 = some X2 ∧ ocI X Y a (fun _ => none) (fun _ => 0) X2 := by
    intro n
    induction n with
    | zero => intro k X1 hk hn; omega
    | succ n ih =>
      intro k X1 hk hn h1 h2 h3
      show ∃ X2, fX4_settle_L2_B F a b nt (fX4_settle_L2 F a b nt n) (nI k) X1 = some X2 ∧ _
      unfold fX4_settle_L2_B
      by_cases q : k = 8
      · subst q
        exact ⟨X1, by rw [if_pos (show (8 : Int32) ≤ nI 8 by decide)], h1, h2, fun i hi => h3 i hi⟩
      · have lk : k < 8 := by omega
        rw [if_neg (show ¬ (8 : Int32) ≤ nI k from nI_ge (b := 8) lk (by omega))]
        have hXa : shX (pA X1 (a + 1) k (-1)) = Y := by simp only [k4 w4, h1]
        have hXb : shX (pA (pA X1 (a + 1) k (-1)) (a + 2) k 0) = Y := by simp only [k4 w4, hXa]
        obtain ⟨X2, k1, k2⟩ := ih (k + 1) (pA (pA X1 (a + 1) k (-1)) (a + 2) k 0) (by omega) (by omega) hXb (fun q q1 q2 => (pA_ne q2).trans ((pA_ne q1).trans (h2 q q1 q2))) (fun i hi => by
          rw [ga_pA_ne (by omega), ga_pA_self h1 w4.2.1, ga_pA_self hXa w4.2.2, ga_pA_ne (by omega)]
          by_cases z : i = k
          · subst z; rw [upd_self, upd_self]; exact ⟨rfl, rfl⟩
          · rw [upd_ne _ z, upd_ne _ z]; exact h3 i (by omega))
        refine ⟨X2, ?_, k2⟩
        simp only [g4 w4, s4 w4, h1, hXa, lk, Option.bind_some, qlt, nI_1]
        exact k1
  obtain ⟨X8, e1, i8⟩ := init F 0 X (by omega) (by omega) hX (fun _ _ _ => rfl) (fun i hi => by omega)
  have h37 := itT_37 (rk := rk) (ce := ce) c8
  have loop : ∀ (n r : Nat) (X1 : qH), r ≤ 37 → 37 - r < n → ocI X Y a (itT rk ce c r).2.1 (itT rk ce c r).2.2 X1 → ∃ X2, fX4_settle_L33 F a b nt n (if (itT rk ce c r).1 = true then 1 else 0) (nI r) X1 = some X2 ∧ ocI X Y a (itT rk ce c 37).2.1 (itT rk ce c 37).2.2 X2 := by
    intro n
    induction n with
    | zero => intro r X1 hr hn; omega
    | succ n ih =>
      intro r X1 hr hn hA
      show ∃ X2, fX4_settle_L33_B F a b nt (fX4_settle_L33 F a b nt n) _ (nI r) X1 = some X2 ∧ _
      unfold fX4_settle_L33_B
      rw [if_neg (show ¬ (64 : Int32) ≤ nI r from nI_ge (b := 64) (by omega) (by omega))]
      by_cases z : (itT rk ce c r).1 = true
      · have hr37 : r ≠ 37 := fun y => by rw [y, h37] at z; cases z
        have ih' := fun X1 => ih (r + 1) X1 (by omega) (by omega)
        rw [itT, if_pos z] at ih'
        obtain ⟨X3, m1, m2⟩ := askAllC (F := F) (X0 := X) (rk := rk) (ce := ce) w4 wB wN hb hnt bc c8 hce hrk (itT_J (rk := rk) (ce := ce) c8 r).1 hF hA
        obtain ⟨X2, k1, k2⟩ := ih' X3 m2
        refine ⟨X2, ?_, k2⟩
        simp only [if_pos z, if_neg (show ¬ (1 : Int32) = 0 by decide), m1, qb2, Option.bind_some, qlt, nI_1]
        exact k1
      · have zf : (itT rk ce c r).1 = false := by
          cases hz : (itT rk ce c r).1 with
          | false => rfl
          | true => exact absurd hz z
        have st := itT_stay zf (37 - r)
        rw [show r + (37 - r) = 37 by omega] at st
        refine ⟨X1, ?_, by rw [st]; exact hA⟩
        simp only [if_neg z, if_true]
  obtain ⟨X15, e2, i15⟩ := loop F 0 X8 (by omega) (by omega) i8
  refine ⟨X15, ?_, i15⟩
  have e1' : fX4_settle_L2 F a b nt F (0 : Int32) X = some X8 := e1
  have e2' : fX4_settle_L33 F a b nt F (1 : Int32) (0 : Int32) X8 = some X15 := e2
  simp only [fX4_settle, g4 w4, hX, e1', e2', Option.bind_some]
