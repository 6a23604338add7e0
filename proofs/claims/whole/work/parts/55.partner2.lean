/-! partner: the model; the operation -/
theorem YM.p18 {Y : qH} {m : Nat} (h : YM Y m) : Y (m + 18) = some (.inl (0, 8, .inl (fun _ => 0))) := h.2.2.2.2.2.2.2.2.2.2.2.2.2.2.2.2.2.2.1
theorem YM.p19 {Y : qH} {m : Nat} (h : YM Y m) : Y (m + 19) = some (.inl (0, 8, .inl (fun _ => 0))) := h.2.2.2.2.2.2.2.2.2.2.2.2.2.2.2.2.2.2.2.1
set_option maxHeartbeats 1000000 in
theorem nearM {F : Nat} {X Y : qH} {m c h : Nat} {ce : Nat → Nat} {rk : Nat → Bool} {x : Int32} (hX : shX X = Y) (wM : YM Y m) (mc : gi X m 1 = nI c) (c8 : c ≤ 8) (hce : ∀ g : Nat, g < c → ga X (m + 1) g = nI (ce g) ∧ ce g < 30) (hrk : ∀ g : Nat, g < c → (ga X (m + 5) (3 + g) ≤ 0) = ¬ (rk g = true)) (hh : h < c) (hx : ga X (m + 18) h = x) (hF : 100 ≤ F) :
    fX10_nearest F X m (nI h) = some (oI (nbF (opB rk x) (fun g => ap (ce h) (ce g)) (c / 2))) := by
  have hin : ∀ k g : Nat, nbF (opB rk x) (fun g => ap (ce h) (ce g)) k = some g → g < 2 * k := fun k g e => (nbF_in k g e).2.1
  have L := lpF (fun n (s : Int32 × Int32) => fX10_nearest_L4 F X m (nI h) n s.1 s.2) (fun k => (oI (nbF (opB rk x) (fun g => ap (ce h) (ce g)) k), nI (2 * k + 1))) (c / 2) (oI (nbF (opB rk x) (fun g => ap (ce h) (ce g)) (c / 2)))
    (fun n => by
      show fX10_nearest_L4_B F X m (nI h) (fX10_nearest_L4 F X m (nI h) n) _ (nI (2 * (c / 2) + 1)) = _
      unfold fX10_nearest_L4_B
      simp only [gM wM, hX, Option.bind_some, mc, if_pos (nI_le (show c ≤ 2 * (c / 2) + 1 by omega) (by omega))])
    (fun n k hk => by
      show fX10_nearest_L4_B F X m (nI h) (fX10_nearest_L4 F X m (nI h) n) (oI (nbF (opB rk x) (fun g => ap (ce h) (ce g)) k)) (nI (2 * k + 1)) = fX10_nearest_L4 F X m (nI h) n (oI (nbF (opB rk x) (fun g => ap (ce h) (ce g)) (k + 1))) (nI (2 * (k + 1) + 1))
      unfold fX10_nearest_L4_B
      have hg : 2 * k + 1 < c := by omega
      have l8 : 2 * k + 1 < 8 := by omega
      have lh : h < 8 := by omega
      have e2 : nI (2 * k + 1) + (2 : Int32) = nI (2 * (k + 1) + 1) := nI_add (2 * k + 1) 2
      have e3 : (3 : Int32) + nI (2 * k + 1) = nI (3 + (2 * k + 1)) := nI_add 3 (2 * k + 1)
      have l3 : 3 + (2 * k + 1) < 43 := by omega
      have c1 := (hce h hh).2
      have c2 := (hce _ hg).2
      have hbk := hin k
      have k3 := hasM_ok (F := F) (X := X) (x := x) (q := 2 * k + 1) (by omega)
      rw [nbF]
      cases hop : opB rk x (2 * k + 1) with
      | false =>
        rw [if_neg (show ¬ (false = true) by decide)]
        by_cases z : rk (2 * k + 1) = true
        · have hb : tb x (2 * k + 1) := by
            unfold opB at hop
            rw [z] at hop
            unfold tb
            simpa using hop
          simp only [gM wM, hX, Option.bind_some, mc, if_neg (nI_ge hg (by omega)), e3, l3, hrk _ hg, if_neg (show ¬ ¬ (rk (2 * k + 1) = true) from fun y => y z), lh, hx, k3.1 hb, if_neg (show ¬ (1 : Int32) = 0 by decide), if_true, qlt, e2]
        · simp only [gM wM, hX, Option.bind_some, mc, if_neg (nI_ge hg (by omega)), e3, l3, hrk _ hg, if_pos z, if_true, qlt, e2]
      | true =>
        have z : rk (2 * k + 1) = true := by
          unfold opB at hop
          rw [Bool.and_eq_true] at hop
          exact hop.1
        have hb : ¬ tb x (2 * k + 1) := fun y => by
          unfold opB at hop
          unfold tb at y
          rw [y] at hop
          simp at hop
        rw [if_pos rfl]
        cases hn : nbF (opB rk x) (fun g => ap (ce h) (ce g)) k with
        | none =>
          have e1 : (oI none < (0 : Int32)) = True := eq_true (by decide)
          simp only [gM wM, hX, Option.bind_some, mc, if_neg (nI_ge hg (by omega)), e3, l3, hrk _ hg, if_neg (show ¬ ¬ (rk (2 * k + 1) = true) from fun y => y z), lh, hx, k3.2 hb, if_neg (show ¬ (1 : Int32) = 0 by decide), e1, if_true, qlt, e2]
          rfl
        | some y =>
          have hy := hbk y hn
          have ly : y < 8 := by omega
          have c3 := (hce y (by omega)).2
          have e1 : oI (some y) = nI y := rfl
          have ne1 : ¬ nI y < (0 : Int32) := nI_pos (by omega)
          have d1 : ap (ce h) (ce (2 * k + 1)) < 100 := by unfold ap; split <;> omega
          have d2 : ap (ce h) (ce y) < 100 := by unfold ap; split <;> omega
          have hle := nI_leI (show ap (ce h) (ce y) < 2 ^ 31 by omega) (show ap (ce h) (ce (2 * k + 1)) < 2 ^ 31 by omega)
          have a1 := apart_m (F := F) (X := X) (show ce h < 1000 by omega) (show ce (2 * k + 1) < 1000 by omega)
          have a2 := apart_m (F := F) (X := X) (show ce h < 1000 by omega) (show ce y < 1000 by omega)
          dsimp only
          by_cases z3 : ap (ce h) (ce (2 * k + 1)) < ap (ce h) (ce y)
          · rw [if_pos z3]
            simp only [gM wM, hX, Option.bind_some, mc, if_neg (nI_ge hg (by omega)), e3, l3, hrk _ hg, if_neg (show ¬ ¬ (rk (2 * k + 1) = true) from fun y => y z), lh, l8, ly, hx, k3.2 hb, if_neg (show ¬ (1 : Int32) = 0 by decide), e1, if_neg ne1, if_true, (hce h hh).1, (hce _ hg).1, (hce y (by omega)).1, a1, a2, hle, if_neg (show ¬ ap (ce h) (ce y) ≤ ap (ce h) (ce (2 * k + 1)) by omega), qlt, e2]
            rfl
          · rw [if_neg z3]
            simp only [gM wM, hX, Option.bind_some, mc, if_neg (nI_ge hg (by omega)), e3, l3, hrk _ hg, if_neg (show ¬ ¬ (rk (2 * k + 1) = true) from fun y => y z), lh, l8, ly, hx, k3.2 hb, if_neg (show ¬ (1 : Int32) = 0 by decide), e1, if_neg ne1, if_true, (hce h hh).1, (hce _ hg).1, (hce y (by omega)).1, a1, a2, hle, if_pos (show ap (ce h) (ce y) ≤ ap (ce h) (ce (2 * k + 1)) by omega), qlt, e2]) F 0 (by omega) (by omega)
  dsimp only at L
  rw [nbF, show oI none = (-1 : Int32) from rfl, show nI (2 * 0 + 1) = (1 : Int32) from rfl] at L
  simp only [fX10_nearest, gM wM, hX, L, Option.bind_some]
set_option maxHeartbeats 1000000 in
theorem askM {F : Nat} {X0 X Y : qH} {m c h g : Nat} {ce : Nat → Nat} {tk : Nat → Option Nat} {rf : Nat → Int32} (wM : YM Y m) (hA : omI X0 Y m tk rf X) (hce : ∀ g : Nat, g < c → ga X (m + 1) g = nI (ce g) ∧ ce g < 30) (c8 : c ≤ 8) (hJ : JP c tk rf) (hh : h < c) (h2 : h % 2 = 0) (hg : g < c) (g2 : g % 2 = 1) (hn : tk h = none) :
    ∃ X2, fX10_ask F X m (nI h) (nI g) = some X2 ∧ omI X0 Y m (askT ce tk h g) (askR ce tk rf h g) X2 := by
  obtain ⟨h1, h2', h3⟩ := hA
  have l8 : h < 8 := by omega
  have lg : g < 8 := by omega
  have hgh : g ≠ h := by omega
  -- the pairing
  have hfin : ∀ (X1 : qH) (tk1 : Nat → Option Nat) (rf1 : Nat → Int32), omI X0 Y m tk1 rf1 X1 → shX (pA X1 (m + 19) g (nI h)) = Y ∧ omI X0 Y m (fu (fu tk1 h (some g)) g (some h)) rf1 (pA (pA X1 (m + 19) g (nI h)) (m + 19) h (nI g)) := fun X1 tk1 rf1 hA1 => by
    obtain ⟨k1, k2, k3⟩ := hA1
    have hXa : shX (pA X1 (m + 19) g (nI h)) = Y := shX_pA k1 wM.p19 _ _
    refine ⟨hXa, shX_pA hXa wM.p19 _ _, fun q q1 q2 => (pA_ne q2).trans ((pA_ne q2).trans (k2 q q1 q2)), fun i hi => ⟨?_, ?_⟩⟩
    · rw [ga_pA_self hXa wM.p19, ga_pA_self k1 wM.p19]
      by_cases z1 : i = h
      · subst z1; rw [upd_self, fu_ne _ (Ne.symm hgh), fu_self]; rfl
      · rw [upd_ne _ z1]
        by_cases z2 : i = g
        · subst z2; rw [upd_self, fu_self]; rfl
        · rw [upd_ne _ z2, fu_ne _ z2, fu_ne _ z1]; exact (k3 i hi).1
    · rw [ga_pA_ne (by omega), ga_pA_ne (by omega)]
      exact (k3 i hi).2
  have hgo : ga X (m + 19) g = oI (tk g) := (h3 g lg).1
  unfold askT askR
  cases ho : tk g with
  | none =>
    dsimp only
    obtain ⟨p0, p2⟩ := hfin X tk rf ⟨h1, h2', h3⟩
    refine ⟨_, ?_, p2⟩
    rw [ho] at hgo
    have hgo' : ga X (m + 19) g = (-1 : Int32) := hgo
    simp only [fX10_ask, gM wM, sM wM, h1, p0, lg, l8, hgo', Option.bind_some, qlab, if_pos (show (-1 : Int32) < 0 by decide)]
  | some o =>
    dsimp only
    rw [ho] at hgo
    have hgo' : ga X (m + 19) g = nI o := hgo
    obtain ⟨o1, o2, o3, o4⟩ := hJ.1 g o ho
    have lo : o < 8 := by omega
    have oh : o ≠ h := fun q => by rw [q, hn] at o3; cases o3
    have ne1 : ¬ nI o < (0 : Int32) := nI_pos (by omega)
    have c1 := (hce h hh).2
    have c2 := (hce g hg).2
    have c3 := (hce o o2).2
    have a1 := apart_m (F := F) (X := X) (show ce g < 1000 by omega) (show ce o < 1000 by omega)
    have a2 := apart_m (F := F) (X := X) (show ce g < 1000 by omega) (show ce h < 1000 by omega)
    have d1 : ap (ce g) (ce h) < 100 := by unfold ap; split <;> omega
    have d2 : ap (ce g) (ce o) < 100 := by unfold ap; split <;> omega
    have hkp : fX10_isKeptOf F X m (nI g) (nI o) (nI h) = some (if nrB ce g h o = true then 0 else 1) := by
      simp only [fX10_isKeptOf, gM wM, h1, lg, lo, l8, Option.bind_some, (hce h hh).1, (hce g hg).1, (hce o o2).1, a1, a2, nI_eq (show ap (ce g) (ce o) < 2 ^ 31 by omega) (show ap (ce g) (ce h) < 2 ^ 31 by omega), nI_leI (show ap (ce g) (ce h) < 2 ^ 31 by omega) (show ap (ce g) (ce o) < 2 ^ 31 by omega), nI_leI (show h < 2 ^ 31 by omega) (show o < 2 ^ 31 by omega)]
      unfold nrB
      by_cases z2 : ap (ce g) (ce o) = ap (ce g) (ce h)
      · rw [if_pos z2]
        by_cases z3 : h ≤ o
        · rw [if_pos z3, if_pos (decide_eq_true (Or.inr ⟨z2.symm, by omega⟩))]; rfl
        · rw [if_neg z3, if_neg (fun y => by rcases of_decide_eq_true y with w | w <;> omega)]; rfl
      · rw [if_neg z2]
        by_cases z1 : ap (ce g) (ce h) ≤ ap (ce g) (ce o)
        · rw [if_pos z1, if_pos (decide_eq_true (Or.inl (by omega)))]; rfl
        · rw [if_neg z1, if_neg (fun y => by rcases of_decide_eq_true y with w | w <;> omega)]; rfl
    by_cases zn : nrB ce g h o = true
    · rw [if_pos zn] at hkp ⊢
      rw [if_pos zn]
      have hX9 : shX (pA X (m + 19) o (-1)) = Y := shX_pA h1 wM.p19 _ _
      have hX13 : shX (pA (pA X (m + 19) o (-1)) (m + 18) o (rf o ||| ((1 : Int32) <<< (nI g &&& 31)))) = Y := shX_pA hX9 wM.p18 _ _
      have e13 : ga (pA X (m + 19) o (-1)) (m + 18) o = rf o := by rw [ga_pA_ne (by omega)]; exact (h3 o lo).2
      obtain ⟨p0, p2⟩ := hfin (pA (pA X (m + 19) o (-1)) (m + 18) o (rf o ||| ((1 : Int32) <<< (nI g &&& 31)))) (fu tk o none) (upd rf o (rf o ||| ((1 : Int32) <<< (nI g &&& 31)))) ⟨hX13, fun q q1 q2 => (pA_ne q1).trans ((pA_ne q2).trans (h2' q q1 q2)), fun i hi => ⟨by
        rw [ga_pA_ne (by omega), ga_pA_self h1 wM.p19]
        exact upd_oI (h3 i hi).1 rfl, by
        rw [ga_pA_self hX9 wM.p18, ga_pA_ne (by omega)]
        exact upd_rf (h3 i hi).2 rfl⟩⟩
      refine ⟨_, ?_, p2⟩
      simp only [fX10_ask, gM wM, sM wM, h1, p0, lg, lo, l8, hgo', Option.bind_some, qlab, if_neg ne1, hkp, if_true, hX9, hX13, e13, qlt]
    · rw [if_neg zn] at hkp ⊢
      rw [if_neg zn]
      refine ⟨pA X (m + 18) h (rf h ||| ((1 : Int32) <<< (nI g &&& 31))), ?_, shX_pA h1 wM.p18 _ _, fun q q1 q2 => (pA_ne q1).trans (h2' q q1 q2), fun i hi => ⟨?_, ?_⟩⟩
      · simp only [fX10_ask, gM wM, sM wM, h1, lg, l8, hgo', Option.bind_some, qlab, if_neg ne1, hkp, if_neg (show ¬ (1 : Int32) = 0 by decide), (h3 h l8).2, qlt]
      · rw [ga_pA_ne (by omega)]; exact (h3 i hi).1
      · rw [ga_pA_self h1 wM.p18]; exact upd_rf (h3 i hi).2 rfl
set_option maxHeartbeats 1000000 in
theorem askAllM {F : Nat} {X0 Y : qH} {m c : Nat} {ce : Nat → Nat} {rk : Nat → Bool} {v : Int32} {s0 : (Nat → Option Nat) × (Nat → Int32)} (wM : YM Y m) (mc : gi X0 m 1 = nI c) (c8 : c ≤ 8) (hce : ∀ g : Nat, g < c → ga X0 (m + 1) g = nI (ce g) ∧ ce g < 30) (hrk : ∀ g : Nat, g < c → (ga X0 (m + 5) (3 + g) ≤ 0) = ¬ (rk g = true)) (hJ : JP c s0.1 s0.2) (hF : 100 ≤ F) {X : qH} (hA : omI X0 Y m s0.1 s0.2 X) :
    ∃ X2, fX10_partner_L49 F m v F (0 : Int32) (0 : Int32) X = some (if (rdT rk ce c s0 ((c + 1) / 2)).1 = true then 1 else 0, X2) ∧ omI X0 Y m (rdT rk ce c s0 ((c + 1) / 2)).2.1 (rdT rk ce c s0 ((c + 1) / 2)).2.2 X2 := by
  have main : ∀ (n k : Nat) (X : qH), k ≤ (c + 1) / 2 → (c + 1) / 2 - k < n → omI X0 Y m (rdT rk ce c s0 k).2.1 (rdT rk ce c s0 k).2.2 X → ∃ X2, fX10_partner_L49 F m v n (if (rdT rk ce c s0 k).1 = true then 1 else 0) (nI (2 * k)) X = some (if (rdT rk ce c s0 ((c + 1) / 2)).1 = true then 1 else 0, X2) ∧ omI X0 Y m (rdT rk ce c s0 ((c + 1) / 2)).2.1 (rdT rk ce c s0 ((c + 1) / 2)).2.2 X2 := by
    intro n
    induction n with
    | zero => intro k X hk hn; omega
    | succ n ih =>
      intro k X hk hn hA
      show ∃ X2, fX10_partner_L49_B F m v (fX10_partner_L49 F m v n) _ (nI (2 * k)) X = _ ∧ _
      unfold fX10_partner_L49_B
      obtain ⟨h1, h2, h3⟩ := id hA
      have mcX : gi X m 1 = nI c := by rw [gi_congr (h2 m (by omega) (by omega))]; exact mc
      have ceX : ∀ g : Nat, g < c → ga X (m + 1) g = nI (ce g) ∧ ce g < 30 := fun g hg => by rw [ga_congr (h2 (m + 1) (by omega) (by omega))]; exact hce g hg
      have rkX : ∀ g : Nat, g < c → (ga X (m + 5) (3 + g) ≤ 0) = ¬ (rk g = true) := fun g hg => by rw [ga_congr (h2 (m + 5) (by omega) (by omega))]; exact hrk g hg
      by_cases q : k = (c + 1) / 2
      · subst q
        refine ⟨X, ?_, hA⟩
        simp only [gM wM, h1, Option.bind_some, mcX, if_pos (nI_le (show c ≤ 2 * ((c + 1) / 2) by omega) (by omega))]
      · have hlt : 2 * k < c := by omega
        have l8 : 2 * k < 8 := by omega
        have ih' := fun X => ih (k + 1) X (by omega) (by omega)
        have e2 : nI (2 * k) + (2 : Int32) = nI (2 * (k + 1)) := nI_add (2 * k) 2
        have e3 : (3 : Int32) + nI (2 * k) = nI (3 + 2 * k) := nI_add 3 (2 * k)
        have l3 : 3 + 2 * k < 43 := by omega
        rw [rdT] at ih'
        have hJk := (rdT_J (rk := rk) (ce := ce) c8 hJ k (by omega)).1
        generalize rdT rk ce c s0 k = s at *
        unfold stp at ih'
        have htl : ∀ g : Nat, s.2.1 (2 * k) = some g → g < 100 := fun g e => by have := (hJk.1 _ _ e).2.1; omega
        by_cases z1 : rk (2 * k) = true
        · by_cases z2 : s.2.1 (2 * k) = none
          · rw [if_pos (by rw [z1, z2]; rfl)] at ih'
            have nc := nearM (F := F) (x := s.2.2 (2 * k)) h1 wM mcX c8 ceX rkX hlt (h3 _ l8).2 hF
            have t1 : ga X (m + 19) (2 * k) = (-1 : Int32) := by rw [(h3 _ l8).1, z2]; rfl
            cases hnb : nbF (opB rk (s.2.2 (2 * k))) (fun g => ap (ce (2 * k)) (ce g)) (c / 2) with
            | none =>
              rw [hnb] at ih' nc
              obtain ⟨X2, k1, k2⟩ := ih' X hA
              refine ⟨X2, ?_, k2⟩
              have nc' : fX10_nearest F X m (nI (2 * k)) = some (-1 : Int32) := nc
              simp only [gM wM, h1, Option.bind_some, mcX, if_neg (nI_ge hlt (by omega)), e3, l3, l8, rkX _ hlt, if_neg (show ¬ ¬ (rk (2 * k) = true) from fun y => y z1), t1, if_neg (show ¬ (0 : Int32) ≤ -1 by decide), nc', if_pos (show (-1 : Int32) < 0 by decide), qb2, qlt, e2]
              exact k1
            | some g =>
              rw [hnb] at ih' nc
              dsimp only at ih'
              obtain ⟨b1, b2, b3⟩ := nbF_in _ _ hnb
              have nc' : fX10_nearest F X m (nI (2 * k)) = some (nI g) := nc
              obtain ⟨X3, m1, m2⟩ := askM (F := F) wM hA ceX c8 hJk hlt (by omega) (show g < c by omega) b3 z2
              obtain ⟨X2, k1, k2⟩ := ih' X3 m2
              refine ⟨X2, ?_, k2⟩
              simp only [gM wM, h1, Option.bind_some, mcX, if_neg (nI_ge hlt (by omega)), e3, l3, l8, rkX _ hlt, if_neg (show ¬ ¬ (rk (2 * k) = true) from fun y => y z1), t1, if_neg (show ¬ (0 : Int32) ≤ -1 by decide), nc', if_neg (nI_pos (show g < 2 ^ 31 by omega)), m1, qb2, qlt, e2]
              simp only [if_true] at k1
              exact k1
          · have zz : ¬ (rk (2 * k) && (s.2.1 (2 * k)).isNone) = true := fun y => by
              rw [Bool.and_eq_true, Option.isNone_iff_eq_none] at y
              exact z2 y.2
            rw [if_neg zz] at ih'
            obtain ⟨X2, k1, k2⟩ := ih' X hA
            refine ⟨X2, ?_, k2⟩
            simp only [gM wM, h1, Option.bind_some, mcX, if_neg (nI_ge hlt (by omega)), e3, l3, l8, rkX _ hlt, if_neg (show ¬ ¬ (rk (2 * k) = true) from fun y => y z1), (h3 _ l8).1, i_0le htl, if_pos z2, if_pos (show (-1 : Int32) < 0 by decide), qb2, qlt, e2]
            exact k1
        · have zz : ¬ (rk (2 * k) && (s.2.1 (2 * k)).isNone) = true := fun y => by
            rw [Bool.and_eq_true] at y
            exact z1 y.1
          rw [if_neg zz] at ih'
          obtain ⟨X2, k1, k2⟩ := ih' X hA
          refine ⟨X2, ?_, k2⟩
          simp only [gM wM, h1, Option.bind_some, mcX, if_neg (nI_ge hlt (by omega)), e3, l3, l8, rkX _ hlt, if_pos z1, if_pos (show (-1 : Int32) < 0 by decide), qb2, qlt, e2]
          exact k1
  exact main F 0 X (by omega) (by omega) hA
theorem settleM {F : Nat} {X Y : qH} {m c : Nat} {ce : Nat → Nat} {rk : Nat → Bool} {v : Int32} (hX : shX X = Y) (wM : YM Y m) (mc : gi X m 1 = nI c) (c8 : c ≤ 8) (hce : ∀ g : Nat, g < c → ga X (m + 1) g = nI (ce g) ∧ ce g < 30) (hrk : ∀ g : Nat, g < c → (ga X (m + 5) (3 + g) ≤ 0) = ¬ (rk g = true)) (hF : 100 ≤ F) :
    ∃ X9 X2, fX10_partner_L13 F m v F (0 : Int32) X = some X9 ∧ fX10_partner_L41 F m v F (1 : Int32) X9 = some X2 ∧ omI X Y m (itT rk ce c 37).2.1 (itT rk ce c 37).2.2 X2 := by
  have init : ∀ (n k : Nat) (X1 : qH), k ≤ 8 → 8 - k < n → shX X1 = Y → (∀ q : Nat, q ≠ m + 18 → q ≠ m + 19 → X1 q = X q) → (∀ i : Nat, i < k → ga X1 (m + 19) i = -1 ∧ ga X1 (m + 18) i = 0) → ∃ X2, fX10_partner_L13 F m v n (nI k) X1 = some X2 ∧ omI X Y m (fun _ => none) (fun _ => 0) X2 := by
    intro n
    induction n with
    | zero => intro k X1 hk hn; omega
    | succ n ih =>
      intro k X1 hk hn h1 h2 h3
      show ∃ X2, fX10_partner_L13_B F m v (fX10_partner_L13 F m v n) (nI k) X1 = some X2 ∧ _
      unfold fX10_partner_L13_B
      by_cases q : k = 8
      · subst q
        exact ⟨X1, by rw [if_pos (show (8 : Int32) ≤ nI 8 by decide)], h1, h2, fun i hi => h3 i hi⟩
      · have lk : k < 8 := by omega
        rw [if_neg (show ¬ (8 : Int32) ≤ nI k from nI_ge (b := 8) lk (by omega))]
        have hXa : shX (pA X1 (m + 18) k 0) = Y := shX_pA h1 wM.p18 _ _
        have hXb : shX (pA (pA X1 (m + 18) k 0) (m + 19) k (-1)) = Y := shX_pA hXa wM.p19 _ _
        obtain ⟨X2, k1, k2⟩ := ih (k + 1) (pA (pA X1 (m + 18) k 0) (m + 19) k (-1)) (by omega) (by omega) hXb (fun q q1 q2 => (pA_ne q2).trans ((pA_ne q1).trans (h2 q q1 q2))) (fun i hi => by
          rw [ga_pA_ne (show m + 18 ≠ m + 19 by omega), ga_pA_self h1 wM.p18, ga_pA_self hXa wM.p19, ga_pA_ne (show m + 19 ≠ m + 18 by omega)]
          by_cases z : i = k
          · subst z; rw [upd_self, upd_self]; exact ⟨rfl, rfl⟩
          · rw [upd_ne _ z, upd_ne _ z]; exact h3 i (by omega))
        refine ⟨X2, ?_, k2⟩
        simp only [gM wM, sM wM, h1, hXa, lk, Option.bind_some, qlt, nI_1]
        exact k1
  obtain ⟨X9, e1, i9⟩ := init F 0 X (by omega) (by omega) hX (fun _ _ _ => rfl) (fun i hi => by omega)
  have h37 := itT_37 (rk := rk) (ce := ce) c8
  have loop : ∀ (n r : Nat) (X1 : qH), r ≤ 37 → 37 - r < n → omI X Y m (itT rk ce c r).2.1 (itT rk ce c r).2.2 X1 → ∃ X2, fX10_partner_L41 F m v n (if (itT rk ce c r).1 = true then 1 else 0) X1 = some X2 ∧ omI X Y m (itT rk ce c 37).2.1 (itT rk ce c 37).2.2 X2 := by
    intro n
    induction n with
    | zero => intro r X1 hr hn; omega
    | succ n ih =>
      intro r X1 hr hn hA
      show ∃ X2, fX10_partner_L41_B F m v (fX10_partner_L41 F m v n) _ X1 = some X2 ∧ _
      unfold fX10_partner_L41_B
      by_cases z : (itT rk ce c r).1 = true
      · have hr37 : r ≠ 37 := fun y => by rw [y, h37] at z; cases z
        have ih' := fun X1 => ih (r + 1) X1 (by omega) (by omega)
        rw [itT, if_pos z] at ih'
        obtain ⟨X3, m1, m2⟩ := askAllM (F := F) (X0 := X) (rk := rk) (ce := ce) (v := v) wM mc c8 hce hrk (itT_J (rk := rk) (ce := ce) c8 r).1 hF hA
        obtain ⟨X2, k1, k2⟩ := ih' X3 m2
        refine ⟨X2, ?_, k2⟩
        simp only [if_pos z, if_neg (show ¬ (1 : Int32) = 0 by decide), m1, qb2, Option.bind_some]
        exact k1
      · have zf : (itT rk ce c r).1 = false := by
          cases hz : (itT rk ce c r).1 with
          | false => rfl
          | true => exact absurd hz z
        have st := itT_stay zf (37 - r)
        rw [show r + (37 - r) = 37 by omega] at st
        refine ⟨X1, ?_, by rw [st]; exact hA⟩
        simp only [if_neg z, if_true]
  obtain ⟨X2, e2, i2⟩ := loop F 0 X9 (by omega) (by omega) i9
  exact ⟨X9, X2, e1, e2, i2⟩
set_option maxHeartbeats 1000000 in
theorem op_partner {F : Nat} {X : qH} {sz : Nat} (hI : Inv X sz) (hF : 300000 ≤ F) (v : Int32) : Op sz (fun X => fX9_partner F X sz v) (fun X => fX10_partner F X (sz + 151) v) X := by
  obtain ⟨hW, hRl⟩ := id hI
  obtain ⟨rT, rF, rS, rB, rN, rP, rI, rD, rK⟩ := id hRl
  generalize hX : shX X = Y at hW
  obtain ⟨w9, -, -, -, wN, -, -, -, w4, -, -, wM⟩ := id hW
  obtain ⟨b, w, c, ce, po, nn, dd, hb, wB⟩ := rB.get hX hW
  obtain ⟨⟨b3, bsz⟩, ⟨-, -, hw30⟩, ⟨bc, mc, c8, -⟩, -, -, hs, -⟩ := id hb
  have hbr : (sz + 2 ≤ b ∧ b + 5 ≤ sz + 12) := by rcases bsz with ⟨q, -⟩ | ⟨q, -⟩ <;> omega
  obtain ⟨c', c8', mc', hn, hg⟩ := id rN
  have hcc : c' = c := (nI_eq (by omega) (by omega)).mp (mc'.symm.trans mc)
  subst hcc
  have hh1 := has_ok (F := F) hX wB v
  have hh2 := fun X1 (e : shX X1 = Y) (em : gi X1 (sz + 151) 1 = nI c') => isHouse_ok (F := F) e wM em c8 v
  rw [bc] at hh1
  by_cases hok : 0 ≤ v ∧ v < nI c'
  · rw [if_pos hok] at hh1
    simp only [if_pos hok] at hh2
    obtain ⟨h, hl, rfl⟩ := nI_of (i_nlt.mpr hok.1)
    have hc := (nI_ltI hl (by omega)).mp hok.2
    have l8 : h < 8 := by omega
    have n3 := hn.2.2.2.1
    dsimp only at n3
    have hrkM : ∀ g : Nat, g < c' → (ga X (sz + 151 + 5) (3 + g) ≤ 0) = ¬ ((fun g => decide (0 < ga X (sz + 151 + 5) (3 + g))) g = true) := fun g hg => by
      dsimp only
      rw [decide_eq_true_eq]
      exact propext ⟨fun y => i_nlt.mpr y, fun y => i_nlt.mp y⟩
    have hrkC : ∀ g : Nat, g < c' → (ga X (sz + 14 + 1) g ≤ 0) = ¬ ((fun g => decide (0 < ga X (sz + 151 + 5) (3 + g))) g = true) := fun g hg => by
      rw [(n3 g hg).1]; exact hrkM g hg
    obtain ⟨X1, s1, s2⟩ := settleC (F := F) (a := sz + 141) (ce := ce) hX w4 wB wN (by omega) (by omega) bc c8 (fun g hg => ⟨(hs g hg).1.1, by have := (hs g hg).1.2.2; omega⟩) hrkC (by omega)
    have ex : ∀ q : Nat, q ≠ sz + 142 → q ≠ sz + 143 → X1 q = X q := fun q q1 q2 => s2.2.1 q (by omega) (by omega)
    have e1' : ga X1 (sz + 151 + 1) = ga X (sz + 151 + 1) := ga_congr (ex _ (by omega) (by omega))
    have e5' : ga X1 (sz + 151 + 5) = ga X (sz + 151 + 5) := ga_congr (ex _ (by omega) (by omega))
    have m1 : gi X1 (sz + 151) 1 = nI c' := by rw [gi_congr (ex _ (by omega) (by omega))]; exact mc
    obtain ⟨X9, X2, t1, t2, t3⟩ := settleM (F := F) (v := nI h) (ce := ce) (rk := fun g => decide (0 < ga X (sz + 151 + 5) (3 + g))) s2.1 wM m1 c8 (fun g hg => by rw [e1']; exact ⟨(hs g hg).1.2.1, by have := (hs g hg).1.2.2; omega⟩) (fun g hg => by rw [e5']; exact hrkM g hg) (by omega)
    refine ⟨oI ((itT (fun g => decide (0 < ga X (sz + 151 + 5) (3 + g))) ce c' 37).2.1 h), X1, X2, ?_, ?_, by rw [t3.1]; exact hW, ?_⟩
    · simp only [fX9_partner, g9 w9, g4 w4, hX, Option.bind_some, b3, hh1, if_neg (show ¬ (1 : Int32) = 0 by decide), s1, s2.1, l8, (s2.2.2 h l8).1]
    · simp only [fX10_partner, gM wM, s2.1, Option.bind_some, hh2 X1 s2.1 m1, if_neg (show ¬ (1 : Int32) = 0 by decide), t1, t2, t3.1, l8, (t3.2.2 h l8).1]
    · have far : ∀ q : Nat, q ≠ sz + 142 → q ≠ sz + 143 → q ≠ sz + 169 → q ≠ sz + 170 → X2 q = X q := fun q q1 q2 q3 q4 => (t3.2.1 q (by omega) (by omega)).trans (ex q q1 q2)
      obtain ⟨kT, kF, kS, kB, kN, kP, kI, kD, kK⟩ := keep [142, 143, 169, 170] [] [] hRl (X2 := X2)
        (fun o ho a0 aM => by
          simp only [List.mem_cons, List.not_mem_nil, or_false, not_or] at ho
          exact far _ (by omega) (by omega) (by omega) (by omega))
        (fun j hj => gi_congr (far _ (by omega) (by omega) (by omega) (by omega)) j) (fun j hj => gr_congr (far _ (by omega) (by omega) (by omega) (by omega)) j) (fun j hj => gi_congr (far _ (by omega) (by omega) (by omega) (by omega)) j)
      exact ⟨kT (by decide), kF (by decide), kS (by decide), kB (by decide), kN (by decide), kP (by decide), kI (by decide), kD (by decide), kK (by decide)⟩
  · rw [if_neg hok] at hh1
    have h2 := hh2 X hX mc
    rw [if_neg hok] at h2
    refine ⟨-1000000001, X, X, ?_, ?_, hI⟩
    · simp only [fX9_partner, g9 w9, hX, Option.bind_some, b3, hh1, if_true]
    · simp only [fX10_partner, gM wM, hX, Option.bind_some, h2, if_true]
