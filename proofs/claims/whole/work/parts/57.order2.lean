/-! order: the class's search -/
def exI (X0 Y : qH) (a hs c : Nat) (sa so : Nat → Int32) (X : qH) : Prop := shX X = Y ∧ (∀ q : Nat, q ≠ hs → q < a ∨ a + 5 ≤ q → X q = X0 q) ∧ gi X a 1 = gi X0 a 1 ∧ gi X a 2 = gi X0 a 2 ∧ ∀ g : Nat, g < c → ga X (a + 2) g = sa g ∧ ga X (a + 3) g = so g
set_option maxHeartbeats 4000000 in
theorem extend_ok {F : Nat} {X0 Y : qH} {ro b nt w c sm wi mi N : Nat} {ce po : Nat → Nat} {sa0 so0 : Nat → Int32} (w7 : Y7 Y ro) (wA : YN Y (ro + 2)) (wB : YB Y b) (wN : YN Y nt) (hb : ro + 7 ≤ b ∨ b + 5 ≤ ro) (hnt : ro + 7 ≤ nt ∨ nt + 5 ≤ ro) (hB : BC X0 b w c sm ce po) (hP : BP w c sm ce po) (hwi : gi X0 (ro + 2) 2 = nI wi - 5 ∧ wi ≤ 10) (hmi : gi X0 nt 0 = nI mi ∧ mi < 1000000) (h0 : ∀ g : Nat, g < c → ga X0 (nt + 2) g = sa0 g ∧ ga X0 (nt + 3) g = so0 g) (hN : N ≤ 6) (hF : 100 ≤ F) {IN : Nat → Prop} (hIR : ∀ g : Nat, IN g → decide (¬ bcF (irV ce po w c wi (gi X0 (ro + 2) 1) g) 8 < 2) = true) :
    ∀ r d p : Nat, ∀ L : Int32, ∀ pv : Nat, ∀ sa so : Nat → Int32, ∀ X : qH, r < d → p + r = N → cnL L = r → (∀ g : Nat, tb L g → g < c) → (∀ g : Nat, tb L g → IN g) → (∀ g : Nat, g < c → tb L g → sa g = sa0 g ∧ so g = so0 g) → exI X0 Y (ro + 2) (ro + 1) c sa so X → (0 < p → ga X (ro + 1) (p - 1) = nI pv ∧ pv < c) →
      ∃ f X2, fX7_extend F d X ro b nt L (nI p) = some (f, X2) ∧ (∀ i : Nat, i < p → ga X2 (ro + 1) i = ga X (ro + 1) i) ∧ shX X2 = Y ∧ (∀ q : Nat, q ≠ ro + 1 → q < ro + 2 ∨ ro + 2 + 5 ≤ q → X2 q = X0 q) ∧
        ((f = 0 ∧ (∀ m : Nat, m < 8 ^ r → VV ce (seB ce po w c wi sm (gi X0 (ro + 2) 1) mi) (fun h => nI (ov ce w wi h)) (fun p => nI (mi + p)) r p L pv sa so m = false) ∧ exI X0 Y (ro + 2) (ro + 1) c sa so X2) ∨
         (f = 1 ∧ ∃ x : Nat, x < 8 ^ r ∧ VV ce (seB ce po w c wi sm (gi X0 (ro + 2) 1) mi) (fun h => nI (ov ce w wi h)) (fun p => nI (mi + p)) r p L pv sa so x = true ∧ (∀ y : Nat, y < x → VV ce (seB ce po w c wi sm (gi X0 (ro + 2) 1) mi) (fun h => nI (ov ce w wi h)) (fun p => nI (mi + p)) r p L pv sa so y = false) ∧ ∀ i : Nat, i < r → ga X2 (ro + 1) (p + i) = nI (x / 8 ^ (r - 1 - i) % 8))) := by
  have c8 := hP.2.1
  intro r
  induction r with
  | zero =>
    intro d p L pv sa so X hd hpr hc hLc hIN hL0 hE hpv
    obtain ⟨d', rfl⟩ : ∃ q, d = q + 1 := ⟨d - 1, by omega⟩
    have hz := cnL_0 (fun g hg => by have := hLc g hg; omega) hc
    refine ⟨1, X, ?_, fun _ _ => rfl, hE.1, hE.2.1, Or.inr ⟨rfl, 0, by decide, rfl, fun y hy => by omega, fun i hi => by omega⟩⟩
    show fX7_extend_body F (fX7_extend F d') X ro b nt L (nI p) = _
    simp only [fX7_extend_body, g7 w7, hE.1, if_pos hz]
  | succ r ih =>
    intro d p L pv sa so X hd hpr hc hLc hIN hL0 hE hpv
    obtain ⟨d', rfl⟩ : ∃ q, d = q + 1 := ⟨d - 1, by omega⟩
    have hLz : ¬ L = 0 := fun y => by rw [y, show cnL 0 = 0 by decide] at hc; omega
    have p6 : p < 6 := by omega
    have hpow : 0 < 8 ^ r := Nat.pow_pos (by omega)
    have key : ∀ (n h : Nat) (X1 : qH), h ≤ c → c - h < n → exI X0 Y (ro + 2) (ro + 1) c sa so X1 → (∀ i : Nat, i < p → ga X1 (ro + 1) i = ga X (ro + 1) i) → (∀ m : Nat, m < h * 8 ^ r → VV ce (seB ce po w c wi sm (gi X0 (ro + 2) 1) mi) (fun h => nI (ov ce w wi h)) (fun p => nI (mi + p)) (r + 1) p L pv sa so m = false) →
        ∃ o X2, fX7_extend_L18 F (fX7_extend F d') ro b nt L (nI p) n (nI h) X1 = some o ∧ (∀ i : Nat, i < p → ga X2 (ro + 1) i = ga X (ro + 1) i) ∧ shX X2 = Y ∧ (∀ q : Nat, q ≠ ro + 1 → q < ro + 2 ∨ ro + 2 + 5 ≤ q → X2 q = X0 q) ∧
          ((o = .inr X2 ∧ (∀ m : Nat, m < c * 8 ^ r → VV ce (seB ce po w c wi sm (gi X0 (ro + 2) 1) mi) (fun h => nI (ov ce w wi h)) (fun p => nI (mi + p)) (r + 1) p L pv sa so m = false) ∧ exI X0 Y (ro + 2) (ro + 1) c sa so X2) ∨
           (o = .inl (1, X2) ∧ ∃ x : Nat, x < 8 ^ (r + 1) ∧ VV ce (seB ce po w c wi sm (gi X0 (ro + 2) 1) mi) (fun h => nI (ov ce w wi h)) (fun p => nI (mi + p)) (r + 1) p L pv sa so x = true ∧ (∀ y : Nat, y < x → VV ce (seB ce po w c wi sm (gi X0 (ro + 2) 1) mi) (fun h => nI (ov ce w wi h)) (fun p => nI (mi + p)) (r + 1) p L pv sa so y = false) ∧ ∀ i : Nat, i < r + 1 → ga X2 (ro + 1) (p + i) = nI (x / 8 ^ (r + 1 - 1 - i) % 8))) := by
      intro n
      induction n with
      | zero => intro h X1 hh hn; omega
      | succ n ihn =>
        intro h X1 hh hn hE1 hH hV
        show ∃ o X2, fX7_extend_L18_B F (fX7_extend F d') ro b nt L (nI p) (fX7_extend_L18 F (fX7_extend F d') ro b nt L (nI p) n) (nI h) X1 = some o ∧ _
        unfold fX7_extend_L18_B
        obtain ⟨e1, e2, e3, e4, e5⟩ := id hE1
        have hB1 : BC X1 b w c sm ce po := hB.c (fun q z1 z2 => e2 q (by omega) (by omega))
        by_cases hhc : h = c
        · subst hhc
          refine ⟨.inr X1, X1, ?_, hH, e1, e2, Or.inl ⟨rfl, hV, hE1⟩⟩
          simp only [gB wB, e1, Option.bind_some, hB1.2.1, if_pos (nI_le (Nat.le_refl h) (by omega))]
        · have hlt : h < c := by omega
          have l8 : h < 8 := by omega
          have nm : gi X1 nt 0 = nI mi := by rw [gi_congr (e2 nt (by omega) (by omega))]; exact hmi.1
          have hX7 : shX (pI X1 (ro + 2) 0 (nI (mi + p))) = Y := by simp only [kN wA, e1]
          have u7 : ∀ k : Nat, gi (pI X1 (ro + 2) 0 (nI (mi + p))) (ro + 2) k = if k = 0 then nI (mi + p) else gi X1 (ro + 2) k := fun k => by simp only [uN wA, e1]
          have hE7 : exI X0 Y (ro + 2) (ro + 1) c sa so (pI X1 (ro + 2) 0 (nI (mi + p))) := ⟨hX7, fun q z1 z2 => (pV_ne (by omega)).trans (e2 q z1 z2), by rw [u7, if_neg (by omega)]; exact e3, by rw [u7, if_neg (by omega)]; exact e4, fun g hg => by rw [ga_pI, ga_pI]; exact e5 g hg⟩
          have hB7 : BC (pI X1 (ro + 2) 0 (nI (mi + p))) b w c sm ce po := hB1.c (fun q z1 z2 => pV_ne (by omega))
          have hH7 : ∀ i : Nat, i < p → ga (pI X1 (ro + 2) 0 (nI (mi + p))) (ro + 1) i = ga X (ro + 1) i := fun i hi => by rw [ga_pI]; exact hH i hi
          have hnext : (∀ m : Nat, m < 8 ^ r → VV ce (seB ce po w c wi sm (gi X0 (ro + 2) 1) mi) (fun h => nI (ov ce w wi h)) (fun p => nI (mi + p)) (r + 1) p L pv sa so (h * 8 ^ r + m) = false) → ∀ m : Nat, m < (h + 1) * 8 ^ r → VV ce (seB ce po w c wi sm (gi X0 (ro + 2) 1) mi) (fun h => nI (ov ce w wi h)) (fun p => nI (mi + p)) (r + 1) p L pv sa so m = false := fun q m hm => by
            rw [Nat.add_mul, Nat.one_mul] at hm
            by_cases z : m < h * 8 ^ r
            · exact hV m z
            · have := q (m - h * 8 ^ r) (by omega)
              rwa [show h * 8 ^ r + (m - h * 8 ^ r) = m by omega] at this
          by_cases zb : tb L h
          · have vv := viewers_val (F := F) hX7 wA wB hB7 hP (wi := wi) ⟨by rw [u7, if_neg (by omega), e4]; exact hwi.1, hwi.2⟩ hlt (by omega)
            have hhid := vv.2.2.1
            rw [u7, if_pos rfl] at hhid
            have hcg : hdV ce w c wi sm (ga (pI X1 (ro + 2) 0 (nI (mi + p))) (ro + 2 + 2)) (ga (pI X1 (ro + 2) 0 (nI (mi + p))) (ro + 2 + 3)) (nI (mi + p)) h = hdV ce w c wi sm sa so (nI (mi + p)) h := hdV_congr (fun g hg => hE7.2.2.2.2 g hg)
            rw [hcg] at hhid
            have hse := seB_hd (sm := sm) (mi := mi) (sa := sa) (so := so) (p := p) (hIR h (hIN h zb))
            -- fits
            have hfit : fX7_fits F (pI X1 (ro + 2) 0 (nI (mi + p))) ro b (nI h) (nI p) = some (if stB ce (seB ce po w c wi sm (gi X0 (ro + 2) 1) mi) p L pv sa so h = true then 1 else 0) := by
              unfold stB
              rw [show L.toBitVec.getLsbD h = true from zb, Bool.true_and, hse]
              by_cases zp : p = 0
              · subst zp
                have zle : nI 0 ≤ (0 : Int32) := by decide
                cases hz : hdV ce w c wi sm sa so (nI (mi + 0)) h with
                | true =>
                  rw [hz, if_pos rfl] at hhid
                  simp only [fX7_fits, g7 w7, hX7, qlab, if_pos zle, hhid, Option.bind_some, if_neg (show ¬ (1 : Int32) = 0 by decide), qz0]
                  rfl
                | false =>
                  rw [hz, if_neg (by decide)] at hhid
                  simp only [fX7_fits, g7 w7, hX7, qlab, if_pos zle, hhid, Option.bind_some, if_true, qz1]
                  rfl
              · have zle : ¬ nI p ≤ (0 : Int32) := nI_nle (by omega) (by omega)
                obtain ⟨pv1, pv2⟩ := hpv (by omega)
                have lpv : pv < 8 := by omega
                have lp6 : p - 1 < 6 := by omega
                have ep : nI p - 1 = nI (p - 1) := by rw [show (1 : Int32) = nI 1 from rfl, pk_sub (by omega)]
                have eh : ga (pI X1 (ro + 2) 0 (nI (mi + p))) (ro + 1) (p - 1) = nI pv := by rw [hH7 (p - 1) (by omega)]; exact pv1
                have q1 := (hP.2.2.2.2.1 pv pv2).1
                have q2 := (hP.2.2.2.2.1 h hlt).1
                have q3 := hP.1
                have ea := apart_cl (F := F) hX7 wB lpv l8 (hB7.2.2.2 pv pv2).1 (hB7.2.2.2 h hlt).1 (by omega) (by omega)
                have d1 : ap (ce h) (ce pv) < 100 := by unfold ap; split <;> omega
                have e1' : (nI (ap (ce h) (ce pv)) = (1 : Int32)) = (ap (ce h) (ce pv) = 1) := propext (nI_eq (b := 1) (by omega) (by omega))
                by_cases za : ap (ce h) (ce pv) = 1
                · rw [decide_eq_false zp, decide_eq_false (fun y => y za)]
                  simp only [fX7_fits, g7 w7, hX7, qlab, if_neg zle, ep, lp6, eh, ea, e1', if_pos za, Option.bind_some]
                  rfl
                · rw [decide_eq_false zp, decide_eq_true za]
                  cases hz : hdV ce w c wi sm sa so (nI (mi + p)) h with
                  | true =>
                    rw [hz, if_pos rfl] at hhid
                    simp only [fX7_fits, g7 w7, hX7, qlab, if_neg zle, ep, lp6, eh, ea, e1', if_neg za, hhid, Option.bind_some, if_neg (show ¬ (1 : Int32) = 0 by decide), qz0]
                    rfl
                  | false =>
                    rw [hz, if_neg (by decide)] at hhid
                    simp only [fX7_fits, g7 w7, hX7, qlab, if_neg zle, ep, lp6, eh, ea, e1', if_neg za, hhid, Option.bind_some, if_true, qz1]
                    rfl
            by_cases zs : stB ce (seB ce po w c wi sm (gi X0 (ro + 2) 1) mi) p L pv sa so h = true
            · rw [if_pos zs] at hfit
              have hX11 : shX (pA (pI X1 (ro + 2) 0 (nI (mi + p))) (ro + 1) p (nI h)) = Y := by simp only [k7 w7, hX7]
              have hB11 : BC (pA (pI X1 (ro + 2) 0 (nI (mi + p))) (ro + 1) p (nI h)) b w c sm ce po := hB7.c (fun q z1 z2 => pA_ne (by omega))
              have e11 : gi (pA (pI X1 (ro + 2) 0 (nI (mi + p))) (ro + 1) p (nI h)) (ro + 2) 2 = nI wi - 5 := by rw [gi_pA, u7, if_neg (by omega), e4]; exact hwi.1
              obtain ⟨X13, t1, t2, t3, t4, t5, t6⟩ := sign_ok (F := F) hX11 wA wB (by omega) hB11 hP (wi := wi) ⟨e11, hwi.2⟩ hlt (by omega)
              rw [gi_pA, u7, if_pos rfl, ga_pA_ne (by omega), ga_pI] at t4
              rw [ga_pA_ne (by omega), ga_pI] at t5
              have hr13 : ∀ q : Nat, q ≠ ro + 1 → q < ro + 2 ∨ ro + 2 + 5 ≤ q → X13 q = X0 q := fun q z1 z2 => (t3 q (by omega) (by omega) (by omega)).trans ((pA_ne z1).trans ((pV_ne (by omega)).trans (e2 q z1 z2)))
              have h13 : ga X13 (ro + 1) = upd (ga X1 (ro + 1)) p (nI h) := by
                rw [ga_congr (t3 (ro + 1) (by omega) (by omega) (by omega)), ga_pA_self hX7 w7.2, ga_pI]
              have g13 : ∀ k : Nat, k ≠ 0 → gi X13 (ro + 2) k = gi X1 (ro + 2) k := fun k hk => by rw [gi_congr (t3 _ (by omega) (by omega) (by omega)), gi_pA, u7, if_neg hk]
              have hE13 : exI X0 Y (ro + 2) (ro + 1) c (upd sa h (nI (mi + p))) (upd so h (nI (ov ce w wi h))) X13 := ⟨t2, hr13, by rw [g13 1 (by omega)]; exact e3, by rw [g13 2 (by omega)]; exact e4, fun g hg => by
                rw [t4, t5]
                exact ⟨upd_rf (e5 g hg).1 rfl, upd_rf (e5 g hg).2 rfl⟩⟩
              have hcn := cnL_off l8 zb
              obtain ⟨f, X15, k1, k2, k3, k4, k5⟩ := ih d' (p + 1) (L &&& (((1 : Int32) <<< (nI h &&& 31)) ^^^ (-1 : Int32))) h (upd sa h (nI (mi + p))) (upd so h (nI (ov ce w wi h))) X13 (by omega) (by omega) (by omega) (fun g hg => hLc g ((off_tb (by omega) g).mp hg).1) (fun g hg => hIN g ((off_tb (by omega) g).mp hg).1) (fun g hg hb => by
                obtain ⟨b1, b2⟩ := (off_tb (by omega) g).mp hb
                rw [upd_ne _ b2, upd_ne _ b2]
                exact hL0 g hg b1) hE13 (fun _ => ⟨by rw [h13, Nat.add_sub_cancel, upd_self], hlt⟩)
              have ep1 : nI p + 1 = nI (p + 1) := nI_1 p
              have hkeep : ∀ i : Nat, i < p → ga X15 (ro + 1) i = ga X (ro + 1) i := fun i hi => by rw [k2 i (by omega), h13, upd_ne _ (by omega)]; exact hH i hi
              rcases k5 with ⟨f0, fv, fE⟩ | ⟨f1, x, fx, fv, fy, fr⟩
              · subst f0
                have hsA := signedAs_ok (F := F) (a := ro + 2) (b := nt) (h := h) k3 wA wN (by omega) l8
                have hXa := shX_pA k3 wA.2.2.1 h (ga X15 (nt + 2) h)
                have hXb := shX_pA hXa wA.2.2.2.1 h (ga X15 (nt + 3) h)
                have hXc := shX_pA hXb wA.2.2.2.2 h (ga X15 (nt + 4) h)
                have n2 : ga X15 (nt + 2) h = sa h := by rw [ga_congr (k4 (nt + 2) (by omega) (by omega)), (h0 h hlt).1, (hL0 h hlt zb).1]
                have n3 : ga X15 (nt + 3) h = so h := by rw [ga_congr (k4 (nt + 3) (by omega) (by omega)), (h0 h hlt).2, (hL0 h hlt zb).2]
                have hE17 : exI X0 Y (ro + 2) (ro + 1) c sa so (pA (pA (pA X15 (ro + 2 + 2) h (ga X15 (nt + 2) h)) (ro + 2 + 3) h (ga X15 (nt + 3) h)) (ro + 2 + 4) h (ga X15 (nt + 4) h)) := ⟨hXc, fun q z1 z2 => (pA_ne (by omega)).trans ((pA_ne (by omega)).trans ((pA_ne (by omega)).trans (k4 q z1 z2))), by rw [gi_pA, gi_pA, gi_pA]; exact fE.2.2.1, by rw [gi_pA, gi_pA, gi_pA]; exact fE.2.2.2.1, fun g hg => by
                  rw [ga_pA_ne (by omega), ga_pA_ne (by omega), ga_pA_self k3 wA.2.2.1, ga_pA_ne (by omega), ga_pA_self hXa wA.2.2.2.1, ga_pA_ne (by omega), n2, n3]
                  by_cases z : g = h
                  · subst z; rw [upd_self, upd_self]; exact ⟨rfl, rfl⟩
                  · rw [upd_ne _ z, upd_ne _ z, (fE.2.2.2.2 g hg).1, (fE.2.2.2.2 g hg).2, upd_ne _ z, upd_ne _ z]; exact ⟨rfl, rfl⟩⟩
                obtain ⟨o, X2, m1, m2⟩ := ihn (h + 1) (pA (pA (pA X15 (ro + 2 + 2) h (ga X15 (nt + 2) h)) (ro + 2 + 3) h (ga X15 (nt + 3) h)) (ro + 2 + 4) h (ga X15 (nt + 4) h)) (by omega) (by omega) hE17 (fun i hi => by rw [ga_pA_ne (by omega), ga_pA_ne (by omega), ga_pA_ne (by omega)]; exact hkeep i hi) (hnext (fun m hm => by
                  rw [VV_step hm, fv m hm, Bool.and_false]))
                refine ⟨o, X2, ?_, m2⟩
                simp only [gB wB, gN wN, sN wA, g7 w7, s7 w7, e1, hX7, hX11, t2, k3, Option.bind_some, hB1.2.1, if_neg (nI_ge hlt (by omega)), nm, nI_add, qlt, if_pos ((shr_tb (show h < 32 by omega)).mpr zb), hfit, if_neg (show ¬ (1 : Int32) = 0 by decide), p6, t1, ep1, k1, qb2, if_true, hsA, nI_1]
                exact m1
              · subst f1
                refine ⟨.inl (1, X15), X15, ?_, hkeep, k3, k4, Or.inr ⟨rfl, h * 8 ^ r + x, ?_, ?_, fun y hy => ?_, fun i hi => ?_⟩⟩
                · simp only [gB wB, gN wN, sN wA, g7 w7, s7 w7, e1, hX7, hX11, t2, k3, Option.bind_some, hB1.2.1, if_neg (nI_ge hlt (by omega)), nm, nI_add, qlt, if_pos ((shr_tb (show h < 32 by omega)).mpr zb), hfit, if_neg (show ¬ (1 : Int32) = 0 by decide), p6, t1, ep1, k1, qb2]
                · rw [Nat.pow_succ]
                  have : h * 8 ^ r + 8 ^ r ≤ 8 * 8 ^ r := by
                    rw [← Nat.succ_mul]
                    exact Nat.mul_le_mul_right _ (by omega)
                  omega
                · rw [VV_step fx, zs, fv]; rfl
                · by_cases z : y < h * 8 ^ r
                  · exact hV y z
                  · rw [show y = h * 8 ^ r + (y - h * 8 ^ r) by omega, VV_step (by omega), fy _ (by omega), Bool.and_false]
                · by_cases z : i = 0
                  · subst z
                    show ga X15 (ro + 1) p = _
                    rw [k2 p (by omega), h13, upd_self, show r + 1 - 1 - 0 = r by omega, Nat.add_comm, Nat.add_mul_div_right _ _ hpow, Nat.div_eq_of_lt fx, Nat.zero_add, Nat.mod_eq_of_lt l8]
                  · obtain ⟨j, rfl⟩ : ∃ j, i = j + 1 := ⟨i - 1, by omega⟩
                    rw [show p + (j + 1) = (p + 1) + j by omega, fr j (by omega)]
                    congr 1
                    rw [show r + 1 - 1 - (j + 1) = r - 1 - j by omega]
                    have e : 8 ^ r = 8 ^ (r - 1 - j) * (8 * 8 ^ j) := by
                      rw [← Nat.pow_succ', ← Nat.pow_add]
                      congr 1
                      omega
                    have hp2 : 0 < 8 ^ (r - 1 - j) := Nat.pow_pos (by omega)
                    rw [show h * 8 ^ r + x = x + 8 ^ (r - 1 - j) * (8 * (8 ^ j * h)) by rw [e, Nat.mul_comm h, Nat.mul_assoc, Nat.mul_assoc, Nat.add_comm], Nat.add_mul_div_left _ _ hp2, Nat.add_mul_mod_self_left]
            · rw [if_neg zs] at hfit
              obtain ⟨o, X2, m1, m2⟩ := ihn (h + 1) (pI X1 (ro + 2) 0 (nI (mi + p))) (by omega) (by omega) hE7 hH7 (hnext (fun m hm => by
                rw [VV_step hm, b_nt zs, Bool.false_and]))
              refine ⟨o, X2, ?_, m2⟩
              simp only [gB wB, gN wN, sN wA, g7 w7, e1, hX7, Option.bind_some, hB1.2.1, if_neg (nI_ge hlt (by omega)), nm, nI_add, qlt, if_pos ((shr_tb (show h < 32 by omega)).mpr zb), hfit, if_true, nI_1]
              exact m1
          · obtain ⟨o, X2, m1, m2⟩ := ihn (h + 1) (pI X1 (ro + 2) 0 (nI (mi + p))) (by omega) (by omega) hE7 hH7 (hnext (fun m hm => by
              rw [VV_step hm]
              unfold stB
              rw [b_nt (show ¬ L.toBitVec.getLsbD h = true from zb)]
              rfl))
            refine ⟨o, X2, ?_, m2⟩
            simp only [gB wB, gN wN, sN wA, g7 w7, e1, Option.bind_some, hB1.2.1, if_neg (nI_ge hlt (by omega)), nm, nI_add, qlt, if_neg (fun y => zb ((shr_tb (show h < 32 by omega)).mp y)), nI_1]
            exact m1
    obtain ⟨o, X2, m1, m2, m3, m4, m5⟩ := key F 0 X (by omega) (by omega) hE (fun _ _ => rfl) (fun m hm => by rw [Nat.zero_mul] at hm; omega)
    have m1' : fX7_extend_L18 F (fX7_extend F d') ro b nt L (nI p) F (0 : Int32) X = some o := m1
    have p6' : nI p < (6 : Int32) := nI_lt (b := 6) p6 (by omega)
    rcases m5 with ⟨rfl, v1, v2⟩ | ⟨rfl, v1⟩
    · refine ⟨0, X2, ?_, m2, m3, m4, Or.inl ⟨rfl, fun m hm => ?_, v2⟩⟩
      · show fX7_extend_body F (fX7_extend F d') X ro b nt L (nI p) = _
        simp only [fX7_extend_body, g7 w7, hE.1, if_neg hLz, if_pos p6', m1', Option.bind_some, qsm1]
      · by_cases z : m < c * 8 ^ r
        · exact v1 m z
        · have hq : ¬ tb L (m / 8 ^ r) := fun y => by
            have h1 := hLc _ y
            have h2 : m < (m / 8 ^ r + 1) * 8 ^ r := by
              rw [Nat.mul_comm]
              exact Nat.lt_mul_div_succ m hpow
            have h3 : (m / 8 ^ r + 1) * 8 ^ r ≤ c * 8 ^ r := Nat.mul_le_mul_right _ (by omega)
            omega
          have e : m = (m / 8 ^ r) * 8 ^ r + m % 8 ^ r := by rw [Nat.mul_comm]; exact (Nat.div_add_mod m (8 ^ r)).symm
          rw [e, VV_step (Nat.mod_lt _ hpow)]
          unfold stB
          rw [b_nt (show ¬ L.toBitVec.getLsbD (m / 8 ^ r) = true from hq)]
          rfl
    · refine ⟨1, X2, ?_, m2, m3, m4, Or.inr ⟨rfl, v1⟩⟩
      show fX7_extend_body F (fX7_extend F d') X ro b nt L (nI p) = _
      simp only [fX7_extend_body, g7 w7, hE.1, if_neg hLz, if_pos p6', m1', Option.bind_some, qsm1]
