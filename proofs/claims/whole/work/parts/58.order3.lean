/-! order: the model; the operation -/
theorem bcF_ak (x : Int32) : ∀ k : Nat, k ≤ 32 → bcF x k = nI (akF (fun i => x.toBitVec.getLsbD i) k) := by
  intro k
  induction k with
  | zero => intro _; rfl
  | succ k ih =>
    intro hk
    rw [bcF, ih (by omega), akF]
    have e := shr_tb (x := x) (i := k) (by omega)
    have e0 := shr0 (x := x) (i := k) (by omega)
    unfold tb at e e0
    cases hx : x.toBitVec.getLsbD k with
    | true => rw [e.mpr hx, if_pos rfl, nI_1]
    | false => rw [e0.mpr (by rw [hx]; decide), if_neg (by decide), Int32.add_zero]; rfl
theorem set_tb {s c g : Nat} (hs : s < 2 ^ c) (hc : c ≤ 8) (h : tb (nI s) g) : g < c := by
  by_cases z : g < c
  · exact z
  · exfalso
    have e : (nI s).toBitVec.getLsbD g = (decide (g < 32) && s.testBit g) := by
      show (BitVec.ofNat 32 s).getLsbD g = _
      rw [BitVec.getLsbD_ofNat]
    unfold tb at h
    rw [e, Nat.testBit_lt_two_pow (Nat.lt_of_lt_of_le hs (Nat.pow_le_pow_right (by omega) (by omega)))] at h
    simp at h
theorem sh3 : ∀ n : Fin 7, (1 : Int32) <<< (((3 : Int32) * nI n.val) &&& 31) = nI (8 ^ n.val) ∧ 8 ^ n.val ≤ 262144 := by decide +kernel
theorem figure_ok {F : Nat} {X : qH} {m n k : Nat} (hn : n ≤ 6) (hk : k < n) (hm : m < 2 ^ 31) : fX10_figure F X (nI m) (nI n) (nI k) = some (nI (m / 8 ^ (n - 1 - k) % 8)) := by
  unfold fX10_figure
  have e1 : (3 : Int32) * (nI n - 1 - nI k) = nI (3 * (n - 1 - k)) := by
    rw [show (1 : Int32) = nI 1 from rfl, show (3 : Int32) = nI 3 from rfl, pk_sub (by omega), pk_sub (by omega), pk_mul]
  have es : ((nI (3 * (n - 1 - k)) &&& 31).toBitVec.smod 32).toNat = 3 * (n - 1 - k) := sm_ix ⟨3 * (n - 1 - k), by omega⟩
  have hle : m / 2 ^ (3 * (n - 1 - k)) ≤ m := Nat.div_le_self _ _
  rw [e1, pk_shrN hm _ _ es, pk_andN (by omega) 3 (by decide), show (2 : Nat) ^ 3 = 8 from rfl, Nat.pow_mul]
theorem V1_in {ce : Nat → Nat} {r p pv m : Nat} {L : Int32} (h : V1 ce (r + 1) p L pv m = true) : tb L (m / 8 ^ r) ∧ V1 ce r (p + 1) (L &&& (((1 : Int32) <<< (nI (m / 8 ^ r) &&& 31)) ^^^ (-1 : Int32))) (m / 8 ^ r) (m % 8 ^ r) = true := by
  rw [V1, Bool.and_eq_true, Bool.and_eq_true] at h
  exact ⟨h.1.1, h.2⟩
theorem pw_div (m r : Nat) : m % 8 ^ (r + 1) / 8 ^ r = m / 8 ^ r % 8 ∧ m % 8 ^ (r + 1) % 8 ^ r = m % 8 ^ r := by
  constructor
  · rw [Nat.pow_succ, Nat.mod_mul_right_div_self]
  · exact Nat.mod_mod_of_dvd _ ⟨8, Nat.pow_succ 8 r⟩
set_option maxHeartbeats 1000000 in
theorem isOrd9 {F : Nat} {X Y : qH} {m w c sm n cd : Nat} {ce po : Nat → Nat} (hX : shX X = Y) (wM : YM Y m) (hB : BM X m w c sm ce po) (hP : BP w c sm ce po) (hn : n ≤ 6) (hcd : cd < 2 ^ 31) :
    ∀ r t k : Nat, ∀ L : Int32, k + r = n → r < t → (∀ g : Nat, tb L g → g < c) → (0 < k → cd / 8 ^ r % 8 < c) → fX10_isOrder_L9 F X m (nI cd) (nI n) t L 1 (nI k) = some (if V1 ce r k L (cd / 8 ^ r % 8) (cd % 8 ^ r) = true then 1 else 0) := by
  have c8 := hP.2.1
  intro r
  induction r with
  | zero =>
    intro t k L hk ht hL hpv
    obtain ⟨t', rfl⟩ : ∃ q, t = q + 1 := ⟨t - 1, by omega⟩
    show fX10_isOrder_L9_B F X m (nI cd) (nI n) (fX10_isOrder_L9 F X m (nI cd) (nI n) t') L 1 (nI k) = _
    unfold fX10_isOrder_L9_B
    rw [if_pos (nI_le (show n ≤ k by omega) (by omega))]
    rfl
  | succ r ih =>
    intro t k L hk ht hL hpv
    obtain ⟨t', rfl⟩ : ∃ q, t = q + 1 := ⟨t - 1, by omega⟩
    show fX10_isOrder_L9_B F X m (nI cd) (nI n) (fX10_isOrder_L9 F X m (nI cd) (nI n) t') L 1 (nI k) = _
    unfold fX10_isOrder_L9_B
    have f1 := figure_ok (F := F) (X := X) (m := cd) (n := n) (k := k) hn (by omega) hcd
    rw [show n - 1 - k = r by omega] at f1
    have h8 : cd / 8 ^ r % 8 < 8 := Nat.mod_lt _ (by omega)
    have k3 := hasM_ok (F := F) (X := X) (x := L) (q := cd / 8 ^ r % 8) (by omega)
    rw [V1, (pw_div cd r).1, (pw_div cd r).2]
    have z0 : ∀ (L' : Int32), fX10_isOrder_L9 F X m (nI cd) (nI n) t' L' 0 (nI (k + 1)) = some 0 := fun L' => by
      obtain ⟨t2, rfl⟩ : ∃ q, t' = q + 1 := ⟨t' - 1, by omega⟩
      show fX10_isOrder_L9_B F X m (nI cd) (nI n) (fX10_isOrder_L9 F X m (nI cd) (nI n) t2) L' 0 (nI (k + 1)) = _
      unfold fX10_isOrder_L9_B
      simp only [if_true, ite_self]
    generalize cd / 8 ^ r % 8 = h at *
    by_cases zb : tb L h
    · have hc := hL h zb
      have lh : h < 8 := by omega
      have i1 := ih t' (k + 1) (L &&& (((1 : Int32) <<< (nI h &&& 31)) ^^^ (-1 : Int32))) (by omega) (by omega) (fun g hg => hL g ((off_tb (by omega) g).mp hg).1) (fun _ => hc)
      rw [show L.toBitVec.getLsbD h = true from zb, Bool.true_and]
      by_cases zk : k = 0
      · subst zk
        simp only [if_neg (nI_ge (show 0 < n by omega) (by omega)), if_neg (show ¬ (1 : Int32) = 0 by decide), f1, Option.bind_some, k3.1 zb, if_pos (show nI 0 = (0 : Int32) from rfl), qlt, nI_1, i1]
        rfl
      · have nk : ¬ nI k = (0 : Int32) := nI_ne0 (by omega) (by omega)
        have f2 := figure_ok (F := F) (X := X) (m := cd) (n := n) (k := k - 1) hn (by omega) hcd
        have ep : nI k - 1 = nI (k - 1) := by rw [show (1 : Int32) = nI 1 from rfl, pk_sub (by omega)]
        rw [show n - 1 - (k - 1) = r + 1 by omega, ← ep] at f2
        have hpv' := hpv (by omega)
        generalize cd / 8 ^ (r + 1) % 8 = pv at *
        have lpv : pv < 8 := by omega
        have q1 := (hP.2.2.2.2.1 pv hpv').1
        have q2 := (hP.2.2.2.2.1 h hc).1
        have q3 := hP.1
        have a1 := apart_m (F := F) (X := X) (show ce h < 1000 by omega) (show ce pv < 1000 by omega)
        have d1 : ap (ce h) (ce pv) < 100 := by unfold ap; split <;> omega
        have e1 : (nI (ap (ce h) (ce pv)) = (1 : Int32)) = (ap (ce h) (ce pv) = 1) := propext (nI_eq (b := 1) (by omega) (by omega))
        rw [decide_eq_false zk]
        by_cases za : ap (ce h) (ce pv) = 1
        · rw [decide_eq_false (fun y => y za)]
          simp only [if_neg (nI_ge (show k < n by omega) (by omega)), if_neg (show ¬ (1 : Int32) = 0 by decide), f1, Option.bind_some, k3.1 zb, if_neg nk, gM wM, hX, lh, lpv, (hB.2.2.2 h hc).1, f2, (hB.2.2.2 pv hpv').1, a1, e1, if_pos za, qlt, nI_1, z0]
          rfl
        · rw [decide_eq_true za]
          simp only [if_neg (nI_ge (show k < n by omega) (by omega)), if_neg (show ¬ (1 : Int32) = 0 by decide), f1, Option.bind_some, k3.1 zb, if_neg nk, gM wM, hX, lh, lpv, (hB.2.2.2 h hc).1, f2, (hB.2.2.2 pv hpv').1, a1, e1, if_neg za, qlt, nI_1, i1]
          rfl
    · rw [b_nt (show ¬ L.toBitVec.getLsbD h = true from zb)]
      simp only [if_neg (nI_ge (show k < n by omega) (by omega)), if_neg (show ¬ (1 : Int32) = 0 by decide), f1, Option.bind_some, k3.2 zb, if_true, qlt, nI_1, z0]
      rfl
set_option maxHeartbeats 1000000 in
theorem isOrd136 {F : Nat} {X0 Y : qH} {m w c sm wi mi n cd : Nat} {ce po : Nat → Nat} (wM : YM Y m) (hB : BM X0 m w c sm ce po) (hP : BP w c sm ce po) (hwi : ga X0 (m + 5) 1 = nI wi - 5 ∧ wi ≤ 10) (hmi : mi < 1000000) (hn : n ≤ 6) (hcd : cd < 2 ^ 31) (hF : 100 ≤ F) :
    ∀ r t k : Nat, ∀ L : Int32, ∀ pv : Nat, ∀ sa so : Nat → Int32, ∀ X : qH, k + r = n → r < t → V1 ce r k L pv (cd % 8 ^ r) = true → (∀ g : Nat, tb L g → g < c) → shX X = Y → (∀ q : Nat, q ≠ m + 5 → X q = X0 q) → ga X (m + 5) 0 = ga X0 (m + 5) 0 → ga X (m + 5) 1 = ga X0 (m + 5) 1 → ga X (m + 5) 2 = nI (mi + k) → (∀ g : Nat, g < c → ga X (m + 5) (11 + g) = sa g ∧ ga X (m + 5) (19 + g) = so g) → (∀ g : Nat, g < c → sa g = -1 ∨ ¬ sa g < 0) →
      ∃ X2, fX10_isOrder_L136 F m (nI cd) (nI n) t 1 (nI k) X = some (if V2 (seB ce po w c wi sm (ga X0 (m + 5) 0) mi) (fun h => nI (ov ce w wi h)) (fun p => nI (mi + p)) r k sa so (cd % 8 ^ r) = true then 1 else 0, X2) ∧ shX X2 = Y ∧ (∀ q : Nat, q ≠ m + 5 → X2 q = X0 q) ∧ ∀ i : Nat, 43 ≤ i → ga X2 (m + 5) i = ga X (m + 5) i := by
  have c8 := hP.2.1
  intro r
  induction r with
  | zero =>
    intro t k L pv sa so X hk ht hv hL h1 h2 h3 h4 h5 h6 h7
    obtain ⟨t', rfl⟩ : ∃ q, t = q + 1 := ⟨t - 1, by omega⟩
    refine ⟨X, ?_, h1, h2, fun _ _ => rfl⟩
    show fX10_isOrder_L136_B F m (nI cd) (nI n) (fX10_isOrder_L136 F m (nI cd) (nI n) t') 1 (nI k) X = _
    unfold fX10_isOrder_L136_B
    rw [if_pos (nI_le (show n ≤ k by omega) (by omega))]
    rfl
  | succ r ih =>
    intro t k L pv sa so X hk ht hv hL h1 h2 h3 h4 h5 h6 h7
    obtain ⟨t', rfl⟩ : ∃ q, t = q + 1 := ⟨t - 1, by omega⟩
    show ∃ X2, fX10_isOrder_L136_B F m (nI cd) (nI n) (fX10_isOrder_L136 F m (nI cd) (nI n) t') 1 (nI k) X = _ ∧ _
    unfold fX10_isOrder_L136_B
    have f1 := figure_ok (F := F) (X := X) (m := cd) (n := n) (k := k) hn (by omega) hcd
    rw [show n - 1 - k = r by omega] at f1
    obtain ⟨v1, v2⟩ := V1_in hv
    rw [(pw_div cd r).1] at v1 v2
    rw [(pw_div cd r).2] at v2
    rw [V2, (pw_div cd r).1, (pw_div cd r).2]
    generalize cd / 8 ^ r % 8 = h at *
    have hc := hL h v1
    have lh : h < 8 := by omega
    have hB1 : BM X m w c sm ce po := hB.c (fun q _ => gi_congr (h2 m (by omega)) q) (h2 _ (by omega)) (h2 _ (by omega))
    have hsa1 : ∀ g : Nat, g < c → ga X (m + 5) (11 + g) = -1 ∨ ¬ ga X (m + 5) (11 + g) < 0 := fun g hg => by rw [(h6 g hg).1]; exact h7 g hg
    have sv := (seers_val (F := F) h1 wM hB1 hP (wi := wi) ⟨by rw [h4]; exact hwi.1, hwi.2⟩ hsa1 hc (by omega)).2
    obtain ⟨X3, l1, l2, l3, l4⟩ := lightNow_ok (F := F) h1 wM hB1 hP (wi := wi) ⟨by rw [h4]; exact hwi.1, hwi.2⟩ hsa1 hc (by omega)
    have hV : vwV ce po w c wi sm (ga X (m + 5) 0) (fun k => ga X (m + 5) (11 + k)) (fun k => ga X (m + 5) (19 + k)) (ga X (m + 5) 2) h = vwV ce po w c wi sm (ga X0 (m + 5) 0) sa so (nI (mi + k)) h := by
      rw [h3, h5]
      exact vwV_congr (fun g hg => h6 g hg)
    rw [hV] at sv l4
    rw [h5] at l4
    have bts := bits_ok (F := F) (X := X) (vwV ce po w c wi sm (ga X0 (m + 5) 0) sa so (nI (mi + k)) h) (by omega)
    have hX35 : shX (pA X3 (m + 5) 2 (nI (mi + (k + 1)))) = Y := shX_pA l2 wM.p5 _ _
    have a2 : ga X3 (m + 5) 2 = nI (mi + k) := by rw [l4, upd_ne _ (by omega), upd_ne _ (by omega), upd_ne _ (by omega)]; exact h5
    have w35 : ∀ i : Nat, ga (pA X3 (m + 5) 2 (nI (mi + (k + 1)))) (m + 5) i = if i = 2 then nI (mi + (k + 1)) else if i = 27 + h then vwV ce po w c wi sm (ga X0 (m + 5) 0) sa so (nI (mi + k)) h else if i = 11 + h then nI (mi + k) else if i = 19 + h then nI (ov ce w wi h) else ga X (m + 5) i := fun i => by
      rw [ga_pA_self l2 wM.p5, l4]
      by_cases y0 : i = 2
      · subst y0; rw [upd_self, if_pos rfl]
      · rw [upd_ne _ y0, if_neg y0]
        by_cases y1 : i = 27 + h
        · subst y1; rw [upd_self, if_pos rfl]
        · rw [upd_ne _ y1, if_neg y1]
          by_cases y2 : i = 11 + h
          · subst y2; rw [upd_self, if_pos rfl]
          · rw [upd_ne _ y2, if_neg y2]
            by_cases y3 : i = 19 + h
            · subst y3; rw [upd_self, if_pos rfl]
            · rw [upd_ne _ y3, if_neg y3]
    have e1 : nI (mi + k) + 1 = nI (mi + (k + 1)) := nI_1 (mi + k)
    by_cases zs : seB ce po w c wi sm (ga X0 (m + 5) 0) mi sa so k h = true
    · have nb : ¬ bcF (vwV ce po w c wi sm (ga X0 (m + 5) 0) sa so (nI (mi + k)) h) 8 < 2 := of_decide_eq_true zs
      rw [zs, Bool.true_and]
      obtain ⟨X2, k1, k2, k3, k4⟩ := ih t' (k + 1) (L &&& (((1 : Int32) <<< (nI h &&& 31)) ^^^ (-1 : Int32))) h (upd sa h (nI (mi + k))) (upd so h (nI (ov ce w wi h))) (pA X3 (m + 5) 2 (nI (mi + (k + 1)))) (by omega) (by omega) v2 (fun g hg => hL g ((off_tb (by omega) g).mp hg).1) hX35 (fun q hq => (pA_ne hq).trans ((l3 q hq).trans (h2 q hq))) (by rw [w35, if_neg (by omega), if_neg (by omega), if_neg (by omega), if_neg (by omega)]; exact h3) (by rw [w35, if_neg (by omega), if_neg (by omega), if_neg (by omega), if_neg (by omega)]; exact h4) (by rw [w35, if_pos rfl]) (fun g hg => by
        rw [w35, w35]
        by_cases z : g = h
        · subst z
          rw [upd_self, upd_self, if_neg (by omega), if_neg (by omega), if_pos rfl, if_neg (by omega), if_neg (by omega), if_neg (by omega), if_pos rfl]
          exact ⟨rfl, rfl⟩
        · rw [upd_ne _ z, upd_ne _ z, if_neg (by omega), if_neg (by omega), if_neg (by omega), if_neg (by omega), if_neg (by omega), if_neg (by omega), if_neg (by omega), if_neg (by omega)]
          exact h6 g hg) (fun g hg => by
        by_cases z : g = h
        · subst z; rw [upd_self]; exact Or.inr (nI_pos (by omega))
        · rw [upd_ne _ z]; exact h7 g hg)
      refine ⟨X2, ?_, k2, k3, fun i hi => by rw [k4 i hi, w35, if_neg (by omega), if_neg (by omega), if_neg (by omega), if_neg (by omega)]⟩
      simp only [if_neg (nI_ge (show k < n by omega) (by omega)), if_neg (show ¬ (1 : Int32) = 0 by decide), f1, Option.bind_some, sv, bts, if_neg nb, l1, gM wM, m5 wM, l2, a2, e1, qlt, nI_1, k1]
    · have nb : bcF (vwV ce po w c wi sm (ga X0 (m + 5) 0) sa so (nI (mi + k)) h) 8 < 2 := Decidable.not_not.mp (fun y => zs (decide_eq_true y))
      rw [b_nt zs, Bool.false_and]
      have z0 : fX10_isOrder_L136 F m (nI cd) (nI n) t' 0 (nI (k + 1)) (pA X3 (m + 5) 2 (nI (mi + (k + 1)))) = some (0, pA X3 (m + 5) 2 (nI (mi + (k + 1)))) := by
        obtain ⟨t2, rfl⟩ : ∃ q, t' = q + 1 := ⟨t' - 1, by omega⟩
        show fX10_isOrder_L136_B F m (nI cd) (nI n) (fX10_isOrder_L136 F m (nI cd) (nI n) t2) 0 (nI (k + 1)) _ = _
        unfold fX10_isOrder_L136_B
        simp only [if_true, ite_self]
      refine ⟨pA X3 (m + 5) 2 (nI (mi + (k + 1))), ?_, hX35, fun q hq => (pA_ne hq).trans ((l3 q hq).trans (h2 q hq)), fun i hi => by rw [w35, if_neg (by omega), if_neg (by omega), if_neg (by omega), if_neg (by omega)]⟩
      simp only [if_neg (nI_ge (show k < n by omega) (by omega)), if_neg (show ¬ (1 : Int32) = 0 by decide), f1, Option.bind_some, sv, bts, if_pos nb, l1, gM wM, m5 wM, l2, a2, e1, qlt, nI_1, z0]
      rfl
theorem YM.p16 {Y : qH} {m : Nat} (h : YM Y m) : Y (m + 16) = some (.inl (0, 43, .inl (fun _ => 0))) := h.2.2.2.2.2.2.2.2.2.2.2.2.2.2.2.2.1
set_option maxHeartbeats 1000000 in
theorem isOrder_ok {F : Nat} {X Y : qH} {m w c sm wi mi n cd : Nat} {ce po : Nat → Nat} {v : Int32} (hX : shX X = Y) (wM : YM Y m) (hB : BM X m w c sm ce po) (hP : BP w c sm ce po) (hwi : ga X (m + 5) 1 = nI wi - 5 ∧ wi ≤ 10) (hmi : ga X (m + 5) 2 = nI mi ∧ mi < 1000000) (hsa : ∀ g : Nat, g < c → ga X (m + 5) (11 + g) = -1 ∨ ¬ ga X (m + 5) (11 + g) < 0) (hn : n ≤ 6) (hcd : cd < 8 ^ n) (hL : ∀ g : Nat, tb v g → g < c) (hF : 1000 ≤ F) :
    ∃ X2, fX10_isOrder F X m (nI cd) (nI n) v = some (if VV ce (seB ce po w c wi sm (ga X (m + 5) 0) mi) (fun h => nI (ov ce w wi h)) (fun p => nI (mi + p)) n 0 v 0 (fun k => ga X (m + 5) (11 + k)) (fun k => ga X (m + 5) (19 + k)) cd = true then 1 else 0, X2) ∧ shX X2 = Y ∧ (∀ q : Nat, q ≠ m + 5 → q ≠ m + 16 → X2 q = X q) ∧ ga X2 (m + 5) = ga X (m + 5) := by
  have h31 : cd < 2 ^ 31 := by
    have := (sh3 ⟨n, by omega⟩).2
    dsimp only at this
    omega
  have c0 : cd / 8 ^ n % 8 = 0 := by rw [Nat.div_eq_of_lt hcd]
  have c1 : cd % 8 ^ n = cd := Nat.mod_eq_of_lt hcd
  have n9 := isOrd9 (F := F) hX wM hB hP hn h31 n F 0 v (by omega) (by omega) hL (fun y => by omega)
  rw [c0, c1, show nI 0 = (0 : Int32) from rfl] at n9
  unfold VV
  by_cases z1 : V1 ce n 0 v 0 cd = true
  · rw [if_pos z1] at n9
    rw [z1, Bool.true_and]
    have e106 : ∃ X1, fX10_isOrder_L106 F m (nI cd) (nI n) 1 F (0 : Int32) X = some X1 ∧ cpI X Y (m + 16) 0 (ga X (m + 5)) 43 X1 := by
      refine cpy (v0 := 0) (L := fX10_isOrder_L106 F m (nI cd) (nI n) 1) wM.p16 (fun t X2 h => ?_) (fun t k X2 hk h => ?_) hX (by omega)
      · show fX10_isOrder_L106_B F m (nI cd) (nI n) 1 (fX10_isOrder_L106 F m (nI cd) (nI n) 1 t) (nI (0 + 43)) X2 = _
        unfold fX10_isOrder_L106_B
        rw [if_pos (show (43 : Int32) ≤ nI (0 + 43) by decide)]
      · show fX10_isOrder_L106_B F m (nI cd) (nI n) 1 (fX10_isOrder_L106 F m (nI cd) (nI n) 1 t) (nI (0 + k)) X2 = _
        unfold fX10_isOrder_L106_B
        obtain ⟨h1, h2, h3⟩ := h
        have e2 : ga X2 (m + 5) = ga X (m + 5) := ga_congr (h2 _ (by omega))
        have lk : 0 + k < 43 := by omega
        rw [if_neg (show ¬ (43 : Int32) ≤ nI (0 + k) from nI_ge (b := 43) lk (by decide))]
        simp (maxDischargeDepth := 30) only [gM wM, sM wM, h1, Option.bind_some, e2, lk, qlt, nI_1]
        rw [Nat.zero_add]
    obtain ⟨X1, a1, a2, a3, a4⟩ := e106
    have ea : ga X1 (m + 5) = ga X (m + 5) := ga_congr (a3 _ (by omega))
    have hB1 : BM X1 m w c sm ce po := hB.c (fun q _ => gi_congr (a3 m (by omega)) q) (a3 _ (by omega)) (a3 _ (by omega))
    obtain ⟨X3, b1, b2, b3, b4⟩ := isOrd136 (F := F) (X0 := X1) (mi := mi) wM hB1 hP (wi := wi) (by rw [ea]; exact hwi) hmi.2 hn h31 (by omega) n F 0 v 0 (fun k => ga X (m + 5) (11 + k)) (fun k => ga X (m + 5) (19 + k)) X1 (by omega) (by omega) (by rw [c1]; exact z1) hL a2 (fun _ _ => rfl) rfl rfl (by rw [ea]; exact hmi.1) (fun g hg => by rw [ea]; exact ⟨rfl, rfl⟩) hsa
    rw [c1, ea, show nI 0 = (0 : Int32) from rfl] at b1
    have hR : ∃ R : Int32, R = (if V2 (seB ce po w c wi sm (ga X (m + 5) 0) mi) (fun h => nI (ov ce w wi h)) (fun p => nI (mi + p)) n 0 (fun k => ga X (m + 5) (11 + k)) (fun k => ga X (m + 5) (19 + k)) cd = true then (1 : Int32) else 0) := ⟨_, rfl⟩
    obtain ⟨R, hR⟩ := hR
    rw [← hR] at b1 ⊢
    have hqz : qz R = some R := by rw [hR]; exact qz_ite _
    have e201 : ∃ X2, fX10_isOrder_L201 F m R F (0 : Int32) X3 = some X2 ∧ cpI X3 Y (m + 5) 0 (ga X3 (m + 16)) 43 X2 := by
      refine cpy (v0 := 0) (L := fX10_isOrder_L201 F m R) wM.p5 (fun t X2 h => ?_) (fun t k X2 hk h => ?_) b2 (by omega)
      · show fX10_isOrder_L201_B F m R (fX10_isOrder_L201 F m R t) (nI (0 + 43)) X2 = _
        unfold fX10_isOrder_L201_B
        rw [if_pos (show (43 : Int32) ≤ nI (0 + 43) by decide)]
      · show fX10_isOrder_L201_B F m R (fX10_isOrder_L201 F m R t) (nI (0 + k)) X2 = _
        unfold fX10_isOrder_L201_B
        obtain ⟨h1, h2, h3⟩ := h
        have e2 : ga X2 (m + 16) = ga X3 (m + 16) := ga_congr (h2 _ (by omega))
        have lk : 0 + k < 43 := by omega
        rw [if_neg (show ¬ (43 : Int32) ≤ nI (0 + k) from nI_ge (b := 43) lk (by decide))]
        simp (maxDischargeDepth := 30) only [gM wM, sM wM, h1, Option.bind_some, e2, lk, qlt, nI_1]
        rw [Nat.zero_add]
    obtain ⟨X2, d1, d2, d3, d4⟩ := e201
    refine ⟨X2, ?_, d2, fun q q1 q2 => (d3 q q1).trans ((b3 q q1).trans (a3 q q2)), ?_⟩
    · simp only [fX10_isOrder, gM wM, hX, n9, Option.bind_some, if_neg (show ¬ (1 : Int32) = 0 by decide), a1, b1, qb2, d1, hqz]
    · funext i
      rw [d4]
      by_cases z : i < 43
      · rw [if_pos (by omega), ga_congr (b3 (m + 16) (by omega)), a4, if_pos (by omega)]
        rfl
      · rw [if_neg (by omega), b4 i (by omega), ea]
  · rw [if_neg z1] at n9
    refine ⟨X, ?_, hX, fun _ _ _ => rfl, rfl⟩
    rw [b_nt z1, Bool.false_and]
    simp only [fX10_isOrder, gM wM, hX, n9, Option.bind_some, if_true]
    rfl
