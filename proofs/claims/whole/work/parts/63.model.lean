/-! bay: the model's numbers and stars -/
section RDM
variable {F : Nat} {X Y : qH} {m N p : Nat} {tx : Nat → Nat}
theorem MS.mono {S T : List Nat} {X X2 : qH} (h : MS S Y X m X2) (hs : ∀ k : Nat, k ∈ S → k ∈ T) : MS T Y X m X2 := ⟨h.1, h.2.1, fun k hk => h.2.2 k (fun y => hk (hs k y))⟩
theorem MS.trans {S : List Nat} {X X2 X3 : qH} (h : MS S Y X m X2) (h2 : MS S Y X2 m X3) : MS S Y X m X3 := ⟨h2.1, fun q hq => (h2.2.1 q hq).trans (h.2.1 q hq), fun k hk => (h2.2.2 k hk).trans (h.2.2 k hk)⟩
theorem m_fails (wM : YM Y m) (hX : shX X = Y) (k v : Int32) : fX10_fails F X m k v = some (k, pI X m 12 v) ∧ MS [12] Y X m (pI X m 12 v) ∧ gi (pI X m 12 v) m 12 = v := by
  refine ⟨?_, (MS.rfl' hX [12]).pI wM (by decide) (by simp only [kM wM, hX]) (fun j => by simp only [uM wM, hX]), by simp only [uM wM, hX, if_true]⟩
  simp only [fX10_fails, gM wM, sM wM, hX, Option.bind_some]
set_option maxHeartbeats 1000000 in
theorem m_num (wM : YM Y m) (hX : shX X = Y) (hT : MT X m N tx) (hp : gi X m 13 = nI p) (hpN : p ≤ N) {lo hi : Nat} (hlo : lo < 1000) (hhi : hi < 1000) (hF : 1000 ≤ F) : ∃ X2, fX10_takeNumber F X m (nI lo) (nI hi) = some (nI (nmF tx N lo hi p), X2) ∧ MS [12, 13, 14, 15] Y X m X2 ∧ (nmF tx N lo hi p = 0 → gi X2 m 12 = gi X m 12 ∧ gi X2 m 13 = nI (nmE tx N p) ∧ gi X2 m 14 = nI (nmV tx N p) ∧ gi X2 m 15 = nI (sk tx N p)) ∧ (nmF tx N lo hi p ≠ 0 → gi X2 m 12 = nI (sk tx N p)) := by
  obtain ⟨X2, k1, k2, k3⟩ := m_here (F := F) wM hX hT hp hpN hF
  have hsk := sk_in (tx := tx) _ p rfl hpN
  have hN := hT.2.1
  have hin := l_in F X2 (hvI tx N p) 48 57 (l := 48) (h := 57) rfl rfl
  have hT2 := hT.s k2 (by decide)
  have hle := rn_le (tx := tx) (N := N) (lo := 48) (hi := 57) _ (sk tx N p) rfl hsk.2.1
  unfold nmF
  by_cases z : sk tx N p < N ∧ 48 ≤ tx (sk tx N p) ∧ tx (sk tx N p) ≤ 57
  · have hr : ¬ rn tx N 48 57 (sk tx N p) = 0 := by rw [rn_step z]; omega
    have t2 := (hT2.2.2 _ z.1).2
    have hy : (48 : Int32) ≤ hvI tx N p ∧ hvI tx N p ≤ 57 := by
      unfold hvI
      rw [if_pos z.1]
      exact ⟨nI_le (a := 48) z.2.1 (by omega), nI_le (b := 57) z.2.2 (by omega)⟩
    have s1 := (k2.mono (T := [13, 14, 15]) (by decide)).pI wM (k := 15) (v := nI (sk tx N p)) (by decide) (by simp only [kM wM, k2.1]) (fun j => by simp only [uM wM, k2.1])
    have s2 := s1.pI wM (k := 14) (v := 0) (by decide) (by simp only [kM wM, s1.1]) (fun j => by simp only [uM wM, s1.1])
    obtain ⟨X5, m1, m2, m3, m4, m5⟩ := m_numL (F := F) (q := sk tx N p) (lo := nI lo) (hi := nI hi) wM hT F 0 _ s2 (by simp only [uM wM, s1.1, k2.1]; exact k3) (fun _ => by simp only [uM wM, s1.1, if_true]; rfl) (by simp only [uM wM, s1.1, k2.1]; rfl) hsk.2.1 (fun i hi => by omega) (by omega)
    rw [Nat.zero_add, show sk tx N p + 0 = sk tx N p from rfl] at m3 m4
    have esub : nI (sk tx N p + rn tx N 48 57 (sk tx N p)) - nI (sk tx N p) = nI (rn tx N 48 57 (sk tx N p)) := by
      rw [pk_sub (by omega), Nat.add_sub_cancel_left]
    have m2' := m2.mono (T := [12, 13, 14, 15]) (by decide)
    obtain ⟨f1, f2, f3⟩ := m_fails (F := F) wM m2.1 (2 : Int32) (nI (sk tx N p))
    have f2' := m2'.trans (f2.mono (T := [12, 13, 14, 15]) (by decide))
    rw [if_neg hr]
    by_cases z3 : rn tx N 48 57 (sk tx N p) ≤ 3
    · have e14 : gi X5 m 14 = nI (nmV tx N p) := m4 z3
      have hv : nmV tx N p < 1000 := by
        have := vl_lt (tx := tx) (p := sk tx N p) (rn tx N 48 57 (sk tx N p)) (fun i hi => (rn_all i _ hi).2)
        have h2 : 10 ^ rn tx N 48 57 (sk tx N p) ≤ 10 ^ 3 := Nat.pow_le_pow_right (by omega) z3
        unfold nmV
        omega
      have n3 : ¬ (3 : Int32) < nI (rn tx N 48 57 (sk tx N p)) := nI_nlt (a := 3) z3 (by omega)
      have hin2 := in_i F X5 (nI (nmV tx N p)) (nI lo) (nI hi)
      by_cases z4 : lo ≤ nmV tx N p ∧ nmV tx N p ≤ hi
      · rw [if_pos ⟨z3, z4⟩]
        refine ⟨X5, ?_, m2', fun _ => ⟨m2.2.2 12 (by decide), m3, e14, m5⟩, fun y => absurd rfl y⟩
        have hy2 : nI lo ≤ nI (nmV tx N p) ∧ nI (nmV tx N p) ≤ nI hi := ⟨nI_le z4.1 (by omega), nI_le z4.2 (by omega)⟩
        simp only [fX10_takeNumber, gM wM, sM wM, hX, k1, qb2, Option.bind_some, hin, if_pos hy, if_neg (show ¬ (1 : Int32) = 0 by decide), k2.1, k3, s1.1, m1, m2.1, m3, m5, esub, qlab, if_neg n3, e14, hin2, if_pos hy2]
        rfl
      · rw [if_neg (fun y => z4 y.2)]
        refine ⟨pI X5 m 12 (nI (sk tx N p)), ?_, f2', fun y => by omega, fun _ => f3⟩
        have hy2 : ¬ (nI lo ≤ nI (nmV tx N p) ∧ nI (nmV tx N p) ≤ nI hi) := fun y => z4 ⟨(nI_leI (by omega) (by omega)).mp y.1, (nI_leI (by omega) (by omega)).mp y.2⟩
        simp only [fX10_takeNumber, gM wM, sM wM, hX, k1, qb2, Option.bind_some, hin, if_pos hy, if_neg (show ¬ (1 : Int32) = 0 by decide), k2.1, k3, s1.1, m1, m2.1, m3, m5, esub, qlab, if_neg n3, e14, hin2, if_neg hy2, if_true, f1]
        rfl
    · rw [if_neg (fun y => z3 y.1)]
      refine ⟨pI X5 m 12 (nI (sk tx N p)), ?_, f2', fun y => by omega, fun _ => f3⟩
      have n3 : (3 : Int32) < nI (rn tx N 48 57 (sk tx N p)) := nI_lt (a := 3) (by omega) (by omega)
      simp only [fX10_takeNumber, gM wM, sM wM, hX, k1, qb2, Option.bind_some, hin, if_pos hy, if_neg (show ¬ (1 : Int32) = 0 by decide), k2.1, k3, s1.1, m1, m2.1, m3, m5, esub, qlab, if_pos n3, f1]
      rfl
  · rw [if_pos (rn_stop z)]
    obtain ⟨f1, f2, f3⟩ := m_fails (F := F) wM k2.1 (1 : Int32) (nI (sk tx N p))
    refine ⟨pI X2 m 12 (nI (sk tx N p)), ?_, (k2.mono (by decide)).trans (f2.mono (by decide)), fun y => by omega, fun _ => f3⟩
    have hy : ¬ ((48 : Int32) ≤ hvI tx N p ∧ hvI tx N p ≤ 57) := fun y => by
      unfold hvI at y
      by_cases z2 : sk tx N p < N
      · rw [if_pos z2] at y
        have t2 := (hT2.2.2 _ z2).2
        exact z ⟨z2, (nI_leI (a := 48) (by omega) (by omega)).mp y.1, (nI_leI (b := 57) (by omega) (by omega)).mp y.2⟩
      · rw [if_neg z2] at y
        exact absurd y.1 (by decide)
    simp only [fX10_takeNumber, gM wM, hX, k1, qb2, Option.bind_some, hin, if_neg hy, if_true, k2.1, k3, f1]
    rfl
/-- into: the number comes to a row -/
theorem m_into (wM : YM Y m) (hX : shX X = Y) {ar k : Nat} {fN : Nat} {X2 : qH} {lo hi : Int32} (hn : fX10_takeNumber F X m lo hi = some (nI fN, X2)) (h2 : shX X2 = Y) (hS : ∀ x : Int32, qaS X2 0 ar (nI k) x = some (pA X2 ar k x)) : fX10_into F X m ar (nI k) lo hi = some (nI fN, pA X2 ar k (gi X2 m 14)) := by
  simp only [fX10_into, gM wM, hX, hn, qb2, h2, Option.bind_some, hS]
theorem m_isStar (wM : YM Y m) (hX : shX X = Y) (hT : MT X m N tx) (hpN : p ≤ N) : fX10_isStar F X m (nI p) = some (if p < N ∧ 97 ≤ tx p ∧ tx p ≤ 101 then 1 else 0) := by
  obtain ⟨t11, t30, ht⟩ := hT
  by_cases z : p < N
  · obtain ⟨t1, t2⟩ := ht p z
    have l : p < 230 := by omega
    have hin := l_in F X (nI (tx p)) 97 101 (l := 97) (h := 101) rfl rfl
    by_cases z2 : 97 ≤ tx p ∧ tx p ≤ 101
    · have hy : (97 : Int32) ≤ nI (tx p) ∧ nI (tx p) ≤ 101 := ⟨nI_le (a := 97) z2.1 (by omega), nI_le (b := 101) z2.2 (by omega)⟩
      rw [if_pos ⟨z, z2⟩]
      simp only [fX10_isStar, gM wM, hX, t11, if_neg (nI_ge z (by omega)), Option.bind_some, l, t1, hin, if_pos hy, if_neg (show ¬ (1 : Int32) = 0 by decide), qz1]
    · have hy : ¬ ((97 : Int32) ≤ nI (tx p) ∧ nI (tx p) ≤ 101) := fun y => z2 ⟨(nI_leI (a := 97) (by omega) (by omega)).mp y.1, (nI_leI (b := 101) (by omega) (by omega)).mp y.2⟩
      rw [if_neg (fun y => z2 y.2)]
      simp only [fX10_isStar, gM wM, hX, t11, if_neg (nI_ge z (by omega)), Option.bind_some, l, t1, hin, if_neg hy, if_true, qz0]
  · rw [if_neg (fun y => z y.1)]
    simp only [fX10_isStar, gM wM, hX, t11, if_pos (nI_le (show N ≤ p by omega) (by omega)), Option.bind_some, qz0]
theorem YM.p11 {Y : qH} {m : Nat} (h : YM Y m) : Y (m + 11) = some (.inl (0, 8, .inl (fun _ => 0))) := h.2.2.2.2.2.2.2.2.2.2.2.1
theorem YM.p12 {Y : qH} {m : Nat} (h : YM Y m) : Y (m + 12) = some (.inl (0, 40, .inl (fun _ => 0))) := h.2.2.2.2.2.2.2.2.2.2.2.2.1
/-- behind j stars of house h -/
def SL (X0 Y : qH) (m h q : Nat) (tx : Nat → Nat) (j : Nat) (X : qH) : Prop := shX X = Y ∧ (∀ y : Nat, y ≠ m → y ≠ m + 11 → y ≠ m + 12 → X y = X0 y) ∧ (∀ k : Nat, k ≠ 13 → gi X m k = gi X0 m k) ∧ gi X m 13 = nI (q + j) ∧ (∀ i : Nat, ga X (m + 11) i = if i = h then nI j else ga X0 (m + 11) i) ∧ ∀ i : Nat, ga X (m + 12) i = if 5 * h ≤ i ∧ i < 5 * h + j then nI (sdF tx q (i - 5 * h)) else ga X0 (m + 12) i
theorem SL.T {X0 : qH} {h q j : Nat} (hS : SL X0 Y m h q tx j X) (hT : MT X0 m N tx) : MT X m N tx := by
  obtain ⟨a1, a2, a3⟩ := hT
  refine ⟨by rw [hS.2.2.1 11 (by omega)]; exact a1, a2, fun i hi => ?_⟩
  rw [ga_congr (hS.2.1 (m + 6) (by omega) (by omega) (by omega))]
  exact a3 i hi
set_option maxHeartbeats 1000000 in
theorem m_starsL (wM : YM Y m) {X0 : qH} {h q : Nat} {v3 : Int32} (hT : MT X0 m N tx) (hh : h < 8) : ∀ (n j : Nat) (X : qH), SL X0 Y m h q tx j X → q + j ≤ N → j ≤ 5 → N - (q + j) < n →
    (j + rn tx N 97 101 (q + j) ≤ 5 → ∃ X2, fX10_takeStars_L41 F m (nI h) v3 n X = some (.inr X2) ∧ SL X0 Y m h q tx (j + rn tx N 97 101 (q + j)) X2) ∧
    (6 ≤ j + rn tx N 97 101 (q + j) → ∃ X2, fX10_takeStars_L41 F m (nI h) v3 n X = some (.inl (1, pI X2 m 12 (nI (q + 5)))) ∧ SL X0 Y m h q tx 5 X2) := by
  intro n
  induction n with
  | zero => intro j X h1 h2 h3 hn; omega
  | succ n ih =>
    intro j X hS h2 h3 hn
    have hT1 := hS.T hT
    have hN := hT.2.1
    obtain ⟨s1, s2, s3, s4, s5, s6⟩ := id hS
    have st := m_isStar (F := F) wM s1 hT1 h2
    rw [show fX10_takeStars_L41 F m (nI h) v3 (n + 1) X = fX10_takeStars_L41_B F m (nI h) v3 (fX10_takeStars_L41 F m (nI h) v3 n) X from rfl]
    unfold fX10_takeStars_L41_B
    by_cases z : q + j < N ∧ 97 ≤ tx (q + j) ∧ tx (q + j) ≤ 101
    · rw [if_pos z] at st
      have er : rn tx N 97 101 (q + j) = rn tx N 97 101 (q + (j + 1)) + 1 := rn_step z
      have mj : ga X (m + 11) h = nI j := by rw [s5, if_pos rfl]
      by_cases z5 : j = 5
      · subst z5
        obtain ⟨f1, f2, f3⟩ := m_fails (F := F) wM s1 (1 : Int32) (nI (q + 5))
        refine ⟨fun y => by omega, fun _ => ⟨X, ?_, hS⟩⟩
        simp only [gM wM, s1, Option.bind_some, s4, st, if_neg (show ¬ (1 : Int32) = 0 by decide), hh, mj, if_pos (show nI 5 = (5 : Int32) from rfl), f1, qb2]
      · have n5 : ¬ nI j = (5 : Int32) := fun y => z5 ((nI_eq (b := 5) (by omega) (by omega)).mp y)
        obtain ⟨t1, t2⟩ := hT1.2.2 _ z.1
        have l : q + j < 230 := by omega
        have e5 : (5 : Int32) * nI h + nI j = nI (5 * h + j) := by rw [show (5 : Int32) = nI 5 from rfl, pk_mul, nI_add]
        have l40 : 5 * h + j < 40 := by omega
        have ev : nI (tx (q + j)) - (97 : Int32) + 1 = nI (sdF tx q j) := by
          rw [show (97 : Int32) = nI 97 from rfl, pk_sub (by omega), nI_1]
          congr 1
          unfold sdF
          omega
        have hXa : shX (pA X (m + 12) (5 * h + j) (nI (sdF tx q j))) = Y := shX_pA s1 wM.p12 _ _
        have hXb : shX (pA (pA X (m + 12) (5 * h + j) (nI (sdF tx q j))) (m + 11) h (nI (j + 1))) = Y := shX_pA hXa wM.p11 _ _
        have hXc : shX (pI (pA (pA X (m + 12) (5 * h + j) (nI (sdF tx q j))) (m + 11) h (nI (j + 1))) m 13 (nI (q + j + 1))) = Y := by simp only [kM wM, hXb]
        have mj2 : ga (pA X (m + 12) (5 * h + j) (nI (sdF tx q j))) (m + 11) h = nI j := by rw [ga_pA_ne (by omega)]; exact mj
        have hS2 : SL X0 Y m h q tx (j + 1) (pI (pA (pA X (m + 12) (5 * h + j) (nI (sdF tx q j))) (m + 11) h (nI (j + 1))) m 13 (nI (q + j + 1))) := by
          refine ⟨hXc, fun y y1 y2 y3 => (pV_ne y1).trans ((pA_ne y2).trans ((pA_ne y3).trans (s2 y y1 y2 y3))), fun k hk => ?_, ?_, fun i => ?_, fun i => ?_⟩
          · simp only [uM wM, hXb]
            rw [if_neg hk, gi_pA, gi_pA]
            exact s3 k hk
          · simp only [uM wM, hXb, if_true]
            rfl
          · rw [ga_pI, ga_pA_self hXa wM.p11, ga_pA_ne (by omega)]
            by_cases y : i = h
            · subst y; rw [upd_self, if_pos rfl]
            · rw [upd_ne _ y, if_neg y, s5, if_neg y]
          · rw [ga_pI, ga_pA_ne (by omega), ga_pA_self s1 wM.p12]
            by_cases y : i = 5 * h + j
            · subst y; rw [upd_self, if_pos (by omega), Nat.add_sub_cancel_left]
            · rw [upd_ne _ y, s6]
              by_cases y2 : 5 * h ≤ i ∧ i < 5 * h + j
              · rw [if_pos y2, if_pos (by omega)]
              · rw [if_neg y2, if_neg (by omega)]
        obtain ⟨i1, i2⟩ := ih (j + 1) _ hS2 (by omega) (by omega) (by omega)
        rw [er, show j + (rn tx N 97 101 (q + (j + 1)) + 1) = j + 1 + rn tx N 97 101 (q + (j + 1)) by omega]
        have e13 : gi (pA (pA X (m + 12) (5 * h + j) (nI (sdF tx q j))) (m + 11) h (nI (j + 1))) m 13 = nI (q + j) := by rw [gi_pA, gi_pA]; exact s4
        have ego : ∀ Z, fX10_takeStars_L41 F m (nI h) v3 n (pI (pA (pA X (m + 12) (5 * h + j) (nI (sdF tx q j))) (m + 11) h (nI (j + 1))) m 13 (nI (q + j + 1))) = Z → ((qgI X 9 m 13).bind fun v11 => (fX10_isStar F X m v11).bind fun v12 => if v12 = (0 : Int32) then (some (.inr X)) else ((qgR X 9 m 21).bind fun v13 => (qaI X 0 v13 (nI h)).bind fun v14 => if v14 = (5 : Int32) then ((qgI X 9 m 13).bind fun v15 => qb2 (fX10_fails F X m (1 : Int32) v15) fun v16 X17 => some (.inl (v16, X17))) else ((qgR X 9 m 22).bind fun v18 => (qgR X 9 m 21).bind fun v19 => (qaI X 0 v19 (nI h)).bind fun v20 => (qgR X 9 m 10).bind fun v21 => (qgI X 9 m 13).bind fun v22 => (qaI X 0 v21 v22).bind fun v23 => qlt ((v23 - (97 : Int32)) + (1 : Int32)) fun v24 => (qaS X 0 v18 (((5 : Int32) * (nI h)) + v20) v24).bind fun X25 => (qgR X25 9 m 21).bind fun v26 => (qaI X25 0 v26 (nI h)).bind fun v27 => qlt (v27 + (1 : Int32)) fun v28 => (qaS X25 0 v26 (nI h) v28).bind fun X29 => (qgI X29 9 m 13).bind fun v30 => qlt (v30 + (1 : Int32)) fun v31 => (qpI X29 9 m 13 v31).bind fun X32 => fX10_takeStars_L41 F m (nI h) v3 n X32))) = Z := fun Z hz => by
          simp only [gM wM, sM wM, s1, Option.bind_some, s4, st, if_neg (show ¬ (1 : Int32) = 0 by decide), hh, mj, if_neg n5, l, t1, ev, e5, l40, hXa, mj2, hXb, e13, qlt, nI_1]
          exact hz
        refine ⟨fun y => ?_, fun y => ?_⟩
        · obtain ⟨X2, k1, k2⟩ := i1 y
          exact ⟨X2, ego _ k1, k2⟩
        · obtain ⟨X2, k1, k2⟩ := i2 y
          exact ⟨X2, ego _ k1, k2⟩
    · rw [if_neg z] at st
      have er : rn tx N 97 101 (q + j) = 0 := rn_stop z
      rw [er, Nat.add_zero]
      refine ⟨fun _ => ⟨X, ?_, hS⟩, fun y => by omega⟩
      simp only [gM wM, s1, Option.bind_some, s4, st, if_true]
end RDM
