/-! bay -/
theorem PM.g {X X2 : qH} {m : Nat} {w fo wi cnt sm da : Nat} {hs hd : Bool} {ce po ro nn : Nat → Nat} {dd : Nat → Nat → Nat} (hM : PM X m w fo wi cnt sm da hs hd ce po ro nn dd) (h1 : ∀ q : Nat, q ≠ m → X2 q = X q) (h2 : ∀ k : Nat, k ≠ 11 → gi X2 m k = gi X m k) : PM X2 m w fo wi cnt sm da hs hd ce po ro nn dd := by
  obtain ⟨m0, m1, m2, mg⟩ := hM
  unfold PM
  rw [ga_congr (h1 (m + 7) (by omega)), ga_congr (h1 (m + 8) (by omega)), ga_congr (h1 (m + 9) (by omega)), ga_congr (h1 (m + 10) (by omega)), ga_congr (h1 (m + 11) (by omega)), ga_congr (h1 (m + 12) (by omega)), ga_congr (h1 (m + 13) (by omega)), ga_congr (h1 (m + 14) (by omega)), h2 17 (by omega), h2 25 (by omega), h2 26 (by omega)]
  exact ⟨m0, m1, m2, mg⟩
theorem YM.p26 {Y : qH} {m : Nat} (h : YM Y m) : Y (m + 26) = some (.inl (1, 2, .inl (fun _ => 0))) := h.2.2.2.2.2.2.2.2.2.2.2.2.2.2.2.2.2.2.2.2.2.2.2.2.2.2
theorem m26s {Y : qH} {m : Nat} (h : YM Y m) : (∀ X : qH, shX X = Y → qaZ X (m + 26) (0 : Int32) (0 : Int32) = some (pA X (m + 26) 0 0)) ∧ (∀ X : qH, shX X = Y → qaZ X (m + 26) (1 : Int32) (0 : Int32) = some (pA X (m + 26) 1 0)) :=
  ⟨fun X hX => qaZ_Y hX h.p26 (by decide) (j := 0) (by decide) (Or.inl rfl), fun X hX => qaZ_Y hX h.p26 (by decide) (j := 1) (by decide) (Or.inl rfl)⟩
set_option maxHeartbeats 4000000 in
theorem op_bay {F : Nat} {X : qH} {sz : Nat} (hI : Inv X sz) (hF : 300000 ≤ F) : Op sz (fun X => fX9_bay F X sz) (fun X => fX10_bay F X (sz + 151)) X := by
  obtain ⟨hW, hRl⟩ := id hI
  obtain ⟨rT, rF, rS, rB, rN, rP, rI, rD, rK⟩ := id hRl
  generalize hX : shX X = Y at hW
  obtain ⟨w9, wB2, wB7, w6, wN, wP, -, -, -, w2, w1, wM⟩ := id hW
  obtain ⟨N, hN, n9, nM, ntx⟩ := id rT
  obtain ⟨b0, w', c', ce', po', n', d', ⟨g3, g4⟩, h0, h5, hsm, hda, hg, hi1, hi2⟩ := id rB
  obtain ⟨tx, htx⟩ : ∃ tx : Nat → Nat, ∀ i : Nat, i < N → ga X (sz + 1) i = nI (tx i) ∧ tx i ≤ 255 := by
    have h' : ∀ i : Nat, ∃ c : Nat, i < N → ga X (sz + 1) i = nI c ∧ c ≤ 255 := fun i => by
      by_cases hi : i < N
      · obtain ⟨-, c, c1, c2⟩ := ntx i hi
        exact ⟨c, fun _ => ⟨c2, c1⟩⟩
      · exact ⟨0, fun y => absurd y hi⟩
    exact Classical.skolem.mp h'
  obtain ⟨b, hb4, wB, hb, hbb⟩ : ∃ b, gr X sz 4 = b ∧ YB Y b ∧ (sz + 2 ≤ b ∧ b + 5 ≤ sz + 12) ∧ ((b0 = sz + 2 ∧ b = sz + 7) ∨ (b0 = sz + 7 ∧ b = sz + 2)) := by
    rcases g4 with ⟨y1, y2⟩ | ⟨y1, y2⟩
    · exact ⟨sz + 7, y2, wB7, by omega, Or.inl ⟨y1, rfl⟩⟩
    · exact ⟨sz + 2, y2, wB2, by omega, Or.inr ⟨y1, rfl⟩⟩
  have hT0 : MT X (sz + 151) N tx := ⟨nM, hN, fun i hi => by rw [← (ntx i hi).1]; exact htx i hi⟩
  obtain ⟨Xc2, Xm0, f, r1, -, r3, r4, -, -, r7, r8⟩ := bay_read (F := F) hW wB hb (by omega) hX hX hN htx hT0
  have fsz : Xc2 sz = X sz := r4 sz (by omega) (by omega)
  by_cases hf : f = 0
  · subst hf
    obtain ⟨cn, e5, hcn⟩ : ∃ cn : Nat, gi Xc2 b 5 = nI cn ∧ cn ≤ 8 := by
      rcases r8 with ⟨-, ⟨w, fo, wi, cnt, sm, da, hs, hd, ce, po, ro, nn, dd, hP, hC, -⟩, -⟩ | ⟨y, -⟩
      · exact ⟨cnt, hC.1.2.2.2.2.2, hP.1.2.2.2.1⟩
      · omega
    obtain ⟨X1, c1, c2, c3, c4, ⟨c5, c6⟩, ⟨c7, c8⟩, ⟨c9, c10⟩, c11, c12, c13, ⟨c14, c15, c16, c17⟩, c18⟩ := c_rest (F := F) (b0 := b0) hW wB hb hX r3 n9 hb4 r1 (by rw [gr_congr fsz]; exact g3) (by rw [gr_congr fsz]; exact hb4) e5 hcn (by omega)
    have f1 : ∀ q : Nat, sz + 151 ≤ q → X1 q = X q := fun q hq => (c3 q (by omega) (by omega) (by omega) (by omega) (by omega) (by omega)).trans (r4 q (by omega) (by omega))
    have hT1 : MT X1 (sz + 151) N tx := ⟨by rw [gi_congr (f1 _ (by omega))]; exact nM, hN, fun i hi => by rw [ga_congr (f1 _ (by omega))]; exact hT0.2.2 i hi⟩
    obtain ⟨Xc3, Xm, f', s1, s2, s3, s4, s5, s6, s7, s8⟩ := bay_read (F := F) hW wB hb (by omega) hX c2 hN htx hT1
    rw [r1] at s1
    have inj := Prod.mk.inj (Option.some.inj s1)
    have hf' : f' = 0 := ((nI_eq (by omega) (by omega)).mp inj.1).symm
    have hXc := inj.2
    subst hf'
    subst hXc
    rcases s8 with ⟨-, ⟨w, fo, wi, cnt, sm, da, hs, hd, ce, po, ro, nn, dd, hP, hC, hM⟩, s12⟩ | ⟨y, -⟩
    · have hcc : cn = cnt := (nI_eq (by omega) (by have := hP.1.2.2.2.1; omega)).mp (e5.symm.trans hC.1.2.2.2.2.2)
      subst hcc
      obtain ⟨⟨pw, pf, pwi, pc, psm, pda⟩, pz, pn1, phs, phg, phi, phj⟩ := id hP
      obtain ⟨⟨a0, a1, a2, a3, a4, a5⟩, -, a8⟩ := id hC
      have k20 : shX (pI Xm (sz + 151) 11 0) = Y := by simp only [kM wM, s5]
      have g20 : ∀ j : Nat, gi (pI Xm (sz + 151) 11 0) (sz + 151) j = if j = 11 then 0 else gi Xm (sz + 151) j := fun j => by simp only [uM wM, s5]
      have f20 : ∀ q : Nat, q ≠ sz + 151 → pI Xm (sz + 151) 11 0 q = Xm q := fun q hq => pV_ne hq
      have hM20 := hM.g (X2 := pI Xm (sz + 151) 11 0) f20 (fun k hk => by rw [g20, if_neg hk])
      obtain ⟨X21, t1, t2, t3, t4, ⟨t5, t6, t7, t8⟩, t9, t10⟩ := m_take (F := F) wM k20 hM20 hP (by omega)
      have k22 : shX (pI X21 (sz + 151) 33 0) = Y := by simp only [kM wM, t2]
      have k23 : shX (pI (pI X21 (sz + 151) 33 0) (sz + 151) 36 0) = Y := by simp only [kM wM, k22]
      have k24 : shX (pI (pI (pI X21 (sz + 151) 33 0) (sz + 151) 36 0) (sz + 151) 27 0) = Y := by simp only [kM wM, k23]
      have k26 : shX (pA (pI (pI (pI X21 (sz + 151) 33 0) (sz + 151) 36 0) (sz + 151) 27 0) (sz + 151 + 26) 0 0) = Y := shX_pA k24 wM.p26 _ _
      have k28 : shX (pA (pA (pI (pI (pI X21 (sz + 151) 33 0) (sz + 151) 36 0) (sz + 151) 27 0) (sz + 151 + 26) 0 0) (sz + 151 + 26) 1 0) = Y := shX_pA k26 wM.p26 _ _
      have gz : ∀ j : Nat, gi (pA (pA (pI (pI (pI X21 (sz + 151) 33 0) (sz + 151) 36 0) (sz + 151) 27 0) (sz + 151 + 26) 0 0) (sz + 151 + 26) 1 0) (sz + 151) j = if j = 27 then 0 else if j = 36 then 0 else if j = 33 then 0 else gi X21 (sz + 151) j := fun j => by
        rw [gi_pA, gi_pA]
        simp only [uM wM, k23, k22, t2]
      have fz : ∀ q : Nat, q ≠ sz + 151 → q ≠ sz + 151 + 26 → pA (pA (pI (pI (pI X21 (sz + 151) 33 0) (sz + 151) 36 0) (sz + 151) 27 0) (sz + 151 + 26) 0 0) (sz + 151 + 26) 1 0 q = X21 q := fun q h1 h2 => (pA_ne h2).trans ((pA_ne h2).trans ((pV_ne h1).trans ((pV_ne h1).trans (pV_ne h1))))
      have az : ∀ i : Nat, i < 2 → ga (pA (pA (pI (pI (pI X21 (sz + 151) 33 0) (sz + 151) 36 0) (sz + 151) 27 0) (sz + 151 + 26) 0 0) (sz + 151 + 26) 1 0) (sz + 151 + 26) i = 0 := fun i hi => by
        rw [ga_pA_self k26 wM.p26, ga_pA_self k24 wM.p26, upd_if, upd_if]
        by_cases y : i = 1
        · rw [if_pos y]
        · rw [if_neg y, if_pos (by omega)]
      have hbay : fX10_bay F X1 (sz + 151) = some (nI cn, pA (pA (pI (pI (pI X21 (sz + 151) 33 0) (sz + 151) 36 0) (sz + 151) 27 0) (sz + 151 + 26) 0 0) (sz + 151 + 26) 1 0) := by
        rw [s2]
        have g1' := gz 1
        rw [if_neg (by omega), if_neg (by omega), if_neg (by omega), t6] at g1'
        simp only [gM wM, sM wM, m26s wM, s5, k20, t1, t2, k22, k23, k24, k26, k28, Option.bind_some, if_pos (show nI 0 ≤ (0 : Int32) by decide), g1']
      generalize pA (pA (pI (pI (pI X21 (sz + 151) 33 0) (sz + 151) 36 0) (sz + 151) 27 0) (sz + 151 + 26) 0 0) (sz + 151 + 26) 1 0 = Z at k28 gz fz az hbay
      have fl : ∀ q : Nat, q < sz + 151 → Z q = X1 q := fun q hq => (fz q (by omega) (by omega)).trans ((t3 q (by omega)).trans ((f20 q (by omega)).trans (s6.1 q (by omega) (by omega))))
      have fb : ∀ q : Nat, b ≤ q → q < b + 5 → Z q = Xc2 q := fun q h1 h2 => (fl q (by omega)).trans (c3 q (by omega) (by omega) (by omega) (by omega) (by omega) (by omega))
      have gk : ∀ j : Nat, j ≠ 0 → j ≠ 1 → j ≠ 6 → j ≠ 7 → j ≠ 27 → j ≠ 36 → j ≠ 33 → gi Z (sz + 151) j = if j = 11 then 0 else gi Xm (sz + 151) j := fun j n0 n1 n6 n7 n27 n36 n33 => by
        rw [gz, if_neg n27, if_neg n36, if_neg n33, t4 j n0 n1 n6 n7, g20]
      have gsz : ∀ k : Nat, gi Z sz k = gi X1 sz k := fun k => gi_congr (fl sz (by omega)) k
      have rsz : ∀ k : Nat, gr Z sz k = gr X1 sz k := fun k => gr_congr (fl sz (by omega)) k
      have gb : ∀ k : Nat, gi Z b k = gi Xc2 b k := fun k => gi_congr (fb b (by omega) (by omega)) k
      have ab : ∀ j : Nat, 1 ≤ j → j ≤ 4 → ga Z (b + j) = ga Xc2 (b + j) := fun j j1 j2 => ga_congr (fb _ (by omega) (by omega))
      have am : ∀ j : Nat, 1 ≤ j → j ≤ 5 → ga Z (sz + 151 + j) = ga X21 (sz + 151 + j) := fun j j1 j2 => ga_congr (fz _ (by omega) (by omega))
      have m0 : gi Z (sz + 151) 0 = nI w := by rw [gz]; exact t5
      have m1 : gi Z (sz + 151) 1 = nI cn := by rw [gz]; exact t6
      have m6 : gi Z (sz + 151) 6 = nI sm := by rw [gz]; exact t7
      have m7' : gi Z (sz + 151) 7 = nI da := by rw [gz]; exact t8
      have row : ∀ i : Nat, i < 43 → ga Z (sz + 151 + 5) i = if i = 0 then nI fo else if i = 1 then (if w = 0 then 0 else nI wi - 5) else if 3 ≤ i ∧ i < 27 then T121 cn ro i else 0 := fun i hi => by rw [am 5 (by omega) (by omega)]; exact t9 i hi
      have rz : ∀ i : Nat, 27 ≤ i → i < 43 → ga Z (sz + 151 + 5) i = 0 := fun i h1 h2 => by rw [row i h2, if_neg (by omega), if_neg (by omega), if_neg (by omega)]
      have rr : ∀ h : Nat, h < cn → ga Z (sz + 151 + 5) (3 + h) = nI (ro h) := fun h hh => by
        rw [row _ (by omega), if_neg (by omega), if_neg (by omega), if_pos (by omega)]
        unfold T121
        rw [if_pos (by omega), Nat.add_sub_cancel_left, if_pos hh]
      have rm : ∀ i : Nat, 11 ≤ i → i < 27 → ga Z (sz + 151 + 5) i = -1 := fun i h1 h2 => by
        rw [row i (by omega), if_neg (by omega), if_neg (by omega), if_pos (by omega)]
        unfold T121
        rw [if_neg (by omega)]
      have r0 : ga Z (sz + 151 + 5) 0 = nI fo := by rw [row 0 (by omega)]; rfl
      have r1' : ga Z (sz + 151 + 5) 1 = if w = 0 then 0 else nI wi - 5 := by rw [row 1 (by omega)]; rfl
      have r2' : ga Z (sz + 151 + 5) 2 = 0 := by rw [row 2 (by omega)]; rfl
      refine ⟨nI cn, X1, Z, c1, hbay, by rw [k28]; exact hW, ?_, ?_, ?_, ?_, ?_, ?_, ?_, ?_, ?_⟩
      · exact ⟨0, by omega, by rw [gsz, c5]; rfl, by rw [gk 11 (by omega) (by omega) (by omega) (by omega) (by omega) (by omega) (by omega)]; rfl, fun i hi => by omega⟩
      · show gi Z sz 2 = gi Z (sz + 151) 12
        rw [gsz, c6, gk 12 (by omega) (by omega) (by omega) (by omega) (by omega) (by omega) (by omega), if_neg (by omega), s12]
      · show gi Z sz 5 = gi Z (sz + 151) 9 ∧ 0 ≤ gi Z sz 5
        rw [gsz, c4 5 (by omega) (by omega) (by omega) (by omega), gi_congr fsz, gk 9 (by omega) (by omega) (by omega) (by omega) (by omega) (by omega) (by omega), if_neg (by omega), s6.2 9 (by decide), gi_congr (f1 (sz + 151) (by omega))]
        exact rS
      · refine ⟨b, w, cn, ce, po, nn, dd, ⟨by rw [rsz]; exact c7, ?_⟩, ⟨by rw [gb]; exact a0, m0, pw⟩, ⟨by rw [gb]; exact a5, m1, pc, fun y => (pz y).1⟩, ⟨sm, psm, by rw [gb]; exact a3, m6⟩, ⟨da, pda, by rw [gb]; exact a4, m7'⟩, fun h hh => ?_, phi, phj⟩
        · rw [rsz, c8]
          omega
        · obtain ⟨u1, u2, u3, u4⟩ := a8 h hh
          obtain ⟨v1, v2, v3, v4⟩ := t10 h hh
          obtain ⟨x1, x2, x3, x4, x5⟩ := phg h hh
          rw [ab 1 (by omega) (by omega), ab 2 (by omega) (by omega), ab 4 (by omega) (by omega), am 1 (by omega) (by omega), am 2 (by omega) (by omega), am 3 (by omega) (by omega), am 4 (by omega) (by omega)]
          exact ⟨⟨u1, v1, x1⟩, ⟨u2, v2, x2⟩, ⟨v3, x4.1, x4.2, u4⟩, fun k hk => ⟨v4 k hk, x5 k hk⟩⟩
      · have gn : ∀ k : Nat, gi Z (sz + 14) k = gi X1 (sz + 14) k := fun k => gi_congr (fl _ (by omega)) k
        have an : ∀ j : Nat, 15 ≤ j → j ≤ 18 → ga Z (sz + j) = ga X1 (sz + j) := fun j j1 j2 => ga_congr (fl _ (by omega))
        refine ⟨cn, pc, m1, ⟨?_, ?_, ?_, fun h hh => ?_, ?_⟩, ?_, ?_, ?_, fun h hh => ?_⟩
        · dsimp only
          rw [gn, c14, r2']
        · dsimp only
          rw [gn, c15, r0]; exact a1
        · dsimp only
          rw [gn, c16, r1']; exact a2
        · have q := c18 h (by omega)
          refine ⟨?_, ?_, ?_, ?_⟩
          · show ga Z (sz + 15) h = ga Z (sz + 151 + 5) (3 + h)
            rw [an 15 (by omega) (by omega), q.1, if_pos hh, rr h hh]; exact (a8 h hh).2.2.1
          · show ga Z (sz + 16) h = ga Z (sz + 151 + 5) (11 + h)
            rw [an 16 (by omega) (by omega), q.2.1, rm _ (by omega) (by omega)]
          · show ga Z (sz + 17) h = ga Z (sz + 151 + 5) (19 + h)
            rw [an 17 (by omega) (by omega), q.2.2.1, rm _ (by omega) (by omega)]
          · show ga Z (sz + 18) h = ga Z (sz + 151 + 5) (27 + h)
            rw [an 18 (by omega) (by omega), q.2.2.2, rz _ (by omega) (by omega)]
        · rw [gn, c17]
          refine ⟨fun p q hp hq => ?_, fun i _ => tb0 i, fun p q hp _ => ?_⟩
          · dsimp only
            rw [rz (35 + p) (by omega) (by omega), rz (35 + q) (by omega) (by omega)]
            exact ⟨⟨fun y => absurd y (tb0 _), fun y => absurd y (tb0 _)⟩, ⟨fun y => absurd y (tb0 _), fun y => absurd y (tb0 _)⟩⟩
          · dsimp only
            rw [rz (35 + p) (by omega) (by omega)]
            exact tb0 _
        · exact ⟨0, by omega, r2'⟩
        · exact ⟨fo, pf, r0⟩
        · by_cases y : w = 0
          · exact ⟨5, by omega, by dsimp only; rw [r1', if_pos y]; rfl⟩
          · exact ⟨wi, pwi, by dsimp only; rw [r1', if_neg y]⟩
        · exact ⟨⟨ro h, (phg h hh).2.2.1, rr h hh⟩, Or.inl (rm _ (by omega) (by omega)), Or.inl (rm _ (by omega) (by omega))⟩
      · exact ⟨cn, 0, 0, pc, m1, by omega, by omega, by rw [gi_congr (fl _ (by omega))]; exact c10, by rw [gi_congr (fl _ (by omega))]; exact c9, by rw [gz]; rfl, fun j hj => by omega⟩
      · refine ⟨cn, pc, m1, fun i hi => ?_⟩
        have q1 : ga Z (sz + 132) i = 0 := by rw [ga_congr (fl _ (by omega))]; exact c11 i hi
        exact ⟨by rw [q1, az i hi], Or.inl q1⟩
      · exact ⟨0, by omega, by rw [gi_congr (fl _ (by omega))]; exact c12, by rw [gz]; rfl, fun i hi => by omega⟩
      · exact ⟨0, cn, by omega, pc, m1, by rw [gi_congr (fl _ (by omega))]; exact c13, by rw [gz]; rfl, fun i hi => by omega⟩
    · omega
  · have hf0 : 0 < f := by omega
    have hnz := nI_ne0 hf0 (show f < 2 ^ 31 by omega)
    obtain ⟨fp, e5, -⟩ : ∃ fp : Nat, gi Xc2 (sz + 12) 5 = nI fp ∧ True := by
      rcases r8 with ⟨y, -⟩ | ⟨-, fp, y, -⟩
      · omega
      · exact ⟨fp, y, trivial⟩
    have k7 : shX (pI Xc2 sz 1 0) = Y := by simp only [k9 w9, r3]
    have k8 : shX (pI (pI Xc2 sz 1 0) sz 2 (nI fp)) = Y := by simp only [k9 w9, k7]
    have g7 : gi (pI Xc2 sz 1 0) (sz + 12) 5 = nI fp := by rw [gi_pI_ne (by omega)]; exact e5
    have c1 : fX9_bay F X sz = some ((-10 : Int32) - nI f, pI (pI Xc2 sz 1 0) sz 2 (nI fp)) := by
      simp only [fX9_bay, g9 w9, s9 w9, g6 w6, hX, Option.bind_some, n9, hb4, r1, qb2, r3, if_neg hnz, k7, g7]
    have gs : ∀ k : Nat, gi (pI (pI Xc2 sz 1 0) sz 2 (nI fp)) sz k = if k = 2 then nI fp else if k = 1 then 0 else gi X sz k := fun k => by
      simp only [u9 w9, k7, r3]
      rw [gi_congr fsz]
    have rs : ∀ k : Nat, k ≠ 1 → k ≠ 2 → gr (pI (pI Xc2 sz 1 0) sz 2 (nI fp)) sz k = gr X sz k := fun k n1 n2 => by
      rw [gr_pI _ _ _ n2, gr_pI _ _ _ n1, gr_congr fsz]
    have f1 : ∀ q : Nat, q ≠ sz → q ≠ sz + 12 → q < b ∨ b + 5 ≤ q → pI (pI Xc2 sz 1 0) sz 2 (nI fp) q = X q := fun q h1 h2 h3 => (pV_ne h1).trans ((pV_ne h1).trans (r4 q h2 h3))
    generalize pI (pI Xc2 sz 1 0) sz 2 (nI fp) = X1 at k8 c1 gs rs f1
    have hT1 : MT X1 (sz + 151) N tx := ⟨by rw [gi_congr (f1 _ (by omega) (by omega) (by omega))]; exact nM, hN, fun i hi => by rw [ga_congr (f1 _ (by omega) (by omega) (by omega))]; exact hT0.2.2 i hi⟩
    obtain ⟨Xc3, Xm, f', s1, s2, s3, s4, s5, s6, s7, s8⟩ := bay_read (F := F) hW wB hb (by omega) hX k8 hN htx hT1
    rw [r1] at s1
    have inj := Prod.mk.inj (Option.some.inj s1)
    have hf' : f = f' := (nI_eq (by omega) (by omega)).mp inj.1
    have hXc := inj.2
    subst hf'
    subst hXc
    rcases s8 with ⟨y, -⟩ | ⟨-, fp', s9', s12⟩
    · omega
    · have hfp : nI fp = nI fp' := e5.symm.trans s9'
      rw [← hfp] at s12
      have k20 : shX (pI Xm (sz + 151) 11 0) = Y := by simp only [kM wM, s5]
      have g20 : ∀ j : Nat, gi (pI Xm (sz + 151) 11 0) (sz + 151) j = if j = 11 then 0 else gi Xm (sz + 151) j := fun j => by simp only [uM wM, s5]
      have f20 : ∀ q : Nat, q ≠ sz + 151 → pI Xm (sz + 151) 11 0 q = Xm q := fun q hq => pV_ne hq
      have hbay : fX10_bay F X1 (sz + 151) = some ((-10 : Int32) - nI f, pI Xm (sz + 151) 11 0) := by
        rw [s2]
        simp only [sM wM, s5, Option.bind_some, if_neg (nI_nle hf0 (show f < 2 ^ 31 by omega))]
      generalize pI Xm (sz + 151) 11 0 = Z at k20 g20 f20 hbay
      have fz : ∀ q : Nat, q ≠ sz + 151 → q < sz + 158 ∨ sz + 166 ≤ q → Z q = X1 q := fun q h1 h2 => (f20 q h1).trans (s6.1 q h1 (by omega))
      have gsz : ∀ k : Nat, gi Z sz k = gi X1 sz k := fun k => gi_congr (fz sz (by omega) (by omega)) k
      have rsz : ∀ k : Nat, gr Z sz k = gr X1 sz k := fun k => gr_congr (fz sz (by omega) (by omega)) k
      have gm : ∀ k : Nat, k ∉ [11, 12, 13, 14, 15, 17, 25, 26] → gi Z (sz + 151) k = gi X (sz + 151) k := fun k hk => by
        simp only [List.mem_cons, List.not_mem_nil, or_false, not_or] at hk
        obtain ⟨h11, hk⟩ := hk
        rw [g20, if_neg h11, s6.2 k (by simp only [List.mem_cons, List.not_mem_nil, or_false, not_or]; exact hk), gi_congr (f1 (sz + 151) (by omega) (by omega) (by omega))]
      have K := keep (X := X) (X2 := Z) (sz := sz) [2, 3, 4, 5, 6, 7, 8, 9, 10, 11, 12, 158, 159, 160, 161, 162, 163, 164, 165] [1, 2] [11, 12, 13, 14, 15, 17, 25, 26] hRl (fun o h1 h2 h3 => by
        simp only [List.mem_cons, List.not_mem_nil, or_false, not_or] at h1
        exact (fz _ (by omega) (by omega)).trans (f1 _ (by omega) (by omega) (by omega))) (fun k hk => by
        simp only [List.mem_cons, List.not_mem_nil, or_false, not_or] at hk
        rw [gsz, gs, if_neg hk.2, if_neg hk.1]) (fun k hk => by
        simp only [List.mem_cons, List.not_mem_nil, or_false, not_or] at hk
        rw [rsz, rs k hk.1 hk.2]) gm
      obtain ⟨-, -, K3, -, K5, K6, K7, K8, K9⟩ := K
      refine ⟨(-10 : Int32) - nI f, X1, Z, c1, hbay, by rw [k20]; exact hW, ?_, ?_, K3 (by decide), ?_, K5 (by decide), K6 (by decide), K7 (by decide), K8 (by decide), K9 (by decide)⟩
      · exact ⟨0, by omega, by rw [gsz, gs]; rfl, by rw [g20]; rfl, fun i hi => by omega⟩
      · show gi Z sz 2 = gi Z (sz + 151) 12
        rw [gsz, gs, if_pos rfl, g20, if_neg (by omega), s12]
      · have eb : ∀ k : Nat, gi Z b0 k = gi X b0 k := fun k => gi_congr ((fz b0 (by omega) (by omega)).trans (f1 b0 (by omega) (by omega) (by omega))) k
        have ea : ∀ j : Nat, 1 ≤ j → j ≤ 4 → ga Z (b0 + j) = ga X (b0 + j) := fun j _ _ => ga_congr ((fz _ (by omega) (by omega)).trans (f1 _ (by omega) (by omega) (by omega)))
        have em : ∀ j : Nat, 1 ≤ j → j ≤ 4 → ga Z (sz + 151 + j) = ga X (sz + 151 + j) := fun j _ _ => ga_congr ((fz _ (by omega) (by omega)).trans (f1 _ (by omega) (by omega) (by omega)))
        refine ⟨b0, w', c', ce', po', n', d', ⟨by rw [rsz, rs 3 (by omega) (by omega)]; exact g3, by rw [rsz, rs 4 (by omega) (by omega)]; exact g4⟩, by rw [eb, gm 0 (by decide)]; exact h0, by rw [eb, gm 1 (by decide)]; exact h5, by rw [eb, gm 6 (by decide)]; exact hsm, by rw [eb, gm 7 (by decide)]; exact hda, fun h hh => ?_, hi1, hi2⟩
        rw [ea 1 (by omega) (by omega), ea 2 (by omega) (by omega), ea 4 (by omega) (by omega), em 1 (by omega) (by omega), em 2 (by omega) (by omega), em 3 (by omega) (by omega), em 4 (by omega) (by omega)]
        exact hg h hh
