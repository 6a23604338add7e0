/-! viewers against seers; sees -/
theorem hdF_congr {P Q : Nat → Bool} : ∀ c : Nat, (∀ g : Nat, g < c → P g = Q g) → hdF P c = hdF Q c := by
  intro c
  induction c with
  | zero => intro _; rfl
  | succ c ih => intro h; simp only [hdF, ih (fun g hg => h g (by omega)), h c (by omega)]
/-- what a house's rocket, lit now, would be seen by: the class's Night at a, the model's now -/
theorem view_eq {F : Nat} {X Y : qH} {sz a b w c : Nat} {ce po nn : Nat → Nat} {dd : Nat → Nat → Nat} (hX : shX X = Y) (wN : YN Y a) (wB : YB Y b) (wM : YM Y (sz + 151)) (hb : IBc X sz b w c ce po nn dd) (hn : NR X a (fun k => ga X (sz + 151 + 5) k) c) (hg : GI (fun k => ga X (sz + 151 + 5) k) c) (hF : 10 ≤ F) {h : Nat} (hh : h < c) :
    ∃ (V : Int32) (o : Nat), o < 30 ∧ fX3_cellOver F X a b (nI h) = some (nI o) ∧ fX10_overOf F X (sz + 151) (nI h) = some (nI o) ∧ fX3_viewers F X a b (nI h) = some V ∧ fX10_seers F X (sz + 151) (nI h) = some V := by
  obtain ⟨⟨b3, -⟩, ⟨bw, mw, hw30⟩, ⟨bc, mc, c8, hw0⟩, ⟨sm, hsm, bs, ms⟩, -, hs, -⟩ := hb
  obtain ⟨n0, n1, n2, n3, -⟩ := hn
  obtain ⟨-, -, ⟨wi, hwi, g1⟩, g4⟩ := hg
  dsimp only at n0 n1 n2 n3 g1 g4
  have hw1 : 1 ≤ w := by
    rcases Nat.eq_zero_or_pos w with q | q
    · have := hw0 q; omega
    · exact q
  have l8 : h < 8 := by omega
  have cb : ∀ g : Nat, g < c → ga X (b + 1) g = nI (ce g) ∧ ce g < 30 := fun g hg => ⟨(hs g hg).1.1, by have := (hs g hg).1.2.2; omega⟩
  have cm : ∀ g : Nat, g < c → ga X (sz + 151 + 1) g = nI (ce g) ∧ ce g < 30 := fun g hg => ⟨(hs g hg).1.2.1, by have := (hs g hg).1.2.2; omega⟩
  have ov1 := cellOver_ok (F := F) (wi := wi) hX wN wB l8 ⟨hw1, hw30, bw⟩ (cb h hh) ⟨by rw [n2]; exact g1, hwi⟩
  have ov2 := overOf_ok (F := F) (wi := wi) hX wM l8 ⟨hw1, hw30, mw⟩ (cm h hh) ⟨g1, hwi⟩
  have ho : ov ce w wi h < 30 := by have := ov_lt (ce := ce) (wi := wi) (h := h) hw1; omega
  generalize ov ce w wi h = o at ov1 ov2 ho
  have r1 := reach_c (F := F) hX wN wB l8
  have r2 := reach_m (F := F) hX wM l8
  have hRR : ga X (b + 2) h + 3 - gi X a 1 / 2 = ga X (sz + 151 + 2) h + 3 - ga X (sz + 151 + 5) 0 / 2 := by
    rw [(hs h hh).2.1.1, (hs h hh).2.1.2.1, n1]
  rw [hRR] at r1
  generalize ga X (sz + 151 + 2) h + 3 - ga X (sz + 151 + 5) 0 / 2 = R at r1 r2
  have i1 := inReach_L (F := F) (R := R) hX wB bc c8 cb l8 ho F 0 (by omega) (by omega)
  have i2 := seers_L (F := F) hX wM mc c8 cm l8 ho r2 F 0 (by omega) (by omega)
  rw [show irF ce R o h 0 = 0 from rfl, show nI 0 = (0 : Int32) from rfl] at i1 i2
  have d1 := hidden_ok (F := F) hX wN wB bc bs c8 l8 ov1 hF
  have d2 := isHidden_ok (F := F) (o := o) hX wM mc ms c8 l8 (fun g hg => by
    rcases (g4 g hg).2.1 with q | ⟨t, ht, q⟩
    · exact Or.inl q
    · exact Or.inr (by rw [q]; exact nI_pos (by omega))) hF
  have hc : hdF (hdP (ga X (a + 2)) (ga X (a + 3)) (gi X a 0) (nI sm) o h) c = hdF (hdP (fun k => ga X (sz + 151 + 5) (11 + k)) (fun k => ga X (sz + 151 + 5) (19 + k)) (ga X (sz + 151 + 5) 2) (nI sm) o h) c := hdF_congr c (fun g hg => by
    unfold hdP
    rw [(n3 g hg).2.1, (n3 g hg).2.2.1, n0])
  rw [hc] at d1
  generalize hdF (hdP (fun k => ga X (sz + 151 + 5) (11 + k)) (fun k => ga X (sz + 151 + 5) (19 + k)) (ga X (sz + 151 + 5) 2) (nI sm) o h) c = hid at d1 d2
  have i3 : fX3_inReach F X a b (nI h) = some (irF ce R o h c) := by
    simp only [fX3_inReach, gN wN, hX, ov1, r1, i1, Option.bind_some]
  refine ⟨if hid = true then 0 else irF ce R o h c, o, ho, ov1, ov2, ?_, ?_⟩
  · simp only [fX3_viewers, gN wN, hX, d1, i3, Option.bind_some]
    cases hid <;> rfl
  · simp only [fX10_seers, gM wM, hX, ov2, i2, d2, Option.bind_some]
    cases hid <;> rfl
theorem op_sees {F : Nat} {X : qH} {sz : Nat} (hI : Inv X sz) (hF : 300000 ≤ F) (u v : Int32) : OpR (fun X => fX9_sees F X sz u v) (fun X => fX10_sees F X (sz + 151) u v) X := by
  obtain ⟨hW, hRl⟩ := id hI
  obtain ⟨rT, rF, rS, rB, rN, rP, rI, rD, rK⟩ := id hRl
  generalize hX : shX X = Y at hW
  obtain ⟨w9, -, -, -, wN, -, -, -, -, w2, w1, wM⟩ := id hW
  obtain ⟨b, w, c, ce, po, nn, dd, hb, wB⟩ := rB.get hX hW
  obtain ⟨⟨b3, -⟩, ⟨bw, mw, hw30⟩, ⟨bc, mc, c8, -⟩, -⟩ := id hb
  obtain ⟨c', c8', mc', hn, hg⟩ := rN
  have hcc : c' = c := (nI_eq (by omega) (by omega)).mp (mc'.symm.trans mc)
  subst hcc
  have ht := hasTwo_ok (F := F) hX wB bc u v
  have ha := areTwo_ok (F := F) hX wM mc c8 u v
  by_cases hok : (0 ≤ u ∧ u < nI c') ∧ (0 ≤ v ∧ v < nI c') ∧ u ≠ v
  · rw [if_pos hok] at ht ha
    obtain ⟨h, hl, rfl⟩ := nI_of (i_nlt.mpr hok.2.1.1)
    have hc := (nI_ltI hl (by omega)).mp hok.2.1.2
    obtain ⟨V, o, -, -, -, e1, e2⟩ := view_eq (F := F) hX wN wB wM hb hn hg (by omega) hc
    refine ⟨V >>> (u &&& 31) &&& 1, ?_, ?_⟩
    · simp only [fX9_sees, g9 w9, hX, Option.bind_some, b3, ht, e1, if_neg (show ¬ (1 : Int32) = 0 by decide)]
    · simp only [fX10_sees, gM wM, hX, Option.bind_some, ha, e2, if_neg (show ¬ (1 : Int32) = 0 by decide)]
  · rw [if_neg hok] at ht ha
    refine ⟨-1000000001, ?_, ?_⟩
    · simp only [fX9_sees, g9 w9, hX, Option.bind_some, b3, ht, if_true]
    · simp only [fX10_sees, gM wM, hX, Option.bind_some, ha, if_true]
