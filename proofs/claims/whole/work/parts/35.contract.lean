/-! holdsFor, contract -/
def pIy (p q : Nat) : Nat := if p < q then pIx p q else pIx q p
theorem pb_all : ∀ p q : Fin 8, p.val ≠ q.val → (((if nI p.val < nI q.val then nI q.val else nI p.val) * ((if nI p.val < nI q.val then nI q.val else nI p.val) - 1)) / 2 + (if nI q.val < nI p.val then nI q.val else nI p.val)) = nI (pIy p.val q.val) ∧ pIy p.val q.val < 28 := by decide +kernel
theorem HR.y {ho : Int32} {g : Nat → Int32} {c : Nat} (hr : HR ho g c) {p q : Nat} (hp : p < 8) (hq : q < 8) (hpq : p ≠ q) : tb ho (pIy p q) ↔ tb (g p) q := by
  unfold pIy
  by_cases z : p < q
  · rw [if_pos z]; exact (hr.1 p q z hq).1
  · rw [if_neg z]
    have := hr.1 q p (by omega) hp
    exact this.1.trans this.2
theorem pairBit_ok {F : Nat} {X : qH} {p q : Nat} (hp : p < 8) (hq : q < 8) (hpq : p ≠ q) : fX3_pairBit F X (nI p) (nI q) = some ((1 : Int32) <<< (nI (pIy p q) &&& 31)) := by
  have e := (pb_all ⟨p, hp⟩ ⟨q, hq⟩ hpq).1
  dsimp only at e
  simp only [fX3_pairBit, qlt, e]
theorem holdsFor_ok {F : Nat} {X Y : qH} {a p q : Nat} (hX : shX X = Y) (wN : YN Y a) (hp : p < 8) (hq : q < 8) (hpq : p ≠ q) : (tb (gi X a 3) (pIy p q) → fX3_holdsFor F X a (nI p) (nI q) = some 1) ∧ (¬ tb (gi X a 3) (pIy p q) → fX3_holdsFor F X a (nI p) (nI q) = some 0) := by
  have h28 := (pb_all ⟨p, hp⟩ ⟨q, hq⟩ hpq).2
  dsimp only at h28
  have h2 := and_tb (x := gi X a 3) (i := pIy p q) (by omega)
  constructor
  · intro h
    simp only [fX3_holdsFor, gN wN, hX, Option.bind_some, pairBit_ok hp hq hpq, if_neg (fun z => (h2.mp z) h)]
    rfl
  · intro h
    simp only [fX3_holdsFor, gN wN, hX, Option.bind_some, pairBit_ok hp hq hpq, if_pos (h2.mpr h)]
    rfl
theorem hasM_ok {F : Nat} {X : qH} {x : Int32} {q : Nat} (hq : q < 32) : (tb x q → fX10_has F X x (nI q) = some 1) ∧ (¬ tb x q → fX10_has F X x (nI q) = some 0) := by
  constructor
  · intro h
    simp only [fX10_has, if_pos ((shr_tb hq).mpr h), Option.bind_some]
    rfl
  · intro h
    simp only [fX10_has, if_neg (fun z => h ((shr_tb hq).mp z)), Option.bind_some]
    rfl
theorem op_contract {F : Nat} {X : qH} {sz : Nat} (hI : Inv X sz) (hF : 300000 ≤ F) (u v : Int32) : OpR (fun X => fX9_contract F X sz u v) (fun X => fX10_contract F X (sz + 151) u v) X := by
  obtain ⟨hW, hRl⟩ := id hI
  obtain ⟨rT, rF, rS, rB, rN, rP, rI, rD, rK⟩ := id hRl
  generalize hX : shX X = Y at hW
  obtain ⟨w9, -, -, -, wN, -, -, -, -, w2, w1, wM⟩ := id hW
  obtain ⟨b, w, c, ce, po, nn, dd, hb, wB⟩ := rB.get hX hW
  obtain ⟨⟨b3, -⟩, ⟨bw, mw, hw30⟩, ⟨bc, mc, c8, -⟩, -, -, hs, hinj, -⟩ := id hb
  obtain ⟨c', c8', mc', hn, hg⟩ := rN
  have ht := hasTwo_ok (F := F) hX wB bc u v
  have ha := areTwo_ok (F := F) hX wM mc c8 u v
  by_cases hok : (0 ≤ u ∧ u < nI c) ∧ (0 ≤ v ∧ v < nI c) ∧ u ≠ v
  · rw [if_pos hok] at ht ha
    obtain ⟨g1, hl1, rfl⟩ := nI_of (i_nlt.mpr hok.1.1)
    obtain ⟨g2, hl2, rfl⟩ := nI_of (i_nlt.mpr hok.2.1.1)
    have i1 := (nI_ltI hl1 (by omega)).mp hok.1.2
    have i2 := (nI_ltI hl2 (by omega)).mp hok.2.1.2
    have hne : g1 ≠ g2 := fun q => hok.2.2 (by rw [q])
    have l2 : g1 < 8 := by omega
    have l3 : g2 < 8 := by omega
    have l35 : 35 + g1 < 43 := by omega
    have e35 : (35 : Int32) + nI g1 = nI (35 + g1) := nI_add 35 g1
    have hy := HR.y hn.2.2.2.2 l2 l3 hne
    dsimp only at hy
    have k1 := holdsFor_ok (F := F) hX wN l2 l3 hne
    have k2 := hasM_ok (F := F) (X := X) (x := ga X (sz + 151 + 5) (35 + g1)) (q := g2) (by omega)
    by_cases q : tb (ga X (sz + 151 + 5) (35 + g1)) g2
    · have k1' := k1.1 (hy.mpr q)
      have k2' := k2.1 q
      have s1 := hs g1 i1
      have s2 := hs g2 i2
      have gr1 := greens_ok (F := F) (X := X) (d := dd g1) (n := nn g1) (fun i hi => (s1.2.2.2 i hi).2) s1.2.2.1.2.2.1 (by omega)
      have gr2 := greens_ok (F := F) (X := X) (d := dd g2) (n := nn g2) (fun i hi => (s2.2.2.2 i hi).2) s2.2.2.1.2.2.1 (by omega)
      have ig1 := isGreen_ok (F := F) hX wM l2 ⟨s1.2.2.1.1, s1.2.2.1.2.2.1⟩ s1.2.2.2 (by omega)
      have ig2 := isGreen_ok (F := F) hX wM l3 ⟨s2.2.2.1.1, s2.2.2.1.2.2.1⟩ s2.2.2.2 (by omega)
      have b1 := gcF_le (dd g1) (nn g1)
      have b2 := gcF_le (dd g2) (nn g2)
      have n1 := s1.2.2.1.2.2.1
      have n2 := s2.2.2.1.2.2.1
      have ag : fX0_anyGreen F X b (nI g1) (nI g2) = some (if gcF (dd g1) (nn g1) + gcF (dd g2) (nn g2) = 0 then 0 else 1) := by
        simp only [fX0_anyGreen, gB wB, hX, Option.bind_some, l2, l3, s1.2.2.1.2.2.2, s2.2.2.1.2.2.2, gr1, gr2, nI_add]
        by_cases z : gcF (dd g1) (nn g1) + gcF (dd g2) (nn g2) = 0
        · rw [if_pos z, z, if_pos (show nI 0 ≤ 0 by decide)]; rfl
        · rw [if_neg z, if_neg (nI_nle (by omega) (by omega))]; rfl
      refine ⟨if gcF (dd g1) (nn g1) + gcF (dd g2) (nn g2) = 0 then 1 else 2, ?_, ?_⟩
      · simp only [fX9_contract, g9 w9, gB wB, hX, Option.bind_some, b3, ht, k1', ag, if_neg (show ¬ (1 : Int32) = 0 by decide)]
        by_cases z : gcF (dd g1) (nn g1) + gcF (dd g2) (nn g2) = 0
        · rw [if_pos z, if_pos rfl, if_pos z]; rfl
        · rw [if_neg z, if_neg (show ¬ (1 : Int32) = 0 by decide), if_neg z]; rfl
      · simp only [fX10_contract, gM wM, hX, Option.bind_some, ha, e35, l35, k2', ig1, ig2, if_neg (show ¬ (1 : Int32) = 0 by decide)]
        by_cases z1 : gcF (dd g1) (nn g1) = 0
        · by_cases z2 : gcF (dd g2) (nn g2) = 0
          · simp [z1, z2]
          · simp [z1, z2]
        · simp [z1]
    · have k1' := k1.2 (fun z => q (hy.mp z))
      have k2' := k2.2 q
      refine ⟨0, ?_, ?_⟩
      · simp only [fX9_contract, g9 w9, gB wB, hX, Option.bind_some, b3, ht, k1', if_true, if_neg (show ¬ (1 : Int32) = 0 by decide)]
      · simp only [fX10_contract, gM wM, hX, Option.bind_some, ha, e35, l35, k2', if_true, if_neg (show ¬ (1 : Int32) = 0 by decide)]
  · rw [if_neg hok] at ht ha
    refine ⟨-1000000001, ?_, ?_⟩
    · simp only [fX9_contract, g9 w9, hX, Option.bind_some, b3, ht, if_true]
    · simp only [fX10_contract, gM wM, hX, Option.bind_some, ha, if_true]
