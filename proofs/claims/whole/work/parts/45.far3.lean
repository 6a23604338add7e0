/-! farShore -/
theorem i_or_assoc (x y z : Int32) : x ||| y ||| z = x ||| (y ||| z) := by
  apply Int32.toBitVec_inj.mp
  simp [BitVec.or_assoc]
theorem i_or_self (x : Int32) : x ||| x = x := by
  apply Int32.toBitVec_inj.mp
  simp
theorem i_0or (x : Int32) : 0 ||| x = x := by
  apply Int32.toBitVec_inj.mp
  simp
theorem cnF_iff {one : Bool} {rv st : Nat → Nat} {g x : Nat} : cnF one rv st g x = true ↔ ((if one then x = g else x ≠ g) ∧ rv g = st x) := by
  unfold cnF
  cases one
  · simp
  · simp
theorem nI_m1 {n : Nat} (h : n < 100) : ¬ nI n = (-1 : Int32) := fun q => by
  have := congrArg Int32.toInt q
  rw [nI_toInt (by omega), show (-1 : Int32).toInt = -1 from rfl] at this
  omega
/-- the class's test, by the house that has these stars -/
theorem far_one {st rv : Nat → Nat} {c h : Nat} (hi : ∀ x y : Nat, x < c → y < c → st x = st y → x = y) (c8 : c ≤ 8) (hh : h < c) : (lsF st (rv h) c = nI h ↔ anF true rv st h c = true) ∧ ((¬ lsF st (rv h) c = -1 ∧ ¬ lsF st (rv h) c = nI h) ↔ anF false rv st h c = true) := by
  rw [anF_iff, anF_iff]
  by_cases q : ∃ g : Nat, g < c ∧ st g = rv h
  · obtain ⟨g, hg, e⟩ := q
    rw [lsF_hit c hi hg e]
    constructor
    · constructor
      · intro z
        have z' := (nI_eq (by omega) (by omega)).mp z
        subst z'
        exact ⟨g, hg, cnF_iff.mpr ⟨rfl, e.symm⟩⟩
      · rintro ⟨x, hx, z⟩
        obtain ⟨z1, z2⟩ := cnF_iff.mp z
        rw [if_pos rfl] at z1
        subst z1
        rw [hi g x hg hx (e.trans z2)]
    · constructor
      · rintro ⟨-, z⟩
        exact ⟨g, hg, cnF_iff.mpr ⟨by rw [if_neg (by decide)]; exact fun y => z (by rw [y]), e.symm⟩⟩
      · rintro ⟨x, hx, z⟩
        obtain ⟨z1, z2⟩ := cnF_iff.mp z
        rw [if_neg (by decide)] at z1
        have hgx := hi g x hg hx (e.trans z2)
        subst hgx
        exact ⟨nI_m1 (by omega), fun y => z1 ((nI_eq (by omega) (by omega)).mp y)⟩
  · rw [lsF_none c (fun g hg e => q ⟨g, hg, e⟩)]
    have hno : ∀ one : Bool, ¬ ∃ x : Nat, x < c ∧ cnF one rv st h x = true := fun one ⟨x, hx, z⟩ => q ⟨x, hx, (cnF_iff.mp z).2.symm⟩
    exact ⟨⟨fun z => absurd z.symm (nI_m1 (by omega)), fun z => absurd z (hno true)⟩, ⟨fun z => absurd rfl z.1, fun z => absurd z (hno false)⟩⟩
theorem op_farShore {F : Nat} {X : qH} {sz : Nat} (hI : Inv X sz) (hF : 300000 ≤ F) (v : Int32) : OpR (fun X => fX9_farShore F X sz v) (fun X => fX10_farShore F X (sz + 151) v) X := by
  obtain ⟨hW, hRl⟩ := id hI
  obtain ⟨rT, rF, rS, rB, rN, rP, rI, rD, rK⟩ := id hRl
  generalize hX : shX X = Y at hW
  obtain ⟨w9, -, -, -, wN, -, -, -, -, w2, w1, wM⟩ := id hW
  obtain ⟨b, w, c, ce, po, nn, dd, hb, wB⟩ := rB.get hX hW
  obtain ⟨⟨b3, -⟩, ⟨bw, mw, hw30⟩, ⟨bc, mc, c8, -⟩, -, -, hs, -, hst⟩ := id hb
  have hin := fun X => l_in F X v 0 1 (l := 0) (h := 1) rfl rfl
  have core : ∀ one : Bool, v = (if one then 1 else 0) → ∃ r, fX9_farShore_L16 F X sz v F 0 0 = some r ∧ fX10_farShore_L17 F X (sz + 151) v F 0 0 = some r := fun one hv => by
    have hst' : ∀ x y : Nat, x < c → y < c → (fun h => stN (dd h) (nn h)) x = (fun h => stN (dd h) (nn h)) y → x = y := hst
    have hfar := fun h hh => far_one (st := fun h => stN (dd h) (nn h)) (rv := fun h => stN (rvF (dd h) (nn h)) (nn h)) (h := h) hst' c8 hh
    refine ⟨fsF one (fun h => stN (rvF (dd h) (nn h)) (nn h)) (fun h => stN (dd h) (nn h)) c c, ?_, ?_⟩
    · have L := lpF (fun n (s : Int32 × Int32) => fX9_farShore_L16 F X sz v n s.1 s.2) (fun g => (fsF one (fun h => stN (rvF (dd h) (nn h)) (nn h)) (fun h => stN (dd h) (nn h)) c g, nI g)) c (fsF one (fun h => stN (rvF (dd h) (nn h)) (nn h)) (fun h => stN (dd h) (nn h)) c c)
        (fun n => by
          show fX9_farShore_L16_B F X sz v (fX9_farShore_L16 F X sz v n) _ (nI c) = _
          unfold fX9_farShore_L16_B
          simp only [g9 w9, gB wB, hX, Option.bind_some, b3, bc, if_pos (nI_le (Nat.le_refl c) (by omega))])
        (fun n g hg => by
          show fX9_farShore_L16_B F X sz v (fX9_farShore_L16 F X sz v n) (fsF one (fun h => stN (rvF (dd h) (nn h)) (nn h)) (fun h => stN (dd h) (nn h)) c g) (nI g) = fX9_farShore_L16 F X sz v n (fsF one (fun h => stN (rvF (dd h) (nn h)) (nn h)) (fun h => stN (dd h) (nn h)) c g ||| bgF one (fun h => stN (rvF (dd h) (nn h)) (nn h)) (fun h => stN (dd h) (nn h)) c g) (nI (g + 1))
          unfold fX9_farShore_L16_B
          have l8 : g < 8 := by omega
          obtain ⟨-, -, ⟨s1, s2, s3, s4⟩, s5⟩ := hs g hg
          have fe := fromTheEnd_ok (F := F) (X := X) (d := dd g) (n := nn g) (fun i hi => (s5 i hi).2) s3 (by omega)
          have hr : stN (rvF (dd g) (nn g)) (nn g) < 100000 := stN_lt5 (fun i hi => (s5 (nn g - 1 - i) (by omega)).2.2) s3
          have ho := houseOfStars_ok (F := F) (p := stN (rvF (dd g) (nn g)) (nn g)) (ce := fun h => stN (dd h) (nn h)) hX wB bc c8 (fun x hx => ⟨(hs x hx).2.2.1.2.2.2, stN_lt5 (fun i hi => ((hs x hx).2.2.2 i hi).2.2) (hs x hx).2.2.1.2.2.1⟩) (by omega) hst' (by omega)
          have hf := hfar g hg
          unfold bgF
          generalize fsF one (fun h => stN (rvF (dd h) (nn h)) (nn h)) (fun h => stN (dd h) (nn h)) c g = T
          generalize lsF (fun h => stN (dd h) (nn h)) (stN (rvF (dd g) (nn g)) (nn g)) c = Z at ho hf
          cases one with
          | true =>
            rw [if_pos rfl] at hv
            subst hv
            by_cases z : Z = nI g
            · rw [if_pos (hf.1.mp z)]
              simp only [g9 w9, gB wB, hX, Option.bind_some, b3, bc, if_neg (nI_ge hg (by omega)), l8, s4, fe, ho, if_true, if_pos z, if_neg (show ¬ (1 : Int32) = 0 by decide), qlt, nI_1]
            · rw [if_neg (fun y => z (hf.1.mpr y))]
              simp only [g9 w9, gB wB, hX, Option.bind_some, b3, bc, if_neg (nI_ge hg (by omega)), l8, s4, fe, ho, if_true, if_neg z, qlt, nI_1, or0]
          | false =>
            rw [if_neg (by decide)] at hv
            subst hv
            by_cases z : Z = -1
            · rw [if_neg (fun y => (hf.2.mpr y).1 z)]
              simp only [g9 w9, gB wB, hX, Option.bind_some, b3, bc, if_neg (nI_ge hg (by omega)), l8, s4, fe, ho, if_neg (show ¬ (0 : Int32) = 1 by decide), if_pos z, if_true, qlt, nI_1, or0]
            · by_cases z2 : Z = nI g
              · rw [if_neg (fun y => (hf.2.mpr y).2 z2)]
                simp only [g9 w9, gB wB, hX, Option.bind_some, b3, bc, if_neg (nI_ge hg (by omega)), l8, s4, fe, ho, if_neg (show ¬ (0 : Int32) = 1 by decide), if_neg z, if_pos z2, if_true, qlt, nI_1, or0]
              · rw [if_pos (hf.2.mp ⟨z, z2⟩)]
                simp only [g9 w9, gB wB, hX, Option.bind_some, b3, bc, if_neg (nI_ge hg (by omega)), l8, s4, fe, ho, if_neg (show ¬ (0 : Int32) = 1 by decide), if_neg z, if_neg z2, if_neg (show ¬ (1 : Int32) = 0 by decide), qlt, nI_1]) F 0 (by omega) (by omega)
      exact L
    · have L := lpF (fun n (s : Int32 × Int32) => fX10_farShore_L17 F X (sz + 151) v n s.1 s.2) (fun g => (fsF one (fun h => stN (rvF (dd h) (nn h)) (nn h)) (fun h => stN (dd h) (nn h)) c g, nI g)) c (fsF one (fun h => stN (rvF (dd h) (nn h)) (nn h)) (fun h => stN (dd h) (nn h)) c c)
        (fun n => by
          show fX10_farShore_L17_B F X (sz + 151) v (fX10_farShore_L17 F X (sz + 151) v n) _ (nI c) = _
          unfold fX10_farShore_L17_B
          simp only [gM wM, hX, Option.bind_some, mc, if_pos (nI_le (Nat.le_refl c) (by omega))])
        (fun n g hg => by
          show fX10_farShore_L17_B F X (sz + 151) v (fX10_farShore_L17 F X (sz + 151) v n) (fsF one (fun h => stN (rvF (dd h) (nn h)) (nn h)) (fun h => stN (dd h) (nn h)) c g) (nI g) = fX10_farShore_L17 F X (sz + 151) v n (fsF one (fun h => stN (rvF (dd h) (nn h)) (nn h)) (fun h => stN (dd h) (nn h)) c g ||| bgF one (fun h => stN (rvF (dd h) (nn h)) (nn h)) (fun h => stN (dd h) (nn h)) c g) (nI (g + 1))
          unfold fX10_farShore_L17_B
          have l8 : g < 8 := by omega
          unfold bgF
          generalize fsF one (fun h => stN (rvF (dd h) (nn h)) (nn h)) (fun h => stN (dd h) (nn h)) c g = T
          have K := lpF (fun n (s : Int32 × Int32) => fX10_farShore_L28 F X (sz + 151) v (nI g) n s.1 s.2) (fun x => (T ||| (if anF one (fun h => stN (rvF (dd h) (nn h)) (nn h)) (fun h => stN (dd h) (nn h)) g x = true then (1 : Int32) <<< (nI g &&& 31) else 0), nI x)) c (T ||| (if anF one (fun h => stN (rvF (dd h) (nn h)) (nn h)) (fun h => stN (dd h) (nn h)) g c = true then (1 : Int32) <<< (nI g &&& 31) else 0))
            (fun n => by
              show fX10_farShore_L28_B F X (sz + 151) v (nI g) (fX10_farShore_L28 F X (sz + 151) v (nI g) n) _ (nI c) = _
              unfold fX10_farShore_L28_B
              simp only [gM wM, hX, Option.bind_some, mc, if_pos (nI_le (Nat.le_refl c) (by omega))])
            (fun n x hx => by
              show fX10_farShore_L28_B F X (sz + 151) v (nI g) (fX10_farShore_L28 F X (sz + 151) v (nI g) n) _ (nI x) = _
              unfold fX10_farShore_L28_B
              dsimp only
              have lx : x < 8 := by omega
              obtain ⟨-, -, ⟨s1, s2, s3, s4⟩, s5⟩ := hs g hg
              obtain ⟨-, -, ⟨t1, t2, t3, t4⟩, t5⟩ := hs x hx
              have fo := isFarOf_ok (F := F) hX wM l8 lx ⟨s1, s3⟩ ⟨t1, t3⟩ s5 t5 (by omega)
              have hc := cnF_iff (one := one) (rv := fun h => stN (rvF (dd h) (nn h)) (nn h)) (st := fun h => stN (dd h) (nn h)) (g := g) (x := x)
              rw [anF]
              generalize anF one (fun h => stN (rvF (dd h) (nn h)) (nn h)) (fun h => stN (dd h) (nn h)) g x = A
              generalize cnF one (fun h => stN (rvF (dd h) (nn h)) (nn h)) (fun h => stN (dd h) (nn h)) g x = C at hc ⊢
              have key : (T ||| if A = true then (1 : Int32) <<< (nI g &&& 31) else 0) ||| (if C = true then (1 : Int32) <<< (nI g &&& 31) else 0) = T ||| if (A || C) = true then (1 : Int32) <<< (nI g &&& 31) else 0 := by
                cases A <;> cases C <;> simp [or0, i_or_assoc, i_or_self, i_0or]
              rw [← key]
              have hi := nI_eq (show x < 2 ^ 31 by omega) (show g < 2 ^ 31 by omega)
              cases one with
              | true =>
                rw [if_pos rfl] at hv
                subst hv
                by_cases z : x = g
                · by_cases z2 : stN (rvF (dd g) (nn g)) (nn g) = stN (dd x) (nn x)
                  · rw [if_pos (hc.mpr ⟨z, z2⟩)]
                    simp only [gM wM, hX, Option.bind_some, mc, if_neg (nI_ge hx (by omega)), if_neg (show ¬ (1 : Int32) = 0 by decide), hi, if_pos z, if_true, fo, if_pos z2, qlt, nI_1]
                  · rw [if_neg (fun y => z2 (hc.mp y).2)]
                    simp only [gM wM, hX, Option.bind_some, mc, if_neg (nI_ge hx (by omega)), if_neg (show ¬ (1 : Int32) = 0 by decide), hi, if_pos z, if_true, fo, if_neg z2, qlt, nI_1]
                · rw [if_neg (fun y => z (hc.mp y).1)]
                  simp only [gM wM, hX, Option.bind_some, mc, if_neg (nI_ge hx (by omega)), if_neg (show ¬ (1 : Int32) = 0 by decide), if_neg (show ¬ (0 : Int32) = 1 by decide), hi, if_neg z, qlt, nI_1]
              | false =>
                rw [if_neg (by decide)] at hv
                subst hv
                by_cases z : x = g
                · rw [if_neg (fun y => (hc.mp y).1 z)]
                  simp only [gM wM, hX, Option.bind_some, mc, if_neg (nI_ge hx (by omega)), if_true, if_neg (show ¬ (1 : Int32) = 0 by decide), hi, if_pos z, qlt, nI_1]
                · by_cases z2 : stN (rvF (dd g) (nn g)) (nn g) = stN (dd x) (nn x)
                  · rw [if_pos (hc.mpr ⟨z, z2⟩)]
                    simp only [gM wM, hX, Option.bind_some, mc, if_neg (nI_ge hx (by omega)), if_true, if_neg (show ¬ (1 : Int32) = 0 by decide), hi, if_neg z, fo, if_pos z2, qlt, nI_1]
                  · rw [if_neg (fun y => z2 (hc.mp y).2)]
                    simp only [gM wM, hX, Option.bind_some, mc, if_neg (nI_ge hx (by omega)), if_true, if_neg (show ¬ (1 : Int32) = 0 by decide), hi, if_neg z, fo, if_neg z2, qlt, nI_1]) F 0 (by omega) (by omega)
          dsimp only at K
          rw [anF, if_neg (by decide), or0, show nI 0 = (0 : Int32) from rfl] at K
          simp only [gM wM, hX, Option.bind_some, mc, if_neg (nI_ge hg (by omega)), K, qlt, nI_1]) F 0 (by omega) (by omega)
      exact L
  by_cases h0 : v = 0
  · obtain ⟨r, e1, e2⟩ := core false (by rw [h0]; rfl)
    refine ⟨r, ?_, ?_⟩
    · simp only [fX9_farShore, g9 w9, hX, qlab, if_pos h0, e1, Option.bind_some]
    · simp only [fX10_farShore, gM wM, hX, hin, if_pos (show (0 : Int32) ≤ v ∧ v ≤ 1 by rw [h0]; decide), if_neg (show ¬ (1 : Int32) = 0 by decide), e2, Option.bind_some]
  · by_cases h1 : v = 1
    · obtain ⟨r, e1, e2⟩ := core true (by rw [h1]; rfl)
      refine ⟨r, ?_, ?_⟩
      · simp only [fX9_farShore, g9 w9, hX, qlab, if_neg h0, if_pos h1, e1, Option.bind_some]
      · simp only [fX10_farShore, gM wM, hX, hin, if_pos (show (0 : Int32) ≤ v ∧ v ≤ 1 by rw [h1]; decide), if_neg (show ¬ (1 : Int32) = 0 by decide), e2, Option.bind_some]
    · refine ⟨-1000000002, ?_, ?_⟩
      · simp only [fX9_farShore, g9 w9, hX, qlab, if_neg h0, if_neg h1]
      · have hno : ¬ ((0 : Int32) ≤ v ∧ v ≤ 1) := fun q => by
          have q1 := q.1
          have q2 := q.2
          rw [Int32.le_iff_toInt_le] at q1 q2
          rw [Int32.toInt_zero] at q1
          rw [Int32.toInt_one] at q2
          have hv0 : ¬ v.toInt = 0 := fun y => h0 (Int32.toInt_inj.mp y)
          have hv1 : ¬ v.toInt = 1 := fun y => h1 (Int32.toInt_inj.mp y)
          omega
        simp only [fX10_farShore, gM wM, hX, hin, if_neg hno, if_true, Option.bind_some]
