/-! light -/
def hoS (M : Nat → Bool) (ra : Nat) (rb : Nat → Nat) (ho : Int32) : Nat → Int32
  | 0 => ho
  | g + 1 => if M g then hoS M ra rb ho g ||| ((1 : Int32) <<< (nI (pIy ra (rb g)) &&& 31)) else hoS M ra rb ho g
def rwS (M : Nat → Bool) (ra : Nat) (rb : Nat → Nat) (rw : Nat → Int32) : Nat → Nat → Int32
  | 0 => rw
  | g + 1 => if M g then (if (rwS M ra rb rw g ra).toBitVec.getLsbD (rb g) then rwS M ra rb rw g else gset (rwS M ra rb rw g) ra (rb g)) else rwS M ra rb rw g
def nwS (M : Nat → Bool) (ra : Nat) (rb : Nat → Nat) (rw : Nat → Int32) : Nat → Nat
  | 0 => 0
  | g + 1 => if M g then (if (rwS M ra rb rw g ra).toBitVec.getLsbD (rb g) then nwS M ra rb rw g else nwS M ra rb rw g + 1) else nwS M ra rb rw g
theorem lit_inv {M : Nat → Bool} {ra c : Nat} {rb : Nat → Nat} {ho : Int32} {rw : Nat → Int32} (hr : HR ho rw c) (c8 : c ≤ 8) (hra : ra < c) (hM : ∀ g : Nat, g < c → M g = true → rb g < c ∧ ra ≠ rb g) :
    ∀ g : Nat, g ≤ c → HR (hoS M ra rb ho g) (rwS M ra rb rw g) c ∧ akF (fun i => (hoS M ra rb ho g).toBitVec.getLsbD i) 32 = akF (fun i => ho.toBitVec.getLsbD i) 32 + nwS M ra rb rw g ∧ nwS M ra rb rw g ≤ g := by
  intro g
  induction g with
  | zero => intro _; exact ⟨hr, rfl, Nat.le_refl _⟩
  | succ g ih =>
    intro hg
    obtain ⟨i1, i2, i3⟩ := ih (by omega)
    unfold hoS rwS nwS
    cases hm : M g with
    | false => exact ⟨i1, i2, Nat.le_succ_of_le i3⟩
    | true =>
      obtain ⟨m1, m2⟩ := hM g (by omega) hm
      have h28 := (pb_all ⟨ra, by omega⟩ ⟨rb g, by omega⟩ m2).2
      dsimp only at h28
      have hy := HR.y i1 (show ra < 8 by omega) (show rb g < 8 by omega) m2
      simp only [if_true]
      by_cases z : tb (rwS M ra rb rw g ra) (rb g)
      · rw [if_pos (show (rwS M ra rb rw g ra).toBitVec.getLsbD (rb g) = true from z), if_pos (show (rwS M ra rb rw g ra).toBitVec.getLsbD (rb g) = true from z), i_or_bit (by omega) (hy.mpr z)]
        exact ⟨i1, i2, Nat.le_succ_of_le i3⟩
      · rw [if_neg (show ¬ (rwS M ra rb rw g ra).toBitVec.getLsbD (rb g) = true from z), if_neg (show ¬ (rwS M ra rb rw g ra).toBitVec.getLsbD (rb g) = true from z)]
        refine ⟨i1.set c8 hra m1 m2, ?_, by omega⟩
        rw [ct_set (by omega) (fun y => z (hy.mp y)), i2]
        omega
def ccM (h g p q : Nat) : Int32 := ((((1 : Int32) <<< (nI h &&& 31)) ||| ((1 : Int32) <<< (nI g &&& 31))) ||| ((1 : Int32) <<< (nI p &&& 31))) ||| ((1 : Int32) <<< (nI q &&& 31))
/-- whether g's rocket, lit before, makes a contract with h's -/
def mtB (sa sb : Nat → Int32) (mi : Int32) (rb : Nat → Nat) (h g : Nat) : Bool := decide (g ≠ h ∧ sa g ≠ -1 ∧ ¬ 1 < mi - sa g ∧ rb h ≠ rb g ∧ ¬ (sb h &&& sb g) &&& (ccM h g (rb h) (rb g) ^^^ (-1 : Int32)) = 0)
def agI (X0 Y : qH) (a : Nat) (ho : Int32) (X : qH) : Prop := shX X = Y ∧ (∀ q : Nat, q ≠ a → X q = X0 q) ∧ ∀ k : Nat, gi X a k = if k = 3 then ho else gi X0 a k
def alI (X0 Y : qH) (m : Nat) (rw : Nat → Int32) (X : qH) : Prop := shX X = Y ∧ (∀ q : Nat, q ≠ m + 5 → X q = X0 q) ∧ ∀ k : Nat, ga X (m + 5) k = if 35 ≤ k ∧ k < 43 then rw (k - 35) else ga X0 (m + 5) k
theorem BC.rd {F : Nat} {X Y : qH} {b w c sm h : Nat} {ce po : Nat → Nat} (hB : BC X b w c sm ce po) (hP : BP w c sm ce po) (hX : shX X = Y) (wB : YB Y b) (hh : h < c) (hF : 10 ≤ F) : fX0_readAs F X b (nI h) = some (nI (rd ce po c h)) :=
  readAs_c hX wB hB.2.1 hP.2.1 (fun g hg => ⟨(hB.2.2.2 g hg).1, by have := (hP.2.2.2.2.1 g hg).1; have := hP.1; omega⟩) ⟨(hB.2.2.2 h hh).2, (hP.2.2.2.2.1 h hh).2.2⟩ hh hF
theorem BM.rd {F : Nat} {X Y : qH} {m w c sm h : Nat} {ce po : Nat → Nat} (hB : BM X m w c sm ce po) (hP : BP w c sm ce po) (hX : shX X = Y) (wM : YM Y m) (hh : h < c) (hF : 10 ≤ F) : fX10_readAs F X m (nI h) = some (nI (rd ce po c h)) :=
  readAs_m hX wM hB.2.1 hP.2.1 (fun g hg => ⟨(hB.2.2.2 g hg).1, by have := (hP.2.2.2.2.1 g hg).1; have := hP.1; omega⟩) ⟨(hB.2.2.2 h hh).2, (hP.2.2.2.2.1 h hh).2.2⟩ hh hF
set_option maxHeartbeats 1000000 in
theorem agree_L {F : Nat} {X0 Y : qH} {a b w c sm h : Nat} {ce po : Nat → Nat} {sa sb : Nat → Int32} {mi ho v2 : Int32} (wN : YN Y a) (wB : YB Y b) (hab : a + 5 ≤ b ∨ b + 5 ≤ a) (hB : BC X0 b w c sm ce po) (hP : BP w c sm ce po) (hh : h < c) (hmi : gi X0 a 0 = mi) (hs : ∀ g : Nat, g < c → ga X0 (a + 2) g = sa g ∧ ga X0 (a + 4) g = sb g) (hF : 10 ≤ F) :
    ∀ (n g : Nat) (X : qH), g ≤ c → c - g < n → agI X0 Y a (hoS (mtB sa sb mi (rd ce po c) h) (rd ce po c h) (rd ce po c) ho g) X → ∃ X2, fX3_agree_L11 F a b (nI h) v2 n (nI g) X = some X2 ∧ agI X0 Y a (hoS (mtB sa sb mi (rd ce po c) h) (rd ce po c h) (rd ce po c) ho c) X2 := by
  intro n
  have c8 := hP.2.1
  induction n with
  | zero => intro g X hg hn; omega
  | succ n ih =>
    intro g X hg hn hA
    show ∃ X2, fX3_agree_L11_B F a b (nI h) v2 (fX3_agree_L11 F a b (nI h) v2 n) (nI g) X = some X2 ∧ _
    unfold fX3_agree_L11_B
    obtain ⟨h1, h2, h3⟩ := id hA
    have hBX : BC X b w c sm ce po := hB.c (fun q z1 z2 => h2 q (by omega))
    have bc := hBX.2.1
    by_cases q : g = c
    · subst q
      refine ⟨X, ?_, hA⟩
      simp only [gB wB, h1, Option.bind_some, bc, if_pos (nI_le (Nat.le_refl g) (by omega))]
    · have hlt : g < c := by omega
      have l8 : g < 8 := by omega
      have lh : h < 8 := by omega
      have ih' := fun X => ih (g + 1) X (by omega) (by omega)
      rw [hoS] at ih'
      have e2 : ga X (a + 2) = ga X0 (a + 2) := ga_congr (h2 _ (by omega))
      have e4 : ga X (a + 4) = ga X0 (a + 4) := ga_congr (h2 _ (by omega))
      have e0 : gi X a 0 = mi := by rw [h3, if_neg (by omega)]; exact hmi
      have er1 := hBX.rd (F := F) (h := h) hP h1 wB hh hF
      have er2 := hBX.rd (F := F) (h := g) hP h1 wB hlt hF
      have hrd1 : rd ce po c h < c := rd_lt hh
      have hrd2 : rd ce po c g < c := rd_lt hlt
      have hgh := nI_eq (show g < 2 ^ 31 by omega) (show h < 2 ^ 31 by omega)
      have hab2 := nI_eq (show rd ce po c h < 2 ^ 31 by omega) (show rd ce po c g < 2 ^ 31 by omega)
      by_cases z1 : g = h
      · have hm : mtB sa sb mi (rd ce po c) h g = false := decide_eq_false (fun y => y.1 z1)
        rw [hm, if_neg (by decide)] at ih'
        obtain ⟨X2, k1, k2⟩ := ih' X hA
        refine ⟨X2, ?_, k2⟩
        simp only [gB wB, h1, Option.bind_some, bc, if_neg (nI_ge hlt (by omega)), hgh, if_pos z1, qlt, nI_1]
        exact k1
      · by_cases z2 : sa g = -1
        · have hm : mtB sa sb mi (rd ce po c) h g = false := decide_eq_false (fun y => y.2.1 z2)
          rw [hm, if_neg (by decide)] at ih'
          obtain ⟨X2, k1, k2⟩ := ih' X hA
          refine ⟨X2, ?_, k2⟩
          simp only [gB wB, gN wN, h1, Option.bind_some, bc, if_neg (nI_ge hlt (by omega)), hgh, if_neg z1, l8, e2, (hs g hlt).1, if_pos z2, qlt, nI_1]
          exact k1
        · by_cases z3 : (1 : Int32) < mi - sa g
          · have hm : mtB sa sb mi (rd ce po c) h g = false := decide_eq_false (fun y => y.2.2.1 z3)
            rw [hm, if_neg (by decide)] at ih'
            obtain ⟨X2, k1, k2⟩ := ih' X hA
            refine ⟨X2, ?_, k2⟩
            simp only [gB wB, gN wN, h1, Option.bind_some, bc, if_neg (nI_ge hlt (by omega)), hgh, if_neg z1, l8, e2, (hs g hlt).1, if_neg z2, e0, if_pos z3, qlt, nI_1]
            exact k1
          · by_cases z4 : rd ce po c h = rd ce po c g
            · have hm : mtB sa sb mi (rd ce po c) h g = false := decide_eq_false (fun y => y.2.2.2.1 z4)
              rw [hm, if_neg (by decide)] at ih'
              obtain ⟨X2, k1, k2⟩ := ih' X hA
              refine ⟨X2, ?_, k2⟩
              have em : fX3_meet F X a b (nI h) (nI g) = some X := by
                simp only [fX3_meet, gN wN, h1, er1, er2, Option.bind_some, qlt, hab2, if_pos z4]
              simp only [gB wB, gN wN, h1, Option.bind_some, bc, if_neg (nI_ge hlt (by omega)), hgh, if_neg z1, l8, e2, (hs g hlt).1, if_neg z2, e0, if_neg z3, em, qlt, nI_1]
              exact k1
            · by_cases z5 : (sb h &&& sb g) &&& (ccM h g (rd ce po c h) (rd ce po c g) ^^^ (-1 : Int32)) = 0
              · have hm : mtB sa sb mi (rd ce po c) h g = false := decide_eq_false (fun y => y.2.2.2.2 z5)
                rw [hm, if_neg (by decide)] at ih'
                obtain ⟨X2, k1, k2⟩ := ih' X hA
                refine ⟨X2, ?_, k2⟩
                unfold ccM at z5
                have em : fX3_meet F X a b (nI h) (nI g) = some X := by
                  simp only [fX3_meet, gN wN, h1, er1, er2, Option.bind_some, qlt, hab2, if_neg z4, l8, lh, e4, (hs g hlt).2, (hs h hh).2, if_pos z5]
                simp only [gB wB, gN wN, h1, Option.bind_some, bc, if_neg (nI_ge hlt (by omega)), hgh, if_neg z1, l8, e2, (hs g hlt).1, if_neg z2, e0, if_neg z3, em, qlt, nI_1]
                exact k1
              · have hm : mtB sa sb mi (rd ce po c) h g = true := decide_eq_true ⟨z1, z2, z3, z4, z5⟩
                rw [hm, if_pos rfl] at ih'
                have e3 : gi X a 3 = hoS (mtB sa sb mi (rd ce po c) h) (rd ce po c h) (rd ce po c) ho g := by rw [h3, if_pos rfl]
                generalize hoS (mtB sa sb mi (rd ce po c) h) (rd ce po c h) (rd ce po c) ho g = H at ih' e3
                unfold ccM at z5
                have hpb := pairBit_ok (F := F) (X := X) (show rd ce po c h < 8 by omega) (show rd ce po c g < 8 by omega) z4
                generalize ((1 : Int32) <<< (nI (pIy (rd ce po c h) (rd ce po c g)) &&& 31)) = B at ih' hpb
                have em : fX3_meet F X a b (nI h) (nI g) = some (pI X a 3 (H ||| B)) := by
                  simp only [fX3_meet, gN wN, sN wN, h1, er1, er2, Option.bind_some, qlt, hab2, if_neg z4, l8, lh, e4, (hs g hlt).2, (hs h hh).2, if_neg z5, e3, hpb]
                have hX2 : shX (pI X a 3 (H ||| B)) = Y := by simp only [kN wN, h1]
                obtain ⟨X2, k1, k2⟩ := ih' (pI X a 3 (H ||| B)) ⟨hX2, fun q hq => (pV_ne hq).trans (h2 q hq), fun k => by
                  simp only [uN wN, h1]
                  by_cases y : k = 3
                  · rw [if_pos y, if_pos y]
                  · rw [if_neg y, if_neg y, h3, if_neg y]⟩
                refine ⟨X2, ?_, k2⟩
                simp only [gB wB, gN wN, h1, Option.bind_some, bc, if_neg (nI_ge hlt (by omega)), hgh, if_neg z1, l8, e2, (hs g hlt).1, if_neg z2, e0, if_neg z3, em, qlt, nI_1]
                exact k1
set_option maxHeartbeats 1000000 in
theorem light_L {F : Nat} {X0 Y : qH} {m w c sm h : Nat} {ce po : Nat → Nat} {sa sb rw0 : Nat → Int32} {mi : Int32} (wM : YM Y m) (hB : BM X0 m w c sm ce po) (hP : BP w c sm ce po) (hh : h < c) (hmi : ga X0 (m + 5) 2 = mi) (hs : ∀ g : Nat, g < c → ga X0 (m + 5) (11 + g) = sa g ∧ ga X0 (m + 5) (27 + g) = sb g) (hsa : ∀ g : Nat, g < c → sa g = -1 ∨ ¬ sa g < 0) (hF : 10 ≤ F) :
    ∀ (n g : Nat) (X : qH), g ≤ c → c - g < n → alI X0 Y m (rwS (mtB sa sb mi (rd ce po c) h) (rd ce po c h) (rd ce po c) rw0 g) X → ∃ X2, fX10_light_L68 F m (nI h) n (nI (nwS (mtB sa sb mi (rd ce po c) h) (rd ce po c h) (rd ce po c) rw0 g)) (nI g) X = some (nI (nwS (mtB sa sb mi (rd ce po c) h) (rd ce po c h) (rd ce po c) rw0 c), X2) ∧ alI X0 Y m (rwS (mtB sa sb mi (rd ce po c) h) (rd ce po c h) (rd ce po c) rw0 c) X2 := by
  intro n
  have c8 := hP.2.1
  induction n with
  | zero => intro g X hg hn; omega
  | succ n ih =>
    intro g X hg hn hA
    show ∃ X2, fX10_light_L68_B F m (nI h) (fX10_light_L68 F m (nI h) n) _ (nI g) X = _ ∧ _
    unfold fX10_light_L68_B
    obtain ⟨h1, h2, h3⟩ := id hA
    have hBX : BM X m w c sm ce po := hB.c (fun k _ => gi_congr (h2 m (by omega)) k) (h2 _ (by omega)) (h2 _ (by omega))
    have bc := hBX.2.1
    by_cases q : g = c
    · subst q
      refine ⟨X, ?_, hA⟩
      simp only [gM wM, h1, Option.bind_some, bc, if_pos (nI_le (Nat.le_refl g) (by omega))]
    · have hlt : g < c := by omega
      have ih' := fun X => ih (g + 1) X (by omega) (by omega)
      rw [rwS, nwS] at ih'
      have e11 : (11 : Int32) + nI g = nI (11 + g) := nI_add 11 g
      have e27 : (27 : Int32) + nI g = nI (27 + g) := nI_add 27 g
      have e27h : (27 : Int32) + nI h = nI (27 + h) := nI_add 27 h
      have l11 : 11 + g < 43 := by omega
      have l27 : 27 + g < 43 := by omega
      have l27h : 27 + h < 43 := by omega
      have a2 : ga X (m + 5) 2 = mi := by rw [h3, if_neg (by omega)]; exact hmi
      have a11 : ga X (m + 5) (11 + g) = sa g := by rw [h3, if_neg (by omega)]; exact (hs g hlt).1
      have a27 : ga X (m + 5) (27 + g) = sb g := by rw [h3, if_neg (by omega)]; exact (hs g hlt).2
      have a27h : ga X (m + 5) (27 + h) = sb h := by rw [h3, if_neg (by omega)]; exact (hs h hh).2
      have er1 := hBX.rd (F := F) (h := h) hP h1 wM hh hF
      have er2 := hBX.rd (F := F) (h := g) hP h1 wM hlt hF
      have hrd1 : rd ce po c h < c := rd_lt hh
      have hrd2 : rd ce po c g < c := rd_lt hlt
      have hgh := nI_eq (show g < 2 ^ 31 by omega) (show h < 2 ^ 31 by omega)
      have hab2 := nI_eq (show rd ce po c h < 2 ^ 31 by omega) (show rd ce po c g < 2 ^ 31 by omega)
      by_cases z1 : g = h
      · have hm : mtB sa sb mi (rd ce po c) h g = false := decide_eq_false (fun y => y.1 z1)
        rw [hm, if_neg (by decide), if_neg (by decide)] at ih'
        obtain ⟨X2, k1, k2⟩ := ih' X hA
        refine ⟨X2, ?_, k2⟩
        simp only [gM wM, h1, Option.bind_some, bc, if_neg (nI_ge hlt (by omega)), hgh, if_pos z1, if_true, qb2, Int32.add_zero, qlt, nI_1]
        exact k1
      · by_cases z2 : sa g = -1
        · have hm : mtB sa sb mi (rd ce po c) h g = false := decide_eq_false (fun y => y.2.1 z2)
          rw [hm, if_neg (by decide), if_neg (by decide)] at ih'
          obtain ⟨X2, k1, k2⟩ := ih' X hA
          refine ⟨X2, ?_, k2⟩
          have zn : sa g < 0 := by rw [z2]; decide
          simp only [gM wM, h1, Option.bind_some, bc, if_neg (nI_ge hlt (by omega)), hgh, if_neg z1, e11, l11, a11, if_pos zn, if_true, qb2, Int32.add_zero, qlt, nI_1]
          exact k1
        · have zn : ¬ sa g < 0 := (hsa g hlt).elim (fun y => absurd y z2) id
          by_cases z3 : (1 : Int32) < mi - sa g
          · have hm : mtB sa sb mi (rd ce po c) h g = false := decide_eq_false (fun y => y.2.2.1 z3)
            rw [hm, if_neg (by decide), if_neg (by decide)] at ih'
            obtain ⟨X2, k1, k2⟩ := ih' X hA
            refine ⟨X2, ?_, k2⟩
            simp only [gM wM, m5 wM, h1, Option.bind_some, bc, if_neg (nI_ge hlt (by omega)), hgh, if_neg z1, e11, l11, a11, a2, if_neg zn, if_pos z3, if_true, qb2, Int32.add_zero, qlt, nI_1]
            exact k1
          · by_cases z5 : (sb h &&& sb g) &&& (ccM h g (rd ce po c h) (rd ce po c g) ^^^ (-1 : Int32)) = 0
            · have hm : mtB sa sb mi (rd ce po c) h g = false := decide_eq_false (fun y => y.2.2.2.2 z5)
              rw [hm, if_neg (by decide), if_neg (by decide)] at ih'
              obtain ⟨X2, k1, k2⟩ := ih' X hA
              refine ⟨X2, ?_, k2⟩
              unfold ccM at z5
              have em : fX10_holds F X m (nI h) (nI g) = some (0, X) := by
                simp only [fX10_holds, gM wM, h1, er1, er2, Option.bind_some, e27, e27h, l27, l27h, a27, a27h, qlt, if_pos z5]
              simp only [gM wM, m5 wM, h1, Option.bind_some, bc, if_neg (nI_ge hlt (by omega)), hgh, if_neg z1, e11, l11, a11, a2, if_neg zn, if_neg z3, if_neg (show ¬ (1 : Int32) = 0 by decide), em, if_true, qb2, Int32.add_zero, qlt, nI_1]
              exact k1
            · by_cases z4 : rd ce po c h = rd ce po c g
              · have hm : mtB sa sb mi (rd ce po c) h g = false := decide_eq_false (fun y => y.2.2.2.1 z4)
                rw [hm, if_neg (by decide), if_neg (by decide)] at ih'
                obtain ⟨X2, k1, k2⟩ := ih' X hA
                refine ⟨X2, ?_, k2⟩
                unfold ccM at z5
                have em : fX10_holds F X m (nI h) (nI g) = some (0, X) := by
                  simp only [fX10_holds, gM wM, h1, er1, er2, Option.bind_some, e27, e27h, l27, l27h, a27, a27h, qlt, if_neg z5, hab2, if_pos z4]
                simp only [gM wM, m5 wM, h1, Option.bind_some, bc, if_neg (nI_ge hlt (by omega)), hgh, if_neg z1, e11, l11, a11, a2, if_neg zn, if_neg z3, if_neg (show ¬ (1 : Int32) = 0 by decide), em, if_true, qb2, Int32.add_zero, qlt, nI_1]
                exact k1
              · have hm : mtB sa sb mi (rd ce po c) h g = true := decide_eq_true ⟨z1, z2, z3, z4, z5⟩
                rw [hm, if_pos rfl, if_pos rfl] at ih'
                generalize rd ce po c h = p at *
                generalize rd ce po c g = r at *
                have e35 : (35 : Int32) + nI p = nI (35 + p) := nI_add 35 p
                have e35r : (35 : Int32) + nI r = nI (35 + r) := nI_add 35 r
                have l35 : 35 + p < 43 := by omega
                have l35r : 35 + r < 43 := by omega
                have a35 : ga X (m + 5) (35 + p) = rwS (mtB sa sb mi (rd ce po c) h) p (rd ce po c) rw0 g p := by rw [h3, if_pos (by omega), Nat.add_sub_cancel_left]
                have a35r : ga X (m + 5) (35 + r) = rwS (mtB sa sb mi (rd ce po c) h) p (rd ce po c) rw0 g r := by rw [h3, if_pos (by omega), Nat.add_sub_cancel_left]
                generalize rwS (mtB sa sb mi (rd ce po c) h) p (rd ce po c) rw0 g = W at *
                generalize nwS (mtB sa sb mi (rd ce po c) h) p (rd ce po c) rw0 g = N at *
                unfold ccM at z5
                have k3 := hasM_ok (F := F) (X := X) (x := W p) (q := r) (by omega)
                by_cases z6 : tb (W p) r
                · rw [if_pos (show (W p).toBitVec.getLsbD r = true from z6), if_pos (show (W p).toBitVec.getLsbD r = true from z6)] at ih'
                  obtain ⟨X2, k1, k2⟩ := ih' X hA
                  refine ⟨X2, ?_, k2⟩
                  have em : fX10_holds F X m (nI h) (nI g) = some (0, X) := by
                    simp only [fX10_holds, gM wM, h1, er1, er2, Option.bind_some, e27, e27h, l27, l27h, a27, a27h, qlt, if_neg z5, hab2, if_neg z4, e35, l35, a35, k3.1 z6, if_neg (show ¬ (1 : Int32) = 0 by decide)]
                  simp only [gM wM, m5 wM, h1, Option.bind_some, bc, if_neg (nI_ge hlt (by omega)), hgh, if_neg z1, e11, l11, a11, a2, if_neg zn, if_neg z3, if_neg (show ¬ (1 : Int32) = 0 by decide), em, if_true, qb2, Int32.add_zero, qlt, nI_1]
                  exact k1
                · rw [if_neg (show ¬ (W p).toBitVec.getLsbD r = true from z6), if_neg (show ¬ (W p).toBitVec.getLsbD r = true from z6)] at ih'
                  have hXa : shX (pA X (m + 5) (35 + p) (W p ||| ((1 : Int32) <<< (nI r &&& 31)))) = Y := shX_pA h1 wM.p5 _ _
                  have hXb : shX (pA (pA X (m + 5) (35 + p) (W p ||| ((1 : Int32) <<< (nI r &&& 31)))) (m + 5) (35 + r) (W r ||| ((1 : Int32) <<< (nI p &&& 31)))) = Y := shX_pA hXa wM.p5 _ _
                  have ub : ga (pA X (m + 5) (35 + p) (W p ||| ((1 : Int32) <<< (nI r &&& 31)))) (m + 5) (35 + r) = W r := by
                    rw [ga_pA_self h1 wM.p5, upd_ne _ (by omega)]; exact a35r
                  have em : fX10_holds F X m (nI h) (nI g) = some (1, pA (pA X (m + 5) (35 + p) (W p ||| ((1 : Int32) <<< (nI r &&& 31)))) (m + 5) (35 + r) (W r ||| ((1 : Int32) <<< (nI p &&& 31)))) := by
                    simp only [fX10_holds, gM wM, sM wM, h1, er1, er2, Option.bind_some, e27, e27h, l27, l27h, a27, a27h, qlt, if_neg z5, hab2, if_neg z4, e35, e35r, l35, l35r, a35, k3.2 z6, if_true, hXa, ub]
                  obtain ⟨X2, k1, k2⟩ := ih' (pA (pA X (m + 5) (35 + p) (W p ||| ((1 : Int32) <<< (nI r &&& 31)))) (m + 5) (35 + r) (W r ||| ((1 : Int32) <<< (nI p &&& 31)))) ⟨hXb, fun y hy => (pA_ne hy).trans ((pA_ne hy).trans (h2 y hy)), fun k => by
                    rw [ga_pA_self hXa wM.p5, ga_pA_self h1 wM.p5]
                    unfold gset
                    by_cases y1 : k = 35 + r
                    · subst y1
                      rw [upd_self, if_pos (by omega), Nat.add_sub_cancel_left, upd_self]
                    · rw [upd_ne _ y1]
                      by_cases y2 : k = 35 + p
                      · subst y2
                        rw [upd_self, if_pos (by omega), Nat.add_sub_cancel_left, upd_ne _ (by omega), upd_self]
                      · rw [upd_ne _ y2, h3]
                        by_cases y3 : 35 ≤ k ∧ k < 43
                        · rw [if_pos y3, if_pos y3, upd_ne _ (by omega), upd_ne _ (by omega)]
                        · rw [if_neg y3, if_neg y3]⟩
                  refine ⟨X2, ?_, k2⟩
                  simp only [gM wM, m5 wM, h1, Option.bind_some, bc, if_neg (nI_ge hlt (by omega)), hgh, if_neg z1, e11, l11, a11, a2, if_neg zn, if_neg z3, if_neg (show ¬ (1 : Int32) = 0 by decide), em, qb2, qlt, nI_1]
                  exact k1
