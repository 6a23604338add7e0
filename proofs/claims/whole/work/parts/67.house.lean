/-! bay: the clause h -/
theorem houseOn_m1L {F : Nat} {X Y : qH} {b c : Nat} {ce : Nat → Nat} (hX : shX X = Y) (hB : YB Y b) (h5 : gi X b 5 = nI c) (c8 : c ≤ 8) (hce : ∀ g : Nat, g < c → ga X (b + 1) g = nI (ce g) ∧ ce g < 30) :
    ∀ (n g : Nat), g ≤ c → c - g < n → fX0_houseOn_L2 F X b (-1) n (nI g) = some (.inr ()) := by
  intro n
  induction n with
  | zero => intro g hg hn; omega
  | succ n ih =>
    intro g hg hn
    show fX0_houseOn_L2_B F X b (-1) (fX0_houseOn_L2 F X b (-1) n) (nI g) = _
    unfold fX0_houseOn_L2_B
    by_cases hgc : g = c
    · subst hgc
      simp only [gB hB, hX, Option.bind_some, h5, if_pos (nI_le (Nat.le_refl g) (by omega))]
    · have hlt : g < c := by omega
      have l1 : g < 8 := by omega
      have c1 := (hce g hlt).2
      simp only [gB hB, hX, Option.bind_some, h5, if_neg (nI_ge hlt (by omega)), l1, (hce g hlt).1, qlt, nI_1, if_neg (nI_m1 (show ce g < 100 by omega))]
      exact ih (g + 1) (by omega) (by omega)
theorem houseOn_m1 {F : Nat} {X Y : qH} {b c : Nat} {ce : Nat → Nat} (hX : shX X = Y) (hB : YB Y b) (h5 : gi X b 5 = nI c) (c8 : c ≤ 8) (hce : ∀ g : Nat, g < c → ga X (b + 1) g = nI (ce g) ∧ ce g < 30) (hF : 10 ≤ F) : fX0_houseOn F X b (-1) = some (-1) := by
  have e := houseOn_m1L (F := F) hX hB h5 c8 hce F 0 (by omega) (by omega)
  rw [show nI 0 = (0 : Int32) from rfl] at e
  simp only [fX0_houseOn, gB hB, hX, e, Option.bind_some]
  rfl
def hsF (tx : Nat → Nat) (N w cnt : Nat) (ce st : Nat → Nat) (p : Nat) : Nat := if nmF tx N 0 (w - 1) p = 0 then (if lsF ce (nmV tx N p) cnt = -1 then (if nmF tx N 1 9 (nmE tx N p) = 0 then (if nmF tx N 0 9 (nmE tx N (nmE tx N p)) = 0 then ssF tx N cnt st (nmE tx N (nmE tx N (nmE tx N p))) else nmF tx N 0 9 (nmE tx N (nmE tx N p))) else nmF tx N 1 9 (nmE tx N p)) else 4) else nmF tx N 0 (w - 1) p
def hsP (tx : Nat → Nat) (N w cnt : Nat) (ce : Nat → Nat) (p : Nat) : Nat := if nmF tx N 0 (w - 1) p = 0 then (if lsF ce (nmV tx N p) cnt = -1 then (if nmF tx N 1 9 (nmE tx N p) = 0 then (if nmF tx N 0 9 (nmE tx N (nmE tx N p)) = 0 then ssP tx N (nmE tx N (nmE tx N (nmE tx N p))) else sk tx N (nmE tx N (nmE tx N p))) else sk tx N (nmE tx N p)) else sk tx N p) else sk tx N p
theorem ssF_10 {tx : Nat → Nat} {N cnt p : Nat} {st : Nat → Nat} (h : ssF tx N cnt st p ≠ 0) : 0 < ssF tx N cnt st p ∧ ssF tx N cnt st p < 10 := by
  refine ⟨by omega, ?_⟩
  unfold ssF
  split
  · omega
  · split <;> omega
theorem hsF_10 {tx : Nat → Nat} {N w cnt p : Nat} {ce st : Nat → Nat} (h : hsF tx N w cnt ce st p ≠ 0) : 0 < hsF tx N w cnt ce st p ∧ hsF tx N w cnt ce st p < 10 := by
  refine ⟨by omega, ?_⟩
  unfold hsF at h ⊢
  split
  · rename_i q1
    rw [if_pos q1] at h
    split
    · rename_i q2
      rw [if_pos q2] at h
      split
      · rename_i q3
        rw [if_pos q3] at h
        split
        · rename_i q4
          rw [if_pos q4] at h
          exact (ssF_10 h).2
        · rename_i q4; exact (nmF_10 q4).2
      · rename_i q3; exact (nmF_10 q3).2
    · omega
  · rename_i q1; exact (nmF_10 q1).2
theorem hsF_0 {tx : Nat → Nat} {N w cnt p : Nat} {ce st : Nat → Nat} (h : hsF tx N w cnt ce st p = 0) : nmF tx N 0 (w - 1) p = 0 ∧ lsF ce (nmV tx N p) cnt = -1 ∧ nmF tx N 1 9 (nmE tx N p) = 0 ∧ nmF tx N 0 9 (nmE tx N (nmE tx N p)) = 0 ∧ ssF tx N cnt st (nmE tx N (nmE tx N (nmE tx N p))) = 0 := by
  unfold hsF at h
  split at h
  · rename_i q1
    split at h
    · rename_i q2
      split at h
      · rename_i q3
        split at h
        · rename_i q4
          exact ⟨q1, q2, q3, q4, h⟩
        · rename_i q4; exact absurd h q4
      · rename_i q3; exact absurd h q3
    · omega
  · rename_i q1; exact absurd h q1
def hch (F a b : Nat) (X3 : qH) (hi : Int32) (K : Int32 → Int32 → Int32 → Int32 → qH → Option qH) : Option qH := qb2 (fX6_readNumber F X3 a (0 : Int32) hi) fun v5 X6 => (fX0_houseOn F X6 b v5).bind fun v7 => (if v7 = (-1 : Int32) then (some X6) else ((qgI X6 6 a 3).bind fun v19 => (fX6_fail F X6 a (4 : Int32) v19).bind fun X20 => some X20) : Option qH).bind fun X8 => qb2 (fX6_readNumber F X8 a (1 : Int32) (9 : Int32)) fun v9 X10 => qb2 (fX6_readNumber F X10 a (0 : Int32) (9 : Int32)) fun v11 X12 => qb2 (fX6_readStars F X12 a b) fun v13 X14 => K v5 v9 v11 v13 X14
section HSE
variable {F : Nat} {X0 X Y : qH} {sz N p : Nat} {tx : Nat → Nat}
set_option maxHeartbeats 1000000 in
theorem c_house (w6 : Y6 Y (sz + 12)) (w9 : Y9 Y sz) (hF : 1000 ≤ F) {b cnt w : Nat} {ce st : Nat → Nat} (wB : YB Y b) (hb : b + 5 ≤ sz + 12) (c8 : cnt ≤ 8) (hw : 2 ≤ w ∧ w ≤ 30) (hc : gi X0 b 5 = nI cnt) (hce : ∀ g : Nat, g < cnt → ga X0 (b + 1) g = nI (ce g) ∧ ce g < 30) (hci : ∀ x y : Nat, x < cnt → y < cnt → ce x = ce y → x = y) (hst : ∀ g : Nat, g < cnt → ga X0 (b + 4) g = nI (st g) ∧ st g < 100000) (hij : ∀ x y : Nat, x < cnt → y < cnt → st x = st y → x = y) (h : RC X0 Y sz N tx 0 (-1) p X) :
    (hsF tx N w cnt ce st p = 0 → ∃ X14, (∀ K, hch F (sz + 12) b X (nI (w - 1)) K = K (nI (nmV tx N p)) (nI (nmV tx N (nmE tx N p))) (nI (nmV tx N (nmE tx N (nmE tx N p)))) (nI (stN (sdF tx (sk tx N (nmE tx N (nmE tx N (nmE tx N p))))) (snN tx N (nmE tx N (nmE tx N (nmE tx N p)))))) X14) ∧ RC X0 Y sz N tx 0 (-1) (sk tx N (nmE tx N (nmE tx N (nmE tx N p))) + snN tx N (nmE tx N (nmE tx N (nmE tx N p)))) X14) ∧
    (hsF tx N w cnt ce st p ≠ 0 → ∃ v5 v9 v11 v13 X14 p2, (∀ K, hch F (sz + 12) b X (nI (w - 1)) K = K v5 v9 v11 v13 X14) ∧ RC X0 Y sz N tx (hsF tx N w cnt ce st p) (nI (hsP tx N w cnt ce p)) p2 X14) := by
  obtain ⟨n1, n2⟩ := c_num (F := F) (lo := 0) (hi := w - 1) w6 w9 hF (by omega) (by omega) h
  have hom : ∀ (f p2 : Nat) (fp : Int32) (X6 : qH), RC X0 Y sz N tx f fp p2 X6 → fX0_houseOn F X6 b (-1) = some (-1) := fun f p2 fp X6 q =>
    houseOn_m1 q.1 wB (by rw [gi_congr (q.2.1 b (by omega))]; exact hc) c8 (fun g hg => by rw [ga_congr (q.2.1 (b + 1) (by omega))]; exact hce g hg) (by omega)
  unfold hsF hsP
  by_cases f1 : nmF tx N 0 (w - 1) p = 0
  · rw [if_pos f1, if_pos f1]
    obtain ⟨X6, a1, a2, a3⟩ := n1 f1
    have a1' : fX6_readNumber F X (sz + 12) (0 : Int32) (nI (w - 1)) = some (nI (nmV tx N p), X6) := a1
    have i1 := nmF_in f1
    have ho := houseOn_ok (F := F) (p := nmV tx N p) a2.1 wB (by rw [gi_congr (a2.2.1 b (by omega))]; exact hc) c8 (fun g hg => by rw [ga_congr (a2.2.1 (b + 1) (by omega))]; exact hce g hg) (by omega) hci (by omega)
    by_cases f2 : lsF ce (nmV tx N p) cnt = -1
    · rw [if_pos f2, if_pos f2]
      obtain ⟨o1, o2⟩ := c_num (F := F) (lo := 1) (hi := 9) w6 w9 hF (by omega) (by omega) a2
      by_cases f3 : nmF tx N 1 9 (nmE tx N p) = 0
      · rw [if_pos f3, if_pos f3]
        obtain ⟨X10, b1, b2, -⟩ := o1 f3
        have b1' : fX6_readNumber F X6 (sz + 12) (1 : Int32) (9 : Int32) = some (nI (nmV tx N (nmE tx N p)), X10) := b1
        obtain ⟨r1, r2⟩ := c_num (F := F) (lo := 0) (hi := 9) w6 w9 hF (by omega) (by omega) b2
        by_cases f4 : nmF tx N 0 9 (nmE tx N (nmE tx N p)) = 0
        · rw [if_pos f4, if_pos f4]
          obtain ⟨X12, d1, d2, -⟩ := r1 f4
          have d1' : fX6_readNumber F X10 (sz + 12) (0 : Int32) (9 : Int32) = some (nI (nmV tx N (nmE tx N (nmE tx N p))), X12) := d1
          obtain ⟨s1, s2⟩ := c_stars (F := F) (st := st) w6 w9 hF wB hb c8 hc hst hij d2
          refine ⟨fun z => ?_, fun z => ?_⟩
          · obtain ⟨X14, e1, e2⟩ := s1 z
            exact ⟨X14, fun K => by simp only [hch, a1', qb2, Option.bind_some, ho, f2, if_true, b1', d1', e1], e2⟩
          · obtain ⟨v, X14, p2, e1, e2⟩ := s2 z
            exact ⟨nI (nmV tx N p), nI (nmV tx N (nmE tx N p)), nI (nmV tx N (nmE tx N (nmE tx N p))), v, X14, p2, fun K => by simp only [hch, a1', qb2, Option.bind_some, ho, f2, if_true, b1', d1', e1], e2⟩
        · rw [if_neg f4, if_neg f4]
          refine ⟨fun z => absurd z f4, fun z => ?_⟩
          obtain ⟨X12, p2, d1, d2⟩ := r2 f4
          have d1' : fX6_readNumber F X10 (sz + 12) (0 : Int32) (9 : Int32) = some (-1, X12) := d1
          have e1 := c_stars_dead (F := F) w6 d2 (nmF_10 f4) b
          exact ⟨nI (nmV tx N p), nI (nmV tx N (nmE tx N p)), -1, -1, X12, p2, fun K => by simp only [hch, a1', qb2, Option.bind_some, ho, f2, if_true, b1', d1', e1], d2⟩
      · rw [if_neg f3, if_neg f3]
        refine ⟨fun z => absurd z f3, fun z => ?_⟩
        obtain ⟨X10, p2, b1, b2⟩ := o2 f3
        have b1' : fX6_readNumber F X6 (sz + 12) (1 : Int32) (9 : Int32) = some (-1, X10) := b1
        have d1 := c_num_dead (F := F) w6 b2 (nmF_10 f3) (0 : Int32) (9 : Int32)
        have e1 := c_stars_dead (F := F) w6 b2 (nmF_10 f3) b
        exact ⟨nI (nmV tx N p), -1, -1, -1, X10, p2, fun K => by simp only [hch, a1', qb2, Option.bind_some, ho, f2, if_true, b1', d1, e1], b2⟩
    · rw [if_neg f2, if_neg f2]
      refine ⟨fun z => by omega, fun z => ?_⟩
      obtain ⟨X8, b1, b2⟩ := c_fail (F := F) w6 a2 (k := 4) (by omega) (nI (sk tx N p))
      have b1' : fX6_fail F X6 (sz + 12) (4 : Int32) (nI (sk tx N p)) = some X8 := b1
      have c1 := c_num_dead (F := F) w6 b2 (by omega) (1 : Int32) (9 : Int32)
      have d1 := c_num_dead (F := F) w6 b2 (by omega) (0 : Int32) (9 : Int32)
      have e1 := c_stars_dead (F := F) w6 b2 (by omega) b
      exact ⟨nI (nmV tx N p), -1, -1, -1, X8, _, fun K => by simp only [hch, a1', qb2, Option.bind_some, ho, if_neg f2, g6 w6, a2.1, a3, b1', c1, d1, e1], b2⟩
  · rw [if_neg f1, if_neg f1]
    refine ⟨fun z => absurd z f1, fun z => ?_⟩
    obtain ⟨X6, p2, a1, a2⟩ := n2 f1
    have a1' : fX6_readNumber F X (sz + 12) (0 : Int32) (nI (w - 1)) = some (-1, X6) := a1
    have ho := hom _ _ _ _ a2
    have c1 := c_num_dead (F := F) w6 a2 (nmF_10 f1) (1 : Int32) (9 : Int32)
    have d1 := c_num_dead (F := F) w6 a2 (nmF_10 f1) (0 : Int32) (9 : Int32)
    have e1 := c_stars_dead (F := F) w6 a2 (nmF_10 f1) b
    exact ⟨-1, -1, -1, -1, X6, p2, fun K => by simp only [hch, a1', qb2, Option.bind_some, ho, if_true, c1, d1, e1], a2⟩
end HSE
theorem settle_ok {F : Nat} {X Y : qH} {b cnt : Nat} (wB : YB Y b) (hX : shX X = Y) (c8 : cnt < 8) (hc : gi X b 5 = nI cnt) (v1 v2 v3 v4 : Int32) :
    ∃ X2, fX0_settle F X b v1 v2 v3 v4 = some X2 ∧ shX X2 = Y ∧ (∀ q : Nat, q < b ∨ b + 5 ≤ q → X2 q = X q) ∧ (∀ k : Nat, gi X2 b k = if k = 5 then nI (cnt + 1) else gi X b k) ∧ (∀ i : Nat, ga X2 (b + 1) i = if i = cnt then v1 else ga X (b + 1) i) ∧ (∀ i : Nat, ga X2 (b + 2) i = if i = cnt then v2 else ga X (b + 2) i) ∧ (∀ i : Nat, ga X2 (b + 3) i = if i = cnt then v3 else ga X (b + 3) i) ∧ ∀ i : Nat, ga X2 (b + 4) i = if i = cnt then v4 else ga X (b + 4) i := by
  have k1 : shX (pA X (b + 1) cnt v1) = Y := by simp only [kB wB, hX]
  have k2 : shX (pA (pA X (b + 1) cnt v1) (b + 2) cnt v2) = Y := by simp only [kB wB, k1]
  have k3 : shX (pA (pA (pA X (b + 1) cnt v1) (b + 2) cnt v2) (b + 3) cnt v3) = Y := by simp only [kB wB, k2]
  have k4 : shX (pA (pA (pA (pA X (b + 1) cnt v1) (b + 2) cnt v2) (b + 3) cnt v3) (b + 4) cnt v4) = Y := by simp only [kB wB, k3]
  have k5 : shX (pI (pA (pA (pA (pA X (b + 1) cnt v1) (b + 2) cnt v2) (b + 3) cnt v3) (b + 4) cnt v4) b 5 (nI (cnt + 1))) = Y := by simp only [kB wB, k4]
  have uu : ∀ (fn : Nat → Int32) (v : Int32) (i : Nat), upd fn cnt v i = if i = cnt then v else fn i := fun fn v i => by
    by_cases y : i = cnt
    · subst y; rw [upd_self, if_pos rfl]
    · rw [upd_ne _ y, if_neg y]
  refine ⟨pI (pA (pA (pA (pA X (b + 1) cnt v1) (b + 2) cnt v2) (b + 3) cnt v3) (b + 4) cnt v4) b 5 (nI (cnt + 1)), ?_, k5, fun q hq => ?_, fun k => ?_, fun i => ?_, fun i => ?_, fun i => ?_, fun i => ?_⟩
  · have l8 : nI cnt < (8 : Int32) := nI_lt (b := 8) c8 (by decide)
    simp only [fX0_settle, gB wB, sB wB, hX, k1, k2, k3, k4, hc, gi_pA, Option.bind_some, if_pos l8, c8, qlt, nI_1]
  · exact (pV_ne (by omega)).trans ((pA_ne (by omega)).trans ((pA_ne (by omega)).trans ((pA_ne (by omega)).trans (pA_ne (by omega)))))
  · simp only [uB wB, k4, gi_pA]
  · rw [ga_pI, ga_pA_ne (by omega), ga_pA_ne (by omega), ga_pA_ne (by omega), ga_pA_self hX wB.2.1]; exact uu _ _ _
  · rw [ga_pI, ga_pA_ne (by omega), ga_pA_ne (by omega), ga_pA_self k1 wB.2.2.1, ga_pA_ne (by omega)]; exact uu _ _ _
  · rw [ga_pI, ga_pA_ne (by omega), ga_pA_self k2 wB.2.2.2.1, ga_pA_ne (by omega), ga_pA_ne (by omega)]; exact uu _ _ _
  · rw [ga_pI, ga_pA_self k3 wB.2.2.2.2, ga_pA_ne (by omega), ga_pA_ne (by omega), ga_pA_ne (by omega)]; exact uu _ _ _
