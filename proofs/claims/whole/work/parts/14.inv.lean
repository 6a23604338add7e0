/-! THE INVARIANT between FireworkDeeds (at sz) and FireworkDeedsModel (at sz + 151), over one heap -/
/-- bit q of a set -/
def tb (x : Int32) (q : Nat) : Prop := x.toBitVec.getLsbD q = true
/-- the place of two houses in 'holds' -/
def pIx (p q : Nat) : Nat := q * (q - 1) / 2 + p
/-- contracts: the class's 28 bits, the model's eight rows; of c houses alone -/
def HR (ho : Int32) (g : Nat → Int32) (c : Nat) : Prop :=
  (∀ p q : Nat, p < q → q < 8 → ((tb ho (pIx p q) ↔ tb (g p) q) ∧ (tb (g p) q ↔ tb (g q) p))) ∧ (∀ i : Nat, 28 ≤ i → ¬ tb ho i) ∧ (∀ p q : Nat, p < 8 → c ≤ q → ¬ tb (g p) q)
/-- a Night at a, and 43 ints of the model; of c houses alone (before the first bay() the model's rows hold 0 where the class has -1) -/
def NR (X : qH) (a : Nat) (g : Nat → Int32) (c : Nat) : Prop :=
  gi X a 0 = g 2 ∧ gi X a 1 = g 0 ∧ gi X a 2 = g 1 ∧ (∀ h : Nat, h < c → ga X (a + 1) h = g (3 + h) ∧ ga X (a + 2) h = g (11 + h) ∧ ga X (a + 3) h = g (19 + h) ∧ ga X (a + 4) h = g (27 + h)) ∧ HR (gi X a 3) (fun k => g (35 + k)) c
/-- what such a row holds -/
def GI (g : Nat → Int32) (c : Nat) : Prop :=
  (∃ mi : Nat, mi ≤ 90105 ∧ g 2 = nI mi) ∧ (∃ fo : Nat, fo ≤ 20 ∧ g 0 = nI fo) ∧ (∃ wi : Nat, wi ≤ 10 ∧ g 1 = nI wi - 5) ∧ ∀ h : Nat, h < c → (∃ r : Nat, r ≤ 9 ∧ g (3 + h) = nI r) ∧ (g (11 + h) = -1 ∨ ∃ t : Nat, t ≤ 90105 ∧ g (11 + h) = nI t) ∧ (g (19 + h) = -1 ∨ ∃ x : Nat, x < 30 ∧ g (19 + h) = nI x)
def IT (X : qH) (sz : Nat) : Prop := ∃ n : Nat, n ≤ 230 ∧ gi X sz 1 = nI n ∧ gi X (sz + 151) 11 = nI n ∧ ∀ i : Nat, i < n → ga X (sz + 1) i = ga X (sz + 151 + 6) i ∧ ∃ c : Nat, c ≤ 255 ∧ ga X (sz + 1) i = nI c
/-- stars as a number: the first of n figures d is the greatest -/
def stN (d : Nat → Nat) : Nat → Nat
  | 0 => 0
  | n + 1 => 10 * stN d n + d n
/-- the bay at b: w cells, c houses, by its cells ce, powder po, stars' figures d (n h of them) -/
def IBc (X : qH) (sz b w c : Nat) (ce po n : Nat → Nat) (d : Nat → Nat → Nat) : Prop :=
  (gr X sz 3 = b ∧ ((b = sz + 2 ∧ gr X sz 4 = sz + 7) ∨ (b = sz + 7 ∧ gr X sz 4 = sz + 2))) ∧
  (gi X b 0 = nI w ∧ gi X (sz + 151) 0 = nI w ∧ w ≤ 30) ∧ (gi X b 5 = nI c ∧ gi X (sz + 151) 1 = nI c ∧ c ≤ 8 ∧ (w = 0 → c = 0)) ∧
  (∃ sm : Nat, sm ≤ 9 ∧ gi X b 3 = nI sm ∧ gi X (sz + 151) 6 = nI sm) ∧ (∃ da : Nat, da ≤ 100 ∧ gi X b 4 = nI da ∧ gi X (sz + 151) 7 = nI da) ∧
  (∀ h : Nat, h < c → (ga X (b + 1) h = nI (ce h) ∧ ga X (sz + 151 + 1) h = nI (ce h) ∧ ce h < w) ∧ (ga X (b + 2) h = nI (po h) ∧ ga X (sz + 151 + 2) h = nI (po h) ∧ 1 ≤ po h ∧ po h ≤ 9) ∧
    (ga X (sz + 151 + 3) h = nI (n h) ∧ 1 ≤ n h ∧ n h ≤ 5 ∧ ga X (b + 4) h = nI (stN (d h) (n h))) ∧ ∀ k : Nat, k < n h → ga X (sz + 151 + 4) (5 * h + k) = nI (d h k) ∧ 1 ≤ d h k ∧ d h k ≤ 5) ∧
  (∀ h g : Nat, h < c → g < c → ce h = ce g → h = g) ∧ (∀ h g : Nat, h < c → g < c → stN (d h) (n h) = stN (d g) (n g) → h = g)
def IB (X : qH) (sz : Nat) : Prop := ∃ b w c ce po n d, IBc X sz b w c ce po n d
/-- what can be undone: the class's ring, the model's rows -/
def IP (X : qH) (sz : Nat) : Prop := ∃ c cnt nx : Nat, c ≤ 8 ∧ gi X (sz + 151) 1 = nI c ∧ cnt ≤ 20 ∧ nx < 20 ∧ gi X (sz + 19) 2 = nI cnt ∧ gi X (sz + 19) 1 = nI nx ∧ gi X (sz + 151) 27 = nI cnt ∧
  ∀ j : Nat, j < cnt → NR X (sz + 19 + 2 + 5 * ((nx + 20 - cnt + j) % 20)) (fun k => ga X (sz + 151 + 15) (43 * j + k)) c ∧ GI (fun k => ga X (sz + 151 + 15) (43 * j + k)) c
def INw (X : qH) (sz : Nat) : Prop := ∃ c : Nat, c ≤ 8 ∧ gi X (sz + 151) 1 = nI c ∧ NR X (sz + 14) (fun k => ga X (sz + 151 + 5) k) c ∧ GI (fun k => ga X (sz + 151 + 5) k) c
def II (X : qH) (sz : Nat) : Prop := ∃ c : Nat, c ≤ 8 ∧ gi X (sz + 151) 1 = nI c ∧ ∀ i : Nat, i < 2 → (ga X (sz + 132) i = ga X (sz + 151 + 26) i) ∧ (ga X (sz + 132) i = 0 ∨ (ga X (sz + 132) i = 1 ∧ NR X (sz + 121 + 1 + 5 * i) (fun k => ga X (sz + 151 + 25) (44 * i + k)) c ∧ GI (fun k => ga X (sz + 151 + 25) (44 * i + k)) c ∧ ga X (sz + 133) i = ga X (sz + 151 + 25) (44 * i + 43) ∧ 0 ≤ ga X (sz + 133) i))
def ID (X : qH) (sz : Nat) : Prop := ∃ n : Nat, n ≤ 6 ∧ gi X (sz + 144) 0 = nI n ∧ gi X (sz + 151) 33 = nI n ∧ ∀ i : Nat, i < n → ga X (sz + 144 + 1) i = ga X (sz + 151 + 20) i ∧ ga X (sz + 144 + 2) i = ga X (sz + 151 + 21) i
def IK (X : qH) (sz : Nat) : Prop := ∃ n c : Nat, n ≤ 15 ∧ c ≤ 8 ∧ gi X (sz + 151) 1 = nI c ∧ gi X (sz + 147) 0 = nI n ∧ gi X (sz + 151) 36 = nI n ∧ ∀ i : Nat, i < n → ga X (sz + 147 + 1) i = ga X (sz + 151 + 22) i ∧ ga X (sz + 147 + 2) i = ga X (sz + 151 + 23) i ∧ ga X (sz + 147 + 3) i = ga X (sz + 151 + 24) i ∧ (ga X (sz + 147 + 3) i = 0 ∨ ga X (sz + 147 + 3) i = 1) ∧ ∃ p q : Nat, p < c ∧ q < c ∧ p ≠ q ∧ ga X (sz + 147 + 1) i = nI p ∧ ga X (sz + 147 + 2) i = nI q
def IFt (X : qH) (sz : Nat) : Prop := gi X sz 2 = gi X (sz + 151) 12
def ISd (X : qH) (sz : Nat) : Prop := gi X sz 5 = gi X (sz + 151) 9 ∧ 0 ≤ gi X sz 5
def Rel (X : qH) (sz : Nat) : Prop := IT X sz ∧ IFt X sz ∧ ISd X sz ∧ IB X sz ∧ INw X sz ∧ IP X sz ∧ II X sz ∧ ID X sz ∧ IK X sz
def Inv (X : qH) (sz : Nat) : Prop := YW (shX X) sz ∧ Rel X sz
/-! each part looks at some places alone -/
theorem NR.c {X X2 : qH} {a c : Nat} {g g2 : Nat → Int32} (h : NR X a g c) (hc8 : c ≤ 8) (hc : ∀ q : Nat, a ≤ q → q < a + 5 → X2 q = X q) (hg : ∀ k : Nat, k < 43 → g2 k = g k) : NR X2 a g2 c := by
  obtain ⟨h1, h2, h3, h4, h5, h6, h7⟩ := h
  have ea : ∀ k, gi X2 a k = gi X a k := fun k => gi_congr (hc a (by omega) (by omega)) k
  have e : ∀ j, 1 ≤ j → j ≤ 4 → ga X2 (a + j) = ga X (a + j) := fun j _ _ => ga_congr (hc (a + j) (by omega) (by omega))
  refine ⟨by rw [ea, hg 2 (by omega)]; exact h1, by rw [ea, hg 0 (by omega)]; exact h2, by rw [ea, hg 1 (by omega)]; exact h3, fun h hh => ?_, ?_⟩
  · obtain ⟨a1, a2, a3, a4⟩ := h4 h hh
    exact ⟨by rw [e 1 (by omega) (by omega), hg (3 + h) (by omega)]; exact a1, by rw [e 2 (by omega) (by omega), hg (11 + h) (by omega)]; exact a2, by rw [e 3 (by omega) (by omega), hg (19 + h) (by omega)]; exact a3, by rw [e 4 (by omega) (by omega), hg (27 + h) (by omega)]; exact a4⟩
  · rw [ea]
    refine ⟨fun p q hp hq => ?_, h6, fun p q hp hq => ?_⟩
    · dsimp only
      rw [hg (35 + p) (by omega), hg (35 + q) (by omega)]
      exact h5 p q hp hq
    · dsimp only
      rw [hg (35 + p) (by omega)]
      exact h7 p q hp hq
theorem GI.c {c : Nat} {g g2 : Nat → Int32} (h : GI g c) (hc8 : c ≤ 8) (hg : ∀ k : Nat, k < 43 → g2 k = g k) : GI g2 c := by
  obtain ⟨h1, h2, h3, h4⟩ := h
  refine ⟨by rw [hg 2 (by omega)]; exact h1, by rw [hg 0 (by omega)]; exact h2, by rw [hg 1 (by omega)]; exact h3, fun h hh => ?_⟩
  obtain ⟨a1, a2, a3⟩ := h4 h hh
  exact ⟨by rw [hg (3 + h) (by omega)]; exact a1, by rw [hg (11 + h) (by omega)]; exact a2, by rw [hg (19 + h) (by omega)]; exact a3⟩
section IC
variable {X X2 : qH} {sz : Nat}
theorem IT.c (h : IT X sz) (h1 : gi X2 sz 1 = gi X sz 1) (h2 : gi X2 (sz + 151) 11 = gi X (sz + 151) 11) (h3 : X2 (sz + 1) = X (sz + 1)) (h4 : X2 (sz + 157) = X (sz + 157)) : IT X2 sz := by
  obtain ⟨n, a1, a2, a3, a4⟩ := h
  have e3 := ga_congr h3
  have e4 : ga X2 (sz + 151 + 6) = ga X (sz + 151 + 6) := ga_congr h4
  exact ⟨n, a1, by rw [h1]; exact a2, by rw [h2]; exact a3, fun i hi => by rw [e3, e4]; exact a4 i hi⟩
theorem IB.c (h : IB X sz) (h1 : gr X2 sz 3 = gr X sz 3) (h2 : gr X2 sz 4 = gr X sz 4) (h3 : ∀ q : Nat, sz + 2 ≤ q → q < sz + 12 → X2 q = X q) (h4 : ∀ k : Nat, k = 0 ∨ k = 1 ∨ k = 6 ∨ k = 7 → gi X2 (sz + 151) k = gi X (sz + 151) k) (h5 : ∀ q : Nat, sz + 152 ≤ q → q < sz + 156 → X2 q = X q) : IB X2 sz := by
  obtain ⟨b, w, c, ce, po, n, d, ⟨a1, a2⟩, a3, a4, a5, a6, a7, a8, a9⟩ := h
  have hb : sz + 2 ≤ b ∧ b + 4 < sz + 12 := by rcases a2 with ⟨q, _⟩ | ⟨q, _⟩ <;> omega
  have eb : ∀ k, gi X2 b k = gi X b k := fun k => gi_congr (h3 b (by omega) (by omega)) k
  have ea : ∀ j, 1 ≤ j → j ≤ 4 → ga X2 (b + j) = ga X (b + j) := fun j _ _ => ga_congr (h3 (b + j) (by omega) (by omega))
  have em : ∀ j, 1 ≤ j → j ≤ 4 → ga X2 (sz + 151 + j) = ga X (sz + 151 + j) := fun j _ _ => ga_congr (h5 (sz + 151 + j) (by omega) (by omega))
  refine ⟨b, w, c, ce, po, n, d, ⟨by rw [h1]; exact a1, by rw [h2]; exact a2⟩, by rw [eb, h4 0 (by omega)]; exact a3, by rw [eb, h4 1 (by omega)]; exact a4, by rw [eb, h4 6 (by omega)]; exact a5, by rw [eb, h4 7 (by omega)]; exact a6, fun h hh => ?_, a8, a9⟩
  rw [ea 1 (by omega) (by omega), ea 2 (by omega) (by omega), ea 4 (by omega) (by omega), em 1 (by omega) (by omega), em 2 (by omega) (by omega), em 3 (by omega) (by omega), em 4 (by omega) (by omega)]
  exact a7 h hh
theorem INw.c (h : INw X sz) (h0 : gi X2 (sz + 151) 1 = gi X (sz + 151) 1) (h1 : ∀ q : Nat, sz + 14 ≤ q → q < sz + 19 → X2 q = X q) (h2 : X2 (sz + 156) = X (sz + 156)) : INw X2 sz := by
  have e : ga X2 (sz + 151 + 5) = ga X (sz + 151 + 5) := ga_congr h2
  obtain ⟨c, c8, c1, h3, h4⟩ := h
  exact ⟨c, c8, by rw [h0]; exact c1, h3.c c8 (fun q a b => h1 q a (by omega)) (fun k _ => by rw [e]), h4.c c8 (fun k _ => by rw [e])⟩
theorem IP.c (h : IP X sz) (h0 : gi X2 (sz + 151) 1 = gi X (sz + 151) 1) (h1 : ∀ q : Nat, sz + 19 ≤ q → q < sz + 121 → X2 q = X q) (h2 : gi X2 (sz + 151) 27 = gi X (sz + 151) 27) (h3 : X2 (sz + 166) = X (sz + 166)) : IP X2 sz := by
  obtain ⟨c, cnt, nx, c8, c1, a1, a2, a3, a4, a5, a6⟩ := h
  have e : ga X2 (sz + 151 + 15) = ga X (sz + 151 + 15) := ga_congr h3
  have e1 : ∀ k, gi X2 (sz + 19) k = gi X (sz + 19) k := fun k => gi_congr (h1 (sz + 19) (by omega) (by omega)) k
  refine ⟨c, cnt, nx, c8, by rw [h0]; exact c1, a1, a2, by rw [e1]; exact a3, by rw [e1]; exact a4, by rw [h2]; exact a5, fun j hj => ?_⟩
  have hm : (nx + 20 - cnt + j) % 20 < 20 := Nat.mod_lt _ (by omega)
  exact ⟨(a6 j hj).1.c c8 (fun q a b => h1 q (by omega) (by omega)) (fun k _ => by rw [e]), (a6 j hj).2.c c8 (fun k _ => by rw [e])⟩
theorem II.c (h : II X sz) (h0 : gi X2 (sz + 151) 1 = gi X (sz + 151) 1) (h1 : ∀ q : Nat, sz + 122 ≤ q → q < sz + 134 → X2 q = X q) (h2 : X2 (sz + 177) = X (sz + 177)) (h3 : X2 (sz + 176) = X (sz + 176)) : II X2 sz := by
  obtain ⟨c, c8, c1, h⟩ := h
  refine ⟨c, c8, by rw [h0]; exact c1, fun i hi => ?_⟩
  have e1 : ga X2 (sz + 132) = ga X (sz + 132) := ga_congr (h1 _ (by omega) (by omega))
  have e2 : ga X2 (sz + 133) = ga X (sz + 133) := ga_congr (h1 _ (by omega) (by omega))
  have e3 : ga X2 (sz + 151 + 26) = ga X (sz + 151 + 26) := ga_congr h2
  have e4 : ga X2 (sz + 151 + 25) = ga X (sz + 151 + 25) := ga_congr h3
  obtain ⟨a1, a2⟩ := h i hi
  rw [e1, e2, e3, e4]
  exact ⟨a1, a2.elim Or.inl (fun a => Or.inr ⟨a.1, a.2.1.c c8 (fun q u v => h1 q (by omega) (by omega)) (fun k _ => rfl), a.2.2⟩)⟩
theorem ID.c (h : ID X sz) (h1 : ∀ q : Nat, sz + 144 ≤ q → q < sz + 147 → X2 q = X q) (h2 : gi X2 (sz + 151) 33 = gi X (sz + 151) 33) (h3 : X2 (sz + 171) = X (sz + 171)) (h4 : X2 (sz + 172) = X (sz + 172)) : ID X2 sz := by
  obtain ⟨n, a1, a2, a3, a4⟩ := h
  have e0 : gi X2 (sz + 144) 0 = gi X (sz + 144) 0 := gi_congr (h1 _ (by omega) (by omega)) 0
  have e1 : ga X2 (sz + 144 + 1) = ga X (sz + 144 + 1) := ga_congr (h1 _ (by omega) (by omega))
  have e2 : ga X2 (sz + 144 + 2) = ga X (sz + 144 + 2) := ga_congr (h1 _ (by omega) (by omega))
  have e3 : ga X2 (sz + 151 + 20) = ga X (sz + 151 + 20) := ga_congr h3
  have e4 : ga X2 (sz + 151 + 21) = ga X (sz + 151 + 21) := ga_congr h4
  exact ⟨n, a1, by rw [e0]; exact a2, by rw [h2]; exact a3, fun i hi => by rw [e1, e2, e3, e4]; exact a4 i hi⟩
theorem IK.c (h : IK X sz) (h1 : ∀ q : Nat, sz + 147 ≤ q → q < sz + 151 → X2 q = X q) (h2 : gi X2 (sz + 151) 36 = gi X (sz + 151) 36) (h0 : gi X2 (sz + 151) 1 = gi X (sz + 151) 1) (h3 : ∀ q : Nat, sz + 173 ≤ q → q < sz + 176 → X2 q = X q) : IK X2 sz := by
  obtain ⟨n, c, a1, a2, a3, a4, a5, a6⟩ := h
  have e0 : gi X2 (sz + 147) 0 = gi X (sz + 147) 0 := gi_congr (h1 _ (by omega) (by omega)) 0
  have e1 : ∀ j, 1 ≤ j → j ≤ 3 → ga X2 (sz + 147 + j) = ga X (sz + 147 + j) := fun j _ _ => ga_congr (h1 _ (by omega) (by omega))
  have e2 : ∀ j, 22 ≤ j → j ≤ 24 → ga X2 (sz + 151 + j) = ga X (sz + 151 + j) := fun j _ _ => ga_congr (h3 _ (by omega) (by omega))
  refine ⟨n, c, a1, a2, by rw [h0]; exact a3, by rw [e0]; exact a4, by rw [h2]; exact a5, fun i hi => ?_⟩
  rw [e1 1 (by omega) (by omega), e1 2 (by omega) (by omega), e1 3 (by omega) (by omega), e2 22 (by omega) (by omega), e2 23 (by omega) (by omega), e2 24 (by omega) (by omega)]
  exact a6 i hi
end IC
/-- an operation of the two: they answer alike, and the invariant holds again -/
def Op (sz : Nat) (f g : qH → Option (Int32 × qH)) (X : qH) : Prop := ∃ (r : Int32) (X1 X2 : qH), f X = some (r, X1) ∧ g X1 = some (r, X2) ∧ Inv X2 sz
def OpR (f g : qH → Option Int32) (X : qH) : Prop := ∃ r : Int32, f X = some r ∧ g X = some r
