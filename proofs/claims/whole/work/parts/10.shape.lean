/-! PURE LAYER. The heap's shape: ints are erased, and the three references that change (FireworkDeeds.shore, .spare, Reader.text) -/
def er (c k : Nat) (v : Value) : Value := match v with
  | .int _ => .int 0
  | .ref r => if (c = 8 ∧ (k = 3 ∨ k = 4)) ∨ (c = 6 ∧ k = 0) then .null else .ref r
  | _ => .long 0
def shp (o : Option va_E) : Option va_E := match o with
  | some (.inr (c, fs)) => some (.inr (c, fs.mapIdx (er c)))
  | some (.inl (k, n, .inl _)) => some (.inl (k, n, .inl (fun _ => 0)))
  | o => o
def shX (X : qH) : qH := fun a => shp (X a)
/-- an int field, a reference field, an array's row -/
def gi (X : qH) (a k : Nat) : Int32 := match X a with
  | some (.inr (_, fs)) => (match fs[k]? with | some (.int v) => v | _ => 0)
  | _ => 0
def gr (X : qH) (a k : Nat) : Nat := match X a with
  | some (.inr (_, fs)) => (match fs[k]? with | some (.ref v) => v | _ => 0)
  | _ => 0
def ga (X : qH) (a : Nat) : Nat → Int32 := match X a with
  | some (.inl (_, _, .inl f)) => f
  | _ => fun _ => 0
def pV (X : qH) (a k : Nat) (v : Value) : qH := match X a with
  | some (.inr (c, fs)) => va_up X a (some (.inr (c, fs.set k v)))
  | _ => X
def pI (X : qH) (a k : Nat) (v : Int32) : qH := pV X a k (.int v)
def pR (X : qH) (a k : Nat) (r : Nat) : qH := pV X a k (.ref r)
def pA (X : qH) (a i : Nat) (v : Int32) : qH := match X a with
  | some (.inl (kd, n, .inl f)) => va_up X a (some (.inl (kd, n, .inl (upd f i v))))
  | _ => X
section SH
variable {X Y : qH} {a ci k n kd : Nat} {sh : List Value}
theorem sh_obj (hX : shX X = Y) (h : Y a = some (.inr (ci, sh))) : ∃ fs, X a = some (.inr (ci, fs)) ∧ fs.mapIdx (er ci) = sh := by
  subst hX
  unfold shX shp at h
  split at h
  · rename_i c fs hc
    cases h
    exact ⟨fs, hc, rfl⟩
  · cases h
  · rename_i hno _
    exact absurd h (hno ci sh)
theorem sh_arr (hX : shX X = Y) (h : Y a = some (.inl (kd, n, .inl (fun _ => 0)))) : ∃ f, X a = some (.inl (kd, n, .inl f)) := by
  subst hX
  unfold shX shp at h
  split at h
  · cases h
  · rename_i k m f hc
    cases h
    exact ⟨f, hc⟩
  · rename_i hno
    exact absurd h (hno kd n (fun _ => 0))
theorem sh_refs (hX : shX X = Y) {f : Nat → Option Nat} (h : Y a = some (.inl (kd, n, .inr (.inr (.inr (.inr f)))))) : X a = some (.inl (kd, n, .inr (.inr (.inr (.inr f))))) := by
  subst hX
  unfold shX shp at h
  split at h
  · cases h
  · cases h
  · exact h
theorem er_int {c k : Nat} {v : Value} (h : er c k v = .int 0) : ∃ w, v = .int w := by
  unfold er at h
  split at h
  · exact ⟨_, rfl⟩
  · split at h <;> cases h
  · cases h
theorem er_ref {c k r : Nat} {v : Value} (h : er c k v = .ref r) : v = .ref r := by
  unfold er at h
  split at h
  · cases h
  · split at h
    · cases h
    · exact h
  · cases h
theorem er_null {c k : Nat} {v : Value} (h : er c k v = .null) : (∃ r, v = .ref r) ∧ ((c = 8 ∧ (k = 3 ∨ k = 4)) ∨ (c = 6 ∧ k = 0)) := by
  unfold er at h
  split at h
  · cases h
  · rename_i r
    split at h
    · rename_i hc; exact ⟨⟨r, rfl⟩, hc⟩
    · cases h
  · cases h
theorem sh_int (hX : shX X = Y) (h : Y a = some (.inr (ci, sh))) (hk : sh[k]? = some (.int 0)) : ∃ fs, X a = some (.inr (ci, fs)) ∧ k < fs.length ∧ fs[k]? = some (.int (gi X a k)) := by
  obtain ⟨fs, h1, h2⟩ := sh_obj hX h
  rw [← h2, List.getElem?_mapIdx] at hk
  obtain ⟨v, hv, hk⟩ := Option.map_eq_some_iff.mp hk
  obtain ⟨w, rfl⟩ := er_int hk
  refine ⟨fs, h1, (List.getElem?_eq_some_iff.mp hv).1, ?_⟩
  simp only [gi, h1, hv]
theorem qgI_Y (hX : shX X = Y) (h : Y a = some (.inr (ci, sh))) (hk : sh[k]? = some (.int 0)) : qgI X ci a k = some (gi X a k) := by
  obtain ⟨fs, h1, -, h2⟩ := sh_int hX h hk
  simp only [qgI, h1, h2, if_true]
theorem qgR_Y (hX : shX X = Y) (h : Y a = some (.inr (ci, sh))) {r : Nat} (hk : sh[k]? = some (.ref r)) : qgR X ci a k = some r := by
  obtain ⟨fs, h1, h2⟩ := sh_obj hX h
  rw [← h2, List.getElem?_mapIdx] at hk
  obtain ⟨v, hv, hk⟩ := Option.map_eq_some_iff.mp hk
  have := er_ref hk
  subst this
  simp only [qgR, h1, hv, if_true]
theorem qgR_M (hX : shX X = Y) (h : Y a = some (.inr (ci, sh))) (hk : sh[k]? = some .null) : qgR X ci a k = some (gr X a k) := by
  obtain ⟨fs, h1, h2⟩ := sh_obj hX h
  rw [← h2, List.getElem?_mapIdx] at hk
  obtain ⟨v, hv, hk⟩ := Option.map_eq_some_iff.mp hk
  obtain ⟨⟨r, rfl⟩, -⟩ := er_null hk
  simp only [qgR, gr, h1, hv, if_true]
theorem qp_Y (hX : shX X = Y) (h : Y a = some (.inr (ci, sh))) (hk : k < sh.length) (v : Value) : qp X ci a k v = some (pV X a k v) := by
  obtain ⟨fs, h1, h2⟩ := sh_obj hX h
  have hl : k < fs.length := by rw [← h2, List.length_mapIdx] at hk; exact hk
  simp only [qp, pV, h1, hl, and_self, if_true]
theorem qpI_Y (hX : shX X = Y) (h : Y a = some (.inr (ci, sh))) (hk : sh[k]? = some (.int 0)) (v : Int32) : qpI X ci a k v = some (pI X a k v) := qp_Y hX h (List.getElem?_eq_some_iff.mp hk).1 _
theorem qpZ_Y (hX : shX X = Y) (h : Y a = some (.inr (ci, sh))) (hk : sh[k]? = some (.int 0)) {v : Int32} (hv : v = 0 ∨ v = 1) : qpZ X ci a k v = some (pI X a k v) := by
  rw [qpZ, if_pos hv]; exact qpI_Y hX h hk v
theorem qpR_M (hX : shX X = Y) (h : Y a = some (.inr (ci, sh))) (hk : sh[k]? = some .null) (r : Nat) : qpR X ci a k r = some (pR X a k r) := qp_Y hX h (List.getElem?_eq_some_iff.mp hk).1 _
theorem qIs_Y (hX : shX X = Y) (h : Y a = some (.inr (ci, sh))) {α : Type} (x : Option α) : qIs ci X a x = x := by
  obtain ⟨fs, h1, h2⟩ := sh_obj hX h
  simp only [qIs, h1, if_true]
theorem nI_in2 {j n : Nat} (hj : j < n) (hn : n < 2 ^ 31) : ¬ nI j < 0 ∧ (nI j).toNatClampNeg < n := ⟨nI_pos (by omega), by rw [nI_clamp (by omega)]; exact hj⟩
theorem qaI_Y (hX : shX X = Y) (h : Y a = some (.inl (kd, n, .inl (fun _ => 0)))) (hn : n < 2 ^ 31) {j : Nat} (hj : j < n) : qaI X kd a (nI j) = some (ga X a j) := by
  obtain ⟨f, h1⟩ := sh_arr hX h
  simp only [qaI, ga, h1, nI_in2 hj hn, nI_clamp (show j < 2 ^ 31 by omega), hj, and_self, true_and, if_true, not_false_eq_true]
theorem qaS_Y (hX : shX X = Y) (h : Y a = some (.inl (kd, n, .inl (fun _ => 0)))) (hn : n < 2 ^ 31) {j : Nat} (hj : j < n) (x : Int32) : qaS X kd a (nI j) x = some (pA X a j x) := by
  obtain ⟨f, h1⟩ := sh_arr hX h
  simp only [qaS, pA, h1, nI_in2 hj hn, nI_clamp (show j < 2 ^ 31 by omega), hj, and_self, true_and, if_true, not_false_eq_true]
theorem qaZ_Y (hX : shX X = Y) (h : Y a = some (.inl (1, n, .inl (fun _ => 0)))) (hn : n < 2 ^ 31) {j : Nat} (hj : j < n) {x : Int32} (hx : x = 0 ∨ x = 1) : qaZ X a (nI j) x = some (pA X a j x) := by
  rw [qaZ, if_pos hx]; exact qaS_Y hX h hn hj x
theorem qaR_Y (hX : shX X = Y) {f : Nat → Option Nat} (h : Y a = some (.inl (2, n, .inr (.inr (.inr (.inr f)))))) (hn : n < 2 ^ 31) {j : Nat} (hj : j < n) : qaR X a (nI j) = f j := by
  have h1 := sh_refs hX h
  simp only [qaR, h1, nI_in2 hj hn, nI_clamp (show j < 2 ^ 31 by omega), hj, and_self, true_and, if_true, not_false_eq_true]
theorem qln_Y (hX : shX X = Y) (h : Y a = some (.inl (0, n, .inl (fun _ => 0)))) : qln X a = some (nI n) := by
  obtain ⟨f, h1⟩ := sh_arr hX h
  simp only [qln, h1, if_true, nI]
/-! updates keep the shape -/
theorem shX_pV (hX : shX X = Y) {v : Value} (h : Y a = some (.inr (ci, sh))) (hk : sh[k]? = some (er ci k v)) : shX (pV X a k v) = Y := by
  obtain ⟨fs, h1, h2⟩ := sh_obj hX h
  funext q
  by_cases hq : q = a
  · subst hq
    have h3 : shX (pV X q k v) q = some (.inr (ci, (fs.set k v).mapIdx (er ci))) := by
      simp only [shX, pV, h1, va_up, if_true, shp]
    rw [h3, h]
    congr 3
    rw [← h2] at hk ⊢
    apply List.ext_getElem?
    intro i
    rw [List.getElem?_mapIdx, List.getElem?_mapIdx, List.getElem?_set]
    by_cases hi : k = i
    · subst hi
      rw [List.getElem?_mapIdx] at hk
      have hl : k < fs.length := by
        obtain ⟨w, hw, -⟩ := Option.map_eq_some_iff.mp hk
        exact (List.getElem?_eq_some_iff.mp hw).1
      rw [if_pos rfl, if_pos hl, hk]
      rfl
    · rw [if_neg hi]
  · rw [← hX]
    simp only [shX, pV, h1, va_up, if_neg hq]
theorem shX_pI (hX : shX X = Y) (h : Y a = some (.inr (ci, sh))) (hk : sh[k]? = some (.int 0)) (v : Int32) : shX (pI X a k v) = Y := shX_pV hX h hk
theorem shX_pR (hX : shX X = Y) (h : Y a = some (.inr (ci, sh))) (hk : sh[k]? = some .null) (r : Nat) : shX (pR X a k r) = Y := by
  obtain ⟨fs, h1, h2⟩ := sh_obj hX h
  refine shX_pV hX h ?_
  have hk2 := hk
  rw [← h2, List.getElem?_mapIdx] at hk
  obtain ⟨v, hv, hk⟩ := Option.map_eq_some_iff.mp hk
  obtain ⟨-, hc⟩ := er_null hk
  rw [hk2]
  simp only [er, if_pos hc]
theorem shX_pA (hX : shX X = Y) (h : Y a = some (.inl (kd, n, .inl (fun _ => 0)))) (i : Nat) (v : Int32) : shX (pA X a i v) = Y := by
  obtain ⟨f, h1⟩ := sh_arr hX h
  funext q
  by_cases hq : q = a
  · subst hq
    rw [h]
    simp only [shX, pA, h1, va_up, if_true, shp]
  · rw [← hX]
    simp only [shX, pA, h1, va_up, if_neg hq]
/-! what reads see behind updates -/
theorem pV_ne {v : Value} {q : Nat} (hq : q ≠ a) : pV X a k v q = X q := by
  unfold pV
  cases hc : X a with
  | none => rfl
  | some z =>
    cases z with
    | inl x => rfl
    | inr o => simp only [va_up, if_neg hq]
theorem pA_ne {i : Nat} {v : Int32} {q : Nat} (hq : q ≠ a) : pA X a i v q = X q := by
  unfold pA
  cases hc : X a with
  | none => rfl
  | some z =>
    cases z with
    | inr o => rfl
    | inl x =>
      obtain ⟨kd, n, g⟩ := x
      cases g with
      | inl f => simp only [va_up, if_neg hq]
      | inr f => rfl
theorem gi_congr {X2 : qH} {q : Nat} (h : X2 q = X q) (j : Nat) : gi X2 q j = gi X q j := by simp only [gi, h]
theorem gr_congr {X2 : qH} {q : Nat} (h : X2 q = X q) (j : Nat) : gr X2 q j = gr X q j := by simp only [gr, h]
theorem ga_congr {X2 : qH} {q : Nat} (h : X2 q = X q) : ga X2 q = ga X q := by simp only [ga, h]
theorem gi_pI_self (hX : shX X = Y) (h : Y a = some (.inr (ci, sh))) (hk : sh[k]? = some (.int 0)) (v : Int32) (j : Nat) : gi (pI X a k v) a j = if j = k then v else gi X a j := by
  obtain ⟨fs, h1, hl, h2⟩ := sh_int hX h hk
  simp only [gi, pI, pV, h1, va_up, if_true, List.getElem?_set]
  by_cases hj : j = k
  · subst hj
    simp only [if_true, hl]
  · simp only [if_neg hj, if_neg (Ne.symm hj)]
theorem gi_pI_ne {q : Nat} (hq : q ≠ a) (v : Int32) (j : Nat) : gi (pI X a k v) q j = gi X q j := gi_congr (pV_ne hq) j
theorem gr_pI (v : Int32) (q j : Nat) (hj : j ≠ k) : gr (pI X a k v) q j = gr X q j := by
  by_cases hq : q = a
  · subst hq
    cases hc : X q with
    | none => simp only [gr, pI, pV, hc]
    | some z =>
      cases z with
      | inl x => simp only [gr, pI, pV, hc]
      | inr o => simp only [gr, pI, pV, hc, va_up, if_true, List.getElem?_set, if_neg (Ne.symm hj)]
  · exact gr_congr (pV_ne hq) j
theorem ga_pI (v : Int32) (q : Nat) : ga (pI X a k v) q = ga X q := by
  by_cases hq : q = a
  · subst hq
    unfold pI pV
    split
    · rename_i c fs hc
      simp only [ga, va_up, if_true, hc]
    · rfl
  · exact ga_congr (pV_ne hq)
theorem gi_pA (i : Nat) (v : Int32) (q j : Nat) : gi (pA X a i v) q j = gi X q j := by
  by_cases hq : q = a
  · subst hq
    unfold pA
    split
    · rename_i kd n f hc
      simp only [gi, va_up, if_true, hc]
    · rfl
  · exact gi_congr (pA_ne hq) j
theorem gr_pA (i : Nat) (v : Int32) (q j : Nat) : gr (pA X a i v) q j = gr X q j := by
  by_cases hq : q = a
  · subst hq
    unfold pA
    split
    · rename_i kd n f hc
      simp only [gr, va_up, if_true, hc]
    · rfl
  · exact gr_congr (pA_ne hq) j
theorem ga_pA_self (hX : shX X = Y) (h : Y a = some (.inl (kd, n, .inl (fun _ => 0)))) (i : Nat) (v : Int32) : ga (pA X a i v) a = upd (ga X a) i v := by
  obtain ⟨f, h1⟩ := sh_arr hX h
  simp only [ga, pA, h1, va_up, if_true]
theorem ga_pA_ne {q : Nat} (hq : q ≠ a) (i : Nat) (v : Int32) : ga (pA X a i v) q = ga X q := ga_congr (pA_ne hq)
theorem gi_pR (r q j : Nat) (hj : j ≠ k) : gi (pR X a k r) q j = gi X q j := by
  by_cases hq : q = a
  · subst hq
    unfold pR pV
    split
    · rename_i c fs hc
      simp only [gi, va_up, if_true, hc, List.getElem?_set, if_neg (Ne.symm hj)]
    · rfl
  · exact gi_congr (pV_ne hq) j
theorem ga_pR (r q : Nat) : ga (pR X a k r) q = ga X q := by
  by_cases hq : q = a
  · subst hq
    unfold pR pV
    split
    · rename_i c fs hc
      simp only [ga, va_up, if_true, hc]
    · rfl
  · exact ga_congr (pV_ne hq)
theorem gr_pR_self (hX : shX X = Y) (h : Y a = some (.inr (ci, sh))) (hk : sh[k]? = some .null) (r j : Nat) : gr (pR X a k r) a j = if j = k then r else gr X a j := by
  obtain ⟨fs, h1, h2⟩ := sh_obj hX h
  have hl : k < fs.length := by
    have := (List.getElem?_eq_some_iff.mp hk).1
    rw [← h2, List.length_mapIdx] at this; exact this
  simp only [gr, pR, pV, h1, va_up, if_true, List.getElem?_set]
  by_cases hj : j = k
  · subst hj
    simp only [if_true, hl]
  · simp only [if_neg hj, if_neg (Ne.symm hj)]
theorem gr_pR_ne {q : Nat} (hq : q ≠ a) (r j : Nat) : gr (pR X a k r) q j = gr X q j := gr_congr (pV_ne hq) j
end SH
