/-! the start has the invariant -/
theorem tb0 (i : Nat) : ¬ tb 0 i := by
  unfold tb
  rw [show (0 : Int32).toBitVec = 0#32 from rfl]
  simp
theorem gi_at {X : qH} {a k ci : Nat} {fs : List Value} {v : Int32} (h : X a = some (.inr (ci, fs))) (hk : fs[k]? = some (.int v)) : gi X a k = v := by simp only [gi, h, hk]
theorem gr_at {X : qH} {a k ci r : Nat} {fs : List Value} (h : X a = some (.inr (ci, fs))) (hk : fs[k]? = some (.ref r)) : gr X a k = r := by simp only [gr, h, hk]
theorem ga_at {X : qH} {a kd n : Nat} {f : Nat → Int32} (h : X a = some (.inl (kd, n, .inl f))) : ga X a = f := by simp only [ga, h]
def erL (c : Nat) : Nat → List Value → List Value
  | _, [] => []
  | k, v :: vs => er c k v :: erL c (k + 1) vs
theorem erL_eq (c : Nat) : ∀ (fs : List Value) (k : Nat), erL c k fs = fs.mapIdx (fun i => er c (k + i))
  | [], k => by simp [erL]
  | v :: vs, k => by
    rw [erL, erL_eq c vs (k + 1), List.mapIdx_cons]
    congr 1
    · congr 1
      funext i
      rw [show k + 1 + i = k + (i + 1) by omega]
theorem shX_o {X : qH} {q c : Nat} {fs : List Value} (h : X q = some (.inr (c, fs))) : shX X q = some (.inr (c, erL c 0 fs)) := by
  rw [erL_eq]
  simp only [Nat.zero_add]
  exact shX_at h
theorem erM (n : Nat) : erL 9 0 [.int 0, .int 0, .ref n, .ref (n + 1), .ref (n + 2), .ref (n + 3), .int 2, .int 10, .ref (n + 4), .int 0, .ref (n + 5), .int 0, .int (-1), .int 0, .int 0, .int 0, .ref (n + 6), .int 0, .ref (n + 7), .ref (n + 8), .ref (n + 9), .ref (n + 10), .ref (n + 11), .ref (n + 12), .ref (n + 13), .int 0, .int 0, .int 0, .ref (n + 14), .ref (n + 15), .ref (n + 16), .ref (n + 17), .ref (n + 18), .int 0, .ref (n + 19), .ref (n + 20), .int 0, .ref (n + 21), .ref (n + 22), .ref (n + 23), .ref (n + 24), .ref (n + 25)] = [.int 0, .int 0, .ref n, .ref (n + 1), .ref (n + 2), .ref (n + 3), .int 0, .int 0, .ref (n + 4), .int 0, .ref (n + 5), .int 0, .int 0, .int 0, .int 0, .int 0, .ref (n + 6), .int 0, .ref (n + 7), .ref (n + 8), .ref (n + 9), .ref (n + 10), .ref (n + 11), .ref (n + 12), .ref (n + 13), .int 0, .int 0, .int 0, .ref (n + 14), .ref (n + 15), .ref (n + 16), .ref (n + 17), .ref (n + 18), .int 0, .ref (n + 19), .ref (n + 20), .int 0, .ref (n + 21), .ref (n + 22), .ref (n + 23), .ref (n + 24), .ref (n + 25)] := by
  have e : ∀ (k r : Nat), er 9 k (.ref r) = .ref r := fun k r => by simp [er]
  have e2 : ∀ (k : Nat) (v : Int32), er 9 k (.int v) = .int 0 := fun k v => rfl
  simp only [erL, e, e2]
set_option maxHeartbeats 4000000 in
theorem m_YM {X : qH} {a : Nat} (m0 : X a = some (.inr (9, [.int 0, .int 0, .ref (a + 1), .ref (a + 1 + 1), .ref (a + 1 + 2), .ref (a + 1 + 3), .int 2, .int 10, .ref (a + 1 + 4), .int 0, .ref (a + 1 + 5), .int 0, .int (-1), .int 0, .int 0, .int 0, .ref (a + 1 + 6), .int 0, .ref (a + 1 + 7), .ref (a + 1 + 8), .ref (a + 1 + 9), .ref (a + 1 + 10), .ref (a + 1 + 11), .ref (a + 1 + 12), .ref (a + 1 + 13), .int 0, .int 0, .int 0, .ref (a + 1 + 14), .ref (a + 1 + 15), .ref (a + 1 + 16), .ref (a + 1 + 17), .ref (a + 1 + 18), .int 0, .ref (a + 1 + 19), .ref (a + 1 + 20), .int 0, .ref (a + 1 + 21), .ref (a + 1 + 22), .ref (a + 1 + 23), .ref (a + 1 + 24), .ref (a + 1 + 25)]))) : shX X a = some (.inr (9, [.int 0, .int 0, .ref (a + 1), .ref (a + 2), .ref (a + 3), .ref (a + 4), .int 0, .int 0, .ref (a + 5), .int 0, .ref (a + 6), .int 0, .int 0, .int 0, .int 0, .int 0, .ref (a + 7), .int 0, .ref (a + 8), .ref (a + 9), .ref (a + 10), .ref (a + 11), .ref (a + 12), .ref (a + 13), .ref (a + 14), .int 0, .int 0, .int 0, .ref (a + 15), .ref (a + 16), .ref (a + 17), .ref (a + 18), .ref (a + 19), .int 0, .ref (a + 20), .ref (a + 21), .int 0, .ref (a + 22), .ref (a + 23), .ref (a + 24), .ref (a + 25), .ref (a + 26)])) := by
  rw [shX_o m0, erM (a + 1)]
set_option maxHeartbeats 4000000 in
theorem start_ok {F sz : Nat} (hF : 9 ≤ F) : ∃ X2 X4 : qH, fX9_init F (qnO (fun _ => none) sz 8 [.null, .int 0, .int 0, .null, .null, .int 0, .null, .null, .null, .null, .null, .null, .null, .null, .null, .null]) (sz + 1) sz = some X2 ∧ fX10_init F (qnO X2 (sz + 151) 9 [.int 0, .int 0, .null, .null, .null, .null, .int 0, .int 0, .null, .int 0, .null, .int 0, .int 0, .int 0, .int 0, .int 0, .null, .int 0, .null, .null, .null, .null, .null, .null, .null, .int 0, .int 0, .int 0, .null, .null, .null, .null, .null, .int 0, .null, .null, .int 0, .null, .null, .null, .null, .null]) (sz + 152) (sz + 151) = some X4 ∧ Inv X4 sz := by
  obtain ⟨X2, e1, v0, v1, v2, v3, v4, v5, v6, v7, v8, v9, v10, v11, v12, v13, v14, v15⟩ := init_X9 (F := F) (X := qnO (fun _ => none) sz 8 [.null, .int 0, .int 0, .null, .null, .int 0, .null, .null, .null, .null, .null, .null, .null, .null, .null, .null]) (n := sz + 1) (a := sz) up_self rfl hF
  obtain ⟨X4, e2, m0, ml, fr0⟩ := init_X10 (F := F) (X := qnO X2 (sz + 151) 9 [.int 0, .int 0, .null, .null, .null, .null, .int 0, .int 0, .null, .int 0, .null, .int 0, .int 0, .int 0, .int 0, .int 0, .null, .int 0, .null, .null, .null, .null, .null, .null, .null, .int 0, .int 0, .int 0, .null, .null, .null, .null, .null, .int 0, .null, .null, .int 0, .null, .null, .null, .null, .null]) (n := sz + 152) (a := sz + 151) up_self (by omega)
  have fr : ∀ q : Nat, q < sz + 151 → X4 q = X2 q := fun q hq => (fr0 q (by omega) (by omega)).trans (up_ne (by omega))
  have w0 := (fr sz (by omega)).trans v0
  have w1 := v1.frN (X2 := X4) (m := 1) rfl (fun q a b => fr q (by omega))
  have w2 := v2.frN (X2 := X4) (m := 5) rfl (fun q a b => fr q (by omega))
  have w3 := v3.frN (X2 := X4) (m := 5) rfl (fun q a b => fr q (by omega))
  have w4 := v4.frN (X2 := X4) (m := 2) rfl (fun q a b => fr q (by omega))
  have w5 := v5.fr (X2 := X4) (fun q a b => fr q (by omega))
  have w6 := v6.frN (X2 := X4) (m := 1) rfl (fun q a b => fr q (by omega))
  have w7 := PS.fr (X2 := X4) v7 (fun q a b => fr q (by omega))
  have w8 := PS.fr (X2 := X4) v8 (fun q a b => fr q (by omega))
  have w9 := v9.frN (X2 := X4) (m := 1) rfl (fun q a b => fr q (by omega))
  have w10 := v10.frN (X2 := X4) (m := 1) rfl (fun q a b => fr q (by omega))
  have w11 := v11.frN (X2 := X4) (m := 2) rfl (fun q a b => fr q (by omega))
  have w12 := v12.frN (X2 := X4) (m := 5) rfl (fun q a b => fr q (by omega))
  have w13 := v13.frN (X2 := X4) (m := 3) rfl (fun q a b => fr q (by omega))
  have w14 := v14.frN (X2 := X4) (m := 3) rfl (fun q a b => fr q (by omega))
  have w15 := v15.frN (X2 := X4) (m := 4) rfl (fun q a b => fr q (by omega))
  have hmod : ∀ i : Nat, sz + 1 + 19 + 1 + 5 * i = sz + 19 + 2 + 5 * i := fun i => by omega
  have hmod2 : ∀ i : Nat, sz + 1 + 120 + 1 + 5 * i = sz + 121 + 1 + 5 * i := fun i => by omega
  refine ⟨X2, X4, e1, e2, ?_, ?_⟩
  · refine ⟨⟨shX_at w0, shX_at (w1 0 _ rfl), shX_at (w9 0 _ rfl), shX_at (w10 0 _ rfl)⟩, b_YB w2, b_YB w3, shX_at (w4 0 _ rfl), w5.1, ⟨shX_at (w6 0 _ rfl), ?_, fun i hi => ?_⟩, ⟨?_, fun i hi => ?_⟩, ⟨⟨shX_at (w11 0 _ rfl), shX_at (w11 1 _ rfl)⟩, n_YN w12⟩, ⟨shX_at (w13 0 _ rfl), shX_at (w13 1 _ rfl), shX_at (w13 2 _ rfl)⟩, ⟨shX_at (w14 0 _ rfl), shX_at (w14 1 _ rfl), shX_at (w14 2 _ rfl)⟩, ⟨shX_at (w15 0 _ rfl), shX_at (w15 1 _ rfl), shX_at (w15 2 _ rfl), shX_at (w15 3 _ rfl)⟩, ?_⟩
    · obtain ⟨f, h1, h2⟩ := w7.1
      exact ⟨f, shX_at h1, fun i hi => by rw [h2 i hi, hmod i]⟩
    · have := n_YN (w7.2.1 i hi)
      rwa [hmod i] at this
    · obtain ⟨f, h1, h2⟩ := w8.1
      exact ⟨f, shX_at h1, fun i hi => by rw [h2 i hi, hmod2 i]⟩
    · have := n_YN (w8.2.1 i hi)
      rwa [hmod2 i] at this
    · exact ⟨m_YM m0, shX_at (ml 0 _ rfl), shX_at (ml 1 _ rfl), shX_at (ml 2 _ rfl), shX_at (ml 3 _ rfl), shX_at (ml 4 _ rfl), shX_at (ml 5 _ rfl), shX_at (ml 6 _ rfl), shX_at (ml 7 _ rfl), shX_at (ml 8 _ rfl), shX_at (ml 9 _ rfl), shX_at (ml 10 _ rfl), shX_at (ml 11 _ rfl), shX_at (ml 12 _ rfl), shX_at (ml 13 _ rfl), shX_at (ml 14 _ rfl), shX_at (ml 15 _ rfl), shX_at (ml 16 _ rfl), shX_at (ml 17 _ rfl), shX_at (ml 18 _ rfl), shX_at (ml 19 _ rfl), shX_at (ml 20 _ rfl), shX_at (ml 21 _ rfl), shX_at (ml 22 _ rfl), shX_at (ml 23 _ rfl), shX_at (ml 24 _ rfl), shX_at (ml 25 _ rfl)⟩
  · have mh : gi X4 (sz + 151) 1 = nI 0 := gi_at m0 rfl
    have nw : ga X4 (sz + 151 + 5) = fun _ => 0 := ga_at (ml 4 _ rfl)
    have bq := w2 0 _ rfl
    refine ⟨⟨0, by omega, gi_at w0 rfl, gi_at m0 rfl, fun i hi => by omega⟩, ?_, ?_, ?_, ⟨0, by omega, mh, ?_, ?_⟩, ⟨0, 0, 0, by omega, mh, by omega, by omega, gi_at (w6 0 _ rfl) rfl, gi_at (w6 0 _ rfl) rfl, gi_at m0 rfl, fun j hj => by omega⟩, ⟨0, by omega, mh, fun i hi => ⟨?_, Or.inl ?_⟩⟩, ⟨0, by omega, gi_at (w14 0 _ rfl) rfl, gi_at m0 rfl, fun i hi => by omega⟩, ⟨0, 0, by omega, by omega, mh, gi_at (w15 0 _ rfl) rfl, gi_at m0 rfl, fun i hi => by omega⟩⟩
    · show gi X4 sz 2 = gi X4 (sz + 151) 12
      rw [gi_at w0 (k := 2) rfl, gi_at m0 (k := 12) rfl]
    · show gi X4 sz 5 = gi X4 (sz + 151) 9 ∧ 0 ≤ gi X4 sz 5
      rw [gi_at w0 (k := 5) rfl, gi_at m0 (k := 9) rfl]
      exact ⟨rfl, by decide⟩
    · exact ⟨sz + 2, 0, 0, fun _ => 0, fun _ => 0, fun _ => 0, fun _ _ => 0, ⟨gr_at w0 rfl, Or.inl ⟨rfl, gr_at w0 rfl⟩⟩, ⟨gi_at bq rfl, gi_at m0 rfl, by omega⟩, ⟨gi_at bq rfl, gi_at m0 rfl, by omega, fun _ => rfl⟩, ⟨2, by omega, gi_at bq rfl, gi_at m0 rfl⟩, ⟨10, by omega, gi_at bq rfl, gi_at m0 rfl⟩, fun h hh => by omega, fun h g hh => by omega, fun h g hh => by omega⟩
    · rw [nw]
      refine ⟨w5.2.1.1, w5.2.1.2.1, w5.2.1.2.2.1, fun h hh => by omega, ?_⟩
      have h3 : gi X4 (sz + 14) 3 = 0 := w5.2.1.2.2.2
      rw [h3]
      exact ⟨fun p q hp hq => ⟨⟨fun a => absurd a (tb0 _), fun a => absurd a (tb0 _)⟩, ⟨fun a => absurd a (tb0 _), fun a => absurd a (tb0 _)⟩⟩, fun i _ => tb0 i, fun p q _ _ => tb0 q⟩
    · rw [nw]
      exact ⟨⟨0, by omega, rfl⟩, ⟨0, by omega, rfl⟩, ⟨5, by omega, by decide⟩, fun h hh => by omega⟩
    · rw [ga_at (w9 0 _ rfl), show ga X4 (sz + 151 + 26) = fun _ => 0 from ga_at (ml 25 _ rfl)]
    · rw [ga_at (w9 0 _ rfl)]
