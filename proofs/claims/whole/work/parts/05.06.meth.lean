/-! X10_feed -/
def fX10_feed (F : Nat) (X : qH) (a0 : Nat) (a1 : Int32) : Option (Int32 × qH) :=
qIs 9 X a0 <|
(fX10_in F X ((a1).toInt64) (0 : Int64) (255 : Int64)).bind fun v1 =>
if v1 = (0 : Int32) then (some ((-1000000002 : Int32), X))
else ((qgI X 9 a0 11).bind fun v2 =>
if v2 = (230 : Int32) then (some ((-1000000004 : Int32), X))
else ((qgR X 9 a0 10).bind fun v3 =>
(qgI X 9 a0 11).bind fun v4 =>
(qaS X 0 v3 v4 a1).bind fun X5 =>
(qgI X5 9 a0 11).bind fun v6 =>
qlt (v6 + (1 : Int32)) fun v7 =>
(qpI X5 9 a0 11 v7).bind fun X8 =>
(qgI X8 9 a0 11).bind fun v9 =>
some (v9, X8)))
abbrev rmX10_feed : Room := { frames := 1, cells := 0, slots := 0, locals := 25 }
theorem fX10_feed_is {F : Nat} {X : qH} {a0 : Nat} {a1 : Int32} {r9 : Int32 × qH} (h : fX10_feed F X a0 a1 = some r9) : ∃ fs, X a0 = some (.inr (9, fs)) := (qIs_spec h).1
theorem hdX10_feed : yX10_feed.cls = RX10 ∧ yX10_feed.cls ≠ "java/lang/invoke/MethodHandle" ∧ yX10_feed.cls ≠ "java/lang/invoke/VarHandle" ∧ (parseMethodDescriptor yX10_feed.desc).map (fun d => d.parameters.length) = some 1 := by decide +kernel
set_option maxHeartbeats 4000000 in
set_option maxRecDepth 100000 in
theorem mX10_feed (l : Launch) (D : va_G) (kz : Nat → Nat) (b0 sz F : Nat) (X : qH) (a0 : Nat) (a1 : Int32) (r : Int32) (Xr : qH) (hf : fX10_feed F X a0 a1 = some (r, Xr)) : Met l yX10_feed (qws yX10_feed cX10_feed 2 (some .int)) rmX10_feed (va_Pc [.ref a0, .int a1] (qU D kz b0 sz X)) (va_Qi (fun (r' : Int32) (u : qH) => r' = r ∧ u = Xr) (fun u t => qO D kz b0 sz u t) (qA b0)) 0 0 (qA b0) := by
  refine q_start (by decide) (Nat.le_of_ble_eq_true rfl) ?_
  intro p e s m args below meth c hx hb hr hlocks hnm hml hown hT hR hK hz ls hl
  have hown : s.vm.findClass RX10 = some m.cls := hown
  have hl : lv_has ls 2 [(0, .ref a0), (1, .int a1)] := hl
  have hS : va_S (qA b0) s.heap s.heap [] := va_S.rf
  obtain ⟨Q, hQ⟩ : ∃ Q, Q = MQ below (va_Qi (fun (r' : Int32) (u : qH) => r' = r ∧ u = Xr) (fun u t => qO D kz b0 sz u t) (qA b0)) args s 0 0 (qA b0) := ⟨_, rfl⟩
  rw [← hQ]
  unfold fX10_feed at hf
  obtain ⟨hthis, hf⟩ := qIs_spec hf
  refine lv_iload_n hx hb dX10_feed_0 rfl (lv_at hl 1 rfl) ?_
  refine lv_i2l hx hb dX10_feed_1 rfl ?_
  refine lv_lconst (v := (0 : Int64)) hx hb dX10_feed_2 (by decide) ?_
  refine lv_ldc2 (v := (255 : Int64)) hx hb hown (hT _ wkl_X10_109) dX10_feed_3 ?_
  obtain ⟨v1, hc, hf⟩ := q_b hf
  refine q_calli (va_runS (As := [.long ((a1).toInt64), .long (0 : Int64), .long (255 : Int64)]) (rest := []) ⟨hx, hb, hml, hown, hT⟩ (mX10_in l D kz b0 sz F X ((a1).toInt64) (0 : Int64) (255 : Int64) v1 hc) (va_cwS 3 hT (q_gS wco_X10_in wml_X10_105 wst_X10_in win_X10) rfl rfl rfl hdX10_in ⟨Nat.le_of_ble_eq_true rfl, Nat.le_of_ble_eq_true rfl⟩) (q_preS hR hK hz) rfl rfl hl.1 rfl (lv_room (Nat.le_of_ble_eq_true rfl)) dX10_feed_6 ⟨Nat.le_of_ble_eq_true rfl, Nat.le_of_ble_eq_true rfl⟩) hS (fun H locs hR hS hz => ?_)
  refine lv_if_ne (tgt := 15) hx hb dX10_feed_9 (by decide) (fun hc => ?_) (fun hc => ?_)
  · have hf := q_f hf hc
    refine lv_aload_n hx hb dX10_feed_15 rfl (lv_at hl 0 rfl) ?_
    refine q_gI hx hb hT hown hK hR iqX10 vqX10 11 (by decide) (hT _ wfl_X10_112) hf dX10_feed_16 (fun v2 hf => ?_)
    refine lv_sipush (v := (230 : Int32)) hx hb dX10_feed_19 (by decide) ?_
    refine lv_icmp_ne (tgt := 28) hx hb dX10_feed_22 (by decide) (fun hc => ?_) (fun hc => ?_)
    · have hf := q_f hf hc
      refine lv_aload_n hx hb dX10_feed_28 rfl (lv_at hl 0 rfl) ?_
      refine q_gR hx hb hT hown hK hR iqX10 vqX10 10 (by decide) (hT _ wfl_X10_32) hf dX10_feed_29 (fun v3 hf => ?_)
      refine lv_aload_n hx hb dX10_feed_32 rfl (lv_at hl 0 rfl) ?_
      refine q_gI hx hb hT hown hK hR iqX10 vqX10 11 (by decide) (hT _ wfl_X10_112) hf dX10_feed_33 (fun v4 hf => ?_)
      refine lv_iload_n hx hb dX10_feed_36 rfl (lv_at hl 1 rfl) ?_
      refine q_iast hx hb hK hR hS hz hf dX10_feed_37 (fun X5 hf H locs hR hS hz => ?_)
      refine lv_aload_n hx hb dX10_feed_38 rfl (lv_at hl 0 rfl) ?_
      refine lv_dup hx hb dX10_feed_39 rfl ?_
      refine q_gI hx hb hT hown hK hR iqX10 vqX10 11 (by decide) (hT _ wfl_X10_112) hf dX10_feed_40 (fun v6 hf => ?_)
      refine lv_iconst (v := (1 : Int32)) hx hb dX10_feed_43 (by decide) ?_
      refine lv_iadd hx hb dX10_feed_44 ?_
      refine lv_topi (fun v7 ev7 => ?_)
      have hf := q_lt ev7 hf
      refine q_pI hx hb hT hown hK hR hS hz iqX10 vqX10 tyX10_ok nmX10 11 (by decide) (hT _ wfl_X10_112) rfl rfl hf dX10_feed_45 (fun X8 hf H locs hR hS hz => ?_)
      refine lv_aload_n hx hb dX10_feed_48 rfl (lv_at hl 0 rfl) ?_
      refine q_gI hx hb hT hown hK hR iqX10 vqX10 11 (by decide) (hT _ wfl_X10_112) hf dX10_feed_49 (fun v9 hf => ?_)
      subst hQ
      obtain ⟨h8, h9⟩ := Prod.mk.inj (Option.some.inj hf)
      exact q_iret hx hb hr hlocks hR hS hz h8 h9 dX10_feed_52
    · have hf := q_t hf hc
      refine lv_ldc (v := (-1000000004 : Int32)) hx hb hown (hT _ wk_X10_115) dX10_feed_25 ?_
      subst hQ
      obtain ⟨h8, h9⟩ := Prod.mk.inj (Option.some.inj hf)
      exact q_iret hx hb hr hlocks hR hS hz h8 h9 dX10_feed_27
  · have hf := q_t hf hc
    refine lv_ldc (v := (-1000000002 : Int32)) hx hb hown (hT _ wk_X10_111) dX10_feed_12 ?_
    subst hQ
    obtain ⟨h8, h9⟩ := Prod.mk.inj (Option.some.inj hf)
    exact q_iret hx hb hr hlocks hR hS hz h8 h9 dX10_feed_14
/-! X10_here -/
def fX10_here_L0_B (F : Nat) (a0 : Nat) (self0 : qH → Option (qH)) (X1 : qH) : Option (qH) :=
(qgI X1 9 a0 13).bind fun v2 =>
(qgI X1 9 a0 11).bind fun v3 =>
if v3 ≤ v2 then (some X1)
else ((qgR X1 9 a0 10).bind fun v4 =>
(qgI X1 9 a0 13).bind fun v5 =>
(qaI X1 0 v4 v5).bind fun v6 =>
if v6 = (32 : Int32) then ((qgI X1 9 a0 13).bind fun v7 =>
qlt (v7 + (1 : Int32)) fun v8 =>
(qpI X1 9 a0 13 v8).bind fun X9 =>
self0 X9)
else (some X1))
def fX10_here_L0 (F : Nat) (a0 : Nat) : Nat → qH → Option (qH)
  | 0, _ => none
  | n + 1, X1 => fX10_here_L0_B F a0 (fX10_here_L0 F a0 n) X1
def fX10_here (F : Nat) (X : qH) (a0 : Nat) : Option (Int32 × qH) :=
qIs 9 X a0 <|
(fX10_here_L0 F a0 F X).bind fun X10 =>
(qgI X10 9 a0 13).bind fun v11 =>
(qgI X10 9 a0 11).bind fun v12 =>
(if v12 ≤ v11 then (some (-1 : Int32))
else ((qgR X10 9 a0 10).bind fun v14 =>
(qgI X10 9 a0 13).bind fun v15 =>
(qaI X10 0 v14 v15).bind fun v16 =>
some v16) : Option Int32).bind fun v13 =>
some (v13, X10)
abbrev rmX10_here : Room := { frames := 0, cells := 0, slots := 0, locals := 0 }
theorem fX10_here_is {F : Nat} {X : qH} {a0 : Nat} {r9 : Int32 × qH} (h : fX10_here F X a0 = some r9) : ∃ fs, X a0 = some (.inr (9, fs)) := (qIs_spec h).1
theorem hdX10_here : yX10_here.cls = RX10 ∧ yX10_here.cls ≠ "java/lang/invoke/MethodHandle" ∧ yX10_here.cls ≠ "java/lang/invoke/VarHandle" ∧ (parseMethodDescriptor yX10_here.desc).map (fun d => d.parameters.length) = some 0 := by decide +kernel
set_option maxHeartbeats 4000000 in
set_option maxRecDepth 100000 in
theorem mX10_here (l : Launch) (D : va_G) (kz : Nat → Nat) (b0 sz F : Nat) (X : qH) (a0 : Nat) (r : Int32) (Xr : qH) (hf : fX10_here F X a0 = some (r, Xr)) : Met l yX10_here (qws yX10_here cX10_here 1 (some .int)) rmX10_here (va_Pc [.ref a0] (qU D kz b0 sz X)) (va_Qi (fun (r' : Int32) (u : qH) => r' = r ∧ u = Xr) (fun u t => qO D kz b0 sz u t) (qA b0)) 0 0 (qA b0) := by
  refine q_start (by decide) (Nat.le_of_ble_eq_true rfl) ?_
  intro p e s m args below meth c hx hb hr hlocks hnm hml hown hT hR hK hz ls hl
  have hown : s.vm.findClass RX10 = some m.cls := hown
  have hl : lv_has ls 1 [(0, .ref a0)] := hl
  have hS : va_S (qA b0) s.heap s.heap [] := va_S.rf
  obtain ⟨Q, hQ⟩ : ∃ Q, Q = MQ below (va_Qi (fun (r' : Int32) (u : qH) => r' = r ∧ u = Xr) (fun u t => qO D kz b0 sz u t) (qA b0)) args s 0 0 (qA b0) := ⟨_, rfl⟩
  rw [← hQ]
  unfold fX10_here at hf
  obtain ⟨hthis, hf⟩ := qIs_spec hf
  obtain ⟨X10, ho, hf⟩ := q_b hf
  have hL : ∀ (n : Nat) (X1 : qH) (out : qH), fX10_here_L0 F a0 n X1 = some out → (∀ (X10 : qH), out = X10 → ∀ (H : Heap) (locs : List Loc) (ls : Array Slot), qR D kz b0 X10 H → va_S (qA b0) s.heap H locs → H.size = sz → lv_has ls 1 [(0, .ref a0)] → W p l e rmX10_here s m args below meth c H locs 0 0 Q (F0 m 38 ls [])) → ∀ (H : Heap) (locs : List Loc) (ls : Array Slot), qR D kz b0 X1 H → va_S (qA b0) s.heap H locs → H.size = sz → lv_has ls 1 [(0, .ref a0)] → W p l e rmX10_here s m args below meth c H locs 0 0 Q (F0 m 0 ls []) := by
    intro n9
    induction n9 with
    | zero =>
      intro X1 out hf
      exact absurd (show none = some out from hf) (by simp)
    | succ n9 ih0 =>
      intro X1 out hf hex H locs ls hR hS hz hl
      have hf : fX10_here_L0_B F a0 (fX10_here_L0 F a0 n9) X1 = some out := hf
      unfold fX10_here_L0_B at hf
      refine lv_aload_n hx hb dX10_here_0 rfl (lv_at hl 0 rfl) ?_
      refine q_gI hx hb hT hown hK hR iqX10 vqX10 13 (by decide) (hT _ wfl_X10_116) hf dX10_here_1 (fun v2 hf => ?_)
      refine lv_aload_n hx hb dX10_here_4 rfl (lv_at hl 0 rfl) ?_
      refine q_gI hx hb hT hown hK hR iqX10 vqX10 11 (by decide) (hT _ wfl_X10_112) hf dX10_here_5 (fun v3 hf => ?_)
      refine lv_icmp_ge (tgt := 38) hx hb dX10_here_8 (by decide) (fun hc => ?_) (fun hc => ?_)
      · have hf := q_t hf hc
        exact hex _ (Option.some.inj hf).symm _ _ _ hR hS hz (lv_sub hl [0] rfl)
      · have hf := q_f hf hc
        refine lv_aload_n hx hb dX10_here_11 rfl (lv_at hl 0 rfl) ?_
        refine q_gR hx hb hT hown hK hR iqX10 vqX10 10 (by decide) (hT _ wfl_X10_32) hf dX10_here_12 (fun v4 hf => ?_)
        refine lv_aload_n hx hb dX10_here_15 rfl (lv_at hl 0 rfl) ?_
        refine q_gI hx hb hT hown hK hR iqX10 vqX10 13 (by decide) (hT _ wfl_X10_116) hf dX10_here_16 (fun v5 hf => ?_)
        refine q_iald hx hb hK hR hf dX10_here_19 (fun v6 hf => ?_)
        refine lv_bipush (v := (32 : Int32)) hx hb dX10_here_20 (by decide) ?_
        refine lv_icmp_ne (tgt := 38) hx hb dX10_here_22 (by decide) (fun hc => ?_) (fun hc => ?_)
        · have hf := q_f hf hc
          exact hex _ (Option.some.inj hf).symm _ _ _ hR hS hz (lv_sub hl [0] rfl)
        · have hf := q_t hf hc
          refine lv_aload_n hx hb dX10_here_25 rfl (lv_at hl 0 rfl) ?_
          refine lv_dup hx hb dX10_here_26 rfl ?_
          refine q_gI hx hb hT hown hK hR iqX10 vqX10 13 (by decide) (hT _ wfl_X10_116) hf dX10_here_27 (fun v7 hf => ?_)
          refine lv_iconst (v := (1 : Int32)) hx hb dX10_here_30 (by decide) ?_
          refine lv_iadd hx hb dX10_here_31 ?_
          refine lv_topi (fun v8 ev8 => ?_)
          have hf := q_lt ev8 hf
          refine q_pI hx hb hT hown hK hR hS hz iqX10 vqX10 tyX10_ok nmX10 13 (by decide) (hT _ wfl_X10_116) rfl rfl hf dX10_here_32 (fun X9 hf H locs hR hS hz => ?_)
          refine lv_goto (tgt := 0) hx hb dX10_here_35 (by decide) ?_
          exact ih0 _ out hf hex _ _ _ hR hS hz (lv_sub hl [0] rfl)
  refine hL F _ _ ho (fun z0 h9 => ?_) _ _ _ hR hS hz (lv_sub hl [0] rfl)
  cases h9
  intro H locs ls hR hS hz hl
  refine lv_aload_n hx hb dX10_here_38 rfl (lv_at hl 0 rfl) ?_
  refine q_gI hx hb hT hown hK hR iqX10 vqX10 13 (by decide) (hT _ wfl_X10_116) hf dX10_here_39 (fun v11 hf => ?_)
  refine lv_aload_n hx hb dX10_here_42 rfl (lv_at hl 0 rfl) ?_
  refine q_gI hx hb hT hown hK hR iqX10 vqX10 11 (by decide) (hT _ wfl_X10_112) hf dX10_here_43 (fun v12 hf => ?_)
  obtain ⟨v13, hp, hf⟩ := q_b hf
  have hJ : ∀ (H : Heap) (locs : List Loc) (ls : Array Slot), qR D kz b0 X10 H → va_S (qA b0) s.heap H locs → H.size = sz → lv_has ls 1 [] → W p l e rmX10_here s m args below meth c H locs 0 0 Q (F0 m 62 ls [.int v13]) := by
    intro H locs ls hR hS hz hl
    subst hQ
    obtain ⟨h8, h9⟩ := Prod.mk.inj (Option.some.inj hf)
    exact q_iret hx hb hr hlocks hR hS hz h8 h9 dX10_here_62
  have hf := hp
  refine lv_icmp_ge (tgt := 61) hx hb dX10_here_46 (by decide) (fun hc => ?_) (fun hc => ?_)
  · have hf := q_t hf hc
    refine lv_iconst (v := (-1 : Int32)) hx hb dX10_here_61 (by decide) ?_
    cases hf
    exact hJ _ _ _ hR hS hz (lv_sub hl [] rfl)
  · have hf := q_f hf hc
    refine lv_aload_n hx hb dX10_here_49 rfl (lv_at hl 0 rfl) ?_
    refine q_gR hx hb hT hown hK hR iqX10 vqX10 10 (by decide) (hT _ wfl_X10_32) hf dX10_here_50 (fun v14 hf => ?_)
    refine lv_aload_n hx hb dX10_here_53 rfl (lv_at hl 0 rfl) ?_
    refine q_gI hx hb hT hown hK hR iqX10 vqX10 13 (by decide) (hT _ wfl_X10_116) hf dX10_here_54 (fun v15 hf => ?_)
    refine q_iald hx hb hK hR hf dX10_here_57 (fun v16 hf => ?_)
    refine lv_goto (tgt := 62) hx hb dX10_here_58 (by decide) ?_
    cases hf
    exact hJ _ _ _ hR hS hz (lv_sub hl [] rfl)
/-! X10_fails -/
def fX10_fails (F : Nat) (X : qH) (a0 : Nat) (a1 : Int32) (a2 : Int32) : Option (Int32 × qH) :=
qIs 9 X a0 <|
(qpI X 9 a0 12 a2).bind fun X1 =>
some (a1, X1)
abbrev rmX10_fails : Room := { frames := 0, cells := 0, slots := 0, locals := 0 }
theorem fX10_fails_is {F : Nat} {X : qH} {a0 : Nat} {a1 : Int32} {a2 : Int32} {r9 : Int32 × qH} (h : fX10_fails F X a0 a1 a2 = some r9) : ∃ fs, X a0 = some (.inr (9, fs)) := (qIs_spec h).1
theorem hdX10_fails : yX10_fails.cls = RX10 ∧ yX10_fails.cls ≠ "java/lang/invoke/MethodHandle" ∧ yX10_fails.cls ≠ "java/lang/invoke/VarHandle" ∧ (parseMethodDescriptor yX10_fails.desc).map (fun d => d.parameters.length) = some 2 := by decide +kernel
set_option maxHeartbeats 4000000 in
set_option maxRecDepth 100000 in
theorem mX10_fails (l : Launch) (D : va_G) (kz : Nat → Nat) (b0 sz F : Nat) (X : qH) (a0 : Nat) (a1 : Int32) (a2 : Int32) (r : Int32) (Xr : qH) (hf : fX10_fails F X a0 a1 a2 = some (r, Xr)) : Met l yX10_fails (qws yX10_fails cX10_fails 3 (some .int)) rmX10_fails (va_Pc [.ref a0, .int a1, .int a2] (qU D kz b0 sz X)) (va_Qi (fun (r' : Int32) (u : qH) => r' = r ∧ u = Xr) (fun u t => qO D kz b0 sz u t) (qA b0)) 0 0 (qA b0) := by
  refine q_start (by decide) (Nat.le_of_ble_eq_true rfl) ?_
  intro p e s m args below meth c hx hb hr hlocks hnm hml hown hT hR hK hz ls hl
  have hown : s.vm.findClass RX10 = some m.cls := hown
  have hl : lv_has ls 3 [(0, .ref a0), (1, .int a1), (2, .int a2)] := hl
  have hS : va_S (qA b0) s.heap s.heap [] := va_S.rf
  obtain ⟨Q, hQ⟩ : ∃ Q, Q = MQ below (va_Qi (fun (r' : Int32) (u : qH) => r' = r ∧ u = Xr) (fun u t => qO D kz b0 sz u t) (qA b0)) args s 0 0 (qA b0) := ⟨_, rfl⟩
  rw [← hQ]
  unfold fX10_fails at hf
  obtain ⟨hthis, hf⟩ := qIs_spec hf
  refine lv_aload_n hx hb dX10_fails_0 rfl (lv_at hl 0 rfl) ?_
  refine lv_iload_n hx hb dX10_fails_1 rfl (lv_at hl 2 rfl) ?_
  refine q_pI hx hb hT hown hK hR hS hz iqX10 vqX10 tyX10_ok nmX10 12 (by decide) (hT _ wfl_X10_35) rfl rfl hf dX10_fails_2 (fun X1 hf H locs hR hS hz => ?_)
  refine lv_iload_n hx hb dX10_fails_5 rfl (lv_at hl 1 rfl) ?_
  subst hQ
  obtain ⟨h8, h9⟩ := Prod.mk.inj (Option.some.inj hf)
  exact q_iret hx hb hr hlocks hR hS hz h8 h9 dX10_fails_6
/-! X10_takeNumber -/
def fX10_takeNumber_L42_B (F : Nat) (a0 : Nat) (a1 : Int32) (a2 : Int32) (self0 : qH → Option (qH)) (X10 : qH) : Option (qH) :=
(qgI X10 9 a0 13).bind fun v11 =>
(qgI X10 9 a0 11).bind fun v12 =>
if v12 ≤ v11 then (some X10)
else ((qgR X10 9 a0 10).bind fun v13 =>
(qgI X10 9 a0 13).bind fun v14 =>
(qaI X10 0 v13 v14).bind fun v15 =>
(fX10_in F X10 ((v15).toInt64) (48 : Int64) (57 : Int64)).bind fun v16 =>
if v16 = (0 : Int32) then (some X10)
else ((qgI X10 9 a0 14).bind fun v17 =>
(if v17 ≤ (10000 : Int32) then ((qgI X10 9 a0 14).bind fun v23 =>
(qgR X10 9 a0 10).bind fun v24 =>
(qgI X10 9 a0 13).bind fun v25 =>
(qaI X10 0 v24 v25).bind fun v26 =>
some ((((10 : Int32) * v23) + v26) - (48 : Int32)))
else ((qgI X10 9 a0 14).bind fun v27 =>
some v27) : Option Int32).bind fun v18 =>
(qpI X10 9 a0 14 v18).bind fun X19 =>
(qgI X19 9 a0 13).bind fun v20 =>
qlt (v20 + (1 : Int32)) fun v21 =>
(qpI X19 9 a0 13 v21).bind fun X22 =>
self0 X22))
def fX10_takeNumber_L42 (F : Nat) (a0 : Nat) (a1 : Int32) (a2 : Int32) : Nat → qH → Option (qH)
  | 0, _ => none
  | n + 1, X10 => fX10_takeNumber_L42_B F a0 a1 a2 (fX10_takeNumber_L42 F a0 a1 a2 n) X10
def fX10_takeNumber (F : Nat) (X : qH) (a0 : Nat) (a1 : Int32) (a2 : Int32) : Option (Int32 × qH) :=
qIs 9 X a0 <|
qb2 (fX10_here F X a0) fun v1 X2 =>
(fX10_in F X2 ((v1).toInt64) (48 : Int64) (57 : Int64)).bind fun v3 =>
if v3 = (0 : Int32) then ((qgI X2 9 a0 13).bind fun v4 =>
qb2 (fX10_fails F X2 a0 (1 : Int32) v4) fun v5 X6 =>
some (v5, X6))
else ((qgI X2 9 a0 13).bind fun v7 =>
(qpI X2 9 a0 15 v7).bind fun X8 =>
(qpI X8 9 a0 14 (0 : Int32)).bind fun X9 =>
(fX10_takeNumber_L42 F a0 a1 a2 F X9).bind fun X28 =>
(qgI X28 9 a0 13).bind fun v29 =>
(qgI X28 9 a0 15).bind fun v30 =>
qb2 (qlab (fun (_ : Unit) =>
(qgI X28 9 a0 15).bind fun v33 =>
qb2 (fX10_fails F X28 a0 (2 : Int32) v33) fun v34 X35 =>
some (v34, X35)) fun J38 =>
if (3 : Int32) < (v29 - v30) then (J38 ())
else ((qgI X28 9 a0 14).bind fun v36 =>
(fX10_in F X28 ((v36).toInt64) ((a1).toInt64) ((a2).toInt64)).bind fun v37 =>
if v37 = (0 : Int32) then (J38 ())
else (some ((0 : Int32), X28)))) fun v31 X32 =>
some (v31, X32))
abbrev rmX10_takeNumber : Room := { frames := 1, cells := 0, slots := 0, locals := 25 }
theorem fX10_takeNumber_is {F : Nat} {X : qH} {a0 : Nat} {a1 : Int32} {a2 : Int32} {r9 : Int32 × qH} (h : fX10_takeNumber F X a0 a1 a2 = some r9) : ∃ fs, X a0 = some (.inr (9, fs)) := (qIs_spec h).1
theorem hdX10_takeNumber : yX10_takeNumber.cls = RX10 ∧ yX10_takeNumber.cls ≠ "java/lang/invoke/MethodHandle" ∧ yX10_takeNumber.cls ≠ "java/lang/invoke/VarHandle" ∧ (parseMethodDescriptor yX10_takeNumber.desc).map (fun d => d.parameters.length) = some 2 := by decide +kernel
set_option maxHeartbeats 4000000 in
set_option maxRecDepth 100000 in
theorem mX10_takeNumber (l : Launch) (D : va_G) (kz : Nat → Nat) (b0 sz F : Nat) (X : qH) (a0 : Nat) (a1 : Int32) (a2 : Int32) (r : Int32) (Xr : qH) (hf : fX10_takeNumber F X a0 a1 a2 = some (r, Xr)) : Met l yX10_takeNumber (qws yX10_takeNumber cX10_takeNumber 4 (some .int)) rmX10_takeNumber (va_Pc [.ref a0, .int a1, .int a2] (qU D kz b0 sz X)) (va_Qi (fun (r' : Int32) (u : qH) => r' = r ∧ u = Xr) (fun u t => qO D kz b0 sz u t) (qA b0)) 0 0 (qA b0) := by
  refine q_start (by decide) (Nat.le_of_ble_eq_true rfl) ?_
  intro p e s m args below meth c hx hb hr hlocks hnm hml hown hT hR hK hz ls hl
  have hown : s.vm.findClass RX10 = some m.cls := hown
  have hl : lv_has ls 4 [(0, .ref a0), (1, .int a1), (2, .int a2)] := hl
  have hS : va_S (qA b0) s.heap s.heap [] := va_S.rf
  obtain ⟨Q, hQ⟩ : ∃ Q, Q = MQ below (va_Qi (fun (r' : Int32) (u : qH) => r' = r ∧ u = Xr) (fun u t => qO D kz b0 sz u t) (qA b0)) args s 0 0 (qA b0) := ⟨_, rfl⟩
  rw [← hQ]
  unfold fX10_takeNumber at hf
  obtain ⟨hthis, hf⟩ := qIs_spec hf
  refine lv_aload_n hx hb dX10_takeNumber_0 rfl (lv_at hl 0 rfl) ?_
  obtain ⟨v1, X2, hc, hf⟩ := q_b2 hf
  refine q_calli (va_runV (As := []) (rest := []) ⟨hx, hb, hml, hown, hT⟩ (mX10_here l D kz b0 sz F X a0 v1 X2 hc) (cwV 0 hT (q_gV wco_X10_here wml_X10_119 wim_X10_here wse_X10_here win_X10) rfl rfl rfl hdX10_here ⟨Nat.le_of_ble_eq_true rfl, Nat.le_of_ble_eq_true rfl⟩) (q_preV vqX10 (fX10_here_is hc) hR hK hz) rfl rfl hl.1 rfl (lv_room (Nat.le_of_ble_eq_true rfl)) dX10_takeNumber_1 ⟨Nat.le_of_ble_eq_true rfl, Nat.le_of_ble_eq_true rfl⟩) hS (fun H locs hR hS hz => ?_)
  refine lv_istore_n (lv' := [(3, .int v1), (0, .ref a0), (1, .int a1), (2, .int a2)]) hx hb dX10_takeNumber_4 rfl hl (by decide) rfl (fun ls hl => ?_)
  refine lv_iload_n hx hb dX10_takeNumber_5 rfl (lv_at hl 0 rfl) ?_
  refine lv_i2l hx hb dX10_takeNumber_6 rfl ?_
  refine lv_ldc2 (v := (48 : Int64)) hx hb hown (hT _ wkl_X10_123) dX10_takeNumber_7 ?_
  refine lv_ldc2 (v := (57 : Int64)) hx hb hown (hT _ wkl_X10_125) dX10_takeNumber_10 ?_
  obtain ⟨v3, hc, hf⟩ := q_b hf
  refine q_calli (va_runS (As := [.long ((v1).toInt64), .long (48 : Int64), .long (57 : Int64)]) (rest := []) ⟨hx, hb, hml, hown, hT⟩ (mX10_in l D kz b0 sz F X2 ((v1).toInt64) (48 : Int64) (57 : Int64) v3 hc) (va_cwS 3 hT (q_gS wco_X10_in wml_X10_105 wst_X10_in win_X10) rfl rfl rfl hdX10_in ⟨Nat.le_of_ble_eq_true rfl, Nat.le_of_ble_eq_true rfl⟩) (q_preS hR hK hz) rfl rfl hl.1 rfl (lv_room (Nat.le_of_ble_eq_true rfl)) dX10_takeNumber_13 ⟨Nat.le_of_ble_eq_true rfl, Nat.le_of_ble_eq_true rfl⟩) hS (fun H locs hR hS hz => ?_)
  refine lv_if_ne (tgt := 29) hx hb dX10_takeNumber_16 (by decide) (fun hc => ?_) (fun hc => ?_)
  · have hf := q_f hf hc
    refine lv_aload_n hx hb dX10_takeNumber_29 rfl (lv_at hl 1 rfl) ?_
    refine lv_aload_n hx hb dX10_takeNumber_30 rfl (lv_at hl 1 rfl) ?_
    refine q_gI hx hb hT hown hK hR iqX10 vqX10 13 (by decide) (hT _ wfl_X10_116) hf dX10_takeNumber_31 (fun v7 hf => ?_)
    refine q_pI hx hb hT hown hK hR hS hz iqX10 vqX10 tyX10_ok nmX10 15 (by decide) (hT _ wfl_X10_131) rfl rfl hf dX10_takeNumber_34 (fun X8 hf H locs hR hS hz => ?_)
    refine lv_aload_n hx hb dX10_takeNumber_37 rfl (lv_at hl 1 rfl) ?_
    refine lv_iconst (v := (0 : Int32)) hx hb dX10_takeNumber_38 (by decide) ?_
    refine q_pI hx hb hT hown hK hR hS hz iqX10 vqX10 tyX10_ok nmX10 14 (by decide) (hT _ wfl_X10_134) rfl rfl hf dX10_takeNumber_39 (fun X9 hf H locs hR hS hz => ?_)
    obtain ⟨X28, ho, hf⟩ := q_b hf
    have hL : ∀ (n : Nat) (X10 : qH) (out : qH), fX10_takeNumber_L42 F a0 a1 a2 n X10 = some out → (∀ (X28 : qH), out = X28 → ∀ (H : Heap) (locs : List Loc) (ls : Array Slot), qR D kz b0 X28 H → va_S (qA b0) s.heap H locs → H.size = sz → lv_has ls 4 [(0, .ref a0), (1, .int a1), (2, .int a2)] → W p l e rmX10_takeNumber s m args below meth c H locs 0 0 Q (F0 m 129 ls [])) → ∀ (H : Heap) (locs : List Loc) (ls : Array Slot), qR D kz b0 X10 H → va_S (qA b0) s.heap H locs → H.size = sz → lv_has ls 4 [(0, .ref a0), (1, .int a1), (2, .int a2)] → W p l e rmX10_takeNumber s m args below meth c H locs 0 0 Q (F0 m 42 ls []) := by
      intro n9
      induction n9 with
      | zero =>
        intro X10 out hf
        exact absurd (show none = some out from hf) (by simp)
      | succ n9 ih0 =>
        intro X10 out hf hex H locs ls hR hS hz hl
        have hf : fX10_takeNumber_L42_B F a0 a1 a2 (fX10_takeNumber_L42 F a0 a1 a2 n9) X10 = some out := hf
        unfold fX10_takeNumber_L42_B at hf
        refine lv_aload_n hx hb dX10_takeNumber_42 rfl (lv_at hl 0 rfl) ?_
        refine q_gI hx hb hT hown hK hR iqX10 vqX10 13 (by decide) (hT _ wfl_X10_116) hf dX10_takeNumber_43 (fun v11 hf => ?_)
        refine lv_aload_n hx hb dX10_takeNumber_46 rfl (lv_at hl 0 rfl) ?_
        refine q_gI hx hb hT hown hK hR iqX10 vqX10 11 (by decide) (hT _ wfl_X10_112) hf dX10_takeNumber_47 (fun v12 hf => ?_)
        refine lv_icmp_ge (tgt := 129) hx hb dX10_takeNumber_50 (by decide) (fun hc => ?_) (fun hc => ?_)
        · have hf := q_t hf hc
          exact hex _ (Option.some.inj hf).symm _ _ _ hR hS hz (lv_sub hl [0, 1, 2] rfl)
        · have hf := q_f hf hc
          refine lv_aload_n hx hb dX10_takeNumber_53 rfl (lv_at hl 0 rfl) ?_
          refine q_gR hx hb hT hown hK hR iqX10 vqX10 10 (by decide) (hT _ wfl_X10_32) hf dX10_takeNumber_54 (fun v13 hf => ?_)
          refine lv_aload_n hx hb dX10_takeNumber_57 rfl (lv_at hl 0 rfl) ?_
          refine q_gI hx hb hT hown hK hR iqX10 vqX10 13 (by decide) (hT _ wfl_X10_116) hf dX10_takeNumber_58 (fun v14 hf => ?_)
          refine q_iald hx hb hK hR hf dX10_takeNumber_61 (fun v15 hf => ?_)
          refine lv_i2l hx hb dX10_takeNumber_62 rfl ?_
          refine lv_ldc2 (v := (48 : Int64)) hx hb hown (hT _ wkl_X10_123) dX10_takeNumber_63 ?_
          refine lv_ldc2 (v := (57 : Int64)) hx hb hown (hT _ wkl_X10_125) dX10_takeNumber_66 ?_
          obtain ⟨v16, hc, hf⟩ := q_b hf
          refine q_calli (va_runS (As := [.long ((v15).toInt64), .long (48 : Int64), .long (57 : Int64)]) (rest := []) ⟨hx, hb, hml, hown, hT⟩ (mX10_in l D kz b0 sz F X10 ((v15).toInt64) (48 : Int64) (57 : Int64) v16 hc) (va_cwS 3 hT (q_gS wco_X10_in wml_X10_105 wst_X10_in win_X10) rfl rfl rfl hdX10_in ⟨Nat.le_of_ble_eq_true rfl, Nat.le_of_ble_eq_true rfl⟩) (q_preS hR hK hz) rfl rfl hl.1 rfl (lv_room (Nat.le_of_ble_eq_true rfl)) dX10_takeNumber_69 ⟨Nat.le_of_ble_eq_true rfl, Nat.le_of_ble_eq_true rfl⟩) hS (fun H locs hR hS hz => ?_)
          refine lv_if_eq (tgt := 129) hx hb dX10_takeNumber_72 (by decide) (fun hc => ?_) (fun hc => ?_)
          · have hf := q_t hf hc
            exact hex _ (Option.some.inj hf).symm _ _ _ hR hS hz (lv_sub hl [0, 1, 2] rfl)
          · have hf := q_f hf hc
            refine lv_aload_n hx hb dX10_takeNumber_75 rfl (lv_at hl 0 rfl) ?_
            refine lv_aload_n hx hb dX10_takeNumber_76 rfl (lv_at hl 0 rfl) ?_
            refine q_gI hx hb hT hown hK hR iqX10 vqX10 14 (by decide) (hT _ wfl_X10_134) hf dX10_takeNumber_77 (fun v17 hf => ?_)
            refine lv_sipush (v := (10000 : Int32)) hx hb dX10_takeNumber_80 (by decide) ?_
            obtain ⟨v18, hp, hf⟩ := q_b hf
            have hJ : ∀ (H : Heap) (locs : List Loc) (ls : Array Slot), qR D kz b0 X10 H → va_S (qA b0) s.heap H locs → H.size = sz → lv_has ls 4 [(0, .ref a0), (1, .int a1), (2, .int a2)] → W p l e rmX10_takeNumber s m args below meth c H locs 0 0 Q (F0 m 113 ls [.int v18, .ref a0]) := by
              intro H locs ls hR hS hz hl
              refine q_pI hx hb hT hown hK hR hS hz iqX10 vqX10 tyX10_ok nmX10 14 (by decide) (hT _ wfl_X10_134) rfl rfl hf dX10_takeNumber_113 (fun X19 hf H locs hR hS hz => ?_)
              refine lv_aload_n hx hb dX10_takeNumber_116 rfl (lv_at hl 0 rfl) ?_
              refine lv_dup hx hb dX10_takeNumber_117 rfl ?_
              refine q_gI hx hb hT hown hK hR iqX10 vqX10 13 (by decide) (hT _ wfl_X10_116) hf dX10_takeNumber_118 (fun v20 hf => ?_)
              refine lv_iconst (v := (1 : Int32)) hx hb dX10_takeNumber_121 (by decide) ?_
              refine lv_iadd hx hb dX10_takeNumber_122 ?_
              refine lv_topi (fun v21 ev21 => ?_)
              have hf := q_lt ev21 hf
              refine q_pI hx hb hT hown hK hR hS hz iqX10 vqX10 tyX10_ok nmX10 13 (by decide) (hT _ wfl_X10_116) rfl rfl hf dX10_takeNumber_123 (fun X22 hf H locs hR hS hz => ?_)
              refine lv_goto (tgt := 42) hx hb dX10_takeNumber_126 (by decide) ?_
              exact ih0 _ out hf hex _ _ _ hR hS hz (lv_sub hl [0, 1, 2] rfl)
            have hf := hp
            refine lv_icmp_le (tgt := 93) hx hb dX10_takeNumber_83 (by decide) (fun hc => ?_) (fun hc => ?_)
            · have hf := q_t hf hc
              refine lv_bipush (v := (10 : Int32)) hx hb dX10_takeNumber_93 (by decide) ?_
              refine lv_aload_n hx hb dX10_takeNumber_95 rfl (lv_at hl 0 rfl) ?_
              refine q_gI hx hb hT hown hK hR iqX10 vqX10 14 (by decide) (hT _ wfl_X10_134) hf dX10_takeNumber_96 (fun v23 hf => ?_)
              refine lv_imul hx hb dX10_takeNumber_99 ?_
              refine lv_aload_n hx hb dX10_takeNumber_100 rfl (lv_at hl 0 rfl) ?_
              refine q_gR hx hb hT hown hK hR iqX10 vqX10 10 (by decide) (hT _ wfl_X10_32) hf dX10_takeNumber_101 (fun v24 hf => ?_)
              refine lv_aload_n hx hb dX10_takeNumber_104 rfl (lv_at hl 0 rfl) ?_
              refine q_gI hx hb hT hown hK hR iqX10 vqX10 13 (by decide) (hT _ wfl_X10_116) hf dX10_takeNumber_105 (fun v25 hf => ?_)
              refine q_iald hx hb hK hR hf dX10_takeNumber_108 (fun v26 hf => ?_)
              refine lv_iadd hx hb dX10_takeNumber_109 ?_
              refine lv_bipush (v := (48 : Int32)) hx hb dX10_takeNumber_110 (by decide) ?_
              refine lv_isub hx hb dX10_takeNumber_112 ?_
              cases hf
              exact hJ _ _ _ hR hS hz (lv_sub hl [0, 1, 2] rfl)
            · have hf := q_f hf hc
              refine lv_aload_n hx hb dX10_takeNumber_86 rfl (lv_at hl 0 rfl) ?_
              refine q_gI hx hb hT hown hK hR iqX10 vqX10 14 (by decide) (hT _ wfl_X10_134) hf dX10_takeNumber_87 (fun v27 hf => ?_)
              refine lv_goto (tgt := 113) hx hb dX10_takeNumber_90 (by decide) ?_
              cases hf
              exact hJ _ _ _ hR hS hz (lv_sub hl [0, 1, 2] rfl)
    refine hL F _ _ ho (fun z0 h9 => ?_) _ _ _ hR hS hz (lv_sub hl [1, 2, 3] rfl)
    cases h9
    intro H locs ls hR hS hz hl
    refine lv_aload_n hx hb dX10_takeNumber_129 rfl (lv_at hl 0 rfl) ?_
    refine q_gI hx hb hT hown hK hR iqX10 vqX10 13 (by decide) (hT _ wfl_X10_116) hf dX10_takeNumber_130 (fun v29 hf => ?_)
    refine lv_aload_n hx hb dX10_takeNumber_133 rfl (lv_at hl 0 rfl) ?_
    refine q_gI hx hb hT hown hK hR iqX10 vqX10 15 (by decide) (hT _ wfl_X10_131) hf dX10_takeNumber_134 (fun v30 hf => ?_)
    refine lv_isub hx hb dX10_takeNumber_137 ?_
    refine lv_iconst (v := (3 : Int32)) hx hb dX10_takeNumber_138 (by decide) ?_
    obtain ⟨v31, X32, hp, hf⟩ := q_b2 hf
    have hJ : ∀ (H : Heap) (locs : List Loc) (ls : Array Slot), qR D kz b0 X32 H → va_S (qA b0) s.heap H locs → H.size = sz → lv_has ls 4 [] → W p l e rmX10_takeNumber s m args below meth c H locs 0 0 Q (F0 m 170 ls [.int v31]) := by
      intro H locs ls hR hS hz hl
      subst hQ
      obtain ⟨h8, h9⟩ := Prod.mk.inj (Option.some.inj hf)
      exact q_iret hx hb hr hlocks hR hS hz h8 h9 dX10_takeNumber_170
    have hf := hp
    obtain ⟨J38, hJd, hf⟩ := q_lab hf
    have hJ157 : ∀ (_ : Unit), J38 () = some (v31, X32) → ∀ (H : Heap) (locs : List Loc) (ls : Array Slot), qR D kz b0 X28 H → va_S (qA b0) s.heap H locs → H.size = sz → lv_has ls 4 [(0, .ref a0)] → W p l e rmX10_takeNumber s m args below meth c H locs 0 0 Q (F0 m 157 ls []) := by
      intro _ hf H locs ls hR hS hz hl
      rw [hJd] at hf
      refine lv_aload_n hx hb dX10_takeNumber_157 rfl (lv_at hl 0 rfl) ?_
      refine lv_iconst (v := (2 : Int32)) hx hb dX10_takeNumber_158 (by decide) ?_
      refine lv_aload_n hx hb dX10_takeNumber_159 rfl (lv_at hl 0 rfl) ?_
      refine q_gI hx hb hT hown hK hR iqX10 vqX10 15 (by decide) (hT _ wfl_X10_131) hf dX10_takeNumber_160 (fun v33 hf => ?_)
      obtain ⟨v34, X35, hc, hf⟩ := q_b2 hf
      refine q_calli (va_runV (As := [.int (2 : Int32), .int v33]) (rest := []) ⟨hx, hb, hml, hown, hT⟩ (mX10_fails l D kz b0 sz F X28 a0 (2 : Int32) v33 v34 X35 hc) (cwV 2 hT (q_gV wco_X10_fails wml_X10_127 wim_X10_fails wse_X10_fails win_X10) rfl rfl rfl hdX10_fails ⟨Nat.le_of_ble_eq_true rfl, Nat.le_of_ble_eq_true rfl⟩) (q_preV vqX10 (fX10_fails_is hc) hR hK hz) rfl rfl hl.1 rfl (lv_room (Nat.le_of_ble_eq_true rfl)) dX10_takeNumber_163 ⟨Nat.le_of_ble_eq_true rfl, Nat.le_of_ble_eq_true rfl⟩) hS (fun H locs hR hS hz => ?_)
      refine lv_goto (tgt := 170) hx hb dX10_takeNumber_166 (by decide) ?_
      cases hf
      exact hJ _ _ _ hR hS hz (lv_sub hl [] rfl)
    clear hJd
    refine lv_icmp_gt (tgt := 157) hx hb dX10_takeNumber_139 (by decide) (fun hc => ?_) (fun hc => ?_)
    · have hf := q_t hf hc
      exact hJ157 () hf _ _ _ hR hS hz (lv_sub hl [0] rfl)
    · have hf := q_f hf hc
      refine lv_aload_n hx hb dX10_takeNumber_142 rfl (lv_at hl 0 rfl) ?_
      refine q_gI hx hb hT hown hK hR iqX10 vqX10 14 (by decide) (hT _ wfl_X10_134) hf dX10_takeNumber_143 (fun v36 hf => ?_)
      refine lv_i2l hx hb dX10_takeNumber_146 rfl ?_
      refine lv_iload_n hx hb dX10_takeNumber_147 rfl (lv_at hl 1 rfl) ?_
      refine lv_i2l hx hb dX10_takeNumber_148 rfl ?_
      refine lv_iload_n hx hb dX10_takeNumber_149 rfl (lv_at hl 2 rfl) ?_
      refine lv_i2l hx hb dX10_takeNumber_150 rfl ?_
      obtain ⟨v37, hc, hf⟩ := q_b hf
      refine q_calli (va_runS (As := [.long ((v36).toInt64), .long ((a1).toInt64), .long ((a2).toInt64)]) (rest := []) ⟨hx, hb, hml, hown, hT⟩ (mX10_in l D kz b0 sz F X28 ((v36).toInt64) ((a1).toInt64) ((a2).toInt64) v37 hc) (va_cwS 3 hT (q_gS wco_X10_in wml_X10_105 wst_X10_in win_X10) rfl rfl rfl hdX10_in ⟨Nat.le_of_ble_eq_true rfl, Nat.le_of_ble_eq_true rfl⟩) (q_preS hR hK hz) rfl rfl hl.1 rfl (lv_room (Nat.le_of_ble_eq_true rfl)) dX10_takeNumber_151 ⟨Nat.le_of_ble_eq_true rfl, Nat.le_of_ble_eq_true rfl⟩) hS (fun H locs hR hS hz => ?_)
      refine lv_if_ne (tgt := 169) hx hb dX10_takeNumber_154 (by decide) (fun hc => ?_) (fun hc => ?_)
      · have hf := q_f hf hc
        refine lv_iconst (v := (0 : Int32)) hx hb dX10_takeNumber_169 (by decide) ?_
        cases hf
        exact hJ _ _ _ hR hS hz (lv_sub hl [] rfl)
      · have hf := q_t hf hc
        exact hJ157 () hf _ _ _ hR hS hz (lv_sub hl [0] rfl)
  · have hf := q_t hf hc
    refine lv_aload_n hx hb dX10_takeNumber_19 rfl (lv_at hl 1 rfl) ?_
    refine lv_iconst (v := (1 : Int32)) hx hb dX10_takeNumber_20 (by decide) ?_
    refine lv_aload_n hx hb dX10_takeNumber_21 rfl (lv_at hl 1 rfl) ?_
    refine q_gI hx hb hT hown hK hR iqX10 vqX10 13 (by decide) (hT _ wfl_X10_116) hf dX10_takeNumber_22 (fun v4 hf => ?_)
    obtain ⟨v5, X6, hc, hf⟩ := q_b2 hf
    refine q_calli (va_runV (As := [.int (1 : Int32), .int v4]) (rest := []) ⟨hx, hb, hml, hown, hT⟩ (mX10_fails l D kz b0 sz F X2 a0 (1 : Int32) v4 v5 X6 hc) (cwV 2 hT (q_gV wco_X10_fails wml_X10_127 wim_X10_fails wse_X10_fails win_X10) rfl rfl rfl hdX10_fails ⟨Nat.le_of_ble_eq_true rfl, Nat.le_of_ble_eq_true rfl⟩) (q_preV vqX10 (fX10_fails_is hc) hR hK hz) rfl rfl hl.1 rfl (lv_room (Nat.le_of_ble_eq_true rfl)) dX10_takeNumber_25 ⟨Nat.le_of_ble_eq_true rfl, Nat.le_of_ble_eq_true rfl⟩) hS (fun H locs hR hS hz => ?_)
    subst hQ
    obtain ⟨h8, h9⟩ := Prod.mk.inj (Option.some.inj hf)
    exact q_iret hx hb hr hlocks hR hS hz h8 h9 dX10_takeNumber_28
/-! X10_into -/
def fX10_into (F : Nat) (X : qH) (a0 : Nat) (a1 : Nat) (a2 : Int32) (a3 : Int32) (a4 : Int32) : Option (Int32 × qH) :=
qIs 9 X a0 <|
qb2 (fX10_takeNumber F X a0 a3 a4) fun v1 X2 =>
(qgI X2 9 a0 14).bind fun v3 =>
(qaS X2 0 a1 a2 v3).bind fun X4 =>
some (v1, X4)
abbrev rmX10_into : Room := { frames := 2, cells := 0, slots := 0, locals := 48 }
theorem fX10_into_is {F : Nat} {X : qH} {a0 : Nat} {a1 : Nat} {a2 : Int32} {a3 : Int32} {a4 : Int32} {r9 : Int32 × qH} (h : fX10_into F X a0 a1 a2 a3 a4 = some r9) : ∃ fs, X a0 = some (.inr (9, fs)) := (qIs_spec h).1
theorem hdX10_into : yX10_into.cls = RX10 ∧ yX10_into.cls ≠ "java/lang/invoke/MethodHandle" ∧ yX10_into.cls ≠ "java/lang/invoke/VarHandle" ∧ (parseMethodDescriptor yX10_into.desc).map (fun d => d.parameters.length) = some 4 := by decide +kernel
set_option maxHeartbeats 4000000 in
set_option maxRecDepth 100000 in
theorem mX10_into (l : Launch) (D : va_G) (kz : Nat → Nat) (b0 sz F : Nat) (X : qH) (a0 : Nat) (a1 : Nat) (a2 : Int32) (a3 : Int32) (a4 : Int32) (r : Int32) (Xr : qH) (hf : fX10_into F X a0 a1 a2 a3 a4 = some (r, Xr)) : Met l yX10_into (qws yX10_into cX10_into 6 (some .int)) rmX10_into (va_Pc [.ref a0, .ref a1, .int a2, .int a3, .int a4] (qU D kz b0 sz X)) (va_Qi (fun (r' : Int32) (u : qH) => r' = r ∧ u = Xr) (fun u t => qO D kz b0 sz u t) (qA b0)) 0 0 (qA b0) := by
  refine q_start (by decide) (Nat.le_of_ble_eq_true rfl) ?_
  intro p e s m args below meth c hx hb hr hlocks hnm hml hown hT hR hK hz ls hl
  have hown : s.vm.findClass RX10 = some m.cls := hown
  have hl : lv_has ls 6 [(0, .ref a0), (1, .ref a1), (2, .int a2), (3, .int a3), (4, .int a4)] := hl
  have hS : va_S (qA b0) s.heap s.heap [] := va_S.rf
  obtain ⟨Q, hQ⟩ : ∃ Q, Q = MQ below (va_Qi (fun (r' : Int32) (u : qH) => r' = r ∧ u = Xr) (fun u t => qO D kz b0 sz u t) (qA b0)) args s 0 0 (qA b0) := ⟨_, rfl⟩
  rw [← hQ]
  unfold fX10_into at hf
  obtain ⟨hthis, hf⟩ := qIs_spec hf
  refine lv_aload_n hx hb dX10_into_0 rfl (lv_at hl 0 rfl) ?_
  refine lv_iload_n hx hb dX10_into_1 rfl (lv_at hl 3 rfl) ?_
  refine lv_iload hx hb dX10_into_2 (lv_at hl 4 rfl) ?_
  obtain ⟨v1, X2, hc, hf⟩ := q_b2 hf
  refine q_calli (va_runV (As := [.int a3, .int a4]) (rest := []) ⟨hx, hb, hml, hown, hT⟩ (mX10_takeNumber l D kz b0 sz F X a0 a3 a4 v1 X2 hc) (cwV 2 hT (q_gV wco_X10_takeNumber wml_X10_137 wim_X10_takeNumber wse_X10_takeNumber win_X10) rfl rfl rfl hdX10_takeNumber ⟨Nat.le_of_ble_eq_true rfl, Nat.le_of_ble_eq_true rfl⟩) (q_preV vqX10 (fX10_takeNumber_is hc) hR hK hz) rfl rfl hl.1 rfl (lv_room (Nat.le_of_ble_eq_true rfl)) dX10_into_4 ⟨Nat.le_of_ble_eq_true rfl, Nat.le_of_ble_eq_true rfl⟩) hS (fun H locs hR hS hz => ?_)
  refine lv_istore (lv' := [(5, .int v1), (0, .ref a0), (1, .ref a1), (2, .int a2), (3, .int a3), (4, .int a4)]) hx hb dX10_into_7 hl (by decide) rfl (fun ls hl => ?_)
  refine lv_aload_n hx hb dX10_into_9 rfl (lv_at hl 2 rfl) ?_
  refine lv_iload_n hx hb dX10_into_10 rfl (lv_at hl 3 rfl) ?_
  refine lv_aload_n hx hb dX10_into_11 rfl (lv_at hl 1 rfl) ?_
  refine q_gI hx hb hT hown hK hR iqX10 vqX10 14 (by decide) (hT _ wfl_X10_134) hf dX10_into_12 (fun v3 hf => ?_)
  refine q_iast hx hb hK hR hS hz hf dX10_into_15 (fun X4 hf H locs hR hS hz => ?_)
  refine lv_iload hx hb dX10_into_16 (lv_at hl 0 rfl) ?_
  subst hQ
  obtain ⟨h8, h9⟩ := Prod.mk.inj (Option.some.inj hf)
  exact q_iret hx hb hr hlocks hR hS hz h8 h9 dX10_into_18
/-! X10_takeBay -/
def fX10_takeBay (F : Nat) (X : qH) (a0 : Nat) : Option (Int32 × qH) :=
qIs 9 X a0 <|
(qgR X 9 a0 16).bind fun v1 =>
qb2 (fX10_into F X a0 v1 (0 : Int32) (2 : Int32) (30 : Int32)) fun v2 X3 =>
qb2 (if v2 ≤ (0 : Int32) then ((qgR X3 9 a0 16).bind fun v11 =>
qb2 (fX10_into F X3 a0 v11 (1 : Int32) (0 : Int32) (20 : Int32)) fun v12 X13 =>
some (v12, X13))
else (some (v2, X3))) fun v4 X5 =>
qb2 (if v4 ≤ (0 : Int32) then ((qgR X5 9 a0 16).bind fun v8 =>
qb2 (fX10_into F X5 a0 v8 (2 : Int32) (0 : Int32) (10 : Int32)) fun v9 X10 =>
some (v9, X10))
else (some (v4, X5))) fun v6 X7 =>
some (v6, X7)
abbrev rmX10_takeBay : Room := { frames := 3, cells := 0, slots := 0, locals := 73 }
theorem fX10_takeBay_is {F : Nat} {X : qH} {a0 : Nat} {r9 : Int32 × qH} (h : fX10_takeBay F X a0 = some r9) : ∃ fs, X a0 = some (.inr (9, fs)) := (qIs_spec h).1
theorem hdX10_takeBay : yX10_takeBay.cls = RX10 ∧ yX10_takeBay.cls ≠ "java/lang/invoke/MethodHandle" ∧ yX10_takeBay.cls ≠ "java/lang/invoke/VarHandle" ∧ (parseMethodDescriptor yX10_takeBay.desc).map (fun d => d.parameters.length) = some 0 := by decide +kernel
set_option maxHeartbeats 4000000 in
set_option maxRecDepth 100000 in
theorem mX10_takeBay (l : Launch) (D : va_G) (kz : Nat → Nat) (b0 sz F : Nat) (X : qH) (a0 : Nat) (r : Int32) (Xr : qH) (hf : fX10_takeBay F X a0 = some (r, Xr)) : Met l yX10_takeBay (qws yX10_takeBay cX10_takeBay 2 (some .int)) rmX10_takeBay (va_Pc [.ref a0] (qU D kz b0 sz X)) (va_Qi (fun (r' : Int32) (u : qH) => r' = r ∧ u = Xr) (fun u t => qO D kz b0 sz u t) (qA b0)) 0 0 (qA b0) := by
  refine q_start (by decide) (Nat.le_of_ble_eq_true rfl) ?_
  intro p e s m args below meth c hx hb hr hlocks hnm hml hown hT hR hK hz ls hl
  have hown : s.vm.findClass RX10 = some m.cls := hown
  have hl : lv_has ls 2 [(0, .ref a0)] := hl
  have hS : va_S (qA b0) s.heap s.heap [] := va_S.rf
  obtain ⟨Q, hQ⟩ : ∃ Q, Q = MQ below (va_Qi (fun (r' : Int32) (u : qH) => r' = r ∧ u = Xr) (fun u t => qO D kz b0 sz u t) (qA b0)) args s 0 0 (qA b0) := ⟨_, rfl⟩
  rw [← hQ]
  unfold fX10_takeBay at hf
  obtain ⟨hthis, hf⟩ := qIs_spec hf
  refine lv_aload_n hx hb dX10_takeBay_0 rfl (lv_at hl 0 rfl) ?_
  refine lv_aload_n hx hb dX10_takeBay_1 rfl (lv_at hl 0 rfl) ?_
  refine q_gR hx hb hT hown hK hR iqX10 vqX10 16 (by decide) (hT _ wfl_X10_38) hf dX10_takeBay_2 (fun v1 hf => ?_)
  refine lv_iconst (v := (0 : Int32)) hx hb dX10_takeBay_5 (by decide) ?_
  refine lv_iconst (v := (2 : Int32)) hx hb dX10_takeBay_6 (by decide) ?_
  refine lv_bipush (v := (30 : Int32)) hx hb dX10_takeBay_7 (by decide) ?_
  obtain ⟨v2, X3, hc, hf⟩ := q_b2 hf
  refine q_calli (va_runV (As := [.ref v1, .int (0 : Int32), .int (2 : Int32), .int (30 : Int32)]) (rest := []) ⟨hx, hb, hml, hown, hT⟩ (mX10_into l D kz b0 sz F X a0 v1 (0 : Int32) (2 : Int32) (30 : Int32) v2 X3 hc) (cwV 4 hT (q_gV wco_X10_into wml_X10_140 wim_X10_into wse_X10_into win_X10) rfl rfl rfl hdX10_into ⟨Nat.le_of_ble_eq_true rfl, Nat.le_of_ble_eq_true rfl⟩) (q_preV vqX10 (fX10_into_is hc) hR hK hz) rfl rfl hl.1 rfl (lv_room (Nat.le_of_ble_eq_true rfl)) dX10_takeBay_9 ⟨Nat.le_of_ble_eq_true rfl, Nat.le_of_ble_eq_true rfl⟩) hS (fun H locs hR hS hz => ?_)
  refine lv_istore_n (lv' := [(1, .int v2), (0, .ref a0)]) hx hb dX10_takeBay_12 rfl hl (by decide) rfl (fun ls hl => ?_)
  refine lv_iload_n hx hb dX10_takeBay_13 rfl (lv_at hl 0 rfl) ?_
  obtain ⟨v4, X5, hp, hf⟩ := q_b2 hf
  have hJ : ∀ (H : Heap) (locs : List Loc) (ls : Array Slot), qR D kz b0 X5 H → va_S (qA b0) s.heap H locs → H.size = sz → lv_has ls 2 [(0, .ref a0)] → W p l e rmX10_takeBay s m args below meth c H locs 0 0 Q (F0 m 33 ls [.int v4]) := by
    intro H locs ls hR hS hz hl
    refine lv_istore_n (lv' := [(1, .int v4), (0, .ref a0)]) hx hb dX10_takeBay_33 rfl hl (by decide) rfl (fun ls hl => ?_)
    refine lv_iload_n hx hb dX10_takeBay_34 rfl (lv_at hl 0 rfl) ?_
    obtain ⟨v6, X7, hp, hf⟩ := q_b2 hf
    have hJ : ∀ (H : Heap) (locs : List Loc) (ls : Array Slot), qR D kz b0 X7 H → va_S (qA b0) s.heap H locs → H.size = sz → lv_has ls 2 [] → W p l e rmX10_takeBay s m args below meth c H locs 0 0 Q (F0 m 54 ls [.int v6]) := by
      intro H locs ls hR hS hz hl
      subst hQ
      obtain ⟨h8, h9⟩ := Prod.mk.inj (Option.some.inj hf)
      exact q_iret hx hb hr hlocks hR hS hz h8 h9 dX10_takeBay_54
    have hf := hp
    refine lv_if_le (tgt := 42) hx hb dX10_takeBay_35 (by decide) (fun hc => ?_) (fun hc => ?_)
    · have hf := q_t hf hc
      refine lv_aload_n hx hb dX10_takeBay_42 rfl (lv_at hl 1 rfl) ?_
      refine lv_aload_n hx hb dX10_takeBay_43 rfl (lv_at hl 1 rfl) ?_
      refine q_gR hx hb hT hown hK hR iqX10 vqX10 16 (by decide) (hT _ wfl_X10_38) hf dX10_takeBay_44 (fun v8 hf => ?_)
      refine lv_iconst (v := (2 : Int32)) hx hb dX10_takeBay_47 (by decide) ?_
      refine lv_iconst (v := (0 : Int32)) hx hb dX10_takeBay_48 (by decide) ?_
      refine lv_bipush (v := (10 : Int32)) hx hb dX10_takeBay_49 (by decide) ?_
      obtain ⟨v9, X10, hc, hf⟩ := q_b2 hf
      refine q_calli (va_runV (As := [.ref v8, .int (2 : Int32), .int (0 : Int32), .int (10 : Int32)]) (rest := []) ⟨hx, hb, hml, hown, hT⟩ (mX10_into l D kz b0 sz F X5 a0 v8 (2 : Int32) (0 : Int32) (10 : Int32) v9 X10 hc) (cwV 4 hT (q_gV wco_X10_into wml_X10_140 wim_X10_into wse_X10_into win_X10) rfl rfl rfl hdX10_into ⟨Nat.le_of_ble_eq_true rfl, Nat.le_of_ble_eq_true rfl⟩) (q_preV vqX10 (fX10_into_is hc) hR hK hz) rfl rfl hl.1 rfl (lv_room (Nat.le_of_ble_eq_true rfl)) dX10_takeBay_51 ⟨Nat.le_of_ble_eq_true rfl, Nat.le_of_ble_eq_true rfl⟩) hS (fun H locs hR hS hz => ?_)
      cases hf
      exact hJ _ _ _ hR hS hz (lv_sub hl [] rfl)
    · have hf := q_f hf hc
      refine lv_iload_n hx hb dX10_takeBay_38 rfl (lv_at hl 0 rfl) ?_
      refine lv_goto (tgt := 54) hx hb dX10_takeBay_39 (by decide) ?_
      cases hf
      exact hJ _ _ _ hR hS hz (lv_sub hl [] rfl)
  have hf := hp
  refine lv_if_le (tgt := 21) hx hb dX10_takeBay_14 (by decide) (fun hc => ?_) (fun hc => ?_)
  · have hf := q_t hf hc
    refine lv_aload_n hx hb dX10_takeBay_21 rfl (lv_at hl 1 rfl) ?_
    refine lv_aload_n hx hb dX10_takeBay_22 rfl (lv_at hl 1 rfl) ?_
    refine q_gR hx hb hT hown hK hR iqX10 vqX10 16 (by decide) (hT _ wfl_X10_38) hf dX10_takeBay_23 (fun v11 hf => ?_)
    refine lv_iconst (v := (1 : Int32)) hx hb dX10_takeBay_26 (by decide) ?_
    refine lv_iconst (v := (0 : Int32)) hx hb dX10_takeBay_27 (by decide) ?_
    refine lv_bipush (v := (20 : Int32)) hx hb dX10_takeBay_28 (by decide) ?_
    obtain ⟨v12, X13, hc, hf⟩ := q_b2 hf
    refine q_calli (va_runV (As := [.ref v11, .int (1 : Int32), .int (0 : Int32), .int (20 : Int32)]) (rest := []) ⟨hx, hb, hml, hown, hT⟩ (mX10_into l D kz b0 sz F X3 a0 v11 (1 : Int32) (0 : Int32) (20 : Int32) v12 X13 hc) (cwV 4 hT (q_gV wco_X10_into wml_X10_140 wim_X10_into wse_X10_into win_X10) rfl rfl rfl hdX10_into ⟨Nat.le_of_ble_eq_true rfl, Nat.le_of_ble_eq_true rfl⟩) (q_preV vqX10 (fX10_into_is hc) hR hK hz) rfl rfl hl.1 rfl (lv_room (Nat.le_of_ble_eq_true rfl)) dX10_takeBay_30 ⟨Nat.le_of_ble_eq_true rfl, Nat.le_of_ble_eq_true rfl⟩) hS (fun H locs hR hS hz => ?_)
    cases hf
    exact hJ _ _ _ hR hS hz (lv_sub hl [1] rfl)
  · have hf := q_f hf hc
    refine lv_iload_n hx hb dX10_takeBay_17 rfl (lv_at hl 0 rfl) ?_
    refine lv_goto (tgt := 33) hx hb dX10_takeBay_18 (by decide) ?_
    cases hf
    exact hJ _ _ _ hR hS hz (lv_sub hl [1] rfl)
/-! X10_takeCell -/
def fX10_takeCell_L21_B (F : Nat) (a0 : Nat) (a1 : Int32) (self0 : Int32 → Int32 → qH → Option (Int32 × qH)) (v6 : Int32) (v7 : Int32) (X8 : qH) : Option (Int32 × qH) :=
if a1 ≤ v7 then (some (v6, X8))
else (if v6 = (0 : Int32) then ((qgR X8 9 a0 18).bind fun v9 =>
(qaI X8 0 v9 v7).bind fun v10 =>
(qgI X8 9 a0 14).bind fun v11 =>
qb2 (if v10 = v11 then ((qgI X8 9 a0 15).bind fun v15 =>
qb2 (fX10_fails F X8 a0 (4 : Int32) v15) fun v16 X17 =>
some (v16, X17))
else (some ((0 : Int32), X8))) fun v12 X13 =>
qlt (v7 + (1 : Int32)) fun v14 =>
self0 v12 v14 X13)
else (some (v6, X8)))
def fX10_takeCell_L21 (F : Nat) (a0 : Nat) (a1 : Int32) : Nat → Int32 → Int32 → qH → Option (Int32 × qH)
  | 0, _, _, _ => none
  | n + 1, v6, v7, X8 => fX10_takeCell_L21_B F a0 a1 (fX10_takeCell_L21 F a0 a1 n) v6 v7 X8
def fX10_takeCell (F : Nat) (X : qH) (a0 : Nat) (a1 : Int32) : Option (Int32 × qH) :=
qIs 9 X a0 <|
(qgR X 9 a0 18).bind fun v1 =>
(qgR X 9 a0 16).bind fun v2 =>
(qaI X 0 v2 (0 : Int32)).bind fun v3 =>
qb2 (fX10_into F X a0 v1 a1 (0 : Int32) (v3 - (1 : Int32))) fun v4 X5 =>
qb2 (fX10_takeCell_L21 F a0 a1 F v4 (0 : Int32) X5) fun v18 X19 =>
some (v18, X19)
abbrev rmX10_takeCell : Room := { frames := 3, cells := 0, slots := 0, locals := 73 }
theorem fX10_takeCell_is {F : Nat} {X : qH} {a0 : Nat} {a1 : Int32} {r9 : Int32 × qH} (h : fX10_takeCell F X a0 a1 = some r9) : ∃ fs, X a0 = some (.inr (9, fs)) := (qIs_spec h).1
theorem hdX10_takeCell : yX10_takeCell.cls = RX10 ∧ yX10_takeCell.cls ≠ "java/lang/invoke/MethodHandle" ∧ yX10_takeCell.cls ≠ "java/lang/invoke/VarHandle" ∧ (parseMethodDescriptor yX10_takeCell.desc).map (fun d => d.parameters.length) = some 1 := by decide +kernel
set_option maxHeartbeats 4000000 in
set_option maxRecDepth 100000 in
theorem mX10_takeCell (l : Launch) (D : va_G) (kz : Nat → Nat) (b0 sz F : Nat) (X : qH) (a0 : Nat) (a1 : Int32) (r : Int32) (Xr : qH) (hf : fX10_takeCell F X a0 a1 = some (r, Xr)) : Met l yX10_takeCell (qws yX10_takeCell cX10_takeCell 4 (some .int)) rmX10_takeCell (va_Pc [.ref a0, .int a1] (qU D kz b0 sz X)) (va_Qi (fun (r' : Int32) (u : qH) => r' = r ∧ u = Xr) (fun u t => qO D kz b0 sz u t) (qA b0)) 0 0 (qA b0) := by
  refine q_start (by decide) (Nat.le_of_ble_eq_true rfl) ?_
  intro p e s m args below meth c hx hb hr hlocks hnm hml hown hT hR hK hz ls hl
  have hown : s.vm.findClass RX10 = some m.cls := hown
  have hl : lv_has ls 4 [(0, .ref a0), (1, .int a1)] := hl
  have hS : va_S (qA b0) s.heap s.heap [] := va_S.rf
  obtain ⟨Q, hQ⟩ : ∃ Q, Q = MQ below (va_Qi (fun (r' : Int32) (u : qH) => r' = r ∧ u = Xr) (fun u t => qO D kz b0 sz u t) (qA b0)) args s 0 0 (qA b0) := ⟨_, rfl⟩
  rw [← hQ]
  unfold fX10_takeCell at hf
  obtain ⟨hthis, hf⟩ := qIs_spec hf
  refine lv_aload_n hx hb dX10_takeCell_0 rfl (lv_at hl 0 rfl) ?_
  refine lv_aload_n hx hb dX10_takeCell_1 rfl (lv_at hl 0 rfl) ?_
  refine q_gR hx hb hT hown hK hR iqX10 vqX10 18 (by decide) (hT _ wfl_X10_41) hf dX10_takeCell_2 (fun v1 hf => ?_)
  refine lv_iload_n hx hb dX10_takeCell_5 rfl (lv_at hl 1 rfl) ?_
  refine lv_iconst (v := (0 : Int32)) hx hb dX10_takeCell_6 (by decide) ?_
  refine lv_aload_n hx hb dX10_takeCell_7 rfl (lv_at hl 0 rfl) ?_
  refine q_gR hx hb hT hown hK hR iqX10 vqX10 16 (by decide) (hT _ wfl_X10_38) hf dX10_takeCell_8 (fun v2 hf => ?_)
  refine lv_iconst (v := (0 : Int32)) hx hb dX10_takeCell_11 (by decide) ?_
  refine q_iald hx hb hK hR hf dX10_takeCell_12 (fun v3 hf => ?_)
  refine lv_iconst (v := (1 : Int32)) hx hb dX10_takeCell_13 (by decide) ?_
  refine lv_isub hx hb dX10_takeCell_14 ?_
  obtain ⟨v4, X5, hc, hf⟩ := q_b2 hf
  refine q_calli (va_runV (As := [.ref v1, .int a1, .int (0 : Int32), .int (v3 - (1 : Int32))]) (rest := []) ⟨hx, hb, hml, hown, hT⟩ (mX10_into l D kz b0 sz F X a0 v1 a1 (0 : Int32) (v3 - (1 : Int32)) v4 X5 hc) (cwV 4 hT (q_gV wco_X10_into wml_X10_140 wim_X10_into wse_X10_into win_X10) rfl rfl rfl hdX10_into ⟨Nat.le_of_ble_eq_true rfl, Nat.le_of_ble_eq_true rfl⟩) (q_preV vqX10 (fX10_into_is hc) hR hK hz) rfl rfl hl.1 rfl (lv_room (Nat.le_of_ble_eq_true rfl)) dX10_takeCell_15 ⟨Nat.le_of_ble_eq_true rfl, Nat.le_of_ble_eq_true rfl⟩) hS (fun H locs hR hS hz => ?_)
  refine lv_istore_n (lv' := [(2, .int v4), (0, .ref a0), (1, .int a1)]) hx hb dX10_takeCell_18 rfl hl (by decide) rfl (fun ls hl => ?_)
  refine lv_iconst (v := (0 : Int32)) hx hb dX10_takeCell_19 (by decide) ?_
  refine lv_istore_n (lv' := [(3, .int (0 : Int32)), (2, .int v4), (0, .ref a0), (1, .int a1)]) hx hb dX10_takeCell_20 rfl hl (by decide) rfl (fun ls hl => ?_)
  obtain ⟨v18, X19, ho, hf⟩ := q_b2 hf
  have hL : ∀ (n : Nat) (v6 : Int32) (v7 : Int32) (X8 : qH) (out : Int32 × qH), fX10_takeCell_L21 F a0 a1 n v6 v7 X8 = some out → (∀ (v18 : Int32) (X19 : qH), out = (v18, X19) → ∀ (H : Heap) (locs : List Loc) (ls : Array Slot), qR D kz b0 X19 H → va_S (qA b0) s.heap H locs → H.size = sz → lv_has ls 4 [(2, .int v18)] → W p l e rmX10_takeCell s m args below meth c H locs 0 0 Q (F0 m 63 ls [])) → ∀ (H : Heap) (locs : List Loc) (ls : Array Slot), qR D kz b0 X8 H → va_S (qA b0) s.heap H locs → H.size = sz → lv_has ls 4 [(0, .ref a0), (1, .int a1), (2, .int v6), (3, .int v7)] → W p l e rmX10_takeCell s m args below meth c H locs 0 0 Q (F0 m 21 ls []) := by
    intro n9
    induction n9 with
    | zero =>
      intro v6 v7 X8 out hf
      exact absurd (show none = some out from hf) (by simp)
    | succ n9 ih0 =>
      intro v6 v7 X8 out hf hex H locs ls hR hS hz hl
      have hf : fX10_takeCell_L21_B F a0 a1 (fX10_takeCell_L21 F a0 a1 n9) v6 v7 X8 = some out := hf
      unfold fX10_takeCell_L21_B at hf
      refine lv_iload_n hx hb dX10_takeCell_21 rfl (lv_at hl 3 rfl) ?_
      refine lv_iload_n hx hb dX10_takeCell_22 rfl (lv_at hl 1 rfl) ?_
      refine lv_icmp_ge (tgt := 63) hx hb dX10_takeCell_23 (by decide) (fun hc => ?_) (fun hc => ?_)
      · have hf := q_t hf hc
        exact hex _ _ (Option.some.inj hf).symm _ _ _ hR hS hz (lv_sub hl [2] rfl)
      · have hf := q_f hf hc
        refine lv_iload_n hx hb dX10_takeCell_26 rfl (lv_at hl 2 rfl) ?_
        refine lv_if_ne (tgt := 63) hx hb dX10_takeCell_27 (by decide) (fun hc => ?_) (fun hc => ?_)
        · have hf := q_f hf hc
          exact hex _ _ (Option.some.inj hf).symm _ _ _ hR hS hz (lv_sub hl [2] rfl)
        · have hf := q_t hf hc
          refine lv_aload_n hx hb dX10_takeCell_30 rfl (lv_at hl 0 rfl) ?_
          refine q_gR hx hb hT hown hK hR iqX10 vqX10 18 (by decide) (hT _ wfl_X10_41) hf dX10_takeCell_31 (fun v9 hf => ?_)
          refine lv_iload_n hx hb dX10_takeCell_34 rfl (lv_at hl 3 rfl) ?_
          refine q_iald hx hb hK hR hf dX10_takeCell_35 (fun v10 hf => ?_)
          refine lv_aload_n hx hb dX10_takeCell_36 rfl (lv_at hl 0 rfl) ?_
          refine q_gI hx hb hT hown hK hR iqX10 vqX10 14 (by decide) (hT _ wfl_X10_134) hf dX10_takeCell_37 (fun v11 hf => ?_)
          obtain ⟨v12, X13, hp, hf⟩ := q_b2 hf
          have hJ : ∀ (H : Heap) (locs : List Loc) (ls : Array Slot), qR D kz b0 X13 H → va_S (qA b0) s.heap H locs → H.size = sz → lv_has ls 4 [(0, .ref a0), (1, .int a1), (3, .int v7)] → W p l e rmX10_takeCell s m args below meth c H locs 0 0 Q (F0 m 56 ls [.int v12]) := by
            intro H locs ls hR hS hz hl
            refine lv_istore_n (lv' := [(2, .int v12), (0, .ref a0), (1, .int a1), (3, .int v7)]) hx hb dX10_takeCell_56 rfl hl (by decide) rfl (fun ls hl => ?_)
            obtain ⟨v14, ev14⟩ : ∃ y : Int32, y = (v7 + (1 : Int32)) := ⟨_, rfl⟩
            have hf := q_lt ev14 hf
            refine lv_iinc (v := v14) (lv' := [(3, .int v14), (2, .int v12), (0, .ref a0), (1, .int a1)]) hx hb dX10_takeCell_57 hl (k := 3) rfl (by rw [ev14]; rfl) (by decide) rfl (fun ls hl => ?_)
            refine lv_goto (tgt := 21) hx hb dX10_takeCell_60 (by decide) ?_
            exact ih0 _ _ _ out hf hex _ _ _ hR hS hz (lv_sub hl [2, 3, 1, 0] rfl)
          have hf := hp
          refine lv_icmp_ne (tgt := 55) hx hb dX10_takeCell_40 (by decide) (fun hc => ?_) (fun hc => ?_)
          · have hf := q_f hf hc
            refine lv_iconst (v := (0 : Int32)) hx hb dX10_takeCell_55 (by decide) ?_
            cases hf
            exact hJ _ _ _ hR hS hz (lv_sub hl [0, 1, 3] rfl)
          · have hf := q_t hf hc
            refine lv_aload_n hx hb dX10_takeCell_43 rfl (lv_at hl 0 rfl) ?_
            refine lv_iconst (v := (4 : Int32)) hx hb dX10_takeCell_44 (by decide) ?_
            refine lv_aload_n hx hb dX10_takeCell_45 rfl (lv_at hl 0 rfl) ?_
            refine q_gI hx hb hT hown hK hR iqX10 vqX10 15 (by decide) (hT _ wfl_X10_131) hf dX10_takeCell_46 (fun v15 hf => ?_)
            obtain ⟨v16, X17, hc, hf⟩ := q_b2 hf
            refine q_calli (va_runV (As := [.int (4 : Int32), .int v15]) (rest := []) ⟨hx, hb, hml, hown, hT⟩ (mX10_fails l D kz b0 sz F X8 a0 (4 : Int32) v15 v16 X17 hc) (cwV 2 hT (q_gV wco_X10_fails wml_X10_127 wim_X10_fails wse_X10_fails win_X10) rfl rfl rfl hdX10_fails ⟨Nat.le_of_ble_eq_true rfl, Nat.le_of_ble_eq_true rfl⟩) (q_preV vqX10 (fX10_fails_is hc) hR hK hz) rfl rfl hl.1 rfl (lv_room (Nat.le_of_ble_eq_true rfl)) dX10_takeCell_49 ⟨Nat.le_of_ble_eq_true rfl, Nat.le_of_ble_eq_true rfl⟩) hS (fun H locs hR hS hz => ?_)
            refine lv_goto (tgt := 56) hx hb dX10_takeCell_52 (by decide) ?_
            cases hf
            exact hJ _ _ _ hR hS hz (lv_sub hl [0, 1, 3] rfl)
  refine hL F _ _ _ _ ho (fun z0 z1 h9 => ?_) _ _ _ hR hS hz (lv_sub hl [2, 3, 1, 0] rfl)
  cases h9
  intro H locs ls hR hS hz hl
  refine lv_iload_n hx hb dX10_takeCell_63 rfl (lv_at hl 0 rfl) ?_
  subst hQ
  obtain ⟨h8, h9⟩ := Prod.mk.inj (Option.some.inj hf)
  exact q_iret hx hb hr hlocks hR hS hz h8 h9 dX10_takeCell_64
/-! X10_isStar -/
def fX10_isStar (F : Nat) (X : qH) (a0 : Nat) (a1 : Int32) : Option (Int32) :=
qIs 9 X a0 <|
(qgI X 9 a0 11).bind fun v1 =>
(if v1 ≤ a1 then (some (0 : Int32))
else ((qgR X 9 a0 10).bind fun v3 =>
(qaI X 0 v3 a1).bind fun v4 =>
(fX10_in F X ((v4).toInt64) (97 : Int64) (101 : Int64)).bind fun v5 =>
if v5 = (0 : Int32) then (some (0 : Int32))
else (some (1 : Int32))) : Option Int32).bind fun v2 =>
(qz v2).bind fun z =>
some z
abbrev rmX10_isStar : Room := { frames := 1, cells := 0, slots := 0, locals := 25 }
theorem fX10_isStar_is {F : Nat} {X : qH} {a0 : Nat} {a1 : Int32} {r9 : Int32} (h : fX10_isStar F X a0 a1 = some r9) : ∃ fs, X a0 = some (.inr (9, fs)) := (qIs_spec h).1
theorem hdX10_isStar : yX10_isStar.cls = RX10 ∧ yX10_isStar.cls ≠ "java/lang/invoke/MethodHandle" ∧ yX10_isStar.cls ≠ "java/lang/invoke/VarHandle" ∧ (parseMethodDescriptor yX10_isStar.desc).map (fun d => d.parameters.length) = some 1 := by decide +kernel
set_option maxHeartbeats 4000000 in
set_option maxRecDepth 100000 in
theorem mX10_isStar (l : Launch) (D : va_G) (kz : Nat → Nat) (b0 sz F : Nat) (X : qH) (a0 : Nat) (a1 : Int32) (r : Int32) (hf : fX10_isStar F X a0 a1 = some r) : Met l yX10_isStar (qws yX10_isStar cX10_isStar 2 (some .boolean)) rmX10_isStar (va_Pc [.ref a0, .int a1] (qU D kz b0 sz X)) (va_Qi (fun (r' : Int32) (u : qH) => r' = r ∧ u = X) (fun u t => qO D kz b0 sz u t) (qA b0)) 0 0 (qA b0) := by
  refine q_start (by decide) (Nat.le_of_ble_eq_true rfl) ?_
  intro p e s m args below meth c hx hb hr hlocks hnm hml hown hT hR hK hz ls hl
  have hown : s.vm.findClass RX10 = some m.cls := hown
  have hl : lv_has ls 2 [(0, .ref a0), (1, .int a1)] := hl
  have hS : va_S (qA b0) s.heap s.heap [] := va_S.rf
  obtain ⟨Q, hQ⟩ : ∃ Q, Q = MQ below (va_Qi (fun (r' : Int32) (u : qH) => r' = r ∧ u = X) (fun u t => qO D kz b0 sz u t) (qA b0)) args s 0 0 (qA b0) := ⟨_, rfl⟩
  rw [← hQ]
  unfold fX10_isStar at hf
  obtain ⟨hthis, hf⟩ := qIs_spec hf
  refine lv_iload_n hx hb dX10_isStar_0 rfl (lv_at hl 1 rfl) ?_
  refine lv_aload_n hx hb dX10_isStar_1 rfl (lv_at hl 0 rfl) ?_
  refine q_gI hx hb hT hown hK hR iqX10 vqX10 11 (by decide) (hT _ wfl_X10_112) hf dX10_isStar_2 (fun v1 hf => ?_)
  obtain ⟨v2, hp, hf⟩ := q_b hf
  have hJ : ∀ (H : Heap) (locs : List Loc) (ls : Array Slot), qR D kz b0 X H → va_S (qA b0) s.heap H locs → H.size = sz → lv_has ls 2 [] → W p l e rmX10_isStar s m args below meth c H locs 0 0 Q (F0 m 32 ls [.int v2]) := by
    intro H locs ls hR hS hz hl
    subst hQ
    obtain ⟨z9, hz9, hf⟩ := q_b hf
    obtain ⟨rfl, h01⟩ := qz_spec hz9
    exact q_zret hx hb hr hlocks hR hS hz (Option.some.inj hf) h01 rfl dX10_isStar_32
  have hf := hp
  refine lv_icmp_ge (tgt := 31) hx hb dX10_isStar_5 (by decide) (fun hc => ?_) (fun hc => ?_)
  · have hf := q_t hf hc
    refine lv_iconst (v := (0 : Int32)) hx hb dX10_isStar_31 (by decide) ?_
    cases hf
    exact hJ _ _ _ hR hS hz (lv_sub hl [] rfl)
  · have hf := q_f hf hc
    refine lv_aload_n hx hb dX10_isStar_8 rfl (lv_at hl 0 rfl) ?_
    refine q_gR hx hb hT hown hK hR iqX10 vqX10 10 (by decide) (hT _ wfl_X10_32) hf dX10_isStar_9 (fun v3 hf => ?_)
    refine lv_iload_n hx hb dX10_isStar_12 rfl (lv_at hl 1 rfl) ?_
    refine q_iald hx hb hK hR hf dX10_isStar_13 (fun v4 hf => ?_)
    refine lv_i2l hx hb dX10_isStar_14 rfl ?_
    refine lv_ldc2 (v := (97 : Int64)) hx hb hown (hT _ wkl_X10_144) dX10_isStar_15 ?_
    refine lv_ldc2 (v := (101 : Int64)) hx hb hown (hT _ wkl_X10_146) dX10_isStar_18 ?_
    obtain ⟨v5, hc, hf⟩ := q_b hf
    refine q_calli (va_runS (As := [.long ((v4).toInt64), .long (97 : Int64), .long (101 : Int64)]) (rest := []) ⟨hx, hb, hml, hown, hT⟩ (mX10_in l D kz b0 sz F X ((v4).toInt64) (97 : Int64) (101 : Int64) v5 hc) (va_cwS 3 hT (q_gS wco_X10_in wml_X10_105 wst_X10_in win_X10) rfl rfl rfl hdX10_in ⟨Nat.le_of_ble_eq_true rfl, Nat.le_of_ble_eq_true rfl⟩) (q_preS hR hK hz) rfl rfl hl.1 rfl (lv_room (Nat.le_of_ble_eq_true rfl)) dX10_isStar_21 ⟨Nat.le_of_ble_eq_true rfl, Nat.le_of_ble_eq_true rfl⟩) hS (fun H locs hR hS hz => ?_)
    refine lv_if_eq (tgt := 31) hx hb dX10_isStar_24 (by decide) (fun hc => ?_) (fun hc => ?_)
    · have hf := q_t hf hc
      refine lv_iconst (v := (0 : Int32)) hx hb dX10_isStar_31 (by decide) ?_
      cases hf
      exact hJ _ _ _ hR hS hz (lv_sub hl [] rfl)
    · have hf := q_f hf hc
      refine lv_iconst (v := (1 : Int32)) hx hb dX10_isStar_27 (by decide) ?_
      refine lv_goto (tgt := 32) hx hb dX10_isStar_28 (by decide) ?_
      cases hf
      exact hJ _ _ _ hR hS hz (lv_sub hl [] rfl)
/-! X10_areLike -/
def fX10_areLike_L24_B (F : Nat) (X : qH) (a0 : Nat) (a1 : Int32) (a2 : Int32) (self0 : Int32 → Int32 → Option (Int32)) (v6 : Int32) (v7 : Int32) : Option (Int32) :=
(qgR X 9 a0 21).bind fun v8 =>
(qaI X 0 v8 a1).bind fun v9 =>
if v9 ≤ v7 then (some v6)
else ((if v6 = (0 : Int32) then (some (0 : Int32))
else ((qgR X 9 a0 22).bind fun v12 =>
(qaI X 0 v12 (((5 : Int32) * a1) + v7)).bind fun v13 =>
(qgR X 9 a0 22).bind fun v14 =>
(qaI X 0 v14 (((5 : Int32) * a2) + v7)).bind fun v15 =>
if v13 = v15 then (some (1 : Int32))
else (some (0 : Int32))) : Option Int32).bind fun v10 =>
qlt (v7 + (1 : Int32)) fun v11 =>
self0 v10 v11)
def fX10_areLike_L24 (F : Nat) (X : qH) (a0 : Nat) (a1 : Int32) (a2 : Int32) : Nat → Int32 → Int32 → Option (Int32)
  | 0, _, _ => none
  | n + 1, v6, v7 => fX10_areLike_L24_B F X a0 a1 a2 (fX10_areLike_L24 F X a0 a1 a2 n) v6 v7
def fX10_areLike (F : Nat) (X : qH) (a0 : Nat) (a1 : Int32) (a2 : Int32) : Option (Int32) :=
qIs 9 X a0 <|
(qgR X 9 a0 21).bind fun v1 =>
(qaI X 0 v1 a1).bind fun v2 =>
(qgR X 9 a0 21).bind fun v3 =>
(qaI X 0 v3 a2).bind fun v4 =>
(if v2 = v4 then (some (1 : Int32))
else (some (0 : Int32)) : Option Int32).bind fun v5 =>
(fX10_areLike_L24 F X a0 a1 a2 F v5 (0 : Int32)).bind fun v16 =>
(qz v16).bind fun z =>
some z
abbrev rmX10_areLike : Room := { frames := 0, cells := 0, slots := 0, locals := 0 }
theorem fX10_areLike_is {F : Nat} {X : qH} {a0 : Nat} {a1 : Int32} {a2 : Int32} {r9 : Int32} (h : fX10_areLike F X a0 a1 a2 = some r9) : ∃ fs, X a0 = some (.inr (9, fs)) := (qIs_spec h).1
theorem hdX10_areLike : yX10_areLike.cls = RX10 ∧ yX10_areLike.cls ≠ "java/lang/invoke/MethodHandle" ∧ yX10_areLike.cls ≠ "java/lang/invoke/VarHandle" ∧ (parseMethodDescriptor yX10_areLike.desc).map (fun d => d.parameters.length) = some 2 := by decide +kernel
set_option maxHeartbeats 4000000 in
set_option maxRecDepth 100000 in
theorem mX10_areLike (l : Launch) (D : va_G) (kz : Nat → Nat) (b0 sz F : Nat) (X : qH) (a0 : Nat) (a1 : Int32) (a2 : Int32) (r : Int32) (hf : fX10_areLike F X a0 a1 a2 = some r) : Met l yX10_areLike (qws yX10_areLike cX10_areLike 5 (some .boolean)) rmX10_areLike (va_Pc [.ref a0, .int a1, .int a2] (qU D kz b0 sz X)) (va_Qi (fun (r' : Int32) (u : qH) => r' = r ∧ u = X) (fun u t => qO D kz b0 sz u t) (qA b0)) 0 0 (qA b0) := by
  refine q_start (by decide) (Nat.le_of_ble_eq_true rfl) ?_
  intro p e s m args below meth c hx hb hr hlocks hnm hml hown hT hR hK hz ls hl
  have hown : s.vm.findClass RX10 = some m.cls := hown
  have hl : lv_has ls 5 [(0, .ref a0), (1, .int a1), (2, .int a2)] := hl
  have hS : va_S (qA b0) s.heap s.heap [] := va_S.rf
  obtain ⟨Q, hQ⟩ : ∃ Q, Q = MQ below (va_Qi (fun (r' : Int32) (u : qH) => r' = r ∧ u = X) (fun u t => qO D kz b0 sz u t) (qA b0)) args s 0 0 (qA b0) := ⟨_, rfl⟩
  rw [← hQ]
  unfold fX10_areLike at hf
  obtain ⟨hthis, hf⟩ := qIs_spec hf
  refine lv_aload_n hx hb dX10_areLike_0 rfl (lv_at hl 0 rfl) ?_
  refine q_gR hx hb hT hown hK hR iqX10 vqX10 21 (by decide) (hT _ wfl_X10_50) hf dX10_areLike_1 (fun v1 hf => ?_)
  refine lv_iload_n hx hb dX10_areLike_4 rfl (lv_at hl 1 rfl) ?_
  refine q_iald hx hb hK hR hf dX10_areLike_5 (fun v2 hf => ?_)
  refine lv_aload_n hx hb dX10_areLike_6 rfl (lv_at hl 0 rfl) ?_
  refine q_gR hx hb hT hown hK hR iqX10 vqX10 21 (by decide) (hT _ wfl_X10_50) hf dX10_areLike_7 (fun v3 hf => ?_)
  refine lv_iload_n hx hb dX10_areLike_10 rfl (lv_at hl 2 rfl) ?_
  refine q_iald hx hb hK hR hf dX10_areLike_11 (fun v4 hf => ?_)
  obtain ⟨v5, hp, hf⟩ := q_b hf
  have hJ : ∀ (H : Heap) (locs : List Loc) (ls : Array Slot), qR D kz b0 X H → va_S (qA b0) s.heap H locs → H.size = sz → lv_has ls 5 [(0, .ref a0), (1, .int a1), (2, .int a2)] → W p l e rmX10_areLike s m args below meth c H locs 0 0 Q (F0 m 20 ls [.int v5]) := by
    intro H locs ls hR hS hz hl
    refine lv_istore_n (lv' := [(3, .int v5), (0, .ref a0), (1, .int a1), (2, .int a2)]) hx hb dX10_areLike_20 rfl hl (by decide) rfl (fun ls hl => ?_)
    refine lv_iconst (v := (0 : Int32)) hx hb dX10_areLike_21 (by decide) ?_
    refine lv_istore (lv' := [(4, .int (0 : Int32)), (3, .int v5), (0, .ref a0), (1, .int a1), (2, .int a2)]) hx hb dX10_areLike_22 hl (by decide) rfl (fun ls hl => ?_)
    obtain ⟨v16, ho, hf⟩ := q_b hf
    have hL : ∀ (n : Nat) (v6 : Int32) (v7 : Int32) (out : Int32), fX10_areLike_L24 F X a0 a1 a2 n v6 v7 = some out → (∀ (v16 : Int32), out = v16 → ∀ (H : Heap) (locs : List Loc) (ls : Array Slot), qR D kz b0 X H → va_S (qA b0) s.heap H locs → H.size = sz → lv_has ls 5 [(3, .int v16)] → W p l e rmX10_areLike s m args below meth c H locs 0 0 Q (F0 m 76 ls [])) → ∀ (H : Heap) (locs : List Loc) (ls : Array Slot), qR D kz b0 X H → va_S (qA b0) s.heap H locs → H.size = sz → lv_has ls 5 [(0, .ref a0), (1, .int a1), (2, .int a2), (3, .int v6), (4, .int v7)] → W p l e rmX10_areLike s m args below meth c H locs 0 0 Q (F0 m 24 ls []) := by
      intro n9
      induction n9 with
      | zero =>
        intro v6 v7 out hf
        exact absurd (show none = some out from hf) (by simp)
      | succ n9 ih0 =>
        intro v6 v7 out hf hex H locs ls hR hS hz hl
        have hf : fX10_areLike_L24_B F X a0 a1 a2 (fX10_areLike_L24 F X a0 a1 a2 n9) v6 v7 = some out := hf
        unfold fX10_areLike_L24_B at hf
        refine lv_iload hx hb dX10_areLike_24 (lv_at hl 4 rfl) ?_
        refine lv_aload_n hx hb dX10_areLike_26 rfl (lv_at hl 0 rfl) ?_
        refine q_gR hx hb hT hown hK hR iqX10 vqX10 21 (by decide) (hT _ wfl_X10_50) hf dX10_areLike_27 (fun v8 hf => ?_)
        refine lv_iload_n hx hb dX10_areLike_30 rfl (lv_at hl 1 rfl) ?_
        refine q_iald hx hb hK hR hf dX10_areLike_31 (fun v9 hf => ?_)
        refine lv_icmp_ge (tgt := 76) hx hb dX10_areLike_32 (by decide) (fun hc => ?_) (fun hc => ?_)
        · have hf := q_t hf hc
          exact hex _ (Option.some.inj hf).symm _ _ _ hR hS hz (lv_sub hl [3] rfl)
        · have hf := q_f hf hc
          refine lv_iload_n hx hb dX10_areLike_35 rfl (lv_at hl 3 rfl) ?_
          obtain ⟨v10, hp, hf⟩ := q_b hf
          have hJ : ∀ (H : Heap) (locs : List Loc) (ls : Array Slot), qR D kz b0 X H → va_S (qA b0) s.heap H locs → H.size = sz → lv_has ls 5 [(0, .ref a0), (1, .int a1), (2, .int a2), (4, .int v7)] → W p l e rmX10_areLike s m args below meth c H locs 0 0 Q (F0 m 69 ls [.int v10]) := by
            intro H locs ls hR hS hz hl
            refine lv_istore_n (lv' := [(3, .int v10), (0, .ref a0), (1, .int a1), (2, .int a2), (4, .int v7)]) hx hb dX10_areLike_69 rfl hl (by decide) rfl (fun ls hl => ?_)
            obtain ⟨v11, ev11⟩ : ∃ y : Int32, y = (v7 + (1 : Int32)) := ⟨_, rfl⟩
            have hf := q_lt ev11 hf
            refine lv_iinc (v := v11) (lv' := [(4, .int v11), (3, .int v10), (0, .ref a0), (1, .int a1), (2, .int a2)]) hx hb dX10_areLike_70 hl (k := 4) rfl (by rw [ev11]; rfl) (by decide) rfl (fun ls hl => ?_)
            refine lv_goto (tgt := 24) hx hb dX10_areLike_73 (by decide) ?_
            exact ih0 _ _ out hf hex _ _ _ hR hS hz (lv_sub hl [2, 3, 4, 1, 0] rfl)
          have hf := hp
          refine lv_if_eq (tgt := 68) hx hb dX10_areLike_36 (by decide) (fun hc => ?_) (fun hc => ?_)
          · have hf := q_t hf hc
            refine lv_iconst (v := (0 : Int32)) hx hb dX10_areLike_68 (by decide) ?_
            cases hf
            exact hJ _ _ _ hR hS hz (lv_sub hl [0, 1, 2, 4] rfl)
          · have hf := q_f hf hc
            refine lv_aload_n hx hb dX10_areLike_39 rfl (lv_at hl 0 rfl) ?_
            refine q_gR hx hb hT hown hK hR iqX10 vqX10 22 (by decide) (hT _ wfl_X10_53) hf dX10_areLike_40 (fun v12 hf => ?_)
            refine lv_iconst (v := (5 : Int32)) hx hb dX10_areLike_43 (by decide) ?_
            refine lv_iload_n hx hb dX10_areLike_44 rfl (lv_at hl 1 rfl) ?_
            refine lv_imul hx hb dX10_areLike_45 ?_
            refine lv_iload hx hb dX10_areLike_46 (lv_at hl 4 rfl) ?_
            refine lv_iadd hx hb dX10_areLike_48 ?_
            refine q_iald hx hb hK hR hf dX10_areLike_49 (fun v13 hf => ?_)
            refine lv_aload_n hx hb dX10_areLike_50 rfl (lv_at hl 0 rfl) ?_
            refine q_gR hx hb hT hown hK hR iqX10 vqX10 22 (by decide) (hT _ wfl_X10_53) hf dX10_areLike_51 (fun v14 hf => ?_)
            refine lv_iconst (v := (5 : Int32)) hx hb dX10_areLike_54 (by decide) ?_
            refine lv_iload_n hx hb dX10_areLike_55 rfl (lv_at hl 2 rfl) ?_
            refine lv_imul hx hb dX10_areLike_56 ?_
            refine lv_iload hx hb dX10_areLike_57 (lv_at hl 4 rfl) ?_
            refine lv_iadd hx hb dX10_areLike_59 ?_
            refine q_iald hx hb hK hR hf dX10_areLike_60 (fun v15 hf => ?_)
            refine lv_icmp_ne (tgt := 68) hx hb dX10_areLike_61 (by decide) (fun hc => ?_) (fun hc => ?_)
            · have hf := q_f hf hc
              refine lv_iconst (v := (0 : Int32)) hx hb dX10_areLike_68 (by decide) ?_
              cases hf
              exact hJ _ _ _ hR hS hz (lv_sub hl [0, 1, 2, 4] rfl)
            · have hf := q_t hf hc
              refine lv_iconst (v := (1 : Int32)) hx hb dX10_areLike_64 (by decide) ?_
              refine lv_goto (tgt := 69) hx hb dX10_areLike_65 (by decide) ?_
              cases hf
              exact hJ _ _ _ hR hS hz (lv_sub hl [0, 1, 2, 4] rfl)
    refine hL F _ _ _ ho (fun z0 h9 => ?_) _ _ _ hR hS hz (lv_sub hl [2, 3, 4, 1, 0] rfl)
    cases h9
    intro H locs ls hR hS hz hl
    refine lv_iload_n hx hb dX10_areLike_76 rfl (lv_at hl 0 rfl) ?_
    subst hQ
    obtain ⟨z9, hz9, hf⟩ := q_b hf
    obtain ⟨rfl, h01⟩ := qz_spec hz9
    exact q_zret hx hb hr hlocks hR hS hz (Option.some.inj hf) h01 rfl dX10_areLike_77
  have hf := hp
  refine lv_icmp_ne (tgt := 19) hx hb dX10_areLike_12 (by decide) (fun hc => ?_) (fun hc => ?_)
  · have hf := q_f hf hc
    refine lv_iconst (v := (0 : Int32)) hx hb dX10_areLike_19 (by decide) ?_
    cases hf
    exact hJ _ _ _ hR hS hz (lv_sub hl [0, 1, 2] rfl)
  · have hf := q_t hf hc
    refine lv_iconst (v := (1 : Int32)) hx hb dX10_areLike_15 (by decide) ?_
    refine lv_goto (tgt := 20) hx hb dX10_areLike_16 (by decide) ?_
    cases hf
    exact hJ _ _ _ hR hS hz (lv_sub hl [0, 1, 2] rfl)
/-! X10_takeStars -/
def fX10_takeStars_L41_B (F : Nat) (a0 : Nat) (a1 : Int32) (v3 : Int32) (self0 : qH → Option ((Int32 × qH) ⊕ (qH))) (X10 : qH) : Option ((Int32 × qH) ⊕ (qH)) :=
(qgI X10 9 a0 13).bind fun v11 =>
(fX10_isStar F X10 a0 v11).bind fun v12 =>
if v12 = (0 : Int32) then (some (.inr X10))
else ((qgR X10 9 a0 21).bind fun v13 =>
(qaI X10 0 v13 a1).bind fun v14 =>
if v14 = (5 : Int32) then ((qgI X10 9 a0 13).bind fun v15 =>
qb2 (fX10_fails F X10 a0 (1 : Int32) v15) fun v16 X17 =>
some (.inl (v16, X17)))
else ((qgR X10 9 a0 22).bind fun v18 =>
(qgR X10 9 a0 21).bind fun v19 =>
(qaI X10 0 v19 a1).bind fun v20 =>
(qgR X10 9 a0 10).bind fun v21 =>
(qgI X10 9 a0 13).bind fun v22 =>
(qaI X10 0 v21 v22).bind fun v23 =>
qlt ((v23 - (97 : Int32)) + (1 : Int32)) fun v24 =>
(qaS X10 0 v18 (((5 : Int32) * a1) + v20) v24).bind fun X25 =>
(qgR X25 9 a0 21).bind fun v26 =>
(qaI X25 0 v26 a1).bind fun v27 =>
qlt (v27 + (1 : Int32)) fun v28 =>
(qaS X25 0 v26 a1 v28).bind fun X29 =>
(qgI X29 9 a0 13).bind fun v30 =>
qlt (v30 + (1 : Int32)) fun v31 =>
(qpI X29 9 a0 13 v31).bind fun X32 =>
self0 X32))
def fX10_takeStars_L41 (F : Nat) (a0 : Nat) (a1 : Int32) (v3 : Int32) : Nat → qH → Option ((Int32 × qH) ⊕ (qH))
  | 0, _ => none
  | n + 1, X10 => fX10_takeStars_L41_B F a0 a1 v3 (fX10_takeStars_L41 F a0 a1 v3 n) X10
def fX10_takeStars_L130_B (F : Nat) (a0 : Nat) (a1 : Int32) (v3 : Int32) (self0 : Int32 → Int32 → qH → Option (Int32 × qH)) (v34 : Int32) (v35 : Int32) (X36 : qH) : Option (Int32 × qH) :=
if a1 ≤ v35 then (some (v34, X36))
else (if v34 = (0 : Int32) then ((fX10_areLike F X36 a0 a1 v35).bind fun v37 =>
qb2 (if v37 = (0 : Int32) then (some ((0 : Int32), X36))
else (qb2 (fX10_fails F X36 a0 (4 : Int32) v3) fun v41 X42 =>
some (v41, X42))) fun v38 X39 =>
qlt (v35 + (1 : Int32)) fun v40 =>
self0 v38 v40 X39)
else (some (v34, X36)))
def fX10_takeStars_L130 (F : Nat) (a0 : Nat) (a1 : Int32) (v3 : Int32) : Nat → Int32 → Int32 → qH → Option (Int32 × qH)
  | 0, _, _, _ => none
  | n + 1, v34, v35, X36 => fX10_takeStars_L130_B F a0 a1 v3 (fX10_takeStars_L130 F a0 a1 v3 n) v34 v35 X36
def fX10_takeStars (F : Nat) (X : qH) (a0 : Nat) (a1 : Int32) : Option (Int32 × qH) :=
qIs 9 X a0 <|
qb2 (fX10_here F X a0) fun v1 X2 =>
(qgI X2 9 a0 13).bind fun v3 =>
(fX10_in F X2 ((v1).toInt64) (97 : Int64) (101 : Int64)).bind fun v4 =>
if v4 = (0 : Int32) then ((qgI X2 9 a0 13).bind fun v5 =>
qb2 (fX10_fails F X2 a0 (1 : Int32) v5) fun v6 X7 =>
some (v6, X7))
else ((qgR X2 9 a0 21).bind fun v8 =>
(qaS X2 0 v8 a1 (0 : Int32)).bind fun X9 =>
(fX10_takeStars_L41 F a0 a1 v3 F X9).bind fun o45 => qsm1 o45 (fun z => some z) fun X33 =>
qb2 (fX10_takeStars_L130 F a0 a1 v3 F (0 : Int32) (0 : Int32) X33) fun v43 X44 =>
some (v43, X44))
abbrev rmX10_takeStars : Room := { frames := 2, cells := 0, slots := 0, locals := 46 }
theorem fX10_takeStars_is {F : Nat} {X : qH} {a0 : Nat} {a1 : Int32} {r9 : Int32 × qH} (h : fX10_takeStars F X a0 a1 = some r9) : ∃ fs, X a0 = some (.inr (9, fs)) := (qIs_spec h).1
theorem hdX10_takeStars : yX10_takeStars.cls = RX10 ∧ yX10_takeStars.cls ≠ "java/lang/invoke/MethodHandle" ∧ yX10_takeStars.cls ≠ "java/lang/invoke/VarHandle" ∧ (parseMethodDescriptor yX10_takeStars.desc).map (fun d => d.parameters.length) = some 1 := by decide +kernel
set_option maxHeartbeats 4000000 in
set_option maxRecDepth 100000 in
theorem mX10_takeStars (l : Launch) (D : va_G) (kz : Nat → Nat) (b0 sz F : Nat) (X : qH) (a0 : Nat) (a1 : Int32) (r : Int32) (Xr : qH) (hf : fX10_takeStars F X a0 a1 = some (r, Xr)) : Met l yX10_takeStars (qws yX10_takeStars cX10_takeStars 6 (some .int)) rmX10_takeStars (va_Pc [.ref a0, .int a1] (qU D kz b0 sz X)) (va_Qi (fun (r' : Int32) (u : qH) => r' = r ∧ u = Xr) (fun u t => qO D kz b0 sz u t) (qA b0)) 0 0 (qA b0) := by
  refine q_start (by decide) (Nat.le_of_ble_eq_true rfl) ?_
  intro p e s m args below meth c hx hb hr hlocks hnm hml hown hT hR hK hz ls hl
  have hown : s.vm.findClass RX10 = some m.cls := hown
  have hl : lv_has ls 6 [(0, .ref a0), (1, .int a1)] := hl
  have hS : va_S (qA b0) s.heap s.heap [] := va_S.rf
  obtain ⟨Q, hQ⟩ : ∃ Q, Q = MQ below (va_Qi (fun (r' : Int32) (u : qH) => r' = r ∧ u = Xr) (fun u t => qO D kz b0 sz u t) (qA b0)) args s 0 0 (qA b0) := ⟨_, rfl⟩
  rw [← hQ]
  unfold fX10_takeStars at hf
  obtain ⟨hthis, hf⟩ := qIs_spec hf
  refine lv_aload_n hx hb dX10_takeStars_0 rfl (lv_at hl 0 rfl) ?_
  obtain ⟨v1, X2, hc, hf⟩ := q_b2 hf
  refine q_calli (va_runV (As := []) (rest := []) ⟨hx, hb, hml, hown, hT⟩ (mX10_here l D kz b0 sz F X a0 v1 X2 hc) (cwV 0 hT (q_gV wco_X10_here wml_X10_119 wim_X10_here wse_X10_here win_X10) rfl rfl rfl hdX10_here ⟨Nat.le_of_ble_eq_true rfl, Nat.le_of_ble_eq_true rfl⟩) (q_preV vqX10 (fX10_here_is hc) hR hK hz) rfl rfl hl.1 rfl (lv_room (Nat.le_of_ble_eq_true rfl)) dX10_takeStars_1 ⟨Nat.le_of_ble_eq_true rfl, Nat.le_of_ble_eq_true rfl⟩) hS (fun H locs hR hS hz => ?_)
  refine lv_istore_n (lv' := [(2, .int v1), (0, .ref a0), (1, .int a1)]) hx hb dX10_takeStars_4 rfl hl (by decide) rfl (fun ls hl => ?_)
  refine lv_aload_n hx hb dX10_takeStars_5 rfl (lv_at hl 1 rfl) ?_
  refine q_gI hx hb hT hown hK hR iqX10 vqX10 13 (by decide) (hT _ wfl_X10_116) hf dX10_takeStars_6 (fun v3 hf => ?_)
  refine lv_istore_n (lv' := [(3, .int v3), (2, .int v1), (0, .ref a0), (1, .int a1)]) hx hb dX10_takeStars_9 rfl hl (by decide) rfl (fun ls hl => ?_)
  refine lv_iload_n hx hb dX10_takeStars_10 rfl (lv_at hl 1 rfl) ?_
  refine lv_i2l hx hb dX10_takeStars_11 rfl ?_
  refine lv_ldc2 (v := (97 : Int64)) hx hb hown (hT _ wkl_X10_144) dX10_takeStars_12 ?_
  refine lv_ldc2 (v := (101 : Int64)) hx hb hown (hT _ wkl_X10_146) dX10_takeStars_15 ?_
  obtain ⟨v4, hc, hf⟩ := q_b hf
  refine q_calli (va_runS (As := [.long ((v1).toInt64), .long (97 : Int64), .long (101 : Int64)]) (rest := []) ⟨hx, hb, hml, hown, hT⟩ (mX10_in l D kz b0 sz F X2 ((v1).toInt64) (97 : Int64) (101 : Int64) v4 hc) (va_cwS 3 hT (q_gS wco_X10_in wml_X10_105 wst_X10_in win_X10) rfl rfl rfl hdX10_in ⟨Nat.le_of_ble_eq_true rfl, Nat.le_of_ble_eq_true rfl⟩) (q_preS hR hK hz) rfl rfl hl.1 rfl (lv_room (Nat.le_of_ble_eq_true rfl)) dX10_takeStars_18 ⟨Nat.le_of_ble_eq_true rfl, Nat.le_of_ble_eq_true rfl⟩) hS (fun H locs hR hS hz => ?_)
  refine lv_if_ne (tgt := 34) hx hb dX10_takeStars_21 (by decide) (fun hc => ?_) (fun hc => ?_)
  · have hf := q_f hf hc
    refine lv_aload_n hx hb dX10_takeStars_34 rfl (lv_at hl 2 rfl) ?_
    refine q_gR hx hb hT hown hK hR iqX10 vqX10 21 (by decide) (hT _ wfl_X10_50) hf dX10_takeStars_35 (fun v8 hf => ?_)
    refine lv_iload_n hx hb dX10_takeStars_38 rfl (lv_at hl 3 rfl) ?_
    refine lv_iconst (v := (0 : Int32)) hx hb dX10_takeStars_39 (by decide) ?_
    refine q_iast hx hb hK hR hS hz hf dX10_takeStars_40 (fun X9 hf H locs hR hS hz => ?_)
    obtain ⟨o45, ho, hf⟩ := q_b hf
    have hL : ∀ (n : Nat) (X10 : qH) (out : (Int32 × qH) ⊕ (qH)), fX10_takeStars_L41 F a0 a1 v3 n X10 = some out → (∀ z, out = .inl z → z = (r, Xr)) → (∀ (X33 : qH), out = .inr X33 → ∀ (H : Heap) (locs : List Loc) (ls : Array Slot), qR D kz b0 X33 H → va_S (qA b0) s.heap H locs → H.size = sz → lv_has ls 6 [(0, .ref a0), (1, .int a1), (3, .int v3)] → W p l e rmX10_takeStars s m args below meth c H locs 0 0 Q (F0 m 124 ls [])) → ∀ (H : Heap) (locs : List Loc) (ls : Array Slot), qR D kz b0 X10 H → va_S (qA b0) s.heap H locs → H.size = sz → lv_has ls 6 [(0, .ref a0), (1, .int a1), (3, .int v3)] → W p l e rmX10_takeStars s m args below meth c H locs 0 0 Q (F0 m 41 ls []) := by
      intro n9
      induction n9 with
      | zero =>
        intro X10 out hf
        exact absurd (show none = some out from hf) (by simp)
      | succ n9 ih0 =>
        intro X10 out hf hret hex H locs ls hR hS hz hl
        have hf : fX10_takeStars_L41_B F a0 a1 v3 (fX10_takeStars_L41 F a0 a1 v3 n9) X10 = some out := hf
        unfold fX10_takeStars_L41_B at hf
        refine lv_aload_n hx hb dX10_takeStars_41 rfl (lv_at hl 0 rfl) ?_
        refine lv_aload_n hx hb dX10_takeStars_42 rfl (lv_at hl 0 rfl) ?_
        refine q_gI hx hb hT hown hK hR iqX10 vqX10 13 (by decide) (hT _ wfl_X10_116) hf dX10_takeStars_43 (fun v11 hf => ?_)
        obtain ⟨v12, hc, hf⟩ := q_b hf
        refine q_calli (va_runV (As := [.int v11]) (rest := []) ⟨hx, hb, hml, hown, hT⟩ (mX10_isStar l D kz b0 sz F X10 a0 v11 v12 hc) (cwV 1 hT (q_gV wco_X10_isStar wml_X10_148 wim_X10_isStar wse_X10_isStar win_X10) rfl rfl rfl hdX10_isStar ⟨Nat.le_of_ble_eq_true rfl, Nat.le_of_ble_eq_true rfl⟩) (q_preV vqX10 (fX10_isStar_is hc) hR hK hz) rfl rfl hl.1 rfl (lv_room (Nat.le_of_ble_eq_true rfl)) dX10_takeStars_46 ⟨Nat.le_of_ble_eq_true rfl, Nat.le_of_ble_eq_true rfl⟩) hS (fun H locs hR hS hz => ?_)
        refine lv_if_eq (tgt := 124) hx hb dX10_takeStars_49 (by decide) (fun hc => ?_) (fun hc => ?_)
        · have hf := q_t hf hc
          exact hex _ (Option.some.inj hf).symm _ _ _ hR hS hz (lv_sub hl [0, 1, 2] rfl)
        · have hf := q_f hf hc
          refine lv_aload_n hx hb dX10_takeStars_52 rfl (lv_at hl 0 rfl) ?_
          refine q_gR hx hb hT hown hK hR iqX10 vqX10 21 (by decide) (hT _ wfl_X10_50) hf dX10_takeStars_53 (fun v13 hf => ?_)
          refine lv_iload_n hx hb dX10_takeStars_56 rfl (lv_at hl 1 rfl) ?_
          refine q_iald hx hb hK hR hf dX10_takeStars_57 (fun v14 hf => ?_)
          refine lv_iconst (v := (5 : Int32)) hx hb dX10_takeStars_58 (by decide) ?_
          refine lv_icmp_ne (tgt := 72) hx hb dX10_takeStars_59 (by decide) (fun hc => ?_) (fun hc => ?_)
          · have hf := q_f hf hc
            refine lv_aload_n hx hb dX10_takeStars_72 rfl (lv_at hl 0 rfl) ?_
            refine q_gR hx hb hT hown hK hR iqX10 vqX10 22 (by decide) (hT _ wfl_X10_53) hf dX10_takeStars_73 (fun v18 hf => ?_)
            refine lv_iconst (v := (5 : Int32)) hx hb dX10_takeStars_76 (by decide) ?_
            refine lv_iload_n hx hb dX10_takeStars_77 rfl (lv_at hl 1 rfl) ?_
            refine lv_imul hx hb dX10_takeStars_78 ?_
            refine lv_aload_n hx hb dX10_takeStars_79 rfl (lv_at hl 0 rfl) ?_
            refine q_gR hx hb hT hown hK hR iqX10 vqX10 21 (by decide) (hT _ wfl_X10_50) hf dX10_takeStars_80 (fun v19 hf => ?_)
            refine lv_iload_n hx hb dX10_takeStars_83 rfl (lv_at hl 1 rfl) ?_
            refine q_iald hx hb hK hR hf dX10_takeStars_84 (fun v20 hf => ?_)
            refine lv_iadd hx hb dX10_takeStars_85 ?_
            refine lv_aload_n hx hb dX10_takeStars_86 rfl (lv_at hl 0 rfl) ?_
            refine q_gR hx hb hT hown hK hR iqX10 vqX10 10 (by decide) (hT _ wfl_X10_32) hf dX10_takeStars_87 (fun v21 hf => ?_)
            refine lv_aload_n hx hb dX10_takeStars_90 rfl (lv_at hl 0 rfl) ?_
            refine q_gI hx hb hT hown hK hR iqX10 vqX10 13 (by decide) (hT _ wfl_X10_116) hf dX10_takeStars_91 (fun v22 hf => ?_)
            refine q_iald hx hb hK hR hf dX10_takeStars_94 (fun v23 hf => ?_)
            refine lv_bipush (v := (97 : Int32)) hx hb dX10_takeStars_95 (by decide) ?_
            refine lv_isub hx hb dX10_takeStars_97 ?_
            refine lv_iconst (v := (1 : Int32)) hx hb dX10_takeStars_98 (by decide) ?_
            refine lv_iadd hx hb dX10_takeStars_99 ?_
            refine lv_topi (fun v24 ev24 => ?_)
            have hf := q_lt ev24 hf
            refine q_iast hx hb hK hR hS hz hf dX10_takeStars_100 (fun X25 hf H locs hR hS hz => ?_)
            refine lv_aload_n hx hb dX10_takeStars_101 rfl (lv_at hl 0 rfl) ?_
            refine q_gR hx hb hT hown hK hR iqX10 vqX10 21 (by decide) (hT _ wfl_X10_50) hf dX10_takeStars_102 (fun v26 hf => ?_)
            refine lv_iload_n hx hb dX10_takeStars_105 rfl (lv_at hl 1 rfl) ?_
            refine lv_dup2_11 hx hb dX10_takeStars_106 rfl rfl ?_
            refine q_iald hx hb hK hR hf dX10_takeStars_107 (fun v27 hf => ?_)
            refine lv_iconst (v := (1 : Int32)) hx hb dX10_takeStars_108 (by decide) ?_
            refine lv_iadd hx hb dX10_takeStars_109 ?_
            refine lv_topi (fun v28 ev28 => ?_)
            have hf := q_lt ev28 hf
            refine q_iast hx hb hK hR hS hz hf dX10_takeStars_110 (fun X29 hf H locs hR hS hz => ?_)
            refine lv_aload_n hx hb dX10_takeStars_111 rfl (lv_at hl 0 rfl) ?_
            refine lv_dup hx hb dX10_takeStars_112 rfl ?_
            refine q_gI hx hb hT hown hK hR iqX10 vqX10 13 (by decide) (hT _ wfl_X10_116) hf dX10_takeStars_113 (fun v30 hf => ?_)
            refine lv_iconst (v := (1 : Int32)) hx hb dX10_takeStars_116 (by decide) ?_
            refine lv_iadd hx hb dX10_takeStars_117 ?_
            refine lv_topi (fun v31 ev31 => ?_)
            have hf := q_lt ev31 hf
            refine q_pI hx hb hT hown hK hR hS hz iqX10 vqX10 tyX10_ok nmX10 13 (by decide) (hT _ wfl_X10_116) rfl rfl hf dX10_takeStars_118 (fun X32 hf H locs hR hS hz => ?_)
            refine lv_goto (tgt := 41) hx hb dX10_takeStars_121 (by decide) ?_
            exact ih0 _ out hf hret hex _ _ _ hR hS hz (lv_sub hl [0, 1, 2] rfl)
          · have hf := q_t hf hc
            refine lv_aload_n hx hb dX10_takeStars_62 rfl (lv_at hl 0 rfl) ?_
            refine lv_iconst (v := (1 : Int32)) hx hb dX10_takeStars_63 (by decide) ?_
            refine lv_aload_n hx hb dX10_takeStars_64 rfl (lv_at hl 0 rfl) ?_
            refine q_gI hx hb hT hown hK hR iqX10 vqX10 13 (by decide) (hT _ wfl_X10_116) hf dX10_takeStars_65 (fun v15 hf => ?_)
            obtain ⟨v16, X17, hc, hf⟩ := q_b2 hf
            refine q_calli (va_runV (As := [.int (1 : Int32), .int v15]) (rest := []) ⟨hx, hb, hml, hown, hT⟩ (mX10_fails l D kz b0 sz F X10 a0 (1 : Int32) v15 v16 X17 hc) (cwV 2 hT (q_gV wco_X10_fails wml_X10_127 wim_X10_fails wse_X10_fails win_X10) rfl rfl rfl hdX10_fails ⟨Nat.le_of_ble_eq_true rfl, Nat.le_of_ble_eq_true rfl⟩) (q_preV vqX10 (fX10_fails_is hc) hR hK hz) rfl rfl hl.1 rfl (lv_room (Nat.le_of_ble_eq_true rfl)) dX10_takeStars_68 ⟨Nat.le_of_ble_eq_true rfl, Nat.le_of_ble_eq_true rfl⟩) hS (fun H locs hR hS hz => ?_)
            subst hQ
            obtain ⟨h8, h9⟩ := Prod.mk.inj (hret _ (Option.some.inj hf).symm)
            exact q_iret hx hb hr hlocks hR hS hz h8 h9 dX10_takeStars_71
    refine hL F _ o45 ho (fun z hz9 => by subst hz9; exact Option.some.inj hf) (fun X33 h9 => ?_) _ _ _ hR hS hz (lv_sub hl [2, 3, 0] rfl)
    subst h9
    intro H locs ls hR hS hz hl
    have hf := qsm1_r hf
    refine lv_iconst (v := (0 : Int32)) hx hb dX10_takeStars_124 (by decide) ?_
    refine lv_istore (lv' := [(4, .int (0 : Int32)), (0, .ref a0), (1, .int a1), (3, .int v3)]) hx hb dX10_takeStars_125 hl (by decide) rfl (fun ls hl => ?_)
    refine lv_iconst (v := (0 : Int32)) hx hb dX10_takeStars_127 (by decide) ?_
    refine lv_istore (lv' := [(5, .int (0 : Int32)), (4, .int (0 : Int32)), (0, .ref a0), (1, .int a1), (3, .int v3)]) hx hb dX10_takeStars_128 hl (by decide) rfl (fun ls hl => ?_)
    obtain ⟨v43, X44, ho, hf⟩ := q_b2 hf
    have hL : ∀ (n : Nat) (v34 : Int32) (v35 : Int32) (X36 : qH) (out : Int32 × qH), fX10_takeStars_L130 F a0 a1 v3 n v34 v35 X36 = some out → (∀ (v43 : Int32) (X44 : qH), out = (v43, X44) → ∀ (H : Heap) (locs : List Loc) (ls : Array Slot), qR D kz b0 X44 H → va_S (qA b0) s.heap H locs → H.size = sz → lv_has ls 6 [(4, .int v43)] → W p l e rmX10_takeStars s m args below meth c H locs 0 0 Q (F0 m 169 ls [])) → ∀ (H : Heap) (locs : List Loc) (ls : Array Slot), qR D kz b0 X36 H → va_S (qA b0) s.heap H locs → H.size = sz → lv_has ls 6 [(0, .ref a0), (1, .int a1), (3, .int v3), (4, .int v34), (5, .int v35)] → W p l e rmX10_takeStars s m args below meth c H locs 0 0 Q (F0 m 130 ls []) := by
      intro n9
      induction n9 with
      | zero =>
        intro v34 v35 X36 out hf
        exact absurd (show none = some out from hf) (by simp)
      | succ n9 ih0 =>
        intro v34 v35 X36 out hf hex H locs ls hR hS hz hl
        have hf : fX10_takeStars_L130_B F a0 a1 v3 (fX10_takeStars_L130 F a0 a1 v3 n9) v34 v35 X36 = some out := hf
        unfold fX10_takeStars_L130_B at hf
        refine lv_iload hx hb dX10_takeStars_130 (lv_at hl 4 rfl) ?_
        refine lv_iload_n hx hb dX10_takeStars_132 rfl (lv_at hl 1 rfl) ?_
        refine lv_icmp_ge (tgt := 169) hx hb dX10_takeStars_133 (by decide) (fun hc => ?_) (fun hc => ?_)
        · have hf := q_t hf hc
          exact hex _ _ (Option.some.inj hf).symm _ _ _ hR hS hz (lv_sub hl [3] rfl)
        · have hf := q_f hf hc
          refine lv_iload hx hb dX10_takeStars_136 (lv_at hl 3 rfl) ?_
          refine lv_if_ne (tgt := 169) hx hb dX10_takeStars_138 (by decide) (fun hc => ?_) (fun hc => ?_)
          · have hf := q_f hf hc
            exact hex _ _ (Option.some.inj hf).symm _ _ _ hR hS hz (lv_sub hl [3] rfl)
          · have hf := q_t hf hc
            refine lv_aload_n hx hb dX10_takeStars_141 rfl (lv_at hl 0 rfl) ?_
            refine lv_iload_n hx hb dX10_takeStars_142 rfl (lv_at hl 1 rfl) ?_
            refine lv_iload hx hb dX10_takeStars_143 (lv_at hl 4 rfl) ?_
            obtain ⟨v37, hc, hf⟩ := q_b hf
            refine q_calli (va_runV (As := [.int a1, .int v35]) (rest := []) ⟨hx, hb, hml, hown, hT⟩ (mX10_areLike l D kz b0 sz F X36 a0 a1 v35 v37 hc) (cwV 2 hT (q_gV wco_X10_areLike wml_X10_152 wim_X10_areLike wse_X10_areLike win_X10) rfl rfl rfl hdX10_areLike ⟨Nat.le_of_ble_eq_true rfl, Nat.le_of_ble_eq_true rfl⟩) (q_preV vqX10 (fX10_areLike_is hc) hR hK hz) rfl rfl hl.1 rfl (lv_room (Nat.le_of_ble_eq_true rfl)) dX10_takeStars_145 ⟨Nat.le_of_ble_eq_true rfl, Nat.le_of_ble_eq_true rfl⟩) hS (fun H locs hR hS hz => ?_)
            obtain ⟨v38, X39, hp, hf⟩ := q_b2 hf
            have hJ : ∀ (H : Heap) (locs : List Loc) (ls : Array Slot), qR D kz b0 X39 H → va_S (qA b0) s.heap H locs → H.size = sz → lv_has ls 6 [(0, .ref a0), (1, .int a1), (3, .int v3), (5, .int v35)] → W p l e rmX10_takeStars s m args below meth c H locs 0 0 Q (F0 m 161 ls [.int v38]) := by
              intro H locs ls hR hS hz hl
              refine lv_istore (lv' := [(4, .int v38), (0, .ref a0), (1, .int a1), (3, .int v3), (5, .int v35)]) hx hb dX10_takeStars_161 hl (by decide) rfl (fun ls hl => ?_)
              obtain ⟨v40, ev40⟩ : ∃ y : Int32, y = (v35 + (1 : Int32)) := ⟨_, rfl⟩
              have hf := q_lt ev40 hf
              refine lv_iinc (v := v40) (lv' := [(5, .int v40), (4, .int v38), (0, .ref a0), (1, .int a1), (3, .int v3)]) hx hb dX10_takeStars_163 hl (k := 4) rfl (by rw [ev40]; rfl) (by decide) rfl (fun ls hl => ?_)
              refine lv_goto (tgt := 130) hx hb dX10_takeStars_166 (by decide) ?_
              exact ih0 _ _ _ out hf hex _ _ _ hR hS hz (lv_sub hl [2, 3, 4, 1, 0] rfl)
            have hf := hp
            refine lv_if_eq (tgt := 160) hx hb dX10_takeStars_148 (by decide) (fun hc => ?_) (fun hc => ?_)
            · have hf := q_t hf hc
              refine lv_iconst (v := (0 : Int32)) hx hb dX10_takeStars_160 (by decide) ?_
              cases hf
              exact hJ _ _ _ hR hS hz (lv_sub hl [0, 1, 2, 4] rfl)
            · have hf := q_f hf hc
              refine lv_aload_n hx hb dX10_takeStars_151 rfl (lv_at hl 0 rfl) ?_
              refine lv_iconst (v := (4 : Int32)) hx hb dX10_takeStars_152 (by decide) ?_
              refine lv_iload_n hx hb dX10_takeStars_153 rfl (lv_at hl 2 rfl) ?_
              obtain ⟨v41, X42, hc, hf⟩ := q_b2 hf
              refine q_calli (va_runV (As := [.int (4 : Int32), .int v3]) (rest := []) ⟨hx, hb, hml, hown, hT⟩ (mX10_fails l D kz b0 sz F X36 a0 (4 : Int32) v3 v41 X42 hc) (cwV 2 hT (q_gV wco_X10_fails wml_X10_127 wim_X10_fails wse_X10_fails win_X10) rfl rfl rfl hdX10_fails ⟨Nat.le_of_ble_eq_true rfl, Nat.le_of_ble_eq_true rfl⟩) (q_preV vqX10 (fX10_fails_is hc) hR hK hz) rfl rfl hl.1 rfl (lv_room (Nat.le_of_ble_eq_true rfl)) dX10_takeStars_154 ⟨Nat.le_of_ble_eq_true rfl, Nat.le_of_ble_eq_true rfl⟩) hS (fun H locs hR hS hz => ?_)
              refine lv_goto (tgt := 161) hx hb dX10_takeStars_157 (by decide) ?_
              cases hf
              exact hJ _ _ _ hR hS hz (lv_sub hl [0, 1, 2, 4] rfl)
    refine hL F _ _ _ _ ho (fun z0 z1 h9 => ?_) _ _ _ hR hS hz (lv_sub hl [2, 3, 4, 1, 0] rfl)
    cases h9
    intro H locs ls hR hS hz hl
    refine lv_iload hx hb dX10_takeStars_169 (lv_at hl 0 rfl) ?_
    subst hQ
    obtain ⟨h8, h9⟩ := Prod.mk.inj (Option.some.inj hf)
    exact q_iret hx hb hr hlocks hR hS hz h8 h9 dX10_takeStars_171
  · have hf := q_t hf hc
    refine lv_aload_n hx hb dX10_takeStars_24 rfl (lv_at hl 2 rfl) ?_
    refine lv_iconst (v := (1 : Int32)) hx hb dX10_takeStars_25 (by decide) ?_
    refine lv_aload_n hx hb dX10_takeStars_26 rfl (lv_at hl 2 rfl) ?_
    refine q_gI hx hb hT hown hK hR iqX10 vqX10 13 (by decide) (hT _ wfl_X10_116) hf dX10_takeStars_27 (fun v5 hf => ?_)
    obtain ⟨v6, X7, hc, hf⟩ := q_b2 hf
    refine q_calli (va_runV (As := [.int (1 : Int32), .int v5]) (rest := []) ⟨hx, hb, hml, hown, hT⟩ (mX10_fails l D kz b0 sz F X2 a0 (1 : Int32) v5 v6 X7 hc) (cwV 2 hT (q_gV wco_X10_fails wml_X10_127 wim_X10_fails wse_X10_fails win_X10) rfl rfl rfl hdX10_fails ⟨Nat.le_of_ble_eq_true rfl, Nat.le_of_ble_eq_true rfl⟩) (q_preV vqX10 (fX10_fails_is hc) hR hK hz) rfl rfl hl.1 rfl (lv_room (Nat.le_of_ble_eq_true rfl)) dX10_takeStars_30 ⟨Nat.le_of_ble_eq_true rfl, Nat.le_of_ble_eq_true rfl⟩) hS (fun H locs hR hS hz => ?_)
    subst hQ
    obtain ⟨h8, h9⟩ := Prod.mk.inj (Option.some.inj hf)
    exact q_iret hx hb hr hlocks hR hS hz h8 h9 dX10_takeStars_33
/-! X10_takeHouse -/
def fX10_takeHouse (F : Nat) (X : qH) (a0 : Nat) : Option (Int32 × qH) :=
qIs 9 X a0 <|
(qgI X 9 a0 17).bind fun v1 =>
(qgI X 9 a0 17).bind fun v2 =>
qlt (v2 + (1 : Int32)) fun v3 =>
(qpI X 9 a0 17 v3).bind fun X4 =>
qb2 (fX10_takeCell F X4 a0 v1) fun v5 X6 =>
qb2 (if v5 ≤ (0 : Int32) then ((qgR X6 9 a0 19).bind fun v18 =>
qb2 (fX10_into F X6 a0 v18 v1 (1 : Int32) (9 : Int32)) fun v19 X20 =>
some (v19, X20))
else (some (v5, X6))) fun v7 X8 =>
qb2 (if v7 ≤ (0 : Int32) then ((qgR X8 9 a0 20).bind fun v15 =>
qb2 (fX10_into F X8 a0 v15 v1 (0 : Int32) (9 : Int32)) fun v16 X17 =>
some (v16, X17))
else (some (v7, X8))) fun v9 X10 =>
qb2 (if v9 ≤ (0 : Int32) then (qb2 (fX10_takeStars F X10 a0 v1) fun v13 X14 =>
some (v13, X14))
else (some (v9, X10))) fun v11 X12 =>
some (v11, X12)
abbrev rmX10_takeHouse : Room := { frames := 4, cells := 0, slots := 0, locals := 96 }
theorem fX10_takeHouse_is {F : Nat} {X : qH} {a0 : Nat} {r9 : Int32 × qH} (h : fX10_takeHouse F X a0 = some r9) : ∃ fs, X a0 = some (.inr (9, fs)) := (qIs_spec h).1
theorem hdX10_takeHouse : yX10_takeHouse.cls = RX10 ∧ yX10_takeHouse.cls ≠ "java/lang/invoke/MethodHandle" ∧ yX10_takeHouse.cls ≠ "java/lang/invoke/VarHandle" ∧ (parseMethodDescriptor yX10_takeHouse.desc).map (fun d => d.parameters.length) = some 0 := by decide +kernel
set_option maxHeartbeats 4000000 in
set_option maxRecDepth 100000 in
theorem mX10_takeHouse (l : Launch) (D : va_G) (kz : Nat → Nat) (b0 sz F : Nat) (X : qH) (a0 : Nat) (r : Int32) (Xr : qH) (hf : fX10_takeHouse F X a0 = some (r, Xr)) : Met l yX10_takeHouse (qws yX10_takeHouse cX10_takeHouse 3 (some .int)) rmX10_takeHouse (va_Pc [.ref a0] (qU D kz b0 sz X)) (va_Qi (fun (r' : Int32) (u : qH) => r' = r ∧ u = Xr) (fun u t => qO D kz b0 sz u t) (qA b0)) 0 0 (qA b0) := by
  refine q_start (by decide) (Nat.le_of_ble_eq_true rfl) ?_
  intro p e s m args below meth c hx hb hr hlocks hnm hml hown hT hR hK hz ls hl
  have hown : s.vm.findClass RX10 = some m.cls := hown
  have hl : lv_has ls 3 [(0, .ref a0)] := hl
  have hS : va_S (qA b0) s.heap s.heap [] := va_S.rf
  obtain ⟨Q, hQ⟩ : ∃ Q, Q = MQ below (va_Qi (fun (r' : Int32) (u : qH) => r' = r ∧ u = Xr) (fun u t => qO D kz b0 sz u t) (qA b0)) args s 0 0 (qA b0) := ⟨_, rfl⟩
  rw [← hQ]
  unfold fX10_takeHouse at hf
  obtain ⟨hthis, hf⟩ := qIs_spec hf
  refine lv_aload_n hx hb dX10_takeHouse_0 rfl (lv_at hl 0 rfl) ?_
  refine q_gI hx hb hT hown hK hR iqX10 vqX10 17 (by decide) (hT _ wfl_X10_156) hf dX10_takeHouse_1 (fun v1 hf => ?_)
  refine lv_istore_n (lv' := [(1, .int v1), (0, .ref a0)]) hx hb dX10_takeHouse_4 rfl hl (by decide) rfl (fun ls hl => ?_)
  refine lv_aload_n hx hb dX10_takeHouse_5 rfl (lv_at hl 1 rfl) ?_
  refine lv_dup hx hb dX10_takeHouse_6 rfl ?_
  refine q_gI hx hb hT hown hK hR iqX10 vqX10 17 (by decide) (hT _ wfl_X10_156) hf dX10_takeHouse_7 (fun v2 hf => ?_)
  refine lv_iconst (v := (1 : Int32)) hx hb dX10_takeHouse_10 (by decide) ?_
  refine lv_iadd hx hb dX10_takeHouse_11 ?_
  refine lv_topi (fun v3 ev3 => ?_)
  have hf := q_lt ev3 hf
  refine q_pI hx hb hT hown hK hR hS hz iqX10 vqX10 tyX10_ok nmX10 17 (by decide) (hT _ wfl_X10_156) rfl rfl hf dX10_takeHouse_12 (fun X4 hf H locs hR hS hz => ?_)
  refine lv_aload_n hx hb dX10_takeHouse_15 rfl (lv_at hl 1 rfl) ?_
  refine lv_iload_n hx hb dX10_takeHouse_16 rfl (lv_at hl 0 rfl) ?_
  obtain ⟨v5, X6, hc, hf⟩ := q_b2 hf
  refine q_calli (va_runV (As := [.int v1]) (rest := []) ⟨hx, hb, hml, hown, hT⟩ (mX10_takeCell l D kz b0 sz F X4 a0 v1 v5 X6 hc) (cwV 1 hT (q_gV wco_X10_takeCell wml_X10_159 wim_X10_takeCell wse_X10_takeCell win_X10) rfl rfl rfl hdX10_takeCell ⟨Nat.le_of_ble_eq_true rfl, Nat.le_of_ble_eq_true rfl⟩) (q_preV vqX10 (fX10_takeCell_is hc) hR hK hz) rfl rfl hl.1 rfl (lv_room (Nat.le_of_ble_eq_true rfl)) dX10_takeHouse_17 ⟨Nat.le_of_ble_eq_true rfl, Nat.le_of_ble_eq_true rfl⟩) hS (fun H locs hR hS hz => ?_)
  refine lv_istore_n (lv' := [(2, .int v5), (1, .int v1), (0, .ref a0)]) hx hb dX10_takeHouse_20 rfl hl (by decide) rfl (fun ls hl => ?_)
  refine lv_iload_n hx hb dX10_takeHouse_21 rfl (lv_at hl 0 rfl) ?_
  obtain ⟨v7, X8, hp, hf⟩ := q_b2 hf
  have hJ : ∀ (H : Heap) (locs : List Loc) (ls : Array Slot), qR D kz b0 X8 H → va_S (qA b0) s.heap H locs → H.size = sz → lv_has ls 3 [(0, .ref a0), (1, .int v1)] → W p l e rmX10_takeHouse s m args below meth c H locs 0 0 Q (F0 m 41 ls [.int v7]) := by
    intro H locs ls hR hS hz hl
    refine lv_istore_n (lv' := [(2, .int v7), (0, .ref a0), (1, .int v1)]) hx hb dX10_takeHouse_41 rfl hl (by decide) rfl (fun ls hl => ?_)
    refine lv_iload_n hx hb dX10_takeHouse_42 rfl (lv_at hl 0 rfl) ?_
    obtain ⟨v9, X10, hp, hf⟩ := q_b2 hf
    have hJ : ∀ (H : Heap) (locs : List Loc) (ls : Array Slot), qR D kz b0 X10 H → va_S (qA b0) s.heap H locs → H.size = sz → lv_has ls 3 [(0, .ref a0), (1, .int v1)] → W p l e rmX10_takeHouse s m args below meth c H locs 0 0 Q (F0 m 62 ls [.int v9]) := by
      intro H locs ls hR hS hz hl
      refine lv_istore_n (lv' := [(2, .int v9), (0, .ref a0), (1, .int v1)]) hx hb dX10_takeHouse_62 rfl hl (by decide) rfl (fun ls hl => ?_)
      refine lv_iload_n hx hb dX10_takeHouse_63 rfl (lv_at hl 0 rfl) ?_
      obtain ⟨v11, X12, hp, hf⟩ := q_b2 hf
      have hJ : ∀ (H : Heap) (locs : List Loc) (ls : Array Slot), qR D kz b0 X12 H → va_S (qA b0) s.heap H locs → H.size = sz → lv_has ls 3 [] → W p l e rmX10_takeHouse s m args below meth c H locs 0 0 Q (F0 m 76 ls [.int v11]) := by
        intro H locs ls hR hS hz hl
        subst hQ
        obtain ⟨h8, h9⟩ := Prod.mk.inj (Option.some.inj hf)
        exact q_iret hx hb hr hlocks hR hS hz h8 h9 dX10_takeHouse_76
      have hf := hp
      refine lv_if_le (tgt := 71) hx hb dX10_takeHouse_64 (by decide) (fun hc => ?_) (fun hc => ?_)
      · have hf := q_t hf hc
        refine lv_aload_n hx hb dX10_takeHouse_71 rfl (lv_at hl 1 rfl) ?_
        refine lv_iload_n hx hb dX10_takeHouse_72 rfl (lv_at hl 2 rfl) ?_
        obtain ⟨v13, X14, hc, hf⟩ := q_b2 hf
        refine q_calli (va_runV (As := [.int v1]) (rest := []) ⟨hx, hb, hml, hown, hT⟩ (mX10_takeStars l D kz b0 sz F X10 a0 v1 v13 X14 hc) (cwV 1 hT (q_gV wco_X10_takeStars wml_X10_163 wim_X10_takeStars wse_X10_takeStars win_X10) rfl rfl rfl hdX10_takeStars ⟨Nat.le_of_ble_eq_true rfl, Nat.le_of_ble_eq_true rfl⟩) (q_preV vqX10 (fX10_takeStars_is hc) hR hK hz) rfl rfl hl.1 rfl (lv_room (Nat.le_of_ble_eq_true rfl)) dX10_takeHouse_73 ⟨Nat.le_of_ble_eq_true rfl, Nat.le_of_ble_eq_true rfl⟩) hS (fun H locs hR hS hz => ?_)
        cases hf
        exact hJ _ _ _ hR hS hz (lv_sub hl [] rfl)
      · have hf := q_f hf hc
        refine lv_iload_n hx hb dX10_takeHouse_67 rfl (lv_at hl 0 rfl) ?_
        refine lv_goto (tgt := 76) hx hb dX10_takeHouse_68 (by decide) ?_
        cases hf
        exact hJ _ _ _ hR hS hz (lv_sub hl [] rfl)
    have hf := hp
    refine lv_if_le (tgt := 50) hx hb dX10_takeHouse_43 (by decide) (fun hc => ?_) (fun hc => ?_)
    · have hf := q_t hf hc
      refine lv_aload_n hx hb dX10_takeHouse_50 rfl (lv_at hl 1 rfl) ?_
      refine lv_aload_n hx hb dX10_takeHouse_51 rfl (lv_at hl 1 rfl) ?_
      refine q_gR hx hb hT hown hK hR iqX10 vqX10 20 (by decide) (hT _ wfl_X10_47) hf dX10_takeHouse_52 (fun v15 hf => ?_)
      refine lv_iload_n hx hb dX10_takeHouse_55 rfl (lv_at hl 2 rfl) ?_
      refine lv_iconst (v := (0 : Int32)) hx hb dX10_takeHouse_56 (by decide) ?_
      refine lv_bipush (v := (9 : Int32)) hx hb dX10_takeHouse_57 (by decide) ?_
      obtain ⟨v16, X17, hc, hf⟩ := q_b2 hf
      refine q_calli (va_runV (As := [.ref v15, .int v1, .int (0 : Int32), .int (9 : Int32)]) (rest := []) ⟨hx, hb, hml, hown, hT⟩ (mX10_into l D kz b0 sz F X8 a0 v15 v1 (0 : Int32) (9 : Int32) v16 X17 hc) (cwV 4 hT (q_gV wco_X10_into wml_X10_140 wim_X10_into wse_X10_into win_X10) rfl rfl rfl hdX10_into ⟨Nat.le_of_ble_eq_true rfl, Nat.le_of_ble_eq_true rfl⟩) (q_preV vqX10 (fX10_into_is hc) hR hK hz) rfl rfl hl.1 rfl (lv_room (Nat.le_of_ble_eq_true rfl)) dX10_takeHouse_59 ⟨Nat.le_of_ble_eq_true rfl, Nat.le_of_ble_eq_true rfl⟩) hS (fun H locs hR hS hz => ?_)
      cases hf
      exact hJ _ _ _ hR hS hz (lv_sub hl [1, 2] rfl)
    · have hf := q_f hf hc
      refine lv_iload_n hx hb dX10_takeHouse_46 rfl (lv_at hl 0 rfl) ?_
      refine lv_goto (tgt := 62) hx hb dX10_takeHouse_47 (by decide) ?_
      cases hf
      exact hJ _ _ _ hR hS hz (lv_sub hl [1, 2] rfl)
  have hf := hp
  refine lv_if_le (tgt := 29) hx hb dX10_takeHouse_22 (by decide) (fun hc => ?_) (fun hc => ?_)
  · have hf := q_t hf hc
    refine lv_aload_n hx hb dX10_takeHouse_29 rfl (lv_at hl 2 rfl) ?_
    refine lv_aload_n hx hb dX10_takeHouse_30 rfl (lv_at hl 2 rfl) ?_
    refine q_gR hx hb hT hown hK hR iqX10 vqX10 19 (by decide) (hT _ wfl_X10_44) hf dX10_takeHouse_31 (fun v18 hf => ?_)
    refine lv_iload_n hx hb dX10_takeHouse_34 rfl (lv_at hl 1 rfl) ?_
    refine lv_iconst (v := (1 : Int32)) hx hb dX10_takeHouse_35 (by decide) ?_
    refine lv_bipush (v := (9 : Int32)) hx hb dX10_takeHouse_36 (by decide) ?_
    obtain ⟨v19, X20, hc, hf⟩ := q_b2 hf
    refine q_calli (va_runV (As := [.ref v18, .int v1, .int (1 : Int32), .int (9 : Int32)]) (rest := []) ⟨hx, hb, hml, hown, hT⟩ (mX10_into l D kz b0 sz F X6 a0 v18 v1 (1 : Int32) (9 : Int32) v19 X20 hc) (cwV 4 hT (q_gV wco_X10_into wml_X10_140 wim_X10_into wse_X10_into win_X10) rfl rfl rfl hdX10_into ⟨Nat.le_of_ble_eq_true rfl, Nat.le_of_ble_eq_true rfl⟩) (q_preV vqX10 (fX10_into_is hc) hR hK hz) rfl rfl hl.1 rfl (lv_room (Nat.le_of_ble_eq_true rfl)) dX10_takeHouse_38 ⟨Nat.le_of_ble_eq_true rfl, Nat.le_of_ble_eq_true rfl⟩) hS (fun H locs hR hS hz => ?_)
    cases hf
    exact hJ _ _ _ hR hS hz (lv_sub hl [2, 1] rfl)
  · have hf := q_f hf hc
    refine lv_iload_n hx hb dX10_takeHouse_25 rfl (lv_at hl 0 rfl) ?_
    refine lv_goto (tgt := 41) hx hb dX10_takeHouse_26 (by decide) ?_
    cases hf
    exact hJ _ _ _ hR hS hz (lv_sub hl [2, 1] rfl)
