/-! X0_empty -/
def fX0_empty (F : Nat) (X : qH) (a0 : Nat) : Option (qH) :=
qIs 0 X a0 <|
(qpI X 0 a0 0 (0 : Int32)).bind fun X1 =>
(qpI X1 0 a0 1 (0 : Int32)).bind fun X2 =>
(qpI X2 0 a0 2 (0 : Int32)).bind fun X3 =>
(qpI X3 0 a0 3 (2 : Int32)).bind fun X4 =>
(qpI X4 0 a0 4 (10 : Int32)).bind fun X5 =>
(qpI X5 0 a0 5 (0 : Int32)).bind fun X6 =>
some X6
abbrev rmX0_empty : Room := { frames := 0, cells := 0, slots := 0, locals := 0 }
theorem fX0_empty_is {F : Nat} {X : qH} {a0 : Nat} {r9 : qH} (h : fX0_empty F X a0 = some r9) : ∃ fs, X a0 = some (.inr (0, fs)) := (qIs_spec h).1
theorem hdX0_empty : yX0_empty.cls = RX0 ∧ yX0_empty.cls ≠ "java/lang/invoke/MethodHandle" ∧ yX0_empty.cls ≠ "java/lang/invoke/VarHandle" ∧ (parseMethodDescriptor yX0_empty.desc).map (fun d => d.parameters.length) = some 0 := by decide +kernel
set_option maxHeartbeats 4000000 in
set_option maxRecDepth 100000 in
theorem mX0_empty (l : Launch) (D : va_G) (kz : Nat → Nat) (b0 sz F : Nat) (X : qH) (a0 : Nat)  (Xr : qH) (hf : fX0_empty F X a0 = some Xr) : Met l yX0_empty (qws yX0_empty cX0_empty 1 none) rmX0_empty (va_Pc [.ref a0] (qU D kz b0 sz X)) (va_Qv (fun (u : qH) => u = Xr) (fun u t => qO D kz b0 sz u t) (qA b0)) 0 0 (qA b0) := by
  refine q_start (by decide) (Nat.le_of_ble_eq_true rfl) ?_
  intro p e s m args below meth c hx hb hr hlocks hnm hml hown hT hR hK hz ls hl
  have hown : s.vm.findClass RX0 = some m.cls := hown
  have hl : lv_has ls 1 [(0, .ref a0)] := hl
  have hS : va_S (qA b0) s.heap s.heap [] := va_S.rf
  obtain ⟨Q, hQ⟩ : ∃ Q, Q = MQ below (va_Qv (fun (u : qH) => u = Xr) (fun u t => qO D kz b0 sz u t) (qA b0)) args s 0 0 (qA b0) := ⟨_, rfl⟩
  rw [← hQ]
  unfold fX0_empty at hf
  obtain ⟨hthis, hf⟩ := qIs_spec hf
  refine lv_aload_n hx hb dX0_empty_0 rfl (lv_at hl 0 rfl) ?_
  refine lv_iconst (v := (0 : Int32)) hx hb dX0_empty_1 (by decide) ?_
  refine q_pI hx hb hT hown hK hR hS hz iqX0 vqX0 tyX0_ok nmX0 0 (by decide) (hT _ wfl_X0_27) rfl rfl hf dX0_empty_2 (fun X1 hf H locs hR hS hz => ?_)
  refine lv_aload_n hx hb dX0_empty_5 rfl (lv_at hl 0 rfl) ?_
  refine lv_iconst (v := (0 : Int32)) hx hb dX0_empty_6 (by decide) ?_
  refine q_pI hx hb hT hown hK hR hS hz iqX0 vqX0 tyX0_ok nmX0 1 (by decide) (hT _ wfl_X0_31) rfl rfl hf dX0_empty_7 (fun X2 hf H locs hR hS hz => ?_)
  refine lv_aload_n hx hb dX0_empty_10 rfl (lv_at hl 0 rfl) ?_
  refine lv_iconst (v := (0 : Int32)) hx hb dX0_empty_11 (by decide) ?_
  refine q_pI hx hb hT hown hK hR hS hz iqX0 vqX0 tyX0_ok nmX0 2 (by decide) (hT _ wfl_X0_34) rfl rfl hf dX0_empty_12 (fun X3 hf H locs hR hS hz => ?_)
  refine lv_aload_n hx hb dX0_empty_15 rfl (lv_at hl 0 rfl) ?_
  refine lv_iconst (v := (2 : Int32)) hx hb dX0_empty_16 (by decide) ?_
  refine q_pI hx hb hT hown hK hR hS hz iqX0 vqX0 tyX0_ok nmX0 3 (by decide) (hT _ wfl_X0_37) rfl rfl hf dX0_empty_17 (fun X4 hf H locs hR hS hz => ?_)
  refine lv_aload_n hx hb dX0_empty_20 rfl (lv_at hl 0 rfl) ?_
  refine lv_bipush (v := (10 : Int32)) hx hb dX0_empty_21 (by decide) ?_
  refine q_pI hx hb hT hown hK hR hS hz iqX0 vqX0 tyX0_ok nmX0 4 (by decide) (hT _ wfl_X0_40) rfl rfl hf dX0_empty_23 (fun X5 hf H locs hR hS hz => ?_)
  refine lv_aload_n hx hb dX0_empty_26 rfl (lv_at hl 0 rfl) ?_
  refine lv_iconst (v := (0 : Int32)) hx hb dX0_empty_27 (by decide) ?_
  refine q_pI hx hb hT hown hK hR hS hz iqX0 vqX0 tyX0_ok nmX0 5 (by decide) (hT _ wfl_X0_43) rfl rfl hf dX0_empty_28 (fun X6 hf H locs hR hS hz => ?_)
  subst hQ
  exact q_vret hx hb hr hlocks hR hS hz (Option.some.inj hf) dX0_empty_31
/-! X0_settle -/
def fX0_settle (F : Nat) (X : qH) (a0 : Nat) (a1 : Int32) (a2 : Int32) (a3 : Int32) (a4 : Int32) : Option (qH) :=
qIs 0 X a0 <|
(qgI X 0 a0 5).bind fun v1 =>
if v1 < (8 : Int32) then ((qgR X 0 a0 6).bind fun v2 =>
(qgI X 0 a0 5).bind fun v3 =>
(qaS X 0 v2 v3 a1).bind fun X4 =>
(qgR X4 0 a0 7).bind fun v5 =>
(qgI X4 0 a0 5).bind fun v6 =>
(qaS X4 0 v5 v6 a2).bind fun X7 =>
(qgR X7 0 a0 8).bind fun v8 =>
(qgI X7 0 a0 5).bind fun v9 =>
(qaS X7 0 v8 v9 a3).bind fun X10 =>
(qgR X10 0 a0 9).bind fun v11 =>
(qgI X10 0 a0 5).bind fun v12 =>
(qaS X10 0 v11 v12 a4).bind fun X13 =>
(qgI X13 0 a0 5).bind fun v14 =>
qlt (v14 + (1 : Int32)) fun v15 =>
(qpI X13 0 a0 5 v15).bind fun X16 =>
some X16)
else (some X)
abbrev rmX0_settle : Room := { frames := 0, cells := 0, slots := 0, locals := 0 }
theorem fX0_settle_is {F : Nat} {X : qH} {a0 : Nat} {a1 : Int32} {a2 : Int32} {a3 : Int32} {a4 : Int32} {r9 : qH} (h : fX0_settle F X a0 a1 a2 a3 a4 = some r9) : ∃ fs, X a0 = some (.inr (0, fs)) := (qIs_spec h).1
theorem hdX0_settle : yX0_settle.cls = RX0 ∧ yX0_settle.cls ≠ "java/lang/invoke/MethodHandle" ∧ yX0_settle.cls ≠ "java/lang/invoke/VarHandle" ∧ (parseMethodDescriptor yX0_settle.desc).map (fun d => d.parameters.length) = some 4 := by decide +kernel
set_option maxHeartbeats 4000000 in
set_option maxRecDepth 100000 in
theorem mX0_settle (l : Launch) (D : va_G) (kz : Nat → Nat) (b0 sz F : Nat) (X : qH) (a0 : Nat) (a1 : Int32) (a2 : Int32) (a3 : Int32) (a4 : Int32)  (Xr : qH) (hf : fX0_settle F X a0 a1 a2 a3 a4 = some Xr) : Met l yX0_settle (qws yX0_settle cX0_settle 5 none) rmX0_settle (va_Pc [.ref a0, .int a1, .int a2, .int a3, .int a4] (qU D kz b0 sz X)) (va_Qv (fun (u : qH) => u = Xr) (fun u t => qO D kz b0 sz u t) (qA b0)) 0 0 (qA b0) := by
  refine q_start (by decide) (Nat.le_of_ble_eq_true rfl) ?_
  intro p e s m args below meth c hx hb hr hlocks hnm hml hown hT hR hK hz ls hl
  have hown : s.vm.findClass RX0 = some m.cls := hown
  have hl : lv_has ls 5 [(0, .ref a0), (1, .int a1), (2, .int a2), (3, .int a3), (4, .int a4)] := hl
  have hS : va_S (qA b0) s.heap s.heap [] := va_S.rf
  obtain ⟨Q, hQ⟩ : ∃ Q, Q = MQ below (va_Qv (fun (u : qH) => u = Xr) (fun u t => qO D kz b0 sz u t) (qA b0)) args s 0 0 (qA b0) := ⟨_, rfl⟩
  rw [← hQ]
  unfold fX0_settle at hf
  obtain ⟨hthis, hf⟩ := qIs_spec hf
  refine lv_aload_n hx hb dX0_settle_0 rfl (lv_at hl 0 rfl) ?_
  refine q_gI hx hb hT hown hK hR iqX0 vqX0 5 (by decide) (hT _ wfl_X0_43) hf dX0_settle_1 (fun v1 hf => ?_)
  refine lv_bipush (v := (8 : Int32)) hx hb dX0_settle_4 (by decide) ?_
  refine lv_icmp_lt (tgt := 10) hx hb dX0_settle_6 (by decide) (fun hc => ?_) (fun hc => ?_)
  · have hf := q_t hf hc
    refine lv_aload_n hx hb dX0_settle_10 rfl (lv_at hl 0 rfl) ?_
    refine q_gR hx hb hT hown hK hR iqX0 vqX0 6 (by decide) (hT _ wfl_X0_9) hf dX0_settle_11 (fun v2 hf => ?_)
    refine lv_aload_n hx hb dX0_settle_14 rfl (lv_at hl 0 rfl) ?_
    refine q_gI hx hb hT hown hK hR iqX0 vqX0 5 (by decide) (hT _ wfl_X0_43) hf dX0_settle_15 (fun v3 hf => ?_)
    refine lv_iload_n hx hb dX0_settle_18 rfl (lv_at hl 1 rfl) ?_
    refine q_iast hx hb hK hR hS hz hf dX0_settle_19 (fun X4 hf H locs hR hS hz => ?_)
    refine lv_aload_n hx hb dX0_settle_20 rfl (lv_at hl 0 rfl) ?_
    refine q_gR hx hb hT hown hK hR iqX0 vqX0 7 (by decide) (hT _ wfl_X0_15) hf dX0_settle_21 (fun v5 hf => ?_)
    refine lv_aload_n hx hb dX0_settle_24 rfl (lv_at hl 0 rfl) ?_
    refine q_gI hx hb hT hown hK hR iqX0 vqX0 5 (by decide) (hT _ wfl_X0_43) hf dX0_settle_25 (fun v6 hf => ?_)
    refine lv_iload_n hx hb dX0_settle_28 rfl (lv_at hl 2 rfl) ?_
    refine q_iast hx hb hK hR hS hz hf dX0_settle_29 (fun X7 hf H locs hR hS hz => ?_)
    refine lv_aload_n hx hb dX0_settle_30 rfl (lv_at hl 0 rfl) ?_
    refine q_gR hx hb hT hown hK hR iqX0 vqX0 8 (by decide) (hT _ wfl_X0_18) hf dX0_settle_31 (fun v8 hf => ?_)
    refine lv_aload_n hx hb dX0_settle_34 rfl (lv_at hl 0 rfl) ?_
    refine q_gI hx hb hT hown hK hR iqX0 vqX0 5 (by decide) (hT _ wfl_X0_43) hf dX0_settle_35 (fun v9 hf => ?_)
    refine lv_iload_n hx hb dX0_settle_38 rfl (lv_at hl 3 rfl) ?_
    refine q_iast hx hb hK hR hS hz hf dX0_settle_39 (fun X10 hf H locs hR hS hz => ?_)
    refine lv_aload_n hx hb dX0_settle_40 rfl (lv_at hl 0 rfl) ?_
    refine q_gR hx hb hT hown hK hR iqX0 vqX0 9 (by decide) (hT _ wfl_X0_21) hf dX0_settle_41 (fun v11 hf => ?_)
    refine lv_aload_n hx hb dX0_settle_44 rfl (lv_at hl 0 rfl) ?_
    refine q_gI hx hb hT hown hK hR iqX0 vqX0 5 (by decide) (hT _ wfl_X0_43) hf dX0_settle_45 (fun v12 hf => ?_)
    refine lv_iload hx hb dX0_settle_48 (lv_at hl 4 rfl) ?_
    refine q_iast hx hb hK hR hS hz hf dX0_settle_50 (fun X13 hf H locs hR hS hz => ?_)
    refine lv_aload_n hx hb dX0_settle_51 rfl (lv_at hl 0 rfl) ?_
    refine lv_dup hx hb dX0_settle_52 rfl ?_
    refine q_gI hx hb hT hown hK hR iqX0 vqX0 5 (by decide) (hT _ wfl_X0_43) hf dX0_settle_53 (fun v14 hf => ?_)
    refine lv_iconst (v := (1 : Int32)) hx hb dX0_settle_56 (by decide) ?_
    refine lv_iadd hx hb dX0_settle_57 ?_
    refine lv_topi (fun v15 ev15 => ?_)
    have hf := q_lt ev15 hf
    refine q_pI hx hb hT hown hK hR hS hz iqX0 vqX0 tyX0_ok nmX0 5 (by decide) (hT _ wfl_X0_43) rfl rfl hf dX0_settle_58 (fun X16 hf H locs hR hS hz => ?_)
    subst hQ
    exact q_vret hx hb hr hlocks hR hS hz (Option.some.inj hf) dX0_settle_61
  · have hf := q_f hf hc
    subst hQ
    exact q_vret hx hb hr hlocks hR hS hz (Option.some.inj hf) dX0_settle_9
/-! X0_has -/
def fX0_has (F : Nat) (X : qH) (a0 : Nat) (a1 : Int32) : Option (Int32) :=
qIs 0 X a0 <|
(if a1 < (0 : Int32) then (some (0 : Int32))
else ((qgI X 0 a0 5).bind fun v2 =>
if v2 ≤ a1 then (some (0 : Int32))
else (some (1 : Int32))) : Option Int32).bind fun v1 =>
(qz v1).bind fun z =>
some z
abbrev rmX0_has : Room := { frames := 0, cells := 0, slots := 0, locals := 0 }
theorem fX0_has_is {F : Nat} {X : qH} {a0 : Nat} {a1 : Int32} {r9 : Int32} (h : fX0_has F X a0 a1 = some r9) : ∃ fs, X a0 = some (.inr (0, fs)) := (qIs_spec h).1
theorem hdX0_has : yX0_has.cls = RX0 ∧ yX0_has.cls ≠ "java/lang/invoke/MethodHandle" ∧ yX0_has.cls ≠ "java/lang/invoke/VarHandle" ∧ (parseMethodDescriptor yX0_has.desc).map (fun d => d.parameters.length) = some 1 := by decide +kernel
set_option maxHeartbeats 4000000 in
set_option maxRecDepth 100000 in
theorem mX0_has (l : Launch) (D : va_G) (kz : Nat → Nat) (b0 sz F : Nat) (X : qH) (a0 : Nat) (a1 : Int32) (r : Int32) (hf : fX0_has F X a0 a1 = some r) : Met l yX0_has (qws yX0_has cX0_has 2 (some .boolean)) rmX0_has (va_Pc [.ref a0, .int a1] (qU D kz b0 sz X)) (va_Qi (fun (r' : Int32) (u : qH) => r' = r ∧ u = X) (fun u t => qO D kz b0 sz u t) (qA b0)) 0 0 (qA b0) := by
  refine q_start (by decide) (Nat.le_of_ble_eq_true rfl) ?_
  intro p e s m args below meth c hx hb hr hlocks hnm hml hown hT hR hK hz ls hl
  have hown : s.vm.findClass RX0 = some m.cls := hown
  have hl : lv_has ls 2 [(0, .ref a0), (1, .int a1)] := hl
  have hS : va_S (qA b0) s.heap s.heap [] := va_S.rf
  obtain ⟨Q, hQ⟩ : ∃ Q, Q = MQ below (va_Qi (fun (r' : Int32) (u : qH) => r' = r ∧ u = X) (fun u t => qO D kz b0 sz u t) (qA b0)) args s 0 0 (qA b0) := ⟨_, rfl⟩
  rw [← hQ]
  unfold fX0_has at hf
  obtain ⟨hthis, hf⟩ := qIs_spec hf
  refine lv_iload_n hx hb dX0_has_0 rfl (lv_at hl 1 rfl) ?_
  obtain ⟨v1, hp, hf⟩ := q_b hf
  have hJ : ∀ (H : Heap) (locs : List Loc) (ls : Array Slot), qR D kz b0 X H → va_S (qA b0) s.heap H locs → H.size = sz → lv_has ls 2 [] → W p l e rmX0_has s m args below meth c H locs 0 0 Q (F0 m 17 ls [.int v1]) := by
    intro H locs ls hR hS hz hl
    subst hQ
    obtain ⟨z9, hz9, hf⟩ := q_b hf
    obtain ⟨rfl, h01⟩ := qz_spec hz9
    exact q_zret hx hb hr hlocks hR hS hz (Option.some.inj hf) h01 rfl dX0_has_17
  have hf := hp
  refine lv_if_lt (tgt := 16) hx hb dX0_has_1 (by decide) (fun hc => ?_) (fun hc => ?_)
  · have hf := q_t hf hc
    refine lv_iconst (v := (0 : Int32)) hx hb dX0_has_16 (by decide) ?_
    cases hf
    exact hJ _ _ _ hR hS hz (lv_sub hl [] rfl)
  · have hf := q_f hf hc
    refine lv_iload_n hx hb dX0_has_4 rfl (lv_at hl 1 rfl) ?_
    refine lv_aload_n hx hb dX0_has_5 rfl (lv_at hl 0 rfl) ?_
    refine q_gI hx hb hT hown hK hR iqX0 vqX0 5 (by decide) (hT _ wfl_X0_43) hf dX0_has_6 (fun v2 hf => ?_)
    refine lv_icmp_ge (tgt := 16) hx hb dX0_has_9 (by decide) (fun hc => ?_) (fun hc => ?_)
    · have hf := q_t hf hc
      refine lv_iconst (v := (0 : Int32)) hx hb dX0_has_16 (by decide) ?_
      cases hf
      exact hJ _ _ _ hR hS hz (lv_sub hl [] rfl)
    · have hf := q_f hf hc
      refine lv_iconst (v := (1 : Int32)) hx hb dX0_has_12 (by decide) ?_
      refine lv_goto (tgt := 17) hx hb dX0_has_13 (by decide) ?_
      cases hf
      exact hJ _ _ _ hR hS hz (lv_sub hl [] rfl)
/-! X0_hasTwo -/
def fX0_hasTwo (F : Nat) (X : qH) (a0 : Nat) (a1 : Int32) (a2 : Int32) : Option (Int32) :=
qIs 0 X a0 <|
(fX0_has F X a0 a1).bind fun v1 =>
(if v1 = (0 : Int32) then (some (0 : Int32))
else ((fX0_has F X a0 a2).bind fun v3 =>
if v3 = (0 : Int32) then (some (0 : Int32))
else (if a1 = a2 then (some (0 : Int32))
else (some (1 : Int32)))) : Option Int32).bind fun v2 =>
(qz v2).bind fun z =>
some z
abbrev rmX0_hasTwo : Room := { frames := 1, cells := 0, slots := 0, locals := 21 }
theorem fX0_hasTwo_is {F : Nat} {X : qH} {a0 : Nat} {a1 : Int32} {a2 : Int32} {r9 : Int32} (h : fX0_hasTwo F X a0 a1 a2 = some r9) : ∃ fs, X a0 = some (.inr (0, fs)) := (qIs_spec h).1
theorem hdX0_hasTwo : yX0_hasTwo.cls = RX0 ∧ yX0_hasTwo.cls ≠ "java/lang/invoke/MethodHandle" ∧ yX0_hasTwo.cls ≠ "java/lang/invoke/VarHandle" ∧ (parseMethodDescriptor yX0_hasTwo.desc).map (fun d => d.parameters.length) = some 2 := by decide +kernel
set_option maxHeartbeats 4000000 in
set_option maxRecDepth 100000 in
theorem mX0_hasTwo (l : Launch) (D : va_G) (kz : Nat → Nat) (b0 sz F : Nat) (X : qH) (a0 : Nat) (a1 : Int32) (a2 : Int32) (r : Int32) (hf : fX0_hasTwo F X a0 a1 a2 = some r) : Met l yX0_hasTwo (qws yX0_hasTwo cX0_hasTwo 3 (some .boolean)) rmX0_hasTwo (va_Pc [.ref a0, .int a1, .int a2] (qU D kz b0 sz X)) (va_Qi (fun (r' : Int32) (u : qH) => r' = r ∧ u = X) (fun u t => qO D kz b0 sz u t) (qA b0)) 0 0 (qA b0) := by
  refine q_start (by decide) (Nat.le_of_ble_eq_true rfl) ?_
  intro p e s m args below meth c hx hb hr hlocks hnm hml hown hT hR hK hz ls hl
  have hown : s.vm.findClass RX0 = some m.cls := hown
  have hl : lv_has ls 3 [(0, .ref a0), (1, .int a1), (2, .int a2)] := hl
  have hS : va_S (qA b0) s.heap s.heap [] := va_S.rf
  obtain ⟨Q, hQ⟩ : ∃ Q, Q = MQ below (va_Qi (fun (r' : Int32) (u : qH) => r' = r ∧ u = X) (fun u t => qO D kz b0 sz u t) (qA b0)) args s 0 0 (qA b0) := ⟨_, rfl⟩
  rw [← hQ]
  unfold fX0_hasTwo at hf
  obtain ⟨hthis, hf⟩ := qIs_spec hf
  refine lv_aload_n hx hb dX0_hasTwo_0 rfl (lv_at hl 0 rfl) ?_
  refine lv_iload_n hx hb dX0_hasTwo_1 rfl (lv_at hl 1 rfl) ?_
  obtain ⟨v1, hc, hf⟩ := q_b hf
  refine q_calli (va_runV (As := [.int a1]) (rest := []) ⟨hx, hb, hml, hown, hT⟩ (mX0_has l D kz b0 sz F X a0 a1 v1 hc) (cwV 1 hT (q_gV wco_X0_has wml_X0_46 wim_X0_has wse_X0_has win_X0) rfl rfl rfl hdX0_has ⟨Nat.le_of_ble_eq_true rfl, Nat.le_of_ble_eq_true rfl⟩) (q_preV vqX0 (fX0_has_is hc) hR hK hz) rfl rfl hl.1 rfl (lv_room (Nat.le_of_ble_eq_true rfl)) dX0_hasTwo_2 ⟨Nat.le_of_ble_eq_true rfl, Nat.le_of_ble_eq_true rfl⟩) hS (fun H locs hR hS hz => ?_)
  obtain ⟨v2, hp, hf⟩ := q_b hf
  have hJ : ∀ (H : Heap) (locs : List Loc) (ls : Array Slot), qR D kz b0 X H → va_S (qA b0) s.heap H locs → H.size = sz → lv_has ls 3 [] → W p l e rmX0_hasTwo s m args below meth c H locs 0 0 Q (F0 m 26 ls [.int v2]) := by
    intro H locs ls hR hS hz hl
    subst hQ
    obtain ⟨z9, hz9, hf⟩ := q_b hf
    obtain ⟨rfl, h01⟩ := qz_spec hz9
    exact q_zret hx hb hr hlocks hR hS hz (Option.some.inj hf) h01 rfl dX0_hasTwo_26
  have hf := hp
  refine lv_if_eq (tgt := 25) hx hb dX0_hasTwo_5 (by decide) (fun hc => ?_) (fun hc => ?_)
  · have hf := q_t hf hc
    refine lv_iconst (v := (0 : Int32)) hx hb dX0_hasTwo_25 (by decide) ?_
    cases hf
    exact hJ _ _ _ hR hS hz (lv_sub hl [] rfl)
  · have hf := q_f hf hc
    refine lv_aload_n hx hb dX0_hasTwo_8 rfl (lv_at hl 0 rfl) ?_
    refine lv_iload_n hx hb dX0_hasTwo_9 rfl (lv_at hl 2 rfl) ?_
    obtain ⟨v3, hc, hf⟩ := q_b hf
    refine q_calli (va_runV (As := [.int a2]) (rest := []) ⟨hx, hb, hml, hown, hT⟩ (mX0_has l D kz b0 sz F X a0 a2 v3 hc) (cwV 1 hT (q_gV wco_X0_has wml_X0_46 wim_X0_has wse_X0_has win_X0) rfl rfl rfl hdX0_has ⟨Nat.le_of_ble_eq_true rfl, Nat.le_of_ble_eq_true rfl⟩) (q_preV vqX0 (fX0_has_is hc) hR hK hz) rfl rfl hl.1 rfl (lv_room (Nat.le_of_ble_eq_true rfl)) dX0_hasTwo_10 ⟨Nat.le_of_ble_eq_true rfl, Nat.le_of_ble_eq_true rfl⟩) hS (fun H locs hR hS hz => ?_)
    refine lv_if_eq (tgt := 25) hx hb dX0_hasTwo_13 (by decide) (fun hc => ?_) (fun hc => ?_)
    · have hf := q_t hf hc
      refine lv_iconst (v := (0 : Int32)) hx hb dX0_hasTwo_25 (by decide) ?_
      cases hf
      exact hJ _ _ _ hR hS hz (lv_sub hl [] rfl)
    · have hf := q_f hf hc
      refine lv_iload_n hx hb dX0_hasTwo_16 rfl (lv_at hl 1 rfl) ?_
      refine lv_iload_n hx hb dX0_hasTwo_17 rfl (lv_at hl 2 rfl) ?_
      refine lv_icmp_eq (tgt := 25) hx hb dX0_hasTwo_18 (by decide) (fun hc => ?_) (fun hc => ?_)
      · have hf := q_t hf hc
        refine lv_iconst (v := (0 : Int32)) hx hb dX0_hasTwo_25 (by decide) ?_
        cases hf
        exact hJ _ _ _ hR hS hz (lv_sub hl [] rfl)
      · have hf := q_f hf hc
        refine lv_iconst (v := (1 : Int32)) hx hb dX0_hasTwo_21 (by decide) ?_
        refine lv_goto (tgt := 26) hx hb dX0_hasTwo_22 (by decide) ?_
        cases hf
        exact hJ _ _ _ hR hS hz (lv_sub hl [] rfl)
/-! X0_hasAll -/
def fX0_hasAll (F : Nat) (X : qH) (a0 : Nat) (a1 : Int32) : Option (Int32) :=
qIs 0 X a0 <|
(if a1 < (0 : Int32) then (some (0 : Int32))
else ((qgI X 0 a0 5).bind fun v2 =>
if ((1 : Int32) <<< (v2 &&& 31)) ≤ a1 then (some (0 : Int32))
else (some (1 : Int32))) : Option Int32).bind fun v1 =>
(qz v1).bind fun z =>
some z
abbrev rmX0_hasAll : Room := { frames := 0, cells := 0, slots := 0, locals := 0 }
theorem fX0_hasAll_is {F : Nat} {X : qH} {a0 : Nat} {a1 : Int32} {r9 : Int32} (h : fX0_hasAll F X a0 a1 = some r9) : ∃ fs, X a0 = some (.inr (0, fs)) := (qIs_spec h).1
theorem hdX0_hasAll : yX0_hasAll.cls = RX0 ∧ yX0_hasAll.cls ≠ "java/lang/invoke/MethodHandle" ∧ yX0_hasAll.cls ≠ "java/lang/invoke/VarHandle" ∧ (parseMethodDescriptor yX0_hasAll.desc).map (fun d => d.parameters.length) = some 1 := by decide +kernel
set_option maxHeartbeats 4000000 in
set_option maxRecDepth 100000 in
theorem mX0_hasAll (l : Launch) (D : va_G) (kz : Nat → Nat) (b0 sz F : Nat) (X : qH) (a0 : Nat) (a1 : Int32) (r : Int32) (hf : fX0_hasAll F X a0 a1 = some r) : Met l yX0_hasAll (qws yX0_hasAll cX0_hasAll 2 (some .boolean)) rmX0_hasAll (va_Pc [.ref a0, .int a1] (qU D kz b0 sz X)) (va_Qi (fun (r' : Int32) (u : qH) => r' = r ∧ u = X) (fun u t => qO D kz b0 sz u t) (qA b0)) 0 0 (qA b0) := by
  refine q_start (by decide) (Nat.le_of_ble_eq_true rfl) ?_
  intro p e s m args below meth c hx hb hr hlocks hnm hml hown hT hR hK hz ls hl
  have hown : s.vm.findClass RX0 = some m.cls := hown
  have hl : lv_has ls 2 [(0, .ref a0), (1, .int a1)] := hl
  have hS : va_S (qA b0) s.heap s.heap [] := va_S.rf
  obtain ⟨Q, hQ⟩ : ∃ Q, Q = MQ below (va_Qi (fun (r' : Int32) (u : qH) => r' = r ∧ u = X) (fun u t => qO D kz b0 sz u t) (qA b0)) args s 0 0 (qA b0) := ⟨_, rfl⟩
  rw [← hQ]
  unfold fX0_hasAll at hf
  obtain ⟨hthis, hf⟩ := qIs_spec hf
  refine lv_iload_n hx hb dX0_hasAll_0 rfl (lv_at hl 1 rfl) ?_
  obtain ⟨v1, hp, hf⟩ := q_b hf
  have hJ : ∀ (H : Heap) (locs : List Loc) (ls : Array Slot), qR D kz b0 X H → va_S (qA b0) s.heap H locs → H.size = sz → lv_has ls 2 [] → W p l e rmX0_hasAll s m args below meth c H locs 0 0 Q (F0 m 19 ls [.int v1]) := by
    intro H locs ls hR hS hz hl
    subst hQ
    obtain ⟨z9, hz9, hf⟩ := q_b hf
    obtain ⟨rfl, h01⟩ := qz_spec hz9
    exact q_zret hx hb hr hlocks hR hS hz (Option.some.inj hf) h01 rfl dX0_hasAll_19
  have hf := hp
  refine lv_if_lt (tgt := 18) hx hb dX0_hasAll_1 (by decide) (fun hc => ?_) (fun hc => ?_)
  · have hf := q_t hf hc
    refine lv_iconst (v := (0 : Int32)) hx hb dX0_hasAll_18 (by decide) ?_
    cases hf
    exact hJ _ _ _ hR hS hz (lv_sub hl [] rfl)
  · have hf := q_f hf hc
    refine lv_iload_n hx hb dX0_hasAll_4 rfl (lv_at hl 1 rfl) ?_
    refine lv_iconst (v := (1 : Int32)) hx hb dX0_hasAll_5 (by decide) ?_
    refine lv_aload_n hx hb dX0_hasAll_6 rfl (lv_at hl 0 rfl) ?_
    refine q_gI hx hb hT hown hK hR iqX0 vqX0 5 (by decide) (hT _ wfl_X0_43) hf dX0_hasAll_7 (fun v2 hf => ?_)
    refine lv_ishl hx hb dX0_hasAll_10 ?_
    refine lv_icmp_ge (tgt := 18) hx hb dX0_hasAll_11 (by decide) (fun hc => ?_) (fun hc => ?_)
    · have hf := q_t hf hc
      refine lv_iconst (v := (0 : Int32)) hx hb dX0_hasAll_18 (by decide) ?_
      cases hf
      exact hJ _ _ _ hR hS hz (lv_sub hl [] rfl)
    · have hf := q_f hf hc
      refine lv_iconst (v := (1 : Int32)) hx hb dX0_hasAll_14 (by decide) ?_
      refine lv_goto (tgt := 19) hx hb dX0_hasAll_15 (by decide) ?_
      cases hf
      exact hJ _ _ _ hR hS hz (lv_sub hl [] rfl)
/-! X0_apart -/
def fX0_apart (F : Nat) (X : qH) (a0 : Nat) (a1 : Int32) (a2 : Int32) : Option (Int32) :=
qIs 0 X a0 <|
(qgR X 0 a0 6).bind fun v1 =>
(qaI X 0 v1 a1).bind fun v2 =>
(qgR X 0 a0 6).bind fun v3 =>
(qaI X 0 v3 a2).bind fun v4 =>
qlt (if 0 ≤ (v2 - v4) then (v2 - v4) else 0 - (v2 - v4)) fun v5 =>
some v5
abbrev rmX0_apart : Room := { frames := 1, cells := 0, slots := 0, locals := 21 }
theorem fX0_apart_is {F : Nat} {X : qH} {a0 : Nat} {a1 : Int32} {a2 : Int32} {r9 : Int32} (h : fX0_apart F X a0 a1 a2 = some r9) : ∃ fs, X a0 = some (.inr (0, fs)) := (qIs_spec h).1
theorem hdX0_apart : yX0_apart.cls = RX0 ∧ yX0_apart.cls ≠ "java/lang/invoke/MethodHandle" ∧ yX0_apart.cls ≠ "java/lang/invoke/VarHandle" ∧ (parseMethodDescriptor yX0_apart.desc).map (fun d => d.parameters.length) = some 2 := by decide +kernel
set_option maxHeartbeats 4000000 in
set_option maxRecDepth 100000 in
theorem mX0_apart (l : Launch) (D : va_G) (kz : Nat → Nat) (b0 sz F : Nat) (X : qH) (a0 : Nat) (a1 : Int32) (a2 : Int32) (r : Int32) (hf : fX0_apart F X a0 a1 a2 = some r) : Met l yX0_apart (qws yX0_apart cX0_apart 3 (some .int)) rmX0_apart (va_Pc [.ref a0, .int a1, .int a2] (qU D kz b0 sz X)) (va_Qi (fun (r' : Int32) (u : qH) => r' = r ∧ u = X) (fun u t => qO D kz b0 sz u t) (qA b0)) 0 0 (qA b0) := by
  refine q_start (by decide) (Nat.le_of_ble_eq_true rfl) ?_
  intro p e s m args below meth c hx hb hr hlocks hnm hml hown hT hR hK hz ls hl
  have hown : s.vm.findClass RX0 = some m.cls := hown
  have hl : lv_has ls 3 [(0, .ref a0), (1, .int a1), (2, .int a2)] := hl
  have hS : va_S (qA b0) s.heap s.heap [] := va_S.rf
  obtain ⟨Q, hQ⟩ : ∃ Q, Q = MQ below (va_Qi (fun (r' : Int32) (u : qH) => r' = r ∧ u = X) (fun u t => qO D kz b0 sz u t) (qA b0)) args s 0 0 (qA b0) := ⟨_, rfl⟩
  rw [← hQ]
  unfold fX0_apart at hf
  obtain ⟨hthis, hf⟩ := qIs_spec hf
  refine lv_aload_n hx hb dX0_apart_0 rfl (lv_at hl 0 rfl) ?_
  refine q_gR hx hb hT hown hK hR iqX0 vqX0 6 (by decide) (hT _ wfl_X0_9) hf dX0_apart_1 (fun v1 hf => ?_)
  refine lv_iload_n hx hb dX0_apart_4 rfl (lv_at hl 1 rfl) ?_
  refine q_iald hx hb hK hR hf dX0_apart_5 (fun v2 hf => ?_)
  refine lv_aload_n hx hb dX0_apart_6 rfl (lv_at hl 0 rfl) ?_
  refine q_gR hx hb hT hown hK hR iqX0 vqX0 6 (by decide) (hT _ wfl_X0_9) hf dX0_apart_7 (fun v3 hf => ?_)
  refine lv_iload_n hx hb dX0_apart_10 rfl (lv_at hl 2 rfl) ?_
  refine q_iald hx hb hK hR hf dX0_apart_11 (fun v4 hf => ?_)
  refine lv_isub hx hb dX0_apart_12 ?_
  refine va_mabs hx hb (hml.trans hl.1.symm) hown (hT _ wml_X0_50) (hT _ wst_Mabs) (hT _ win_Math) (hT _ wco_Mabs) (Nat.le_of_ble_eq_true rfl) (Nat.le_of_ble_eq_true rfl) (Nat.le_of_ble_eq_true rfl) (Nat.le_of_ble_eq_true rfl) dX0_apart_13 ?_
  refine lv_topi (fun v5 ev5 => ?_)
  have hf := q_lt ev5 hf
  subst hQ
  exact q_iret hx hb hr hlocks hR hS hz (Option.some.inj hf) rfl dX0_apart_16
/-! X0_houseOn -/
def fX0_houseOn_L2_B (F : Nat) (X : qH) (a0 : Nat) (a1 : Int32) (self0 : Int32 → Option ((Int32) ⊕ (Unit))) (v1 : Int32) : Option ((Int32) ⊕ (Unit)) :=
(qgI X 0 a0 5).bind fun v2 =>
if v2 ≤ v1 then (some (.inr ()))
else ((qgR X 0 a0 6).bind fun v3 =>
(qaI X 0 v3 v1).bind fun v4 =>
if v4 = a1 then (some (.inl v1))
else (qlt (v1 + (1 : Int32)) fun v5 =>
self0 v5))
def fX0_houseOn_L2 (F : Nat) (X : qH) (a0 : Nat) (a1 : Int32) : Nat → Int32 → Option ((Int32) ⊕ (Unit))
  | 0, _ => none
  | n + 1, v1 => fX0_houseOn_L2_B F X a0 a1 (fX0_houseOn_L2 F X a0 a1 n) v1
def fX0_houseOn (F : Nat) (X : qH) (a0 : Nat) (a1 : Int32) : Option (Int32) :=
qIs 0 X a0 <|
(fX0_houseOn_L2 F X a0 a1 F (0 : Int32)).bind fun o6 => qsm0 o6 (fun z => some z) <|
some (-1 : Int32)
abbrev rmX0_houseOn : Room := { frames := 0, cells := 0, slots := 0, locals := 0 }
theorem fX0_houseOn_is {F : Nat} {X : qH} {a0 : Nat} {a1 : Int32} {r9 : Int32} (h : fX0_houseOn F X a0 a1 = some r9) : ∃ fs, X a0 = some (.inr (0, fs)) := (qIs_spec h).1
theorem hdX0_houseOn : yX0_houseOn.cls = RX0 ∧ yX0_houseOn.cls ≠ "java/lang/invoke/MethodHandle" ∧ yX0_houseOn.cls ≠ "java/lang/invoke/VarHandle" ∧ (parseMethodDescriptor yX0_houseOn.desc).map (fun d => d.parameters.length) = some 1 := by decide +kernel
set_option maxHeartbeats 4000000 in
set_option maxRecDepth 100000 in
theorem mX0_houseOn (l : Launch) (D : va_G) (kz : Nat → Nat) (b0 sz F : Nat) (X : qH) (a0 : Nat) (a1 : Int32) (r : Int32) (hf : fX0_houseOn F X a0 a1 = some r) : Met l yX0_houseOn (qws yX0_houseOn cX0_houseOn 3 (some .int)) rmX0_houseOn (va_Pc [.ref a0, .int a1] (qU D kz b0 sz X)) (va_Qi (fun (r' : Int32) (u : qH) => r' = r ∧ u = X) (fun u t => qO D kz b0 sz u t) (qA b0)) 0 0 (qA b0) := by
  refine q_start (by decide) (Nat.le_of_ble_eq_true rfl) ?_
  intro p e s m args below meth c hx hb hr hlocks hnm hml hown hT hR hK hz ls hl
  have hown : s.vm.findClass RX0 = some m.cls := hown
  have hl : lv_has ls 3 [(0, .ref a0), (1, .int a1)] := hl
  have hS : va_S (qA b0) s.heap s.heap [] := va_S.rf
  obtain ⟨Q, hQ⟩ : ∃ Q, Q = MQ below (va_Qi (fun (r' : Int32) (u : qH) => r' = r ∧ u = X) (fun u t => qO D kz b0 sz u t) (qA b0)) args s 0 0 (qA b0) := ⟨_, rfl⟩
  rw [← hQ]
  unfold fX0_houseOn at hf
  obtain ⟨hthis, hf⟩ := qIs_spec hf
  refine lv_iconst (v := (0 : Int32)) hx hb dX0_houseOn_0 (by decide) ?_
  refine lv_istore_n (lv' := [(2, .int (0 : Int32)), (0, .ref a0), (1, .int a1)]) hx hb dX0_houseOn_1 rfl hl (by decide) rfl (fun ls hl => ?_)
  obtain ⟨o6, ho, hf⟩ := q_b hf
  have hL : ∀ (n : Nat) (v1 : Int32) (out : (Int32) ⊕ (Unit)), fX0_houseOn_L2 F X a0 a1 n v1 = some out → (∀ z, out = .inl z → z = r) → (out = .inr () → ∀ (H : Heap) (locs : List Loc) (ls : Array Slot), qR D kz b0 X H → va_S (qA b0) s.heap H locs → H.size = sz → lv_has ls 3 [] → W p l e rmX0_houseOn s m args below meth c H locs 0 0 Q (F0 m 28 ls [])) → ∀ (H : Heap) (locs : List Loc) (ls : Array Slot), qR D kz b0 X H → va_S (qA b0) s.heap H locs → H.size = sz → lv_has ls 3 [(0, .ref a0), (1, .int a1), (2, .int v1)] → W p l e rmX0_houseOn s m args below meth c H locs 0 0 Q (F0 m 2 ls []) := by
    intro n9
    induction n9 with
    | zero =>
      intro v1 out hf
      exact absurd (show none = some out from hf) (by simp)
    | succ n9 ih0 =>
      intro v1 out hf hret hex H locs ls hR hS hz hl
      have hf : fX0_houseOn_L2_B F X a0 a1 (fX0_houseOn_L2 F X a0 a1 n9) v1 = some out := hf
      unfold fX0_houseOn_L2_B at hf
      refine lv_iload_n hx hb dX0_houseOn_2 rfl (lv_at hl 2 rfl) ?_
      refine lv_aload_n hx hb dX0_houseOn_3 rfl (lv_at hl 0 rfl) ?_
      refine q_gI hx hb hT hown hK hR iqX0 vqX0 5 (by decide) (hT _ wfl_X0_43) hf dX0_houseOn_4 (fun v2 hf => ?_)
      refine lv_icmp_ge (tgt := 28) hx hb dX0_houseOn_7 (by decide) (fun hc => ?_) (fun hc => ?_)
      · have hf := q_t hf hc
        exact hex  (Option.some.inj hf).symm _ _ _ hR hS hz (lv_sub hl [] rfl)
      · have hf := q_f hf hc
        refine lv_aload_n hx hb dX0_houseOn_10 rfl (lv_at hl 0 rfl) ?_
        refine q_gR hx hb hT hown hK hR iqX0 vqX0 6 (by decide) (hT _ wfl_X0_9) hf dX0_houseOn_11 (fun v3 hf => ?_)
        refine lv_iload_n hx hb dX0_houseOn_14 rfl (lv_at hl 2 rfl) ?_
        refine q_iald hx hb hK hR hf dX0_houseOn_15 (fun v4 hf => ?_)
        refine lv_iload_n hx hb dX0_houseOn_16 rfl (lv_at hl 1 rfl) ?_
        refine lv_icmp_ne (tgt := 22) hx hb dX0_houseOn_17 (by decide) (fun hc => ?_) (fun hc => ?_)
        · have hf := q_f hf hc
          obtain ⟨v5, ev5⟩ : ∃ y : Int32, y = (v1 + (1 : Int32)) := ⟨_, rfl⟩
          have hf := q_lt ev5 hf
          refine lv_iinc (v := v5) (lv' := [(2, .int v5), (0, .ref a0), (1, .int a1)]) hx hb dX0_houseOn_22 hl (k := 2) rfl (by rw [ev5]; rfl) (by decide) rfl (fun ls hl => ?_)
          refine lv_goto (tgt := 2) hx hb dX0_houseOn_25 (by decide) ?_
          exact ih0 _ out hf hret hex _ _ _ hR hS hz (lv_sub hl [1, 2, 0] rfl)
        · have hf := q_t hf hc
          refine lv_iload_n hx hb dX0_houseOn_20 rfl (lv_at hl 2 rfl) ?_
          subst hQ
          exact q_iret hx hb hr hlocks hR hS hz (hret _ (Option.some.inj hf).symm) rfl dX0_houseOn_21
  refine hL F _ o6 ho (fun z hz9 => by subst hz9; exact Option.some.inj hf) (fun  h9 => ?_) _ _ _ hR hS hz (lv_sub hl [1, 2, 0] rfl)
  subst h9
  intro H locs ls hR hS hz hl
  have hf := qsm0_r hf
  refine lv_iconst (v := (-1 : Int32)) hx hb dX0_houseOn_28 (by decide) ?_
  subst hQ
  exact q_iret hx hb hr hlocks hR hS hz (Option.some.inj hf) rfl dX0_houseOn_29
/-! X0_houseOfStars -/
def fX0_houseOfStars_L2_B (F : Nat) (X : qH) (a0 : Nat) (a1 : Int32) (self0 : Int32 → Option ((Int32) ⊕ (Unit))) (v1 : Int32) : Option ((Int32) ⊕ (Unit)) :=
(qgI X 0 a0 5).bind fun v2 =>
if v2 ≤ v1 then (some (.inr ()))
else ((qgR X 0 a0 9).bind fun v3 =>
(qaI X 0 v3 v1).bind fun v4 =>
if v4 = a1 then (some (.inl v1))
else (qlt (v1 + (1 : Int32)) fun v5 =>
self0 v5))
def fX0_houseOfStars_L2 (F : Nat) (X : qH) (a0 : Nat) (a1 : Int32) : Nat → Int32 → Option ((Int32) ⊕ (Unit))
  | 0, _ => none
  | n + 1, v1 => fX0_houseOfStars_L2_B F X a0 a1 (fX0_houseOfStars_L2 F X a0 a1 n) v1
def fX0_houseOfStars (F : Nat) (X : qH) (a0 : Nat) (a1 : Int32) : Option (Int32) :=
qIs 0 X a0 <|
(fX0_houseOfStars_L2 F X a0 a1 F (0 : Int32)).bind fun o6 => qsm0 o6 (fun z => some z) <|
some (-1 : Int32)
abbrev rmX0_houseOfStars : Room := { frames := 0, cells := 0, slots := 0, locals := 0 }
theorem fX0_houseOfStars_is {F : Nat} {X : qH} {a0 : Nat} {a1 : Int32} {r9 : Int32} (h : fX0_houseOfStars F X a0 a1 = some r9) : ∃ fs, X a0 = some (.inr (0, fs)) := (qIs_spec h).1
theorem hdX0_houseOfStars : yX0_houseOfStars.cls = RX0 ∧ yX0_houseOfStars.cls ≠ "java/lang/invoke/MethodHandle" ∧ yX0_houseOfStars.cls ≠ "java/lang/invoke/VarHandle" ∧ (parseMethodDescriptor yX0_houseOfStars.desc).map (fun d => d.parameters.length) = some 1 := by decide +kernel
set_option maxHeartbeats 4000000 in
set_option maxRecDepth 100000 in
theorem mX0_houseOfStars (l : Launch) (D : va_G) (kz : Nat → Nat) (b0 sz F : Nat) (X : qH) (a0 : Nat) (a1 : Int32) (r : Int32) (hf : fX0_houseOfStars F X a0 a1 = some r) : Met l yX0_houseOfStars (qws yX0_houseOfStars cX0_houseOfStars 3 (some .int)) rmX0_houseOfStars (va_Pc [.ref a0, .int a1] (qU D kz b0 sz X)) (va_Qi (fun (r' : Int32) (u : qH) => r' = r ∧ u = X) (fun u t => qO D kz b0 sz u t) (qA b0)) 0 0 (qA b0) := by
  refine q_start (by decide) (Nat.le_of_ble_eq_true rfl) ?_
  intro p e s m args below meth c hx hb hr hlocks hnm hml hown hT hR hK hz ls hl
  have hown : s.vm.findClass RX0 = some m.cls := hown
  have hl : lv_has ls 3 [(0, .ref a0), (1, .int a1)] := hl
  have hS : va_S (qA b0) s.heap s.heap [] := va_S.rf
  obtain ⟨Q, hQ⟩ : ∃ Q, Q = MQ below (va_Qi (fun (r' : Int32) (u : qH) => r' = r ∧ u = X) (fun u t => qO D kz b0 sz u t) (qA b0)) args s 0 0 (qA b0) := ⟨_, rfl⟩
  rw [← hQ]
  unfold fX0_houseOfStars at hf
  obtain ⟨hthis, hf⟩ := qIs_spec hf
  refine lv_iconst (v := (0 : Int32)) hx hb dX0_houseOfStars_0 (by decide) ?_
  refine lv_istore_n (lv' := [(2, .int (0 : Int32)), (0, .ref a0), (1, .int a1)]) hx hb dX0_houseOfStars_1 rfl hl (by decide) rfl (fun ls hl => ?_)
  obtain ⟨o6, ho, hf⟩ := q_b hf
  have hL : ∀ (n : Nat) (v1 : Int32) (out : (Int32) ⊕ (Unit)), fX0_houseOfStars_L2 F X a0 a1 n v1 = some out → (∀ z, out = .inl z → z = r) → (out = .inr () → ∀ (H : Heap) (locs : List Loc) (ls : Array Slot), qR D kz b0 X H → va_S (qA b0) s.heap H locs → H.size = sz → lv_has ls 3 [] → W p l e rmX0_houseOfStars s m args below meth c H locs 0 0 Q (F0 m 28 ls [])) → ∀ (H : Heap) (locs : List Loc) (ls : Array Slot), qR D kz b0 X H → va_S (qA b0) s.heap H locs → H.size = sz → lv_has ls 3 [(0, .ref a0), (1, .int a1), (2, .int v1)] → W p l e rmX0_houseOfStars s m args below meth c H locs 0 0 Q (F0 m 2 ls []) := by
    intro n9
    induction n9 with
    | zero =>
      intro v1 out hf
      exact absurd (show none = some out from hf) (by simp)
    | succ n9 ih0 =>
      intro v1 out hf hret hex H locs ls hR hS hz hl
      have hf : fX0_houseOfStars_L2_B F X a0 a1 (fX0_houseOfStars_L2 F X a0 a1 n9) v1 = some out := hf
      unfold fX0_houseOfStars_L2_B at hf
      refine lv_iload_n hx hb dX0_houseOfStars_2 rfl (lv_at hl 2 rfl) ?_
      refine lv_aload_n hx hb dX0_houseOfStars_3 rfl (lv_at hl 0 rfl) ?_
      refine q_gI hx hb hT hown hK hR iqX0 vqX0 5 (by decide) (hT _ wfl_X0_43) hf dX0_houseOfStars_4 (fun v2 hf => ?_)
      refine lv_icmp_ge (tgt := 28) hx hb dX0_houseOfStars_7 (by decide) (fun hc => ?_) (fun hc => ?_)
      · have hf := q_t hf hc
        exact hex  (Option.some.inj hf).symm _ _ _ hR hS hz (lv_sub hl [] rfl)
      · have hf := q_f hf hc
        refine lv_aload_n hx hb dX0_houseOfStars_10 rfl (lv_at hl 0 rfl) ?_
        refine q_gR hx hb hT hown hK hR iqX0 vqX0 9 (by decide) (hT _ wfl_X0_21) hf dX0_houseOfStars_11 (fun v3 hf => ?_)
        refine lv_iload_n hx hb dX0_houseOfStars_14 rfl (lv_at hl 2 rfl) ?_
        refine q_iald hx hb hK hR hf dX0_houseOfStars_15 (fun v4 hf => ?_)
        refine lv_iload_n hx hb dX0_houseOfStars_16 rfl (lv_at hl 1 rfl) ?_
        refine lv_icmp_ne (tgt := 22) hx hb dX0_houseOfStars_17 (by decide) (fun hc => ?_) (fun hc => ?_)
        · have hf := q_f hf hc
          obtain ⟨v5, ev5⟩ : ∃ y : Int32, y = (v1 + (1 : Int32)) := ⟨_, rfl⟩
          have hf := q_lt ev5 hf
          refine lv_iinc (v := v5) (lv' := [(2, .int v5), (0, .ref a0), (1, .int a1)]) hx hb dX0_houseOfStars_22 hl (k := 2) rfl (by rw [ev5]; rfl) (by decide) rfl (fun ls hl => ?_)
          refine lv_goto (tgt := 2) hx hb dX0_houseOfStars_25 (by decide) ?_
          exact ih0 _ out hf hret hex _ _ _ hR hS hz (lv_sub hl [1, 2, 0] rfl)
        · have hf := q_t hf hc
          refine lv_iload_n hx hb dX0_houseOfStars_20 rfl (lv_at hl 2 rfl) ?_
          subst hQ
          exact q_iret hx hb hr hlocks hR hS hz (hret _ (Option.some.inj hf).symm) rfl dX0_houseOfStars_21
  refine hL F _ o6 ho (fun z hz9 => by subst hz9; exact Option.some.inj hf) (fun  h9 => ?_) _ _ _ hR hS hz (lv_sub hl [1, 2, 0] rfl)
  subst h9
  intro H locs ls hR hS hz hl
  have hf := qsm0_r hf
  refine lv_iconst (v := (-1 : Int32)) hx hb dX0_houseOfStars_28 (by decide) ?_
  subst hQ
  exact q_iret hx hb hr hlocks hR hS hz (Option.some.inj hf) rfl dX0_houseOfStars_29
/-! X8_greens -/
def fX8_greens_L4_B (F : Nat) (X : qH) (self0 : Int32 → Int32 → Option (Int32)) (v1 : Int32) (v2 : Int32) : Option (Int32) :=
if v2 ≤ (0 : Int32) then (some v1)
else ((if (v2 - v2 / (10 : Int32) * (10 : Int32)) = (3 : Int32) then (qlt (v1 + (1 : Int32)) fun v5 =>
some v5)
else (some v1) : Option Int32).bind fun v3 =>
qlt (v2 / (10 : Int32)) fun v4 =>
self0 v3 v4)
def fX8_greens_L4 (F : Nat) (X : qH) : Nat → Int32 → Int32 → Option (Int32)
  | 0, _, _ => none
  | n + 1, v1, v2 => fX8_greens_L4_B F X (fX8_greens_L4 F X n) v1 v2
def fX8_greens (F : Nat) (X : qH) (a0 : Int32) : Option (Int32) :=
(fX8_greens_L4 F X F (0 : Int32) a0).bind fun v6 =>
some v6
abbrev rmX8_greens : Room := { frames := 0, cells := 0, slots := 0, locals := 0 }
theorem hdX8_greens : yX8_greens.cls ≠ "java/lang/invoke/MethodHandle" ∧ yX8_greens.cls ≠ "java/lang/invoke/VarHandle" ∧ (parseMethodDescriptor yX8_greens.desc).map (fun d => d.parameters.length) = some 1 := by decide +kernel
set_option maxHeartbeats 4000000 in
set_option maxRecDepth 100000 in
theorem mX8_greens (l : Launch) (D : va_G) (kz : Nat → Nat) (b0 sz F : Nat) (X : qH) (a0 : Int32) (r : Int32) (hf : fX8_greens F X a0 = some r) : Met l yX8_greens (qws yX8_greens cX8_greens 3 (some .int)) rmX8_greens (va_Pc [.int a0] (qU D kz b0 sz X)) (va_Qi (fun (r' : Int32) (u : qH) => r' = r ∧ u = X) (fun u t => qO D kz b0 sz u t) (qA b0)) 0 0 (qA b0) := by
  refine q_start (by decide) (Nat.le_of_ble_eq_true rfl) ?_
  intro p e s m args below meth c hx hb hr hlocks hnm hml hown hT hR hK hz ls hl
  have hown : s.vm.findClass RX8 = some m.cls := hown
  have hl : lv_has ls 3 [(0, .int a0)] := hl
  have hS : va_S (qA b0) s.heap s.heap [] := va_S.rf
  obtain ⟨Q, hQ⟩ : ∃ Q, Q = MQ below (va_Qi (fun (r' : Int32) (u : qH) => r' = r ∧ u = X) (fun u t => qO D kz b0 sz u t) (qA b0)) args s 0 0 (qA b0) := ⟨_, rfl⟩
  rw [← hQ]
  unfold fX8_greens at hf
  refine lv_iconst (v := (0 : Int32)) hx hb dX8_greens_0 (by decide) ?_
  refine lv_istore_n (lv' := [(1, .int (0 : Int32)), (0, .int a0)]) hx hb dX8_greens_1 rfl hl (by decide) rfl (fun ls hl => ?_)
  refine lv_iload_n hx hb dX8_greens_2 rfl (lv_at hl 1 rfl) ?_
  refine lv_istore_n (lv' := [(2, .int a0), (1, .int (0 : Int32)), (0, .int a0)]) hx hb dX8_greens_3 rfl hl (by decide) rfl (fun ls hl => ?_)
  obtain ⟨v6, ho, hf⟩ := q_b hf
  have hL : ∀ (n : Nat) (v1 : Int32) (v2 : Int32) (out : Int32), fX8_greens_L4 F X n v1 v2 = some out → (∀ (v6 : Int32), out = v6 → ∀ (H : Heap) (locs : List Loc) (ls : Array Slot), qR D kz b0 X H → va_S (qA b0) s.heap H locs → H.size = sz → lv_has ls 3 [(1, .int v6)] → W p l e rmX8_greens s m args below meth c H locs 0 0 Q (F0 m 27 ls [])) → ∀ (H : Heap) (locs : List Loc) (ls : Array Slot), qR D kz b0 X H → va_S (qA b0) s.heap H locs → H.size = sz → lv_has ls 3 [(1, .int v1), (2, .int v2)] → W p l e rmX8_greens s m args below meth c H locs 0 0 Q (F0 m 4 ls []) := by
    intro n9
    induction n9 with
    | zero =>
      intro v1 v2 out hf
      exact absurd (show none = some out from hf) (by simp)
    | succ n9 ih0 =>
      intro v1 v2 out hf hex H locs ls hR hS hz hl
      have hf : fX8_greens_L4_B F X (fX8_greens_L4 F X n9) v1 v2 = some out := hf
      unfold fX8_greens_L4_B at hf
      refine lv_iload_n hx hb dX8_greens_4 rfl (lv_at hl 1 rfl) ?_
      refine lv_if_le (tgt := 27) hx hb dX8_greens_5 (by decide) (fun hc => ?_) (fun hc => ?_)
      · have hf := q_t hf hc
        exact hex _ (Option.some.inj hf).symm _ _ _ hR hS hz (lv_sub hl [0] rfl)
      · have hf := q_f hf hc
        refine lv_iload_n hx hb dX8_greens_8 rfl (lv_at hl 1 rfl) ?_
        refine lv_bipush (v := (10 : Int32)) hx hb dX8_greens_9 (by decide) ?_
        refine lv_irem hx hb dX8_greens_11 (by decide) ?_
        refine lv_iconst (v := (3 : Int32)) hx hb dX8_greens_12 (by decide) ?_
        obtain ⟨v3, hp, hf⟩ := q_b hf
        have hJ : ∀ (H : Heap) (locs : List Loc) (ls : Array Slot), qR D kz b0 X H → va_S (qA b0) s.heap H locs → H.size = sz → lv_has ls 3 [(1, .int v3), (2, .int v2)] → W p l e rmX8_greens s m args below meth c H locs 0 0 Q (F0 m 19 ls []) := by
          intro H locs ls hR hS hz hl
          refine lv_iload_n hx hb dX8_greens_19 rfl (lv_at hl 1 rfl) ?_
          refine lv_bipush (v := (10 : Int32)) hx hb dX8_greens_20 (by decide) ?_
          refine lv_idiv hx hb dX8_greens_22 (by decide) ?_
          refine lv_topi (fun v4 ev4 => ?_)
          have hf := q_lt ev4 hf
          refine lv_istore_n (lv' := [(2, .int v4), (1, .int v3)]) hx hb dX8_greens_23 rfl hl (by decide) rfl (fun ls hl => ?_)
          refine lv_goto (tgt := 4) hx hb dX8_greens_24 (by decide) ?_
          exact ih0 _ _ out hf hex _ _ _ hR hS hz (lv_sub hl [1, 0] rfl)
        have hf := hp
        refine lv_icmp_ne (tgt := 19) hx hb dX8_greens_13 (by decide) (fun hc => ?_) (fun hc => ?_)
        · have hf := q_f hf hc
          cases hf
          exact hJ _ _ _ hR hS hz (lv_sub hl [0, 1] rfl)
        · have hf := q_t hf hc
          obtain ⟨v5, ev5⟩ : ∃ y : Int32, y = (v1 + (1 : Int32)) := ⟨_, rfl⟩
          have hf := q_lt ev5 hf
          refine lv_iinc (v := v5) (lv' := [(1, .int v5), (2, .int v2)]) hx hb dX8_greens_16 hl (k := 0) rfl (by rw [ev5]; rfl) (by decide) rfl (fun ls hl => ?_)
          cases hf
          exact hJ _ _ _ hR hS hz (lv_sub hl [0, 1] rfl)
  refine hL F _ _ _ ho (fun z0 h9 => ?_) _ _ _ hR hS hz (lv_sub hl [1, 0] rfl)
  cases h9
  intro H locs ls hR hS hz hl
  refine lv_iload_n hx hb dX8_greens_27 rfl (lv_at hl 0 rfl) ?_
  subst hQ
  exact q_iret hx hb hr hlocks hR hS hz (Option.some.inj hf) rfl dX8_greens_28
/-! X0_anyGreen -/
def fX0_anyGreen (F : Nat) (X : qH) (a0 : Nat) (a1 : Int32) (a2 : Int32) : Option (Int32) :=
qIs 0 X a0 <|
(qgR X 0 a0 9).bind fun v1 =>
(qaI X 0 v1 a1).bind fun v2 =>
(fX8_greens F X v2).bind fun v3 =>
(qgR X 0 a0 9).bind fun v4 =>
(qaI X 0 v4 a2).bind fun v5 =>
(fX8_greens F X v5).bind fun v6 =>
(if (v3 + v6) ≤ (0 : Int32) then (some (0 : Int32))
else (some (1 : Int32)) : Option Int32).bind fun v7 =>
(qz v7).bind fun z =>
some z
abbrev rmX0_anyGreen : Room := { frames := 1, cells := 0, slots := 0, locals := 22 }
theorem fX0_anyGreen_is {F : Nat} {X : qH} {a0 : Nat} {a1 : Int32} {a2 : Int32} {r9 : Int32} (h : fX0_anyGreen F X a0 a1 a2 = some r9) : ∃ fs, X a0 = some (.inr (0, fs)) := (qIs_spec h).1
theorem hdX0_anyGreen : yX0_anyGreen.cls = RX0 ∧ yX0_anyGreen.cls ≠ "java/lang/invoke/MethodHandle" ∧ yX0_anyGreen.cls ≠ "java/lang/invoke/VarHandle" ∧ (parseMethodDescriptor yX0_anyGreen.desc).map (fun d => d.parameters.length) = some 2 := by decide +kernel
set_option maxHeartbeats 4000000 in
set_option maxRecDepth 100000 in
theorem mX0_anyGreen (l : Launch) (D : va_G) (kz : Nat → Nat) (b0 sz F : Nat) (X : qH) (a0 : Nat) (a1 : Int32) (a2 : Int32) (r : Int32) (hf : fX0_anyGreen F X a0 a1 a2 = some r) : Met l yX0_anyGreen (qws yX0_anyGreen cX0_anyGreen 3 (some .boolean)) rmX0_anyGreen (va_Pc [.ref a0, .int a1, .int a2] (qU D kz b0 sz X)) (va_Qi (fun (r' : Int32) (u : qH) => r' = r ∧ u = X) (fun u t => qO D kz b0 sz u t) (qA b0)) 0 0 (qA b0) := by
  refine q_start (by decide) (Nat.le_of_ble_eq_true rfl) ?_
  intro p e s m args below meth c hx hb hr hlocks hnm hml hown hT hR hK hz ls hl
  have hown : s.vm.findClass RX0 = some m.cls := hown
  have hl : lv_has ls 3 [(0, .ref a0), (1, .int a1), (2, .int a2)] := hl
  have hS : va_S (qA b0) s.heap s.heap [] := va_S.rf
  obtain ⟨Q, hQ⟩ : ∃ Q, Q = MQ below (va_Qi (fun (r' : Int32) (u : qH) => r' = r ∧ u = X) (fun u t => qO D kz b0 sz u t) (qA b0)) args s 0 0 (qA b0) := ⟨_, rfl⟩
  rw [← hQ]
  unfold fX0_anyGreen at hf
  obtain ⟨hthis, hf⟩ := qIs_spec hf
  refine lv_aload_n hx hb dX0_anyGreen_0 rfl (lv_at hl 0 rfl) ?_
  refine q_gR hx hb hT hown hK hR iqX0 vqX0 9 (by decide) (hT _ wfl_X0_21) hf dX0_anyGreen_1 (fun v1 hf => ?_)
  refine lv_iload_n hx hb dX0_anyGreen_4 rfl (lv_at hl 1 rfl) ?_
  refine q_iald hx hb hK hR hf dX0_anyGreen_5 (fun v2 hf => ?_)
  obtain ⟨v3, hc, hf⟩ := q_b hf
  refine q_calli (va_runS (As := [.int v2]) (rest := []) ⟨hx, hb, hml, hown, hT⟩ (mX8_greens l D kz b0 sz F X v2 v3 hc) (va_cwS 1 hT (q_gS wco_X8_greens wml_X0_56 wst_X8_greens win_X8) rfl rfl rfl hdX8_greens ⟨Nat.le_of_ble_eq_true rfl, Nat.le_of_ble_eq_true rfl⟩) (q_preS hR hK hz) rfl rfl hl.1 rfl (lv_room (Nat.le_of_ble_eq_true rfl)) dX0_anyGreen_6 ⟨Nat.le_of_ble_eq_true rfl, Nat.le_of_ble_eq_true rfl⟩) hS (fun H locs hR hS hz => ?_)
  refine lv_aload_n hx hb dX0_anyGreen_9 rfl (lv_at hl 0 rfl) ?_
  refine q_gR hx hb hT hown hK hR iqX0 vqX0 9 (by decide) (hT _ wfl_X0_21) hf dX0_anyGreen_10 (fun v4 hf => ?_)
  refine lv_iload_n hx hb dX0_anyGreen_13 rfl (lv_at hl 2 rfl) ?_
  refine q_iald hx hb hK hR hf dX0_anyGreen_14 (fun v5 hf => ?_)
  obtain ⟨v6, hc, hf⟩ := q_b hf
  refine q_calli (va_runS (As := [.int v5]) (rest := [.int v3]) ⟨hx, hb, hml, hown, hT⟩ (mX8_greens l D kz b0 sz F X v5 v6 hc) (va_cwS 1 hT (q_gS wco_X8_greens wml_X0_56 wst_X8_greens win_X8) rfl rfl rfl hdX8_greens ⟨Nat.le_of_ble_eq_true rfl, Nat.le_of_ble_eq_true rfl⟩) (q_preS hR hK hz) rfl rfl hl.1 rfl (lv_room (Nat.le_of_ble_eq_true rfl)) dX0_anyGreen_15 ⟨Nat.le_of_ble_eq_true rfl, Nat.le_of_ble_eq_true rfl⟩) hS (fun H locs hR hS hz => ?_)
  refine lv_iadd hx hb dX0_anyGreen_18 ?_
  obtain ⟨v7, hp, hf⟩ := q_b hf
  have hJ : ∀ (H : Heap) (locs : List Loc) (ls : Array Slot), qR D kz b0 X H → va_S (qA b0) s.heap H locs → H.size = sz → lv_has ls 3 [] → W p l e rmX0_anyGreen s m args below meth c H locs 0 0 Q (F0 m 27 ls [.int v7]) := by
    intro H locs ls hR hS hz hl
    subst hQ
    obtain ⟨z9, hz9, hf⟩ := q_b hf
    obtain ⟨rfl, h01⟩ := qz_spec hz9
    exact q_zret hx hb hr hlocks hR hS hz (Option.some.inj hf) h01 rfl dX0_anyGreen_27
  have hf := hp
  refine lv_if_le (tgt := 26) hx hb dX0_anyGreen_19 (by decide) (fun hc => ?_) (fun hc => ?_)
  · have hf := q_t hf hc
    refine lv_iconst (v := (0 : Int32)) hx hb dX0_anyGreen_26 (by decide) ?_
    cases hf
    exact hJ _ _ _ hR hS hz (lv_sub hl [] rfl)
  · have hf := q_f hf hc
    refine lv_iconst (v := (1 : Int32)) hx hb dX0_anyGreen_22 (by decide) ?_
    refine lv_goto (tgt := 27) hx hb dX0_anyGreen_23 (by decide) ?_
    cases hf
    exact hJ _ _ _ hR hS hz (lv_sub hl [] rfl)
/-! X0_readAs -/
def fX0_readAs_L16_B (F : Nat) (X : qH) (a0 : Nat) (a1 : Int32) (self0 : Int32 → Int32 → Option (Int32)) (v3 : Int32) (v4 : Int32) : Option (Int32) :=
(qgI X 0 a0 5).bind fun v5 =>
if v5 ≤ v4 then (some v3)
else ((qgR X 0 a0 6).bind fun v6 =>
(qaI X 0 v6 v4).bind fun v7 =>
(qgR X 0 a0 6).bind fun v8 =>
(qaI X 0 v8 a1).bind fun v9 =>
(if v7 ≤ v9 then (some v3)
else (if v3 = a1 then (some v4)
else ((qgR X 0 a0 6).bind fun v12 =>
(qaI X 0 v12 v4).bind fun v13 =>
(qgR X 0 a0 6).bind fun v14 =>
(qaI X 0 v14 v3).bind fun v15 =>
if v15 ≤ v13 then (some v3)
else (some v4))) : Option Int32).bind fun v10 =>
qlt (v4 + (1 : Int32)) fun v11 =>
self0 v10 v11)
def fX0_readAs_L16 (F : Nat) (X : qH) (a0 : Nat) (a1 : Int32) : Nat → Int32 → Int32 → Option (Int32)
  | 0, _, _ => none
  | n + 1, v3, v4 => fX0_readAs_L16_B F X a0 a1 (fX0_readAs_L16 F X a0 a1 n) v3 v4
def fX0_readAs (F : Nat) (X : qH) (a0 : Nat) (a1 : Int32) : Option (Int32) :=
qIs 0 X a0 <|
(qgR X 0 a0 7).bind fun v1 =>
(qaI X 0 v1 a1).bind fun v2 =>
if v2 ≤ (2 : Int32) then ((fX0_readAs_L16 F X a0 a1 F a1 (0 : Int32)).bind fun v16 =>
some v16)
else (some a1)
abbrev rmX0_readAs : Room := { frames := 0, cells := 0, slots := 0, locals := 0 }
theorem fX0_readAs_is {F : Nat} {X : qH} {a0 : Nat} {a1 : Int32} {r9 : Int32} (h : fX0_readAs F X a0 a1 = some r9) : ∃ fs, X a0 = some (.inr (0, fs)) := (qIs_spec h).1
theorem hdX0_readAs : yX0_readAs.cls = RX0 ∧ yX0_readAs.cls ≠ "java/lang/invoke/MethodHandle" ∧ yX0_readAs.cls ≠ "java/lang/invoke/VarHandle" ∧ (parseMethodDescriptor yX0_readAs.desc).map (fun d => d.parameters.length) = some 1 := by decide +kernel
set_option maxHeartbeats 4000000 in
set_option maxRecDepth 100000 in
theorem mX0_readAs (l : Launch) (D : va_G) (kz : Nat → Nat) (b0 sz F : Nat) (X : qH) (a0 : Nat) (a1 : Int32) (r : Int32) (hf : fX0_readAs F X a0 a1 = some r) : Met l yX0_readAs (qws yX0_readAs cX0_readAs 4 (some .int)) rmX0_readAs (va_Pc [.ref a0, .int a1] (qU D kz b0 sz X)) (va_Qi (fun (r' : Int32) (u : qH) => r' = r ∧ u = X) (fun u t => qO D kz b0 sz u t) (qA b0)) 0 0 (qA b0) := by
  refine q_start (by decide) (Nat.le_of_ble_eq_true rfl) ?_
  intro p e s m args below meth c hx hb hr hlocks hnm hml hown hT hR hK hz ls hl
  have hown : s.vm.findClass RX0 = some m.cls := hown
  have hl : lv_has ls 4 [(0, .ref a0), (1, .int a1)] := hl
  have hS : va_S (qA b0) s.heap s.heap [] := va_S.rf
  obtain ⟨Q, hQ⟩ : ∃ Q, Q = MQ below (va_Qi (fun (r' : Int32) (u : qH) => r' = r ∧ u = X) (fun u t => qO D kz b0 sz u t) (qA b0)) args s 0 0 (qA b0) := ⟨_, rfl⟩
  rw [← hQ]
  unfold fX0_readAs at hf
  obtain ⟨hthis, hf⟩ := qIs_spec hf
  refine lv_aload_n hx hb dX0_readAs_0 rfl (lv_at hl 0 rfl) ?_
  refine q_gR hx hb hT hown hK hR iqX0 vqX0 7 (by decide) (hT _ wfl_X0_15) hf dX0_readAs_1 (fun v1 hf => ?_)
  refine lv_iload_n hx hb dX0_readAs_4 rfl (lv_at hl 1 rfl) ?_
  refine q_iald hx hb hK hR hf dX0_readAs_5 (fun v2 hf => ?_)
  refine lv_iconst (v := (2 : Int32)) hx hb dX0_readAs_6 (by decide) ?_
  refine lv_icmp_le (tgt := 12) hx hb dX0_readAs_7 (by decide) (fun hc => ?_) (fun hc => ?_)
  · have hf := q_t hf hc
    refine lv_iload_n hx hb dX0_readAs_12 rfl (lv_at hl 1 rfl) ?_
    refine lv_istore_n (lv' := [(2, .int a1), (0, .ref a0), (1, .int a1)]) hx hb dX0_readAs_13 rfl hl (by decide) rfl (fun ls hl => ?_)
    refine lv_iconst (v := (0 : Int32)) hx hb dX0_readAs_14 (by decide) ?_
    refine lv_istore_n (lv' := [(3, .int (0 : Int32)), (2, .int a1), (0, .ref a0), (1, .int a1)]) hx hb dX0_readAs_15 rfl hl (by decide) rfl (fun ls hl => ?_)
    obtain ⟨v16, ho, hf⟩ := q_b hf
    have hL : ∀ (n : Nat) (v3 : Int32) (v4 : Int32) (out : Int32), fX0_readAs_L16 F X a0 a1 n v3 v4 = some out → (∀ (v16 : Int32), out = v16 → ∀ (H : Heap) (locs : List Loc) (ls : Array Slot), qR D kz b0 X H → va_S (qA b0) s.heap H locs → H.size = sz → lv_has ls 4 [(2, .int v16)] → W p l e rmX0_readAs s m args below meth c H locs 0 0 Q (F0 m 67 ls [])) → ∀ (H : Heap) (locs : List Loc) (ls : Array Slot), qR D kz b0 X H → va_S (qA b0) s.heap H locs → H.size = sz → lv_has ls 4 [(0, .ref a0), (1, .int a1), (2, .int v3), (3, .int v4)] → W p l e rmX0_readAs s m args below meth c H locs 0 0 Q (F0 m 16 ls []) := by
      intro n9
      induction n9 with
      | zero =>
        intro v3 v4 out hf
        exact absurd (show none = some out from hf) (by simp)
      | succ n9 ih0 =>
        intro v3 v4 out hf hex H locs ls hR hS hz hl
        have hf : fX0_readAs_L16_B F X a0 a1 (fX0_readAs_L16 F X a0 a1 n9) v3 v4 = some out := hf
        unfold fX0_readAs_L16_B at hf
        refine lv_iload_n hx hb dX0_readAs_16 rfl (lv_at hl 3 rfl) ?_
        refine lv_aload_n hx hb dX0_readAs_17 rfl (lv_at hl 0 rfl) ?_
        refine q_gI hx hb hT hown hK hR iqX0 vqX0 5 (by decide) (hT _ wfl_X0_43) hf dX0_readAs_18 (fun v5 hf => ?_)
        refine lv_icmp_ge (tgt := 67) hx hb dX0_readAs_21 (by decide) (fun hc => ?_) (fun hc => ?_)
        · have hf := q_t hf hc
          exact hex _ (Option.some.inj hf).symm _ _ _ hR hS hz (lv_sub hl [2] rfl)
        · have hf := q_f hf hc
          refine lv_aload_n hx hb dX0_readAs_24 rfl (lv_at hl 0 rfl) ?_
          refine q_gR hx hb hT hown hK hR iqX0 vqX0 6 (by decide) (hT _ wfl_X0_9) hf dX0_readAs_25 (fun v6 hf => ?_)
          refine lv_iload_n hx hb dX0_readAs_28 rfl (lv_at hl 3 rfl) ?_
          refine q_iald hx hb hK hR hf dX0_readAs_29 (fun v7 hf => ?_)
          refine lv_aload_n hx hb dX0_readAs_30 rfl (lv_at hl 0 rfl) ?_
          refine q_gR hx hb hT hown hK hR iqX0 vqX0 6 (by decide) (hT _ wfl_X0_9) hf dX0_readAs_31 (fun v8 hf => ?_)
          refine lv_iload_n hx hb dX0_readAs_34 rfl (lv_at hl 1 rfl) ?_
          refine q_iald hx hb hK hR hf dX0_readAs_35 (fun v9 hf => ?_)
          obtain ⟨v10, hp, hf⟩ := q_b hf
          have hJ : ∀ (H : Heap) (locs : List Loc) (ls : Array Slot), qR D kz b0 X H → va_S (qA b0) s.heap H locs → H.size = sz → lv_has ls 4 [(0, .ref a0), (1, .int a1), (2, .int v10), (3, .int v4)] → W p l e rmX0_readAs s m args below meth c H locs 0 0 Q (F0 m 61 ls []) := by
            intro H locs ls hR hS hz hl
            obtain ⟨v11, ev11⟩ : ∃ y : Int32, y = (v4 + (1 : Int32)) := ⟨_, rfl⟩
            have hf := q_lt ev11 hf
            refine lv_iinc (v := v11) (lv' := [(3, .int v11), (0, .ref a0), (1, .int a1), (2, .int v10)]) hx hb dX0_readAs_61 hl (k := 3) rfl (by rw [ev11]; rfl) (by decide) rfl (fun ls hl => ?_)
            refine lv_goto (tgt := 16) hx hb dX0_readAs_64 (by decide) ?_
            exact ih0 _ _ out hf hex _ _ _ hR hS hz (lv_sub hl [1, 2, 3, 0] rfl)
          have hf := hp
          refine lv_icmp_le (tgt := 61) hx hb dX0_readAs_36 (by decide) (fun hc => ?_) (fun hc => ?_)
          · have hf := q_t hf hc
            cases hf
            exact hJ _ _ _ hR hS hz (lv_sub hl [0, 1, 2, 3] rfl)
          · have hf := q_f hf hc
            refine lv_iload_n hx hb dX0_readAs_39 rfl (lv_at hl 2 rfl) ?_
            refine lv_iload_n hx hb dX0_readAs_40 rfl (lv_at hl 1 rfl) ?_
            refine lv_icmp_eq (tgt := 59) hx hb dX0_readAs_41 (by decide) (fun hc => ?_) (fun hc => ?_)
            · have hf := q_t hf hc
              refine lv_iload_n hx hb dX0_readAs_59 rfl (lv_at hl 3 rfl) ?_
              refine lv_istore_n (lv' := [(2, .int v4), (0, .ref a0), (1, .int a1), (3, .int v4)]) hx hb dX0_readAs_60 rfl hl (by decide) rfl (fun ls hl => ?_)
              cases hf
              exact hJ _ _ _ hR hS hz (lv_sub hl [1, 2, 0, 3] rfl)
            · have hf := q_f hf hc
              refine lv_aload_n hx hb dX0_readAs_44 rfl (lv_at hl 0 rfl) ?_
              refine q_gR hx hb hT hown hK hR iqX0 vqX0 6 (by decide) (hT _ wfl_X0_9) hf dX0_readAs_45 (fun v12 hf => ?_)
              refine lv_iload_n hx hb dX0_readAs_48 rfl (lv_at hl 3 rfl) ?_
              refine q_iald hx hb hK hR hf dX0_readAs_49 (fun v13 hf => ?_)
              refine lv_aload_n hx hb dX0_readAs_50 rfl (lv_at hl 0 rfl) ?_
              refine q_gR hx hb hT hown hK hR iqX0 vqX0 6 (by decide) (hT _ wfl_X0_9) hf dX0_readAs_51 (fun v14 hf => ?_)
              refine lv_iload_n hx hb dX0_readAs_54 rfl (lv_at hl 2 rfl) ?_
              refine q_iald hx hb hK hR hf dX0_readAs_55 (fun v15 hf => ?_)
              refine lv_icmp_ge (tgt := 61) hx hb dX0_readAs_56 (by decide) (fun hc => ?_) (fun hc => ?_)
              · have hf := q_t hf hc
                cases hf
                exact hJ _ _ _ hR hS hz (lv_sub hl [0, 1, 2, 3] rfl)
              · have hf := q_f hf hc
                refine lv_iload_n hx hb dX0_readAs_59 rfl (lv_at hl 3 rfl) ?_
                refine lv_istore_n (lv' := [(2, .int v4), (0, .ref a0), (1, .int a1), (3, .int v4)]) hx hb dX0_readAs_60 rfl hl (by decide) rfl (fun ls hl => ?_)
                cases hf
                exact hJ _ _ _ hR hS hz (lv_sub hl [1, 2, 0, 3] rfl)
    refine hL F _ _ _ ho (fun z0 h9 => ?_) _ _ _ hR hS hz (lv_sub hl [2, 3, 1, 0] rfl)
    cases h9
    intro H locs ls hR hS hz hl
    refine lv_iload_n hx hb dX0_readAs_67 rfl (lv_at hl 0 rfl) ?_
    subst hQ
    exact q_iret hx hb hr hlocks hR hS hz (Option.some.inj hf) rfl dX0_readAs_68
  · have hf := q_f hf hc
    refine lv_iload_n hx hb dX0_readAs_10 rfl (lv_at hl 1 rfl) ?_
    subst hQ
    exact q_iret hx hb hr hlocks hR hS hz (Option.some.inj hf) rfl dX0_readAs_11
/-! X1_add -/
def fX1_add (F : Nat) (X : qH) (a0 : Nat) (a1 : Int32) (a2 : Int32) (a3 : Int32) : Option (qH) :=
qIs 1 X a0 <|
(qgI X 1 a0 0).bind fun v1 =>
if v1 < (15 : Int32) then ((qgR X 1 a0 1).bind fun v2 =>
(qgI X 1 a0 0).bind fun v3 =>
(qaS X 0 v2 v3 a1).bind fun X4 =>
(qgR X4 1 a0 2).bind fun v5 =>
(qgI X4 1 a0 0).bind fun v6 =>
(qaS X4 0 v5 v6 a2).bind fun X7 =>
(qgR X7 1 a0 3).bind fun v8 =>
(qgI X7 1 a0 0).bind fun v9 =>
(qaZ X7 v8 v9 a3).bind fun X10 =>
(qgI X10 1 a0 0).bind fun v11 =>
qlt (v11 + (1 : Int32)) fun v12 =>
(qpI X10 1 a0 0 v12).bind fun X13 =>
some X13)
else (some X)
abbrev rmX1_add : Room := { frames := 0, cells := 0, slots := 0, locals := 0 }
theorem fX1_add_is {F : Nat} {X : qH} {a0 : Nat} {a1 : Int32} {a2 : Int32} {a3 : Int32} {r9 : qH} (h : fX1_add F X a0 a1 a2 a3 = some r9) : ∃ fs, X a0 = some (.inr (1, fs)) := (qIs_spec h).1
theorem hdX1_add : yX1_add.cls = RX1 ∧ yX1_add.cls ≠ "java/lang/invoke/MethodHandle" ∧ yX1_add.cls ≠ "java/lang/invoke/VarHandle" ∧ (parseMethodDescriptor yX1_add.desc).map (fun d => d.parameters.length) = some 3 := by decide +kernel
set_option maxHeartbeats 4000000 in
set_option maxRecDepth 100000 in
theorem mX1_add (l : Launch) (D : va_G) (kz : Nat → Nat) (b0 sz F : Nat) (X : qH) (a0 : Nat) (a1 : Int32) (a2 : Int32) (a3 : Int32)  (Xr : qH) (hf : fX1_add F X a0 a1 a2 a3 = some Xr) : Met l yX1_add (qws yX1_add cX1_add 4 none) rmX1_add (va_Pc [.ref a0, .int a1, .int a2, .int a3] (qU D kz b0 sz X)) (va_Qv (fun (u : qH) => u = Xr) (fun u t => qO D kz b0 sz u t) (qA b0)) 0 0 (qA b0) := by
  refine q_start (by decide) (Nat.le_of_ble_eq_true rfl) ?_
  intro p e s m args below meth c hx hb hr hlocks hnm hml hown hT hR hK hz ls hl
  have hown : s.vm.findClass RX1 = some m.cls := hown
  have hl : lv_has ls 4 [(0, .ref a0), (1, .int a1), (2, .int a2), (3, .int a3)] := hl
  have hS : va_S (qA b0) s.heap s.heap [] := va_S.rf
  obtain ⟨Q, hQ⟩ : ∃ Q, Q = MQ below (va_Qv (fun (u : qH) => u = Xr) (fun u t => qO D kz b0 sz u t) (qA b0)) args s 0 0 (qA b0) := ⟨_, rfl⟩
  rw [← hQ]
  unfold fX1_add at hf
  obtain ⟨hthis, hf⟩ := qIs_spec hf
  refine lv_aload_n hx hb dX1_add_0 rfl (lv_at hl 0 rfl) ?_
  refine q_gI hx hb hT hown hK hR iqX1 vqX1 0 (by decide) (hT _ wfl_X1_22) hf dX1_add_1 (fun v1 hf => ?_)
  refine lv_bipush (v := (15 : Int32)) hx hb dX1_add_4 (by decide) ?_
  refine lv_icmp_lt (tgt := 10) hx hb dX1_add_6 (by decide) (fun hc => ?_) (fun hc => ?_)
  · have hf := q_t hf hc
    refine lv_aload_n hx hb dX1_add_10 rfl (lv_at hl 0 rfl) ?_
    refine q_gR hx hb hT hown hK hR iqX1 vqX1 1 (by decide) (hT _ wfl_X1_9) hf dX1_add_11 (fun v2 hf => ?_)
    refine lv_aload_n hx hb dX1_add_14 rfl (lv_at hl 0 rfl) ?_
    refine q_gI hx hb hT hown hK hR iqX1 vqX1 0 (by decide) (hT _ wfl_X1_22) hf dX1_add_15 (fun v3 hf => ?_)
    refine lv_iload_n hx hb dX1_add_18 rfl (lv_at hl 1 rfl) ?_
    refine q_iast hx hb hK hR hS hz hf dX1_add_19 (fun X4 hf H locs hR hS hz => ?_)
    refine lv_aload_n hx hb dX1_add_20 rfl (lv_at hl 0 rfl) ?_
    refine q_gR hx hb hT hown hK hR iqX1 vqX1 2 (by decide) (hT _ wfl_X1_15) hf dX1_add_21 (fun v5 hf => ?_)
    refine lv_aload_n hx hb dX1_add_24 rfl (lv_at hl 0 rfl) ?_
    refine q_gI hx hb hT hown hK hR iqX1 vqX1 0 (by decide) (hT _ wfl_X1_22) hf dX1_add_25 (fun v6 hf => ?_)
    refine lv_iload_n hx hb dX1_add_28 rfl (lv_at hl 2 rfl) ?_
    refine q_iast hx hb hK hR hS hz hf dX1_add_29 (fun X7 hf H locs hR hS hz => ?_)
    refine lv_aload_n hx hb dX1_add_30 rfl (lv_at hl 0 rfl) ?_
    refine q_gR hx hb hT hown hK hR iqX1 vqX1 3 (by decide) (hT _ wfl_X1_18) hf dX1_add_31 (fun v8 hf => ?_)
    refine lv_aload_n hx hb dX1_add_34 rfl (lv_at hl 0 rfl) ?_
    refine q_gI hx hb hT hown hK hR iqX1 vqX1 0 (by decide) (hT _ wfl_X1_22) hf dX1_add_35 (fun v9 hf => ?_)
    refine lv_iload_n hx hb dX1_add_38 rfl (lv_at hl 3 rfl) ?_
    refine q_zast hx hb hK hR hS hz hf dX1_add_39 (fun X10 hf H locs hR hS hz => ?_)
    refine lv_aload_n hx hb dX1_add_40 rfl (lv_at hl 0 rfl) ?_
    refine lv_dup hx hb dX1_add_41 rfl ?_
    refine q_gI hx hb hT hown hK hR iqX1 vqX1 0 (by decide) (hT _ wfl_X1_22) hf dX1_add_42 (fun v11 hf => ?_)
    refine lv_iconst (v := (1 : Int32)) hx hb dX1_add_45 (by decide) ?_
    refine lv_iadd hx hb dX1_add_46 ?_
    refine lv_topi (fun v12 ev12 => ?_)
    have hf := q_lt ev12 hf
    refine q_pI hx hb hT hown hK hR hS hz iqX1 vqX1 tyX1_ok nmX1 0 (by decide) (hT _ wfl_X1_22) rfl rfl hf dX1_add_47 (fun X13 hf H locs hR hS hz => ?_)
    subst hQ
    exact q_vret hx hb hr hlocks hR hS hz (Option.some.inj hf) dX1_add_50
  · have hf := q_f hf hc
    subst hQ
    exact q_vret hx hb hr hlocks hR hS hz (Option.some.inj hf) dX1_add_9
/-! X3_pairBit -/
def fX3_pairBit (F : Nat) (X : qH) (a0 : Int32) (a1 : Int32) : Option (Int32) :=
qlt (if a0 < a1 then a1 else a0) fun v1 =>
qlt (if a1 < a0 then a1 else a0) fun v2 =>
some ((1 : Int32) <<< ((((v1 * (v1 - (1 : Int32))) / (2 : Int32)) + v2) &&& 31))
abbrev rmX3_pairBit : Room := { frames := 1, cells := 0, slots := 0, locals := 21 }
theorem hdX3_pairBit : yX3_pairBit.cls ≠ "java/lang/invoke/MethodHandle" ∧ yX3_pairBit.cls ≠ "java/lang/invoke/VarHandle" ∧ (parseMethodDescriptor yX3_pairBit.desc).map (fun d => d.parameters.length) = some 2 := by decide +kernel
set_option maxHeartbeats 4000000 in
set_option maxRecDepth 100000 in
theorem mX3_pairBit (l : Launch) (D : va_G) (kz : Nat → Nat) (b0 sz F : Nat) (X : qH) (a0 : Int32) (a1 : Int32) (r : Int32) (hf : fX3_pairBit F X a0 a1 = some r) : Met l yX3_pairBit (qws yX3_pairBit cX3_pairBit 3 (some .int)) rmX3_pairBit (va_Pc [.int a0, .int a1] (qU D kz b0 sz X)) (va_Qi (fun (r' : Int32) (u : qH) => r' = r ∧ u = X) (fun u t => qO D kz b0 sz u t) (qA b0)) 0 0 (qA b0) := by
  refine q_start (by decide) (Nat.le_of_ble_eq_true rfl) ?_
  intro p e s m args below meth c hx hb hr hlocks hnm hml hown hT hR hK hz ls hl
  have hown : s.vm.findClass RX3 = some m.cls := hown
  have hl : lv_has ls 3 [(0, .int a0), (1, .int a1)] := hl
  have hS : va_S (qA b0) s.heap s.heap [] := va_S.rf
  obtain ⟨Q, hQ⟩ : ∃ Q, Q = MQ below (va_Qi (fun (r' : Int32) (u : qH) => r' = r ∧ u = X) (fun u t => qO D kz b0 sz u t) (qA b0)) args s 0 0 (qA b0) := ⟨_, rfl⟩
  rw [← hQ]
  unfold fX3_pairBit at hf
  refine lv_iload_n hx hb dX3_pairBit_0 rfl (lv_at hl 0 rfl) ?_
  refine lv_iload_n hx hb dX3_pairBit_1 rfl (lv_at hl 1 rfl) ?_
  refine va_mmax hx hb (hml.trans hl.1.symm) hown (hT _ wml_X3_67) (hT _ wst_Mmax) (hT _ win_Math) (hT _ wco_Mmax) (Nat.le_of_ble_eq_true rfl) (Nat.le_of_ble_eq_true rfl) (Nat.le_of_ble_eq_true rfl) (Nat.le_of_ble_eq_true rfl) dX3_pairBit_2 ?_
  refine lv_topi (fun v1 ev1 => ?_)
  have hf := q_lt ev1 hf
  refine lv_istore_n (lv' := [(2, .int v1), (0, .int a0), (1, .int a1)]) hx hb dX3_pairBit_5 rfl hl (by decide) rfl (fun ls hl => ?_)
  refine lv_iconst (v := (1 : Int32)) hx hb dX3_pairBit_6 (by decide) ?_
  refine lv_iload_n hx hb dX3_pairBit_7 rfl (lv_at hl 0 rfl) ?_
  refine lv_iload_n hx hb dX3_pairBit_8 rfl (lv_at hl 0 rfl) ?_
  refine lv_iconst (v := (1 : Int32)) hx hb dX3_pairBit_9 (by decide) ?_
  refine lv_isub hx hb dX3_pairBit_10 ?_
  refine lv_imul hx hb dX3_pairBit_11 ?_
  refine lv_iconst (v := (2 : Int32)) hx hb dX3_pairBit_12 (by decide) ?_
  refine lv_idiv hx hb dX3_pairBit_13 (by decide) ?_
  refine lv_iload_n hx hb dX3_pairBit_14 rfl (lv_at hl 1 rfl) ?_
  refine lv_iload_n hx hb dX3_pairBit_15 rfl (lv_at hl 2 rfl) ?_
  refine va_mmin hx hb (hml.trans hl.1.symm) hown (hT _ wml_X3_61) (hT _ wst_Mmin) (hT _ win_Math) (hT _ wco_Mmin) (Nat.le_of_ble_eq_true rfl) (Nat.le_of_ble_eq_true rfl) (Nat.le_of_ble_eq_true rfl) (Nat.le_of_ble_eq_true rfl) dX3_pairBit_16 ?_
  refine lv_topi (fun v2 ev2 => ?_)
  have hf := q_lt ev2 hf
  refine lv_iadd hx hb dX3_pairBit_19 ?_
  refine lv_ishl hx hb dX3_pairBit_20 ?_
  subst hQ
  exact q_iret hx hb hr hlocks hR hS hz (Option.some.inj hf) rfl dX3_pairBit_21
/-! X3_holdsFor -/
def fX3_holdsFor (F : Nat) (X : qH) (a0 : Nat) (a1 : Int32) (a2 : Int32) : Option (Int32) :=
qIs 3 X a0 <|
(qgI X 3 a0 3).bind fun v1 =>
(fX3_pairBit F X a1 a2).bind fun v2 =>
(if (v1 &&& v2) = (0 : Int32) then (some (0 : Int32))
else (some (1 : Int32)) : Option Int32).bind fun v3 =>
(qz v3).bind fun z =>
some z
abbrev rmX3_holdsFor : Room := { frames := 2, cells := 0, slots := 0, locals := 43 }
theorem fX3_holdsFor_is {F : Nat} {X : qH} {a0 : Nat} {a1 : Int32} {a2 : Int32} {r9 : Int32} (h : fX3_holdsFor F X a0 a1 a2 = some r9) : ∃ fs, X a0 = some (.inr (3, fs)) := (qIs_spec h).1
theorem hdX3_holdsFor : yX3_holdsFor.cls = RX3 ∧ yX3_holdsFor.cls ≠ "java/lang/invoke/MethodHandle" ∧ yX3_holdsFor.cls ≠ "java/lang/invoke/VarHandle" ∧ (parseMethodDescriptor yX3_holdsFor.desc).map (fun d => d.parameters.length) = some 2 := by decide +kernel
set_option maxHeartbeats 4000000 in
set_option maxRecDepth 100000 in
theorem mX3_holdsFor (l : Launch) (D : va_G) (kz : Nat → Nat) (b0 sz F : Nat) (X : qH) (a0 : Nat) (a1 : Int32) (a2 : Int32) (r : Int32) (hf : fX3_holdsFor F X a0 a1 a2 = some r) : Met l yX3_holdsFor (qws yX3_holdsFor cX3_holdsFor 3 (some .boolean)) rmX3_holdsFor (va_Pc [.ref a0, .int a1, .int a2] (qU D kz b0 sz X)) (va_Qi (fun (r' : Int32) (u : qH) => r' = r ∧ u = X) (fun u t => qO D kz b0 sz u t) (qA b0)) 0 0 (qA b0) := by
  refine q_start (by decide) (Nat.le_of_ble_eq_true rfl) ?_
  intro p e s m args below meth c hx hb hr hlocks hnm hml hown hT hR hK hz ls hl
  have hown : s.vm.findClass RX3 = some m.cls := hown
  have hl : lv_has ls 3 [(0, .ref a0), (1, .int a1), (2, .int a2)] := hl
  have hS : va_S (qA b0) s.heap s.heap [] := va_S.rf
  obtain ⟨Q, hQ⟩ : ∃ Q, Q = MQ below (va_Qi (fun (r' : Int32) (u : qH) => r' = r ∧ u = X) (fun u t => qO D kz b0 sz u t) (qA b0)) args s 0 0 (qA b0) := ⟨_, rfl⟩
  rw [← hQ]
  unfold fX3_holdsFor at hf
  obtain ⟨hthis, hf⟩ := qIs_spec hf
  refine lv_aload_n hx hb dX3_holdsFor_0 rfl (lv_at hl 0 rfl) ?_
  refine q_gI hx hb hT hown hK hR iqX3 vqX3 3 (by decide) (hT _ wfl_X3_42) hf dX3_holdsFor_1 (fun v1 hf => ?_)
  refine lv_iload_n hx hb dX3_holdsFor_4 rfl (lv_at hl 1 rfl) ?_
  refine lv_iload_n hx hb dX3_holdsFor_5 rfl (lv_at hl 2 rfl) ?_
  obtain ⟨v2, hc, hf⟩ := q_b hf
  refine q_calli (va_runS (As := [.int a1, .int a2]) (rest := [.int v1]) ⟨hx, hb, hml, hown, hT⟩ (mX3_pairBit l D kz b0 sz F X a1 a2 v2 hc) (va_cwS 2 hT (q_gS wco_X3_pairBit wml_X3_109 wst_X3_pairBit win_X3) rfl rfl rfl hdX3_pairBit ⟨Nat.le_of_ble_eq_true rfl, Nat.le_of_ble_eq_true rfl⟩) (q_preS hR hK hz) rfl rfl hl.1 rfl (lv_room (Nat.le_of_ble_eq_true rfl)) dX3_holdsFor_6 ⟨Nat.le_of_ble_eq_true rfl, Nat.le_of_ble_eq_true rfl⟩) hS (fun H locs hR hS hz => ?_)
  refine lv_iand hx hb dX3_holdsFor_9 ?_
  obtain ⟨v3, hp, hf⟩ := q_b hf
  have hJ : ∀ (H : Heap) (locs : List Loc) (ls : Array Slot), qR D kz b0 X H → va_S (qA b0) s.heap H locs → H.size = sz → lv_has ls 3 [] → W p l e rmX3_holdsFor s m args below meth c H locs 0 0 Q (F0 m 18 ls [.int v3]) := by
    intro H locs ls hR hS hz hl
    subst hQ
    obtain ⟨z9, hz9, hf⟩ := q_b hf
    obtain ⟨rfl, h01⟩ := qz_spec hz9
    exact q_zret hx hb hr hlocks hR hS hz (Option.some.inj hf) h01 rfl dX3_holdsFor_18
  have hf := hp
  refine lv_if_eq (tgt := 17) hx hb dX3_holdsFor_10 (by decide) (fun hc => ?_) (fun hc => ?_)
  · have hf := q_t hf hc
    refine lv_iconst (v := (0 : Int32)) hx hb dX3_holdsFor_17 (by decide) ?_
    cases hf
    exact hJ _ _ _ hR hS hz (lv_sub hl [] rfl)
  · have hf := q_f hf hc
    refine lv_iconst (v := (1 : Int32)) hx hb dX3_holdsFor_13 (by decide) ?_
    refine lv_goto (tgt := 18) hx hb dX3_holdsFor_14 (by decide) ?_
    cases hf
    exact hJ _ _ _ hR hS hz (lv_sub hl [] rfl)
/-! X1_firstWrong -/
def fX1_firstWrong_L2_B (F : Nat) (X : qH) (a0 : Nat) (a1 : Nat) (self0 : Int32 → Option ((Int32) ⊕ (Unit))) (v1 : Int32) : Option ((Int32) ⊕ (Unit)) :=
(qgI X 1 a0 0).bind fun v2 =>
if v2 ≤ v1 then (some (.inr ()))
else ((qgR X 1 a0 1).bind fun v3 =>
(qaI X 0 v3 v1).bind fun v4 =>
(qgR X 1 a0 2).bind fun v5 =>
(qaI X 0 v5 v1).bind fun v6 =>
(fX3_holdsFor F X a1 v4 v6).bind fun v7 =>
(qgR X 1 a0 3).bind fun v8 =>
(qaI X 1 v8 v1).bind fun v9 =>
if v7 = v9 then (qlt (v1 + (1 : Int32)) fun v10 =>
self0 v10)
else (some (.inl v1)))
def fX1_firstWrong_L2 (F : Nat) (X : qH) (a0 : Nat) (a1 : Nat) : Nat → Int32 → Option ((Int32) ⊕ (Unit))
  | 0, _ => none
  | n + 1, v1 => fX1_firstWrong_L2_B F X a0 a1 (fX1_firstWrong_L2 F X a0 a1 n) v1
def fX1_firstWrong (F : Nat) (X : qH) (a0 : Nat) (a1 : Nat) : Option (Int32) :=
qIs 1 X a0 <|
(fX1_firstWrong_L2 F X a0 a1 F (0 : Int32)).bind fun o11 => qsm0 o11 (fun z => some z) <|
some (-1 : Int32)
abbrev rmX1_firstWrong : Room := { frames := 3, cells := 0, slots := 0, locals := 65 }
theorem fX1_firstWrong_is {F : Nat} {X : qH} {a0 : Nat} {a1 : Nat} {r9 : Int32} (h : fX1_firstWrong F X a0 a1 = some r9) : ∃ fs, X a0 = some (.inr (1, fs)) := (qIs_spec h).1
theorem hdX1_firstWrong : yX1_firstWrong.cls = RX1 ∧ yX1_firstWrong.cls ≠ "java/lang/invoke/MethodHandle" ∧ yX1_firstWrong.cls ≠ "java/lang/invoke/VarHandle" ∧ (parseMethodDescriptor yX1_firstWrong.desc).map (fun d => d.parameters.length) = some 1 := by decide +kernel
set_option maxHeartbeats 4000000 in
set_option maxRecDepth 100000 in
theorem mX1_firstWrong (l : Launch) (D : va_G) (kz : Nat → Nat) (b0 sz F : Nat) (X : qH) (a0 : Nat) (a1 : Nat) (r : Int32) (hf : fX1_firstWrong F X a0 a1 = some r) : Met l yX1_firstWrong (qws yX1_firstWrong cX1_firstWrong 3 (some .int)) rmX1_firstWrong (va_Pc [.ref a0, .ref a1] (qU D kz b0 sz X)) (va_Qi (fun (r' : Int32) (u : qH) => r' = r ∧ u = X) (fun u t => qO D kz b0 sz u t) (qA b0)) 0 0 (qA b0) := by
  refine q_start (by decide) (Nat.le_of_ble_eq_true rfl) ?_
  intro p e s m args below meth c hx hb hr hlocks hnm hml hown hT hR hK hz ls hl
  have hown : s.vm.findClass RX1 = some m.cls := hown
  have hl : lv_has ls 3 [(0, .ref a0), (1, .ref a1)] := hl
  have hS : va_S (qA b0) s.heap s.heap [] := va_S.rf
  obtain ⟨Q, hQ⟩ : ∃ Q, Q = MQ below (va_Qi (fun (r' : Int32) (u : qH) => r' = r ∧ u = X) (fun u t => qO D kz b0 sz u t) (qA b0)) args s 0 0 (qA b0) := ⟨_, rfl⟩
  rw [← hQ]
  unfold fX1_firstWrong at hf
  obtain ⟨hthis, hf⟩ := qIs_spec hf
  refine lv_iconst (v := (0 : Int32)) hx hb dX1_firstWrong_0 (by decide) ?_
  refine lv_istore_n (lv' := [(2, .int (0 : Int32)), (0, .ref a0), (1, .ref a1)]) hx hb dX1_firstWrong_1 rfl hl (by decide) rfl (fun ls hl => ?_)
  obtain ⟨o11, ho, hf⟩ := q_b hf
  have hL : ∀ (n : Nat) (v1 : Int32) (out : (Int32) ⊕ (Unit)), fX1_firstWrong_L2 F X a0 a1 n v1 = some out → (∀ z, out = .inl z → z = r) → (out = .inr () → ∀ (H : Heap) (locs : List Loc) (ls : Array Slot), qR D kz b0 X H → va_S (qA b0) s.heap H locs → H.size = sz → lv_has ls 3 [] → W p l e rmX1_firstWrong s m args below meth c H locs 0 0 Q (F0 m 43 ls [])) → ∀ (H : Heap) (locs : List Loc) (ls : Array Slot), qR D kz b0 X H → va_S (qA b0) s.heap H locs → H.size = sz → lv_has ls 3 [(0, .ref a0), (1, .ref a1), (2, .int v1)] → W p l e rmX1_firstWrong s m args below meth c H locs 0 0 Q (F0 m 2 ls []) := by
    intro n9
    induction n9 with
    | zero =>
      intro v1 out hf
      exact absurd (show none = some out from hf) (by simp)
    | succ n9 ih0 =>
      intro v1 out hf hret hex H locs ls hR hS hz hl
      have hf : fX1_firstWrong_L2_B F X a0 a1 (fX1_firstWrong_L2 F X a0 a1 n9) v1 = some out := hf
      unfold fX1_firstWrong_L2_B at hf
      refine lv_iload_n hx hb dX1_firstWrong_2 rfl (lv_at hl 2 rfl) ?_
      refine lv_aload_n hx hb dX1_firstWrong_3 rfl (lv_at hl 0 rfl) ?_
      refine q_gI hx hb hT hown hK hR iqX1 vqX1 0 (by decide) (hT _ wfl_X1_22) hf dX1_firstWrong_4 (fun v2 hf => ?_)
      refine lv_icmp_ge (tgt := 43) hx hb dX1_firstWrong_7 (by decide) (fun hc => ?_) (fun hc => ?_)
      · have hf := q_t hf hc
        exact hex  (Option.some.inj hf).symm _ _ _ hR hS hz (lv_sub hl [] rfl)
      · have hf := q_f hf hc
        refine lv_aload_n hx hb dX1_firstWrong_10 rfl (lv_at hl 1 rfl) ?_
        refine lv_aload_n hx hb dX1_firstWrong_11 rfl (lv_at hl 0 rfl) ?_
        refine q_gR hx hb hT hown hK hR iqX1 vqX1 1 (by decide) (hT _ wfl_X1_9) hf dX1_firstWrong_12 (fun v3 hf => ?_)
        refine lv_iload_n hx hb dX1_firstWrong_15 rfl (lv_at hl 2 rfl) ?_
        refine q_iald hx hb hK hR hf dX1_firstWrong_16 (fun v4 hf => ?_)
        refine lv_aload_n hx hb dX1_firstWrong_17 rfl (lv_at hl 0 rfl) ?_
        refine q_gR hx hb hT hown hK hR iqX1 vqX1 2 (by decide) (hT _ wfl_X1_15) hf dX1_firstWrong_18 (fun v5 hf => ?_)
        refine lv_iload_n hx hb dX1_firstWrong_21 rfl (lv_at hl 2 rfl) ?_
        refine q_iald hx hb hK hR hf dX1_firstWrong_22 (fun v6 hf => ?_)
        obtain ⟨v7, hc, hf⟩ := q_b hf
        refine q_calli (va_runV (As := [.int v4, .int v6]) (rest := []) ⟨hx, hb, hml, hown, hT⟩ (mX3_holdsFor l D kz b0 sz F X a1 v4 v6 v7 hc) (cwV 2 hT (q_gV wco_X3_holdsFor wml_X1_26 wim_X3_holdsFor wse_X3_holdsFor win_X3) rfl rfl rfl hdX3_holdsFor ⟨Nat.le_of_ble_eq_true rfl, Nat.le_of_ble_eq_true rfl⟩) (q_preV vqX3 (fX3_holdsFor_is hc) hR hK hz) rfl rfl hl.1 rfl (lv_room (Nat.le_of_ble_eq_true rfl)) dX1_firstWrong_23 ⟨Nat.le_of_ble_eq_true rfl, Nat.le_of_ble_eq_true rfl⟩) hS (fun H locs hR hS hz => ?_)
        refine lv_aload_n hx hb dX1_firstWrong_26 rfl (lv_at hl 0 rfl) ?_
        refine q_gR hx hb hT hown hK hR iqX1 vqX1 3 (by decide) (hT _ wfl_X1_18) hf dX1_firstWrong_27 (fun v8 hf => ?_)
        refine lv_iload_n hx hb dX1_firstWrong_30 rfl (lv_at hl 2 rfl) ?_
        refine q_zald hx hb hK hR hf dX1_firstWrong_31 (fun v9 hf => ?_)
        refine lv_icmp_eq (tgt := 37) hx hb dX1_firstWrong_32 (by decide) (fun hc => ?_) (fun hc => ?_)
        · have hf := q_t hf hc
          obtain ⟨v10, ev10⟩ : ∃ y : Int32, y = (v1 + (1 : Int32)) := ⟨_, rfl⟩
          have hf := q_lt ev10 hf
          refine lv_iinc (v := v10) (lv' := [(2, .int v10), (0, .ref a0), (1, .ref a1)]) hx hb dX1_firstWrong_37 hl (k := 2) rfl (by rw [ev10]; rfl) (by decide) rfl (fun ls hl => ?_)
          refine lv_goto (tgt := 2) hx hb dX1_firstWrong_40 (by decide) ?_
          exact ih0 _ out hf hret hex _ _ _ hR hS hz (lv_sub hl [1, 2, 0] rfl)
        · have hf := q_f hf hc
          refine lv_iload_n hx hb dX1_firstWrong_35 rfl (lv_at hl 2 rfl) ?_
          subst hQ
          exact q_iret hx hb hr hlocks hR hS hz (hret _ (Option.some.inj hf).symm) rfl dX1_firstWrong_36
  refine hL F _ o11 ho (fun z hz9 => by subst hz9; exact Option.some.inj hf) (fun  h9 => ?_) _ _ _ hR hS hz (lv_sub hl [1, 2, 0] rfl)
  subst h9
  intro H locs ls hR hS hz hl
  have hf := qsm0_r hf
  refine lv_iconst (v := (-1 : Int32)) hx hb dX1_firstWrong_43 (by decide) ?_
  subst hQ
  exact q_iret hx hb hr hlocks hR hS hz (Option.some.inj hf) rfl dX1_firstWrong_44
/-! X2_add -/
def fX2_add (F : Nat) (X : qH) (a0 : Nat) (a1 : Int32) (a2 : Int32) : Option (qH) :=
qIs 2 X a0 <|
(qgI X 2 a0 0).bind fun v1 =>
if v1 < (6 : Int32) then ((qgR X 2 a0 1).bind fun v2 =>
(qgI X 2 a0 0).bind fun v3 =>
(qaS X 0 v2 v3 a1).bind fun X4 =>
(qgR X4 2 a0 2).bind fun v5 =>
(qgI X4 2 a0 0).bind fun v6 =>
(qaS X4 0 v5 v6 a2).bind fun X7 =>
(qgI X7 2 a0 0).bind fun v8 =>
qlt (v8 + (1 : Int32)) fun v9 =>
(qpI X7 2 a0 0 v9).bind fun X10 =>
some X10)
else (some X)
abbrev rmX2_add : Room := { frames := 0, cells := 0, slots := 0, locals := 0 }
theorem fX2_add_is {F : Nat} {X : qH} {a0 : Nat} {a1 : Int32} {a2 : Int32} {r9 : qH} (h : fX2_add F X a0 a1 a2 = some r9) : ∃ fs, X a0 = some (.inr (2, fs)) := (qIs_spec h).1
theorem hdX2_add : yX2_add.cls = RX2 ∧ yX2_add.cls ≠ "java/lang/invoke/MethodHandle" ∧ yX2_add.cls ≠ "java/lang/invoke/VarHandle" ∧ (parseMethodDescriptor yX2_add.desc).map (fun d => d.parameters.length) = some 2 := by decide +kernel
set_option maxHeartbeats 4000000 in
set_option maxRecDepth 100000 in
theorem mX2_add (l : Launch) (D : va_G) (kz : Nat → Nat) (b0 sz F : Nat) (X : qH) (a0 : Nat) (a1 : Int32) (a2 : Int32)  (Xr : qH) (hf : fX2_add F X a0 a1 a2 = some Xr) : Met l yX2_add (qws yX2_add cX2_add 3 none) rmX2_add (va_Pc [.ref a0, .int a1, .int a2] (qU D kz b0 sz X)) (va_Qv (fun (u : qH) => u = Xr) (fun u t => qO D kz b0 sz u t) (qA b0)) 0 0 (qA b0) := by
  refine q_start (by decide) (Nat.le_of_ble_eq_true rfl) ?_
  intro p e s m args below meth c hx hb hr hlocks hnm hml hown hT hR hK hz ls hl
  have hown : s.vm.findClass RX2 = some m.cls := hown
  have hl : lv_has ls 3 [(0, .ref a0), (1, .int a1), (2, .int a2)] := hl
  have hS : va_S (qA b0) s.heap s.heap [] := va_S.rf
  obtain ⟨Q, hQ⟩ : ∃ Q, Q = MQ below (va_Qv (fun (u : qH) => u = Xr) (fun u t => qO D kz b0 sz u t) (qA b0)) args s 0 0 (qA b0) := ⟨_, rfl⟩
  rw [← hQ]
  unfold fX2_add at hf
  obtain ⟨hthis, hf⟩ := qIs_spec hf
  refine lv_aload_n hx hb dX2_add_0 rfl (lv_at hl 0 rfl) ?_
  refine q_gI hx hb hT hown hK hR iqX2 vqX2 0 (by decide) (hT _ wfl_X2_18) hf dX2_add_1 (fun v1 hf => ?_)
  refine lv_bipush (v := (6 : Int32)) hx hb dX2_add_4 (by decide) ?_
  refine lv_icmp_lt (tgt := 10) hx hb dX2_add_6 (by decide) (fun hc => ?_) (fun hc => ?_)
  · have hf := q_t hf hc
    refine lv_aload_n hx hb dX2_add_10 rfl (lv_at hl 0 rfl) ?_
    refine q_gR hx hb hT hown hK hR iqX2 vqX2 1 (by decide) (hT _ wfl_X2_9) hf dX2_add_11 (fun v2 hf => ?_)
    refine lv_aload_n hx hb dX2_add_14 rfl (lv_at hl 0 rfl) ?_
    refine q_gI hx hb hT hown hK hR iqX2 vqX2 0 (by decide) (hT _ wfl_X2_18) hf dX2_add_15 (fun v3 hf => ?_)
    refine lv_iload_n hx hb dX2_add_18 rfl (lv_at hl 1 rfl) ?_
    refine q_iast hx hb hK hR hS hz hf dX2_add_19 (fun X4 hf H locs hR hS hz => ?_)
    refine lv_aload_n hx hb dX2_add_20 rfl (lv_at hl 0 rfl) ?_
    refine q_gR hx hb hT hown hK hR iqX2 vqX2 2 (by decide) (hT _ wfl_X2_15) hf dX2_add_21 (fun v5 hf => ?_)
    refine lv_aload_n hx hb dX2_add_24 rfl (lv_at hl 0 rfl) ?_
    refine q_gI hx hb hT hown hK hR iqX2 vqX2 0 (by decide) (hT _ wfl_X2_18) hf dX2_add_25 (fun v6 hf => ?_)
    refine lv_iload_n hx hb dX2_add_28 rfl (lv_at hl 2 rfl) ?_
    refine q_iast hx hb hK hR hS hz hf dX2_add_29 (fun X7 hf H locs hR hS hz => ?_)
    refine lv_aload_n hx hb dX2_add_30 rfl (lv_at hl 0 rfl) ?_
    refine lv_dup hx hb dX2_add_31 rfl ?_
    refine q_gI hx hb hT hown hK hR iqX2 vqX2 0 (by decide) (hT _ wfl_X2_18) hf dX2_add_32 (fun v8 hf => ?_)
    refine lv_iconst (v := (1 : Int32)) hx hb dX2_add_35 (by decide) ?_
    refine lv_iadd hx hb dX2_add_36 ?_
    refine lv_topi (fun v9 ev9 => ?_)
    have hf := q_lt ev9 hf
    refine q_pI hx hb hT hown hK hR hS hz iqX2 vqX2 tyX2_ok nmX2 0 (by decide) (hT _ wfl_X2_18) rfl rfl hf dX2_add_37 (fun X10 hf H locs hR hS hz => ?_)
    subst hQ
    exact q_vret hx hb hr hlocks hR hS hz (Option.some.inj hf) dX2_add_40
  · have hf := q_f hf hc
    subst hQ
    exact q_vret hx hb hr hlocks hR hS hz (Option.some.inj hf) dX2_add_9
/-! X3_cellOver -/
def fX3_cellOver (F : Nat) (X : qH) (a0 : Nat) (a1 : Nat) (a2 : Int32) : Option (Int32) :=
qIs 3 X a0 <|
(qgI X 0 a1 0).bind fun v1 =>
(qgR X 0 a1 6).bind fun v2 =>
(qaI X 0 v2 a2).bind fun v3 =>
(qgI X 3 a0 2).bind fun v4 =>
qlt (if (v3 + v4) < (v1 - (1 : Int32)) then (v3 + v4) else (v1 - (1 : Int32))) fun v5 =>
qlt (if (0 : Int32) < v5 then v5 else (0 : Int32)) fun v6 =>
some v6
abbrev rmX3_cellOver : Room := { frames := 1, cells := 0, slots := 0, locals := 21 }
theorem fX3_cellOver_is {F : Nat} {X : qH} {a0 : Nat} {a1 : Nat} {a2 : Int32} {r9 : Int32} (h : fX3_cellOver F X a0 a1 a2 = some r9) : ∃ fs, X a0 = some (.inr (3, fs)) := (qIs_spec h).1
theorem hdX3_cellOver : yX3_cellOver.cls = RX3 ∧ yX3_cellOver.cls ≠ "java/lang/invoke/MethodHandle" ∧ yX3_cellOver.cls ≠ "java/lang/invoke/VarHandle" ∧ (parseMethodDescriptor yX3_cellOver.desc).map (fun d => d.parameters.length) = some 2 := by decide +kernel
set_option maxHeartbeats 4000000 in
set_option maxRecDepth 100000 in
theorem mX3_cellOver (l : Launch) (D : va_G) (kz : Nat → Nat) (b0 sz F : Nat) (X : qH) (a0 : Nat) (a1 : Nat) (a2 : Int32) (r : Int32) (hf : fX3_cellOver F X a0 a1 a2 = some r) : Met l yX3_cellOver (qws yX3_cellOver cX3_cellOver 3 (some .int)) rmX3_cellOver (va_Pc [.ref a0, .ref a1, .int a2] (qU D kz b0 sz X)) (va_Qi (fun (r' : Int32) (u : qH) => r' = r ∧ u = X) (fun u t => qO D kz b0 sz u t) (qA b0)) 0 0 (qA b0) := by
  refine q_start (by decide) (Nat.le_of_ble_eq_true rfl) ?_
  intro p e s m args below meth c hx hb hr hlocks hnm hml hown hT hR hK hz ls hl
  have hown : s.vm.findClass RX3 = some m.cls := hown
  have hl : lv_has ls 3 [(0, .ref a0), (1, .ref a1), (2, .int a2)] := hl
  have hS : va_S (qA b0) s.heap s.heap [] := va_S.rf
  obtain ⟨Q, hQ⟩ : ∃ Q, Q = MQ below (va_Qi (fun (r' : Int32) (u : qH) => r' = r ∧ u = X) (fun u t => qO D kz b0 sz u t) (qA b0)) args s 0 0 (qA b0) := ⟨_, rfl⟩
  rw [← hQ]
  unfold fX3_cellOver at hf
  obtain ⟨hthis, hf⟩ := qIs_spec hf
  refine lv_iconst (v := (0 : Int32)) hx hb dX3_cellOver_0 (by decide) ?_
  refine lv_aload_n hx hb dX3_cellOver_1 rfl (lv_at hl 1 rfl) ?_
  refine q_gI hx hb hT hown hK hR iqX0 vqX0 0 (by decide) (hT _ wfl_X3_55) hf dX3_cellOver_2 (fun v1 hf => ?_)
  refine lv_iconst (v := (1 : Int32)) hx hb dX3_cellOver_5 (by decide) ?_
  refine lv_isub hx hb dX3_cellOver_6 ?_
  refine lv_aload_n hx hb dX3_cellOver_7 rfl (lv_at hl 1 rfl) ?_
  refine q_gR hx hb hT hown hK hR iqX0 vqX0 6 (by decide) (hT _ wfl_X3_58) hf dX3_cellOver_8 (fun v2 hf => ?_)
  refine lv_iload_n hx hb dX3_cellOver_11 rfl (lv_at hl 2 rfl) ?_
  refine q_iald hx hb hK hR hf dX3_cellOver_12 (fun v3 hf => ?_)
  refine lv_aload_n hx hb dX3_cellOver_13 rfl (lv_at hl 0 rfl) ?_
  refine q_gI hx hb hT hown hK hR iqX3 vqX3 2 (by decide) (hT _ wfl_X3_39) hf dX3_cellOver_14 (fun v4 hf => ?_)
  refine lv_iadd hx hb dX3_cellOver_17 ?_
  refine va_mmin hx hb (hml.trans hl.1.symm) hown (hT _ wml_X3_61) (hT _ wst_Mmin) (hT _ win_Math) (hT _ wco_Mmin) (Nat.le_of_ble_eq_true rfl) (Nat.le_of_ble_eq_true rfl) (Nat.le_of_ble_eq_true rfl) (Nat.le_of_ble_eq_true rfl) dX3_cellOver_18 ?_
  refine lv_topi (fun v5 ev5 => ?_)
  have hf := q_lt ev5 hf
  refine va_mmax hx hb (hml.trans hl.1.symm) hown (hT _ wml_X3_67) (hT _ wst_Mmax) (hT _ win_Math) (hT _ wco_Mmax) (Nat.le_of_ble_eq_true rfl) (Nat.le_of_ble_eq_true rfl) (Nat.le_of_ble_eq_true rfl) (Nat.le_of_ble_eq_true rfl) dX3_cellOver_21 ?_
  refine lv_topi (fun v6 ev6 => ?_)
  have hf := q_lt ev6 hf
  subst hQ
  exact q_iret hx hb hr hlocks hR hS hz (Option.some.inj hf) rfl dX3_cellOver_24
/-! X3_housesOver -/
def fX3_housesOver_L5_B (F : Nat) (X : qH) (a0 : Nat) (a1 : Nat) (a2 : Int32) (self0 : Int32 → Int32 → Option (Int32)) (v1 : Int32) (v2 : Int32) : Option (Int32) :=
(qgI X 0 a1 5).bind fun v3 =>
if v3 ≤ v2 then (some v1)
else ((fX3_cellOver F X a0 a1 v2).bind fun v4 =>
(if v4 = a2 then (qlt (v1 ||| ((1 : Int32) <<< (v2 &&& 31))) fun v7 =>
some v7)
else (some v1) : Option Int32).bind fun v5 =>
qlt (v2 + (1 : Int32)) fun v6 =>
self0 v5 v6)
def fX3_housesOver_L5 (F : Nat) (X : qH) (a0 : Nat) (a1 : Nat) (a2 : Int32) : Nat → Int32 → Int32 → Option (Int32)
  | 0, _, _ => none
  | n + 1, v1, v2 => fX3_housesOver_L5_B F X a0 a1 a2 (fX3_housesOver_L5 F X a0 a1 a2 n) v1 v2
def fX3_housesOver (F : Nat) (X : qH) (a0 : Nat) (a1 : Nat) (a2 : Int32) : Option (Int32) :=
qIs 3 X a0 <|
(fX3_housesOver_L5 F X a0 a1 a2 F (0 : Int32) (0 : Int32)).bind fun v8 =>
some v8
abbrev rmX3_housesOver : Room := { frames := 2, cells := 0, slots := 0, locals := 43 }
theorem fX3_housesOver_is {F : Nat} {X : qH} {a0 : Nat} {a1 : Nat} {a2 : Int32} {r9 : Int32} (h : fX3_housesOver F X a0 a1 a2 = some r9) : ∃ fs, X a0 = some (.inr (3, fs)) := (qIs_spec h).1
theorem hdX3_housesOver : yX3_housesOver.cls = RX3 ∧ yX3_housesOver.cls ≠ "java/lang/invoke/MethodHandle" ∧ yX3_housesOver.cls ≠ "java/lang/invoke/VarHandle" ∧ (parseMethodDescriptor yX3_housesOver.desc).map (fun d => d.parameters.length) = some 2 := by decide +kernel
set_option maxHeartbeats 4000000 in
set_option maxRecDepth 100000 in
theorem mX3_housesOver (l : Launch) (D : va_G) (kz : Nat → Nat) (b0 sz F : Nat) (X : qH) (a0 : Nat) (a1 : Nat) (a2 : Int32) (r : Int32) (hf : fX3_housesOver F X a0 a1 a2 = some r) : Met l yX3_housesOver (qws yX3_housesOver cX3_housesOver 5 (some .int)) rmX3_housesOver (va_Pc [.ref a0, .ref a1, .int a2] (qU D kz b0 sz X)) (va_Qi (fun (r' : Int32) (u : qH) => r' = r ∧ u = X) (fun u t => qO D kz b0 sz u t) (qA b0)) 0 0 (qA b0) := by
  refine q_start (by decide) (Nat.le_of_ble_eq_true rfl) ?_
  intro p e s m args below meth c hx hb hr hlocks hnm hml hown hT hR hK hz ls hl
  have hown : s.vm.findClass RX3 = some m.cls := hown
  have hl : lv_has ls 5 [(0, .ref a0), (1, .ref a1), (2, .int a2)] := hl
  have hS : va_S (qA b0) s.heap s.heap [] := va_S.rf
  obtain ⟨Q, hQ⟩ : ∃ Q, Q = MQ below (va_Qi (fun (r' : Int32) (u : qH) => r' = r ∧ u = X) (fun u t => qO D kz b0 sz u t) (qA b0)) args s 0 0 (qA b0) := ⟨_, rfl⟩
  rw [← hQ]
  unfold fX3_housesOver at hf
  obtain ⟨hthis, hf⟩ := qIs_spec hf
  refine lv_iconst (v := (0 : Int32)) hx hb dX3_housesOver_0 (by decide) ?_
  refine lv_istore_n (lv' := [(3, .int (0 : Int32)), (0, .ref a0), (1, .ref a1), (2, .int a2)]) hx hb dX3_housesOver_1 rfl hl (by decide) rfl (fun ls hl => ?_)
  refine lv_iconst (v := (0 : Int32)) hx hb dX3_housesOver_2 (by decide) ?_
  refine lv_istore (lv' := [(4, .int (0 : Int32)), (3, .int (0 : Int32)), (0, .ref a0), (1, .ref a1), (2, .int a2)]) hx hb dX3_housesOver_3 hl (by decide) rfl (fun ls hl => ?_)
  obtain ⟨v8, ho, hf⟩ := q_b hf
  have hL : ∀ (n : Nat) (v1 : Int32) (v2 : Int32) (out : Int32), fX3_housesOver_L5 F X a0 a1 a2 n v1 v2 = some out → (∀ (v8 : Int32), out = v8 → ∀ (H : Heap) (locs : List Loc) (ls : Array Slot), qR D kz b0 X H → va_S (qA b0) s.heap H locs → H.size = sz → lv_has ls 5 [(3, .int v8)] → W p l e rmX3_housesOver s m args below meth c H locs 0 0 Q (F0 m 38 ls [])) → ∀ (H : Heap) (locs : List Loc) (ls : Array Slot), qR D kz b0 X H → va_S (qA b0) s.heap H locs → H.size = sz → lv_has ls 5 [(0, .ref a0), (1, .ref a1), (2, .int a2), (3, .int v1), (4, .int v2)] → W p l e rmX3_housesOver s m args below meth c H locs 0 0 Q (F0 m 5 ls []) := by
    intro n9
    induction n9 with
    | zero =>
      intro v1 v2 out hf
      exact absurd (show none = some out from hf) (by simp)
    | succ n9 ih0 =>
      intro v1 v2 out hf hex H locs ls hR hS hz hl
      have hf : fX3_housesOver_L5_B F X a0 a1 a2 (fX3_housesOver_L5 F X a0 a1 a2 n9) v1 v2 = some out := hf
      unfold fX3_housesOver_L5_B at hf
      refine lv_iload hx hb dX3_housesOver_5 (lv_at hl 4 rfl) ?_
      refine lv_aload_n hx hb dX3_housesOver_7 rfl (lv_at hl 1 rfl) ?_
      refine q_gI hx hb hT hown hK hR iqX0 vqX0 5 (by decide) (hT _ wfl_X3_45) hf dX3_housesOver_8 (fun v3 hf => ?_)
      refine lv_icmp_ge (tgt := 38) hx hb dX3_housesOver_11 (by decide) (fun hc => ?_) (fun hc => ?_)
      · have hf := q_t hf hc
        exact hex _ (Option.some.inj hf).symm _ _ _ hR hS hz (lv_sub hl [3] rfl)
      · have hf := q_f hf hc
        refine lv_aload_n hx hb dX3_housesOver_14 rfl (lv_at hl 0 rfl) ?_
        refine lv_aload_n hx hb dX3_housesOver_15 rfl (lv_at hl 1 rfl) ?_
        refine lv_iload hx hb dX3_housesOver_16 (lv_at hl 4 rfl) ?_
        obtain ⟨v4, hc, hf⟩ := q_b hf
        refine q_calli (va_runV (As := [.ref a1, .int v2]) (rest := []) ⟨hx, hb, hml, hown, hT⟩ (mX3_cellOver l D kz b0 sz F X a0 a1 v2 v4 hc) (cwV 2 hT (q_gV wco_X3_cellOver wml_X3_70 wim_X3_cellOver wse_X3_cellOver win_X3) rfl rfl rfl hdX3_cellOver ⟨Nat.le_of_ble_eq_true rfl, Nat.le_of_ble_eq_true rfl⟩) (q_preV vqX3 (fX3_cellOver_is hc) hR hK hz) rfl rfl hl.1 rfl (lv_room (Nat.le_of_ble_eq_true rfl)) dX3_housesOver_18 ⟨Nat.le_of_ble_eq_true rfl, Nat.le_of_ble_eq_true rfl⟩) hS (fun H locs hR hS hz => ?_)
        refine lv_iload_n hx hb dX3_housesOver_21 rfl (lv_at hl 2 rfl) ?_
        obtain ⟨v5, hp, hf⟩ := q_b hf
        have hJ : ∀ (H : Heap) (locs : List Loc) (ls : Array Slot), qR D kz b0 X H → va_S (qA b0) s.heap H locs → H.size = sz → lv_has ls 5 [(0, .ref a0), (1, .ref a1), (2, .int a2), (3, .int v5), (4, .int v2)] → W p l e rmX3_housesOver s m args below meth c H locs 0 0 Q (F0 m 32 ls []) := by
          intro H locs ls hR hS hz hl
          obtain ⟨v6, ev6⟩ : ∃ y : Int32, y = (v2 + (1 : Int32)) := ⟨_, rfl⟩
          have hf := q_lt ev6 hf
          refine lv_iinc (v := v6) (lv' := [(4, .int v6), (0, .ref a0), (1, .ref a1), (2, .int a2), (3, .int v5)]) hx hb dX3_housesOver_32 hl (k := 4) rfl (by rw [ev6]; rfl) (by decide) rfl (fun ls hl => ?_)
          refine lv_goto (tgt := 5) hx hb dX3_housesOver_35 (by decide) ?_
          exact ih0 _ _ out hf hex _ _ _ hR hS hz (lv_sub hl [1, 2, 3, 4, 0] rfl)
        have hf := hp
        refine lv_icmp_ne (tgt := 32) hx hb dX3_housesOver_22 (by decide) (fun hc => ?_) (fun hc => ?_)
        · have hf := q_f hf hc
          cases hf
          exact hJ _ _ _ hR hS hz (lv_sub hl [0, 1, 2, 3, 4] rfl)
        · have hf := q_t hf hc
          refine lv_iload_n hx hb dX3_housesOver_25 rfl (lv_at hl 3 rfl) ?_
          refine lv_iconst (v := (1 : Int32)) hx hb dX3_housesOver_26 (by decide) ?_
          refine lv_iload hx hb dX3_housesOver_27 (lv_at hl 4 rfl) ?_
          refine lv_ishl hx hb dX3_housesOver_29 ?_
          refine lv_ior hx hb dX3_housesOver_30 ?_
          refine lv_topi (fun v7 ev7 => ?_)
          have hf := q_lt ev7 hf
          refine lv_istore_n (lv' := [(3, .int v7), (0, .ref a0), (1, .ref a1), (2, .int a2), (4, .int v2)]) hx hb dX3_housesOver_31 rfl hl (by decide) rfl (fun ls hl => ?_)
          cases hf
          exact hJ _ _ _ hR hS hz (lv_sub hl [1, 2, 3, 0, 4] rfl)
  refine hL F _ _ _ ho (fun z0 h9 => ?_) _ _ _ hR hS hz (lv_sub hl [2, 3, 4, 1, 0] rfl)
  cases h9
  intro H locs ls hR hS hz hl
  refine lv_iload_n hx hb dX3_housesOver_38 rfl (lv_at hl 0 rfl) ?_
  subst hQ
  exact q_iret hx hb hr hlocks hR hS hz (Option.some.inj hf) rfl dX3_housesOver_39
/-! J6_bitCount_0f7a4 -/
def fJ6_bitCount_0f7a4 (F : Nat) (X : qH) (a0 : Int32) : Option (Int32) :=
qlt (a0 - (((a0.toUInt32 >>> ((1 : Int32).toUInt32 &&& Int32.toUInt32 31)).toInt32) &&& (1431655765 : Int32))) fun v1 =>
qlt ((v1 &&& (858993459 : Int32)) + (((v1.toUInt32 >>> ((2 : Int32).toUInt32 &&& Int32.toUInt32 31)).toInt32) &&& (858993459 : Int32))) fun v2 =>
qlt ((v2 + ((v2.toUInt32 >>> ((4 : Int32).toUInt32 &&& Int32.toUInt32 31)).toInt32)) &&& (252645135 : Int32)) fun v3 =>
qlt (v3 + ((v3.toUInt32 >>> ((8 : Int32).toUInt32 &&& Int32.toUInt32 31)).toInt32)) fun v4 =>
qlt (v4 + ((v4.toUInt32 >>> ((16 : Int32).toUInt32 &&& Int32.toUInt32 31)).toInt32)) fun v5 =>
some (v5 &&& (63 : Int32))
abbrev rmJ6_bitCount_0f7a4 : Room := { frames := 0, cells := 0, slots := 0, locals := 0 }
theorem hdJ6_bitCount_0f7a4 : yJ6_bitCount_0f7a4.cls ≠ "java/lang/invoke/MethodHandle" ∧ yJ6_bitCount_0f7a4.cls ≠ "java/lang/invoke/VarHandle" ∧ (parseMethodDescriptor yJ6_bitCount_0f7a4.desc).map (fun d => d.parameters.length) = some 1 := by decide +kernel
set_option maxHeartbeats 4000000 in
set_option maxRecDepth 100000 in
theorem mJ6_bitCount_0f7a4 (l : Launch) (D : va_G) (kz : Nat → Nat) (b0 sz F : Nat) (X : qH) (a0 : Int32) (r : Int32) (hf : fJ6_bitCount_0f7a4 F X a0 = some r) : Met l yJ6_bitCount_0f7a4 (qws yJ6_bitCount_0f7a4 cJ6_bitCount_0f7a4 1 (some .int)) rmJ6_bitCount_0f7a4 (va_Pc [.int a0] (qU D kz b0 sz X)) (va_Qi (fun (r' : Int32) (u : qH) => r' = r ∧ u = X) (fun u t => qO D kz b0 sz u t) (qA b0)) 0 0 (qA b0) := by
  refine q_start (by decide) (Nat.le_of_ble_eq_true rfl) ?_
  intro p e s m args below meth c hx hb hr hlocks hnm hml hown hT hR hK hz ls hl
  have hown : s.vm.findClass RJ6 = some m.cls := hown
  have hl : lv_has ls 1 [(0, .int a0)] := hl
  have hS : va_S (qA b0) s.heap s.heap [] := va_S.rf
  obtain ⟨Q, hQ⟩ : ∃ Q, Q = MQ below (va_Qi (fun (r' : Int32) (u : qH) => r' = r ∧ u = X) (fun u t => qO D kz b0 sz u t) (qA b0)) args s 0 0 (qA b0) := ⟨_, rfl⟩
  rw [← hQ]
  unfold fJ6_bitCount_0f7a4 at hf
  refine lv_iload_n hx hb dJ6_bitCount_0f7a4_0 rfl (lv_at hl 0 rfl) ?_
  refine lv_iload_n hx hb dJ6_bitCount_0f7a4_1 rfl (lv_at hl 0 rfl) ?_
  refine lv_iconst (v := (1 : Int32)) hx hb dJ6_bitCount_0f7a4_2 (by decide) ?_
  refine lv_iushr hx hb dJ6_bitCount_0f7a4_3 rfl ?_
  refine lv_ldcw (v := (1431655765 : Int32)) hx hb hown (hT _ wk_J6_265) dJ6_bitCount_0f7a4_4 ?_
  refine lv_iand hx hb dJ6_bitCount_0f7a4_7 ?_
  refine lv_isub hx hb dJ6_bitCount_0f7a4_8 ?_
  refine lv_topi (fun v1 ev1 => ?_)
  have hf := q_lt ev1 hf
  refine lv_istore_n (lv' := [(0, .int v1)]) hx hb dJ6_bitCount_0f7a4_9 rfl hl (by decide) rfl (fun ls hl => ?_)
  refine lv_iload_n hx hb dJ6_bitCount_0f7a4_10 rfl (lv_at hl 0 rfl) ?_
  refine lv_ldcw (v := (858993459 : Int32)) hx hb hown (hT _ wk_J6_266) dJ6_bitCount_0f7a4_11 ?_
  refine lv_iand hx hb dJ6_bitCount_0f7a4_14 ?_
  refine lv_iload_n hx hb dJ6_bitCount_0f7a4_15 rfl (lv_at hl 0 rfl) ?_
  refine lv_iconst (v := (2 : Int32)) hx hb dJ6_bitCount_0f7a4_16 (by decide) ?_
  refine lv_iushr hx hb dJ6_bitCount_0f7a4_17 rfl ?_
  refine lv_ldcw (v := (858993459 : Int32)) hx hb hown (hT _ wk_J6_266) dJ6_bitCount_0f7a4_18 ?_
  refine lv_iand hx hb dJ6_bitCount_0f7a4_21 ?_
  refine lv_iadd hx hb dJ6_bitCount_0f7a4_22 ?_
  refine lv_topi (fun v2 ev2 => ?_)
  have hf := q_lt ev2 hf
  refine lv_istore_n (lv' := [(0, .int v2)]) hx hb dJ6_bitCount_0f7a4_23 rfl hl (by decide) rfl (fun ls hl => ?_)
  refine lv_iload_n hx hb dJ6_bitCount_0f7a4_24 rfl (lv_at hl 0 rfl) ?_
  refine lv_iload_n hx hb dJ6_bitCount_0f7a4_25 rfl (lv_at hl 0 rfl) ?_
  refine lv_iconst (v := (4 : Int32)) hx hb dJ6_bitCount_0f7a4_26 (by decide) ?_
  refine lv_iushr hx hb dJ6_bitCount_0f7a4_27 rfl ?_
  refine lv_iadd hx hb dJ6_bitCount_0f7a4_28 ?_
  refine lv_ldcw (v := (252645135 : Int32)) hx hb hown (hT _ wk_J6_267) dJ6_bitCount_0f7a4_29 ?_
  refine lv_iand hx hb dJ6_bitCount_0f7a4_32 ?_
  refine lv_topi (fun v3 ev3 => ?_)
  have hf := q_lt ev3 hf
  refine lv_istore_n (lv' := [(0, .int v3)]) hx hb dJ6_bitCount_0f7a4_33 rfl hl (by decide) rfl (fun ls hl => ?_)
  refine lv_iload_n hx hb dJ6_bitCount_0f7a4_34 rfl (lv_at hl 0 rfl) ?_
  refine lv_iload_n hx hb dJ6_bitCount_0f7a4_35 rfl (lv_at hl 0 rfl) ?_
  refine lv_bipush (v := (8 : Int32)) hx hb dJ6_bitCount_0f7a4_36 (by decide) ?_
  refine lv_iushr hx hb dJ6_bitCount_0f7a4_38 rfl ?_
  refine lv_iadd hx hb dJ6_bitCount_0f7a4_39 ?_
  refine lv_topi (fun v4 ev4 => ?_)
  have hf := q_lt ev4 hf
  refine lv_istore_n (lv' := [(0, .int v4)]) hx hb dJ6_bitCount_0f7a4_40 rfl hl (by decide) rfl (fun ls hl => ?_)
  refine lv_iload_n hx hb dJ6_bitCount_0f7a4_41 rfl (lv_at hl 0 rfl) ?_
  refine lv_iload_n hx hb dJ6_bitCount_0f7a4_42 rfl (lv_at hl 0 rfl) ?_
  refine lv_bipush (v := (16 : Int32)) hx hb dJ6_bitCount_0f7a4_43 (by decide) ?_
  refine lv_iushr hx hb dJ6_bitCount_0f7a4_45 rfl ?_
  refine lv_iadd hx hb dJ6_bitCount_0f7a4_46 ?_
  refine lv_topi (fun v5 ev5 => ?_)
  have hf := q_lt ev5 hf
  refine lv_istore_n (lv' := [(0, .int v5)]) hx hb dJ6_bitCount_0f7a4_47 rfl hl (by decide) rfl (fun ls hl => ?_)
  refine lv_iload_n hx hb dJ6_bitCount_0f7a4_48 rfl (lv_at hl 0 rfl) ?_
  refine lv_bipush (v := (63 : Int32)) hx hb dJ6_bitCount_0f7a4_49 (by decide) ?_
  refine lv_iand hx hb dJ6_bitCount_0f7a4_51 ?_
  subst hQ
  exact q_iret hx hb hr hlocks hR hS hz (Option.some.inj hf) rfl dJ6_bitCount_0f7a4_52
/-! X2_alikeAhead -/
def fX2_alikeAhead_L4_B (F : Nat) (X : qH) (a0 : Nat) (a1 : Int32) (self0 : Int32 → Int32 → Option (Int32)) (v1 : Int32) (v2 : Int32) : Option (Int32) :=
if a1 ≤ v2 then (some v1)
else ((qgR X 2 a0 1).bind fun v3 =>
(qaI X 0 v3 v2).bind fun v4 =>
(qgR X 2 a0 1).bind fun v5 =>
(qaI X 0 v5 a1).bind fun v6 =>
(if v4 = v6 then ((qgR X 2 a0 2).bind fun v9 =>
(qaI X 0 v9 v2).bind fun v10 =>
(qgR X 2 a0 2).bind fun v11 =>
(qaI X 0 v11 a1).bind fun v12 =>
if v10 = v12 then (qlt (v1 + (1 : Int32)) fun v13 =>
some v13)
else (some v1))
else (some v1) : Option Int32).bind fun v7 =>
qlt (v2 + (1 : Int32)) fun v8 =>
self0 v7 v8)
def fX2_alikeAhead_L4 (F : Nat) (X : qH) (a0 : Nat) (a1 : Int32) : Nat → Int32 → Int32 → Option (Int32)
  | 0, _, _ => none
  | n + 1, v1, v2 => fX2_alikeAhead_L4_B F X a0 a1 (fX2_alikeAhead_L4 F X a0 a1 n) v1 v2
def fX2_alikeAhead (F : Nat) (X : qH) (a0 : Nat) (a1 : Int32) : Option (Int32) :=
qIs 2 X a0 <|
(fX2_alikeAhead_L4 F X a0 a1 F (0 : Int32) (0 : Int32)).bind fun v14 =>
some v14
abbrev rmX2_alikeAhead : Room := { frames := 0, cells := 0, slots := 0, locals := 0 }
theorem fX2_alikeAhead_is {F : Nat} {X : qH} {a0 : Nat} {a1 : Int32} {r9 : Int32} (h : fX2_alikeAhead F X a0 a1 = some r9) : ∃ fs, X a0 = some (.inr (2, fs)) := (qIs_spec h).1
theorem hdX2_alikeAhead : yX2_alikeAhead.cls = RX2 ∧ yX2_alikeAhead.cls ≠ "java/lang/invoke/MethodHandle" ∧ yX2_alikeAhead.cls ≠ "java/lang/invoke/VarHandle" ∧ (parseMethodDescriptor yX2_alikeAhead.desc).map (fun d => d.parameters.length) = some 1 := by decide +kernel
set_option maxHeartbeats 4000000 in
set_option maxRecDepth 100000 in
theorem mX2_alikeAhead (l : Launch) (D : va_G) (kz : Nat → Nat) (b0 sz F : Nat) (X : qH) (a0 : Nat) (a1 : Int32) (r : Int32) (hf : fX2_alikeAhead F X a0 a1 = some r) : Met l yX2_alikeAhead (qws yX2_alikeAhead cX2_alikeAhead 4 (some .int)) rmX2_alikeAhead (va_Pc [.ref a0, .int a1] (qU D kz b0 sz X)) (va_Qi (fun (r' : Int32) (u : qH) => r' = r ∧ u = X) (fun u t => qO D kz b0 sz u t) (qA b0)) 0 0 (qA b0) := by
  refine q_start (by decide) (Nat.le_of_ble_eq_true rfl) ?_
  intro p e s m args below meth c hx hb hr hlocks hnm hml hown hT hR hK hz ls hl
  have hown : s.vm.findClass RX2 = some m.cls := hown
  have hl : lv_has ls 4 [(0, .ref a0), (1, .int a1)] := hl
  have hS : va_S (qA b0) s.heap s.heap [] := va_S.rf
  obtain ⟨Q, hQ⟩ : ∃ Q, Q = MQ below (va_Qi (fun (r' : Int32) (u : qH) => r' = r ∧ u = X) (fun u t => qO D kz b0 sz u t) (qA b0)) args s 0 0 (qA b0) := ⟨_, rfl⟩
  rw [← hQ]
  unfold fX2_alikeAhead at hf
  obtain ⟨hthis, hf⟩ := qIs_spec hf
  refine lv_iconst (v := (0 : Int32)) hx hb dX2_alikeAhead_0 (by decide) ?_
  refine lv_istore_n (lv' := [(2, .int (0 : Int32)), (0, .ref a0), (1, .int a1)]) hx hb dX2_alikeAhead_1 rfl hl (by decide) rfl (fun ls hl => ?_)
  refine lv_iconst (v := (0 : Int32)) hx hb dX2_alikeAhead_2 (by decide) ?_
  refine lv_istore_n (lv' := [(3, .int (0 : Int32)), (2, .int (0 : Int32)), (0, .ref a0), (1, .int a1)]) hx hb dX2_alikeAhead_3 rfl hl (by decide) rfl (fun ls hl => ?_)
  obtain ⟨v14, ho, hf⟩ := q_b hf
  have hL : ∀ (n : Nat) (v1 : Int32) (v2 : Int32) (out : Int32), fX2_alikeAhead_L4 F X a0 a1 n v1 v2 = some out → (∀ (v14 : Int32), out = v14 → ∀ (H : Heap) (locs : List Loc) (ls : Array Slot), qR D kz b0 X H → va_S (qA b0) s.heap H locs → H.size = sz → lv_has ls 4 [(2, .int v14)] → W p l e rmX2_alikeAhead s m args below meth c H locs 0 0 Q (F0 m 48 ls [])) → ∀ (H : Heap) (locs : List Loc) (ls : Array Slot), qR D kz b0 X H → va_S (qA b0) s.heap H locs → H.size = sz → lv_has ls 4 [(0, .ref a0), (1, .int a1), (2, .int v1), (3, .int v2)] → W p l e rmX2_alikeAhead s m args below meth c H locs 0 0 Q (F0 m 4 ls []) := by
    intro n9
    induction n9 with
    | zero =>
      intro v1 v2 out hf
      exact absurd (show none = some out from hf) (by simp)
    | succ n9 ih0 =>
      intro v1 v2 out hf hex H locs ls hR hS hz hl
      have hf : fX2_alikeAhead_L4_B F X a0 a1 (fX2_alikeAhead_L4 F X a0 a1 n9) v1 v2 = some out := hf
      unfold fX2_alikeAhead_L4_B at hf
      refine lv_iload_n hx hb dX2_alikeAhead_4 rfl (lv_at hl 3 rfl) ?_
      refine lv_iload_n hx hb dX2_alikeAhead_5 rfl (lv_at hl 1 rfl) ?_
      refine lv_icmp_ge (tgt := 48) hx hb dX2_alikeAhead_6 (by decide) (fun hc => ?_) (fun hc => ?_)
      · have hf := q_t hf hc
        exact hex _ (Option.some.inj hf).symm _ _ _ hR hS hz (lv_sub hl [2] rfl)
      · have hf := q_f hf hc
        refine lv_aload_n hx hb dX2_alikeAhead_9 rfl (lv_at hl 0 rfl) ?_
        refine q_gR hx hb hT hown hK hR iqX2 vqX2 1 (by decide) (hT _ wfl_X2_9) hf dX2_alikeAhead_10 (fun v3 hf => ?_)
        refine lv_iload_n hx hb dX2_alikeAhead_13 rfl (lv_at hl 3 rfl) ?_
        refine q_iald hx hb hK hR hf dX2_alikeAhead_14 (fun v4 hf => ?_)
        refine lv_aload_n hx hb dX2_alikeAhead_15 rfl (lv_at hl 0 rfl) ?_
        refine q_gR hx hb hT hown hK hR iqX2 vqX2 1 (by decide) (hT _ wfl_X2_9) hf dX2_alikeAhead_16 (fun v5 hf => ?_)
        refine lv_iload_n hx hb dX2_alikeAhead_19 rfl (lv_at hl 1 rfl) ?_
        refine q_iald hx hb hK hR hf dX2_alikeAhead_20 (fun v6 hf => ?_)
        obtain ⟨v7, hp, hf⟩ := q_b hf
        have hJ : ∀ (H : Heap) (locs : List Loc) (ls : Array Slot), qR D kz b0 X H → va_S (qA b0) s.heap H locs → H.size = sz → lv_has ls 4 [(0, .ref a0), (1, .int a1), (2, .int v7), (3, .int v2)] → W p l e rmX2_alikeAhead s m args below meth c H locs 0 0 Q (F0 m 42 ls []) := by
          intro H locs ls hR hS hz hl
          obtain ⟨v8, ev8⟩ : ∃ y : Int32, y = (v2 + (1 : Int32)) := ⟨_, rfl⟩
          have hf := q_lt ev8 hf
          refine lv_iinc (v := v8) (lv' := [(3, .int v8), (0, .ref a0), (1, .int a1), (2, .int v7)]) hx hb dX2_alikeAhead_42 hl (k := 3) rfl (by rw [ev8]; rfl) (by decide) rfl (fun ls hl => ?_)
          refine lv_goto (tgt := 4) hx hb dX2_alikeAhead_45 (by decide) ?_
          exact ih0 _ _ out hf hex _ _ _ hR hS hz (lv_sub hl [1, 2, 3, 0] rfl)
        have hf := hp
        refine lv_icmp_ne (tgt := 42) hx hb dX2_alikeAhead_21 (by decide) (fun hc => ?_) (fun hc => ?_)
        · have hf := q_f hf hc
          cases hf
          exact hJ _ _ _ hR hS hz (lv_sub hl [0, 1, 2, 3] rfl)
        · have hf := q_t hf hc
          refine lv_aload_n hx hb dX2_alikeAhead_24 rfl (lv_at hl 0 rfl) ?_
          refine q_gR hx hb hT hown hK hR iqX2 vqX2 2 (by decide) (hT _ wfl_X2_15) hf dX2_alikeAhead_25 (fun v9 hf => ?_)
          refine lv_iload_n hx hb dX2_alikeAhead_28 rfl (lv_at hl 3 rfl) ?_
          refine q_iald hx hb hK hR hf dX2_alikeAhead_29 (fun v10 hf => ?_)
          refine lv_aload_n hx hb dX2_alikeAhead_30 rfl (lv_at hl 0 rfl) ?_
          refine q_gR hx hb hT hown hK hR iqX2 vqX2 2 (by decide) (hT _ wfl_X2_15) hf dX2_alikeAhead_31 (fun v11 hf => ?_)
          refine lv_iload_n hx hb dX2_alikeAhead_34 rfl (lv_at hl 1 rfl) ?_
          refine q_iald hx hb hK hR hf dX2_alikeAhead_35 (fun v12 hf => ?_)
          refine lv_icmp_ne (tgt := 42) hx hb dX2_alikeAhead_36 (by decide) (fun hc => ?_) (fun hc => ?_)
          · have hf := q_f hf hc
            cases hf
            exact hJ _ _ _ hR hS hz (lv_sub hl [0, 1, 2, 3] rfl)
          · have hf := q_t hf hc
            obtain ⟨v13, ev13⟩ : ∃ y : Int32, y = (v1 + (1 : Int32)) := ⟨_, rfl⟩
            have hf := q_lt ev13 hf
            refine lv_iinc (v := v13) (lv' := [(2, .int v13), (0, .ref a0), (1, .int a1), (3, .int v2)]) hx hb dX2_alikeAhead_39 hl (k := 2) rfl (by rw [ev13]; rfl) (by decide) rfl (fun ls hl => ?_)
            cases hf
            exact hJ _ _ _ hR hS hz (lv_sub hl [1, 2, 0, 3] rfl)
  refine hL F _ _ _ ho (fun z0 h9 => ?_) _ _ _ hR hS hz (lv_sub hl [2, 3, 1, 0] rfl)
  cases h9
  intro H locs ls hR hS hz hl
  refine lv_iload_n hx hb dX2_alikeAhead_48 rfl (lv_at hl 0 rfl) ?_
  subst hQ
  exact q_iret hx hb hr hlocks hR hS hz (Option.some.inj hf) rfl dX2_alikeAhead_49
/-! X2_ways -/
def fX2_ways_L5_B (F : Nat) (X : qH) (a0 : Nat) (a1 : Nat) (a2 : Nat) (self0 : Int32 → Int32 → Option (Int32)) (v1 : Int32) (v2 : Int32) : Option (Int32) :=
(qgI X 2 a0 0).bind fun v3 =>
if v3 ≤ v2 then (some v1)
else ((qgR X 2 a0 2).bind fun v4 =>
(qaI X 0 v4 v2).bind fun v5 =>
(fX3_housesOver F X a2 a1 v5).bind fun v6 =>
(fJ6_bitCount_0f7a4 F X v6).bind fun v7 =>
(fX2_alikeAhead F X a0 v2).bind fun v8 =>
qlt (if (0 : Int32) < (v7 - v8) then (v7 - v8) else (0 : Int32)) fun v9 =>
qlt (v1 * v9) fun v10 =>
qlt (v2 + (1 : Int32)) fun v11 =>
self0 v10 v11)
def fX2_ways_L5 (F : Nat) (X : qH) (a0 : Nat) (a1 : Nat) (a2 : Nat) : Nat → Int32 → Int32 → Option (Int32)
  | 0, _, _ => none
  | n + 1, v1, v2 => fX2_ways_L5_B F X a0 a1 a2 (fX2_ways_L5 F X a0 a1 a2 n) v1 v2
def fX2_ways (F : Nat) (X : qH) (a0 : Nat) (a1 : Nat) (a2 : Nat) : Option (Int32) :=
qIs 2 X a0 <|
(fX2_ways_L5 F X a0 a1 a2 F (1 : Int32) (0 : Int32)).bind fun v12 =>
some v12
abbrev rmX2_ways : Room := { frames := 3, cells := 0, slots := 0, locals := 67 }
theorem fX2_ways_is {F : Nat} {X : qH} {a0 : Nat} {a1 : Nat} {a2 : Nat} {r9 : Int32} (h : fX2_ways F X a0 a1 a2 = some r9) : ∃ fs, X a0 = some (.inr (2, fs)) := (qIs_spec h).1
theorem hdX2_ways : yX2_ways.cls = RX2 ∧ yX2_ways.cls ≠ "java/lang/invoke/MethodHandle" ∧ yX2_ways.cls ≠ "java/lang/invoke/VarHandle" ∧ (parseMethodDescriptor yX2_ways.desc).map (fun d => d.parameters.length) = some 2 := by decide +kernel
set_option maxHeartbeats 4000000 in
set_option maxRecDepth 100000 in
theorem mX2_ways (l : Launch) (D : va_G) (kz : Nat → Nat) (b0 sz F : Nat) (X : qH) (a0 : Nat) (a1 : Nat) (a2 : Nat) (r : Int32) (hf : fX2_ways F X a0 a1 a2 = some r) : Met l yX2_ways (qws yX2_ways cX2_ways 6 (some .int)) rmX2_ways (va_Pc [.ref a0, .ref a1, .ref a2] (qU D kz b0 sz X)) (va_Qi (fun (r' : Int32) (u : qH) => r' = r ∧ u = X) (fun u t => qO D kz b0 sz u t) (qA b0)) 0 0 (qA b0) := by
  refine q_start (by decide) (Nat.le_of_ble_eq_true rfl) ?_
  intro p e s m args below meth c hx hb hr hlocks hnm hml hown hT hR hK hz ls hl
  have hown : s.vm.findClass RX2 = some m.cls := hown
  have hl : lv_has ls 6 [(0, .ref a0), (1, .ref a1), (2, .ref a2)] := hl
  have hS : va_S (qA b0) s.heap s.heap [] := va_S.rf
  obtain ⟨Q, hQ⟩ : ∃ Q, Q = MQ below (va_Qi (fun (r' : Int32) (u : qH) => r' = r ∧ u = X) (fun u t => qO D kz b0 sz u t) (qA b0)) args s 0 0 (qA b0) := ⟨_, rfl⟩
  rw [← hQ]
  unfold fX2_ways at hf
  obtain ⟨hthis, hf⟩ := qIs_spec hf
  refine lv_iconst (v := (1 : Int32)) hx hb dX2_ways_0 (by decide) ?_
  refine lv_istore_n (lv' := [(3, .int (1 : Int32)), (0, .ref a0), (1, .ref a1), (2, .ref a2)]) hx hb dX2_ways_1 rfl hl (by decide) rfl (fun ls hl => ?_)
  refine lv_iconst (v := (0 : Int32)) hx hb dX2_ways_2 (by decide) ?_
  refine lv_istore (lv' := [(4, .int (0 : Int32)), (3, .int (1 : Int32)), (0, .ref a0), (1, .ref a1), (2, .ref a2)]) hx hb dX2_ways_3 hl (by decide) rfl (fun ls hl => ?_)
  obtain ⟨v12, ho, hf⟩ := q_b hf
  have hL : ∀ (n : Nat) (v1 : Int32) (v2 : Int32) (out : Int32), fX2_ways_L5 F X a0 a1 a2 n v1 v2 = some out → (∀ (v12 : Int32), out = v12 → ∀ (H : Heap) (locs : List Loc) (ls : Array Slot), qR D kz b0 X H → va_S (qA b0) s.heap H locs → H.size = sz → lv_has ls 6 [(3, .int v12)] → W p l e rmX2_ways s m args below meth c H locs 0 0 Q (F0 m 53 ls [])) → ∀ (H : Heap) (locs : List Loc) (ls : Array Slot), qR D kz b0 X H → va_S (qA b0) s.heap H locs → H.size = sz → lv_has ls 6 [(0, .ref a0), (1, .ref a1), (2, .ref a2), (3, .int v1), (4, .int v2)] → W p l e rmX2_ways s m args below meth c H locs 0 0 Q (F0 m 5 ls []) := by
    intro n9
    induction n9 with
    | zero =>
      intro v1 v2 out hf
      exact absurd (show none = some out from hf) (by simp)
    | succ n9 ih0 =>
      intro v1 v2 out hf hex H locs ls hR hS hz hl
      have hf : fX2_ways_L5_B F X a0 a1 a2 (fX2_ways_L5 F X a0 a1 a2 n9) v1 v2 = some out := hf
      unfold fX2_ways_L5_B at hf
      refine lv_iload hx hb dX2_ways_5 (lv_at hl 4 rfl) ?_
      refine lv_aload_n hx hb dX2_ways_7 rfl (lv_at hl 0 rfl) ?_
      refine q_gI hx hb hT hown hK hR iqX2 vqX2 0 (by decide) (hT _ wfl_X2_18) hf dX2_ways_8 (fun v3 hf => ?_)
      refine lv_icmp_ge (tgt := 53) hx hb dX2_ways_11 (by decide) (fun hc => ?_) (fun hc => ?_)
      · have hf := q_t hf hc
        exact hex _ (Option.some.inj hf).symm _ _ _ hR hS hz (lv_sub hl [3] rfl)
      · have hf := q_f hf hc
        refine lv_aload_n hx hb dX2_ways_14 rfl (lv_at hl 2 rfl) ?_
        refine lv_aload_n hx hb dX2_ways_15 rfl (lv_at hl 1 rfl) ?_
        refine lv_aload_n hx hb dX2_ways_16 rfl (lv_at hl 0 rfl) ?_
        refine q_gR hx hb hT hown hK hR iqX2 vqX2 2 (by decide) (hT _ wfl_X2_15) hf dX2_ways_17 (fun v4 hf => ?_)
        refine lv_iload hx hb dX2_ways_20 (lv_at hl 4 rfl) ?_
        refine q_iald hx hb hK hR hf dX2_ways_22 (fun v5 hf => ?_)
        obtain ⟨v6, hc, hf⟩ := q_b hf
        refine q_calli (va_runV (As := [.ref a1, .int v5]) (rest := []) ⟨hx, hb, hml, hown, hT⟩ (mX3_housesOver l D kz b0 sz F X a2 a1 v5 v6 hc) (cwV 2 hT (q_gV wco_X3_housesOver wml_X2_22 wim_X3_housesOver wse_X3_housesOver win_X3) rfl rfl rfl hdX3_housesOver ⟨Nat.le_of_ble_eq_true rfl, Nat.le_of_ble_eq_true rfl⟩) (q_preV vqX3 (fX3_housesOver_is hc) hR hK hz) rfl rfl hl.1 rfl (lv_room (Nat.le_of_ble_eq_true rfl)) dX2_ways_23 ⟨Nat.le_of_ble_eq_true rfl, Nat.le_of_ble_eq_true rfl⟩) hS (fun H locs hR hS hz => ?_)
        obtain ⟨v7, hc, hf⟩ := q_b hf
        refine q_calli (va_runS (As := [.int v6]) (rest := []) ⟨hx, hb, hml, hown, hT⟩ (mJ6_bitCount_0f7a4 l D kz b0 sz F X v6 v7 hc) (va_cwS 1 hT (q_gS wco_J6_bitCount_0f7a4 wml_X2_28 wst_J6_bitCount_0f7a4 win_J6) rfl rfl rfl hdJ6_bitCount_0f7a4 ⟨Nat.le_of_ble_eq_true rfl, Nat.le_of_ble_eq_true rfl⟩) (q_preS hR hK hz) rfl rfl hl.1 rfl (lv_room (Nat.le_of_ble_eq_true rfl)) dX2_ways_26 ⟨Nat.le_of_ble_eq_true rfl, Nat.le_of_ble_eq_true rfl⟩) hS (fun H locs hR hS hz => ?_)
        refine lv_istore (lv' := [(5, .int v7), (0, .ref a0), (1, .ref a1), (2, .ref a2), (3, .int v1), (4, .int v2)]) hx hb dX2_ways_29 hl (by decide) rfl (fun ls hl => ?_)
        refine lv_iload_n hx hb dX2_ways_31 rfl (lv_at hl 4 rfl) ?_
        refine lv_iconst (v := (0 : Int32)) hx hb dX2_ways_32 (by decide) ?_
        refine lv_iload hx hb dX2_ways_33 (lv_at hl 0 rfl) ?_
        refine lv_aload_n hx hb dX2_ways_35 rfl (lv_at hl 1 rfl) ?_
        refine lv_iload hx hb dX2_ways_36 (lv_at hl 5 rfl) ?_
        obtain ⟨v8, hc, hf⟩ := q_b hf
        refine q_calli (va_runV (As := [.int v2]) (rest := [.int v7, .int (0 : Int32), .int v1]) ⟨hx, hb, hml, hown, hT⟩ (mX2_alikeAhead l D kz b0 sz F X a0 v2 v8 hc) (cwV 1 hT (q_gV wco_X2_alikeAhead wml_X2_34 wim_X2_alikeAhead wse_X2_alikeAhead win_X2) rfl rfl rfl hdX2_alikeAhead ⟨Nat.le_of_ble_eq_true rfl, Nat.le_of_ble_eq_true rfl⟩) (q_preV vqX2 (fX2_alikeAhead_is hc) hR hK hz) rfl rfl hl.1 rfl (lv_room (Nat.le_of_ble_eq_true rfl)) dX2_ways_38 ⟨Nat.le_of_ble_eq_true rfl, Nat.le_of_ble_eq_true rfl⟩) hS (fun H locs hR hS hz => ?_)
        refine lv_isub hx hb dX2_ways_41 ?_
        refine va_mmax hx hb (hml.trans hl.1.symm) hown (hT _ wml_X2_37) (hT _ wst_Mmax) (hT _ win_Math) (hT _ wco_Mmax) (Nat.le_of_ble_eq_true rfl) (Nat.le_of_ble_eq_true rfl) (Nat.le_of_ble_eq_true rfl) (Nat.le_of_ble_eq_true rfl) dX2_ways_42 ?_
        refine lv_topi (fun v9 ev9 => ?_)
        have hf := q_lt ev9 hf
        refine lv_imul hx hb dX2_ways_45 ?_
        refine lv_topi (fun v10 ev10 => ?_)
        have hf := q_lt ev10 hf
        refine lv_istore_n (lv' := [(3, .int v10), (5, .int v7), (0, .ref a0), (1, .ref a1), (2, .ref a2), (4, .int v2)]) hx hb dX2_ways_46 rfl hl (by decide) rfl (fun ls hl => ?_)
        obtain ⟨v11, ev11⟩ : ∃ y : Int32, y = (v2 + (1 : Int32)) := ⟨_, rfl⟩
        have hf := q_lt ev11 hf
        refine lv_iinc (v := v11) (lv' := [(4, .int v11), (3, .int v10), (5, .int v7), (0, .ref a0), (1, .ref a1), (2, .ref a2)]) hx hb dX2_ways_47 hl (k := 5) rfl (by rw [ev11]; rfl) (by decide) rfl (fun ls hl => ?_)
        refine lv_goto (tgt := 5) hx hb dX2_ways_50 (by decide) ?_
        exact ih0 _ _ out hf hex _ _ _ hR hS hz (lv_sub hl [3, 4, 5, 1, 0] rfl)
  refine hL F _ _ _ ho (fun z0 h9 => ?_) _ _ _ hR hS hz (lv_sub hl [2, 3, 4, 1, 0] rfl)
  cases h9
  intro H locs ls hR hS hz hl
  refine lv_iload_n hx hb dX2_ways_53 rfl (lv_at hl 0 rfl) ?_
  subst hQ
  exact q_iret hx hb hr hlocks hR hS hz (Option.some.inj hf) rfl dX2_ways_54
