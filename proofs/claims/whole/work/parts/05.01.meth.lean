/-! X3_begin -/
def fX3_begin_L28_B (F : Nat) (a0 : Nat) (a1 : Nat) (self0 : Int32 → qH → Option (qH)) (v7 : Int32) (X8 : qH) : Option (qH) :=
if (8 : Int32) ≤ v7 then (some X8)
else ((qgR X8 3 a0 4).bind fun v9 =>
(qgI X8 0 a1 5).bind fun v10 =>
(if v10 ≤ v7 then (some (0 : Int32))
else ((qgR X8 0 a1 8).bind fun v20 =>
(qaI X8 0 v20 v7).bind fun v21 =>
some v21) : Option Int32).bind fun v11 =>
(qaS X8 0 v9 v7 v11).bind fun X12 =>
(qgR X12 3 a0 5).bind fun v13 =>
(qaS X12 0 v13 v7 (-1 : Int32)).bind fun X14 =>
(qgR X14 3 a0 6).bind fun v15 =>
(qaS X14 0 v15 v7 (-1 : Int32)).bind fun X16 =>
(qgR X16 3 a0 7).bind fun v17 =>
(qaS X16 0 v17 v7 (0 : Int32)).bind fun X18 =>
qlt (v7 + (1 : Int32)) fun v19 =>
self0 v19 X18)
def fX3_begin_L28 (F : Nat) (a0 : Nat) (a1 : Nat) : Nat → Int32 → qH → Option (qH)
  | 0, _, _ => none
  | n + 1, v7, X8 => fX3_begin_L28_B F a0 a1 (fX3_begin_L28 F a0 a1 n) v7 X8
def fX3_begin (F : Nat) (X : qH) (a0 : Nat) (a1 : Nat) : Option (qH) :=
qIs 3 X a0 <|
(qpI X 3 a0 0 (0 : Int32)).bind fun X1 =>
(qgI X1 0 a1 1).bind fun v2 =>
(qpI X1 3 a0 1 v2).bind fun X3 =>
(qgI X3 0 a1 2).bind fun v4 =>
(qpI X3 3 a0 2 v4).bind fun X5 =>
(qpI X5 3 a0 3 (0 : Int32)).bind fun X6 =>
(fX3_begin_L28 F a0 a1 F (0 : Int32) X6).bind fun X22 =>
some X22
abbrev rmX3_begin : Room := { frames := 0, cells := 0, slots := 0, locals := 0 }
theorem fX3_begin_is {F : Nat} {X : qH} {a0 : Nat} {a1 : Nat} {r9 : qH} (h : fX3_begin F X a0 a1 = some r9) : ∃ fs, X a0 = some (.inr (3, fs)) := (qIs_spec h).1
theorem hdX3_begin : yX3_begin.cls = RX3 ∧ yX3_begin.cls ≠ "java/lang/invoke/MethodHandle" ∧ yX3_begin.cls ≠ "java/lang/invoke/VarHandle" ∧ (parseMethodDescriptor yX3_begin.desc).map (fun d => d.parameters.length) = some 1 := by decide +kernel
set_option maxHeartbeats 4000000 in
set_option maxRecDepth 100000 in
theorem mX3_begin (l : Launch) (D : va_G) (kz : Nat → Nat) (b0 sz F : Nat) (X : qH) (a0 : Nat) (a1 : Nat)  (Xr : qH) (hf : fX3_begin F X a0 a1 = some Xr) : Met l yX3_begin (qws yX3_begin cX3_begin 3 none) rmX3_begin (va_Pc [.ref a0, .ref a1] (qU D kz b0 sz X)) (va_Qv (fun (u : qH) => u = Xr) (fun u t => qO D kz b0 sz u t) (qA b0)) 0 0 (qA b0) := by
  refine q_start (by decide) (Nat.le_of_ble_eq_true rfl) ?_
  intro p e s m args below meth c hx hb hr hlocks hnm hml hown hT hR hK hz ls hl
  have hown : s.vm.findClass RX3 = some m.cls := hown
  have hl : lv_has ls 3 [(0, .ref a0), (1, .ref a1)] := hl
  have hS : va_S (qA b0) s.heap s.heap [] := va_S.rf
  obtain ⟨Q, hQ⟩ : ∃ Q, Q = MQ below (va_Qv (fun (u : qH) => u = Xr) (fun u t => qO D kz b0 sz u t) (qA b0)) args s 0 0 (qA b0) := ⟨_, rfl⟩
  rw [← hQ]
  unfold fX3_begin at hf
  obtain ⟨hthis, hf⟩ := qIs_spec hf
  refine lv_aload_n hx hb dX3_begin_0 rfl (lv_at hl 0 rfl) ?_
  refine lv_iconst (v := (0 : Int32)) hx hb dX3_begin_1 (by decide) ?_
  refine q_pI hx hb hT hown hK hR hS hz iqX3 vqX3 tyX3_ok nmX3 0 (by decide) (hT _ wfl_X3_24) rfl rfl hf dX3_begin_2 (fun X1 hf H locs hR hS hz => ?_)
  refine lv_aload_n hx hb dX3_begin_5 rfl (lv_at hl 0 rfl) ?_
  refine lv_aload_n hx hb dX3_begin_6 rfl (lv_at hl 1 rfl) ?_
  refine q_gI hx hb hT hown hK hR iqX0 vqX0 1 (by decide) (hT _ wfl_X3_28) hf dX3_begin_7 (fun v2 hf => ?_)
  refine q_pI hx hb hT hown hK hR hS hz iqX3 vqX3 tyX3_ok nmX3 1 (by decide) (hT _ wfl_X3_33) rfl rfl hf dX3_begin_10 (fun X3 hf H locs hR hS hz => ?_)
  refine lv_aload_n hx hb dX3_begin_13 rfl (lv_at hl 0 rfl) ?_
  refine lv_aload_n hx hb dX3_begin_14 rfl (lv_at hl 1 rfl) ?_
  refine q_gI hx hb hT hown hK hR iqX0 vqX0 2 (by decide) (hT _ wfl_X3_36) hf dX3_begin_15 (fun v4 hf => ?_)
  refine q_pI hx hb hT hown hK hR hS hz iqX3 vqX3 tyX3_ok nmX3 2 (by decide) (hT _ wfl_X3_39) rfl rfl hf dX3_begin_18 (fun X5 hf H locs hR hS hz => ?_)
  refine lv_aload_n hx hb dX3_begin_21 rfl (lv_at hl 0 rfl) ?_
  refine lv_iconst (v := (0 : Int32)) hx hb dX3_begin_22 (by decide) ?_
  refine q_pI hx hb hT hown hK hR hS hz iqX3 vqX3 tyX3_ok nmX3 3 (by decide) (hT _ wfl_X3_42) rfl rfl hf dX3_begin_23 (fun X6 hf H locs hR hS hz => ?_)
  refine lv_iconst (v := (0 : Int32)) hx hb dX3_begin_26 (by decide) ?_
  refine lv_istore_n (lv' := [(2, .int (0 : Int32)), (0, .ref a0), (1, .ref a1)]) hx hb dX3_begin_27 rfl hl (by decide) rfl (fun ls hl => ?_)
  obtain ⟨X22, ho, hf⟩ := q_b hf
  have hL : ∀ (n : Nat) (v7 : Int32) (X8 : qH) (out : qH), fX3_begin_L28 F a0 a1 n v7 X8 = some out → (∀ (X22 : qH), out = X22 → ∀ (H : Heap) (locs : List Loc) (ls : Array Slot), qR D kz b0 X22 H → va_S (qA b0) s.heap H locs → H.size = sz → lv_has ls 3 [] → W p l e rmX3_begin s m args below meth c H locs 0 0 Q (F0 m 85 ls [])) → ∀ (H : Heap) (locs : List Loc) (ls : Array Slot), qR D kz b0 X8 H → va_S (qA b0) s.heap H locs → H.size = sz → lv_has ls 3 [(0, .ref a0), (1, .ref a1), (2, .int v7)] → W p l e rmX3_begin s m args below meth c H locs 0 0 Q (F0 m 28 ls []) := by
    intro n9
    induction n9 with
    | zero =>
      intro v7 X8 out hf
      exact absurd (show none = some out from hf) (by simp)
    | succ n9 ih0 =>
      intro v7 X8 out hf hex H locs ls hR hS hz hl
      have hf : fX3_begin_L28_B F a0 a1 (fX3_begin_L28 F a0 a1 n9) v7 X8 = some out := hf
      unfold fX3_begin_L28_B at hf
      refine lv_iload_n hx hb dX3_begin_28 rfl (lv_at hl 2 rfl) ?_
      refine lv_bipush (v := (8 : Int32)) hx hb dX3_begin_29 (by decide) ?_
      refine lv_icmp_ge (tgt := 85) hx hb dX3_begin_31 (by decide) (fun hc => ?_) (fun hc => ?_)
      · have hf := q_t hf hc
        exact hex _ (Option.some.inj hf).symm _ _ _ hR hS hz (lv_sub hl [] rfl)
      · have hf := q_f hf hc
        refine lv_aload_n hx hb dX3_begin_34 rfl (lv_at hl 0 rfl) ?_
        refine q_gR hx hb hT hown hK hR iqX3 vqX3 4 (by decide) (hT _ wfl_X3_9) hf dX3_begin_35 (fun v9 hf => ?_)
        refine lv_iload_n hx hb dX3_begin_38 rfl (lv_at hl 2 rfl) ?_
        refine lv_iload_n hx hb dX3_begin_39 rfl (lv_at hl 2 rfl) ?_
        refine lv_aload_n hx hb dX3_begin_40 rfl (lv_at hl 1 rfl) ?_
        refine q_gI hx hb hT hown hK hR iqX0 vqX0 5 (by decide) (hT _ wfl_X3_45) hf dX3_begin_41 (fun v10 hf => ?_)
        obtain ⟨v11, hp, hf⟩ := q_b hf
        have hJ : ∀ (H : Heap) (locs : List Loc) (ls : Array Slot), qR D kz b0 X8 H → va_S (qA b0) s.heap H locs → H.size = sz → lv_has ls 3 [(0, .ref a0), (1, .ref a1), (2, .int v7)] → W p l e rmX3_begin s m args below meth c H locs 0 0 Q (F0 m 57 ls [.int v11, .int v7, .ref v9]) := by
          intro H locs ls hR hS hz hl
          refine q_iast hx hb hK hR hS hz hf dX3_begin_57 (fun X12 hf H locs hR hS hz => ?_)
          refine lv_aload_n hx hb dX3_begin_58 rfl (lv_at hl 0 rfl) ?_
          refine q_gR hx hb hT hown hK hR iqX3 vqX3 5 (by decide) (hT _ wfl_X3_15) hf dX3_begin_59 (fun v13 hf => ?_)
          refine lv_iload_n hx hb dX3_begin_62 rfl (lv_at hl 2 rfl) ?_
          refine lv_iconst (v := (-1 : Int32)) hx hb dX3_begin_63 (by decide) ?_
          refine q_iast hx hb hK hR hS hz hf dX3_begin_64 (fun X14 hf H locs hR hS hz => ?_)
          refine lv_aload_n hx hb dX3_begin_65 rfl (lv_at hl 0 rfl) ?_
          refine q_gR hx hb hT hown hK hR iqX3 vqX3 6 (by decide) (hT _ wfl_X3_18) hf dX3_begin_66 (fun v15 hf => ?_)
          refine lv_iload_n hx hb dX3_begin_69 rfl (lv_at hl 2 rfl) ?_
          refine lv_iconst (v := (-1 : Int32)) hx hb dX3_begin_70 (by decide) ?_
          refine q_iast hx hb hK hR hS hz hf dX3_begin_71 (fun X16 hf H locs hR hS hz => ?_)
          refine lv_aload_n hx hb dX3_begin_72 rfl (lv_at hl 0 rfl) ?_
          refine q_gR hx hb hT hown hK hR iqX3 vqX3 7 (by decide) (hT _ wfl_X3_21) hf dX3_begin_73 (fun v17 hf => ?_)
          refine lv_iload_n hx hb dX3_begin_76 rfl (lv_at hl 2 rfl) ?_
          refine lv_iconst (v := (0 : Int32)) hx hb dX3_begin_77 (by decide) ?_
          refine q_iast hx hb hK hR hS hz hf dX3_begin_78 (fun X18 hf H locs hR hS hz => ?_)
          obtain ⟨v19, ev19⟩ : ∃ y : Int32, y = (v7 + (1 : Int32)) := ⟨_, rfl⟩
          have hf := q_lt ev19 hf
          refine lv_iinc (v := v19) (lv' := [(2, .int v19), (0, .ref a0), (1, .ref a1)]) hx hb dX3_begin_79 hl (k := 2) rfl (by rw [ev19]; rfl) (by decide) rfl (fun ls hl => ?_)
          refine lv_goto (tgt := 28) hx hb dX3_begin_82 (by decide) ?_
          exact ih0 _ _ out hf hex _ _ _ hR hS hz (lv_sub hl [1, 2, 0] rfl)
        have hf := hp
        refine lv_icmp_ge (tgt := 56) hx hb dX3_begin_44 (by decide) (fun hc => ?_) (fun hc => ?_)
        · have hf := q_t hf hc
          refine lv_iconst (v := (0 : Int32)) hx hb dX3_begin_56 (by decide) ?_
          cases hf
          exact hJ _ _ _ hR hS hz (lv_sub hl [0, 1, 2] rfl)
        · have hf := q_f hf hc
          refine lv_aload_n hx hb dX3_begin_47 rfl (lv_at hl 1 rfl) ?_
          refine q_gR hx hb hT hown hK hR iqX0 vqX0 8 (by decide) (hT _ wfl_X3_48) hf dX3_begin_48 (fun v20 hf => ?_)
          refine lv_iload_n hx hb dX3_begin_51 rfl (lv_at hl 2 rfl) ?_
          refine q_iald hx hb hK hR hf dX3_begin_52 (fun v21 hf => ?_)
          refine lv_goto (tgt := 57) hx hb dX3_begin_53 (by decide) ?_
          cases hf
          exact hJ _ _ _ hR hS hz (lv_sub hl [0, 1, 2] rfl)
  refine hL F _ _ _ ho (fun z0 h9 => ?_) _ _ _ hR hS hz (lv_sub hl [1, 2, 0] rfl)
  cases h9
  intro H locs ls hR hS hz hl
  subst hQ
  exact q_vret hx hb hr hlocks hR hS hz (Option.some.inj hf) dX3_begin_85
/-! X3_signedAs -/
def fX3_signedAs (F : Nat) (X : qH) (a0 : Nat) (a1 : Int32) (a2 : Nat) : Option (qH) :=
qIs 3 X a0 <|
(qgR X 3 a0 5).bind fun v1 =>
(qgR X 3 a2 5).bind fun v2 =>
(qaI X 0 v2 a1).bind fun v3 =>
(qaS X 0 v1 a1 v3).bind fun X4 =>
(qgR X4 3 a0 6).bind fun v5 =>
(qgR X4 3 a2 6).bind fun v6 =>
(qaI X4 0 v6 a1).bind fun v7 =>
(qaS X4 0 v5 a1 v7).bind fun X8 =>
(qgR X8 3 a0 7).bind fun v9 =>
(qgR X8 3 a2 7).bind fun v10 =>
(qaI X8 0 v10 a1).bind fun v11 =>
(qaS X8 0 v9 a1 v11).bind fun X12 =>
some X12
abbrev rmX3_signedAs : Room := { frames := 0, cells := 0, slots := 0, locals := 0 }
theorem fX3_signedAs_is {F : Nat} {X : qH} {a0 : Nat} {a1 : Int32} {a2 : Nat} {r9 : qH} (h : fX3_signedAs F X a0 a1 a2 = some r9) : ∃ fs, X a0 = some (.inr (3, fs)) := (qIs_spec h).1
theorem hdX3_signedAs : yX3_signedAs.cls = RX3 ∧ yX3_signedAs.cls ≠ "java/lang/invoke/MethodHandle" ∧ yX3_signedAs.cls ≠ "java/lang/invoke/VarHandle" ∧ (parseMethodDescriptor yX3_signedAs.desc).map (fun d => d.parameters.length) = some 2 := by decide +kernel
set_option maxHeartbeats 4000000 in
set_option maxRecDepth 100000 in
theorem mX3_signedAs (l : Launch) (D : va_G) (kz : Nat → Nat) (b0 sz F : Nat) (X : qH) (a0 : Nat) (a1 : Int32) (a2 : Nat)  (Xr : qH) (hf : fX3_signedAs F X a0 a1 a2 = some Xr) : Met l yX3_signedAs (qws yX3_signedAs cX3_signedAs 3 none) rmX3_signedAs (va_Pc [.ref a0, .int a1, .ref a2] (qU D kz b0 sz X)) (va_Qv (fun (u : qH) => u = Xr) (fun u t => qO D kz b0 sz u t) (qA b0)) 0 0 (qA b0) := by
  refine q_start (by decide) (Nat.le_of_ble_eq_true rfl) ?_
  intro p e s m args below meth c hx hb hr hlocks hnm hml hown hT hR hK hz ls hl
  have hown : s.vm.findClass RX3 = some m.cls := hown
  have hl : lv_has ls 3 [(0, .ref a0), (1, .int a1), (2, .ref a2)] := hl
  have hS : va_S (qA b0) s.heap s.heap [] := va_S.rf
  obtain ⟨Q, hQ⟩ : ∃ Q, Q = MQ below (va_Qv (fun (u : qH) => u = Xr) (fun u t => qO D kz b0 sz u t) (qA b0)) args s 0 0 (qA b0) := ⟨_, rfl⟩
  rw [← hQ]
  unfold fX3_signedAs at hf
  obtain ⟨hthis, hf⟩ := qIs_spec hf
  refine lv_aload_n hx hb dX3_signedAs_0 rfl (lv_at hl 0 rfl) ?_
  refine q_gR hx hb hT hown hK hR iqX3 vqX3 5 (by decide) (hT _ wfl_X3_15) hf dX3_signedAs_1 (fun v1 hf => ?_)
  refine lv_iload_n hx hb dX3_signedAs_4 rfl (lv_at hl 1 rfl) ?_
  refine lv_aload_n hx hb dX3_signedAs_5 rfl (lv_at hl 2 rfl) ?_
  refine q_gR hx hb hT hown hK hR iqX3 vqX3 5 (by decide) (hT _ wfl_X3_15) hf dX3_signedAs_6 (fun v2 hf => ?_)
  refine lv_iload_n hx hb dX3_signedAs_9 rfl (lv_at hl 1 rfl) ?_
  refine q_iald hx hb hK hR hf dX3_signedAs_10 (fun v3 hf => ?_)
  refine q_iast hx hb hK hR hS hz hf dX3_signedAs_11 (fun X4 hf H locs hR hS hz => ?_)
  refine lv_aload_n hx hb dX3_signedAs_12 rfl (lv_at hl 0 rfl) ?_
  refine q_gR hx hb hT hown hK hR iqX3 vqX3 6 (by decide) (hT _ wfl_X3_18) hf dX3_signedAs_13 (fun v5 hf => ?_)
  refine lv_iload_n hx hb dX3_signedAs_16 rfl (lv_at hl 1 rfl) ?_
  refine lv_aload_n hx hb dX3_signedAs_17 rfl (lv_at hl 2 rfl) ?_
  refine q_gR hx hb hT hown hK hR iqX3 vqX3 6 (by decide) (hT _ wfl_X3_18) hf dX3_signedAs_18 (fun v6 hf => ?_)
  refine lv_iload_n hx hb dX3_signedAs_21 rfl (lv_at hl 1 rfl) ?_
  refine q_iald hx hb hK hR hf dX3_signedAs_22 (fun v7 hf => ?_)
  refine q_iast hx hb hK hR hS hz hf dX3_signedAs_23 (fun X8 hf H locs hR hS hz => ?_)
  refine lv_aload_n hx hb dX3_signedAs_24 rfl (lv_at hl 0 rfl) ?_
  refine q_gR hx hb hT hown hK hR iqX3 vqX3 7 (by decide) (hT _ wfl_X3_21) hf dX3_signedAs_25 (fun v9 hf => ?_)
  refine lv_iload_n hx hb dX3_signedAs_28 rfl (lv_at hl 1 rfl) ?_
  refine lv_aload_n hx hb dX3_signedAs_29 rfl (lv_at hl 2 rfl) ?_
  refine q_gR hx hb hT hown hK hR iqX3 vqX3 7 (by decide) (hT _ wfl_X3_21) hf dX3_signedAs_30 (fun v10 hf => ?_)
  refine lv_iload_n hx hb dX3_signedAs_33 rfl (lv_at hl 1 rfl) ?_
  refine q_iald hx hb hK hR hf dX3_signedAs_34 (fun v11 hf => ?_)
  refine q_iast hx hb hK hR hS hz hf dX3_signedAs_35 (fun X12 hf H locs hR hS hz => ?_)
  subst hQ
  exact q_vret hx hb hr hlocks hR hS hz (Option.some.inj hf) dX3_signedAs_36
/-! X3_become -/
def fX3_become_L34_B (F : Nat) (a0 : Nat) (a1 : Nat) (self0 : Int32 → qH → Option (qH)) (v9 : Int32) (X10 : qH) : Option (qH) :=
if (8 : Int32) ≤ v9 then (some X10)
else ((qgR X10 3 a0 4).bind fun v11 =>
(qgR X10 3 a1 4).bind fun v12 =>
(qaI X10 0 v12 v9).bind fun v13 =>
(qaS X10 0 v11 v9 v13).bind fun X14 =>
(fX3_signedAs F X14 a0 v9 a1).bind fun X15 =>
qlt (v9 + (1 : Int32)) fun v16 =>
self0 v16 X15)
def fX3_become_L34 (F : Nat) (a0 : Nat) (a1 : Nat) : Nat → Int32 → qH → Option (qH)
  | 0, _, _ => none
  | n + 1, v9, X10 => fX3_become_L34_B F a0 a1 (fX3_become_L34 F a0 a1 n) v9 X10
def fX3_become (F : Nat) (X : qH) (a0 : Nat) (a1 : Nat) : Option (qH) :=
qIs 3 X a0 <|
(qgI X 3 a1 0).bind fun v1 =>
(qpI X 3 a0 0 v1).bind fun X2 =>
(qgI X2 3 a1 1).bind fun v3 =>
(qpI X2 3 a0 1 v3).bind fun X4 =>
(qgI X4 3 a1 2).bind fun v5 =>
(qpI X4 3 a0 2 v5).bind fun X6 =>
(qgI X6 3 a1 3).bind fun v7 =>
(qpI X6 3 a0 3 v7).bind fun X8 =>
(fX3_become_L34 F a0 a1 F (0 : Int32) X8).bind fun X17 =>
some X17
abbrev rmX3_become : Room := { frames := 1, cells := 0, slots := 0, locals := 22 }
theorem fX3_become_is {F : Nat} {X : qH} {a0 : Nat} {a1 : Nat} {r9 : qH} (h : fX3_become F X a0 a1 = some r9) : ∃ fs, X a0 = some (.inr (3, fs)) := (qIs_spec h).1
theorem hdX3_become : yX3_become.cls = RX3 ∧ yX3_become.cls ≠ "java/lang/invoke/MethodHandle" ∧ yX3_become.cls ≠ "java/lang/invoke/VarHandle" ∧ (parseMethodDescriptor yX3_become.desc).map (fun d => d.parameters.length) = some 1 := by decide +kernel
set_option maxHeartbeats 4000000 in
set_option maxRecDepth 100000 in
theorem mX3_become (l : Launch) (D : va_G) (kz : Nat → Nat) (b0 sz F : Nat) (X : qH) (a0 : Nat) (a1 : Nat)  (Xr : qH) (hf : fX3_become F X a0 a1 = some Xr) : Met l yX3_become (qws yX3_become cX3_become 3 none) rmX3_become (va_Pc [.ref a0, .ref a1] (qU D kz b0 sz X)) (va_Qv (fun (u : qH) => u = Xr) (fun u t => qO D kz b0 sz u t) (qA b0)) 0 0 (qA b0) := by
  refine q_start (by decide) (Nat.le_of_ble_eq_true rfl) ?_
  intro p e s m args below meth c hx hb hr hlocks hnm hml hown hT hR hK hz ls hl
  have hown : s.vm.findClass RX3 = some m.cls := hown
  have hl : lv_has ls 3 [(0, .ref a0), (1, .ref a1)] := hl
  have hS : va_S (qA b0) s.heap s.heap [] := va_S.rf
  obtain ⟨Q, hQ⟩ : ∃ Q, Q = MQ below (va_Qv (fun (u : qH) => u = Xr) (fun u t => qO D kz b0 sz u t) (qA b0)) args s 0 0 (qA b0) := ⟨_, rfl⟩
  rw [← hQ]
  unfold fX3_become at hf
  obtain ⟨hthis, hf⟩ := qIs_spec hf
  refine lv_aload_n hx hb dX3_become_0 rfl (lv_at hl 0 rfl) ?_
  refine lv_aload_n hx hb dX3_become_1 rfl (lv_at hl 1 rfl) ?_
  refine q_gI hx hb hT hown hK hR iqX3 vqX3 0 (by decide) (hT _ wfl_X3_24) hf dX3_become_2 (fun v1 hf => ?_)
  refine q_pI hx hb hT hown hK hR hS hz iqX3 vqX3 tyX3_ok nmX3 0 (by decide) (hT _ wfl_X3_24) rfl rfl hf dX3_become_5 (fun X2 hf H locs hR hS hz => ?_)
  refine lv_aload_n hx hb dX3_become_8 rfl (lv_at hl 0 rfl) ?_
  refine lv_aload_n hx hb dX3_become_9 rfl (lv_at hl 1 rfl) ?_
  refine q_gI hx hb hT hown hK hR iqX3 vqX3 1 (by decide) (hT _ wfl_X3_33) hf dX3_become_10 (fun v3 hf => ?_)
  refine q_pI hx hb hT hown hK hR hS hz iqX3 vqX3 tyX3_ok nmX3 1 (by decide) (hT _ wfl_X3_33) rfl rfl hf dX3_become_13 (fun X4 hf H locs hR hS hz => ?_)
  refine lv_aload_n hx hb dX3_become_16 rfl (lv_at hl 0 rfl) ?_
  refine lv_aload_n hx hb dX3_become_17 rfl (lv_at hl 1 rfl) ?_
  refine q_gI hx hb hT hown hK hR iqX3 vqX3 2 (by decide) (hT _ wfl_X3_39) hf dX3_become_18 (fun v5 hf => ?_)
  refine q_pI hx hb hT hown hK hR hS hz iqX3 vqX3 tyX3_ok nmX3 2 (by decide) (hT _ wfl_X3_39) rfl rfl hf dX3_become_21 (fun X6 hf H locs hR hS hz => ?_)
  refine lv_aload_n hx hb dX3_become_24 rfl (lv_at hl 0 rfl) ?_
  refine lv_aload_n hx hb dX3_become_25 rfl (lv_at hl 1 rfl) ?_
  refine q_gI hx hb hT hown hK hR iqX3 vqX3 3 (by decide) (hT _ wfl_X3_42) hf dX3_become_26 (fun v7 hf => ?_)
  refine q_pI hx hb hT hown hK hR hS hz iqX3 vqX3 tyX3_ok nmX3 3 (by decide) (hT _ wfl_X3_42) rfl rfl hf dX3_become_29 (fun X8 hf H locs hR hS hz => ?_)
  refine lv_iconst (v := (0 : Int32)) hx hb dX3_become_32 (by decide) ?_
  refine lv_istore_n (lv' := [(2, .int (0 : Int32)), (0, .ref a0), (1, .ref a1)]) hx hb dX3_become_33 rfl hl (by decide) rfl (fun ls hl => ?_)
  obtain ⟨X17, ho, hf⟩ := q_b hf
  have hL : ∀ (n : Nat) (v9 : Int32) (X10 : qH) (out : qH), fX3_become_L34 F a0 a1 n v9 X10 = some out → (∀ (X17 : qH), out = X17 → ∀ (H : Heap) (locs : List Loc) (ls : Array Slot), qR D kz b0 X17 H → va_S (qA b0) s.heap H locs → H.size = sz → lv_has ls 3 [] → W p l e rmX3_become s m args below meth c H locs 0 0 Q (F0 m 64 ls [])) → ∀ (H : Heap) (locs : List Loc) (ls : Array Slot), qR D kz b0 X10 H → va_S (qA b0) s.heap H locs → H.size = sz → lv_has ls 3 [(0, .ref a0), (1, .ref a1), (2, .int v9)] → W p l e rmX3_become s m args below meth c H locs 0 0 Q (F0 m 34 ls []) := by
    intro n9
    induction n9 with
    | zero =>
      intro v9 X10 out hf
      exact absurd (show none = some out from hf) (by simp)
    | succ n9 ih0 =>
      intro v9 X10 out hf hex H locs ls hR hS hz hl
      have hf : fX3_become_L34_B F a0 a1 (fX3_become_L34 F a0 a1 n9) v9 X10 = some out := hf
      unfold fX3_become_L34_B at hf
      refine lv_iload_n hx hb dX3_become_34 rfl (lv_at hl 2 rfl) ?_
      refine lv_bipush (v := (8 : Int32)) hx hb dX3_become_35 (by decide) ?_
      refine lv_icmp_ge (tgt := 64) hx hb dX3_become_37 (by decide) (fun hc => ?_) (fun hc => ?_)
      · have hf := q_t hf hc
        exact hex _ (Option.some.inj hf).symm _ _ _ hR hS hz (lv_sub hl [] rfl)
      · have hf := q_f hf hc
        refine lv_aload_n hx hb dX3_become_40 rfl (lv_at hl 0 rfl) ?_
        refine q_gR hx hb hT hown hK hR iqX3 vqX3 4 (by decide) (hT _ wfl_X3_9) hf dX3_become_41 (fun v11 hf => ?_)
        refine lv_iload_n hx hb dX3_become_44 rfl (lv_at hl 2 rfl) ?_
        refine lv_aload_n hx hb dX3_become_45 rfl (lv_at hl 1 rfl) ?_
        refine q_gR hx hb hT hown hK hR iqX3 vqX3 4 (by decide) (hT _ wfl_X3_9) hf dX3_become_46 (fun v12 hf => ?_)
        refine lv_iload_n hx hb dX3_become_49 rfl (lv_at hl 2 rfl) ?_
        refine q_iald hx hb hK hR hf dX3_become_50 (fun v13 hf => ?_)
        refine q_iast hx hb hK hR hS hz hf dX3_become_51 (fun X14 hf H locs hR hS hz => ?_)
        refine lv_aload_n hx hb dX3_become_52 rfl (lv_at hl 0 rfl) ?_
        refine lv_iload_n hx hb dX3_become_53 rfl (lv_at hl 2 rfl) ?_
        refine lv_aload_n hx hb dX3_become_54 rfl (lv_at hl 1 rfl) ?_
        obtain ⟨X15, hc, hf⟩ := q_b hf
        refine q_callv (va_runV (As := [.int v9, .ref a1]) (rest := []) ⟨hx, hb, hml, hown, hT⟩ (mX3_signedAs l D kz b0 sz F X14 a0 v9 a1 X15 hc) (cwV 2 hT (q_gV wco_X3_signedAs wml_X3_51 wim_X3_signedAs wse_X3_signedAs win_X3) rfl rfl rfl hdX3_signedAs ⟨Nat.le_of_ble_eq_true rfl, Nat.le_of_ble_eq_true rfl⟩) (q_preV vqX3 (fX3_signedAs_is hc) hR hK hz) rfl rfl hl.1 rfl (lv_room (Nat.le_of_ble_eq_true rfl)) dX3_become_55 ⟨Nat.le_of_ble_eq_true rfl, Nat.le_of_ble_eq_true rfl⟩) hS (fun H locs hR hS hz => ?_)
        obtain ⟨v16, ev16⟩ : ∃ y : Int32, y = (v9 + (1 : Int32)) := ⟨_, rfl⟩
        have hf := q_lt ev16 hf
        refine lv_iinc (v := v16) (lv' := [(2, .int v16), (0, .ref a0), (1, .ref a1)]) hx hb dX3_become_58 hl (k := 2) rfl (by rw [ev16]; rfl) (by decide) rfl (fun ls hl => ?_)
        refine lv_goto (tgt := 34) hx hb dX3_become_61 (by decide) ?_
        exact ih0 _ _ out hf hex _ _ _ hR hS hz (lv_sub hl [1, 2, 0] rfl)
  refine hL F _ _ _ ho (fun z0 h9 => ?_) _ _ _ hR hS hz (lv_sub hl [1, 2, 0] rfl)
  cases h9
  intro H locs ls hR hS hz hl
  subst hQ
  exact q_vret hx hb hr hlocks hR hS hz (Option.some.inj hf) dX3_become_64
/-! X3_reach -/
def fX3_reach (F : Nat) (X : qH) (a0 : Nat) (a1 : Nat) (a2 : Int32) : Option (Int32) :=
qIs 3 X a0 <|
(qgR X 0 a1 7).bind fun v1 =>
(qaI X 0 v1 a2).bind fun v2 =>
(qgI X 3 a0 1).bind fun v3 =>
some ((v2 + (3 : Int32)) - (v3 / (2 : Int32)))
abbrev rmX3_reach : Room := { frames := 0, cells := 0, slots := 0, locals := 0 }
theorem fX3_reach_is {F : Nat} {X : qH} {a0 : Nat} {a1 : Nat} {a2 : Int32} {r9 : Int32} (h : fX3_reach F X a0 a1 a2 = some r9) : ∃ fs, X a0 = some (.inr (3, fs)) := (qIs_spec h).1
theorem hdX3_reach : yX3_reach.cls = RX3 ∧ yX3_reach.cls ≠ "java/lang/invoke/MethodHandle" ∧ yX3_reach.cls ≠ "java/lang/invoke/VarHandle" ∧ (parseMethodDescriptor yX3_reach.desc).map (fun d => d.parameters.length) = some 2 := by decide +kernel
set_option maxHeartbeats 4000000 in
set_option maxRecDepth 100000 in
theorem mX3_reach (l : Launch) (D : va_G) (kz : Nat → Nat) (b0 sz F : Nat) (X : qH) (a0 : Nat) (a1 : Nat) (a2 : Int32) (r : Int32) (hf : fX3_reach F X a0 a1 a2 = some r) : Met l yX3_reach (qws yX3_reach cX3_reach 3 (some .int)) rmX3_reach (va_Pc [.ref a0, .ref a1, .int a2] (qU D kz b0 sz X)) (va_Qi (fun (r' : Int32) (u : qH) => r' = r ∧ u = X) (fun u t => qO D kz b0 sz u t) (qA b0)) 0 0 (qA b0) := by
  refine q_start (by decide) (Nat.le_of_ble_eq_true rfl) ?_
  intro p e s m args below meth c hx hb hr hlocks hnm hml hown hT hR hK hz ls hl
  have hown : s.vm.findClass RX3 = some m.cls := hown
  have hl : lv_has ls 3 [(0, .ref a0), (1, .ref a1), (2, .int a2)] := hl
  have hS : va_S (qA b0) s.heap s.heap [] := va_S.rf
  obtain ⟨Q, hQ⟩ : ∃ Q, Q = MQ below (va_Qi (fun (r' : Int32) (u : qH) => r' = r ∧ u = X) (fun u t => qO D kz b0 sz u t) (qA b0)) args s 0 0 (qA b0) := ⟨_, rfl⟩
  rw [← hQ]
  unfold fX3_reach at hf
  obtain ⟨hthis, hf⟩ := qIs_spec hf
  refine lv_aload_n hx hb dX3_reach_0 rfl (lv_at hl 1 rfl) ?_
  refine q_gR hx hb hT hown hK hR iqX0 vqX0 7 (by decide) (hT _ wfl_X3_74) hf dX3_reach_1 (fun v1 hf => ?_)
  refine lv_iload_n hx hb dX3_reach_4 rfl (lv_at hl 2 rfl) ?_
  refine q_iald hx hb hK hR hf dX3_reach_5 (fun v2 hf => ?_)
  refine lv_iconst (v := (3 : Int32)) hx hb dX3_reach_6 (by decide) ?_
  refine lv_iadd hx hb dX3_reach_7 ?_
  refine lv_aload_n hx hb dX3_reach_8 rfl (lv_at hl 0 rfl) ?_
  refine q_gI hx hb hT hown hK hR iqX3 vqX3 1 (by decide) (hT _ wfl_X3_33) hf dX3_reach_9 (fun v3 hf => ?_)
  refine lv_iconst (v := (2 : Int32)) hx hb dX3_reach_12 (by decide) ?_
  refine lv_idiv hx hb dX3_reach_13 (by decide) ?_
  refine lv_isub hx hb dX3_reach_14 ?_
  subst hQ
  exact q_iret hx hb hr hlocks hR hS hz (Option.some.inj hf) rfl dX3_reach_15
/-! X3_inReach -/
def fX3_inReach_L21_B (F : Nat) (X : qH) (a1 : Nat) (a2 : Int32) (v1 : Int32) (v2 : Int32) (self0 : Int32 → Int32 → Option (Int32)) (v3 : Int32) (v4 : Int32) : Option (Int32) :=
(qgI X 0 a1 5).bind fun v5 =>
if v5 ≤ v4 then (some v3)
else ((if v4 = a2 then (some v3)
else ((qgR X 0 a1 6).bind fun v8 =>
(qaI X 0 v8 v4).bind fun v9 =>
qlt (if 0 ≤ (v9 - v1) then (v9 - v1) else 0 - (v9 - v1)) fun v10 =>
if v2 < v10 then (some v3)
else (qlt (v3 ||| ((1 : Int32) <<< (v4 &&& 31))) fun v11 =>
some v11)) : Option Int32).bind fun v6 =>
qlt (v4 + (1 : Int32)) fun v7 =>
self0 v6 v7)
def fX3_inReach_L21 (F : Nat) (X : qH) (a1 : Nat) (a2 : Int32) (v1 : Int32) (v2 : Int32) : Nat → Int32 → Int32 → Option (Int32)
  | 0, _, _ => none
  | n + 1, v3, v4 => fX3_inReach_L21_B F X a1 a2 v1 v2 (fX3_inReach_L21 F X a1 a2 v1 v2 n) v3 v4
def fX3_inReach (F : Nat) (X : qH) (a0 : Nat) (a1 : Nat) (a2 : Int32) : Option (Int32) :=
qIs 3 X a0 <|
(fX3_cellOver F X a0 a1 a2).bind fun v1 =>
(fX3_reach F X a0 a1 a2).bind fun v2 =>
(fX3_inReach_L21 F X a1 a2 v1 v2 F (0 : Int32) (0 : Int32)).bind fun v12 =>
some v12
abbrev rmX3_inReach : Room := { frames := 2, cells := 0, slots := 0, locals := 43 }
theorem fX3_inReach_is {F : Nat} {X : qH} {a0 : Nat} {a1 : Nat} {a2 : Int32} {r9 : Int32} (h : fX3_inReach F X a0 a1 a2 = some r9) : ∃ fs, X a0 = some (.inr (3, fs)) := (qIs_spec h).1
theorem hdX3_inReach : yX3_inReach.cls = RX3 ∧ yX3_inReach.cls ≠ "java/lang/invoke/MethodHandle" ∧ yX3_inReach.cls ≠ "java/lang/invoke/VarHandle" ∧ (parseMethodDescriptor yX3_inReach.desc).map (fun d => d.parameters.length) = some 2 := by decide +kernel
set_option maxHeartbeats 4000000 in
set_option maxRecDepth 100000 in
theorem mX3_inReach (l : Launch) (D : va_G) (kz : Nat → Nat) (b0 sz F : Nat) (X : qH) (a0 : Nat) (a1 : Nat) (a2 : Int32) (r : Int32) (hf : fX3_inReach F X a0 a1 a2 = some r) : Met l yX3_inReach (qws yX3_inReach cX3_inReach 7 (some .int)) rmX3_inReach (va_Pc [.ref a0, .ref a1, .int a2] (qU D kz b0 sz X)) (va_Qi (fun (r' : Int32) (u : qH) => r' = r ∧ u = X) (fun u t => qO D kz b0 sz u t) (qA b0)) 0 0 (qA b0) := by
  refine q_start (by decide) (Nat.le_of_ble_eq_true rfl) ?_
  intro p e s m args below meth c hx hb hr hlocks hnm hml hown hT hR hK hz ls hl
  have hown : s.vm.findClass RX3 = some m.cls := hown
  have hl : lv_has ls 7 [(0, .ref a0), (1, .ref a1), (2, .int a2)] := hl
  have hS : va_S (qA b0) s.heap s.heap [] := va_S.rf
  obtain ⟨Q, hQ⟩ : ∃ Q, Q = MQ below (va_Qi (fun (r' : Int32) (u : qH) => r' = r ∧ u = X) (fun u t => qO D kz b0 sz u t) (qA b0)) args s 0 0 (qA b0) := ⟨_, rfl⟩
  rw [← hQ]
  unfold fX3_inReach at hf
  obtain ⟨hthis, hf⟩ := qIs_spec hf
  refine lv_aload_n hx hb dX3_inReach_0 rfl (lv_at hl 0 rfl) ?_
  refine lv_aload_n hx hb dX3_inReach_1 rfl (lv_at hl 1 rfl) ?_
  refine lv_iload_n hx hb dX3_inReach_2 rfl (lv_at hl 2 rfl) ?_
  obtain ⟨v1, hc, hf⟩ := q_b hf
  refine q_calli (va_runV (As := [.ref a1, .int a2]) (rest := []) ⟨hx, hb, hml, hown, hT⟩ (mX3_cellOver l D kz b0 sz F X a0 a1 a2 v1 hc) (cwV 2 hT (q_gV wco_X3_cellOver wml_X3_70 wim_X3_cellOver wse_X3_cellOver win_X3) rfl rfl rfl hdX3_cellOver ⟨Nat.le_of_ble_eq_true rfl, Nat.le_of_ble_eq_true rfl⟩) (q_preV vqX3 (fX3_cellOver_is hc) hR hK hz) rfl rfl hl.1 rfl (lv_room (Nat.le_of_ble_eq_true rfl)) dX3_inReach_3 ⟨Nat.le_of_ble_eq_true rfl, Nat.le_of_ble_eq_true rfl⟩) hS (fun H locs hR hS hz => ?_)
  refine lv_istore_n (lv' := [(3, .int v1), (0, .ref a0), (1, .ref a1), (2, .int a2)]) hx hb dX3_inReach_6 rfl hl (by decide) rfl (fun ls hl => ?_)
  refine lv_aload_n hx hb dX3_inReach_7 rfl (lv_at hl 1 rfl) ?_
  refine lv_aload_n hx hb dX3_inReach_8 rfl (lv_at hl 2 rfl) ?_
  refine lv_iload_n hx hb dX3_inReach_9 rfl (lv_at hl 3 rfl) ?_
  obtain ⟨v2, hc, hf⟩ := q_b hf
  refine q_calli (va_runV (As := [.ref a1, .int a2]) (rest := []) ⟨hx, hb, hml, hown, hT⟩ (mX3_reach l D kz b0 sz F X a0 a1 a2 v2 hc) (cwV 2 hT (q_gV wco_X3_reach wml_X3_77 wim_X3_reach wse_X3_reach win_X3) rfl rfl rfl hdX3_reach ⟨Nat.le_of_ble_eq_true rfl, Nat.le_of_ble_eq_true rfl⟩) (q_preV vqX3 (fX3_reach_is hc) hR hK hz) rfl rfl hl.1 rfl (lv_room (Nat.le_of_ble_eq_true rfl)) dX3_inReach_10 ⟨Nat.le_of_ble_eq_true rfl, Nat.le_of_ble_eq_true rfl⟩) hS (fun H locs hR hS hz => ?_)
  refine lv_istore (lv' := [(4, .int v2), (3, .int v1), (0, .ref a0), (1, .ref a1), (2, .int a2)]) hx hb dX3_inReach_13 hl (by decide) rfl (fun ls hl => ?_)
  refine lv_iconst (v := (0 : Int32)) hx hb dX3_inReach_15 (by decide) ?_
  refine lv_istore (lv' := [(5, .int (0 : Int32)), (4, .int v2), (3, .int v1), (0, .ref a0), (1, .ref a1), (2, .int a2)]) hx hb dX3_inReach_16 hl (by decide) rfl (fun ls hl => ?_)
  refine lv_iconst (v := (0 : Int32)) hx hb dX3_inReach_18 (by decide) ?_
  refine lv_istore (lv' := [(6, .int (0 : Int32)), (5, .int (0 : Int32)), (4, .int v2), (3, .int v1), (0, .ref a0), (1, .ref a1), (2, .int a2)]) hx hb dX3_inReach_19 hl (by decide) rfl (fun ls hl => ?_)
  obtain ⟨v12, ho, hf⟩ := q_b hf
  have hL : ∀ (n : Nat) (v3 : Int32) (v4 : Int32) (out : Int32), fX3_inReach_L21 F X a1 a2 v1 v2 n v3 v4 = some out → (∀ (v12 : Int32), out = v12 → ∀ (H : Heap) (locs : List Loc) (ls : Array Slot), qR D kz b0 X H → va_S (qA b0) s.heap H locs → H.size = sz → lv_has ls 7 [(5, .int v12)] → W p l e rmX3_inReach s m args below meth c H locs 0 0 Q (F0 m 68 ls [])) → ∀ (H : Heap) (locs : List Loc) (ls : Array Slot), qR D kz b0 X H → va_S (qA b0) s.heap H locs → H.size = sz → lv_has ls 7 [(1, .ref a1), (2, .int a2), (3, .int v1), (4, .int v2), (5, .int v3), (6, .int v4)] → W p l e rmX3_inReach s m args below meth c H locs 0 0 Q (F0 m 21 ls []) := by
    intro n9
    induction n9 with
    | zero =>
      intro v3 v4 out hf
      exact absurd (show none = some out from hf) (by simp)
    | succ n9 ih0 =>
      intro v3 v4 out hf hex H locs ls hR hS hz hl
      have hf : fX3_inReach_L21_B F X a1 a2 v1 v2 (fX3_inReach_L21 F X a1 a2 v1 v2 n9) v3 v4 = some out := hf
      unfold fX3_inReach_L21_B at hf
      refine lv_iload hx hb dX3_inReach_21 (lv_at hl 5 rfl) ?_
      refine lv_aload_n hx hb dX3_inReach_23 rfl (lv_at hl 0 rfl) ?_
      refine q_gI hx hb hT hown hK hR iqX0 vqX0 5 (by decide) (hT _ wfl_X3_45) hf dX3_inReach_24 (fun v5 hf => ?_)
      refine lv_icmp_ge (tgt := 68) hx hb dX3_inReach_27 (by decide) (fun hc => ?_) (fun hc => ?_)
      · have hf := q_t hf hc
        exact hex _ (Option.some.inj hf).symm _ _ _ hR hS hz (lv_sub hl [4] rfl)
      · have hf := q_f hf hc
        refine lv_iload hx hb dX3_inReach_30 (lv_at hl 5 rfl) ?_
        refine lv_iload_n hx hb dX3_inReach_32 rfl (lv_at hl 1 rfl) ?_
        obtain ⟨v6, hp, hf⟩ := q_b hf
        have hJ : ∀ (H : Heap) (locs : List Loc) (ls : Array Slot), qR D kz b0 X H → va_S (qA b0) s.heap H locs → H.size = sz → lv_has ls 7 [(1, .ref a1), (2, .int a2), (3, .int v1), (4, .int v2), (5, .int v6), (6, .int v4)] → W p l e rmX3_inReach s m args below meth c H locs 0 0 Q (F0 m 62 ls []) := by
          intro H locs ls hR hS hz hl
          obtain ⟨v7, ev7⟩ : ∃ y : Int32, y = (v4 + (1 : Int32)) := ⟨_, rfl⟩
          have hf := q_lt ev7 hf
          refine lv_iinc (v := v7) (lv' := [(6, .int v7), (1, .ref a1), (2, .int a2), (3, .int v1), (4, .int v2), (5, .int v6)]) hx hb dX3_inReach_62 hl (k := 5) rfl (by rw [ev7]; rfl) (by decide) rfl (fun ls hl => ?_)
          refine lv_goto (tgt := 21) hx hb dX3_inReach_65 (by decide) ?_
          exact ih0 _ _ out hf hex _ _ _ hR hS hz (lv_sub hl [1, 2, 3, 4, 5, 0] rfl)
        have hf := hp
        refine lv_icmp_eq (tgt := 62) hx hb dX3_inReach_33 (by decide) (fun hc => ?_) (fun hc => ?_)
        · have hf := q_t hf hc
          cases hf
          exact hJ _ _ _ hR hS hz (lv_sub hl [0, 1, 2, 3, 4, 5] rfl)
        · have hf := q_f hf hc
          refine lv_aload_n hx hb dX3_inReach_36 rfl (lv_at hl 0 rfl) ?_
          refine q_gR hx hb hT hown hK hR iqX0 vqX0 6 (by decide) (hT _ wfl_X3_58) hf dX3_inReach_37 (fun v8 hf => ?_)
          refine lv_iload hx hb dX3_inReach_40 (lv_at hl 5 rfl) ?_
          refine q_iald hx hb hK hR hf dX3_inReach_42 (fun v9 hf => ?_)
          refine lv_iload_n hx hb dX3_inReach_43 rfl (lv_at hl 2 rfl) ?_
          refine lv_isub hx hb dX3_inReach_44 ?_
          refine va_mabs hx hb (hml.trans hl.1.symm) hown (hT _ wml_X3_80) (hT _ wst_Mabs) (hT _ win_Math) (hT _ wco_Mabs) (Nat.le_of_ble_eq_true rfl) (Nat.le_of_ble_eq_true rfl) (Nat.le_of_ble_eq_true rfl) (Nat.le_of_ble_eq_true rfl) dX3_inReach_45 ?_
          refine lv_topi (fun v10 ev10 => ?_)
          have hf := q_lt ev10 hf
          refine lv_iload hx hb dX3_inReach_48 (lv_at hl 3 rfl) ?_
          refine lv_icmp_gt (tgt := 62) hx hb dX3_inReach_50 (by decide) (fun hc => ?_) (fun hc => ?_)
          · have hf := q_t hf hc
            cases hf
            exact hJ _ _ _ hR hS hz (lv_sub hl [0, 1, 2, 3, 4, 5] rfl)
          · have hf := q_f hf hc
            refine lv_iload hx hb dX3_inReach_53 (lv_at hl 4 rfl) ?_
            refine lv_iconst (v := (1 : Int32)) hx hb dX3_inReach_55 (by decide) ?_
            refine lv_iload hx hb dX3_inReach_56 (lv_at hl 5 rfl) ?_
            refine lv_ishl hx hb dX3_inReach_58 ?_
            refine lv_ior hx hb dX3_inReach_59 ?_
            refine lv_topi (fun v11 ev11 => ?_)
            have hf := q_lt ev11 hf
            refine lv_istore (lv' := [(5, .int v11), (1, .ref a1), (2, .int a2), (3, .int v1), (4, .int v2), (6, .int v4)]) hx hb dX3_inReach_60 hl (by decide) rfl (fun ls hl => ?_)
            cases hf
            exact hJ _ _ _ hR hS hz (lv_sub hl [1, 2, 3, 4, 0, 5] rfl)
  refine hL F _ _ _ ho (fun z0 h9 => ?_) _ _ _ hR hS hz (lv_sub hl [5, 6, 3, 2, 1, 0] rfl)
  cases h9
  intro H locs ls hR hS hz hl
  refine lv_iload hx hb dX3_inReach_68 (lv_at hl 0 rfl) ?_
  subst hQ
  exact q_iret hx hb hr hlocks hR hS hz (Option.some.inj hf) rfl dX3_inReach_70
/-! X3_hidden -/
def fX3_hidden_L10_B (F : Nat) (X : qH) (a0 : Nat) (a1 : Nat) (a2 : Int32) (v1 : Int32) (self0 : Int32 → Option ((Int32) ⊕ (Unit))) (v2 : Int32) : Option ((Int32) ⊕ (Unit)) :=
(qgI X 0 a1 5).bind fun v3 =>
if v3 ≤ v2 then (some (.inr ()))
else ((if v2 = a2 then (some (0 : Int32))
else ((qgR X 3 a0 5).bind fun v11 =>
(qaI X 0 v11 v2).bind fun v12 =>
if v12 = (-1 : Int32) then (some (0 : Int32))
else ((qgR X 3 a0 6).bind fun v13 =>
(qaI X 0 v13 v2).bind fun v14 =>
if v14 = v1 then (some (1 : Int32))
else (some (0 : Int32)))) : Option Int32).bind fun v4 =>
if v4 = (0 : Int32) then (qlt (v2 + (1 : Int32)) fun v5 =>
self0 v5)
else ((qgI X 3 a0 0).bind fun v6 =>
(qgR X 3 a0 5).bind fun v7 =>
(qaI X 0 v7 v2).bind fun v8 =>
(qgI X 0 a1 3).bind fun v9 =>
if v9 < (v6 - v8) then (qlt (v2 + (1 : Int32)) fun v10 =>
self0 v10)
else (some (.inl (1 : Int32)))))
def fX3_hidden_L10 (F : Nat) (X : qH) (a0 : Nat) (a1 : Nat) (a2 : Int32) (v1 : Int32) : Nat → Int32 → Option ((Int32) ⊕ (Unit))
  | 0, _ => none
  | n + 1, v2 => fX3_hidden_L10_B F X a0 a1 a2 v1 (fX3_hidden_L10 F X a0 a1 a2 v1 n) v2
def fX3_hidden (F : Nat) (X : qH) (a0 : Nat) (a1 : Nat) (a2 : Int32) : Option (Int32) :=
qIs 3 X a0 <|
(fX3_cellOver F X a0 a1 a2).bind fun v1 =>
(fX3_hidden_L10 F X a0 a1 a2 v1 F (0 : Int32)).bind fun o15 => qsm0 o15 (fun z => some z) <|
some (0 : Int32)
abbrev rmX3_hidden : Room := { frames := 2, cells := 0, slots := 0, locals := 43 }
theorem fX3_hidden_is {F : Nat} {X : qH} {a0 : Nat} {a1 : Nat} {a2 : Int32} {r9 : Int32} (h : fX3_hidden F X a0 a1 a2 = some r9) : ∃ fs, X a0 = some (.inr (3, fs)) := (qIs_spec h).1
theorem hdX3_hidden : yX3_hidden.cls = RX3 ∧ yX3_hidden.cls ≠ "java/lang/invoke/MethodHandle" ∧ yX3_hidden.cls ≠ "java/lang/invoke/VarHandle" ∧ (parseMethodDescriptor yX3_hidden.desc).map (fun d => d.parameters.length) = some 2 := by decide +kernel
set_option maxHeartbeats 4000000 in
set_option maxRecDepth 100000 in
theorem mX3_hidden (l : Launch) (D : va_G) (kz : Nat → Nat) (b0 sz F : Nat) (X : qH) (a0 : Nat) (a1 : Nat) (a2 : Int32) (r : Int32) (hf : fX3_hidden F X a0 a1 a2 = some r) : Met l yX3_hidden (qws yX3_hidden cX3_hidden 6 (some .boolean)) rmX3_hidden (va_Pc [.ref a0, .ref a1, .int a2] (qU D kz b0 sz X)) (va_Qi (fun (r' : Int32) (u : qH) => r' = r ∧ u = X) (fun u t => qO D kz b0 sz u t) (qA b0)) 0 0 (qA b0) := by
  refine q_start (by decide) (Nat.le_of_ble_eq_true rfl) ?_
  intro p e s m args below meth c hx hb hr hlocks hnm hml hown hT hR hK hz ls hl
  have hown : s.vm.findClass RX3 = some m.cls := hown
  have hl : lv_has ls 6 [(0, .ref a0), (1, .ref a1), (2, .int a2)] := hl
  have hS : va_S (qA b0) s.heap s.heap [] := va_S.rf
  obtain ⟨Q, hQ⟩ : ∃ Q, Q = MQ below (va_Qi (fun (r' : Int32) (u : qH) => r' = r ∧ u = X) (fun u t => qO D kz b0 sz u t) (qA b0)) args s 0 0 (qA b0) := ⟨_, rfl⟩
  rw [← hQ]
  unfold fX3_hidden at hf
  obtain ⟨hthis, hf⟩ := qIs_spec hf
  refine lv_aload_n hx hb dX3_hidden_0 rfl (lv_at hl 0 rfl) ?_
  refine lv_aload_n hx hb dX3_hidden_1 rfl (lv_at hl 1 rfl) ?_
  refine lv_iload_n hx hb dX3_hidden_2 rfl (lv_at hl 2 rfl) ?_
  obtain ⟨v1, hc, hf⟩ := q_b hf
  refine q_calli (va_runV (As := [.ref a1, .int a2]) (rest := []) ⟨hx, hb, hml, hown, hT⟩ (mX3_cellOver l D kz b0 sz F X a0 a1 a2 v1 hc) (cwV 2 hT (q_gV wco_X3_cellOver wml_X3_70 wim_X3_cellOver wse_X3_cellOver win_X3) rfl rfl rfl hdX3_cellOver ⟨Nat.le_of_ble_eq_true rfl, Nat.le_of_ble_eq_true rfl⟩) (q_preV vqX3 (fX3_cellOver_is hc) hR hK hz) rfl rfl hl.1 rfl (lv_room (Nat.le_of_ble_eq_true rfl)) dX3_hidden_3 ⟨Nat.le_of_ble_eq_true rfl, Nat.le_of_ble_eq_true rfl⟩) hS (fun H locs hR hS hz => ?_)
  refine lv_istore_n (lv' := [(3, .int v1), (0, .ref a0), (1, .ref a1), (2, .int a2)]) hx hb dX3_hidden_6 rfl hl (by decide) rfl (fun ls hl => ?_)
  refine lv_iconst (v := (0 : Int32)) hx hb dX3_hidden_7 (by decide) ?_
  refine lv_istore (lv' := [(4, .int (0 : Int32)), (3, .int v1), (0, .ref a0), (1, .ref a1), (2, .int a2)]) hx hb dX3_hidden_8 hl (by decide) rfl (fun ls hl => ?_)
  obtain ⟨o15, ho, hf⟩ := q_b hf
  have hL : ∀ (n : Nat) (v2 : Int32) (out : (Int32) ⊕ (Unit)), fX3_hidden_L10 F X a0 a1 a2 v1 n v2 = some out → (∀ z, out = .inl z → z = r) → (out = .inr () → ∀ (H : Heap) (locs : List Loc) (ls : Array Slot), qR D kz b0 X H → va_S (qA b0) s.heap H locs → H.size = sz → lv_has ls 6 [] → W p l e rmX3_hidden s m args below meth c H locs 0 0 Q (F0 m 86 ls [])) → ∀ (H : Heap) (locs : List Loc) (ls : Array Slot), qR D kz b0 X H → va_S (qA b0) s.heap H locs → H.size = sz → lv_has ls 6 [(0, .ref a0), (1, .ref a1), (2, .int a2), (3, .int v1), (4, .int v2)] → W p l e rmX3_hidden s m args below meth c H locs 0 0 Q (F0 m 10 ls []) := by
    intro n9
    induction n9 with
    | zero =>
      intro v2 out hf
      exact absurd (show none = some out from hf) (by simp)
    | succ n9 ih0 =>
      intro v2 out hf hret hex H locs ls hR hS hz hl
      have hf : fX3_hidden_L10_B F X a0 a1 a2 v1 (fX3_hidden_L10 F X a0 a1 a2 v1 n9) v2 = some out := hf
      unfold fX3_hidden_L10_B at hf
      refine lv_iload hx hb dX3_hidden_10 (lv_at hl 4 rfl) ?_
      refine lv_aload_n hx hb dX3_hidden_12 rfl (lv_at hl 1 rfl) ?_
      refine q_gI hx hb hT hown hK hR iqX0 vqX0 5 (by decide) (hT _ wfl_X3_45) hf dX3_hidden_13 (fun v3 hf => ?_)
      refine lv_icmp_ge (tgt := 86) hx hb dX3_hidden_16 (by decide) (fun hc => ?_) (fun hc => ?_)
      · have hf := q_t hf hc
        exact hex  (Option.some.inj hf).symm _ _ _ hR hS hz (lv_sub hl [] rfl)
      · have hf := q_f hf hc
        refine lv_iload hx hb dX3_hidden_19 (lv_at hl 4 rfl) ?_
        refine lv_iload_n hx hb dX3_hidden_21 rfl (lv_at hl 2 rfl) ?_
        obtain ⟨v4, hp, hf⟩ := q_b hf
        have hJ : ∀ (H : Heap) (locs : List Loc) (ls : Array Slot), qR D kz b0 X H → va_S (qA b0) s.heap H locs → H.size = sz → lv_has ls 6 [(0, .ref a0), (1, .ref a1), (2, .int a2), (3, .int v1), (4, .int v2)] → W p l e rmX3_hidden s m args below meth c H locs 0 0 Q (F0 m 52 ls [.int v4]) := by
          intro H locs ls hR hS hz hl
          refine lv_istore (lv' := [(5, .int v4), (0, .ref a0), (1, .ref a1), (2, .int a2), (3, .int v1), (4, .int v2)]) hx hb dX3_hidden_52 hl (by decide) rfl (fun ls hl => ?_)
          refine lv_iload hx hb dX3_hidden_54 (lv_at hl 0 rfl) ?_
          refine lv_if_eq (tgt := 80) hx hb dX3_hidden_56 (by decide) (fun hc => ?_) (fun hc => ?_)
          · have hf := q_t hf hc
            obtain ⟨v5, ev5⟩ : ∃ y : Int32, y = (v2 + (1 : Int32)) := ⟨_, rfl⟩
            have hf := q_lt ev5 hf
            refine lv_iinc (v := v5) (lv' := [(4, .int v5), (5, .int v4), (0, .ref a0), (1, .ref a1), (2, .int a2), (3, .int v1)]) hx hb dX3_hidden_80 hl (k := 5) rfl (by rw [ev5]; rfl) (by decide) rfl (fun ls hl => ?_)
            refine lv_goto (tgt := 10) hx hb dX3_hidden_83 (by decide) ?_
            exact ih0 _ out hf hret hex _ _ _ hR hS hz (lv_sub hl [2, 3, 4, 5, 0] rfl)
          · have hf := q_f hf hc
            refine lv_aload_n hx hb dX3_hidden_59 rfl (lv_at hl 1 rfl) ?_
            refine q_gI hx hb hT hown hK hR iqX3 vqX3 0 (by decide) (hT _ wfl_X3_24) hf dX3_hidden_60 (fun v6 hf => ?_)
            refine lv_aload_n hx hb dX3_hidden_63 rfl (lv_at hl 1 rfl) ?_
            refine q_gR hx hb hT hown hK hR iqX3 vqX3 5 (by decide) (hT _ wfl_X3_15) hf dX3_hidden_64 (fun v7 hf => ?_)
            refine lv_iload hx hb dX3_hidden_67 (lv_at hl 5 rfl) ?_
            refine q_iald hx hb hK hR hf dX3_hidden_69 (fun v8 hf => ?_)
            refine lv_isub hx hb dX3_hidden_70 ?_
            refine lv_aload_n hx hb dX3_hidden_71 rfl (lv_at hl 2 rfl) ?_
            refine q_gI hx hb hT hown hK hR iqX0 vqX0 3 (by decide) (hT _ wfl_X3_84) hf dX3_hidden_72 (fun v9 hf => ?_)
            refine lv_icmp_gt (tgt := 80) hx hb dX3_hidden_75 (by decide) (fun hc => ?_) (fun hc => ?_)
            · have hf := q_t hf hc
              obtain ⟨v10, ev10⟩ : ∃ y : Int32, y = (v2 + (1 : Int32)) := ⟨_, rfl⟩
              have hf := q_lt ev10 hf
              refine lv_iinc (v := v10) (lv' := [(4, .int v10), (5, .int v4), (0, .ref a0), (1, .ref a1), (2, .int a2), (3, .int v1)]) hx hb dX3_hidden_80 hl (k := 5) rfl (by rw [ev10]; rfl) (by decide) rfl (fun ls hl => ?_)
              refine lv_goto (tgt := 10) hx hb dX3_hidden_83 (by decide) ?_
              exact ih0 _ out hf hret hex _ _ _ hR hS hz (lv_sub hl [2, 3, 4, 5, 0] rfl)
            · have hf := q_f hf hc
              refine lv_iconst (v := (1 : Int32)) hx hb dX3_hidden_78 (by decide) ?_
              subst hQ
              exact q_zret hx hb hr hlocks hR hS hz (hret _ (Option.some.inj hf).symm) (by decide) rfl dX3_hidden_79
        have hf := hp
        refine lv_icmp_eq (tgt := 51) hx hb dX3_hidden_22 (by decide) (fun hc => ?_) (fun hc => ?_)
        · have hf := q_t hf hc
          refine lv_iconst (v := (0 : Int32)) hx hb dX3_hidden_51 (by decide) ?_
          cases hf
          exact hJ _ _ _ hR hS hz (lv_sub hl [0, 1, 2, 3, 4] rfl)
        · have hf := q_f hf hc
          refine lv_aload_n hx hb dX3_hidden_25 rfl (lv_at hl 0 rfl) ?_
          refine q_gR hx hb hT hown hK hR iqX3 vqX3 5 (by decide) (hT _ wfl_X3_15) hf dX3_hidden_26 (fun v11 hf => ?_)
          refine lv_iload hx hb dX3_hidden_29 (lv_at hl 4 rfl) ?_
          refine q_iald hx hb hK hR hf dX3_hidden_31 (fun v12 hf => ?_)
          refine lv_iconst (v := (-1 : Int32)) hx hb dX3_hidden_32 (by decide) ?_
          refine lv_icmp_eq (tgt := 51) hx hb dX3_hidden_33 (by decide) (fun hc => ?_) (fun hc => ?_)
          · have hf := q_t hf hc
            refine lv_iconst (v := (0 : Int32)) hx hb dX3_hidden_51 (by decide) ?_
            cases hf
            exact hJ _ _ _ hR hS hz (lv_sub hl [0, 1, 2, 3, 4] rfl)
          · have hf := q_f hf hc
            refine lv_aload_n hx hb dX3_hidden_36 rfl (lv_at hl 0 rfl) ?_
            refine q_gR hx hb hT hown hK hR iqX3 vqX3 6 (by decide) (hT _ wfl_X3_18) hf dX3_hidden_37 (fun v13 hf => ?_)
            refine lv_iload hx hb dX3_hidden_40 (lv_at hl 4 rfl) ?_
            refine q_iald hx hb hK hR hf dX3_hidden_42 (fun v14 hf => ?_)
            refine lv_iload_n hx hb dX3_hidden_43 rfl (lv_at hl 3 rfl) ?_
            refine lv_icmp_ne (tgt := 51) hx hb dX3_hidden_44 (by decide) (fun hc => ?_) (fun hc => ?_)
            · have hf := q_f hf hc
              refine lv_iconst (v := (0 : Int32)) hx hb dX3_hidden_51 (by decide) ?_
              cases hf
              exact hJ _ _ _ hR hS hz (lv_sub hl [0, 1, 2, 3, 4] rfl)
            · have hf := q_t hf hc
              refine lv_iconst (v := (1 : Int32)) hx hb dX3_hidden_47 (by decide) ?_
              refine lv_goto (tgt := 52) hx hb dX3_hidden_48 (by decide) ?_
              cases hf
              exact hJ _ _ _ hR hS hz (lv_sub hl [0, 1, 2, 3, 4] rfl)
  refine hL F _ o15 ho (fun z hz9 => by subst hz9; exact Option.some.inj hf) (fun  h9 => ?_) _ _ _ hR hS hz (lv_sub hl [2, 3, 4, 1, 0] rfl)
  subst h9
  intro H locs ls hR hS hz hl
  have hf := qsm0_r hf
  refine lv_iconst (v := (0 : Int32)) hx hb dX3_hidden_86 (by decide) ?_
  subst hQ
  exact q_zret hx hb hr hlocks hR hS hz (Option.some.inj hf) (by decide) rfl dX3_hidden_87
/-! X3_viewers -/
def fX3_viewers (F : Nat) (X : qH) (a0 : Nat) (a1 : Nat) (a2 : Int32) : Option (Int32) :=
qIs 3 X a0 <|
(fX3_hidden F X a0 a1 a2).bind fun v1 =>
(if v1 = (0 : Int32) then ((fX3_inReach F X a0 a1 a2).bind fun v3 =>
some v3)
else (some (0 : Int32)) : Option Int32).bind fun v2 =>
some v2
abbrev rmX3_viewers : Room := { frames := 3, cells := 0, slots := 0, locals := 69 }
theorem fX3_viewers_is {F : Nat} {X : qH} {a0 : Nat} {a1 : Nat} {a2 : Int32} {r9 : Int32} (h : fX3_viewers F X a0 a1 a2 = some r9) : ∃ fs, X a0 = some (.inr (3, fs)) := (qIs_spec h).1
theorem hdX3_viewers : yX3_viewers.cls = RX3 ∧ yX3_viewers.cls ≠ "java/lang/invoke/MethodHandle" ∧ yX3_viewers.cls ≠ "java/lang/invoke/VarHandle" ∧ (parseMethodDescriptor yX3_viewers.desc).map (fun d => d.parameters.length) = some 2 := by decide +kernel
set_option maxHeartbeats 4000000 in
set_option maxRecDepth 100000 in
theorem mX3_viewers (l : Launch) (D : va_G) (kz : Nat → Nat) (b0 sz F : Nat) (X : qH) (a0 : Nat) (a1 : Nat) (a2 : Int32) (r : Int32) (hf : fX3_viewers F X a0 a1 a2 = some r) : Met l yX3_viewers (qws yX3_viewers cX3_viewers 3 (some .int)) rmX3_viewers (va_Pc [.ref a0, .ref a1, .int a2] (qU D kz b0 sz X)) (va_Qi (fun (r' : Int32) (u : qH) => r' = r ∧ u = X) (fun u t => qO D kz b0 sz u t) (qA b0)) 0 0 (qA b0) := by
  refine q_start (by decide) (Nat.le_of_ble_eq_true rfl) ?_
  intro p e s m args below meth c hx hb hr hlocks hnm hml hown hT hR hK hz ls hl
  have hown : s.vm.findClass RX3 = some m.cls := hown
  have hl : lv_has ls 3 [(0, .ref a0), (1, .ref a1), (2, .int a2)] := hl
  have hS : va_S (qA b0) s.heap s.heap [] := va_S.rf
  obtain ⟨Q, hQ⟩ : ∃ Q, Q = MQ below (va_Qi (fun (r' : Int32) (u : qH) => r' = r ∧ u = X) (fun u t => qO D kz b0 sz u t) (qA b0)) args s 0 0 (qA b0) := ⟨_, rfl⟩
  rw [← hQ]
  unfold fX3_viewers at hf
  obtain ⟨hthis, hf⟩ := qIs_spec hf
  refine lv_aload_n hx hb dX3_viewers_0 rfl (lv_at hl 0 rfl) ?_
  refine lv_aload_n hx hb dX3_viewers_1 rfl (lv_at hl 1 rfl) ?_
  refine lv_iload_n hx hb dX3_viewers_2 rfl (lv_at hl 2 rfl) ?_
  obtain ⟨v1, hc, hf⟩ := q_b hf
  refine q_calli (va_runV (As := [.ref a1, .int a2]) (rest := []) ⟨hx, hb, hml, hown, hT⟩ (mX3_hidden l D kz b0 sz F X a0 a1 a2 v1 hc) (cwV 2 hT (q_gV wco_X3_hidden wml_X3_87 wim_X3_hidden wse_X3_hidden win_X3) rfl rfl rfl hdX3_hidden ⟨Nat.le_of_ble_eq_true rfl, Nat.le_of_ble_eq_true rfl⟩) (q_preV vqX3 (fX3_hidden_is hc) hR hK hz) rfl rfl hl.1 rfl (lv_room (Nat.le_of_ble_eq_true rfl)) dX3_viewers_3 ⟨Nat.le_of_ble_eq_true rfl, Nat.le_of_ble_eq_true rfl⟩) hS (fun H locs hR hS hz => ?_)
  obtain ⟨v2, hp, hf⟩ := q_b hf
  have hJ : ∀ (H : Heap) (locs : List Loc) (ls : Array Slot), qR D kz b0 X H → va_S (qA b0) s.heap H locs → H.size = sz → lv_has ls 3 [] → W p l e rmX3_viewers s m args below meth c H locs 0 0 Q (F0 m 19 ls [.int v2]) := by
    intro H locs ls hR hS hz hl
    subst hQ
    exact q_iret hx hb hr hlocks hR hS hz (Option.some.inj hf) rfl dX3_viewers_19
  have hf := hp
  refine lv_if_eq (tgt := 13) hx hb dX3_viewers_6 (by decide) (fun hc => ?_) (fun hc => ?_)
  · have hf := q_t hf hc
    refine lv_aload_n hx hb dX3_viewers_13 rfl (lv_at hl 0 rfl) ?_
    refine lv_aload_n hx hb dX3_viewers_14 rfl (lv_at hl 1 rfl) ?_
    refine lv_iload_n hx hb dX3_viewers_15 rfl (lv_at hl 2 rfl) ?_
    obtain ⟨v3, hc, hf⟩ := q_b hf
    refine q_calli (va_runV (As := [.ref a1, .int a2]) (rest := []) ⟨hx, hb, hml, hown, hT⟩ (mX3_inReach l D kz b0 sz F X a0 a1 a2 v3 hc) (cwV 2 hT (q_gV wco_X3_inReach wml_X3_91 wim_X3_inReach wse_X3_inReach win_X3) rfl rfl rfl hdX3_inReach ⟨Nat.le_of_ble_eq_true rfl, Nat.le_of_ble_eq_true rfl⟩) (q_preV vqX3 (fX3_inReach_is hc) hR hK hz) rfl rfl hl.1 rfl (lv_room (Nat.le_of_ble_eq_true rfl)) dX3_viewers_16 ⟨Nat.le_of_ble_eq_true rfl, Nat.le_of_ble_eq_true rfl⟩) hS (fun H locs hR hS hz => ?_)
    cases hf
    exact hJ _ _ _ hR hS hz (lv_sub hl [] rfl)
  · have hf := q_f hf hc
    refine lv_iconst (v := (0 : Int32)) hx hb dX3_viewers_9 (by decide) ?_
    refine lv_goto (tgt := 19) hx hb dX3_viewers_10 (by decide) ?_
    cases hf
    exact hJ _ _ _ hR hS hz (lv_sub hl [] rfl)
/-! X3_sign -/
def fX3_sign (F : Nat) (X : qH) (a0 : Nat) (a1 : Nat) (a2 : Int32) : Option (qH) :=
qIs 3 X a0 <|
(qgR X 3 a0 7).bind fun v1 =>
(fX3_viewers F X a0 a1 a2).bind fun v2 =>
(qaS X 0 v1 a2 v2).bind fun X3 =>
(qgR X3 3 a0 5).bind fun v4 =>
(qgI X3 3 a0 0).bind fun v5 =>
(qaS X3 0 v4 a2 v5).bind fun X6 =>
(qgR X6 3 a0 6).bind fun v7 =>
(fX3_cellOver F X6 a0 a1 a2).bind fun v8 =>
(qaS X6 0 v7 a2 v8).bind fun X9 =>
some X9
abbrev rmX3_sign : Room := { frames := 4, cells := 0, slots := 0, locals := 91 }
theorem fX3_sign_is {F : Nat} {X : qH} {a0 : Nat} {a1 : Nat} {a2 : Int32} {r9 : qH} (h : fX3_sign F X a0 a1 a2 = some r9) : ∃ fs, X a0 = some (.inr (3, fs)) := (qIs_spec h).1
theorem hdX3_sign : yX3_sign.cls = RX3 ∧ yX3_sign.cls ≠ "java/lang/invoke/MethodHandle" ∧ yX3_sign.cls ≠ "java/lang/invoke/VarHandle" ∧ (parseMethodDescriptor yX3_sign.desc).map (fun d => d.parameters.length) = some 2 := by decide +kernel
set_option maxHeartbeats 4000000 in
set_option maxRecDepth 100000 in
theorem mX3_sign (l : Launch) (D : va_G) (kz : Nat → Nat) (b0 sz F : Nat) (X : qH) (a0 : Nat) (a1 : Nat) (a2 : Int32)  (Xr : qH) (hf : fX3_sign F X a0 a1 a2 = some Xr) : Met l yX3_sign (qws yX3_sign cX3_sign 3 none) rmX3_sign (va_Pc [.ref a0, .ref a1, .int a2] (qU D kz b0 sz X)) (va_Qv (fun (u : qH) => u = Xr) (fun u t => qO D kz b0 sz u t) (qA b0)) 0 0 (qA b0) := by
  refine q_start (by decide) (Nat.le_of_ble_eq_true rfl) ?_
  intro p e s m args below meth c hx hb hr hlocks hnm hml hown hT hR hK hz ls hl
  have hown : s.vm.findClass RX3 = some m.cls := hown
  have hl : lv_has ls 3 [(0, .ref a0), (1, .ref a1), (2, .int a2)] := hl
  have hS : va_S (qA b0) s.heap s.heap [] := va_S.rf
  obtain ⟨Q, hQ⟩ : ∃ Q, Q = MQ below (va_Qv (fun (u : qH) => u = Xr) (fun u t => qO D kz b0 sz u t) (qA b0)) args s 0 0 (qA b0) := ⟨_, rfl⟩
  rw [← hQ]
  unfold fX3_sign at hf
  obtain ⟨hthis, hf⟩ := qIs_spec hf
  refine lv_aload_n hx hb dX3_sign_0 rfl (lv_at hl 0 rfl) ?_
  refine q_gR hx hb hT hown hK hR iqX3 vqX3 7 (by decide) (hT _ wfl_X3_21) hf dX3_sign_1 (fun v1 hf => ?_)
  refine lv_iload_n hx hb dX3_sign_4 rfl (lv_at hl 2 rfl) ?_
  refine lv_aload_n hx hb dX3_sign_5 rfl (lv_at hl 0 rfl) ?_
  refine lv_aload_n hx hb dX3_sign_6 rfl (lv_at hl 1 rfl) ?_
  refine lv_iload_n hx hb dX3_sign_7 rfl (lv_at hl 2 rfl) ?_
  obtain ⟨v2, hc, hf⟩ := q_b hf
  refine q_calli (va_runV (As := [.ref a1, .int a2]) (rest := [.int a2, .ref v1]) ⟨hx, hb, hml, hown, hT⟩ (mX3_viewers l D kz b0 sz F X a0 a1 a2 v2 hc) (cwV 2 hT (q_gV wco_X3_viewers wml_X3_94 wim_X3_viewers wse_X3_viewers win_X3) rfl rfl rfl hdX3_viewers ⟨Nat.le_of_ble_eq_true rfl, Nat.le_of_ble_eq_true rfl⟩) (q_preV vqX3 (fX3_viewers_is hc) hR hK hz) rfl rfl hl.1 rfl (lv_room (Nat.le_of_ble_eq_true rfl)) dX3_sign_8 ⟨Nat.le_of_ble_eq_true rfl, Nat.le_of_ble_eq_true rfl⟩) hS (fun H locs hR hS hz => ?_)
  refine q_iast hx hb hK hR hS hz hf dX3_sign_11 (fun X3 hf H locs hR hS hz => ?_)
  refine lv_aload_n hx hb dX3_sign_12 rfl (lv_at hl 0 rfl) ?_
  refine q_gR hx hb hT hown hK hR iqX3 vqX3 5 (by decide) (hT _ wfl_X3_15) hf dX3_sign_13 (fun v4 hf => ?_)
  refine lv_iload_n hx hb dX3_sign_16 rfl (lv_at hl 2 rfl) ?_
  refine lv_aload_n hx hb dX3_sign_17 rfl (lv_at hl 0 rfl) ?_
  refine q_gI hx hb hT hown hK hR iqX3 vqX3 0 (by decide) (hT _ wfl_X3_24) hf dX3_sign_18 (fun v5 hf => ?_)
  refine q_iast hx hb hK hR hS hz hf dX3_sign_21 (fun X6 hf H locs hR hS hz => ?_)
  refine lv_aload_n hx hb dX3_sign_22 rfl (lv_at hl 0 rfl) ?_
  refine q_gR hx hb hT hown hK hR iqX3 vqX3 6 (by decide) (hT _ wfl_X3_18) hf dX3_sign_23 (fun v7 hf => ?_)
  refine lv_iload_n hx hb dX3_sign_26 rfl (lv_at hl 2 rfl) ?_
  refine lv_aload_n hx hb dX3_sign_27 rfl (lv_at hl 0 rfl) ?_
  refine lv_aload_n hx hb dX3_sign_28 rfl (lv_at hl 1 rfl) ?_
  refine lv_iload_n hx hb dX3_sign_29 rfl (lv_at hl 2 rfl) ?_
  obtain ⟨v8, hc, hf⟩ := q_b hf
  refine q_calli (va_runV (As := [.ref a1, .int a2]) (rest := [.int a2, .ref v7]) ⟨hx, hb, hml, hown, hT⟩ (mX3_cellOver l D kz b0 sz F X6 a0 a1 a2 v8 hc) (cwV 2 hT (q_gV wco_X3_cellOver wml_X3_70 wim_X3_cellOver wse_X3_cellOver win_X3) rfl rfl rfl hdX3_cellOver ⟨Nat.le_of_ble_eq_true rfl, Nat.le_of_ble_eq_true rfl⟩) (q_preV vqX3 (fX3_cellOver_is hc) hR hK hz) rfl rfl hl.1 rfl (lv_room (Nat.le_of_ble_eq_true rfl)) dX3_sign_30 ⟨Nat.le_of_ble_eq_true rfl, Nat.le_of_ble_eq_true rfl⟩) hS (fun H locs hR hS hz => ?_)
  refine q_iast hx hb hK hR hS hz hf dX3_sign_33 (fun X9 hf H locs hR hS hz => ?_)
  subst hQ
  exact q_vret hx hb hr hlocks hR hS hz (Option.some.inj hf) dX3_sign_34
/-! X3_meet -/
def fX3_meet (F : Nat) (X : qH) (a0 : Nat) (a1 : Nat) (a2 : Int32) (a3 : Int32) : Option (qH) :=
qIs 3 X a0 <|
(fX0_readAs F X a1 a2).bind fun v1 =>
(fX0_readAs F X a1 a3).bind fun v2 =>
qlt (((((1 : Int32) <<< (a2 &&& 31)) ||| ((1 : Int32) <<< (a3 &&& 31))) ||| ((1 : Int32) <<< (v1 &&& 31))) ||| ((1 : Int32) <<< (v2 &&& 31))) fun v3 =>
(if v1 = v2 then (some X)
else ((qgR X 3 a0 7).bind fun v5 =>
(qaI X 0 v5 a2).bind fun v6 =>
(qgR X 3 a0 7).bind fun v7 =>
(qaI X 0 v7 a3).bind fun v8 =>
if ((v6 &&& v8) &&& (v3 ^^^ (-1 : Int32))) = (0 : Int32) then (some X)
else ((qgI X 3 a0 3).bind fun v9 =>
(fX3_pairBit F X v1 v2).bind fun v10 =>
qlt (v9 ||| v10) fun v11 =>
(qpI X 3 a0 3 v11).bind fun X12 =>
some X12)) : Option qH).bind fun X4 =>
some X4
abbrev rmX3_meet : Room := { frames := 2, cells := 0, slots := 0, locals := 43 }
theorem fX3_meet_is {F : Nat} {X : qH} {a0 : Nat} {a1 : Nat} {a2 : Int32} {a3 : Int32} {r9 : qH} (h : fX3_meet F X a0 a1 a2 a3 = some r9) : ∃ fs, X a0 = some (.inr (3, fs)) := (qIs_spec h).1
theorem hdX3_meet : yX3_meet.cls = RX3 ∧ yX3_meet.cls ≠ "java/lang/invoke/MethodHandle" ∧ yX3_meet.cls ≠ "java/lang/invoke/VarHandle" ∧ (parseMethodDescriptor yX3_meet.desc).map (fun d => d.parameters.length) = some 3 := by decide +kernel
set_option maxHeartbeats 4000000 in
set_option maxRecDepth 100000 in
theorem mX3_meet (l : Launch) (D : va_G) (kz : Nat → Nat) (b0 sz F : Nat) (X : qH) (a0 : Nat) (a1 : Nat) (a2 : Int32) (a3 : Int32)  (Xr : qH) (hf : fX3_meet F X a0 a1 a2 a3 = some Xr) : Met l yX3_meet (qws yX3_meet cX3_meet 7 none) rmX3_meet (va_Pc [.ref a0, .ref a1, .int a2, .int a3] (qU D kz b0 sz X)) (va_Qv (fun (u : qH) => u = Xr) (fun u t => qO D kz b0 sz u t) (qA b0)) 0 0 (qA b0) := by
  refine q_start (by decide) (Nat.le_of_ble_eq_true rfl) ?_
  intro p e s m args below meth c hx hb hr hlocks hnm hml hown hT hR hK hz ls hl
  have hown : s.vm.findClass RX3 = some m.cls := hown
  have hl : lv_has ls 7 [(0, .ref a0), (1, .ref a1), (2, .int a2), (3, .int a3)] := hl
  have hS : va_S (qA b0) s.heap s.heap [] := va_S.rf
  obtain ⟨Q, hQ⟩ : ∃ Q, Q = MQ below (va_Qv (fun (u : qH) => u = Xr) (fun u t => qO D kz b0 sz u t) (qA b0)) args s 0 0 (qA b0) := ⟨_, rfl⟩
  rw [← hQ]
  unfold fX3_meet at hf
  obtain ⟨hthis, hf⟩ := qIs_spec hf
  refine lv_aload_n hx hb dX3_meet_0 rfl (lv_at hl 1 rfl) ?_
  refine lv_iload_n hx hb dX3_meet_1 rfl (lv_at hl 2 rfl) ?_
  obtain ⟨v1, hc, hf⟩ := q_b hf
  refine q_calli (va_runV (As := [.int a2]) (rest := []) ⟨hx, hb, hml, hown, hT⟩ (mX0_readAs l D kz b0 sz F X a1 a2 v1 hc) (cwV 1 hT (q_gV wco_X0_readAs wml_X3_106 wim_X0_readAs wse_X0_readAs win_X0) rfl rfl rfl hdX0_readAs ⟨Nat.le_of_ble_eq_true rfl, Nat.le_of_ble_eq_true rfl⟩) (q_preV vqX0 (fX0_readAs_is hc) hR hK hz) rfl rfl hl.1 rfl (lv_room (Nat.le_of_ble_eq_true rfl)) dX3_meet_2 ⟨Nat.le_of_ble_eq_true rfl, Nat.le_of_ble_eq_true rfl⟩) hS (fun H locs hR hS hz => ?_)
  refine lv_istore (lv' := [(4, .int v1), (0, .ref a0), (1, .ref a1), (2, .int a2), (3, .int a3)]) hx hb dX3_meet_5 hl (by decide) rfl (fun ls hl => ?_)
  refine lv_aload_n hx hb dX3_meet_7 rfl (lv_at hl 2 rfl) ?_
  refine lv_iload_n hx hb dX3_meet_8 rfl (lv_at hl 4 rfl) ?_
  obtain ⟨v2, hc, hf⟩ := q_b hf
  refine q_calli (va_runV (As := [.int a3]) (rest := []) ⟨hx, hb, hml, hown, hT⟩ (mX0_readAs l D kz b0 sz F X a1 a3 v2 hc) (cwV 1 hT (q_gV wco_X0_readAs wml_X3_106 wim_X0_readAs wse_X0_readAs win_X0) rfl rfl rfl hdX0_readAs ⟨Nat.le_of_ble_eq_true rfl, Nat.le_of_ble_eq_true rfl⟩) (q_preV vqX0 (fX0_readAs_is hc) hR hK hz) rfl rfl hl.1 rfl (lv_room (Nat.le_of_ble_eq_true rfl)) dX3_meet_9 ⟨Nat.le_of_ble_eq_true rfl, Nat.le_of_ble_eq_true rfl⟩) hS (fun H locs hR hS hz => ?_)
  refine lv_istore (lv' := [(5, .int v2), (4, .int v1), (0, .ref a0), (1, .ref a1), (2, .int a2), (3, .int a3)]) hx hb dX3_meet_12 hl (by decide) rfl (fun ls hl => ?_)
  refine lv_iconst (v := (1 : Int32)) hx hb dX3_meet_14 (by decide) ?_
  refine lv_iload_n hx hb dX3_meet_15 rfl (lv_at hl 4 rfl) ?_
  refine lv_ishl hx hb dX3_meet_16 ?_
  refine lv_iconst (v := (1 : Int32)) hx hb dX3_meet_17 (by decide) ?_
  refine lv_iload_n hx hb dX3_meet_18 rfl (lv_at hl 5 rfl) ?_
  refine lv_ishl hx hb dX3_meet_19 ?_
  refine lv_ior hx hb dX3_meet_20 ?_
  refine lv_iconst (v := (1 : Int32)) hx hb dX3_meet_21 (by decide) ?_
  refine lv_iload hx hb dX3_meet_22 (lv_at hl 1 rfl) ?_
  refine lv_ishl hx hb dX3_meet_24 ?_
  refine lv_ior hx hb dX3_meet_25 ?_
  refine lv_iconst (v := (1 : Int32)) hx hb dX3_meet_26 (by decide) ?_
  refine lv_iload hx hb dX3_meet_27 (lv_at hl 0 rfl) ?_
  refine lv_ishl hx hb dX3_meet_29 ?_
  refine lv_ior hx hb dX3_meet_30 ?_
  refine lv_topi (fun v3 ev3 => ?_)
  have hf := q_lt ev3 hf
  refine lv_istore (lv' := [(6, .int v3), (5, .int v2), (4, .int v1), (0, .ref a0), (1, .ref a1), (2, .int a2), (3, .int a3)]) hx hb dX3_meet_31 hl (by decide) rfl (fun ls hl => ?_)
  refine lv_iload hx hb dX3_meet_33 (lv_at hl 2 rfl) ?_
  refine lv_iload hx hb dX3_meet_35 (lv_at hl 1 rfl) ?_
  obtain ⟨X4, hp, hf⟩ := q_b hf
  have hJ : ∀ (H : Heap) (locs : List Loc) (ls : Array Slot), qR D kz b0 X4 H → va_S (qA b0) s.heap H locs → H.size = sz → lv_has ls 7 [] → W p l e rmX3_meet s m args below meth c H locs 0 0 Q (F0 m 77 ls []) := by
    intro H locs ls hR hS hz hl
    subst hQ
    exact q_vret hx hb hr hlocks hR hS hz (Option.some.inj hf) dX3_meet_77
  have hf := hp
  refine lv_icmp_eq (tgt := 77) hx hb dX3_meet_37 (by decide) (fun hc => ?_) (fun hc => ?_)
  · have hf := q_t hf hc
    cases hf
    exact hJ _ _ _ hR hS hz (lv_sub hl [] rfl)
  · have hf := q_f hf hc
    refine lv_aload_n hx hb dX3_meet_40 rfl (lv_at hl 3 rfl) ?_
    refine q_gR hx hb hT hown hK hR iqX3 vqX3 7 (by decide) (hT _ wfl_X3_21) hf dX3_meet_41 (fun v5 hf => ?_)
    refine lv_iload_n hx hb dX3_meet_44 rfl (lv_at hl 5 rfl) ?_
    refine q_iald hx hb hK hR hf dX3_meet_45 (fun v6 hf => ?_)
    refine lv_aload_n hx hb dX3_meet_46 rfl (lv_at hl 3 rfl) ?_
    refine q_gR hx hb hT hown hK hR iqX3 vqX3 7 (by decide) (hT _ wfl_X3_21) hf dX3_meet_47 (fun v7 hf => ?_)
    refine lv_iload_n hx hb dX3_meet_50 rfl (lv_at hl 6 rfl) ?_
    refine q_iald hx hb hK hR hf dX3_meet_51 (fun v8 hf => ?_)
    refine lv_iand hx hb dX3_meet_52 ?_
    refine lv_iload hx hb dX3_meet_53 (lv_at hl 0 rfl) ?_
    refine lv_iconst (v := (-1 : Int32)) hx hb dX3_meet_55 (by decide) ?_
    refine lv_ixor hx hb dX3_meet_56 ?_
    refine lv_iand hx hb dX3_meet_57 ?_
    refine lv_if_eq (tgt := 77) hx hb dX3_meet_58 (by decide) (fun hc => ?_) (fun hc => ?_)
    · have hf := q_t hf hc
      cases hf
      exact hJ _ _ _ hR hS hz (lv_sub hl [] rfl)
    · have hf := q_f hf hc
      refine lv_aload_n hx hb dX3_meet_61 rfl (lv_at hl 3 rfl) ?_
      refine lv_dup hx hb dX3_meet_62 rfl ?_
      refine q_gI hx hb hT hown hK hR iqX3 vqX3 3 (by decide) (hT _ wfl_X3_42) hf dX3_meet_63 (fun v9 hf => ?_)
      refine lv_iload hx hb dX3_meet_66 (lv_at hl 2 rfl) ?_
      refine lv_iload hx hb dX3_meet_68 (lv_at hl 1 rfl) ?_
      obtain ⟨v10, hc, hf⟩ := q_b hf
      refine q_calli (va_runS (As := [.int v1, .int v2]) (rest := [.int v9, .ref a0]) ⟨hx, hb, hml, hown, hT⟩ (mX3_pairBit l D kz b0 sz F X v1 v2 v10 hc) (va_cwS 2 hT (q_gS wco_X3_pairBit wml_X3_109 wst_X3_pairBit win_X3) rfl rfl rfl hdX3_pairBit ⟨Nat.le_of_ble_eq_true rfl, Nat.le_of_ble_eq_true rfl⟩) (q_preS hR hK hz) rfl rfl hl.1 rfl (lv_room (Nat.le_of_ble_eq_true rfl)) dX3_meet_70 ⟨Nat.le_of_ble_eq_true rfl, Nat.le_of_ble_eq_true rfl⟩) hS (fun H locs hR hS hz => ?_)
      refine lv_ior hx hb dX3_meet_73 ?_
      refine lv_topi (fun v11 ev11 => ?_)
      have hf := q_lt ev11 hf
      refine q_pI hx hb hT hown hK hR hS hz iqX3 vqX3 tyX3_ok nmX3 3 (by decide) (hT _ wfl_X3_42) rfl rfl hf dX3_meet_74 (fun X12 hf H locs hR hS hz => ?_)
      cases hf
      exact hJ _ _ _ hR hS hz (lv_sub hl [] rfl)
/-! X3_agree -/
def fX3_agree_L11_B (F : Nat) (a0 : Nat) (a1 : Nat) (a2 : Int32) (v2 : Int32) (self0 : Int32 → qH → Option (qH)) (v3 : Int32) (X4 : qH) : Option (qH) :=
(qgI X4 0 a1 5).bind fun v5 =>
if v5 ≤ v3 then (some X4)
else ((if v3 = a2 then (some X4)
else ((qgR X4 3 a0 5).bind fun v8 =>
(qaI X4 0 v8 v3).bind fun v9 =>
if v9 = (-1 : Int32) then (some X4)
else ((qgI X4 3 a0 0).bind fun v10 =>
(qgR X4 3 a0 5).bind fun v11 =>
(qaI X4 0 v11 v3).bind fun v12 =>
if (1 : Int32) < (v10 - v12) then (some X4)
else ((fX3_meet F X4 a0 a1 a2 v3).bind fun X13 =>
some X13))) : Option qH).bind fun X6 =>
qlt (v3 + (1 : Int32)) fun v7 =>
self0 v7 X6)
def fX3_agree_L11 (F : Nat) (a0 : Nat) (a1 : Nat) (a2 : Int32) (v2 : Int32) : Nat → Int32 → qH → Option (qH)
  | 0, _, _ => none
  | n + 1, v3, X4 => fX3_agree_L11_B F a0 a1 a2 v2 (fX3_agree_L11 F a0 a1 a2 v2 n) v3 X4
def fX3_agree (F : Nat) (X : qH) (a0 : Nat) (a1 : Nat) (a2 : Int32) : Option (Int32 × qH) :=
qIs 3 X a0 <|
(qgI X 3 a0 3).bind fun v1 =>
(fJ6_bitCount_0f7a4 F X v1).bind fun v2 =>
(fX3_agree_L11 F a0 a1 a2 v2 F (0 : Int32) X).bind fun X14 =>
(qgI X14 3 a0 3).bind fun v15 =>
(fJ6_bitCount_0f7a4 F X14 v15).bind fun v16 =>
some ((v16 - v2), X14)
abbrev rmX3_agree : Room := { frames := 3, cells := 0, slots := 0, locals := 69 }
theorem fX3_agree_is {F : Nat} {X : qH} {a0 : Nat} {a1 : Nat} {a2 : Int32} {r9 : Int32 × qH} (h : fX3_agree F X a0 a1 a2 = some r9) : ∃ fs, X a0 = some (.inr (3, fs)) := (qIs_spec h).1
theorem hdX3_agree : yX3_agree.cls = RX3 ∧ yX3_agree.cls ≠ "java/lang/invoke/MethodHandle" ∧ yX3_agree.cls ≠ "java/lang/invoke/VarHandle" ∧ (parseMethodDescriptor yX3_agree.desc).map (fun d => d.parameters.length) = some 2 := by decide +kernel
set_option maxHeartbeats 4000000 in
set_option maxRecDepth 100000 in
theorem mX3_agree (l : Launch) (D : va_G) (kz : Nat → Nat) (b0 sz F : Nat) (X : qH) (a0 : Nat) (a1 : Nat) (a2 : Int32) (r : Int32) (Xr : qH) (hf : fX3_agree F X a0 a1 a2 = some (r, Xr)) : Met l yX3_agree (qws yX3_agree cX3_agree 5 (some .int)) rmX3_agree (va_Pc [.ref a0, .ref a1, .int a2] (qU D kz b0 sz X)) (va_Qi (fun (r' : Int32) (u : qH) => r' = r ∧ u = Xr) (fun u t => qO D kz b0 sz u t) (qA b0)) 0 0 (qA b0) := by
  refine q_start (by decide) (Nat.le_of_ble_eq_true rfl) ?_
  intro p e s m args below meth c hx hb hr hlocks hnm hml hown hT hR hK hz ls hl
  have hown : s.vm.findClass RX3 = some m.cls := hown
  have hl : lv_has ls 5 [(0, .ref a0), (1, .ref a1), (2, .int a2)] := hl
  have hS : va_S (qA b0) s.heap s.heap [] := va_S.rf
  obtain ⟨Q, hQ⟩ : ∃ Q, Q = MQ below (va_Qi (fun (r' : Int32) (u : qH) => r' = r ∧ u = Xr) (fun u t => qO D kz b0 sz u t) (qA b0)) args s 0 0 (qA b0) := ⟨_, rfl⟩
  rw [← hQ]
  unfold fX3_agree at hf
  obtain ⟨hthis, hf⟩ := qIs_spec hf
  refine lv_aload_n hx hb dX3_agree_0 rfl (lv_at hl 0 rfl) ?_
  refine q_gI hx hb hT hown hK hR iqX3 vqX3 3 (by decide) (hT _ wfl_X3_42) hf dX3_agree_1 (fun v1 hf => ?_)
  obtain ⟨v2, hc, hf⟩ := q_b hf
  refine q_calli (va_runS (As := [.int v1]) (rest := []) ⟨hx, hb, hml, hown, hT⟩ (mJ6_bitCount_0f7a4 l D kz b0 sz F X v1 v2 hc) (va_cwS 1 hT (q_gS wco_J6_bitCount_0f7a4 wml_X3_97 wst_J6_bitCount_0f7a4 win_J6) rfl rfl rfl hdJ6_bitCount_0f7a4 ⟨Nat.le_of_ble_eq_true rfl, Nat.le_of_ble_eq_true rfl⟩) (q_preS hR hK hz) rfl rfl hl.1 rfl (lv_room (Nat.le_of_ble_eq_true rfl)) dX3_agree_4 ⟨Nat.le_of_ble_eq_true rfl, Nat.le_of_ble_eq_true rfl⟩) hS (fun H locs hR hS hz => ?_)
  refine lv_istore_n (lv' := [(3, .int v2), (0, .ref a0), (1, .ref a1), (2, .int a2)]) hx hb dX3_agree_7 rfl hl (by decide) rfl (fun ls hl => ?_)
  refine lv_iconst (v := (0 : Int32)) hx hb dX3_agree_8 (by decide) ?_
  refine lv_istore (lv' := [(4, .int (0 : Int32)), (3, .int v2), (0, .ref a0), (1, .ref a1), (2, .int a2)]) hx hb dX3_agree_9 hl (by decide) rfl (fun ls hl => ?_)
  obtain ⟨X14, ho, hf⟩ := q_b hf
  have hL : ∀ (n : Nat) (v3 : Int32) (X4 : qH) (out : qH), fX3_agree_L11 F a0 a1 a2 v2 n v3 X4 = some out → (∀ (X14 : qH), out = X14 → ∀ (H : Heap) (locs : List Loc) (ls : Array Slot), qR D kz b0 X14 H → va_S (qA b0) s.heap H locs → H.size = sz → lv_has ls 5 [(0, .ref a0), (3, .int v2)] → W p l e rmX3_agree s m args below meth c H locs 0 0 Q (F0 m 67 ls [])) → ∀ (H : Heap) (locs : List Loc) (ls : Array Slot), qR D kz b0 X4 H → va_S (qA b0) s.heap H locs → H.size = sz → lv_has ls 5 [(0, .ref a0), (1, .ref a1), (2, .int a2), (3, .int v2), (4, .int v3)] → W p l e rmX3_agree s m args below meth c H locs 0 0 Q (F0 m 11 ls []) := by
    intro n9
    induction n9 with
    | zero =>
      intro v3 X4 out hf
      exact absurd (show none = some out from hf) (by simp)
    | succ n9 ih0 =>
      intro v3 X4 out hf hex H locs ls hR hS hz hl
      have hf : fX3_agree_L11_B F a0 a1 a2 v2 (fX3_agree_L11 F a0 a1 a2 v2 n9) v3 X4 = some out := hf
      unfold fX3_agree_L11_B at hf
      refine lv_iload hx hb dX3_agree_11 (lv_at hl 4 rfl) ?_
      refine lv_aload_n hx hb dX3_agree_13 rfl (lv_at hl 1 rfl) ?_
      refine q_gI hx hb hT hown hK hR iqX0 vqX0 5 (by decide) (hT _ wfl_X3_45) hf dX3_agree_14 (fun v5 hf => ?_)
      refine lv_icmp_ge (tgt := 67) hx hb dX3_agree_17 (by decide) (fun hc => ?_) (fun hc => ?_)
      · have hf := q_t hf hc
        exact hex _ (Option.some.inj hf).symm _ _ _ hR hS hz (lv_sub hl [0, 3] rfl)
      · have hf := q_f hf hc
        refine lv_iload hx hb dX3_agree_20 (lv_at hl 4 rfl) ?_
        refine lv_iload_n hx hb dX3_agree_22 rfl (lv_at hl 2 rfl) ?_
        obtain ⟨X6, hp, hf⟩ := q_b hf
        have hJ : ∀ (H : Heap) (locs : List Loc) (ls : Array Slot), qR D kz b0 X6 H → va_S (qA b0) s.heap H locs → H.size = sz → lv_has ls 5 [(0, .ref a0), (1, .ref a1), (2, .int a2), (3, .int v2), (4, .int v3)] → W p l e rmX3_agree s m args below meth c H locs 0 0 Q (F0 m 61 ls []) := by
          intro H locs ls hR hS hz hl
          obtain ⟨v7, ev7⟩ : ∃ y : Int32, y = (v3 + (1 : Int32)) := ⟨_, rfl⟩
          have hf := q_lt ev7 hf
          refine lv_iinc (v := v7) (lv' := [(4, .int v7), (0, .ref a0), (1, .ref a1), (2, .int a2), (3, .int v2)]) hx hb dX3_agree_61 hl (k := 4) rfl (by rw [ev7]; rfl) (by decide) rfl (fun ls hl => ?_)
          refine lv_goto (tgt := 11) hx hb dX3_agree_64 (by decide) ?_
          exact ih0 _ _ out hf hex _ _ _ hR hS hz (lv_sub hl [1, 2, 3, 4, 0] rfl)
        have hf := hp
        refine lv_icmp_eq (tgt := 61) hx hb dX3_agree_23 (by decide) (fun hc => ?_) (fun hc => ?_)
        · have hf := q_t hf hc
          cases hf
          exact hJ _ _ _ hR hS hz (lv_sub hl [0, 1, 2, 3, 4] rfl)
        · have hf := q_f hf hc
          refine lv_aload_n hx hb dX3_agree_26 rfl (lv_at hl 0 rfl) ?_
          refine q_gR hx hb hT hown hK hR iqX3 vqX3 5 (by decide) (hT _ wfl_X3_15) hf dX3_agree_27 (fun v8 hf => ?_)
          refine lv_iload hx hb dX3_agree_30 (lv_at hl 4 rfl) ?_
          refine q_iald hx hb hK hR hf dX3_agree_32 (fun v9 hf => ?_)
          refine lv_iconst (v := (-1 : Int32)) hx hb dX3_agree_33 (by decide) ?_
          refine lv_icmp_eq (tgt := 61) hx hb dX3_agree_34 (by decide) (fun hc => ?_) (fun hc => ?_)
          · have hf := q_t hf hc
            cases hf
            exact hJ _ _ _ hR hS hz (lv_sub hl [0, 1, 2, 3, 4] rfl)
          · have hf := q_f hf hc
            refine lv_aload_n hx hb dX3_agree_37 rfl (lv_at hl 0 rfl) ?_
            refine q_gI hx hb hT hown hK hR iqX3 vqX3 0 (by decide) (hT _ wfl_X3_24) hf dX3_agree_38 (fun v10 hf => ?_)
            refine lv_aload_n hx hb dX3_agree_41 rfl (lv_at hl 0 rfl) ?_
            refine q_gR hx hb hT hown hK hR iqX3 vqX3 5 (by decide) (hT _ wfl_X3_15) hf dX3_agree_42 (fun v11 hf => ?_)
            refine lv_iload hx hb dX3_agree_45 (lv_at hl 4 rfl) ?_
            refine q_iald hx hb hK hR hf dX3_agree_47 (fun v12 hf => ?_)
            refine lv_isub hx hb dX3_agree_48 ?_
            refine lv_iconst (v := (1 : Int32)) hx hb dX3_agree_49 (by decide) ?_
            refine lv_icmp_gt (tgt := 61) hx hb dX3_agree_50 (by decide) (fun hc => ?_) (fun hc => ?_)
            · have hf := q_t hf hc
              cases hf
              exact hJ _ _ _ hR hS hz (lv_sub hl [0, 1, 2, 3, 4] rfl)
            · have hf := q_f hf hc
              refine lv_aload_n hx hb dX3_agree_53 rfl (lv_at hl 0 rfl) ?_
              refine lv_aload_n hx hb dX3_agree_54 rfl (lv_at hl 1 rfl) ?_
              refine lv_iload_n hx hb dX3_agree_55 rfl (lv_at hl 2 rfl) ?_
              refine lv_iload hx hb dX3_agree_56 (lv_at hl 4 rfl) ?_
              obtain ⟨X13, hc, hf⟩ := q_b hf
              refine q_callv (va_runV (As := [.ref a1, .int a2, .int v3]) (rest := []) ⟨hx, hb, hml, hown, hT⟩ (mX3_meet l D kz b0 sz F X4 a0 a1 a2 v3 X13 hc) (cwV 3 hT (q_gV wco_X3_meet wml_X3_102 wim_X3_meet wse_X3_meet win_X3) rfl rfl rfl hdX3_meet ⟨Nat.le_of_ble_eq_true rfl, Nat.le_of_ble_eq_true rfl⟩) (q_preV vqX3 (fX3_meet_is hc) hR hK hz) rfl rfl hl.1 rfl (lv_room (Nat.le_of_ble_eq_true rfl)) dX3_agree_58 ⟨Nat.le_of_ble_eq_true rfl, Nat.le_of_ble_eq_true rfl⟩) hS (fun H locs hR hS hz => ?_)
              cases hf
              exact hJ _ _ _ hR hS hz (lv_sub hl [0, 1, 2, 3, 4] rfl)
  refine hL F _ _ _ ho (fun z0 h9 => ?_) _ _ _ hR hS hz (lv_sub hl [2, 3, 4, 1, 0] rfl)
  cases h9
  intro H locs ls hR hS hz hl
  refine lv_aload_n hx hb dX3_agree_67 rfl (lv_at hl 0 rfl) ?_
  refine q_gI hx hb hT hown hK hR iqX3 vqX3 3 (by decide) (hT _ wfl_X3_42) hf dX3_agree_68 (fun v15 hf => ?_)
  obtain ⟨v16, hc, hf⟩ := q_b hf
  refine q_calli (va_runS (As := [.int v15]) (rest := []) ⟨hx, hb, hml, hown, hT⟩ (mJ6_bitCount_0f7a4 l D kz b0 sz F X14 v15 v16 hc) (va_cwS 1 hT (q_gS wco_J6_bitCount_0f7a4 wml_X3_97 wst_J6_bitCount_0f7a4 win_J6) rfl rfl rfl hdJ6_bitCount_0f7a4 ⟨Nat.le_of_ble_eq_true rfl, Nat.le_of_ble_eq_true rfl⟩) (q_preS hR hK hz) rfl rfl hl.1 rfl (lv_room (Nat.le_of_ble_eq_true rfl)) dX3_agree_71 ⟨Nat.le_of_ble_eq_true rfl, Nat.le_of_ble_eq_true rfl⟩) hS (fun H locs hR hS hz => ?_)
  refine lv_iload_n hx hb dX3_agree_74 rfl (lv_at hl 1 rfl) ?_
  refine lv_isub hx hb dX3_agree_75 ?_
  subst hQ
  obtain ⟨h8, h9⟩ := Prod.mk.inj (Option.some.inj hf)
  exact q_iret hx hb hr hlocks hR hS hz h8 h9 dX3_agree_76
/-! X3_conditionals -/
def fX3_conditionals_L15_B (F : Nat) (X : qH) (a0 : Nat) (a1 : Nat) (v2 : Int32) (self0 : Int32 → Int32 → Option (Int32)) (v4 : Int32) (v5 : Int32) : Option (Int32) :=
if v2 ≤ v5 then (some v4)
else ((fX3_holdsFor F X a0 v5 v2).bind fun v6 =>
(if v6 = (0 : Int32) then (some v4)
else ((fX0_anyGreen F X a1 v5 v2).bind fun v9 =>
if v9 = (0 : Int32) then (some v4)
else (qlt (v4 + (1 : Int32)) fun v10 =>
some v10)) : Option Int32).bind fun v7 =>
qlt (v5 + (1 : Int32)) fun v8 =>
self0 v7 v8)
def fX3_conditionals_L15 (F : Nat) (X : qH) (a0 : Nat) (a1 : Nat) (v2 : Int32) : Nat → Int32 → Int32 → Option (Int32)
  | 0, _, _ => none
  | n + 1, v4, v5 => fX3_conditionals_L15_B F X a0 a1 v2 (fX3_conditionals_L15 F X a0 a1 v2 n) v4 v5
def fX3_conditionals_L4_B (F : Nat) (X : qH) (a0 : Nat) (a1 : Nat) (self0 : Int32 → Int32 → Option (Int32)) (v1 : Int32) (v2 : Int32) : Option (Int32) :=
(qgI X 0 a1 5).bind fun v3 =>
if v3 ≤ v2 then (some v1)
else ((fX3_conditionals_L15 F X a0 a1 v2 F v1 (0 : Int32)).bind fun v11 =>
qlt (v2 + (1 : Int32)) fun v12 =>
self0 v11 v12)
def fX3_conditionals_L4 (F : Nat) (X : qH) (a0 : Nat) (a1 : Nat) : Nat → Int32 → Int32 → Option (Int32)
  | 0, _, _ => none
  | n + 1, v1, v2 => fX3_conditionals_L4_B F X a0 a1 (fX3_conditionals_L4 F X a0 a1 n) v1 v2
def fX3_conditionals (F : Nat) (X : qH) (a0 : Nat) (a1 : Nat) : Option (Int32) :=
qIs 3 X a0 <|
(fX3_conditionals_L4 F X a0 a1 F (0 : Int32) (1 : Int32)).bind fun v13 =>
some v13
abbrev rmX3_conditionals : Room := { frames := 3, cells := 0, slots := 0, locals := 65 }
theorem fX3_conditionals_is {F : Nat} {X : qH} {a0 : Nat} {a1 : Nat} {r9 : Int32} (h : fX3_conditionals F X a0 a1 = some r9) : ∃ fs, X a0 = some (.inr (3, fs)) := (qIs_spec h).1
theorem hdX3_conditionals : yX3_conditionals.cls = RX3 ∧ yX3_conditionals.cls ≠ "java/lang/invoke/MethodHandle" ∧ yX3_conditionals.cls ≠ "java/lang/invoke/VarHandle" ∧ (parseMethodDescriptor yX3_conditionals.desc).map (fun d => d.parameters.length) = some 1 := by decide +kernel
set_option maxHeartbeats 4000000 in
set_option maxRecDepth 100000 in
theorem mX3_conditionals (l : Launch) (D : va_G) (kz : Nat → Nat) (b0 sz F : Nat) (X : qH) (a0 : Nat) (a1 : Nat) (r : Int32) (hf : fX3_conditionals F X a0 a1 = some r) : Met l yX3_conditionals (qws yX3_conditionals cX3_conditionals 5 (some .int)) rmX3_conditionals (va_Pc [.ref a0, .ref a1] (qU D kz b0 sz X)) (va_Qi (fun (r' : Int32) (u : qH) => r' = r ∧ u = X) (fun u t => qO D kz b0 sz u t) (qA b0)) 0 0 (qA b0) := by
  refine q_start (by decide) (Nat.le_of_ble_eq_true rfl) ?_
  intro p e s m args below meth c hx hb hr hlocks hnm hml hown hT hR hK hz ls hl
  have hown : s.vm.findClass RX3 = some m.cls := hown
  have hl : lv_has ls 5 [(0, .ref a0), (1, .ref a1)] := hl
  have hS : va_S (qA b0) s.heap s.heap [] := va_S.rf
  obtain ⟨Q, hQ⟩ : ∃ Q, Q = MQ below (va_Qi (fun (r' : Int32) (u : qH) => r' = r ∧ u = X) (fun u t => qO D kz b0 sz u t) (qA b0)) args s 0 0 (qA b0) := ⟨_, rfl⟩
  rw [← hQ]
  unfold fX3_conditionals at hf
  obtain ⟨hthis, hf⟩ := qIs_spec hf
  refine lv_iconst (v := (0 : Int32)) hx hb dX3_conditionals_0 (by decide) ?_
  refine lv_istore_n (lv' := [(2, .int (0 : Int32)), (0, .ref a0), (1, .ref a1)]) hx hb dX3_conditionals_1 rfl hl (by decide) rfl (fun ls hl => ?_)
  refine lv_iconst (v := (1 : Int32)) hx hb dX3_conditionals_2 (by decide) ?_
  refine lv_istore_n (lv' := [(3, .int (1 : Int32)), (2, .int (0 : Int32)), (0, .ref a0), (1, .ref a1)]) hx hb dX3_conditionals_3 rfl hl (by decide) rfl (fun ls hl => ?_)
  obtain ⟨v13, ho, hf⟩ := q_b hf
  have hL : ∀ (n : Nat) (v1 : Int32) (v2 : Int32) (out : Int32), fX3_conditionals_L4 F X a0 a1 n v1 v2 = some out → (∀ (v13 : Int32), out = v13 → ∀ (H : Heap) (locs : List Loc) (ls : Array Slot), qR D kz b0 X H → va_S (qA b0) s.heap H locs → H.size = sz → lv_has ls 5 [(2, .int v13)] → W p l e rmX3_conditionals s m args below meth c H locs 0 0 Q (F0 m 56 ls [])) → ∀ (H : Heap) (locs : List Loc) (ls : Array Slot), qR D kz b0 X H → va_S (qA b0) s.heap H locs → H.size = sz → lv_has ls 5 [(0, .ref a0), (1, .ref a1), (2, .int v1), (3, .int v2)] → W p l e rmX3_conditionals s m args below meth c H locs 0 0 Q (F0 m 4 ls []) := by
    intro n9
    induction n9 with
    | zero =>
      intro v1 v2 out hf
      exact absurd (show none = some out from hf) (by simp)
    | succ n9 ih0 =>
      intro v1 v2 out hf hex H locs ls hR hS hz hl
      have hf : fX3_conditionals_L4_B F X a0 a1 (fX3_conditionals_L4 F X a0 a1 n9) v1 v2 = some out := hf
      unfold fX3_conditionals_L4_B at hf
      refine lv_iload_n hx hb dX3_conditionals_4 rfl (lv_at hl 3 rfl) ?_
      refine lv_aload_n hx hb dX3_conditionals_5 rfl (lv_at hl 1 rfl) ?_
      refine q_gI hx hb hT hown hK hR iqX0 vqX0 5 (by decide) (hT _ wfl_X3_45) hf dX3_conditionals_6 (fun v3 hf => ?_)
      refine lv_icmp_ge (tgt := 56) hx hb dX3_conditionals_9 (by decide) (fun hc => ?_) (fun hc => ?_)
      · have hf := q_t hf hc
        exact hex _ (Option.some.inj hf).symm _ _ _ hR hS hz (lv_sub hl [2] rfl)
      · have hf := q_f hf hc
        refine lv_iconst (v := (0 : Int32)) hx hb dX3_conditionals_12 (by decide) ?_
        refine lv_istore (lv' := [(4, .int (0 : Int32)), (0, .ref a0), (1, .ref a1), (2, .int v1), (3, .int v2)]) hx hb dX3_conditionals_13 hl (by decide) rfl (fun ls hl => ?_)
        obtain ⟨v11, ho, hf⟩ := q_b hf
        have hL : ∀ (n : Nat) (v4 : Int32) (v5 : Int32) (out : Int32), fX3_conditionals_L15 F X a0 a1 v2 n v4 v5 = some out → (∀ (v11 : Int32), out = v11 → ∀ (H : Heap) (locs : List Loc) (ls : Array Slot), qR D kz b0 X H → va_S (qA b0) s.heap H locs → H.size = sz → lv_has ls 5 [(0, .ref a0), (1, .ref a1), (2, .int v11), (3, .int v2)] → W p l e rmX3_conditionals s m args below meth c H locs 0 0 Q (F0 m 50 ls [])) → ∀ (H : Heap) (locs : List Loc) (ls : Array Slot), qR D kz b0 X H → va_S (qA b0) s.heap H locs → H.size = sz → lv_has ls 5 [(0, .ref a0), (1, .ref a1), (2, .int v4), (3, .int v2), (4, .int v5)] → W p l e rmX3_conditionals s m args below meth c H locs 0 0 Q (F0 m 15 ls []) := by
          intro n9
          induction n9 with
          | zero =>
            intro v4 v5 out hf
            exact absurd (show none = some out from hf) (by simp)
          | succ n9 ih0 =>
            intro v4 v5 out hf hex H locs ls hR hS hz hl
            have hf : fX3_conditionals_L15_B F X a0 a1 v2 (fX3_conditionals_L15 F X a0 a1 v2 n9) v4 v5 = some out := hf
            unfold fX3_conditionals_L15_B at hf
            refine lv_iload hx hb dX3_conditionals_15 (lv_at hl 4 rfl) ?_
            refine lv_iload_n hx hb dX3_conditionals_17 rfl (lv_at hl 3 rfl) ?_
            refine lv_icmp_ge (tgt := 50) hx hb dX3_conditionals_18 (by decide) (fun hc => ?_) (fun hc => ?_)
            · have hf := q_t hf hc
              exact hex _ (Option.some.inj hf).symm _ _ _ hR hS hz (lv_sub hl [0, 1, 2, 3] rfl)
            · have hf := q_f hf hc
              refine lv_aload_n hx hb dX3_conditionals_21 rfl (lv_at hl 0 rfl) ?_
              refine lv_iload hx hb dX3_conditionals_22 (lv_at hl 4 rfl) ?_
              refine lv_iload_n hx hb dX3_conditionals_24 rfl (lv_at hl 3 rfl) ?_
              obtain ⟨v6, hc, hf⟩ := q_b hf
              refine q_calli (va_runV (As := [.int v5, .int v2]) (rest := []) ⟨hx, hb, hml, hown, hT⟩ (mX3_holdsFor l D kz b0 sz F X a0 v5 v2 v6 hc) (cwV 2 hT (q_gV wco_X3_holdsFor wml_X3_112 wim_X3_holdsFor wse_X3_holdsFor win_X3) rfl rfl rfl hdX3_holdsFor ⟨Nat.le_of_ble_eq_true rfl, Nat.le_of_ble_eq_true rfl⟩) (q_preV vqX3 (fX3_holdsFor_is hc) hR hK hz) rfl rfl hl.1 rfl (lv_room (Nat.le_of_ble_eq_true rfl)) dX3_conditionals_25 ⟨Nat.le_of_ble_eq_true rfl, Nat.le_of_ble_eq_true rfl⟩) hS (fun H locs hR hS hz => ?_)
              obtain ⟨v7, hp, hf⟩ := q_b hf
              have hJ : ∀ (H : Heap) (locs : List Loc) (ls : Array Slot), qR D kz b0 X H → va_S (qA b0) s.heap H locs → H.size = sz → lv_has ls 5 [(0, .ref a0), (1, .ref a1), (2, .int v7), (3, .int v2), (4, .int v5)] → W p l e rmX3_conditionals s m args below meth c H locs 0 0 Q (F0 m 44 ls []) := by
                intro H locs ls hR hS hz hl
                obtain ⟨v8, ev8⟩ : ∃ y : Int32, y = (v5 + (1 : Int32)) := ⟨_, rfl⟩
                have hf := q_lt ev8 hf
                refine lv_iinc (v := v8) (lv' := [(4, .int v8), (0, .ref a0), (1, .ref a1), (2, .int v7), (3, .int v2)]) hx hb dX3_conditionals_44 hl (k := 4) rfl (by rw [ev8]; rfl) (by decide) rfl (fun ls hl => ?_)
                refine lv_goto (tgt := 15) hx hb dX3_conditionals_47 (by decide) ?_
                exact ih0 _ _ out hf hex _ _ _ hR hS hz (lv_sub hl [1, 2, 3, 4, 0] rfl)
              have hf := hp
              refine lv_if_eq (tgt := 44) hx hb dX3_conditionals_28 (by decide) (fun hc => ?_) (fun hc => ?_)
              · have hf := q_t hf hc
                cases hf
                exact hJ _ _ _ hR hS hz (lv_sub hl [0, 1, 2, 3, 4] rfl)
              · have hf := q_f hf hc
                refine lv_aload_n hx hb dX3_conditionals_31 rfl (lv_at hl 1 rfl) ?_
                refine lv_iload hx hb dX3_conditionals_32 (lv_at hl 4 rfl) ?_
                refine lv_iload_n hx hb dX3_conditionals_34 rfl (lv_at hl 3 rfl) ?_
                obtain ⟨v9, hc, hf⟩ := q_b hf
                refine q_calli (va_runV (As := [.int v5, .int v2]) (rest := []) ⟨hx, hb, hml, hown, hT⟩ (mX0_anyGreen l D kz b0 sz F X a1 v5 v2 v9 hc) (cwV 2 hT (q_gV wco_X0_anyGreen wml_X3_116 wim_X0_anyGreen wse_X0_anyGreen win_X0) rfl rfl rfl hdX0_anyGreen ⟨Nat.le_of_ble_eq_true rfl, Nat.le_of_ble_eq_true rfl⟩) (q_preV vqX0 (fX0_anyGreen_is hc) hR hK hz) rfl rfl hl.1 rfl (lv_room (Nat.le_of_ble_eq_true rfl)) dX3_conditionals_35 ⟨Nat.le_of_ble_eq_true rfl, Nat.le_of_ble_eq_true rfl⟩) hS (fun H locs hR hS hz => ?_)
                refine lv_if_eq (tgt := 44) hx hb dX3_conditionals_38 (by decide) (fun hc => ?_) (fun hc => ?_)
                · have hf := q_t hf hc
                  cases hf
                  exact hJ _ _ _ hR hS hz (lv_sub hl [0, 1, 2, 3, 4] rfl)
                · have hf := q_f hf hc
                  obtain ⟨v10, ev10⟩ : ∃ y : Int32, y = (v4 + (1 : Int32)) := ⟨_, rfl⟩
                  have hf := q_lt ev10 hf
                  refine lv_iinc (v := v10) (lv' := [(2, .int v10), (0, .ref a0), (1, .ref a1), (3, .int v2), (4, .int v5)]) hx hb dX3_conditionals_41 hl (k := 2) rfl (by rw [ev10]; rfl) (by decide) rfl (fun ls hl => ?_)
                  cases hf
                  exact hJ _ _ _ hR hS hz (lv_sub hl [1, 2, 0, 3, 4] rfl)
        refine hL F _ _ _ ho (fun z0 h9 => ?_) _ _ _ hR hS hz (lv_sub hl [1, 2, 3, 4, 0] rfl)
        cases h9
        intro H locs ls hR hS hz hl
        obtain ⟨v12, ev12⟩ : ∃ y : Int32, y = (v2 + (1 : Int32)) := ⟨_, rfl⟩
        have hf := q_lt ev12 hf
        refine lv_iinc (v := v12) (lv' := [(3, .int v12), (0, .ref a0), (1, .ref a1), (2, .int v11)]) hx hb dX3_conditionals_50 hl (k := 3) rfl (by rw [ev12]; rfl) (by decide) rfl (fun ls hl => ?_)
        refine lv_goto (tgt := 4) hx hb dX3_conditionals_53 (by decide) ?_
        exact ih0 _ _ out hf hex _ _ _ hR hS hz (lv_sub hl [1, 2, 3, 0] rfl)
  refine hL F _ _ _ ho (fun z0 h9 => ?_) _ _ _ hR hS hz (lv_sub hl [2, 3, 1, 0] rfl)
  cases h9
  intro H locs ls hR hS hz hl
  refine lv_iload_n hx hb dX3_conditionals_56 rfl (lv_at hl 0 rfl) ?_
  subst hQ
  exact q_iret hx hb hr hlocks hR hS hz (Option.some.inj hf) rfl dX3_conditionals_57
/-! X3_lackOfPowder -/
def fX3_lackOfPowder_L14_B (F : Nat) (X : qH) (a0 : Nat) (a1 : Nat) (a2 : Int32) (a3 : Int32) (v1 : Int32) (self0 : Int32 → Int32 → Option (Int32)) (v2 : Int32) (v3 : Int32) : Option (Int32) :=
(qgI X 0 a1 5).bind fun v4 =>
if v4 ≤ v3 then (some v2)
else ((if v3 = a2 then (some v2)
else (if ((a3 >>> (v3 &&& 31)) &&& (1 : Int32)) = (1 : Int32) then ((qgR X 0 a1 6).bind fun v7 =>
(qaI X 0 v7 v3).bind fun v8 =>
qlt (if 0 ≤ (v8 - v1) then (v8 - v1) else 0 - (v8 - v1)) fun v9 =>
qlt (if v2 < v9 then v9 else v2) fun v10 =>
some v10)
else (some v2)) : Option Int32).bind fun v5 =>
qlt (v3 + (1 : Int32)) fun v6 =>
self0 v5 v6)
def fX3_lackOfPowder_L14 (F : Nat) (X : qH) (a0 : Nat) (a1 : Nat) (a2 : Int32) (a3 : Int32) (v1 : Int32) : Nat → Int32 → Int32 → Option (Int32)
  | 0, _, _ => none
  | n + 1, v2, v3 => fX3_lackOfPowder_L14_B F X a0 a1 a2 a3 v1 (fX3_lackOfPowder_L14 F X a0 a1 a2 a3 v1 n) v2 v3
def fX3_lackOfPowder (F : Nat) (X : qH) (a0 : Nat) (a1 : Nat) (a2 : Int32) (a3 : Int32) : Option (Int32) :=
qIs 3 X a0 <|
(fX3_cellOver F X a0 a1 a2).bind fun v1 =>
(fX3_lackOfPowder_L14 F X a0 a1 a2 a3 v1 F (-1 : Int32) (0 : Int32)).bind fun v11 =>
(if v11 = (-1 : Int32) then (some (0 : Int32))
else ((fX3_reach F X a0 a1 a2).bind fun v13 =>
qlt (if (0 : Int32) < (v11 - v13) then (v11 - v13) else (0 : Int32)) fun v14 =>
some v14) : Option Int32).bind fun v12 =>
some v12
abbrev rmX3_lackOfPowder : Room := { frames := 2, cells := 0, slots := 0, locals := 43 }
theorem fX3_lackOfPowder_is {F : Nat} {X : qH} {a0 : Nat} {a1 : Nat} {a2 : Int32} {a3 : Int32} {r9 : Int32} (h : fX3_lackOfPowder F X a0 a1 a2 a3 = some r9) : ∃ fs, X a0 = some (.inr (3, fs)) := (qIs_spec h).1
theorem hdX3_lackOfPowder : yX3_lackOfPowder.cls = RX3 ∧ yX3_lackOfPowder.cls ≠ "java/lang/invoke/MethodHandle" ∧ yX3_lackOfPowder.cls ≠ "java/lang/invoke/VarHandle" ∧ (parseMethodDescriptor yX3_lackOfPowder.desc).map (fun d => d.parameters.length) = some 3 := by decide +kernel
set_option maxHeartbeats 4000000 in
set_option maxRecDepth 100000 in
theorem mX3_lackOfPowder (l : Launch) (D : va_G) (kz : Nat → Nat) (b0 sz F : Nat) (X : qH) (a0 : Nat) (a1 : Nat) (a2 : Int32) (a3 : Int32) (r : Int32) (hf : fX3_lackOfPowder F X a0 a1 a2 a3 = some r) : Met l yX3_lackOfPowder (qws yX3_lackOfPowder cX3_lackOfPowder 7 (some .int)) rmX3_lackOfPowder (va_Pc [.ref a0, .ref a1, .int a2, .int a3] (qU D kz b0 sz X)) (va_Qi (fun (r' : Int32) (u : qH) => r' = r ∧ u = X) (fun u t => qO D kz b0 sz u t) (qA b0)) 0 0 (qA b0) := by
  refine q_start (by decide) (Nat.le_of_ble_eq_true rfl) ?_
  intro p e s m args below meth c hx hb hr hlocks hnm hml hown hT hR hK hz ls hl
  have hown : s.vm.findClass RX3 = some m.cls := hown
  have hl : lv_has ls 7 [(0, .ref a0), (1, .ref a1), (2, .int a2), (3, .int a3)] := hl
  have hS : va_S (qA b0) s.heap s.heap [] := va_S.rf
  obtain ⟨Q, hQ⟩ : ∃ Q, Q = MQ below (va_Qi (fun (r' : Int32) (u : qH) => r' = r ∧ u = X) (fun u t => qO D kz b0 sz u t) (qA b0)) args s 0 0 (qA b0) := ⟨_, rfl⟩
  rw [← hQ]
  unfold fX3_lackOfPowder at hf
  obtain ⟨hthis, hf⟩ := qIs_spec hf
  refine lv_aload_n hx hb dX3_lackOfPowder_0 rfl (lv_at hl 0 rfl) ?_
  refine lv_aload_n hx hb dX3_lackOfPowder_1 rfl (lv_at hl 1 rfl) ?_
  refine lv_iload_n hx hb dX3_lackOfPowder_2 rfl (lv_at hl 2 rfl) ?_
  obtain ⟨v1, hc, hf⟩ := q_b hf
  refine q_calli (va_runV (As := [.ref a1, .int a2]) (rest := []) ⟨hx, hb, hml, hown, hT⟩ (mX3_cellOver l D kz b0 sz F X a0 a1 a2 v1 hc) (cwV 2 hT (q_gV wco_X3_cellOver wml_X3_70 wim_X3_cellOver wse_X3_cellOver win_X3) rfl rfl rfl hdX3_cellOver ⟨Nat.le_of_ble_eq_true rfl, Nat.le_of_ble_eq_true rfl⟩) (q_preV vqX3 (fX3_cellOver_is hc) hR hK hz) rfl rfl hl.1 rfl (lv_room (Nat.le_of_ble_eq_true rfl)) dX3_lackOfPowder_3 ⟨Nat.le_of_ble_eq_true rfl, Nat.le_of_ble_eq_true rfl⟩) hS (fun H locs hR hS hz => ?_)
  refine lv_istore (lv' := [(4, .int v1), (0, .ref a0), (1, .ref a1), (2, .int a2), (3, .int a3)]) hx hb dX3_lackOfPowder_6 hl (by decide) rfl (fun ls hl => ?_)
  refine lv_iconst (v := (-1 : Int32)) hx hb dX3_lackOfPowder_8 (by decide) ?_
  refine lv_istore (lv' := [(5, .int (-1 : Int32)), (4, .int v1), (0, .ref a0), (1, .ref a1), (2, .int a2), (3, .int a3)]) hx hb dX3_lackOfPowder_9 hl (by decide) rfl (fun ls hl => ?_)
  refine lv_iconst (v := (0 : Int32)) hx hb dX3_lackOfPowder_11 (by decide) ?_
  refine lv_istore (lv' := [(6, .int (0 : Int32)), (5, .int (-1 : Int32)), (4, .int v1), (0, .ref a0), (1, .ref a1), (2, .int a2), (3, .int a3)]) hx hb dX3_lackOfPowder_12 hl (by decide) rfl (fun ls hl => ?_)
  obtain ⟨v11, ho, hf⟩ := q_b hf
  have hL : ∀ (n : Nat) (v2 : Int32) (v3 : Int32) (out : Int32), fX3_lackOfPowder_L14 F X a0 a1 a2 a3 v1 n v2 v3 = some out → (∀ (v11 : Int32), out = v11 → ∀ (H : Heap) (locs : List Loc) (ls : Array Slot), qR D kz b0 X H → va_S (qA b0) s.heap H locs → H.size = sz → lv_has ls 7 [(0, .ref a0), (1, .ref a1), (2, .int a2), (5, .int v11)] → W p l e rmX3_lackOfPowder s m args below meth c H locs 0 0 Q (F0 m 65 ls [])) → ∀ (H : Heap) (locs : List Loc) (ls : Array Slot), qR D kz b0 X H → va_S (qA b0) s.heap H locs → H.size = sz → lv_has ls 7 [(0, .ref a0), (1, .ref a1), (2, .int a2), (3, .int a3), (4, .int v1), (5, .int v2), (6, .int v3)] → W p l e rmX3_lackOfPowder s m args below meth c H locs 0 0 Q (F0 m 14 ls []) := by
    intro n9
    induction n9 with
    | zero =>
      intro v2 v3 out hf
      exact absurd (show none = some out from hf) (by simp)
    | succ n9 ih0 =>
      intro v2 v3 out hf hex H locs ls hR hS hz hl
      have hf : fX3_lackOfPowder_L14_B F X a0 a1 a2 a3 v1 (fX3_lackOfPowder_L14 F X a0 a1 a2 a3 v1 n9) v2 v3 = some out := hf
      unfold fX3_lackOfPowder_L14_B at hf
      refine lv_iload hx hb dX3_lackOfPowder_14 (lv_at hl 6 rfl) ?_
      refine lv_aload_n hx hb dX3_lackOfPowder_16 rfl (lv_at hl 1 rfl) ?_
      refine q_gI hx hb hT hown hK hR iqX0 vqX0 5 (by decide) (hT _ wfl_X3_45) hf dX3_lackOfPowder_17 (fun v4 hf => ?_)
      refine lv_icmp_ge (tgt := 65) hx hb dX3_lackOfPowder_20 (by decide) (fun hc => ?_) (fun hc => ?_)
      · have hf := q_t hf hc
        exact hex _ (Option.some.inj hf).symm _ _ _ hR hS hz (lv_sub hl [0, 1, 2, 5] rfl)
      · have hf := q_f hf hc
        refine lv_iload hx hb dX3_lackOfPowder_23 (lv_at hl 6 rfl) ?_
        refine lv_iload_n hx hb dX3_lackOfPowder_25 rfl (lv_at hl 2 rfl) ?_
        obtain ⟨v5, hp, hf⟩ := q_b hf
        have hJ : ∀ (H : Heap) (locs : List Loc) (ls : Array Slot), qR D kz b0 X H → va_S (qA b0) s.heap H locs → H.size = sz → lv_has ls 7 [(0, .ref a0), (1, .ref a1), (2, .int a2), (3, .int a3), (4, .int v1), (5, .int v5), (6, .int v3)] → W p l e rmX3_lackOfPowder s m args below meth c H locs 0 0 Q (F0 m 59 ls []) := by
          intro H locs ls hR hS hz hl
          obtain ⟨v6, ev6⟩ : ∃ y : Int32, y = (v3 + (1 : Int32)) := ⟨_, rfl⟩
          have hf := q_lt ev6 hf
          refine lv_iinc (v := v6) (lv' := [(6, .int v6), (0, .ref a0), (1, .ref a1), (2, .int a2), (3, .int a3), (4, .int v1), (5, .int v5)]) hx hb dX3_lackOfPowder_59 hl (k := 6) rfl (by rw [ev6]; rfl) (by decide) rfl (fun ls hl => ?_)
          refine lv_goto (tgt := 14) hx hb dX3_lackOfPowder_62 (by decide) ?_
          exact ih0 _ _ out hf hex _ _ _ hR hS hz (lv_sub hl [1, 2, 3, 4, 5, 6, 0] rfl)
        have hf := hp
        refine lv_icmp_eq (tgt := 59) hx hb dX3_lackOfPowder_26 (by decide) (fun hc => ?_) (fun hc => ?_)
        · have hf := q_t hf hc
          cases hf
          exact hJ _ _ _ hR hS hz (lv_sub hl [0, 1, 2, 3, 4, 5, 6] rfl)
        · have hf := q_f hf hc
          refine lv_iload_n hx hb dX3_lackOfPowder_29 rfl (lv_at hl 3 rfl) ?_
          refine lv_iload hx hb dX3_lackOfPowder_30 (lv_at hl 6 rfl) ?_
          refine lv_ishr hx hb dX3_lackOfPowder_32 ?_
          refine lv_iconst (v := (1 : Int32)) hx hb dX3_lackOfPowder_33 (by decide) ?_
          refine lv_iand hx hb dX3_lackOfPowder_34 ?_
          refine lv_iconst (v := (1 : Int32)) hx hb dX3_lackOfPowder_35 (by decide) ?_
          refine lv_icmp_ne (tgt := 59) hx hb dX3_lackOfPowder_36 (by decide) (fun hc => ?_) (fun hc => ?_)
          · have hf := q_f hf hc
            cases hf
            exact hJ _ _ _ hR hS hz (lv_sub hl [0, 1, 2, 3, 4, 5, 6] rfl)
          · have hf := q_t hf hc
            refine lv_iload hx hb dX3_lackOfPowder_39 (lv_at hl 5 rfl) ?_
            refine lv_aload_n hx hb dX3_lackOfPowder_41 rfl (lv_at hl 1 rfl) ?_
            refine q_gR hx hb hT hown hK hR iqX0 vqX0 6 (by decide) (hT _ wfl_X3_58) hf dX3_lackOfPowder_42 (fun v7 hf => ?_)
            refine lv_iload hx hb dX3_lackOfPowder_45 (lv_at hl 6 rfl) ?_
            refine q_iald hx hb hK hR hf dX3_lackOfPowder_47 (fun v8 hf => ?_)
            refine lv_iload hx hb dX3_lackOfPowder_48 (lv_at hl 4 rfl) ?_
            refine lv_isub hx hb dX3_lackOfPowder_50 ?_
            refine va_mabs hx hb (hml.trans hl.1.symm) hown (hT _ wml_X3_80) (hT _ wst_Mabs) (hT _ win_Math) (hT _ wco_Mabs) (Nat.le_of_ble_eq_true rfl) (Nat.le_of_ble_eq_true rfl) (Nat.le_of_ble_eq_true rfl) (Nat.le_of_ble_eq_true rfl) dX3_lackOfPowder_51 ?_
            refine lv_topi (fun v9 ev9 => ?_)
            have hf := q_lt ev9 hf
            refine va_mmax hx hb (hml.trans hl.1.symm) hown (hT _ wml_X3_67) (hT _ wst_Mmax) (hT _ win_Math) (hT _ wco_Mmax) (Nat.le_of_ble_eq_true rfl) (Nat.le_of_ble_eq_true rfl) (Nat.le_of_ble_eq_true rfl) (Nat.le_of_ble_eq_true rfl) dX3_lackOfPowder_54 ?_
            refine lv_topi (fun v10 ev10 => ?_)
            have hf := q_lt ev10 hf
            refine lv_istore (lv' := [(5, .int v10), (0, .ref a0), (1, .ref a1), (2, .int a2), (3, .int a3), (4, .int v1), (6, .int v3)]) hx hb dX3_lackOfPowder_57 hl (by decide) rfl (fun ls hl => ?_)
            cases hf
            exact hJ _ _ _ hR hS hz (lv_sub hl [1, 2, 3, 4, 5, 0, 6] rfl)
  refine hL F _ _ _ ho (fun z0 h9 => ?_) _ _ _ hR hS hz (lv_sub hl [3, 4, 5, 6, 2, 1, 0] rfl)
  cases h9
  intro H locs ls hR hS hz hl
  refine lv_iload hx hb dX3_lackOfPowder_65 (lv_at hl 3 rfl) ?_
  refine lv_iconst (v := (-1 : Int32)) hx hb dX3_lackOfPowder_67 (by decide) ?_
  obtain ⟨v12, hp, hf⟩ := q_b hf
  have hJ : ∀ (H : Heap) (locs : List Loc) (ls : Array Slot), qR D kz b0 X H → va_S (qA b0) s.heap H locs → H.size = sz → lv_has ls 7 [] → W p l e rmX3_lackOfPowder s m args below meth c H locs 0 0 Q (F0 m 88 ls [.int v12]) := by
    intro H locs ls hR hS hz hl
    subst hQ
    exact q_iret hx hb hr hlocks hR hS hz (Option.some.inj hf) rfl dX3_lackOfPowder_88
  have hf := hp
  refine lv_icmp_ne (tgt := 75) hx hb dX3_lackOfPowder_68 (by decide) (fun hc => ?_) (fun hc => ?_)
  · have hf := q_f hf hc
    refine lv_iconst (v := (0 : Int32)) hx hb dX3_lackOfPowder_75 (by decide) ?_
    refine lv_iload hx hb dX3_lackOfPowder_76 (lv_at hl 3 rfl) ?_
    refine lv_aload_n hx hb dX3_lackOfPowder_78 rfl (lv_at hl 0 rfl) ?_
    refine lv_aload_n hx hb dX3_lackOfPowder_79 rfl (lv_at hl 1 rfl) ?_
    refine lv_iload_n hx hb dX3_lackOfPowder_80 rfl (lv_at hl 2 rfl) ?_
    obtain ⟨v13, hc, hf⟩ := q_b hf
    refine q_calli (va_runV (As := [.ref a1, .int a2]) (rest := [.int v11, .int (0 : Int32)]) ⟨hx, hb, hml, hown, hT⟩ (mX3_reach l D kz b0 sz F X a0 a1 a2 v13 hc) (cwV 2 hT (q_gV wco_X3_reach wml_X3_77 wim_X3_reach wse_X3_reach win_X3) rfl rfl rfl hdX3_reach ⟨Nat.le_of_ble_eq_true rfl, Nat.le_of_ble_eq_true rfl⟩) (q_preV vqX3 (fX3_reach_is hc) hR hK hz) rfl rfl hl.1 rfl (lv_room (Nat.le_of_ble_eq_true rfl)) dX3_lackOfPowder_81 ⟨Nat.le_of_ble_eq_true rfl, Nat.le_of_ble_eq_true rfl⟩) hS (fun H locs hR hS hz => ?_)
    refine lv_isub hx hb dX3_lackOfPowder_84 ?_
    refine va_mmax hx hb (hml.trans hl.1.symm) hown (hT _ wml_X3_67) (hT _ wst_Mmax) (hT _ win_Math) (hT _ wco_Mmax) (Nat.le_of_ble_eq_true rfl) (Nat.le_of_ble_eq_true rfl) (Nat.le_of_ble_eq_true rfl) (Nat.le_of_ble_eq_true rfl) dX3_lackOfPowder_85 ?_
    refine lv_topi (fun v14 ev14 => ?_)
    have hf := q_lt ev14 hf
    cases hf
    exact hJ _ _ _ hR hS hz (lv_sub hl [] rfl)
  · have hf := q_t hf hc
    refine lv_iconst (v := (0 : Int32)) hx hb dX3_lackOfPowder_71 (by decide) ?_
    refine lv_goto (tgt := 88) hx hb dX3_lackOfPowder_72 (by decide) ?_
    cases hf
    exact hJ _ _ _ hR hS hz (lv_sub hl [] rfl)
/-! X4_nearestToAsk -/
def fX4_nearestToAsk_L6_B (F : Nat) (X : qH) (a0 : Nat) (a1 : Nat) (a2 : Nat) (a3 : Int32) (self0 : Int32 → Int32 → Option (Int32)) (v1 : Int32) (v2 : Int32) : Option (Int32) :=
(qgI X 0 a1 5).bind fun v3 =>
if v3 ≤ v2 then (some v1)
else ((qgR X 3 a2 4).bind fun v4 =>
(qaI X 0 v4 v2).bind fun v5 =>
(if v5 ≤ (0 : Int32) then (some (0 : Int32))
else ((qgR X 4 a0 1).bind fun v11 =>
(qaI X 0 v11 a3).bind fun v12 =>
if ((v12 >>> (v2 &&& 31)) &&& (1 : Int32)) = (0 : Int32) then (some (1 : Int32))
else (some (0 : Int32))) : Option Int32).bind fun v6 =>
(if v6 = (0 : Int32) then (some v1)
else (if v1 = (-1 : Int32) then (some v2)
else ((fX0_apart F X a1 a3 v2).bind fun v9 =>
(fX0_apart F X a1 a3 v1).bind fun v10 =>
if v10 ≤ v9 then (some v1)
else (some v2))) : Option Int32).bind fun v7 =>
qlt (v2 + (2 : Int32)) fun v8 =>
self0 v7 v8)
def fX4_nearestToAsk_L6 (F : Nat) (X : qH) (a0 : Nat) (a1 : Nat) (a2 : Nat) (a3 : Int32) : Nat → Int32 → Int32 → Option (Int32)
  | 0, _, _ => none
  | n + 1, v1, v2 => fX4_nearestToAsk_L6_B F X a0 a1 a2 a3 (fX4_nearestToAsk_L6 F X a0 a1 a2 a3 n) v1 v2
def fX4_nearestToAsk (F : Nat) (X : qH) (a0 : Nat) (a1 : Nat) (a2 : Nat) (a3 : Int32) : Option (Int32) :=
qIs 4 X a0 <|
(fX4_nearestToAsk_L6 F X a0 a1 a2 a3 F (-1 : Int32) (1 : Int32)).bind fun v13 =>
some v13
abbrev rmX4_nearestToAsk : Room := { frames := 2, cells := 0, slots := 0, locals := 43 }
theorem fX4_nearestToAsk_is {F : Nat} {X : qH} {a0 : Nat} {a1 : Nat} {a2 : Nat} {a3 : Int32} {r9 : Int32} (h : fX4_nearestToAsk F X a0 a1 a2 a3 = some r9) : ∃ fs, X a0 = some (.inr (4, fs)) := (qIs_spec h).1
theorem hdX4_nearestToAsk : yX4_nearestToAsk.cls = RX4 ∧ yX4_nearestToAsk.cls ≠ "java/lang/invoke/MethodHandle" ∧ yX4_nearestToAsk.cls ≠ "java/lang/invoke/VarHandle" ∧ (parseMethodDescriptor yX4_nearestToAsk.desc).map (fun d => d.parameters.length) = some 3 := by decide +kernel
set_option maxHeartbeats 4000000 in
set_option maxRecDepth 100000 in
theorem mX4_nearestToAsk (l : Launch) (D : va_G) (kz : Nat → Nat) (b0 sz F : Nat) (X : qH) (a0 : Nat) (a1 : Nat) (a2 : Nat) (a3 : Int32) (r : Int32) (hf : fX4_nearestToAsk F X a0 a1 a2 a3 = some r) : Met l yX4_nearestToAsk (qws yX4_nearestToAsk cX4_nearestToAsk 7 (some .int)) rmX4_nearestToAsk (va_Pc [.ref a0, .ref a1, .ref a2, .int a3] (qU D kz b0 sz X)) (va_Qi (fun (r' : Int32) (u : qH) => r' = r ∧ u = X) (fun u t => qO D kz b0 sz u t) (qA b0)) 0 0 (qA b0) := by
  refine q_start (by decide) (Nat.le_of_ble_eq_true rfl) ?_
  intro p e s m args below meth c hx hb hr hlocks hnm hml hown hT hR hK hz ls hl
  have hown : s.vm.findClass RX4 = some m.cls := hown
  have hl : lv_has ls 7 [(0, .ref a0), (1, .ref a1), (2, .ref a2), (3, .int a3)] := hl
  have hS : va_S (qA b0) s.heap s.heap [] := va_S.rf
  obtain ⟨Q, hQ⟩ : ∃ Q, Q = MQ below (va_Qi (fun (r' : Int32) (u : qH) => r' = r ∧ u = X) (fun u t => qO D kz b0 sz u t) (qA b0)) args s 0 0 (qA b0) := ⟨_, rfl⟩
  rw [← hQ]
  unfold fX4_nearestToAsk at hf
  obtain ⟨hthis, hf⟩ := qIs_spec hf
  refine lv_iconst (v := (-1 : Int32)) hx hb dX4_nearestToAsk_0 (by decide) ?_
  refine lv_istore (lv' := [(4, .int (-1 : Int32)), (0, .ref a0), (1, .ref a1), (2, .ref a2), (3, .int a3)]) hx hb dX4_nearestToAsk_1 hl (by decide) rfl (fun ls hl => ?_)
  refine lv_iconst (v := (1 : Int32)) hx hb dX4_nearestToAsk_3 (by decide) ?_
  refine lv_istore (lv' := [(5, .int (1 : Int32)), (4, .int (-1 : Int32)), (0, .ref a0), (1, .ref a1), (2, .ref a2), (3, .int a3)]) hx hb dX4_nearestToAsk_4 hl (by decide) rfl (fun ls hl => ?_)
  obtain ⟨v13, ho, hf⟩ := q_b hf
  have hL : ∀ (n : Nat) (v1 : Int32) (v2 : Int32) (out : Int32), fX4_nearestToAsk_L6 F X a0 a1 a2 a3 n v1 v2 = some out → (∀ (v13 : Int32), out = v13 → ∀ (H : Heap) (locs : List Loc) (ls : Array Slot), qR D kz b0 X H → va_S (qA b0) s.heap H locs → H.size = sz → lv_has ls 7 [(4, .int v13)] → W p l e rmX4_nearestToAsk s m args below meth c H locs 0 0 Q (F0 m 84 ls [])) → ∀ (H : Heap) (locs : List Loc) (ls : Array Slot), qR D kz b0 X H → va_S (qA b0) s.heap H locs → H.size = sz → lv_has ls 7 [(0, .ref a0), (1, .ref a1), (2, .ref a2), (3, .int a3), (4, .int v1), (5, .int v2)] → W p l e rmX4_nearestToAsk s m args below meth c H locs 0 0 Q (F0 m 6 ls []) := by
    intro n9
    induction n9 with
    | zero =>
      intro v1 v2 out hf
      exact absurd (show none = some out from hf) (by simp)
    | succ n9 ih0 =>
      intro v1 v2 out hf hex H locs ls hR hS hz hl
      have hf : fX4_nearestToAsk_L6_B F X a0 a1 a2 a3 (fX4_nearestToAsk_L6 F X a0 a1 a2 a3 n9) v1 v2 = some out := hf
      unfold fX4_nearestToAsk_L6_B at hf
      refine lv_iload hx hb dX4_nearestToAsk_6 (lv_at hl 5 rfl) ?_
      refine lv_aload_n hx hb dX4_nearestToAsk_8 rfl (lv_at hl 1 rfl) ?_
      refine q_gI hx hb hT hown hK hR iqX0 vqX0 5 (by decide) (hT _ wfl_X4_22) hf dX4_nearestToAsk_9 (fun v3 hf => ?_)
      refine lv_icmp_ge (tgt := 84) hx hb dX4_nearestToAsk_12 (by decide) (fun hc => ?_) (fun hc => ?_)
      · have hf := q_t hf hc
        exact hex _ (Option.some.inj hf).symm _ _ _ hR hS hz (lv_sub hl [4] rfl)
      · have hf := q_f hf hc
        refine lv_aload_n hx hb dX4_nearestToAsk_15 rfl (lv_at hl 2 rfl) ?_
        refine q_gR hx hb hT hown hK hR iqX3 vqX3 4 (by decide) (hT _ wfl_X4_28) hf dX4_nearestToAsk_16 (fun v4 hf => ?_)
        refine lv_iload hx hb dX4_nearestToAsk_19 (lv_at hl 5 rfl) ?_
        refine q_iald hx hb hK hR hf dX4_nearestToAsk_21 (fun v5 hf => ?_)
        obtain ⟨v6, hp, hf⟩ := q_b hf
        have hJ : ∀ (H : Heap) (locs : List Loc) (ls : Array Slot), qR D kz b0 X H → va_S (qA b0) s.heap H locs → H.size = sz → lv_has ls 7 [(0, .ref a0), (1, .ref a1), (2, .ref a2), (3, .int a3), (4, .int v1), (5, .int v2)] → W p l e rmX4_nearestToAsk s m args below meth c H locs 0 0 Q (F0 m 44 ls [.int v6]) := by
          intro H locs ls hR hS hz hl
          refine lv_istore (lv' := [(6, .int v6), (0, .ref a0), (1, .ref a1), (2, .ref a2), (3, .int a3), (4, .int v1), (5, .int v2)]) hx hb dX4_nearestToAsk_44 hl (by decide) rfl (fun ls hl => ?_)
          refine lv_iload hx hb dX4_nearestToAsk_46 (lv_at hl 0 rfl) ?_
          obtain ⟨v7, hp, hf⟩ := q_b hf
          have hJ : ∀ (H : Heap) (locs : List Loc) (ls : Array Slot), qR D kz b0 X H → va_S (qA b0) s.heap H locs → H.size = sz → lv_has ls 7 [(0, .ref a0), (1, .ref a1), (2, .ref a2), (3, .int a3), (4, .int v7), (5, .int v2)] → W p l e rmX4_nearestToAsk s m args below meth c H locs 0 0 Q (F0 m 78 ls []) := by
            intro H locs ls hR hS hz hl
            obtain ⟨v8, ev8⟩ : ∃ y : Int32, y = (v2 + (2 : Int32)) := ⟨_, rfl⟩
            have hf := q_lt ev8 hf
            refine lv_iinc (v := v8) (lv' := [(5, .int v8), (0, .ref a0), (1, .ref a1), (2, .ref a2), (3, .int a3), (4, .int v7)]) hx hb dX4_nearestToAsk_78 hl (k := 5) rfl (by rw [ev8]; rfl) (by decide) rfl (fun ls hl => ?_)
            refine lv_goto (tgt := 6) hx hb dX4_nearestToAsk_81 (by decide) ?_
            exact ih0 _ _ out hf hex _ _ _ hR hS hz (lv_sub hl [1, 2, 3, 4, 5, 0] rfl)
          have hf := hp
          refine lv_if_eq (tgt := 78) hx hb dX4_nearestToAsk_48 (by decide) (fun hc => ?_) (fun hc => ?_)
          · have hf := q_t hf hc
            cases hf
            exact hJ _ _ _ hR hS hz (lv_sub hl [1, 2, 3, 4, 5, 6] rfl)
          · have hf := q_f hf hc
            refine lv_iload hx hb dX4_nearestToAsk_51 (lv_at hl 5 rfl) ?_
            refine lv_iconst (v := (-1 : Int32)) hx hb dX4_nearestToAsk_53 (by decide) ?_
            refine lv_icmp_eq (tgt := 74) hx hb dX4_nearestToAsk_54 (by decide) (fun hc => ?_) (fun hc => ?_)
            · have hf := q_t hf hc
              refine lv_iload hx hb dX4_nearestToAsk_74 (lv_at hl 6 rfl) ?_
              refine lv_istore (lv' := [(4, .int v2), (6, .int v6), (0, .ref a0), (1, .ref a1), (2, .ref a2), (3, .int a3), (5, .int v2)]) hx hb dX4_nearestToAsk_76 hl (by decide) rfl (fun ls hl => ?_)
              cases hf
              exact hJ _ _ _ hR hS hz (lv_sub hl [2, 3, 4, 5, 0, 6] rfl)
            · have hf := q_f hf hc
              refine lv_aload_n hx hb dX4_nearestToAsk_57 rfl (lv_at hl 2 rfl) ?_
              refine lv_iload_n hx hb dX4_nearestToAsk_58 rfl (lv_at hl 4 rfl) ?_
              refine lv_iload hx hb dX4_nearestToAsk_59 (lv_at hl 6 rfl) ?_
              obtain ⟨v9, hc, hf⟩ := q_b hf
              refine q_calli (va_runV (As := [.int a3, .int v2]) (rest := []) ⟨hx, hb, hml, hown, hT⟩ (mX0_apart l D kz b0 sz F X a1 a3 v2 v9 hc) (cwV 2 hT (q_gV wco_X0_apart wml_X4_41 wim_X0_apart wse_X0_apart win_X0) rfl rfl rfl hdX0_apart ⟨Nat.le_of_ble_eq_true rfl, Nat.le_of_ble_eq_true rfl⟩) (q_preV vqX0 (fX0_apart_is hc) hR hK hz) rfl rfl hl.1 rfl (lv_room (Nat.le_of_ble_eq_true rfl)) dX4_nearestToAsk_61 ⟨Nat.le_of_ble_eq_true rfl, Nat.le_of_ble_eq_true rfl⟩) hS (fun H locs hR hS hz => ?_)
              refine lv_aload_n hx hb dX4_nearestToAsk_64 rfl (lv_at hl 2 rfl) ?_
              refine lv_iload_n hx hb dX4_nearestToAsk_65 rfl (lv_at hl 4 rfl) ?_
              refine lv_iload hx hb dX4_nearestToAsk_66 (lv_at hl 5 rfl) ?_
              obtain ⟨v10, hc, hf⟩ := q_b hf
              refine q_calli (va_runV (As := [.int a3, .int v1]) (rest := [.int v9]) ⟨hx, hb, hml, hown, hT⟩ (mX0_apart l D kz b0 sz F X a1 a3 v1 v10 hc) (cwV 2 hT (q_gV wco_X0_apart wml_X4_41 wim_X0_apart wse_X0_apart win_X0) rfl rfl rfl hdX0_apart ⟨Nat.le_of_ble_eq_true rfl, Nat.le_of_ble_eq_true rfl⟩) (q_preV vqX0 (fX0_apart_is hc) hR hK hz) rfl rfl hl.1 rfl (lv_room (Nat.le_of_ble_eq_true rfl)) dX4_nearestToAsk_68 ⟨Nat.le_of_ble_eq_true rfl, Nat.le_of_ble_eq_true rfl⟩) hS (fun H locs hR hS hz => ?_)
              refine lv_icmp_ge (tgt := 78) hx hb dX4_nearestToAsk_71 (by decide) (fun hc => ?_) (fun hc => ?_)
              · have hf := q_t hf hc
                cases hf
                exact hJ _ _ _ hR hS hz (lv_sub hl [1, 2, 3, 4, 5, 6] rfl)
              · have hf := q_f hf hc
                refine lv_iload hx hb dX4_nearestToAsk_74 (lv_at hl 6 rfl) ?_
                refine lv_istore (lv' := [(4, .int v2), (6, .int v6), (0, .ref a0), (1, .ref a1), (2, .ref a2), (3, .int a3), (5, .int v2)]) hx hb dX4_nearestToAsk_76 hl (by decide) rfl (fun ls hl => ?_)
                cases hf
                exact hJ _ _ _ hR hS hz (lv_sub hl [2, 3, 4, 5, 0, 6] rfl)
        have hf := hp
        refine lv_if_le (tgt := 43) hx hb dX4_nearestToAsk_22 (by decide) (fun hc => ?_) (fun hc => ?_)
        · have hf := q_t hf hc
          refine lv_iconst (v := (0 : Int32)) hx hb dX4_nearestToAsk_43 (by decide) ?_
          cases hf
          exact hJ _ _ _ hR hS hz (lv_sub hl [0, 1, 2, 3, 4, 5] rfl)
        · have hf := q_f hf hc
          refine lv_aload_n hx hb dX4_nearestToAsk_25 rfl (lv_at hl 0 rfl) ?_
          refine q_gR hx hb hT hown hK hR iqX4 vqX4 1 (by decide) (hT _ wfl_X4_15) hf dX4_nearestToAsk_26 (fun v11 hf => ?_)
          refine lv_iload_n hx hb dX4_nearestToAsk_29 rfl (lv_at hl 3 rfl) ?_
          refine q_iald hx hb hK hR hf dX4_nearestToAsk_30 (fun v12 hf => ?_)
          refine lv_iload hx hb dX4_nearestToAsk_31 (lv_at hl 5 rfl) ?_
          refine lv_ishr hx hb dX4_nearestToAsk_33 ?_
          refine lv_iconst (v := (1 : Int32)) hx hb dX4_nearestToAsk_34 (by decide) ?_
          refine lv_iand hx hb dX4_nearestToAsk_35 ?_
          refine lv_if_ne (tgt := 43) hx hb dX4_nearestToAsk_36 (by decide) (fun hc => ?_) (fun hc => ?_)
          · have hf := q_f hf hc
            refine lv_iconst (v := (0 : Int32)) hx hb dX4_nearestToAsk_43 (by decide) ?_
            cases hf
            exact hJ _ _ _ hR hS hz (lv_sub hl [0, 1, 2, 3, 4, 5] rfl)
          · have hf := q_t hf hc
            refine lv_iconst (v := (1 : Int32)) hx hb dX4_nearestToAsk_39 (by decide) ?_
            refine lv_goto (tgt := 44) hx hb dX4_nearestToAsk_40 (by decide) ?_
            cases hf
            exact hJ _ _ _ hR hS hz (lv_sub hl [0, 1, 2, 3, 4, 5] rfl)
  refine hL F _ _ _ ho (fun z0 h9 => ?_) _ _ _ hR hS hz (lv_sub hl [2, 3, 4, 5, 1, 0] rfl)
  cases h9
  intro H locs ls hR hS hz hl
  refine lv_iload hx hb dX4_nearestToAsk_84 (lv_at hl 0 rfl) ?_
  subst hQ
  exact q_iret hx hb hr hlocks hR hS hz (Option.some.inj hf) rfl dX4_nearestToAsk_86
/-! X4_pair -/
def fX4_pair (F : Nat) (X : qH) (a0 : Nat) (a1 : Int32) (a2 : Int32) : Option (qH) :=
qIs 4 X a0 <|
(qgR X 4 a0 0).bind fun v1 =>
(qaS X 0 v1 a1 a2).bind fun X2 =>
(qgR X2 4 a0 0).bind fun v3 =>
(qaS X2 0 v3 a2 a1).bind fun X4 =>
some X4
abbrev rmX4_pair : Room := { frames := 0, cells := 0, slots := 0, locals := 0 }
theorem fX4_pair_is {F : Nat} {X : qH} {a0 : Nat} {a1 : Int32} {a2 : Int32} {r9 : qH} (h : fX4_pair F X a0 a1 a2 = some r9) : ∃ fs, X a0 = some (.inr (4, fs)) := (qIs_spec h).1
theorem hdX4_pair : yX4_pair.cls = RX4 ∧ yX4_pair.cls ≠ "java/lang/invoke/MethodHandle" ∧ yX4_pair.cls ≠ "java/lang/invoke/VarHandle" ∧ (parseMethodDescriptor yX4_pair.desc).map (fun d => d.parameters.length) = some 2 := by decide +kernel
set_option maxHeartbeats 4000000 in
set_option maxRecDepth 100000 in
theorem mX4_pair (l : Launch) (D : va_G) (kz : Nat → Nat) (b0 sz F : Nat) (X : qH) (a0 : Nat) (a1 : Int32) (a2 : Int32)  (Xr : qH) (hf : fX4_pair F X a0 a1 a2 = some Xr) : Met l yX4_pair (qws yX4_pair cX4_pair 3 none) rmX4_pair (va_Pc [.ref a0, .int a1, .int a2] (qU D kz b0 sz X)) (va_Qv (fun (u : qH) => u = Xr) (fun u t => qO D kz b0 sz u t) (qA b0)) 0 0 (qA b0) := by
  refine q_start (by decide) (Nat.le_of_ble_eq_true rfl) ?_
  intro p e s m args below meth c hx hb hr hlocks hnm hml hown hT hR hK hz ls hl
  have hown : s.vm.findClass RX4 = some m.cls := hown
  have hl : lv_has ls 3 [(0, .ref a0), (1, .int a1), (2, .int a2)] := hl
  have hS : va_S (qA b0) s.heap s.heap [] := va_S.rf
  obtain ⟨Q, hQ⟩ : ∃ Q, Q = MQ below (va_Qv (fun (u : qH) => u = Xr) (fun u t => qO D kz b0 sz u t) (qA b0)) args s 0 0 (qA b0) := ⟨_, rfl⟩
  rw [← hQ]
  unfold fX4_pair at hf
  obtain ⟨hthis, hf⟩ := qIs_spec hf
  refine lv_aload_n hx hb dX4_pair_0 rfl (lv_at hl 0 rfl) ?_
  refine q_gR hx hb hT hown hK hR iqX4 vqX4 0 (by decide) (hT _ wfl_X4_9) hf dX4_pair_1 (fun v1 hf => ?_)
  refine lv_iload_n hx hb dX4_pair_4 rfl (lv_at hl 1 rfl) ?_
  refine lv_iload_n hx hb dX4_pair_5 rfl (lv_at hl 2 rfl) ?_
  refine q_iast hx hb hK hR hS hz hf dX4_pair_6 (fun X2 hf H locs hR hS hz => ?_)
  refine lv_aload_n hx hb dX4_pair_7 rfl (lv_at hl 0 rfl) ?_
  refine q_gR hx hb hT hown hK hR iqX4 vqX4 0 (by decide) (hT _ wfl_X4_9) hf dX4_pair_8 (fun v3 hf => ?_)
  refine lv_iload_n hx hb dX4_pair_11 rfl (lv_at hl 2 rfl) ?_
  refine lv_iload_n hx hb dX4_pair_12 rfl (lv_at hl 1 rfl) ?_
  refine q_iast hx hb hK hR hS hz hf dX4_pair_13 (fun X4 hf H locs hR hS hz => ?_)
  subst hQ
  exact q_vret hx hb hr hlocks hR hS hz (Option.some.inj hf) dX4_pair_14
/-! X4_isNearer -/
def fX4_isNearer (F : Nat) (X : qH) (a0 : Nat) (a1 : Int32) (a2 : Int32) (a3 : Int32) : Option (Int32) :=
(fX0_apart F X a0 a1 a2).bind fun v1 =>
(fX0_apart F X a0 a1 a3).bind fun v2 =>
(if v1 < v2 then (some (1 : Int32))
else (if v1 = v2 then (if a3 ≤ a2 then (some (0 : Int32))
else (some (1 : Int32)))
else (some (0 : Int32))) : Option Int32).bind fun v3 =>
(qz v3).bind fun z =>
some z
abbrev rmX4_isNearer : Room := { frames := 2, cells := 0, slots := 0, locals := 43 }
theorem hdX4_isNearer : yX4_isNearer.cls ≠ "java/lang/invoke/MethodHandle" ∧ yX4_isNearer.cls ≠ "java/lang/invoke/VarHandle" ∧ (parseMethodDescriptor yX4_isNearer.desc).map (fun d => d.parameters.length) = some 4 := by decide +kernel
set_option maxHeartbeats 4000000 in
set_option maxRecDepth 100000 in
theorem mX4_isNearer (l : Launch) (D : va_G) (kz : Nat → Nat) (b0 sz F : Nat) (X : qH) (a0 : Nat) (a1 : Int32) (a2 : Int32) (a3 : Int32) (r : Int32) (hf : fX4_isNearer F X a0 a1 a2 a3 = some r) : Met l yX4_isNearer (qws yX4_isNearer cX4_isNearer 6 (some .boolean)) rmX4_isNearer (va_Pc [.ref a0, .int a1, .int a2, .int a3] (qU D kz b0 sz X)) (va_Qi (fun (r' : Int32) (u : qH) => r' = r ∧ u = X) (fun u t => qO D kz b0 sz u t) (qA b0)) 0 0 (qA b0) := by
  refine q_start (by decide) (Nat.le_of_ble_eq_true rfl) ?_
  intro p e s m args below meth c hx hb hr hlocks hnm hml hown hT hR hK hz ls hl
  have hown : s.vm.findClass RX4 = some m.cls := hown
  have hl : lv_has ls 6 [(0, .ref a0), (1, .int a1), (2, .int a2), (3, .int a3)] := hl
  have hS : va_S (qA b0) s.heap s.heap [] := va_S.rf
  obtain ⟨Q, hQ⟩ : ∃ Q, Q = MQ below (va_Qi (fun (r' : Int32) (u : qH) => r' = r ∧ u = X) (fun u t => qO D kz b0 sz u t) (qA b0)) args s 0 0 (qA b0) := ⟨_, rfl⟩
  rw [← hQ]
  unfold fX4_isNearer at hf
  refine lv_aload_n hx hb dX4_isNearer_0 rfl (lv_at hl 0 rfl) ?_
  refine lv_iload_n hx hb dX4_isNearer_1 rfl (lv_at hl 1 rfl) ?_
  refine lv_iload_n hx hb dX4_isNearer_2 rfl (lv_at hl 2 rfl) ?_
  obtain ⟨v1, hc, hf⟩ := q_b hf
  refine q_calli (va_runV (As := [.int a1, .int a2]) (rest := []) ⟨hx, hb, hml, hown, hT⟩ (mX0_apart l D kz b0 sz F X a0 a1 a2 v1 hc) (cwV 2 hT (q_gV wco_X0_apart wml_X4_41 wim_X0_apart wse_X0_apart win_X0) rfl rfl rfl hdX0_apart ⟨Nat.le_of_ble_eq_true rfl, Nat.le_of_ble_eq_true rfl⟩) (q_preV vqX0 (fX0_apart_is hc) hR hK hz) rfl rfl hl.1 rfl (lv_room (Nat.le_of_ble_eq_true rfl)) dX4_isNearer_3 ⟨Nat.le_of_ble_eq_true rfl, Nat.le_of_ble_eq_true rfl⟩) hS (fun H locs hR hS hz => ?_)
  refine lv_istore (lv' := [(4, .int v1), (0, .ref a0), (1, .int a1), (2, .int a2), (3, .int a3)]) hx hb dX4_isNearer_6 hl (by decide) rfl (fun ls hl => ?_)
  refine lv_aload_n hx hb dX4_isNearer_8 rfl (lv_at hl 1 rfl) ?_
  refine lv_iload_n hx hb dX4_isNearer_9 rfl (lv_at hl 2 rfl) ?_
  refine lv_iload_n hx hb dX4_isNearer_10 rfl (lv_at hl 4 rfl) ?_
  obtain ⟨v2, hc, hf⟩ := q_b hf
  refine q_calli (va_runV (As := [.int a1, .int a3]) (rest := []) ⟨hx, hb, hml, hown, hT⟩ (mX0_apart l D kz b0 sz F X a0 a1 a3 v2 hc) (cwV 2 hT (q_gV wco_X0_apart wml_X4_41 wim_X0_apart wse_X0_apart win_X0) rfl rfl rfl hdX0_apart ⟨Nat.le_of_ble_eq_true rfl, Nat.le_of_ble_eq_true rfl⟩) (q_preV vqX0 (fX0_apart_is hc) hR hK hz) rfl rfl hl.1 rfl (lv_room (Nat.le_of_ble_eq_true rfl)) dX4_isNearer_11 ⟨Nat.le_of_ble_eq_true rfl, Nat.le_of_ble_eq_true rfl⟩) hS (fun H locs hR hS hz => ?_)
  refine lv_istore (lv' := [(5, .int v2), (4, .int v1), (0, .ref a0), (1, .int a1), (2, .int a2), (3, .int a3)]) hx hb dX4_isNearer_14 hl (by decide) rfl (fun ls hl => ?_)
  refine lv_iload hx hb dX4_isNearer_16 (lv_at hl 1 rfl) ?_
  refine lv_iload hx hb dX4_isNearer_18 (lv_at hl 0 rfl) ?_
  obtain ⟨v3, hp, hf⟩ := q_b hf
  have hJ : ∀ (H : Heap) (locs : List Loc) (ls : Array Slot), qR D kz b0 X H → va_S (qA b0) s.heap H locs → H.size = sz → lv_has ls 6 [] → W p l e rmX4_isNearer s m args below meth c H locs 0 0 Q (F0 m 40 ls [.int v3]) := by
    intro H locs ls hR hS hz hl
    subst hQ
    obtain ⟨z9, hz9, hf⟩ := q_b hf
    obtain ⟨rfl, h01⟩ := qz_spec hz9
    exact q_zret hx hb hr hlocks hR hS hz (Option.some.inj hf) h01 rfl dX4_isNearer_40
  have hf := hp
  refine lv_icmp_lt (tgt := 35) hx hb dX4_isNearer_20 (by decide) (fun hc => ?_) (fun hc => ?_)
  · have hf := q_t hf hc
    refine lv_iconst (v := (1 : Int32)) hx hb dX4_isNearer_35 (by decide) ?_
    refine lv_goto (tgt := 40) hx hb dX4_isNearer_36 (by decide) ?_
    cases hf
    exact hJ _ _ _ hR hS hz (lv_sub hl [] rfl)
  · have hf := q_f hf hc
    refine lv_iload hx hb dX4_isNearer_23 (lv_at hl 1 rfl) ?_
    refine lv_iload hx hb dX4_isNearer_25 (lv_at hl 0 rfl) ?_
    refine lv_icmp_ne (tgt := 39) hx hb dX4_isNearer_27 (by decide) (fun hc => ?_) (fun hc => ?_)
    · have hf := q_f hf hc
      refine lv_iconst (v := (0 : Int32)) hx hb dX4_isNearer_39 (by decide) ?_
      cases hf
      exact hJ _ _ _ hR hS hz (lv_sub hl [] rfl)
    · have hf := q_t hf hc
      refine lv_iload_n hx hb dX4_isNearer_30 rfl (lv_at hl 4 rfl) ?_
      refine lv_iload_n hx hb dX4_isNearer_31 rfl (lv_at hl 5 rfl) ?_
      refine lv_icmp_ge (tgt := 39) hx hb dX4_isNearer_32 (by decide) (fun hc => ?_) (fun hc => ?_)
      · have hf := q_t hf hc
        refine lv_iconst (v := (0 : Int32)) hx hb dX4_isNearer_39 (by decide) ?_
        cases hf
        exact hJ _ _ _ hR hS hz (lv_sub hl [] rfl)
      · have hf := q_f hf hc
        refine lv_iconst (v := (1 : Int32)) hx hb dX4_isNearer_35 (by decide) ?_
        refine lv_goto (tgt := 40) hx hb dX4_isNearer_36 (by decide) ?_
        cases hf
        exact hJ _ _ _ hR hS hz (lv_sub hl [] rfl)
