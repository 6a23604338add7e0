/-! X4_ask -/
def fX4_ask (F : Nat) (X : qH) (a0 : Nat) (a1 : Nat) (a2 : Int32) (a3 : Int32) : Option (qH) :=
qIs 4 X a0 <|
(qgR X 4 a0 0).bind fun v1 =>
(qaI X 0 v1 a3).bind fun v2 =>
(if v2 = (-1 : Int32) then ((fX4_pair F X a0 a2 a3).bind fun X4 =>
some X4)
else ((fX4_isNearer F X a1 a3 a2 v2).bind fun v5 =>
if v5 = (0 : Int32) then ((qgR X 4 a0 1).bind fun v6 =>
(qaI X 0 v6 a2).bind fun v7 =>
qlt (v7 ||| ((1 : Int32) <<< (a3 &&& 31))) fun v8 =>
(qaS X 0 v6 a2 v8).bind fun X9 =>
some X9)
else ((qgR X 4 a0 0).bind fun v10 =>
(qaS X 0 v10 v2 (-1 : Int32)).bind fun X11 =>
(qgR X11 4 a0 1).bind fun v12 =>
(qaI X11 0 v12 v2).bind fun v13 =>
qlt (v13 ||| ((1 : Int32) <<< (a3 &&& 31))) fun v14 =>
(qaS X11 0 v12 v2 v14).bind fun X15 =>
(fX4_pair F X15 a0 a2 a3).bind fun X16 =>
some X16)) : Option qH).bind fun X3 =>
some X3
abbrev rmX4_ask : Room := { frames := 3, cells := 0, slots := 0, locals := 68 }
theorem fX4_ask_is {F : Nat} {X : qH} {a0 : Nat} {a1 : Nat} {a2 : Int32} {a3 : Int32} {r9 : qH} (h : fX4_ask F X a0 a1 a2 a3 = some r9) : ∃ fs, X a0 = some (.inr (4, fs)) := (qIs_spec h).1
theorem hdX4_ask : yX4_ask.cls = RX4 ∧ yX4_ask.cls ≠ "java/lang/invoke/MethodHandle" ∧ yX4_ask.cls ≠ "java/lang/invoke/VarHandle" ∧ (parseMethodDescriptor yX4_ask.desc).map (fun d => d.parameters.length) = some 3 := by decide +kernel
set_option maxHeartbeats 4000000 in
set_option maxRecDepth 100000 in
theorem mX4_ask (l : Launch) (D : va_G) (kz : Nat → Nat) (b0 sz F : Nat) (X : qH) (a0 : Nat) (a1 : Nat) (a2 : Int32) (a3 : Int32)  (Xr : qH) (hf : fX4_ask F X a0 a1 a2 a3 = some Xr) : Met l yX4_ask (qws yX4_ask cX4_ask 5 none) rmX4_ask (va_Pc [.ref a0, .ref a1, .int a2, .int a3] (qU D kz b0 sz X)) (va_Qv (fun (u : qH) => u = Xr) (fun u t => qO D kz b0 sz u t) (qA b0)) 0 0 (qA b0) := by
  refine q_start (by decide) (Nat.le_of_ble_eq_true rfl) ?_
  intro p e s m args below meth c hx hb hr hlocks hnm hml hown hT hR hK hz ls hl
  have hown : s.vm.findClass RX4 = some m.cls := hown
  have hl : lv_has ls 5 [(0, .ref a0), (1, .ref a1), (2, .int a2), (3, .int a3)] := hl
  have hS : va_S (qA b0) s.heap s.heap [] := va_S.rf
  obtain ⟨Q, hQ⟩ : ∃ Q, Q = MQ below (va_Qv (fun (u : qH) => u = Xr) (fun u t => qO D kz b0 sz u t) (qA b0)) args s 0 0 (qA b0) := ⟨_, rfl⟩
  rw [← hQ]
  unfold fX4_ask at hf
  obtain ⟨hthis, hf⟩ := qIs_spec hf
  refine lv_aload_n hx hb dX4_ask_0 rfl (lv_at hl 0 rfl) ?_
  refine q_gR hx hb hT hown hK hR iqX4 vqX4 0 (by decide) (hT _ wfl_X4_9) hf dX4_ask_1 (fun v1 hf => ?_)
  refine lv_iload_n hx hb dX4_ask_4 rfl (lv_at hl 3 rfl) ?_
  refine q_iald hx hb hK hR hf dX4_ask_5 (fun v2 hf => ?_)
  refine lv_istore (lv' := [(4, .int v2), (0, .ref a0), (1, .ref a1), (2, .int a2), (3, .int a3)]) hx hb dX4_ask_6 hl (by decide) rfl (fun ls hl => ?_)
  refine lv_iload hx hb dX4_ask_8 (lv_at hl 0 rfl) ?_
  refine lv_iconst (v := (-1 : Int32)) hx hb dX4_ask_10 (by decide) ?_
  obtain ⟨X3, hp, hf⟩ := q_b hf
  have hJ : ∀ (H : Heap) (locs : List Loc) (ls : Array Slot), qR D kz b0 X3 H → va_S (qA b0) s.heap H locs → H.size = sz → lv_has ls 5 [] → W p l e rmX4_ask s m args below meth c H locs 0 0 Q (F0 m 76 ls []) := by
    intro H locs ls hR hS hz hl
    subst hQ
    exact q_vret hx hb hr hlocks hR hS hz (Option.some.inj hf) dX4_ask_76
  have hf := hp
  refine lv_icmp_ne (tgt := 23) hx hb dX4_ask_11 (by decide) (fun hc => ?_) (fun hc => ?_)
  · have hf := q_f hf hc
    refine lv_aload_n hx hb dX4_ask_23 rfl (lv_at hl 2 rfl) ?_
    refine lv_iload_n hx hb dX4_ask_24 rfl (lv_at hl 4 rfl) ?_
    refine lv_iload_n hx hb dX4_ask_25 rfl (lv_at hl 3 rfl) ?_
    refine lv_iload hx hb dX4_ask_26 (lv_at hl 0 rfl) ?_
    obtain ⟨v5, hc, hf⟩ := q_b hf
    refine q_calli (va_runS (As := [.ref a1, .int a3, .int a2, .int v2]) (rest := []) ⟨hx, hb, hml, hown, hT⟩ (mX4_isNearer l D kz b0 sz F X a1 a3 a2 v2 v5 hc) (va_cwS 4 hT (q_gS wco_X4_isNearer wml_X4_49 wst_X4_isNearer win_X4) rfl rfl rfl hdX4_isNearer ⟨Nat.le_of_ble_eq_true rfl, Nat.le_of_ble_eq_true rfl⟩) (q_preS hR hK hz) rfl rfl hl.1 rfl (lv_room (Nat.le_of_ble_eq_true rfl)) dX4_ask_28 ⟨Nat.le_of_ble_eq_true rfl, Nat.le_of_ble_eq_true rfl⟩) hS (fun H locs hR hS hz => ?_)
    refine lv_if_eq (tgt := 64) hx hb dX4_ask_31 (by decide) (fun hc => ?_) (fun hc => ?_)
    · have hf := q_t hf hc
      refine lv_aload_n hx hb dX4_ask_64 rfl (lv_at hl 1 rfl) ?_
      refine q_gR hx hb hT hown hK hR iqX4 vqX4 1 (by decide) (hT _ wfl_X4_15) hf dX4_ask_65 (fun v6 hf => ?_)
      refine lv_iload_n hx hb dX4_ask_68 rfl (lv_at hl 3 rfl) ?_
      refine lv_dup2_11 hx hb dX4_ask_69 rfl rfl ?_
      refine q_iald hx hb hK hR hf dX4_ask_70 (fun v7 hf => ?_)
      refine lv_iconst (v := (1 : Int32)) hx hb dX4_ask_71 (by decide) ?_
      refine lv_iload_n hx hb dX4_ask_72 rfl (lv_at hl 4 rfl) ?_
      refine lv_ishl hx hb dX4_ask_73 ?_
      refine lv_ior hx hb dX4_ask_74 ?_
      refine lv_topi (fun v8 ev8 => ?_)
      have hf := q_lt ev8 hf
      refine q_iast hx hb hK hR hS hz hf dX4_ask_75 (fun X9 hf H locs hR hS hz => ?_)
      cases hf
      exact hJ _ _ _ hR hS hz (lv_sub hl [] rfl)
    · have hf := q_f hf hc
      refine lv_aload_n hx hb dX4_ask_34 rfl (lv_at hl 1 rfl) ?_
      refine q_gR hx hb hT hown hK hR iqX4 vqX4 0 (by decide) (hT _ wfl_X4_9) hf dX4_ask_35 (fun v10 hf => ?_)
      refine lv_iload hx hb dX4_ask_38 (lv_at hl 0 rfl) ?_
      refine lv_iconst (v := (-1 : Int32)) hx hb dX4_ask_40 (by decide) ?_
      refine q_iast hx hb hK hR hS hz hf dX4_ask_41 (fun X11 hf H locs hR hS hz => ?_)
      refine lv_aload_n hx hb dX4_ask_42 rfl (lv_at hl 1 rfl) ?_
      refine q_gR hx hb hT hown hK hR iqX4 vqX4 1 (by decide) (hT _ wfl_X4_15) hf dX4_ask_43 (fun v12 hf => ?_)
      refine lv_iload hx hb dX4_ask_46 (lv_at hl 0 rfl) ?_
      refine lv_dup2_11 hx hb dX4_ask_48 rfl rfl ?_
      refine q_iald hx hb hK hR hf dX4_ask_49 (fun v13 hf => ?_)
      refine lv_iconst (v := (1 : Int32)) hx hb dX4_ask_50 (by decide) ?_
      refine lv_iload_n hx hb dX4_ask_51 rfl (lv_at hl 4 rfl) ?_
      refine lv_ishl hx hb dX4_ask_52 ?_
      refine lv_ior hx hb dX4_ask_53 ?_
      refine lv_topi (fun v14 ev14 => ?_)
      have hf := q_lt ev14 hf
      refine q_iast hx hb hK hR hS hz hf dX4_ask_54 (fun X15 hf H locs hR hS hz => ?_)
      refine lv_aload_n hx hb dX4_ask_55 rfl (lv_at hl 1 rfl) ?_
      refine lv_iload_n hx hb dX4_ask_56 rfl (lv_at hl 3 rfl) ?_
      refine lv_iload_n hx hb dX4_ask_57 rfl (lv_at hl 4 rfl) ?_
      obtain ⟨X16, hc, hf⟩ := q_b hf
      refine q_callv (va_runV (As := [.int a2, .int a3]) (rest := []) ⟨hx, hb, hml, hown, hT⟩ (mX4_pair l D kz b0 sz F X15 a0 a2 a3 X16 hc) (cwV 2 hT (q_gV wco_X4_pair wml_X4_45 wim_X4_pair wse_X4_pair win_X4) rfl rfl rfl hdX4_pair ⟨Nat.le_of_ble_eq_true rfl, Nat.le_of_ble_eq_true rfl⟩) (q_preV vqX4 (fX4_pair_is hc) hR hK hz) rfl rfl hl.1 rfl (lv_room (Nat.le_of_ble_eq_true rfl)) dX4_ask_58 ⟨Nat.le_of_ble_eq_true rfl, Nat.le_of_ble_eq_true rfl⟩) hS (fun H locs hR hS hz => ?_)
      refine lv_goto (tgt := 76) hx hb dX4_ask_61 (by decide) ?_
      cases hf
      exact hJ _ _ _ hR hS hz (lv_sub hl [] rfl)
  · have hf := q_t hf hc
    refine lv_aload_n hx hb dX4_ask_14 rfl (lv_at hl 1 rfl) ?_
    refine lv_iload_n hx hb dX4_ask_15 rfl (lv_at hl 3 rfl) ?_
    refine lv_iload_n hx hb dX4_ask_16 rfl (lv_at hl 4 rfl) ?_
    obtain ⟨X4, hc, hf⟩ := q_b hf
    refine q_callv (va_runV (As := [.int a2, .int a3]) (rest := []) ⟨hx, hb, hml, hown, hT⟩ (mX4_pair l D kz b0 sz F X a0 a2 a3 X4 hc) (cwV 2 hT (q_gV wco_X4_pair wml_X4_45 wim_X4_pair wse_X4_pair win_X4) rfl rfl rfl hdX4_pair ⟨Nat.le_of_ble_eq_true rfl, Nat.le_of_ble_eq_true rfl⟩) (q_preV vqX4 (fX4_pair_is hc) hR hK hz) rfl rfl hl.1 rfl (lv_room (Nat.le_of_ble_eq_true rfl)) dX4_ask_17 ⟨Nat.le_of_ble_eq_true rfl, Nat.le_of_ble_eq_true rfl⟩) hS (fun H locs hR hS hz => ?_)
    refine lv_goto (tgt := 76) hx hb dX4_ask_20 (by decide) ?_
    cases hf
    exact hJ _ _ _ hR hS hz (lv_sub hl [] rfl)
/-! X4_askAll -/
def fX4_askAll_L5_B (F : Nat) (a0 : Nat) (a1 : Nat) (a2 : Nat) (self0 : Int32 → Int32 → qH → Option (Int32 × qH)) (v1 : Int32) (v2 : Int32) (X3 : qH) : Option (Int32 × qH) :=
(qgI X3 0 a1 5).bind fun v4 =>
if v4 ≤ v2 then (some (v1, X3))
else ((qgR X3 3 a2 4).bind fun v5 =>
(qaI X3 0 v5 v2).bind fun v6 =>
qb2 (if v6 ≤ (0 : Int32) then (some (v1, X3))
else ((qgR X3 4 a0 0).bind fun v10 =>
(qaI X3 0 v10 v2).bind fun v11 =>
if v11 = (-1 : Int32) then ((fX4_nearestToAsk F X3 a0 a1 a2 v2).bind fun v12 =>
if v12 = (-1 : Int32) then (some (v1, X3))
else ((fX4_ask F X3 a0 a1 v2 v12).bind fun X13 =>
some ((1 : Int32), X13)))
else (some (v1, X3)))) fun v7 X8 =>
qlt (v2 + (2 : Int32)) fun v9 =>
self0 v7 v9 X8)
def fX4_askAll_L5 (F : Nat) (a0 : Nat) (a1 : Nat) (a2 : Nat) : Nat → Int32 → Int32 → qH → Option (Int32 × qH)
  | 0, _, _, _ => none
  | n + 1, v1, v2, X3 => fX4_askAll_L5_B F a0 a1 a2 (fX4_askAll_L5 F a0 a1 a2 n) v1 v2 X3
def fX4_askAll (F : Nat) (X : qH) (a0 : Nat) (a1 : Nat) (a2 : Nat) : Option (Int32 × qH) :=
qIs 4 X a0 <|
qb2 (fX4_askAll_L5 F a0 a1 a2 F (0 : Int32) (0 : Int32) X) fun v14 X15 =>
(qz v14).bind fun z =>
some (z, X15)
abbrev rmX4_askAll : Room := { frames := 4, cells := 0, slots := 0, locals := 92 }
theorem fX4_askAll_is {F : Nat} {X : qH} {a0 : Nat} {a1 : Nat} {a2 : Nat} {r9 : Int32 × qH} (h : fX4_askAll F X a0 a1 a2 = some r9) : ∃ fs, X a0 = some (.inr (4, fs)) := (qIs_spec h).1
theorem hdX4_askAll : yX4_askAll.cls = RX4 ∧ yX4_askAll.cls ≠ "java/lang/invoke/MethodHandle" ∧ yX4_askAll.cls ≠ "java/lang/invoke/VarHandle" ∧ (parseMethodDescriptor yX4_askAll.desc).map (fun d => d.parameters.length) = some 2 := by decide +kernel
set_option maxHeartbeats 4000000 in
set_option maxRecDepth 100000 in
theorem mX4_askAll (l : Launch) (D : va_G) (kz : Nat → Nat) (b0 sz F : Nat) (X : qH) (a0 : Nat) (a1 : Nat) (a2 : Nat) (r : Int32) (Xr : qH) (hf : fX4_askAll F X a0 a1 a2 = some (r, Xr)) : Met l yX4_askAll (qws yX4_askAll cX4_askAll 6 (some .boolean)) rmX4_askAll (va_Pc [.ref a0, .ref a1, .ref a2] (qU D kz b0 sz X)) (va_Qi (fun (r' : Int32) (u : qH) => r' = r ∧ u = Xr) (fun u t => qO D kz b0 sz u t) (qA b0)) 0 0 (qA b0) := by
  refine q_start (by decide) (Nat.le_of_ble_eq_true rfl) ?_
  intro p e s m args below meth c hx hb hr hlocks hnm hml hown hT hR hK hz ls hl
  have hown : s.vm.findClass RX4 = some m.cls := hown
  have hl : lv_has ls 6 [(0, .ref a0), (1, .ref a1), (2, .ref a2)] := hl
  have hS : va_S (qA b0) s.heap s.heap [] := va_S.rf
  obtain ⟨Q, hQ⟩ : ∃ Q, Q = MQ below (va_Qi (fun (r' : Int32) (u : qH) => r' = r ∧ u = Xr) (fun u t => qO D kz b0 sz u t) (qA b0)) args s 0 0 (qA b0) := ⟨_, rfl⟩
  rw [← hQ]
  unfold fX4_askAll at hf
  obtain ⟨hthis, hf⟩ := qIs_spec hf
  refine lv_iconst (v := (0 : Int32)) hx hb dX4_askAll_0 (by decide) ?_
  refine lv_istore_n (lv' := [(3, .int (0 : Int32)), (0, .ref a0), (1, .ref a1), (2, .ref a2)]) hx hb dX4_askAll_1 rfl hl (by decide) rfl (fun ls hl => ?_)
  refine lv_iconst (v := (0 : Int32)) hx hb dX4_askAll_2 (by decide) ?_
  refine lv_istore (lv' := [(4, .int (0 : Int32)), (3, .int (0 : Int32)), (0, .ref a0), (1, .ref a1), (2, .ref a2)]) hx hb dX4_askAll_3 hl (by decide) rfl (fun ls hl => ?_)
  obtain ⟨v14, X15, ho, hf⟩ := q_b2 hf
  have hL : ∀ (n : Nat) (v1 : Int32) (v2 : Int32) (X3 : qH) (out : Int32 × qH), fX4_askAll_L5 F a0 a1 a2 n v1 v2 X3 = some out → (∀ (v14 : Int32) (X15 : qH), out = (v14, X15) → ∀ (H : Heap) (locs : List Loc) (ls : Array Slot), qR D kz b0 X15 H → va_S (qA b0) s.heap H locs → H.size = sz → lv_has ls 6 [(3, .int v14)] → W p l e rmX4_askAll s m args below meth c H locs 0 0 Q (F0 m 68 ls [])) → ∀ (H : Heap) (locs : List Loc) (ls : Array Slot), qR D kz b0 X3 H → va_S (qA b0) s.heap H locs → H.size = sz → lv_has ls 6 [(0, .ref a0), (1, .ref a1), (2, .ref a2), (3, .int v1), (4, .int v2)] → W p l e rmX4_askAll s m args below meth c H locs 0 0 Q (F0 m 5 ls []) := by
    intro n9
    induction n9 with
    | zero =>
      intro v1 v2 X3 out hf
      exact absurd (show none = some out from hf) (by simp)
    | succ n9 ih0 =>
      intro v1 v2 X3 out hf hex H locs ls hR hS hz hl
      have hf : fX4_askAll_L5_B F a0 a1 a2 (fX4_askAll_L5 F a0 a1 a2 n9) v1 v2 X3 = some out := hf
      unfold fX4_askAll_L5_B at hf
      refine lv_iload hx hb dX4_askAll_5 (lv_at hl 4 rfl) ?_
      refine lv_aload_n hx hb dX4_askAll_7 rfl (lv_at hl 1 rfl) ?_
      refine q_gI hx hb hT hown hK hR iqX0 vqX0 5 (by decide) (hT _ wfl_X4_22) hf dX4_askAll_8 (fun v4 hf => ?_)
      refine lv_icmp_ge (tgt := 68) hx hb dX4_askAll_11 (by decide) (fun hc => ?_) (fun hc => ?_)
      · have hf := q_t hf hc
        exact hex _ _ (Option.some.inj hf).symm _ _ _ hR hS hz (lv_sub hl [3] rfl)
      · have hf := q_f hf hc
        refine lv_aload_n hx hb dX4_askAll_14 rfl (lv_at hl 2 rfl) ?_
        refine q_gR hx hb hT hown hK hR iqX3 vqX3 4 (by decide) (hT _ wfl_X4_28) hf dX4_askAll_15 (fun v5 hf => ?_)
        refine lv_iload hx hb dX4_askAll_18 (lv_at hl 4 rfl) ?_
        refine q_iald hx hb hK hR hf dX4_askAll_20 (fun v6 hf => ?_)
        obtain ⟨v7, X8, hp, hf⟩ := q_b2 hf
        have hJ : ∀ (H : Heap) (locs : List Loc) (ls : Array Slot), qR D kz b0 X8 H → va_S (qA b0) s.heap H locs → H.size = sz → lv_has ls 6 [(0, .ref a0), (1, .ref a1), (2, .ref a2), (3, .int v7), (4, .int v2)] → W p l e rmX4_askAll s m args below meth c H locs 0 0 Q (F0 m 62 ls []) := by
          intro H locs ls hR hS hz hl
          obtain ⟨v9, ev9⟩ : ∃ y : Int32, y = (v2 + (2 : Int32)) := ⟨_, rfl⟩
          have hf := q_lt ev9 hf
          refine lv_iinc (v := v9) (lv' := [(4, .int v9), (0, .ref a0), (1, .ref a1), (2, .ref a2), (3, .int v7)]) hx hb dX4_askAll_62 hl (k := 4) rfl (by rw [ev9]; rfl) (by decide) rfl (fun ls hl => ?_)
          refine lv_goto (tgt := 5) hx hb dX4_askAll_65 (by decide) ?_
          exact ih0 _ _ _ out hf hex _ _ _ hR hS hz (lv_sub hl [1, 2, 3, 4, 0] rfl)
        have hf := hp
        refine lv_if_le (tgt := 62) hx hb dX4_askAll_21 (by decide) (fun hc => ?_) (fun hc => ?_)
        · have hf := q_t hf hc
          cases hf
          exact hJ _ _ _ hR hS hz (lv_sub hl [0, 1, 2, 3, 4] rfl)
        · have hf := q_f hf hc
          refine lv_aload_n hx hb dX4_askAll_24 rfl (lv_at hl 0 rfl) ?_
          refine q_gR hx hb hT hown hK hR iqX4 vqX4 0 (by decide) (hT _ wfl_X4_9) hf dX4_askAll_25 (fun v10 hf => ?_)
          refine lv_iload hx hb dX4_askAll_28 (lv_at hl 4 rfl) ?_
          refine q_iald hx hb hK hR hf dX4_askAll_30 (fun v11 hf => ?_)
          refine lv_iconst (v := (-1 : Int32)) hx hb dX4_askAll_31 (by decide) ?_
          refine lv_icmp_ne (tgt := 62) hx hb dX4_askAll_32 (by decide) (fun hc => ?_) (fun hc => ?_)
          · have hf := q_f hf hc
            cases hf
            exact hJ _ _ _ hR hS hz (lv_sub hl [0, 1, 2, 3, 4] rfl)
          · have hf := q_t hf hc
            refine lv_aload_n hx hb dX4_askAll_35 rfl (lv_at hl 0 rfl) ?_
            refine lv_aload_n hx hb dX4_askAll_36 rfl (lv_at hl 1 rfl) ?_
            refine lv_aload_n hx hb dX4_askAll_37 rfl (lv_at hl 2 rfl) ?_
            refine lv_iload hx hb dX4_askAll_38 (lv_at hl 4 rfl) ?_
            obtain ⟨v12, hc, hf⟩ := q_b hf
            refine q_calli (va_runV (As := [.ref a1, .ref a2, .int v2]) (rest := []) ⟨hx, hb, hml, hown, hT⟩ (mX4_nearestToAsk l D kz b0 sz F X3 a0 a1 a2 v2 v12 hc) (cwV 3 hT (q_gV wco_X4_nearestToAsk wml_X4_33 wim_X4_nearestToAsk wse_X4_nearestToAsk win_X4) rfl rfl rfl hdX4_nearestToAsk ⟨Nat.le_of_ble_eq_true rfl, Nat.le_of_ble_eq_true rfl⟩) (q_preV vqX4 (fX4_nearestToAsk_is hc) hR hK hz) rfl rfl hl.1 rfl (lv_room (Nat.le_of_ble_eq_true rfl)) dX4_askAll_40 ⟨Nat.le_of_ble_eq_true rfl, Nat.le_of_ble_eq_true rfl⟩) hS (fun H locs hR hS hz => ?_)
            refine lv_istore (lv' := [(5, .int v12), (0, .ref a0), (1, .ref a1), (2, .ref a2), (3, .int v1), (4, .int v2)]) hx hb dX4_askAll_43 hl (by decide) rfl (fun ls hl => ?_)
            refine lv_iload hx hb dX4_askAll_45 (lv_at hl 0 rfl) ?_
            refine lv_iconst (v := (-1 : Int32)) hx hb dX4_askAll_47 (by decide) ?_
            refine lv_icmp_eq (tgt := 62) hx hb dX4_askAll_48 (by decide) (fun hc => ?_) (fun hc => ?_)
            · have hf := q_t hf hc
              cases hf
              exact hJ _ _ _ hR hS hz (lv_sub hl [1, 2, 3, 4, 5] rfl)
            · have hf := q_f hf hc
              refine lv_aload_n hx hb dX4_askAll_51 rfl (lv_at hl 1 rfl) ?_
              refine lv_aload_n hx hb dX4_askAll_52 rfl (lv_at hl 2 rfl) ?_
              refine lv_iload hx hb dX4_askAll_53 (lv_at hl 5 rfl) ?_
              refine lv_iload hx hb dX4_askAll_55 (lv_at hl 0 rfl) ?_
              obtain ⟨X13, hc, hf⟩ := q_b hf
              refine q_callv (va_runV (As := [.ref a1, .int v2, .int v12]) (rest := []) ⟨hx, hb, hml, hown, hT⟩ (mX4_ask l D kz b0 sz F X3 a0 a1 v2 v12 X13 hc) (cwV 3 hT (q_gV wco_X4_ask wml_X4_37 wim_X4_ask wse_X4_ask win_X4) rfl rfl rfl hdX4_ask ⟨Nat.le_of_ble_eq_true rfl, Nat.le_of_ble_eq_true rfl⟩) (q_preV vqX4 (fX4_ask_is hc) hR hK hz) rfl rfl hl.1 rfl (lv_room (Nat.le_of_ble_eq_true rfl)) dX4_askAll_57 ⟨Nat.le_of_ble_eq_true rfl, Nat.le_of_ble_eq_true rfl⟩) hS (fun H locs hR hS hz => ?_)
              refine lv_iconst (v := (1 : Int32)) hx hb dX4_askAll_60 (by decide) ?_
              refine lv_istore_n (lv' := [(3, .int (1 : Int32)), (5, .int v12), (0, .ref a0), (1, .ref a1), (2, .ref a2), (4, .int v2)]) hx hb dX4_askAll_61 rfl hl (by decide) rfl (fun ls hl => ?_)
              cases hf
              exact hJ _ _ _ hR hS hz (lv_sub hl [2, 3, 4, 0, 5] rfl)
  refine hL F _ _ _ _ ho (fun z0 z1 h9 => ?_) _ _ _ hR hS hz (lv_sub hl [2, 3, 4, 1, 0] rfl)
  cases h9
  intro H locs ls hR hS hz hl
  refine lv_iload_n hx hb dX4_askAll_68 rfl (lv_at hl 0 rfl) ?_
  subst hQ
  obtain ⟨z9, hz9, hf⟩ := q_b hf
  obtain ⟨rfl, h01⟩ := qz_spec hz9
  obtain ⟨h8, h9⟩ := Prod.mk.inj (Option.some.inj hf)
  exact q_zret hx hb hr hlocks hR hS hz h8 h01 h9 dX4_askAll_69
/-! X4_settle -/
def fX4_settle_L2_B (F : Nat) (a0 : Nat) (a1 : Nat) (a2 : Nat) (self0 : Int32 → qH → Option (qH)) (v1 : Int32) (X2 : qH) : Option (qH) :=
if (8 : Int32) ≤ v1 then (some X2)
else ((qgR X2 4 a0 0).bind fun v3 =>
(qaS X2 0 v3 v1 (-1 : Int32)).bind fun X4 =>
(qgR X4 4 a0 1).bind fun v5 =>
(qaS X4 0 v5 v1 (0 : Int32)).bind fun X6 =>
qlt (v1 + (1 : Int32)) fun v7 =>
self0 v7 X6)
def fX4_settle_L2 (F : Nat) (a0 : Nat) (a1 : Nat) (a2 : Nat) : Nat → Int32 → qH → Option (qH)
  | 0, _, _ => none
  | n + 1, v1, X2 => fX4_settle_L2_B F a0 a1 a2 (fX4_settle_L2 F a0 a1 a2 n) v1 X2
def fX4_settle_L33_B (F : Nat) (a0 : Nat) (a1 : Nat) (a2 : Nat) (self0 : Int32 → Int32 → qH → Option (qH)) (v9 : Int32) (v10 : Int32) (X11 : qH) : Option (qH) :=
if (64 : Int32) ≤ v10 then (some X11)
else (if v9 = (0 : Int32) then (some X11)
else (qb2 (fX4_askAll F X11 a0 a1 a2) fun v12 X13 =>
qlt (v10 + (1 : Int32)) fun v14 =>
self0 v12 v14 X13))
def fX4_settle_L33 (F : Nat) (a0 : Nat) (a1 : Nat) (a2 : Nat) : Nat → Int32 → Int32 → qH → Option (qH)
  | 0, _, _, _ => none
  | n + 1, v9, v10, X11 => fX4_settle_L33_B F a0 a1 a2 (fX4_settle_L33 F a0 a1 a2 n) v9 v10 X11
def fX4_settle (F : Nat) (X : qH) (a0 : Nat) (a1 : Nat) (a2 : Nat) : Option (qH) :=
qIs 4 X a0 <|
(fX4_settle_L2 F a0 a1 a2 F (0 : Int32) X).bind fun X8 =>
(fX4_settle_L33 F a0 a1 a2 F (1 : Int32) (0 : Int32) X8).bind fun X15 =>
some X15
abbrev rmX4_settle : Room := { frames := 5, cells := 0, slots := 0, locals := 117 }
theorem fX4_settle_is {F : Nat} {X : qH} {a0 : Nat} {a1 : Nat} {a2 : Nat} {r9 : qH} (h : fX4_settle F X a0 a1 a2 = some r9) : ∃ fs, X a0 = some (.inr (4, fs)) := (qIs_spec h).1
theorem hdX4_settle : yX4_settle.cls = RX4 ∧ yX4_settle.cls ≠ "java/lang/invoke/MethodHandle" ∧ yX4_settle.cls ≠ "java/lang/invoke/VarHandle" ∧ (parseMethodDescriptor yX4_settle.desc).map (fun d => d.parameters.length) = some 2 := by decide +kernel
set_option maxHeartbeats 4000000 in
set_option maxRecDepth 100000 in
theorem mX4_settle (l : Launch) (D : va_G) (kz : Nat → Nat) (b0 sz F : Nat) (X : qH) (a0 : Nat) (a1 : Nat) (a2 : Nat)  (Xr : qH) (hf : fX4_settle F X a0 a1 a2 = some Xr) : Met l yX4_settle (qws yX4_settle cX4_settle 5 none) rmX4_settle (va_Pc [.ref a0, .ref a1, .ref a2] (qU D kz b0 sz X)) (va_Qv (fun (u : qH) => u = Xr) (fun u t => qO D kz b0 sz u t) (qA b0)) 0 0 (qA b0) := by
  refine q_start (by decide) (Nat.le_of_ble_eq_true rfl) ?_
  intro p e s m args below meth c hx hb hr hlocks hnm hml hown hT hR hK hz ls hl
  have hown : s.vm.findClass RX4 = some m.cls := hown
  have hl : lv_has ls 5 [(0, .ref a0), (1, .ref a1), (2, .ref a2)] := hl
  have hS : va_S (qA b0) s.heap s.heap [] := va_S.rf
  obtain ⟨Q, hQ⟩ : ∃ Q, Q = MQ below (va_Qv (fun (u : qH) => u = Xr) (fun u t => qO D kz b0 sz u t) (qA b0)) args s 0 0 (qA b0) := ⟨_, rfl⟩
  rw [← hQ]
  unfold fX4_settle at hf
  obtain ⟨hthis, hf⟩ := qIs_spec hf
  refine lv_iconst (v := (0 : Int32)) hx hb dX4_settle_0 (by decide) ?_
  refine lv_istore_n (lv' := [(3, .int (0 : Int32)), (0, .ref a0), (1, .ref a1), (2, .ref a2)]) hx hb dX4_settle_1 rfl hl (by decide) rfl (fun ls hl => ?_)
  obtain ⟨X8, ho, hf⟩ := q_b hf
  have hL : ∀ (n : Nat) (v1 : Int32) (X2 : qH) (out : qH), fX4_settle_L2 F a0 a1 a2 n v1 X2 = some out → (∀ (X8 : qH), out = X8 → ∀ (H : Heap) (locs : List Loc) (ls : Array Slot), qR D kz b0 X8 H → va_S (qA b0) s.heap H locs → H.size = sz → lv_has ls 5 [(0, .ref a0), (1, .ref a1), (2, .ref a2)] → W p l e rmX4_settle s m args below meth c H locs 0 0 Q (F0 m 28 ls [])) → ∀ (H : Heap) (locs : List Loc) (ls : Array Slot), qR D kz b0 X2 H → va_S (qA b0) s.heap H locs → H.size = sz → lv_has ls 5 [(0, .ref a0), (1, .ref a1), (2, .ref a2), (3, .int v1)] → W p l e rmX4_settle s m args below meth c H locs 0 0 Q (F0 m 2 ls []) := by
    intro n9
    induction n9 with
    | zero =>
      intro v1 X2 out hf
      exact absurd (show none = some out from hf) (by simp)
    | succ n9 ih0 =>
      intro v1 X2 out hf hex H locs ls hR hS hz hl
      have hf : fX4_settle_L2_B F a0 a1 a2 (fX4_settle_L2 F a0 a1 a2 n9) v1 X2 = some out := hf
      unfold fX4_settle_L2_B at hf
      refine lv_iload_n hx hb dX4_settle_2 rfl (lv_at hl 3 rfl) ?_
      refine lv_bipush (v := (8 : Int32)) hx hb dX4_settle_3 (by decide) ?_
      refine lv_icmp_ge (tgt := 28) hx hb dX4_settle_5 (by decide) (fun hc => ?_) (fun hc => ?_)
      · have hf := q_t hf hc
        exact hex _ (Option.some.inj hf).symm _ _ _ hR hS hz (lv_sub hl [0, 1, 2] rfl)
      · have hf := q_f hf hc
        refine lv_aload_n hx hb dX4_settle_8 rfl (lv_at hl 0 rfl) ?_
        refine q_gR hx hb hT hown hK hR iqX4 vqX4 0 (by decide) (hT _ wfl_X4_9) hf dX4_settle_9 (fun v3 hf => ?_)
        refine lv_iload_n hx hb dX4_settle_12 rfl (lv_at hl 3 rfl) ?_
        refine lv_iconst (v := (-1 : Int32)) hx hb dX4_settle_13 (by decide) ?_
        refine q_iast hx hb hK hR hS hz hf dX4_settle_14 (fun X4 hf H locs hR hS hz => ?_)
        refine lv_aload_n hx hb dX4_settle_15 rfl (lv_at hl 0 rfl) ?_
        refine q_gR hx hb hT hown hK hR iqX4 vqX4 1 (by decide) (hT _ wfl_X4_15) hf dX4_settle_16 (fun v5 hf => ?_)
        refine lv_iload_n hx hb dX4_settle_19 rfl (lv_at hl 3 rfl) ?_
        refine lv_iconst (v := (0 : Int32)) hx hb dX4_settle_20 (by decide) ?_
        refine q_iast hx hb hK hR hS hz hf dX4_settle_21 (fun X6 hf H locs hR hS hz => ?_)
        obtain ⟨v7, ev7⟩ : ∃ y : Int32, y = (v1 + (1 : Int32)) := ⟨_, rfl⟩
        have hf := q_lt ev7 hf
        refine lv_iinc (v := v7) (lv' := [(3, .int v7), (0, .ref a0), (1, .ref a1), (2, .ref a2)]) hx hb dX4_settle_22 hl (k := 3) rfl (by rw [ev7]; rfl) (by decide) rfl (fun ls hl => ?_)
        refine lv_goto (tgt := 2) hx hb dX4_settle_25 (by decide) ?_
        exact ih0 _ _ out hf hex _ _ _ hR hS hz (lv_sub hl [1, 2, 3, 0] rfl)
  refine hL F _ _ _ ho (fun z0 h9 => ?_) _ _ _ hR hS hz (lv_sub hl [1, 2, 3, 0] rfl)
  cases h9
  intro H locs ls hR hS hz hl
  refine lv_iconst (v := (1 : Int32)) hx hb dX4_settle_28 (by decide) ?_
  refine lv_istore_n (lv' := [(3, .int (1 : Int32)), (0, .ref a0), (1, .ref a1), (2, .ref a2)]) hx hb dX4_settle_29 rfl hl (by decide) rfl (fun ls hl => ?_)
  refine lv_iconst (v := (0 : Int32)) hx hb dX4_settle_30 (by decide) ?_
  refine lv_istore (lv' := [(4, .int (0 : Int32)), (3, .int (1 : Int32)), (0, .ref a0), (1, .ref a1), (2, .ref a2)]) hx hb dX4_settle_31 hl (by decide) rfl (fun ls hl => ?_)
  obtain ⟨X15, ho, hf⟩ := q_b hf
  have hL : ∀ (n : Nat) (v9 : Int32) (v10 : Int32) (X11 : qH) (out : qH), fX4_settle_L33 F a0 a1 a2 n v9 v10 X11 = some out → (∀ (X15 : qH), out = X15 → ∀ (H : Heap) (locs : List Loc) (ls : Array Slot), qR D kz b0 X15 H → va_S (qA b0) s.heap H locs → H.size = sz → lv_has ls 5 [] → W p l e rmX4_settle s m args below meth c H locs 0 0 Q (F0 m 57 ls [])) → ∀ (H : Heap) (locs : List Loc) (ls : Array Slot), qR D kz b0 X11 H → va_S (qA b0) s.heap H locs → H.size = sz → lv_has ls 5 [(0, .ref a0), (1, .ref a1), (2, .ref a2), (3, .int v9), (4, .int v10)] → W p l e rmX4_settle s m args below meth c H locs 0 0 Q (F0 m 33 ls []) := by
    intro n9
    induction n9 with
    | zero =>
      intro v9 v10 X11 out hf
      exact absurd (show none = some out from hf) (by simp)
    | succ n9 ih0 =>
      intro v9 v10 X11 out hf hex H locs ls hR hS hz hl
      have hf : fX4_settle_L33_B F a0 a1 a2 (fX4_settle_L33 F a0 a1 a2 n9) v9 v10 X11 = some out := hf
      unfold fX4_settle_L33_B at hf
      refine lv_iload hx hb dX4_settle_33 (lv_at hl 4 rfl) ?_
      refine lv_bipush (v := (64 : Int32)) hx hb dX4_settle_35 (by decide) ?_
      refine lv_icmp_ge (tgt := 57) hx hb dX4_settle_37 (by decide) (fun hc => ?_) (fun hc => ?_)
      · have hf := q_t hf hc
        exact hex _ (Option.some.inj hf).symm _ _ _ hR hS hz (lv_sub hl [] rfl)
      · have hf := q_f hf hc
        refine lv_iload_n hx hb dX4_settle_40 rfl (lv_at hl 3 rfl) ?_
        refine lv_if_eq (tgt := 57) hx hb dX4_settle_41 (by decide) (fun hc => ?_) (fun hc => ?_)
        · have hf := q_t hf hc
          exact hex _ (Option.some.inj hf).symm _ _ _ hR hS hz (lv_sub hl [] rfl)
        · have hf := q_f hf hc
          refine lv_aload_n hx hb dX4_settle_44 rfl (lv_at hl 0 rfl) ?_
          refine lv_aload_n hx hb dX4_settle_45 rfl (lv_at hl 1 rfl) ?_
          refine lv_aload_n hx hb dX4_settle_46 rfl (lv_at hl 2 rfl) ?_
          obtain ⟨v12, X13, hc, hf⟩ := q_b2 hf
          refine q_calli (va_runV (As := [.ref a1, .ref a2]) (rest := []) ⟨hx, hb, hml, hown, hT⟩ (mX4_askAll l D kz b0 sz F X11 a0 a1 a2 v12 X13 hc) (cwV 2 hT (q_gV wco_X4_askAll wml_X4_18 wim_X4_askAll wse_X4_askAll win_X4) rfl rfl rfl hdX4_askAll ⟨Nat.le_of_ble_eq_true rfl, Nat.le_of_ble_eq_true rfl⟩) (q_preV vqX4 (fX4_askAll_is hc) hR hK hz) rfl rfl hl.1 rfl (lv_room (Nat.le_of_ble_eq_true rfl)) dX4_settle_47 ⟨Nat.le_of_ble_eq_true rfl, Nat.le_of_ble_eq_true rfl⟩) hS (fun H locs hR hS hz => ?_)
          refine lv_istore_n (lv' := [(3, .int v12), (0, .ref a0), (1, .ref a1), (2, .ref a2), (4, .int v10)]) hx hb dX4_settle_50 rfl hl (by decide) rfl (fun ls hl => ?_)
          obtain ⟨v14, ev14⟩ : ∃ y : Int32, y = (v10 + (1 : Int32)) := ⟨_, rfl⟩
          have hf := q_lt ev14 hf
          refine lv_iinc (v := v14) (lv' := [(4, .int v14), (3, .int v12), (0, .ref a0), (1, .ref a1), (2, .ref a2)]) hx hb dX4_settle_51 hl (k := 4) rfl (by rw [ev14]; rfl) (by decide) rfl (fun ls hl => ?_)
          refine lv_goto (tgt := 33) hx hb dX4_settle_54 (by decide) ?_
          exact ih0 _ _ _ out hf hex _ _ _ hR hS hz (lv_sub hl [2, 3, 4, 1, 0] rfl)
  refine hL F _ _ _ _ ho (fun z0 h9 => ?_) _ _ _ hR hS hz (lv_sub hl [2, 3, 4, 1, 0] rfl)
  cases h9
  intro H locs ls hR hS hz hl
  subst hQ
  exact q_vret hx hb hr hlocks hR hS hz (Option.some.inj hf) dX4_settle_57
/-! X5_clear -/
def fX5_clear (F : Nat) (X : qH) (a0 : Nat) : Option (qH) :=
qIs 5 X a0 <|
(qpI X 5 a0 1 (0 : Int32)).bind fun X1 =>
(qpI X1 5 a0 2 (0 : Int32)).bind fun X2 =>
some X2
abbrev rmX5_clear : Room := { frames := 0, cells := 0, slots := 0, locals := 0 }
theorem fX5_clear_is {F : Nat} {X : qH} {a0 : Nat} {r9 : qH} (h : fX5_clear F X a0 = some r9) : ∃ fs, X a0 = some (.inr (5, fs)) := (qIs_spec h).1
theorem hdX5_clear : yX5_clear.cls = RX5 ∧ yX5_clear.cls ≠ "java/lang/invoke/MethodHandle" ∧ yX5_clear.cls ≠ "java/lang/invoke/VarHandle" ∧ (parseMethodDescriptor yX5_clear.desc).map (fun d => d.parameters.length) = some 0 := by decide +kernel
set_option maxHeartbeats 4000000 in
set_option maxRecDepth 100000 in
theorem mX5_clear (l : Launch) (D : va_G) (kz : Nat → Nat) (b0 sz F : Nat) (X : qH) (a0 : Nat)  (Xr : qH) (hf : fX5_clear F X a0 = some Xr) : Met l yX5_clear (qws yX5_clear cX5_clear 1 none) rmX5_clear (va_Pc [.ref a0] (qU D kz b0 sz X)) (va_Qv (fun (u : qH) => u = Xr) (fun u t => qO D kz b0 sz u t) (qA b0)) 0 0 (qA b0) := by
  refine q_start (by decide) (Nat.le_of_ble_eq_true rfl) ?_
  intro p e s m args below meth c hx hb hr hlocks hnm hml hown hT hR hK hz ls hl
  have hown : s.vm.findClass RX5 = some m.cls := hown
  have hl : lv_has ls 1 [(0, .ref a0)] := hl
  have hS : va_S (qA b0) s.heap s.heap [] := va_S.rf
  obtain ⟨Q, hQ⟩ : ∃ Q, Q = MQ below (va_Qv (fun (u : qH) => u = Xr) (fun u t => qO D kz b0 sz u t) (qA b0)) args s 0 0 (qA b0) := ⟨_, rfl⟩
  rw [← hQ]
  unfold fX5_clear at hf
  obtain ⟨hthis, hf⟩ := qIs_spec hf
  refine lv_aload_n hx hb dX5_clear_0 rfl (lv_at hl 0 rfl) ?_
  refine lv_iconst (v := (0 : Int32)) hx hb dX5_clear_1 (by decide) ?_
  refine q_pI hx hb hT hown hK hR hS hz iqX5 vqX5 tyX5_ok nmX5 1 (by decide) (hT _ wfl_X5_18) rfl rfl hf dX5_clear_2 (fun X1 hf H locs hR hS hz => ?_)
  refine lv_aload_n hx hb dX5_clear_5 rfl (lv_at hl 0 rfl) ?_
  refine lv_iconst (v := (0 : Int32)) hx hb dX5_clear_6 (by decide) ?_
  refine q_pI hx hb hT hown hK hR hS hz iqX5 vqX5 tyX5_ok nmX5 2 (by decide) (hT _ wfl_X5_22) rfl rfl hf dX5_clear_7 (fun X2 hf H locs hR hS hz => ?_)
  subst hQ
  exact q_vret hx hb hr hlocks hR hS hz (Option.some.inj hf) dX5_clear_10
/-! X5_push -/
def fX5_push (F : Nat) (X : qH) (a0 : Nat) (a1 : Nat) : Option (qH) :=
qIs 5 X a0 <|
(qgR X 5 a0 0).bind fun v1 =>
(qgI X 5 a0 1).bind fun v2 =>
(qaR X v1 v2).bind fun v3 =>
(fX3_become F X v3 a1).bind fun X4 =>
(qgI X4 5 a0 1).bind fun v5 =>
(if (20 : Int32) ≤ (v5 + (1 : Int32)) then (some (0 : Int32))
else ((qgI X4 5 a0 1).bind fun v11 =>
some (v11 + (1 : Int32))) : Option Int32).bind fun v6 =>
(qpI X4 5 a0 1 v6).bind fun X7 =>
(qgI X7 5 a0 2).bind fun v8 =>
qlt (if (20 : Int32) < (v8 + (1 : Int32)) then (20 : Int32) else (v8 + (1 : Int32))) fun v9 =>
(qpI X7 5 a0 2 v9).bind fun X10 =>
some X10
abbrev rmX5_push : Room := { frames := 2, cells := 0, slots := 0, locals := 44 }
theorem fX5_push_is {F : Nat} {X : qH} {a0 : Nat} {a1 : Nat} {r9 : qH} (h : fX5_push F X a0 a1 = some r9) : ∃ fs, X a0 = some (.inr (5, fs)) := (qIs_spec h).1
theorem hdX5_push : yX5_push.cls = RX5 ∧ yX5_push.cls ≠ "java/lang/invoke/MethodHandle" ∧ yX5_push.cls ≠ "java/lang/invoke/VarHandle" ∧ (parseMethodDescriptor yX5_push.desc).map (fun d => d.parameters.length) = some 1 := by decide +kernel
set_option maxHeartbeats 4000000 in
set_option maxRecDepth 100000 in
theorem mX5_push (l : Launch) (D : va_G) (kz : Nat → Nat) (b0 sz F : Nat) (X : qH) (a0 : Nat) (a1 : Nat)  (Xr : qH) (hf : fX5_push F X a0 a1 = some Xr) : Met l yX5_push (qws yX5_push cX5_push 2 none) rmX5_push (va_Pc [.ref a0, .ref a1] (qU D kz b0 sz X)) (va_Qv (fun (u : qH) => u = Xr) (fun u t => qO D kz b0 sz u t) (qA b0)) 0 0 (qA b0) := by
  refine q_start (by decide) (Nat.le_of_ble_eq_true rfl) ?_
  intro p e s m args below meth c hx hb hr hlocks hnm hml hown hT hR hK hz ls hl
  have hown : s.vm.findClass RX5 = some m.cls := hown
  have hl : lv_has ls 2 [(0, .ref a0), (1, .ref a1)] := hl
  have hS : va_S (qA b0) s.heap s.heap [] := va_S.rf
  obtain ⟨Q, hQ⟩ : ∃ Q, Q = MQ below (va_Qv (fun (u : qH) => u = Xr) (fun u t => qO D kz b0 sz u t) (qA b0)) args s 0 0 (qA b0) := ⟨_, rfl⟩
  rw [← hQ]
  unfold fX5_push at hf
  obtain ⟨hthis, hf⟩ := qIs_spec hf
  refine lv_aload_n hx hb dX5_push_0 rfl (lv_at hl 0 rfl) ?_
  refine q_gR hx hb hT hown hK hR iqX5 vqX5 0 (by decide) (hT _ wfl_X5_11) hf dX5_push_1 (fun v1 hf => ?_)
  refine lv_aload_n hx hb dX5_push_4 rfl (lv_at hl 0 rfl) ?_
  refine q_gI hx hb hT hown hK hR iqX5 vqX5 1 (by decide) (hT _ wfl_X5_18) hf dX5_push_5 (fun v2 hf => ?_)
  refine q_aald hx hb hK hR hf dX5_push_8 (fun v3 hf => ?_)
  refine lv_aload_n hx hb dX5_push_9 rfl (lv_at hl 1 rfl) ?_
  obtain ⟨X4, hc, hf⟩ := q_b hf
  refine q_callv (va_runV (As := [.ref a1]) (rest := []) ⟨hx, hb, hml, hown, hT⟩ (mX3_become l D kz b0 sz F X v3 a1 X4 hc) (cwV 1 hT (q_gV wco_X3_become wml_X5_25 wim_X3_become wse_X3_become win_X3) rfl rfl rfl hdX3_become ⟨Nat.le_of_ble_eq_true rfl, Nat.le_of_ble_eq_true rfl⟩) (q_preV vqX3 (fX3_become_is hc) hR hK hz) rfl rfl hl.1 rfl (lv_room (Nat.le_of_ble_eq_true rfl)) dX5_push_10 ⟨Nat.le_of_ble_eq_true rfl, Nat.le_of_ble_eq_true rfl⟩) hS (fun H locs hR hS hz => ?_)
  refine lv_aload_n hx hb dX5_push_13 rfl (lv_at hl 0 rfl) ?_
  refine lv_aload_n hx hb dX5_push_14 rfl (lv_at hl 0 rfl) ?_
  refine q_gI hx hb hT hown hK hR iqX5 vqX5 1 (by decide) (hT _ wfl_X5_18) hf dX5_push_15 (fun v5 hf => ?_)
  refine lv_iconst (v := (1 : Int32)) hx hb dX5_push_18 (by decide) ?_
  refine lv_iadd hx hb dX5_push_19 ?_
  refine lv_bipush (v := (20 : Int32)) hx hb dX5_push_20 (by decide) ?_
  obtain ⟨v6, hp, hf⟩ := q_b hf
  have hJ : ∀ (H : Heap) (locs : List Loc) (ls : Array Slot), qR D kz b0 X4 H → va_S (qA b0) s.heap H locs → H.size = sz → lv_has ls 2 [(0, .ref a0)] → W p l e rmX5_push s m args below meth c H locs 0 0 Q (F0 m 35 ls [.int v6, .ref a0]) := by
    intro H locs ls hR hS hz hl
    refine q_pI hx hb hT hown hK hR hS hz iqX5 vqX5 tyX5_ok nmX5 1 (by decide) (hT _ wfl_X5_18) rfl rfl hf dX5_push_35 (fun X7 hf H locs hR hS hz => ?_)
    refine lv_aload_n hx hb dX5_push_38 rfl (lv_at hl 0 rfl) ?_
    refine lv_aload_n hx hb dX5_push_39 rfl (lv_at hl 0 rfl) ?_
    refine q_gI hx hb hT hown hK hR iqX5 vqX5 2 (by decide) (hT _ wfl_X5_22) hf dX5_push_40 (fun v8 hf => ?_)
    refine lv_iconst (v := (1 : Int32)) hx hb dX5_push_43 (by decide) ?_
    refine lv_iadd hx hb dX5_push_44 ?_
    refine lv_bipush (v := (20 : Int32)) hx hb dX5_push_45 (by decide) ?_
    refine va_mmin hx hb (hml.trans hl.1.symm) hown (hT _ wml_X5_29) (hT _ wst_Mmin) (hT _ win_Math) (hT _ wco_Mmin) (Nat.le_of_ble_eq_true rfl) (Nat.le_of_ble_eq_true rfl) (Nat.le_of_ble_eq_true rfl) (Nat.le_of_ble_eq_true rfl) dX5_push_47 ?_
    refine lv_topi (fun v9 ev9 => ?_)
    have hf := q_lt ev9 hf
    refine q_pI hx hb hT hown hK hR hS hz iqX5 vqX5 tyX5_ok nmX5 2 (by decide) (hT _ wfl_X5_22) rfl rfl hf dX5_push_50 (fun X10 hf H locs hR hS hz => ?_)
    subst hQ
    exact q_vret hx hb hr hlocks hR hS hz (Option.some.inj hf) dX5_push_53
  have hf := hp
  refine lv_icmp_ge (tgt := 34) hx hb dX5_push_22 (by decide) (fun hc => ?_) (fun hc => ?_)
  · have hf := q_t hf hc
    refine lv_iconst (v := (0 : Int32)) hx hb dX5_push_34 (by decide) ?_
    cases hf
    exact hJ _ _ _ hR hS hz (lv_sub hl [0] rfl)
  · have hf := q_f hf hc
    refine lv_aload_n hx hb dX5_push_25 rfl (lv_at hl 0 rfl) ?_
    refine q_gI hx hb hT hown hK hR iqX5 vqX5 1 (by decide) (hT _ wfl_X5_18) hf dX5_push_26 (fun v11 hf => ?_)
    refine lv_iconst (v := (1 : Int32)) hx hb dX5_push_29 (by decide) ?_
    refine lv_iadd hx hb dX5_push_30 ?_
    refine lv_goto (tgt := 35) hx hb dX5_push_31 (by decide) ?_
    cases hf
    exact hJ _ _ _ hR hS hz (lv_sub hl [0] rfl)
/-! X5_pop -/
def fX5_pop (F : Nat) (X : qH) (a0 : Nat) (a1 : Nat) : Option (qH) :=
qIs 5 X a0 <|
(qgI X 5 a0 2).bind fun v1 =>
if v1 = (0 : Int32) then (some X)
else ((qgI X 5 a0 1).bind fun v2 =>
(if v2 ≤ (0 : Int32) then (some (19 : Int32))
else ((qgI X 5 a0 1).bind fun v12 =>
some (v12 - (1 : Int32))) : Option Int32).bind fun v3 =>
(qpI X 5 a0 1 v3).bind fun X4 =>
(qgI X4 5 a0 2).bind fun v5 =>
qlt (v5 - (1 : Int32)) fun v6 =>
(qpI X4 5 a0 2 v6).bind fun X7 =>
(qgR X7 5 a0 0).bind fun v8 =>
(qgI X7 5 a0 1).bind fun v9 =>
(qaR X7 v8 v9).bind fun v10 =>
(fX3_become F X7 a1 v10).bind fun X11 =>
some X11)
abbrev rmX5_pop : Room := { frames := 2, cells := 0, slots := 0, locals := 44 }
theorem fX5_pop_is {F : Nat} {X : qH} {a0 : Nat} {a1 : Nat} {r9 : qH} (h : fX5_pop F X a0 a1 = some r9) : ∃ fs, X a0 = some (.inr (5, fs)) := (qIs_spec h).1
theorem hdX5_pop : yX5_pop.cls = RX5 ∧ yX5_pop.cls ≠ "java/lang/invoke/MethodHandle" ∧ yX5_pop.cls ≠ "java/lang/invoke/VarHandle" ∧ (parseMethodDescriptor yX5_pop.desc).map (fun d => d.parameters.length) = some 1 := by decide +kernel
set_option maxHeartbeats 4000000 in
set_option maxRecDepth 100000 in
theorem mX5_pop (l : Launch) (D : va_G) (kz : Nat → Nat) (b0 sz F : Nat) (X : qH) (a0 : Nat) (a1 : Nat)  (Xr : qH) (hf : fX5_pop F X a0 a1 = some Xr) : Met l yX5_pop (qws yX5_pop cX5_pop 2 none) rmX5_pop (va_Pc [.ref a0, .ref a1] (qU D kz b0 sz X)) (va_Qv (fun (u : qH) => u = Xr) (fun u t => qO D kz b0 sz u t) (qA b0)) 0 0 (qA b0) := by
  refine q_start (by decide) (Nat.le_of_ble_eq_true rfl) ?_
  intro p e s m args below meth c hx hb hr hlocks hnm hml hown hT hR hK hz ls hl
  have hown : s.vm.findClass RX5 = some m.cls := hown
  have hl : lv_has ls 2 [(0, .ref a0), (1, .ref a1)] := hl
  have hS : va_S (qA b0) s.heap s.heap [] := va_S.rf
  obtain ⟨Q, hQ⟩ : ∃ Q, Q = MQ below (va_Qv (fun (u : qH) => u = Xr) (fun u t => qO D kz b0 sz u t) (qA b0)) args s 0 0 (qA b0) := ⟨_, rfl⟩
  rw [← hQ]
  unfold fX5_pop at hf
  obtain ⟨hthis, hf⟩ := qIs_spec hf
  refine lv_aload_n hx hb dX5_pop_0 rfl (lv_at hl 0 rfl) ?_
  refine q_gI hx hb hT hown hK hR iqX5 vqX5 2 (by decide) (hT _ wfl_X5_22) hf dX5_pop_1 (fun v1 hf => ?_)
  refine lv_if_ne (tgt := 8) hx hb dX5_pop_4 (by decide) (fun hc => ?_) (fun hc => ?_)
  · have hf := q_f hf hc
    refine lv_aload_n hx hb dX5_pop_8 rfl (lv_at hl 0 rfl) ?_
    refine lv_aload_n hx hb dX5_pop_9 rfl (lv_at hl 0 rfl) ?_
    refine q_gI hx hb hT hown hK hR iqX5 vqX5 1 (by decide) (hT _ wfl_X5_18) hf dX5_pop_10 (fun v2 hf => ?_)
    obtain ⟨v3, hp, hf⟩ := q_b hf
    have hJ : ∀ (H : Heap) (locs : List Loc) (ls : Array Slot), qR D kz b0 X H → va_S (qA b0) s.heap H locs → H.size = sz → lv_has ls 2 [(0, .ref a0), (1, .ref a1)] → W p l e rmX5_pop s m args below meth c H locs 0 0 Q (F0 m 27 ls [.int v3, .ref a0]) := by
      intro H locs ls hR hS hz hl
      refine q_pI hx hb hT hown hK hR hS hz iqX5 vqX5 tyX5_ok nmX5 1 (by decide) (hT _ wfl_X5_18) rfl rfl hf dX5_pop_27 (fun X4 hf H locs hR hS hz => ?_)
      refine lv_aload_n hx hb dX5_pop_30 rfl (lv_at hl 0 rfl) ?_
      refine lv_dup hx hb dX5_pop_31 rfl ?_
      refine q_gI hx hb hT hown hK hR iqX5 vqX5 2 (by decide) (hT _ wfl_X5_22) hf dX5_pop_32 (fun v5 hf => ?_)
      refine lv_iconst (v := (1 : Int32)) hx hb dX5_pop_35 (by decide) ?_
      refine lv_isub hx hb dX5_pop_36 ?_
      refine lv_topi (fun v6 ev6 => ?_)
      have hf := q_lt ev6 hf
      refine q_pI hx hb hT hown hK hR hS hz iqX5 vqX5 tyX5_ok nmX5 2 (by decide) (hT _ wfl_X5_22) rfl rfl hf dX5_pop_37 (fun X7 hf H locs hR hS hz => ?_)
      refine lv_aload_n hx hb dX5_pop_40 rfl (lv_at hl 1 rfl) ?_
      refine lv_aload_n hx hb dX5_pop_41 rfl (lv_at hl 0 rfl) ?_
      refine q_gR hx hb hT hown hK hR iqX5 vqX5 0 (by decide) (hT _ wfl_X5_11) hf dX5_pop_42 (fun v8 hf => ?_)
      refine lv_aload_n hx hb dX5_pop_45 rfl (lv_at hl 0 rfl) ?_
      refine q_gI hx hb hT hown hK hR iqX5 vqX5 1 (by decide) (hT _ wfl_X5_18) hf dX5_pop_46 (fun v9 hf => ?_)
      refine q_aald hx hb hK hR hf dX5_pop_49 (fun v10 hf => ?_)
      obtain ⟨X11, hc, hf⟩ := q_b hf
      refine q_callv (va_runV (As := [.ref v10]) (rest := []) ⟨hx, hb, hml, hown, hT⟩ (mX3_become l D kz b0 sz F X7 a1 v10 X11 hc) (cwV 1 hT (q_gV wco_X3_become wml_X5_25 wim_X3_become wse_X3_become win_X3) rfl rfl rfl hdX3_become ⟨Nat.le_of_ble_eq_true rfl, Nat.le_of_ble_eq_true rfl⟩) (q_preV vqX3 (fX3_become_is hc) hR hK hz) rfl rfl hl.1 rfl (lv_room (Nat.le_of_ble_eq_true rfl)) dX5_pop_50 ⟨Nat.le_of_ble_eq_true rfl, Nat.le_of_ble_eq_true rfl⟩) hS (fun H locs hR hS hz => ?_)
      subst hQ
      exact q_vret hx hb hr hlocks hR hS hz (Option.some.inj hf) dX5_pop_53
    have hf := hp
    refine lv_if_le (tgt := 25) hx hb dX5_pop_13 (by decide) (fun hc => ?_) (fun hc => ?_)
    · have hf := q_t hf hc
      refine lv_bipush (v := (19 : Int32)) hx hb dX5_pop_25 (by decide) ?_
      cases hf
      exact hJ _ _ _ hR hS hz (lv_sub hl [0, 1] rfl)
    · have hf := q_f hf hc
      refine lv_aload_n hx hb dX5_pop_16 rfl (lv_at hl 0 rfl) ?_
      refine q_gI hx hb hT hown hK hR iqX5 vqX5 1 (by decide) (hT _ wfl_X5_18) hf dX5_pop_17 (fun v12 hf => ?_)
      refine lv_iconst (v := (1 : Int32)) hx hb dX5_pop_20 (by decide) ?_
      refine lv_isub hx hb dX5_pop_21 ?_
      refine lv_goto (tgt := 27) hx hb dX5_pop_22 (by decide) ?_
      cases hf
      exact hJ _ _ _ hR hS hz (lv_sub hl [0, 1] rfl)
  · have hf := q_t hf hc
    subst hQ
    exact q_vret hx hb hr hlocks hR hS hz (Option.some.inj hf) dX5_pop_7
/-! X6_skipBlanks -/
def fX6_skipBlanks_L0_B (F : Nat) (a0 : Nat) (self0 : qH → Option (qH)) (X1 : qH) : Option (qH) :=
(qgI X1 6 a0 2).bind fun v2 =>
(qgI X1 6 a0 1).bind fun v3 =>
if v3 ≤ v2 then (some X1)
else ((qgR X1 6 a0 0).bind fun v4 =>
(qgI X1 6 a0 2).bind fun v5 =>
(qaI X1 0 v4 v5).bind fun v6 =>
if v6 = (32 : Int32) then ((qgI X1 6 a0 2).bind fun v7 =>
qlt (v7 + (1 : Int32)) fun v8 =>
(qpI X1 6 a0 2 v8).bind fun X9 =>
self0 X9)
else (some X1))
def fX6_skipBlanks_L0 (F : Nat) (a0 : Nat) : Nat → qH → Option (qH)
  | 0, _ => none
  | n + 1, X1 => fX6_skipBlanks_L0_B F a0 (fX6_skipBlanks_L0 F a0 n) X1
def fX6_skipBlanks (F : Nat) (X : qH) (a0 : Nat) : Option (qH) :=
qIs 6 X a0 <|
(fX6_skipBlanks_L0 F a0 F X).bind fun X10 =>
some X10
abbrev rmX6_skipBlanks : Room := { frames := 0, cells := 0, slots := 0, locals := 0 }
theorem fX6_skipBlanks_is {F : Nat} {X : qH} {a0 : Nat} {r9 : qH} (h : fX6_skipBlanks F X a0 = some r9) : ∃ fs, X a0 = some (.inr (6, fs)) := (qIs_spec h).1
theorem hdX6_skipBlanks : yX6_skipBlanks.cls = RX6 ∧ yX6_skipBlanks.cls ≠ "java/lang/invoke/MethodHandle" ∧ yX6_skipBlanks.cls ≠ "java/lang/invoke/VarHandle" ∧ (parseMethodDescriptor yX6_skipBlanks.desc).map (fun d => d.parameters.length) = some 0 := by decide +kernel
set_option maxHeartbeats 4000000 in
set_option maxRecDepth 100000 in
theorem mX6_skipBlanks (l : Launch) (D : va_G) (kz : Nat → Nat) (b0 sz F : Nat) (X : qH) (a0 : Nat)  (Xr : qH) (hf : fX6_skipBlanks F X a0 = some Xr) : Met l yX6_skipBlanks (qws yX6_skipBlanks cX6_skipBlanks 1 none) rmX6_skipBlanks (va_Pc [.ref a0] (qU D kz b0 sz X)) (va_Qv (fun (u : qH) => u = Xr) (fun u t => qO D kz b0 sz u t) (qA b0)) 0 0 (qA b0) := by
  refine q_start (by decide) (Nat.le_of_ble_eq_true rfl) ?_
  intro p e s m args below meth c hx hb hr hlocks hnm hml hown hT hR hK hz ls hl
  have hown : s.vm.findClass RX6 = some m.cls := hown
  have hl : lv_has ls 1 [(0, .ref a0)] := hl
  have hS : va_S (qA b0) s.heap s.heap [] := va_S.rf
  obtain ⟨Q, hQ⟩ : ∃ Q, Q = MQ below (va_Qv (fun (u : qH) => u = Xr) (fun u t => qO D kz b0 sz u t) (qA b0)) args s 0 0 (qA b0) := ⟨_, rfl⟩
  rw [← hQ]
  unfold fX6_skipBlanks at hf
  obtain ⟨hthis, hf⟩ := qIs_spec hf
  obtain ⟨X10, ho, hf⟩ := q_b hf
  have hL : ∀ (n : Nat) (X1 : qH) (out : qH), fX6_skipBlanks_L0 F a0 n X1 = some out → (∀ (X10 : qH), out = X10 → ∀ (H : Heap) (locs : List Loc) (ls : Array Slot), qR D kz b0 X10 H → va_S (qA b0) s.heap H locs → H.size = sz → lv_has ls 1 [] → W p l e rmX6_skipBlanks s m args below meth c H locs 0 0 Q (F0 m 38 ls [])) → ∀ (H : Heap) (locs : List Loc) (ls : Array Slot), qR D kz b0 X1 H → va_S (qA b0) s.heap H locs → H.size = sz → lv_has ls 1 [(0, .ref a0)] → W p l e rmX6_skipBlanks s m args below meth c H locs 0 0 Q (F0 m 0 ls []) := by
    intro n9
    induction n9 with
    | zero =>
      intro X1 out hf
      exact absurd (show none = some out from hf) (by simp)
    | succ n9 ih0 =>
      intro X1 out hf hex H locs ls hR hS hz hl
      have hf : fX6_skipBlanks_L0_B F a0 (fX6_skipBlanks_L0 F a0 n9) X1 = some out := hf
      unfold fX6_skipBlanks_L0_B at hf
      refine lv_aload_n hx hb dX6_skipBlanks_0 rfl (lv_at hl 0 rfl) ?_
      refine q_gI hx hb hT hown hK hR iqX6 vqX6 2 (by decide) (hT _ wfl_X6_25) hf dX6_skipBlanks_1 (fun v2 hf => ?_)
      refine lv_aload_n hx hb dX6_skipBlanks_4 rfl (lv_at hl 0 rfl) ?_
      refine q_gI hx hb hT hown hK hR iqX6 vqX6 1 (by decide) (hT _ wfl_X6_21) hf dX6_skipBlanks_5 (fun v3 hf => ?_)
      refine lv_icmp_ge (tgt := 38) hx hb dX6_skipBlanks_8 (by decide) (fun hc => ?_) (fun hc => ?_)
      · have hf := q_t hf hc
        exact hex _ (Option.some.inj hf).symm _ _ _ hR hS hz (lv_sub hl [] rfl)
      · have hf := q_f hf hc
        refine lv_aload_n hx hb dX6_skipBlanks_11 rfl (lv_at hl 0 rfl) ?_
        refine q_gR hx hb hT hown hK hR iqX6 vqX6 0 (by decide) (hT _ wfl_X6_9) hf dX6_skipBlanks_12 (fun v4 hf => ?_)
        refine lv_aload_n hx hb dX6_skipBlanks_15 rfl (lv_at hl 0 rfl) ?_
        refine q_gI hx hb hT hown hK hR iqX6 vqX6 2 (by decide) (hT _ wfl_X6_25) hf dX6_skipBlanks_16 (fun v5 hf => ?_)
        refine q_iald hx hb hK hR hf dX6_skipBlanks_19 (fun v6 hf => ?_)
        refine lv_bipush (v := (32 : Int32)) hx hb dX6_skipBlanks_20 (by decide) ?_
        refine lv_icmp_ne (tgt := 38) hx hb dX6_skipBlanks_22 (by decide) (fun hc => ?_) (fun hc => ?_)
        · have hf := q_f hf hc
          exact hex _ (Option.some.inj hf).symm _ _ _ hR hS hz (lv_sub hl [] rfl)
        · have hf := q_t hf hc
          refine lv_aload_n hx hb dX6_skipBlanks_25 rfl (lv_at hl 0 rfl) ?_
          refine lv_dup hx hb dX6_skipBlanks_26 rfl ?_
          refine q_gI hx hb hT hown hK hR iqX6 vqX6 2 (by decide) (hT _ wfl_X6_25) hf dX6_skipBlanks_27 (fun v7 hf => ?_)
          refine lv_iconst (v := (1 : Int32)) hx hb dX6_skipBlanks_30 (by decide) ?_
          refine lv_iadd hx hb dX6_skipBlanks_31 ?_
          refine lv_topi (fun v8 ev8 => ?_)
          have hf := q_lt ev8 hf
          refine q_pI hx hb hT hown hK hR hS hz iqX6 vqX6 tyX6_ok nmX6 2 (by decide) (hT _ wfl_X6_25) rfl rfl hf dX6_skipBlanks_32 (fun X9 hf H locs hR hS hz => ?_)
          refine lv_goto (tgt := 0) hx hb dX6_skipBlanks_35 (by decide) ?_
          exact ih0 _ out hf hex _ _ _ hR hS hz (lv_sub hl [0] rfl)
  refine hL F _ _ ho (fun z0 h9 => ?_) _ _ _ hR hS hz (lv_sub hl [0] rfl)
  cases h9
  intro H locs ls hR hS hz hl
  subst hQ
  exact q_vret hx hb hr hlocks hR hS hz (Option.some.inj hf) dX6_skipBlanks_38
/-! X6_fail -/
def fX6_fail (F : Nat) (X : qH) (a0 : Nat) (a1 : Int32) (a2 : Int32) : Option (qH) :=
qIs 6 X a0 <|
(qgI X 6 a0 4).bind fun v1 =>
(if v1 = (0 : Int32) then ((qpI X 6 a0 4 a1).bind fun X3 =>
(qpI X3 6 a0 5 a2).bind fun X4 =>
some X4)
else (some X) : Option qH).bind fun X2 =>
some X2
abbrev rmX6_fail : Room := { frames := 0, cells := 0, slots := 0, locals := 0 }
theorem fX6_fail_is {F : Nat} {X : qH} {a0 : Nat} {a1 : Int32} {a2 : Int32} {r9 : qH} (h : fX6_fail F X a0 a1 a2 = some r9) : ∃ fs, X a0 = some (.inr (6, fs)) := (qIs_spec h).1
theorem hdX6_fail : yX6_fail.cls = RX6 ∧ yX6_fail.cls ≠ "java/lang/invoke/MethodHandle" ∧ yX6_fail.cls ≠ "java/lang/invoke/VarHandle" ∧ (parseMethodDescriptor yX6_fail.desc).map (fun d => d.parameters.length) = some 2 := by decide +kernel
set_option maxHeartbeats 4000000 in
set_option maxRecDepth 100000 in
theorem mX6_fail (l : Launch) (D : va_G) (kz : Nat → Nat) (b0 sz F : Nat) (X : qH) (a0 : Nat) (a1 : Int32) (a2 : Int32)  (Xr : qH) (hf : fX6_fail F X a0 a1 a2 = some Xr) : Met l yX6_fail (qws yX6_fail cX6_fail 3 none) rmX6_fail (va_Pc [.ref a0, .int a1, .int a2] (qU D kz b0 sz X)) (va_Qv (fun (u : qH) => u = Xr) (fun u t => qO D kz b0 sz u t) (qA b0)) 0 0 (qA b0) := by
  refine q_start (by decide) (Nat.le_of_ble_eq_true rfl) ?_
  intro p e s m args below meth c hx hb hr hlocks hnm hml hown hT hR hK hz ls hl
  have hown : s.vm.findClass RX6 = some m.cls := hown
  have hl : lv_has ls 3 [(0, .ref a0), (1, .int a1), (2, .int a2)] := hl
  have hS : va_S (qA b0) s.heap s.heap [] := va_S.rf
  obtain ⟨Q, hQ⟩ : ∃ Q, Q = MQ below (va_Qv (fun (u : qH) => u = Xr) (fun u t => qO D kz b0 sz u t) (qA b0)) args s 0 0 (qA b0) := ⟨_, rfl⟩
  rw [← hQ]
  unfold fX6_fail at hf
  obtain ⟨hthis, hf⟩ := qIs_spec hf
  refine lv_aload_n hx hb dX6_fail_0 rfl (lv_at hl 0 rfl) ?_
  refine q_gI hx hb hT hown hK hR iqX6 vqX6 4 (by decide) (hT _ wfl_X6_28) hf dX6_fail_1 (fun v1 hf => ?_)
  obtain ⟨X2, hp, hf⟩ := q_b hf
  have hJ : ∀ (H : Heap) (locs : List Loc) (ls : Array Slot), qR D kz b0 X2 H → va_S (qA b0) s.heap H locs → H.size = sz → lv_has ls 3 [] → W p l e rmX6_fail s m args below meth c H locs 0 0 Q (F0 m 17 ls []) := by
    intro H locs ls hR hS hz hl
    subst hQ
    exact q_vret hx hb hr hlocks hR hS hz (Option.some.inj hf) dX6_fail_17
  have hf := hp
  refine lv_if_ne (tgt := 17) hx hb dX6_fail_4 (by decide) (fun hc => ?_) (fun hc => ?_)
  · have hf := q_f hf hc
    cases hf
    exact hJ _ _ _ hR hS hz (lv_sub hl [] rfl)
  · have hf := q_t hf hc
    refine lv_aload_n hx hb dX6_fail_7 rfl (lv_at hl 0 rfl) ?_
    refine lv_iload_n hx hb dX6_fail_8 rfl (lv_at hl 1 rfl) ?_
    refine q_pI hx hb hT hown hK hR hS hz iqX6 vqX6 tyX6_ok nmX6 4 (by decide) (hT _ wfl_X6_28) rfl rfl hf dX6_fail_9 (fun X3 hf H locs hR hS hz => ?_)
    refine lv_aload_n hx hb dX6_fail_12 rfl (lv_at hl 0 rfl) ?_
    refine lv_iload_n hx hb dX6_fail_13 rfl (lv_at hl 2 rfl) ?_
    refine q_pI hx hb hT hown hK hR hS hz iqX6 vqX6 tyX6_ok nmX6 5 (by decide) (hT _ wfl_X6_31) rfl rfl hf dX6_fail_14 (fun X4 hf H locs hR hS hz => ?_)
    cases hf
    exact hJ _ _ _ hR hS hz (lv_sub hl [] rfl)
/-! X6_passWord -/
def fX6_passWord (F : Nat) (X : qH) (a0 : Nat) (a1 : Int32) : Option (qH) :=
qIs 6 X a0 <|
(if a1 = (0 : Int32) then (some X)
else ((qgI X 6 a0 2).bind fun v5 =>
(fX6_fail F X a0 (3 : Int32) v5).bind fun X6 =>
some X6) : Option qH).bind fun X1 =>
(qgI X1 6 a0 2).bind fun v2 =>
qlt (v2 + (1 : Int32)) fun v3 =>
(qpI X1 6 a0 2 v3).bind fun X4 =>
some X4
abbrev rmX6_passWord : Room := { frames := 1, cells := 0, slots := 0, locals := 22 }
theorem fX6_passWord_is {F : Nat} {X : qH} {a0 : Nat} {a1 : Int32} {r9 : qH} (h : fX6_passWord F X a0 a1 = some r9) : ∃ fs, X a0 = some (.inr (6, fs)) := (qIs_spec h).1
theorem hdX6_passWord : yX6_passWord.cls = RX6 ∧ yX6_passWord.cls ≠ "java/lang/invoke/MethodHandle" ∧ yX6_passWord.cls ≠ "java/lang/invoke/VarHandle" ∧ (parseMethodDescriptor yX6_passWord.desc).map (fun d => d.parameters.length) = some 1 := by decide +kernel
set_option maxHeartbeats 4000000 in
set_option maxRecDepth 100000 in
theorem mX6_passWord (l : Launch) (D : va_G) (kz : Nat → Nat) (b0 sz F : Nat) (X : qH) (a0 : Nat) (a1 : Int32)  (Xr : qH) (hf : fX6_passWord F X a0 a1 = some Xr) : Met l yX6_passWord (qws yX6_passWord cX6_passWord 2 none) rmX6_passWord (va_Pc [.ref a0, .int a1] (qU D kz b0 sz X)) (va_Qv (fun (u : qH) => u = Xr) (fun u t => qO D kz b0 sz u t) (qA b0)) 0 0 (qA b0) := by
  refine q_start (by decide) (Nat.le_of_ble_eq_true rfl) ?_
  intro p e s m args below meth c hx hb hr hlocks hnm hml hown hT hR hK hz ls hl
  have hown : s.vm.findClass RX6 = some m.cls := hown
  have hl : lv_has ls 2 [(0, .ref a0), (1, .int a1)] := hl
  have hS : va_S (qA b0) s.heap s.heap [] := va_S.rf
  obtain ⟨Q, hQ⟩ : ∃ Q, Q = MQ below (va_Qv (fun (u : qH) => u = Xr) (fun u t => qO D kz b0 sz u t) (qA b0)) args s 0 0 (qA b0) := ⟨_, rfl⟩
  rw [← hQ]
  unfold fX6_passWord at hf
  obtain ⟨hthis, hf⟩ := qIs_spec hf
  refine lv_iload_n hx hb dX6_passWord_0 rfl (lv_at hl 1 rfl) ?_
  obtain ⟨X1, hp, hf⟩ := q_b hf
  have hJ : ∀ (H : Heap) (locs : List Loc) (ls : Array Slot), qR D kz b0 X1 H → va_S (qA b0) s.heap H locs → H.size = sz → lv_has ls 2 [(0, .ref a0)] → W p l e rmX6_passWord s m args below meth c H locs 0 0 Q (F0 m 13 ls []) := by
    intro H locs ls hR hS hz hl
    refine lv_aload_n hx hb dX6_passWord_13 rfl (lv_at hl 0 rfl) ?_
    refine lv_dup hx hb dX6_passWord_14 rfl ?_
    refine q_gI hx hb hT hown hK hR iqX6 vqX6 2 (by decide) (hT _ wfl_X6_25) hf dX6_passWord_15 (fun v2 hf => ?_)
    refine lv_iconst (v := (1 : Int32)) hx hb dX6_passWord_18 (by decide) ?_
    refine lv_iadd hx hb dX6_passWord_19 ?_
    refine lv_topi (fun v3 ev3 => ?_)
    have hf := q_lt ev3 hf
    refine q_pI hx hb hT hown hK hR hS hz iqX6 vqX6 tyX6_ok nmX6 2 (by decide) (hT _ wfl_X6_25) rfl rfl hf dX6_passWord_20 (fun X4 hf H locs hR hS hz => ?_)
    subst hQ
    exact q_vret hx hb hr hlocks hR hS hz (Option.some.inj hf) dX6_passWord_23
  have hf := hp
  refine lv_if_eq (tgt := 13) hx hb dX6_passWord_1 (by decide) (fun hc => ?_) (fun hc => ?_)
  · have hf := q_t hf hc
    cases hf
    exact hJ _ _ _ hR hS hz (lv_sub hl [0] rfl)
  · have hf := q_f hf hc
    refine lv_aload_n hx hb dX6_passWord_4 rfl (lv_at hl 0 rfl) ?_
    refine lv_iconst (v := (3 : Int32)) hx hb dX6_passWord_5 (by decide) ?_
    refine lv_aload_n hx hb dX6_passWord_6 rfl (lv_at hl 0 rfl) ?_
    refine q_gI hx hb hT hown hK hR iqX6 vqX6 2 (by decide) (hT _ wfl_X6_25) hf dX6_passWord_7 (fun v5 hf => ?_)
    obtain ⟨X6, hc, hf⟩ := q_b hf
    refine q_callv (va_runV (As := [.int (3 : Int32), .int v5]) (rest := []) ⟨hx, hb, hml, hown, hT⟩ (mX6_fail l D kz b0 sz F X a0 (3 : Int32) v5 X6 hc) (cwV 2 hT (q_gV wco_X6_fail wml_X6_56 wim_X6_fail wse_X6_fail win_X6) rfl rfl rfl hdX6_fail ⟨Nat.le_of_ble_eq_true rfl, Nat.le_of_ble_eq_true rfl⟩) (q_preV vqX6 (fX6_fail_is hc) hR hK hz) rfl rfl hl.1 rfl (lv_room (Nat.le_of_ble_eq_true rfl)) dX6_passWord_10 ⟨Nat.le_of_ble_eq_true rfl, Nat.le_of_ble_eq_true rfl⟩) hS (fun H locs hR hS hz => ?_)
    cases hf
    exact hJ _ _ _ hR hS hz (lv_sub hl [0] rfl)
/-! X6_readNumber -/
def fX6_readNumber_L23_B (F : Nat) (a0 : Nat) (a1 : Int32) (a2 : Int32) (self0 : Int32 → qH → Option (Int32 × qH)) (v5 : Int32) (X6 : qH) : Option (Int32 × qH) :=
(qgI X6 6 a0 2).bind fun v7 =>
(qgI X6 6 a0 1).bind fun v8 =>
if v8 ≤ v7 then (some (v5, X6))
else ((qgR X6 6 a0 0).bind fun v9 =>
(qgI X6 6 a0 2).bind fun v10 =>
(qaI X6 0 v9 v10).bind fun v11 =>
if v11 < (48 : Int32) then (some (v5, X6))
else ((qgR X6 6 a0 0).bind fun v12 =>
(qgI X6 6 a0 2).bind fun v13 =>
(qaI X6 0 v12 v13).bind fun v14 =>
if (57 : Int32) < v14 then (some (v5, X6))
else ((qgR X6 6 a0 0).bind fun v15 =>
(qgI X6 6 a0 2).bind fun v16 =>
(qaI X6 0 v15 v16).bind fun v17 =>
qlt (((v5 * (10 : Int32)) + v17) - (48 : Int32)) fun v18 =>
(qgI X6 6 a0 2).bind fun v19 =>
qlt (v19 + (1 : Int32)) fun v20 =>
(qpI X6 6 a0 2 v20).bind fun X21 =>
self0 v18 X21)))
def fX6_readNumber_L23 (F : Nat) (a0 : Nat) (a1 : Int32) (a2 : Int32) : Nat → Int32 → qH → Option (Int32 × qH)
  | 0, _, _ => none
  | n + 1, v5, X6 => fX6_readNumber_L23_B F a0 a1 a2 (fX6_readNumber_L23 F a0 a1 a2 n) v5 X6
def fX6_readNumber (F : Nat) (X : qH) (a0 : Nat) (a1 : Int32) (a2 : Int32) : Option (Int32 × qH) :=
qIs 6 X a0 <|
(qgI X 6 a0 4).bind fun v1 =>
if v1 = (0 : Int32) then ((fX6_skipBlanks F X a0).bind fun X2 =>
(qgI X2 6 a0 2).bind fun v3 =>
(qpI X2 6 a0 3 v3).bind fun X4 =>
qb2 (fX6_readNumber_L23 F a0 a1 a2 F (0 : Int32) X4) fun v22 X23 =>
(qgI X23 6 a0 2).bind fun v24 =>
(qgI X23 6 a0 3).bind fun v25 =>
qlt (v24 - v25) fun v26 =>
if v26 = (0 : Int32) then ((qgI X23 6 a0 2).bind fun v27 =>
(fX6_fail F X23 a0 (1 : Int32) v27).bind fun X28 =>
some ((-1 : Int32), X28))
else (qlab (fun (_ : Unit) =>
(qgI X23 6 a0 3).bind fun v29 =>
(fX6_fail F X23 a0 (2 : Int32) v29).bind fun X30 =>
some ((-1 : Int32), X30)) fun J31 =>
if (3 : Int32) < v26 then (J31 ())
else (if v22 < a1 then (J31 ())
else (if v22 ≤ a2 then (some (v22, X23))
else (J31 ())))))
else (some ((-1 : Int32), X))
abbrev rmX6_readNumber : Room := { frames := 1, cells := 0, slots := 0, locals := 22 }
theorem fX6_readNumber_is {F : Nat} {X : qH} {a0 : Nat} {a1 : Int32} {a2 : Int32} {r9 : Int32 × qH} (h : fX6_readNumber F X a0 a1 a2 = some r9) : ∃ fs, X a0 = some (.inr (6, fs)) := (qIs_spec h).1
theorem hdX6_readNumber : yX6_readNumber.cls = RX6 ∧ yX6_readNumber.cls ≠ "java/lang/invoke/MethodHandle" ∧ yX6_readNumber.cls ≠ "java/lang/invoke/VarHandle" ∧ (parseMethodDescriptor yX6_readNumber.desc).map (fun d => d.parameters.length) = some 2 := by decide +kernel
set_option maxHeartbeats 4000000 in
set_option maxRecDepth 100000 in
theorem mX6_readNumber (l : Launch) (D : va_G) (kz : Nat → Nat) (b0 sz F : Nat) (X : qH) (a0 : Nat) (a1 : Int32) (a2 : Int32) (r : Int32) (Xr : qH) (hf : fX6_readNumber F X a0 a1 a2 = some (r, Xr)) : Met l yX6_readNumber (qws yX6_readNumber cX6_readNumber 5 (some .int)) rmX6_readNumber (va_Pc [.ref a0, .int a1, .int a2] (qU D kz b0 sz X)) (va_Qi (fun (r' : Int32) (u : qH) => r' = r ∧ u = Xr) (fun u t => qO D kz b0 sz u t) (qA b0)) 0 0 (qA b0) := by
  refine q_start (by decide) (Nat.le_of_ble_eq_true rfl) ?_
  intro p e s m args below meth c hx hb hr hlocks hnm hml hown hT hR hK hz ls hl
  have hown : s.vm.findClass RX6 = some m.cls := hown
  have hl : lv_has ls 5 [(0, .ref a0), (1, .int a1), (2, .int a2)] := hl
  have hS : va_S (qA b0) s.heap s.heap [] := va_S.rf
  obtain ⟨Q, hQ⟩ : ∃ Q, Q = MQ below (va_Qi (fun (r' : Int32) (u : qH) => r' = r ∧ u = Xr) (fun u t => qO D kz b0 sz u t) (qA b0)) args s 0 0 (qA b0) := ⟨_, rfl⟩
  rw [← hQ]
  unfold fX6_readNumber at hf
  obtain ⟨hthis, hf⟩ := qIs_spec hf
  refine lv_aload_n hx hb dX6_readNumber_0 rfl (lv_at hl 0 rfl) ?_
  refine q_gI hx hb hT hown hK hR iqX6 vqX6 4 (by decide) (hT _ wfl_X6_28) hf dX6_readNumber_1 (fun v1 hf => ?_)
  refine lv_if_eq (tgt := 9) hx hb dX6_readNumber_4 (by decide) (fun hc => ?_) (fun hc => ?_)
  · have hf := q_t hf hc
    refine lv_aload_n hx hb dX6_readNumber_9 rfl (lv_at hl 0 rfl) ?_
    obtain ⟨X2, hc, hf⟩ := q_b hf
    refine q_callv (va_runV (As := []) (rest := []) ⟨hx, hb, hml, hown, hT⟩ (mX6_skipBlanks l D kz b0 sz F X a0 X2 hc) (cwV 0 hT (q_gV wco_X6_skipBlanks wml_X6_46 wim_X6_skipBlanks wse_X6_skipBlanks win_X6) rfl rfl rfl hdX6_skipBlanks ⟨Nat.le_of_ble_eq_true rfl, Nat.le_of_ble_eq_true rfl⟩) (q_preV vqX6 (fX6_skipBlanks_is hc) hR hK hz) rfl rfl hl.1 rfl (lv_room (Nat.le_of_ble_eq_true rfl)) dX6_readNumber_10 ⟨Nat.le_of_ble_eq_true rfl, Nat.le_of_ble_eq_true rfl⟩) hS (fun H locs hR hS hz => ?_)
    refine lv_aload_n hx hb dX6_readNumber_13 rfl (lv_at hl 0 rfl) ?_
    refine lv_aload_n hx hb dX6_readNumber_14 rfl (lv_at hl 0 rfl) ?_
    refine q_gI hx hb hT hown hK hR iqX6 vqX6 2 (by decide) (hT _ wfl_X6_25) hf dX6_readNumber_15 (fun v3 hf => ?_)
    refine q_pI hx hb hT hown hK hR hS hz iqX6 vqX6 tyX6_ok nmX6 3 (by decide) (hT _ wfl_X6_95) rfl rfl hf dX6_readNumber_18 (fun X4 hf H locs hR hS hz => ?_)
    refine lv_iconst (v := (0 : Int32)) hx hb dX6_readNumber_21 (by decide) ?_
    refine lv_istore_n (lv' := [(3, .int (0 : Int32)), (0, .ref a0), (1, .int a1), (2, .int a2)]) hx hb dX6_readNumber_22 rfl hl (by decide) rfl (fun ls hl => ?_)
    obtain ⟨v22, X23, ho, hf⟩ := q_b2 hf
    have hL : ∀ (n : Nat) (v5 : Int32) (X6 : qH) (out : Int32 × qH), fX6_readNumber_L23 F a0 a1 a2 n v5 X6 = some out → (∀ (v22 : Int32) (X23 : qH), out = (v22, X23) → ∀ (H : Heap) (locs : List Loc) (ls : Array Slot), qR D kz b0 X23 H → va_S (qA b0) s.heap H locs → H.size = sz → lv_has ls 5 [(0, .ref a0), (1, .int a1), (2, .int a2), (3, .int v22)] → W p l e rmX6_readNumber s m args below meth c H locs 0 0 Q (F0 m 93 ls [])) → ∀ (H : Heap) (locs : List Loc) (ls : Array Slot), qR D kz b0 X6 H → va_S (qA b0) s.heap H locs → H.size = sz → lv_has ls 5 [(0, .ref a0), (1, .int a1), (2, .int a2), (3, .int v5)] → W p l e rmX6_readNumber s m args below meth c H locs 0 0 Q (F0 m 23 ls []) := by
      intro n9
      induction n9 with
      | zero =>
        intro v5 X6 out hf
        exact absurd (show none = some out from hf) (by simp)
      | succ n9 ih0 =>
        intro v5 X6 out hf hex H locs ls hR hS hz hl
        have hf : fX6_readNumber_L23_B F a0 a1 a2 (fX6_readNumber_L23 F a0 a1 a2 n9) v5 X6 = some out := hf
        unfold fX6_readNumber_L23_B at hf
        refine lv_aload_n hx hb dX6_readNumber_23 rfl (lv_at hl 0 rfl) ?_
        refine q_gI hx hb hT hown hK hR iqX6 vqX6 2 (by decide) (hT _ wfl_X6_25) hf dX6_readNumber_24 (fun v7 hf => ?_)
        refine lv_aload_n hx hb dX6_readNumber_27 rfl (lv_at hl 0 rfl) ?_
        refine q_gI hx hb hT hown hK hR iqX6 vqX6 1 (by decide) (hT _ wfl_X6_21) hf dX6_readNumber_28 (fun v8 hf => ?_)
        refine lv_icmp_ge (tgt := 93) hx hb dX6_readNumber_31 (by decide) (fun hc => ?_) (fun hc => ?_)
        · have hf := q_t hf hc
          exact hex _ _ (Option.some.inj hf).symm _ _ _ hR hS hz (lv_sub hl [0, 1, 2, 3] rfl)
        · have hf := q_f hf hc
          refine lv_aload_n hx hb dX6_readNumber_34 rfl (lv_at hl 0 rfl) ?_
          refine q_gR hx hb hT hown hK hR iqX6 vqX6 0 (by decide) (hT _ wfl_X6_9) hf dX6_readNumber_35 (fun v9 hf => ?_)
          refine lv_aload_n hx hb dX6_readNumber_38 rfl (lv_at hl 0 rfl) ?_
          refine q_gI hx hb hT hown hK hR iqX6 vqX6 2 (by decide) (hT _ wfl_X6_25) hf dX6_readNumber_39 (fun v10 hf => ?_)
          refine q_iald hx hb hK hR hf dX6_readNumber_42 (fun v11 hf => ?_)
          refine lv_bipush (v := (48 : Int32)) hx hb dX6_readNumber_43 (by decide) ?_
          refine lv_icmp_lt (tgt := 93) hx hb dX6_readNumber_45 (by decide) (fun hc => ?_) (fun hc => ?_)
          · have hf := q_t hf hc
            exact hex _ _ (Option.some.inj hf).symm _ _ _ hR hS hz (lv_sub hl [0, 1, 2, 3] rfl)
          · have hf := q_f hf hc
            refine lv_aload_n hx hb dX6_readNumber_48 rfl (lv_at hl 0 rfl) ?_
            refine q_gR hx hb hT hown hK hR iqX6 vqX6 0 (by decide) (hT _ wfl_X6_9) hf dX6_readNumber_49 (fun v12 hf => ?_)
            refine lv_aload_n hx hb dX6_readNumber_52 rfl (lv_at hl 0 rfl) ?_
            refine q_gI hx hb hT hown hK hR iqX6 vqX6 2 (by decide) (hT _ wfl_X6_25) hf dX6_readNumber_53 (fun v13 hf => ?_)
            refine q_iald hx hb hK hR hf dX6_readNumber_56 (fun v14 hf => ?_)
            refine lv_bipush (v := (57 : Int32)) hx hb dX6_readNumber_57 (by decide) ?_
            refine lv_icmp_gt (tgt := 93) hx hb dX6_readNumber_59 (by decide) (fun hc => ?_) (fun hc => ?_)
            · have hf := q_t hf hc
              exact hex _ _ (Option.some.inj hf).symm _ _ _ hR hS hz (lv_sub hl [0, 1, 2, 3] rfl)
            · have hf := q_f hf hc
              refine lv_iload_n hx hb dX6_readNumber_62 rfl (lv_at hl 3 rfl) ?_
              refine lv_bipush (v := (10 : Int32)) hx hb dX6_readNumber_63 (by decide) ?_
              refine lv_imul hx hb dX6_readNumber_65 ?_
              refine lv_aload_n hx hb dX6_readNumber_66 rfl (lv_at hl 0 rfl) ?_
              refine q_gR hx hb hT hown hK hR iqX6 vqX6 0 (by decide) (hT _ wfl_X6_9) hf dX6_readNumber_67 (fun v15 hf => ?_)
              refine lv_aload_n hx hb dX6_readNumber_70 rfl (lv_at hl 0 rfl) ?_
              refine q_gI hx hb hT hown hK hR iqX6 vqX6 2 (by decide) (hT _ wfl_X6_25) hf dX6_readNumber_71 (fun v16 hf => ?_)
              refine q_iald hx hb hK hR hf dX6_readNumber_74 (fun v17 hf => ?_)
              refine lv_iadd hx hb dX6_readNumber_75 ?_
              refine lv_bipush (v := (48 : Int32)) hx hb dX6_readNumber_76 (by decide) ?_
              refine lv_isub hx hb dX6_readNumber_78 ?_
              refine lv_topi (fun v18 ev18 => ?_)
              have hf := q_lt ev18 hf
              refine lv_istore_n (lv' := [(3, .int v18), (0, .ref a0), (1, .int a1), (2, .int a2)]) hx hb dX6_readNumber_79 rfl hl (by decide) rfl (fun ls hl => ?_)
              refine lv_aload_n hx hb dX6_readNumber_80 rfl (lv_at hl 1 rfl) ?_
              refine lv_dup hx hb dX6_readNumber_81 rfl ?_
              refine q_gI hx hb hT hown hK hR iqX6 vqX6 2 (by decide) (hT _ wfl_X6_25) hf dX6_readNumber_82 (fun v19 hf => ?_)
              refine lv_iconst (v := (1 : Int32)) hx hb dX6_readNumber_85 (by decide) ?_
              refine lv_iadd hx hb dX6_readNumber_86 ?_
              refine lv_topi (fun v20 ev20 => ?_)
              have hf := q_lt ev20 hf
              refine q_pI hx hb hT hown hK hR hS hz iqX6 vqX6 tyX6_ok nmX6 2 (by decide) (hT _ wfl_X6_25) rfl rfl hf dX6_readNumber_87 (fun X21 hf H locs hR hS hz => ?_)
              refine lv_goto (tgt := 23) hx hb dX6_readNumber_90 (by decide) ?_
              exact ih0 _ _ out hf hex _ _ _ hR hS hz (lv_sub hl [1, 2, 3, 0] rfl)
    refine hL F _ _ _ ho (fun z0 z1 h9 => ?_) _ _ _ hR hS hz (lv_sub hl [1, 2, 3, 0] rfl)
    cases h9
    intro H locs ls hR hS hz hl
    refine lv_aload_n hx hb dX6_readNumber_93 rfl (lv_at hl 0 rfl) ?_
    refine q_gI hx hb hT hown hK hR iqX6 vqX6 2 (by decide) (hT _ wfl_X6_25) hf dX6_readNumber_94 (fun v24 hf => ?_)
    refine lv_aload_n hx hb dX6_readNumber_97 rfl (lv_at hl 0 rfl) ?_
    refine q_gI hx hb hT hown hK hR iqX6 vqX6 3 (by decide) (hT _ wfl_X6_95) hf dX6_readNumber_98 (fun v25 hf => ?_)
    refine lv_isub hx hb dX6_readNumber_101 ?_
    refine lv_topi (fun v26 ev26 => ?_)
    have hf := q_lt ev26 hf
    refine lv_istore (lv' := [(4, .int v26), (0, .ref a0), (1, .int a1), (2, .int a2), (3, .int v22)]) hx hb dX6_readNumber_102 hl (by decide) rfl (fun ls hl => ?_)
    refine lv_iload hx hb dX6_readNumber_104 (lv_at hl 0 rfl) ?_
    refine lv_if_ne (tgt := 120) hx hb dX6_readNumber_106 (by decide) (fun hc => ?_) (fun hc => ?_)
    · have hf := q_f hf hc
      refine lv_iload hx hb dX6_readNumber_120 (lv_at hl 0 rfl) ?_
      refine lv_iconst (v := (3 : Int32)) hx hb dX6_readNumber_122 (by decide) ?_
      obtain ⟨J31, hJd, hf⟩ := q_lab hf
      have hJ136 : ∀ (_ : Unit), J31 () = some (r, Xr) → ∀ (H : Heap) (locs : List Loc) (ls : Array Slot), qR D kz b0 X23 H → va_S (qA b0) s.heap H locs → H.size = sz → lv_has ls 5 [(0, .ref a0)] → W p l e rmX6_readNumber s m args below meth c H locs 0 0 Q (F0 m 136 ls []) := by
        intro _ hf H locs ls hR hS hz hl
        rw [hJd] at hf
        refine lv_aload_n hx hb dX6_readNumber_136 rfl (lv_at hl 0 rfl) ?_
        refine lv_iconst (v := (2 : Int32)) hx hb dX6_readNumber_137 (by decide) ?_
        refine lv_aload_n hx hb dX6_readNumber_138 rfl (lv_at hl 0 rfl) ?_
        refine q_gI hx hb hT hown hK hR iqX6 vqX6 3 (by decide) (hT _ wfl_X6_95) hf dX6_readNumber_139 (fun v29 hf => ?_)
        obtain ⟨X30, hc, hf⟩ := q_b hf
        refine q_callv (va_runV (As := [.int (2 : Int32), .int v29]) (rest := []) ⟨hx, hb, hml, hown, hT⟩ (mX6_fail l D kz b0 sz F X23 a0 (2 : Int32) v29 X30 hc) (cwV 2 hT (q_gV wco_X6_fail wml_X6_56 wim_X6_fail wse_X6_fail win_X6) rfl rfl rfl hdX6_fail ⟨Nat.le_of_ble_eq_true rfl, Nat.le_of_ble_eq_true rfl⟩) (q_preV vqX6 (fX6_fail_is hc) hR hK hz) rfl rfl hl.1 rfl (lv_room (Nat.le_of_ble_eq_true rfl)) dX6_readNumber_142 ⟨Nat.le_of_ble_eq_true rfl, Nat.le_of_ble_eq_true rfl⟩) hS (fun H locs hR hS hz => ?_)
        refine lv_iconst (v := (-1 : Int32)) hx hb dX6_readNumber_145 (by decide) ?_
        subst hQ
        obtain ⟨h8, h9⟩ := Prod.mk.inj (Option.some.inj hf)
        exact q_iret hx hb hr hlocks hR hS hz h8 h9 dX6_readNumber_146
      clear hJd
      refine lv_icmp_gt (tgt := 136) hx hb dX6_readNumber_123 (by decide) (fun hc => ?_) (fun hc => ?_)
      · have hf := q_t hf hc
        exact hJ136 () hf _ _ _ hR hS hz (lv_sub hl [1] rfl)
      · have hf := q_f hf hc
        refine lv_iload_n hx hb dX6_readNumber_126 rfl (lv_at hl 4 rfl) ?_
        refine lv_iload_n hx hb dX6_readNumber_127 rfl (lv_at hl 2 rfl) ?_
        refine lv_icmp_lt (tgt := 136) hx hb dX6_readNumber_128 (by decide) (fun hc => ?_) (fun hc => ?_)
        · have hf := q_t hf hc
          exact hJ136 () hf _ _ _ hR hS hz (lv_sub hl [1] rfl)
        · have hf := q_f hf hc
          refine lv_iload_n hx hb dX6_readNumber_131 rfl (lv_at hl 4 rfl) ?_
          refine lv_iload_n hx hb dX6_readNumber_132 rfl (lv_at hl 3 rfl) ?_
          refine lv_icmp_le (tgt := 147) hx hb dX6_readNumber_133 (by decide) (fun hc => ?_) (fun hc => ?_)
          · have hf := q_t hf hc
            refine lv_iload_n hx hb dX6_readNumber_147 rfl (lv_at hl 4 rfl) ?_
            subst hQ
            obtain ⟨h8, h9⟩ := Prod.mk.inj (Option.some.inj hf)
            exact q_iret hx hb hr hlocks hR hS hz h8 h9 dX6_readNumber_148
          · have hf := q_f hf hc
            exact hJ136 () hf _ _ _ hR hS hz (lv_sub hl [1] rfl)
    · have hf := q_t hf hc
      refine lv_aload_n hx hb dX6_readNumber_109 rfl (lv_at hl 1 rfl) ?_
      refine lv_iconst (v := (1 : Int32)) hx hb dX6_readNumber_110 (by decide) ?_
      refine lv_aload_n hx hb dX6_readNumber_111 rfl (lv_at hl 1 rfl) ?_
      refine q_gI hx hb hT hown hK hR iqX6 vqX6 2 (by decide) (hT _ wfl_X6_25) hf dX6_readNumber_112 (fun v27 hf => ?_)
      obtain ⟨X28, hc, hf⟩ := q_b hf
      refine q_callv (va_runV (As := [.int (1 : Int32), .int v27]) (rest := []) ⟨hx, hb, hml, hown, hT⟩ (mX6_fail l D kz b0 sz F X23 a0 (1 : Int32) v27 X28 hc) (cwV 2 hT (q_gV wco_X6_fail wml_X6_56 wim_X6_fail wse_X6_fail win_X6) rfl rfl rfl hdX6_fail ⟨Nat.le_of_ble_eq_true rfl, Nat.le_of_ble_eq_true rfl⟩) (q_preV vqX6 (fX6_fail_is hc) hR hK hz) rfl rfl hl.1 rfl (lv_room (Nat.le_of_ble_eq_true rfl)) dX6_readNumber_115 ⟨Nat.le_of_ble_eq_true rfl, Nat.le_of_ble_eq_true rfl⟩) hS (fun H locs hR hS hz => ?_)
      refine lv_iconst (v := (-1 : Int32)) hx hb dX6_readNumber_118 (by decide) ?_
      subst hQ
      obtain ⟨h8, h9⟩ := Prod.mk.inj (Option.some.inj hf)
      exact q_iret hx hb hr hlocks hR hS hz h8 h9 dX6_readNumber_119
  · have hf := q_f hf hc
    refine lv_iconst (v := (-1 : Int32)) hx hb dX6_readNumber_7 (by decide) ?_
    subst hQ
    obtain ⟨h8, h9⟩ := Prod.mk.inj (Option.some.inj hf)
    exact q_iret hx hb hr hlocks hR hS hz h8 h9 dX6_readNumber_8
/-! X6_passEnd -/
def fX6_passEnd (F : Nat) (X : qH) (a0 : Nat) : Option (qH) :=
qIs 6 X a0 <|
(fX6_skipBlanks F X a0).bind fun X1 =>
(qgI X1 6 a0 2).bind fun v2 =>
(qgI X1 6 a0 1).bind fun v3 =>
qlab (fun (_ : Unit) =>
(qgI X1 6 a0 2).bind fun v4 =>
(fX6_fail F X1 a0 (1 : Int32) v4).bind fun X5 =>
some X5) fun J12 =>
if v3 ≤ v2 then (J12 ())
else ((qgR X1 6 a0 0).bind fun v6 =>
(qgI X1 6 a0 2).bind fun v7 =>
(qaI X1 0 v6 v7).bind fun v8 =>
if v8 = (59 : Int32) then ((qgI X1 6 a0 2).bind fun v9 =>
qlt (v9 + (1 : Int32)) fun v10 =>
(qpI X1 6 a0 2 v10).bind fun X11 =>
some X11)
else (J12 ()))
abbrev rmX6_passEnd : Room := { frames := 1, cells := 0, slots := 0, locals := 22 }
theorem fX6_passEnd_is {F : Nat} {X : qH} {a0 : Nat} {r9 : qH} (h : fX6_passEnd F X a0 = some r9) : ∃ fs, X a0 = some (.inr (6, fs)) := (qIs_spec h).1
theorem hdX6_passEnd : yX6_passEnd.cls = RX6 ∧ yX6_passEnd.cls ≠ "java/lang/invoke/MethodHandle" ∧ yX6_passEnd.cls ≠ "java/lang/invoke/VarHandle" ∧ (parseMethodDescriptor yX6_passEnd.desc).map (fun d => d.parameters.length) = some 0 := by decide +kernel
set_option maxHeartbeats 4000000 in
set_option maxRecDepth 100000 in
theorem mX6_passEnd (l : Launch) (D : va_G) (kz : Nat → Nat) (b0 sz F : Nat) (X : qH) (a0 : Nat)  (Xr : qH) (hf : fX6_passEnd F X a0 = some Xr) : Met l yX6_passEnd (qws yX6_passEnd cX6_passEnd 1 none) rmX6_passEnd (va_Pc [.ref a0] (qU D kz b0 sz X)) (va_Qv (fun (u : qH) => u = Xr) (fun u t => qO D kz b0 sz u t) (qA b0)) 0 0 (qA b0) := by
  refine q_start (by decide) (Nat.le_of_ble_eq_true rfl) ?_
  intro p e s m args below meth c hx hb hr hlocks hnm hml hown hT hR hK hz ls hl
  have hown : s.vm.findClass RX6 = some m.cls := hown
  have hl : lv_has ls 1 [(0, .ref a0)] := hl
  have hS : va_S (qA b0) s.heap s.heap [] := va_S.rf
  obtain ⟨Q, hQ⟩ : ∃ Q, Q = MQ below (va_Qv (fun (u : qH) => u = Xr) (fun u t => qO D kz b0 sz u t) (qA b0)) args s 0 0 (qA b0) := ⟨_, rfl⟩
  rw [← hQ]
  unfold fX6_passEnd at hf
  obtain ⟨hthis, hf⟩ := qIs_spec hf
  refine lv_aload_n hx hb dX6_passEnd_0 rfl (lv_at hl 0 rfl) ?_
  obtain ⟨X1, hc, hf⟩ := q_b hf
  refine q_callv (va_runV (As := []) (rest := []) ⟨hx, hb, hml, hown, hT⟩ (mX6_skipBlanks l D kz b0 sz F X a0 X1 hc) (cwV 0 hT (q_gV wco_X6_skipBlanks wml_X6_46 wim_X6_skipBlanks wse_X6_skipBlanks win_X6) rfl rfl rfl hdX6_skipBlanks ⟨Nat.le_of_ble_eq_true rfl, Nat.le_of_ble_eq_true rfl⟩) (q_preV vqX6 (fX6_skipBlanks_is hc) hR hK hz) rfl rfl hl.1 rfl (lv_room (Nat.le_of_ble_eq_true rfl)) dX6_passEnd_1 ⟨Nat.le_of_ble_eq_true rfl, Nat.le_of_ble_eq_true rfl⟩) hS (fun H locs hR hS hz => ?_)
  refine lv_aload_n hx hb dX6_passEnd_4 rfl (lv_at hl 0 rfl) ?_
  refine q_gI hx hb hT hown hK hR iqX6 vqX6 2 (by decide) (hT _ wfl_X6_25) hf dX6_passEnd_5 (fun v2 hf => ?_)
  refine lv_aload_n hx hb dX6_passEnd_8 rfl (lv_at hl 0 rfl) ?_
  refine q_gI hx hb hT hown hK hR iqX6 vqX6 1 (by decide) (hT _ wfl_X6_21) hf dX6_passEnd_9 (fun v3 hf => ?_)
  obtain ⟨J12, hJd, hf⟩ := q_lab hf
  have hJ29 : ∀ (_ : Unit), J12 () = some Xr → ∀ (H : Heap) (locs : List Loc) (ls : Array Slot), qR D kz b0 X1 H → va_S (qA b0) s.heap H locs → H.size = sz → lv_has ls 1 [(0, .ref a0)] → W p l e rmX6_passEnd s m args below meth c H locs 0 0 Q (F0 m 29 ls []) := by
    intro _ hf H locs ls hR hS hz hl
    rw [hJd] at hf
    refine lv_aload_n hx hb dX6_passEnd_29 rfl (lv_at hl 0 rfl) ?_
    refine lv_iconst (v := (1 : Int32)) hx hb dX6_passEnd_30 (by decide) ?_
    refine lv_aload_n hx hb dX6_passEnd_31 rfl (lv_at hl 0 rfl) ?_
    refine q_gI hx hb hT hown hK hR iqX6 vqX6 2 (by decide) (hT _ wfl_X6_25) hf dX6_passEnd_32 (fun v4 hf => ?_)
    obtain ⟨X5, hc, hf⟩ := q_b hf
    refine q_callv (va_runV (As := [.int (1 : Int32), .int v4]) (rest := []) ⟨hx, hb, hml, hown, hT⟩ (mX6_fail l D kz b0 sz F X1 a0 (1 : Int32) v4 X5 hc) (cwV 2 hT (q_gV wco_X6_fail wml_X6_56 wim_X6_fail wse_X6_fail win_X6) rfl rfl rfl hdX6_fail ⟨Nat.le_of_ble_eq_true rfl, Nat.le_of_ble_eq_true rfl⟩) (q_preV vqX6 (fX6_fail_is hc) hR hK hz) rfl rfl hl.1 rfl (lv_room (Nat.le_of_ble_eq_true rfl)) dX6_passEnd_35 ⟨Nat.le_of_ble_eq_true rfl, Nat.le_of_ble_eq_true rfl⟩) hS (fun H locs hR hS hz => ?_)
    subst hQ
    exact q_vret hx hb hr hlocks hR hS hz (Option.some.inj hf) dX6_passEnd_38
  clear hJd
  refine lv_icmp_ge (tgt := 29) hx hb dX6_passEnd_12 (by decide) (fun hc => ?_) (fun hc => ?_)
  · have hf := q_t hf hc
    exact hJ29 () hf _ _ _ hR hS hz (lv_sub hl [0] rfl)
  · have hf := q_f hf hc
    refine lv_aload_n hx hb dX6_passEnd_15 rfl (lv_at hl 0 rfl) ?_
    refine q_gR hx hb hT hown hK hR iqX6 vqX6 0 (by decide) (hT _ wfl_X6_9) hf dX6_passEnd_16 (fun v6 hf => ?_)
    refine lv_aload_n hx hb dX6_passEnd_19 rfl (lv_at hl 0 rfl) ?_
    refine q_gI hx hb hT hown hK hR iqX6 vqX6 2 (by decide) (hT _ wfl_X6_25) hf dX6_passEnd_20 (fun v7 hf => ?_)
    refine q_iald hx hb hK hR hf dX6_passEnd_23 (fun v8 hf => ?_)
    refine lv_bipush (v := (59 : Int32)) hx hb dX6_passEnd_24 (by decide) ?_
    refine lv_icmp_eq (tgt := 39) hx hb dX6_passEnd_26 (by decide) (fun hc => ?_) (fun hc => ?_)
    · have hf := q_t hf hc
      refine lv_aload_n hx hb dX6_passEnd_39 rfl (lv_at hl 0 rfl) ?_
      refine lv_dup hx hb dX6_passEnd_40 rfl ?_
      refine q_gI hx hb hT hown hK hR iqX6 vqX6 2 (by decide) (hT _ wfl_X6_25) hf dX6_passEnd_41 (fun v9 hf => ?_)
      refine lv_iconst (v := (1 : Int32)) hx hb dX6_passEnd_44 (by decide) ?_
      refine lv_iadd hx hb dX6_passEnd_45 ?_
      refine lv_topi (fun v10 ev10 => ?_)
      have hf := q_lt ev10 hf
      refine q_pI hx hb hT hown hK hR hS hz iqX6 vqX6 tyX6_ok nmX6 2 (by decide) (hT _ wfl_X6_25) rfl rfl hf dX6_passEnd_46 (fun X11 hf H locs hR hS hz => ?_)
      subst hQ
      exact q_vret hx hb hr hlocks hR hS hz (Option.some.inj hf) dX6_passEnd_49
    · have hf := q_f hf hc
      exact hJ29 () hf _ _ _ hR hS hz (lv_sub hl [0] rfl)
/-! X6_readCells -/
def fX6_readCells (F : Nat) (X : qH) (a0 : Nat) (a1 : Nat) : Option (qH) :=
qIs 6 X a0 <|
(qgI X 0 a1 0).bind fun v1 =>
(if v1 ≤ (0 : Int32) then (some (0 : Int32))
else (some (1 : Int32)) : Option Int32).bind fun v2 =>
(fX6_passWord F X a0 v2).bind fun X3 =>
qb2 (fX6_readNumber F X3 a0 (2 : Int32) (30 : Int32)) fun v4 X5 =>
qb2 (fX6_readNumber F X5 a0 (0 : Int32) (20 : Int32)) fun v6 X7 =>
qb2 (fX6_readNumber F X7 a0 (0 : Int32) (10 : Int32)) fun v8 X9 =>
(fX6_passEnd F X9 a0).bind fun X10 =>
(qgI X10 6 a0 4).bind fun v11 =>
(if v11 = (0 : Int32) then ((qpI X10 0 a1 0 v4).bind fun X13 =>
(qpI X13 0 a1 1 v6).bind fun X14 =>
qlt (v8 - (5 : Int32)) fun v15 =>
(qpI X14 0 a1 2 v15).bind fun X16 =>
some X16)
else (some X10) : Option qH).bind fun X12 =>
some X12
abbrev rmX6_readCells : Room := { frames := 2, cells := 0, slots := 0, locals := 46 }
theorem fX6_readCells_is {F : Nat} {X : qH} {a0 : Nat} {a1 : Nat} {r9 : qH} (h : fX6_readCells F X a0 a1 = some r9) : ∃ fs, X a0 = some (.inr (6, fs)) := (qIs_spec h).1
theorem hdX6_readCells : yX6_readCells.cls = RX6 ∧ yX6_readCells.cls ≠ "java/lang/invoke/MethodHandle" ∧ yX6_readCells.cls ≠ "java/lang/invoke/VarHandle" ∧ (parseMethodDescriptor yX6_readCells.desc).map (fun d => d.parameters.length) = some 1 := by decide +kernel
set_option maxHeartbeats 4000000 in
set_option maxRecDepth 100000 in
theorem mX6_readCells (l : Launch) (D : va_G) (kz : Nat → Nat) (b0 sz F : Nat) (X : qH) (a0 : Nat) (a1 : Nat)  (Xr : qH) (hf : fX6_readCells F X a0 a1 = some Xr) : Met l yX6_readCells (qws yX6_readCells cX6_readCells 5 none) rmX6_readCells (va_Pc [.ref a0, .ref a1] (qU D kz b0 sz X)) (va_Qv (fun (u : qH) => u = Xr) (fun u t => qO D kz b0 sz u t) (qA b0)) 0 0 (qA b0) := by
  refine q_start (by decide) (Nat.le_of_ble_eq_true rfl) ?_
  intro p e s m args below meth c hx hb hr hlocks hnm hml hown hT hR hK hz ls hl
  have hown : s.vm.findClass RX6 = some m.cls := hown
  have hl : lv_has ls 5 [(0, .ref a0), (1, .ref a1)] := hl
  have hS : va_S (qA b0) s.heap s.heap [] := va_S.rf
  obtain ⟨Q, hQ⟩ : ∃ Q, Q = MQ below (va_Qv (fun (u : qH) => u = Xr) (fun u t => qO D kz b0 sz u t) (qA b0)) args s 0 0 (qA b0) := ⟨_, rfl⟩
  rw [← hQ]
  unfold fX6_readCells at hf
  obtain ⟨hthis, hf⟩ := qIs_spec hf
  refine lv_aload_n hx hb dX6_readCells_0 rfl (lv_at hl 0 rfl) ?_
  refine lv_aload_n hx hb dX6_readCells_1 rfl (lv_at hl 1 rfl) ?_
  refine q_gI hx hb hT hown hK hR iqX0 vqX0 0 (by decide) (hT _ wfl_X6_53) hf dX6_readCells_2 (fun v1 hf => ?_)
  obtain ⟨v2, hp, hf⟩ := q_b hf
  have hJ : ∀ (H : Heap) (locs : List Loc) (ls : Array Slot), qR D kz b0 X H → va_S (qA b0) s.heap H locs → H.size = sz → lv_has ls 5 [(0, .ref a0), (1, .ref a1)] → W p l e rmX6_readCells s m args below meth c H locs 0 0 Q (F0 m 13 ls [.int v2, .ref a0]) := by
    intro H locs ls hR hS hz hl
    obtain ⟨X3, hc, hf⟩ := q_b hf
    refine q_callv (va_runV (As := [.int v2]) (rest := []) ⟨hx, hb, hml, hown, hT⟩ (mX6_passWord l D kz b0 sz F X a0 v2 X3 hc) (cwV 1 hT (q_gV wco_X6_passWord wml_X6_72 wim_X6_passWord wse_X6_passWord win_X6) rfl rfl rfl hdX6_passWord ⟨Nat.le_of_ble_eq_true rfl, Nat.le_of_ble_eq_true rfl⟩) (q_preV vqX6 (fX6_passWord_is hc) hR hK hz) rfl rfl hl.1 rfl (lv_room (Nat.le_of_ble_eq_true rfl)) dX6_readCells_13 ⟨Nat.le_of_ble_eq_true rfl, Nat.le_of_ble_eq_true rfl⟩) hS (fun H locs hR hS hz => ?_)
    refine lv_aload_n hx hb dX6_readCells_16 rfl (lv_at hl 0 rfl) ?_
    refine lv_iconst (v := (2 : Int32)) hx hb dX6_readCells_17 (by decide) ?_
    refine lv_bipush (v := (30 : Int32)) hx hb dX6_readCells_18 (by decide) ?_
    obtain ⟨v4, X5, hc, hf⟩ := q_b2 hf
    refine q_calli (va_runV (As := [.int (2 : Int32), .int (30 : Int32)]) (rest := []) ⟨hx, hb, hml, hown, hT⟩ (mX6_readNumber l D kz b0 sz F X3 a0 (2 : Int32) (30 : Int32) v4 X5 hc) (cwV 2 hT (q_gV wco_X6_readNumber wml_X6_76 wim_X6_readNumber wse_X6_readNumber win_X6) rfl rfl rfl hdX6_readNumber ⟨Nat.le_of_ble_eq_true rfl, Nat.le_of_ble_eq_true rfl⟩) (q_preV vqX6 (fX6_readNumber_is hc) hR hK hz) rfl rfl hl.1 rfl (lv_room (Nat.le_of_ble_eq_true rfl)) dX6_readCells_20 ⟨Nat.le_of_ble_eq_true rfl, Nat.le_of_ble_eq_true rfl⟩) hS (fun H locs hR hS hz => ?_)
    refine lv_istore_n (lv' := [(2, .int v4), (0, .ref a0), (1, .ref a1)]) hx hb dX6_readCells_23 rfl hl (by decide) rfl (fun ls hl => ?_)
    refine lv_aload_n hx hb dX6_readCells_24 rfl (lv_at hl 1 rfl) ?_
    refine lv_iconst (v := (0 : Int32)) hx hb dX6_readCells_25 (by decide) ?_
    refine lv_bipush (v := (20 : Int32)) hx hb dX6_readCells_26 (by decide) ?_
    obtain ⟨v6, X7, hc, hf⟩ := q_b2 hf
    refine q_calli (va_runV (As := [.int (0 : Int32), .int (20 : Int32)]) (rest := []) ⟨hx, hb, hml, hown, hT⟩ (mX6_readNumber l D kz b0 sz F X5 a0 (0 : Int32) (20 : Int32) v6 X7 hc) (cwV 2 hT (q_gV wco_X6_readNumber wml_X6_76 wim_X6_readNumber wse_X6_readNumber win_X6) rfl rfl rfl hdX6_readNumber ⟨Nat.le_of_ble_eq_true rfl, Nat.le_of_ble_eq_true rfl⟩) (q_preV vqX6 (fX6_readNumber_is hc) hR hK hz) rfl rfl hl.1 rfl (lv_room (Nat.le_of_ble_eq_true rfl)) dX6_readCells_28 ⟨Nat.le_of_ble_eq_true rfl, Nat.le_of_ble_eq_true rfl⟩) hS (fun H locs hR hS hz => ?_)
    refine lv_istore_n (lv' := [(3, .int v6), (2, .int v4), (0, .ref a0), (1, .ref a1)]) hx hb dX6_readCells_31 rfl hl (by decide) rfl (fun ls hl => ?_)
    refine lv_aload_n hx hb dX6_readCells_32 rfl (lv_at hl 2 rfl) ?_
    refine lv_iconst (v := (0 : Int32)) hx hb dX6_readCells_33 (by decide) ?_
    refine lv_bipush (v := (10 : Int32)) hx hb dX6_readCells_34 (by decide) ?_
    obtain ⟨v8, X9, hc, hf⟩ := q_b2 hf
    refine q_calli (va_runV (As := [.int (0 : Int32), .int (10 : Int32)]) (rest := []) ⟨hx, hb, hml, hown, hT⟩ (mX6_readNumber l D kz b0 sz F X7 a0 (0 : Int32) (10 : Int32) v8 X9 hc) (cwV 2 hT (q_gV wco_X6_readNumber wml_X6_76 wim_X6_readNumber wse_X6_readNumber win_X6) rfl rfl rfl hdX6_readNumber ⟨Nat.le_of_ble_eq_true rfl, Nat.le_of_ble_eq_true rfl⟩) (q_preV vqX6 (fX6_readNumber_is hc) hR hK hz) rfl rfl hl.1 rfl (lv_room (Nat.le_of_ble_eq_true rfl)) dX6_readCells_36 ⟨Nat.le_of_ble_eq_true rfl, Nat.le_of_ble_eq_true rfl⟩) hS (fun H locs hR hS hz => ?_)
    refine lv_istore (lv' := [(4, .int v8), (3, .int v6), (2, .int v4), (0, .ref a0), (1, .ref a1)]) hx hb dX6_readCells_39 hl (by decide) rfl (fun ls hl => ?_)
    refine lv_aload_n hx hb dX6_readCells_41 rfl (lv_at hl 3 rfl) ?_
    obtain ⟨X10, hc, hf⟩ := q_b hf
    refine q_callv (va_runV (As := []) (rest := []) ⟨hx, hb, hml, hown, hT⟩ (mX6_passEnd l D kz b0 sz F X9 a0 X10 hc) (cwV 0 hT (q_gV wco_X6_passEnd wml_X6_79 wim_X6_passEnd wse_X6_passEnd win_X6) rfl rfl rfl hdX6_passEnd ⟨Nat.le_of_ble_eq_true rfl, Nat.le_of_ble_eq_true rfl⟩) (q_preV vqX6 (fX6_passEnd_is hc) hR hK hz) rfl rfl hl.1 rfl (lv_room (Nat.le_of_ble_eq_true rfl)) dX6_readCells_42 ⟨Nat.le_of_ble_eq_true rfl, Nat.le_of_ble_eq_true rfl⟩) hS (fun H locs hR hS hz => ?_)
    refine lv_aload_n hx hb dX6_readCells_45 rfl (lv_at hl 3 rfl) ?_
    refine q_gI hx hb hT hown hK hR iqX6 vqX6 4 (by decide) (hT _ wfl_X6_28) hf dX6_readCells_46 (fun v11 hf => ?_)
    obtain ⟨X12, hp, hf⟩ := q_b hf
    have hJ : ∀ (H : Heap) (locs : List Loc) (ls : Array Slot), qR D kz b0 X12 H → va_S (qA b0) s.heap H locs → H.size = sz → lv_has ls 5 [] → W p l e rmX6_readCells s m args below meth c H locs 0 0 Q (F0 m 70 ls []) := by
      intro H locs ls hR hS hz hl
      subst hQ
      exact q_vret hx hb hr hlocks hR hS hz (Option.some.inj hf) dX6_readCells_70
    have hf := hp
    refine lv_if_ne (tgt := 70) hx hb dX6_readCells_49 (by decide) (fun hc => ?_) (fun hc => ?_)
    · have hf := q_f hf hc
      cases hf
      exact hJ _ _ _ hR hS hz (lv_sub hl [] rfl)
    · have hf := q_t hf hc
      refine lv_aload_n hx hb dX6_readCells_52 rfl (lv_at hl 4 rfl) ?_
      refine lv_iload_n hx hb dX6_readCells_53 rfl (lv_at hl 2 rfl) ?_
      refine q_pI hx hb hT hown hK hR hS hz iqX0 vqX0 tyX0_ok nmX0 0 (by decide) (hT _ wfl_X6_53) rfl rfl hf dX6_readCells_54 (fun X13 hf H locs hR hS hz => ?_)
      refine lv_aload_n hx hb dX6_readCells_57 rfl (lv_at hl 4 rfl) ?_
      refine lv_iload_n hx hb dX6_readCells_58 rfl (lv_at hl 1 rfl) ?_
      refine q_pI hx hb hT hown hK hR hS hz iqX0 vqX0 tyX0_ok nmX0 1 (by decide) (hT _ wfl_X6_82) rfl rfl hf dX6_readCells_59 (fun X14 hf H locs hR hS hz => ?_)
      refine lv_aload_n hx hb dX6_readCells_62 rfl (lv_at hl 4 rfl) ?_
      refine lv_iload hx hb dX6_readCells_63 (lv_at hl 0 rfl) ?_
      refine lv_iconst (v := (5 : Int32)) hx hb dX6_readCells_65 (by decide) ?_
      refine lv_isub hx hb dX6_readCells_66 ?_
      refine lv_topi (fun v15 ev15 => ?_)
      have hf := q_lt ev15 hf
      refine q_pI hx hb hT hown hK hR hS hz iqX0 vqX0 tyX0_ok nmX0 2 (by decide) (hT _ wfl_X6_85) rfl rfl hf dX6_readCells_67 (fun X16 hf H locs hR hS hz => ?_)
      cases hf
      exact hJ _ _ _ hR hS hz (lv_sub hl [] rfl)
  have hf := hp
  refine lv_if_le (tgt := 12) hx hb dX6_readCells_5 (by decide) (fun hc => ?_) (fun hc => ?_)
  · have hf := q_t hf hc
    refine lv_iconst (v := (0 : Int32)) hx hb dX6_readCells_12 (by decide) ?_
    cases hf
    exact hJ _ _ _ hR hS hz (lv_sub hl [0, 1] rfl)
  · have hf := q_f hf hc
    refine lv_iconst (v := (1 : Int32)) hx hb dX6_readCells_8 (by decide) ?_
    refine lv_goto (tgt := 13) hx hb dX6_readCells_9 (by decide) ?_
    cases hf
    exact hJ _ _ _ hR hS hz (lv_sub hl [0, 1] rfl)
/-! X6_readStars -/
def fX6_readStars_L20_B (F : Nat) (a0 : Nat) (a1 : Nat) (v3 : Int32) (self0 : Int32 → qH → Option (Int32 × qH)) (v4 : Int32) (X5 : qH) : Option (Int32 × qH) :=
(qgI X5 6 a0 2).bind fun v6 =>
(qgI X5 6 a0 1).bind fun v7 =>
if v7 ≤ v6 then (some (v4, X5))
else ((qgR X5 6 a0 0).bind fun v8 =>
(qgI X5 6 a0 2).bind fun v9 =>
(qaI X5 0 v8 v9).bind fun v10 =>
if v10 < (97 : Int32) then (some (v4, X5))
else ((qgR X5 6 a0 0).bind fun v11 =>
(qgI X5 6 a0 2).bind fun v12 =>
(qaI X5 0 v11 v12).bind fun v13 =>
if (101 : Int32) < v13 then (some (v4, X5))
else ((qgI X5 6 a0 2).bind fun v14 =>
if (5 : Int32) ≤ (v14 - v3) then (some (v4, X5))
else ((qgR X5 6 a0 0).bind fun v15 =>
(qgI X5 6 a0 2).bind fun v16 =>
(qaI X5 0 v15 v16).bind fun v17 =>
qlt ((((v4 * (10 : Int32)) + v17) - (97 : Int32)) + (1 : Int32)) fun v18 =>
(qgI X5 6 a0 2).bind fun v19 =>
qlt (v19 + (1 : Int32)) fun v20 =>
(qpI X5 6 a0 2 v20).bind fun X21 =>
self0 v18 X21))))
def fX6_readStars_L20 (F : Nat) (a0 : Nat) (a1 : Nat) (v3 : Int32) : Nat → Int32 → qH → Option (Int32 × qH)
  | 0, _, _ => none
  | n + 1, v4, X5 => fX6_readStars_L20_B F a0 a1 v3 (fX6_readStars_L20 F a0 a1 v3 n) v4 X5
def fX6_readStars (F : Nat) (X : qH) (a0 : Nat) (a1 : Nat) : Option (Int32 × qH) :=
qIs 6 X a0 <|
(qgI X 6 a0 4).bind fun v1 =>
if v1 = (0 : Int32) then ((fX6_skipBlanks F X a0).bind fun X2 =>
(qgI X2 6 a0 2).bind fun v3 =>
qb2 (fX6_readStars_L20 F a0 a1 v3 F (0 : Int32) X2) fun v22 X23 =>
(qgI X23 6 a0 2).bind fun v24 =>
(qlab (fun (_ : Unit) =>
(qgI X23 6 a0 2).bind fun v26 =>
(fX6_fail F X23 a0 (1 : Int32) v26).bind fun X27 =>
some X27) fun J39 =>
if v24 = v3 then (J39 ())
else ((qgI X23 6 a0 2).bind fun v28 =>
(qgI X23 6 a0 1).bind fun v29 =>
qlab (fun (_ : Unit) =>
(fX0_houseOfStars F X23 a1 v22).bind fun v30 =>
if v30 = (-1 : Int32) then (some X23)
else ((fX6_fail F X23 a0 (4 : Int32) v3).bind fun X31 =>
some X31)) fun J38 =>
if v29 ≤ v28 then (J38 ())
else ((qgR X23 6 a0 0).bind fun v32 =>
(qgI X23 6 a0 2).bind fun v33 =>
(qaI X23 0 v32 v33).bind fun v34 =>
if v34 < (97 : Int32) then (J38 ())
else ((qgR X23 6 a0 0).bind fun v35 =>
(qgI X23 6 a0 2).bind fun v36 =>
(qaI X23 0 v35 v36).bind fun v37 =>
if (101 : Int32) < v37 then (J38 ())
else (J39 ())))) : Option qH).bind fun X25 =>
some (v22, X25))
else (some ((-1 : Int32), X))
abbrev rmX6_readStars : Room := { frames := 1, cells := 0, slots := 0, locals := 22 }
theorem fX6_readStars_is {F : Nat} {X : qH} {a0 : Nat} {a1 : Nat} {r9 : Int32 × qH} (h : fX6_readStars F X a0 a1 = some r9) : ∃ fs, X a0 = some (.inr (6, fs)) := (qIs_spec h).1
theorem hdX6_readStars : yX6_readStars.cls = RX6 ∧ yX6_readStars.cls ≠ "java/lang/invoke/MethodHandle" ∧ yX6_readStars.cls ≠ "java/lang/invoke/VarHandle" ∧ (parseMethodDescriptor yX6_readStars.desc).map (fun d => d.parameters.length) = some 1 := by decide +kernel
set_option maxHeartbeats 4000000 in
set_option maxRecDepth 100000 in
theorem mX6_readStars (l : Launch) (D : va_G) (kz : Nat → Nat) (b0 sz F : Nat) (X : qH) (a0 : Nat) (a1 : Nat) (r : Int32) (Xr : qH) (hf : fX6_readStars F X a0 a1 = some (r, Xr)) : Met l yX6_readStars (qws yX6_readStars cX6_readStars 4 (some .int)) rmX6_readStars (va_Pc [.ref a0, .ref a1] (qU D kz b0 sz X)) (va_Qi (fun (r' : Int32) (u : qH) => r' = r ∧ u = Xr) (fun u t => qO D kz b0 sz u t) (qA b0)) 0 0 (qA b0) := by
  refine q_start (by decide) (Nat.le_of_ble_eq_true rfl) ?_
  intro p e s m args below meth c hx hb hr hlocks hnm hml hown hT hR hK hz ls hl
  have hown : s.vm.findClass RX6 = some m.cls := hown
  have hl : lv_has ls 4 [(0, .ref a0), (1, .ref a1)] := hl
  have hS : va_S (qA b0) s.heap s.heap [] := va_S.rf
  obtain ⟨Q, hQ⟩ : ∃ Q, Q = MQ below (va_Qi (fun (r' : Int32) (u : qH) => r' = r ∧ u = Xr) (fun u t => qO D kz b0 sz u t) (qA b0)) args s 0 0 (qA b0) := ⟨_, rfl⟩
  rw [← hQ]
  unfold fX6_readStars at hf
  obtain ⟨hthis, hf⟩ := qIs_spec hf
  refine lv_aload_n hx hb dX6_readStars_0 rfl (lv_at hl 0 rfl) ?_
  refine q_gI hx hb hT hown hK hR iqX6 vqX6 4 (by decide) (hT _ wfl_X6_28) hf dX6_readStars_1 (fun v1 hf => ?_)
  refine lv_if_eq (tgt := 9) hx hb dX6_readStars_4 (by decide) (fun hc => ?_) (fun hc => ?_)
  · have hf := q_t hf hc
    refine lv_aload_n hx hb dX6_readStars_9 rfl (lv_at hl 0 rfl) ?_
    obtain ⟨X2, hc, hf⟩ := q_b hf
    refine q_callv (va_runV (As := []) (rest := []) ⟨hx, hb, hml, hown, hT⟩ (mX6_skipBlanks l D kz b0 sz F X a0 X2 hc) (cwV 0 hT (q_gV wco_X6_skipBlanks wml_X6_46 wim_X6_skipBlanks wse_X6_skipBlanks win_X6) rfl rfl rfl hdX6_skipBlanks ⟨Nat.le_of_ble_eq_true rfl, Nat.le_of_ble_eq_true rfl⟩) (q_preV vqX6 (fX6_skipBlanks_is hc) hR hK hz) rfl rfl hl.1 rfl (lv_room (Nat.le_of_ble_eq_true rfl)) dX6_readStars_10 ⟨Nat.le_of_ble_eq_true rfl, Nat.le_of_ble_eq_true rfl⟩) hS (fun H locs hR hS hz => ?_)
    refine lv_aload_n hx hb dX6_readStars_13 rfl (lv_at hl 0 rfl) ?_
    refine q_gI hx hb hT hown hK hR iqX6 vqX6 2 (by decide) (hT _ wfl_X6_25) hf dX6_readStars_14 (fun v3 hf => ?_)
    refine lv_istore_n (lv' := [(2, .int v3), (0, .ref a0), (1, .ref a1)]) hx hb dX6_readStars_17 rfl hl (by decide) rfl (fun ls hl => ?_)
    refine lv_iconst (v := (0 : Int32)) hx hb dX6_readStars_18 (by decide) ?_
    refine lv_istore_n (lv' := [(3, .int (0 : Int32)), (2, .int v3), (0, .ref a0), (1, .ref a1)]) hx hb dX6_readStars_19 rfl hl (by decide) rfl (fun ls hl => ?_)
    obtain ⟨v22, X23, ho, hf⟩ := q_b2 hf
    have hL : ∀ (n : Nat) (v4 : Int32) (X5 : qH) (out : Int32 × qH), fX6_readStars_L20 F a0 a1 v3 n v4 X5 = some out → (∀ (v22 : Int32) (X23 : qH), out = (v22, X23) → ∀ (H : Heap) (locs : List Loc) (ls : Array Slot), qR D kz b0 X23 H → va_S (qA b0) s.heap H locs → H.size = sz → lv_has ls 4 [(0, .ref a0), (1, .ref a1), (2, .int v3), (3, .int v22)] → W p l e rmX6_readStars s m args below meth c H locs 0 0 Q (F0 m 102 ls [])) → ∀ (H : Heap) (locs : List Loc) (ls : Array Slot), qR D kz b0 X5 H → va_S (qA b0) s.heap H locs → H.size = sz → lv_has ls 4 [(0, .ref a0), (1, .ref a1), (2, .int v3), (3, .int v4)] → W p l e rmX6_readStars s m args below meth c H locs 0 0 Q (F0 m 20 ls []) := by
      intro n9
      induction n9 with
      | zero =>
        intro v4 X5 out hf
        exact absurd (show none = some out from hf) (by simp)
      | succ n9 ih0 =>
        intro v4 X5 out hf hex H locs ls hR hS hz hl
        have hf : fX6_readStars_L20_B F a0 a1 v3 (fX6_readStars_L20 F a0 a1 v3 n9) v4 X5 = some out := hf
        unfold fX6_readStars_L20_B at hf
        refine lv_aload_n hx hb dX6_readStars_20 rfl (lv_at hl 0 rfl) ?_
        refine q_gI hx hb hT hown hK hR iqX6 vqX6 2 (by decide) (hT _ wfl_X6_25) hf dX6_readStars_21 (fun v6 hf => ?_)
        refine lv_aload_n hx hb dX6_readStars_24 rfl (lv_at hl 0 rfl) ?_
        refine q_gI hx hb hT hown hK hR iqX6 vqX6 1 (by decide) (hT _ wfl_X6_21) hf dX6_readStars_25 (fun v7 hf => ?_)
        refine lv_icmp_ge (tgt := 102) hx hb dX6_readStars_28 (by decide) (fun hc => ?_) (fun hc => ?_)
        · have hf := q_t hf hc
          exact hex _ _ (Option.some.inj hf).symm _ _ _ hR hS hz (lv_sub hl [0, 1, 2, 3] rfl)
        · have hf := q_f hf hc
          refine lv_aload_n hx hb dX6_readStars_31 rfl (lv_at hl 0 rfl) ?_
          refine q_gR hx hb hT hown hK hR iqX6 vqX6 0 (by decide) (hT _ wfl_X6_9) hf dX6_readStars_32 (fun v8 hf => ?_)
          refine lv_aload_n hx hb dX6_readStars_35 rfl (lv_at hl 0 rfl) ?_
          refine q_gI hx hb hT hown hK hR iqX6 vqX6 2 (by decide) (hT _ wfl_X6_25) hf dX6_readStars_36 (fun v9 hf => ?_)
          refine q_iald hx hb hK hR hf dX6_readStars_39 (fun v10 hf => ?_)
          refine lv_bipush (v := (97 : Int32)) hx hb dX6_readStars_40 (by decide) ?_
          refine lv_icmp_lt (tgt := 102) hx hb dX6_readStars_42 (by decide) (fun hc => ?_) (fun hc => ?_)
          · have hf := q_t hf hc
            exact hex _ _ (Option.some.inj hf).symm _ _ _ hR hS hz (lv_sub hl [0, 1, 2, 3] rfl)
          · have hf := q_f hf hc
            refine lv_aload_n hx hb dX6_readStars_45 rfl (lv_at hl 0 rfl) ?_
            refine q_gR hx hb hT hown hK hR iqX6 vqX6 0 (by decide) (hT _ wfl_X6_9) hf dX6_readStars_46 (fun v11 hf => ?_)
            refine lv_aload_n hx hb dX6_readStars_49 rfl (lv_at hl 0 rfl) ?_
            refine q_gI hx hb hT hown hK hR iqX6 vqX6 2 (by decide) (hT _ wfl_X6_25) hf dX6_readStars_50 (fun v12 hf => ?_)
            refine q_iald hx hb hK hR hf dX6_readStars_53 (fun v13 hf => ?_)
            refine lv_bipush (v := (101 : Int32)) hx hb dX6_readStars_54 (by decide) ?_
            refine lv_icmp_gt (tgt := 102) hx hb dX6_readStars_56 (by decide) (fun hc => ?_) (fun hc => ?_)
            · have hf := q_t hf hc
              exact hex _ _ (Option.some.inj hf).symm _ _ _ hR hS hz (lv_sub hl [0, 1, 2, 3] rfl)
            · have hf := q_f hf hc
              refine lv_aload_n hx hb dX6_readStars_59 rfl (lv_at hl 0 rfl) ?_
              refine q_gI hx hb hT hown hK hR iqX6 vqX6 2 (by decide) (hT _ wfl_X6_25) hf dX6_readStars_60 (fun v14 hf => ?_)
              refine lv_iload_n hx hb dX6_readStars_63 rfl (lv_at hl 2 rfl) ?_
              refine lv_isub hx hb dX6_readStars_64 ?_
              refine lv_iconst (v := (5 : Int32)) hx hb dX6_readStars_65 (by decide) ?_
              refine lv_icmp_ge (tgt := 102) hx hb dX6_readStars_66 (by decide) (fun hc => ?_) (fun hc => ?_)
              · have hf := q_t hf hc
                exact hex _ _ (Option.some.inj hf).symm _ _ _ hR hS hz (lv_sub hl [0, 1, 2, 3] rfl)
              · have hf := q_f hf hc
                refine lv_iload_n hx hb dX6_readStars_69 rfl (lv_at hl 3 rfl) ?_
                refine lv_bipush (v := (10 : Int32)) hx hb dX6_readStars_70 (by decide) ?_
                refine lv_imul hx hb dX6_readStars_72 ?_
                refine lv_aload_n hx hb dX6_readStars_73 rfl (lv_at hl 0 rfl) ?_
                refine q_gR hx hb hT hown hK hR iqX6 vqX6 0 (by decide) (hT _ wfl_X6_9) hf dX6_readStars_74 (fun v15 hf => ?_)
                refine lv_aload_n hx hb dX6_readStars_77 rfl (lv_at hl 0 rfl) ?_
                refine q_gI hx hb hT hown hK hR iqX6 vqX6 2 (by decide) (hT _ wfl_X6_25) hf dX6_readStars_78 (fun v16 hf => ?_)
                refine q_iald hx hb hK hR hf dX6_readStars_81 (fun v17 hf => ?_)
                refine lv_iadd hx hb dX6_readStars_82 ?_
                refine lv_bipush (v := (97 : Int32)) hx hb dX6_readStars_83 (by decide) ?_
                refine lv_isub hx hb dX6_readStars_85 ?_
                refine lv_iconst (v := (1 : Int32)) hx hb dX6_readStars_86 (by decide) ?_
                refine lv_iadd hx hb dX6_readStars_87 ?_
                refine lv_topi (fun v18 ev18 => ?_)
                have hf := q_lt ev18 hf
                refine lv_istore_n (lv' := [(3, .int v18), (0, .ref a0), (1, .ref a1), (2, .int v3)]) hx hb dX6_readStars_88 rfl hl (by decide) rfl (fun ls hl => ?_)
                refine lv_aload_n hx hb dX6_readStars_89 rfl (lv_at hl 1 rfl) ?_
                refine lv_dup hx hb dX6_readStars_90 rfl ?_
                refine q_gI hx hb hT hown hK hR iqX6 vqX6 2 (by decide) (hT _ wfl_X6_25) hf dX6_readStars_91 (fun v19 hf => ?_)
                refine lv_iconst (v := (1 : Int32)) hx hb dX6_readStars_94 (by decide) ?_
                refine lv_iadd hx hb dX6_readStars_95 ?_
                refine lv_topi (fun v20 ev20 => ?_)
                have hf := q_lt ev20 hf
                refine q_pI hx hb hT hown hK hR hS hz iqX6 vqX6 tyX6_ok nmX6 2 (by decide) (hT _ wfl_X6_25) rfl rfl hf dX6_readStars_96 (fun X21 hf H locs hR hS hz => ?_)
                refine lv_goto (tgt := 20) hx hb dX6_readStars_99 (by decide) ?_
                exact ih0 _ _ out hf hex _ _ _ hR hS hz (lv_sub hl [1, 2, 3, 0] rfl)
    refine hL F _ _ _ ho (fun z0 z1 h9 => ?_) _ _ _ hR hS hz (lv_sub hl [2, 3, 1, 0] rfl)
    cases h9
    intro H locs ls hR hS hz hl
    refine lv_aload_n hx hb dX6_readStars_102 rfl (lv_at hl 0 rfl) ?_
    refine q_gI hx hb hT hown hK hR iqX6 vqX6 2 (by decide) (hT _ wfl_X6_25) hf dX6_readStars_103 (fun v24 hf => ?_)
    refine lv_iload_n hx hb dX6_readStars_106 rfl (lv_at hl 2 rfl) ?_
    obtain ⟨X25, hp, hf⟩ := q_b hf
    have hJ : ∀ (H : Heap) (locs : List Loc) (ls : Array Slot), qR D kz b0 X25 H → va_S (qA b0) s.heap H locs → H.size = sz → lv_has ls 4 [(3, .int v22)] → W p l e rmX6_readStars s m args below meth c H locs 0 0 Q (F0 m 176 ls []) := by
      intro H locs ls hR hS hz hl
      refine lv_iload_n hx hb dX6_readStars_176 rfl (lv_at hl 0 rfl) ?_
      subst hQ
      obtain ⟨h8, h9⟩ := Prod.mk.inj (Option.some.inj hf)
      exact q_iret hx hb hr hlocks hR hS hz h8 h9 dX6_readStars_177
    have hf := hp
    obtain ⟨J39, hJd, hf⟩ := q_lab hf
    have hJ149 : ∀ (_ : Unit), J39 () = some X25 → ∀ (H : Heap) (locs : List Loc) (ls : Array Slot), qR D kz b0 X23 H → va_S (qA b0) s.heap H locs → H.size = sz → lv_has ls 4 [(0, .ref a0), (3, .int v22)] → W p l e rmX6_readStars s m args below meth c H locs 0 0 Q (F0 m 149 ls []) := by
      intro _ hf H locs ls hR hS hz hl
      rw [hJd] at hf
      refine lv_aload_n hx hb dX6_readStars_149 rfl (lv_at hl 0 rfl) ?_
      refine lv_iconst (v := (1 : Int32)) hx hb dX6_readStars_150 (by decide) ?_
      refine lv_aload_n hx hb dX6_readStars_151 rfl (lv_at hl 0 rfl) ?_
      refine q_gI hx hb hT hown hK hR iqX6 vqX6 2 (by decide) (hT _ wfl_X6_25) hf dX6_readStars_152 (fun v26 hf => ?_)
      obtain ⟨X27, hc, hf⟩ := q_b hf
      refine q_callv (va_runV (As := [.int (1 : Int32), .int v26]) (rest := []) ⟨hx, hb, hml, hown, hT⟩ (mX6_fail l D kz b0 sz F X23 a0 (1 : Int32) v26 X27 hc) (cwV 2 hT (q_gV wco_X6_fail wml_X6_56 wim_X6_fail wse_X6_fail win_X6) rfl rfl rfl hdX6_fail ⟨Nat.le_of_ble_eq_true rfl, Nat.le_of_ble_eq_true rfl⟩) (q_preV vqX6 (fX6_fail_is hc) hR hK hz) rfl rfl hl.1 rfl (lv_room (Nat.le_of_ble_eq_true rfl)) dX6_readStars_155 ⟨Nat.le_of_ble_eq_true rfl, Nat.le_of_ble_eq_true rfl⟩) hS (fun H locs hR hS hz => ?_)
      refine lv_goto (tgt := 176) hx hb dX6_readStars_158 (by decide) ?_
      cases hf
      exact hJ _ _ _ hR hS hz (lv_sub hl [1] rfl)
    clear hJd
    refine lv_icmp_eq (tgt := 149) hx hb dX6_readStars_107 (by decide) (fun hc => ?_) (fun hc => ?_)
    · have hf := q_t hf hc
      exact hJ149 () hf _ _ _ hR hS hz (lv_sub hl [0, 3] rfl)
    · have hf := q_f hf hc
      refine lv_aload_n hx hb dX6_readStars_110 rfl (lv_at hl 0 rfl) ?_
      refine q_gI hx hb hT hown hK hR iqX6 vqX6 2 (by decide) (hT _ wfl_X6_25) hf dX6_readStars_111 (fun v28 hf => ?_)
      refine lv_aload_n hx hb dX6_readStars_114 rfl (lv_at hl 0 rfl) ?_
      refine q_gI hx hb hT hown hK hR iqX6 vqX6 1 (by decide) (hT _ wfl_X6_21) hf dX6_readStars_115 (fun v29 hf => ?_)
      obtain ⟨J38, hJd, hf⟩ := q_lab hf
      have hJ161 : ∀ (_ : Unit), J38 () = some X25 → ∀ (H : Heap) (locs : List Loc) (ls : Array Slot), qR D kz b0 X23 H → va_S (qA b0) s.heap H locs → H.size = sz → lv_has ls 4 [(0, .ref a0), (1, .ref a1), (2, .int v3), (3, .int v22)] → W p l e rmX6_readStars s m args below meth c H locs 0 0 Q (F0 m 161 ls []) := by
        intro _ hf H locs ls hR hS hz hl
        rw [hJd] at hf
        refine lv_aload_n hx hb dX6_readStars_161 rfl (lv_at hl 1 rfl) ?_
        refine lv_iload_n hx hb dX6_readStars_162 rfl (lv_at hl 3 rfl) ?_
        obtain ⟨v30, hc, hf⟩ := q_b hf
        refine q_calli (va_runV (As := [.int v22]) (rest := []) ⟨hx, hb, hml, hown, hT⟩ (mX0_houseOfStars l D kz b0 sz F X23 a1 v22 v30 hc) (cwV 1 hT (q_gV wco_X0_houseOfStars wml_X6_112 wim_X0_houseOfStars wse_X0_houseOfStars win_X0) rfl rfl rfl hdX0_houseOfStars ⟨Nat.le_of_ble_eq_true rfl, Nat.le_of_ble_eq_true rfl⟩) (q_preV vqX0 (fX0_houseOfStars_is hc) hR hK hz) rfl rfl hl.1 rfl (lv_room (Nat.le_of_ble_eq_true rfl)) dX6_readStars_163 ⟨Nat.le_of_ble_eq_true rfl, Nat.le_of_ble_eq_true rfl⟩) hS (fun H locs hR hS hz => ?_)
        refine lv_iconst (v := (-1 : Int32)) hx hb dX6_readStars_166 (by decide) ?_
        refine lv_icmp_eq (tgt := 176) hx hb dX6_readStars_167 (by decide) (fun hc => ?_) (fun hc => ?_)
        · have hf := q_t hf hc
          cases hf
          exact hJ _ _ _ hR hS hz (lv_sub hl [3] rfl)
        · have hf := q_f hf hc
          refine lv_aload_n hx hb dX6_readStars_170 rfl (lv_at hl 0 rfl) ?_
          refine lv_iconst (v := (4 : Int32)) hx hb dX6_readStars_171 (by decide) ?_
          refine lv_iload_n hx hb dX6_readStars_172 rfl (lv_at hl 2 rfl) ?_
          obtain ⟨X31, hc, hf⟩ := q_b hf
          refine q_callv (va_runV (As := [.int (4 : Int32), .int v3]) (rest := []) ⟨hx, hb, hml, hown, hT⟩ (mX6_fail l D kz b0 sz F X23 a0 (4 : Int32) v3 X31 hc) (cwV 2 hT (q_gV wco_X6_fail wml_X6_56 wim_X6_fail wse_X6_fail win_X6) rfl rfl rfl hdX6_fail ⟨Nat.le_of_ble_eq_true rfl, Nat.le_of_ble_eq_true rfl⟩) (q_preV vqX6 (fX6_fail_is hc) hR hK hz) rfl rfl hl.1 rfl (lv_room (Nat.le_of_ble_eq_true rfl)) dX6_readStars_173 ⟨Nat.le_of_ble_eq_true rfl, Nat.le_of_ble_eq_true rfl⟩) hS (fun H locs hR hS hz => ?_)
          cases hf
          exact hJ _ _ _ hR hS hz (lv_sub hl [3] rfl)
      clear hJd
      refine lv_icmp_ge (tgt := 161) hx hb dX6_readStars_118 (by decide) (fun hc => ?_) (fun hc => ?_)
      · have hf := q_t hf hc
        exact hJ161 () hf _ _ _ hR hS hz (lv_sub hl [0, 1, 2, 3] rfl)
      · have hf := q_f hf hc
        refine lv_aload_n hx hb dX6_readStars_121 rfl (lv_at hl 0 rfl) ?_
        refine q_gR hx hb hT hown hK hR iqX6 vqX6 0 (by decide) (hT _ wfl_X6_9) hf dX6_readStars_122 (fun v32 hf => ?_)
        refine lv_aload_n hx hb dX6_readStars_125 rfl (lv_at hl 0 rfl) ?_
        refine q_gI hx hb hT hown hK hR iqX6 vqX6 2 (by decide) (hT _ wfl_X6_25) hf dX6_readStars_126 (fun v33 hf => ?_)
        refine q_iald hx hb hK hR hf dX6_readStars_129 (fun v34 hf => ?_)
        refine lv_bipush (v := (97 : Int32)) hx hb dX6_readStars_130 (by decide) ?_
        refine lv_icmp_lt (tgt := 161) hx hb dX6_readStars_132 (by decide) (fun hc => ?_) (fun hc => ?_)
        · have hf := q_t hf hc
          exact hJ161 () hf _ _ _ hR hS hz (lv_sub hl [0, 1, 2, 3] rfl)
        · have hf := q_f hf hc
          refine lv_aload_n hx hb dX6_readStars_135 rfl (lv_at hl 0 rfl) ?_
          refine q_gR hx hb hT hown hK hR iqX6 vqX6 0 (by decide) (hT _ wfl_X6_9) hf dX6_readStars_136 (fun v35 hf => ?_)
          refine lv_aload_n hx hb dX6_readStars_139 rfl (lv_at hl 0 rfl) ?_
          refine q_gI hx hb hT hown hK hR iqX6 vqX6 2 (by decide) (hT _ wfl_X6_25) hf dX6_readStars_140 (fun v36 hf => ?_)
          refine q_iald hx hb hK hR hf dX6_readStars_143 (fun v37 hf => ?_)
          refine lv_bipush (v := (101 : Int32)) hx hb dX6_readStars_144 (by decide) ?_
          refine lv_icmp_gt (tgt := 161) hx hb dX6_readStars_146 (by decide) (fun hc => ?_) (fun hc => ?_)
          · have hf := q_t hf hc
            exact hJ161 () hf _ _ _ hR hS hz (lv_sub hl [0, 1, 2, 3] rfl)
          · have hf := q_f hf hc
            exact hJ149 () hf _ _ _ hR hS hz (lv_sub hl [0, 3] rfl)
  · have hf := q_f hf hc
    refine lv_iconst (v := (-1 : Int32)) hx hb dX6_readStars_7 (by decide) ?_
    subst hQ
    obtain ⟨h8, h9⟩ := Prod.mk.inj (Option.some.inj hf)
    exact q_iret hx hb hr hlocks hR hS hz h8 h9 dX6_readStars_8
/-! X6_readHouse -/
def fX6_readHouse (F : Nat) (X : qH) (a0 : Nat) (a1 : Nat) : Option (qH) :=
qIs 6 X a0 <|
(qgI X 0 a1 5).bind fun v1 =>
(if v1 < (8 : Int32) then (some (0 : Int32))
else (some (1 : Int32)) : Option Int32).bind fun v2 =>
(fX6_passWord F X a0 v2).bind fun X3 =>
(qgI X3 0 a1 0).bind fun v4 =>
qb2 (fX6_readNumber F X3 a0 (0 : Int32) (v4 - (1 : Int32))) fun v5 X6 =>
(fX0_houseOn F X6 a1 v5).bind fun v7 =>
(if v7 = (-1 : Int32) then (some X6)
else ((qgI X6 6 a0 3).bind fun v19 =>
(fX6_fail F X6 a0 (4 : Int32) v19).bind fun X20 =>
some X20) : Option qH).bind fun X8 =>
qb2 (fX6_readNumber F X8 a0 (1 : Int32) (9 : Int32)) fun v9 X10 =>
qb2 (fX6_readNumber F X10 a0 (0 : Int32) (9 : Int32)) fun v11 X12 =>
qb2 (fX6_readStars F X12 a0 a1) fun v13 X14 =>
(fX6_passEnd F X14 a0).bind fun X15 =>
(qgI X15 6 a0 4).bind fun v16 =>
(if v16 = (0 : Int32) then ((fX0_settle F X15 a1 v5 v9 v11 v13).bind fun X18 =>
some X18)
else (some X15) : Option qH).bind fun X17 =>
some X17
abbrev rmX6_readHouse : Room := { frames := 2, cells := 0, slots := 0, locals := 46 }
theorem fX6_readHouse_is {F : Nat} {X : qH} {a0 : Nat} {a1 : Nat} {r9 : qH} (h : fX6_readHouse F X a0 a1 = some r9) : ∃ fs, X a0 = some (.inr (6, fs)) := (qIs_spec h).1
theorem hdX6_readHouse : yX6_readHouse.cls = RX6 ∧ yX6_readHouse.cls ≠ "java/lang/invoke/MethodHandle" ∧ yX6_readHouse.cls ≠ "java/lang/invoke/VarHandle" ∧ (parseMethodDescriptor yX6_readHouse.desc).map (fun d => d.parameters.length) = some 1 := by decide +kernel
set_option maxHeartbeats 4000000 in
set_option maxRecDepth 100000 in
theorem mX6_readHouse (l : Launch) (D : va_G) (kz : Nat → Nat) (b0 sz F : Nat) (X : qH) (a0 : Nat) (a1 : Nat)  (Xr : qH) (hf : fX6_readHouse F X a0 a1 = some Xr) : Met l yX6_readHouse (qws yX6_readHouse cX6_readHouse 6 none) rmX6_readHouse (va_Pc [.ref a0, .ref a1] (qU D kz b0 sz X)) (va_Qv (fun (u : qH) => u = Xr) (fun u t => qO D kz b0 sz u t) (qA b0)) 0 0 (qA b0) := by
  refine q_start (by decide) (Nat.le_of_ble_eq_true rfl) ?_
  intro p e s m args below meth c hx hb hr hlocks hnm hml hown hT hR hK hz ls hl
  have hown : s.vm.findClass RX6 = some m.cls := hown
  have hl : lv_has ls 6 [(0, .ref a0), (1, .ref a1)] := hl
  have hS : va_S (qA b0) s.heap s.heap [] := va_S.rf
  obtain ⟨Q, hQ⟩ : ∃ Q, Q = MQ below (va_Qv (fun (u : qH) => u = Xr) (fun u t => qO D kz b0 sz u t) (qA b0)) args s 0 0 (qA b0) := ⟨_, rfl⟩
  rw [← hQ]
  unfold fX6_readHouse at hf
  obtain ⟨hthis, hf⟩ := qIs_spec hf
  refine lv_aload_n hx hb dX6_readHouse_0 rfl (lv_at hl 0 rfl) ?_
  refine lv_aload_n hx hb dX6_readHouse_1 rfl (lv_at hl 1 rfl) ?_
  refine q_gI hx hb hT hown hK hR iqX0 vqX0 5 (by decide) (hT _ wfl_X6_88) hf dX6_readHouse_2 (fun v1 hf => ?_)
  refine lv_bipush (v := (8 : Int32)) hx hb dX6_readHouse_5 (by decide) ?_
  obtain ⟨v2, hp, hf⟩ := q_b hf
  have hJ : ∀ (H : Heap) (locs : List Loc) (ls : Array Slot), qR D kz b0 X H → va_S (qA b0) s.heap H locs → H.size = sz → lv_has ls 6 [(0, .ref a0), (1, .ref a1)] → W p l e rmX6_readHouse s m args below meth c H locs 0 0 Q (F0 m 15 ls [.int v2, .ref a0]) := by
    intro H locs ls hR hS hz hl
    obtain ⟨X3, hc, hf⟩ := q_b hf
    refine q_callv (va_runV (As := [.int v2]) (rest := []) ⟨hx, hb, hml, hown, hT⟩ (mX6_passWord l D kz b0 sz F X a0 v2 X3 hc) (cwV 1 hT (q_gV wco_X6_passWord wml_X6_72 wim_X6_passWord wse_X6_passWord win_X6) rfl rfl rfl hdX6_passWord ⟨Nat.le_of_ble_eq_true rfl, Nat.le_of_ble_eq_true rfl⟩) (q_preV vqX6 (fX6_passWord_is hc) hR hK hz) rfl rfl hl.1 rfl (lv_room (Nat.le_of_ble_eq_true rfl)) dX6_readHouse_15 ⟨Nat.le_of_ble_eq_true rfl, Nat.le_of_ble_eq_true rfl⟩) hS (fun H locs hR hS hz => ?_)
    refine lv_aload_n hx hb dX6_readHouse_18 rfl (lv_at hl 0 rfl) ?_
    refine lv_iconst (v := (0 : Int32)) hx hb dX6_readHouse_19 (by decide) ?_
    refine lv_aload_n hx hb dX6_readHouse_20 rfl (lv_at hl 1 rfl) ?_
    refine q_gI hx hb hT hown hK hR iqX0 vqX0 0 (by decide) (hT _ wfl_X6_53) hf dX6_readHouse_21 (fun v4 hf => ?_)
    refine lv_iconst (v := (1 : Int32)) hx hb dX6_readHouse_24 (by decide) ?_
    refine lv_isub hx hb dX6_readHouse_25 ?_
    obtain ⟨v5, X6, hc, hf⟩ := q_b2 hf
    refine q_calli (va_runV (As := [.int (0 : Int32), .int (v4 - (1 : Int32))]) (rest := []) ⟨hx, hb, hml, hown, hT⟩ (mX6_readNumber l D kz b0 sz F X3 a0 (0 : Int32) (v4 - (1 : Int32)) v5 X6 hc) (cwV 2 hT (q_gV wco_X6_readNumber wml_X6_76 wim_X6_readNumber wse_X6_readNumber win_X6) rfl rfl rfl hdX6_readNumber ⟨Nat.le_of_ble_eq_true rfl, Nat.le_of_ble_eq_true rfl⟩) (q_preV vqX6 (fX6_readNumber_is hc) hR hK hz) rfl rfl hl.1 rfl (lv_room (Nat.le_of_ble_eq_true rfl)) dX6_readHouse_26 ⟨Nat.le_of_ble_eq_true rfl, Nat.le_of_ble_eq_true rfl⟩) hS (fun H locs hR hS hz => ?_)
    refine lv_istore_n (lv' := [(2, .int v5), (0, .ref a0), (1, .ref a1)]) hx hb dX6_readHouse_29 rfl hl (by decide) rfl (fun ls hl => ?_)
    refine lv_aload_n hx hb dX6_readHouse_30 rfl (lv_at hl 2 rfl) ?_
    refine lv_iload_n hx hb dX6_readHouse_31 rfl (lv_at hl 0 rfl) ?_
    obtain ⟨v7, hc, hf⟩ := q_b hf
    refine q_calli (va_runV (As := [.int v5]) (rest := []) ⟨hx, hb, hml, hown, hT⟩ (mX0_houseOn l D kz b0 sz F X6 a1 v5 v7 hc) (cwV 1 hT (q_gV wco_X0_houseOn wml_X6_91 wim_X0_houseOn wse_X0_houseOn win_X0) rfl rfl rfl hdX0_houseOn ⟨Nat.le_of_ble_eq_true rfl, Nat.le_of_ble_eq_true rfl⟩) (q_preV vqX0 (fX0_houseOn_is hc) hR hK hz) rfl rfl hl.1 rfl (lv_room (Nat.le_of_ble_eq_true rfl)) dX6_readHouse_32 ⟨Nat.le_of_ble_eq_true rfl, Nat.le_of_ble_eq_true rfl⟩) hS (fun H locs hR hS hz => ?_)
    refine lv_iconst (v := (-1 : Int32)) hx hb dX6_readHouse_35 (by decide) ?_
    obtain ⟨X8, hp, hf⟩ := q_b hf
    have hJ : ∀ (H : Heap) (locs : List Loc) (ls : Array Slot), qR D kz b0 X8 H → va_S (qA b0) s.heap H locs → H.size = sz → lv_has ls 6 [(0, .ref a0), (1, .ref a1), (2, .int v5)] → W p l e rmX6_readHouse s m args below meth c H locs 0 0 Q (F0 m 48 ls []) := by
      intro H locs ls hR hS hz hl
      refine lv_aload_n hx hb dX6_readHouse_48 rfl (lv_at hl 0 rfl) ?_
      refine lv_iconst (v := (1 : Int32)) hx hb dX6_readHouse_49 (by decide) ?_
      refine lv_bipush (v := (9 : Int32)) hx hb dX6_readHouse_50 (by decide) ?_
      obtain ⟨v9, X10, hc, hf⟩ := q_b2 hf
      refine q_calli (va_runV (As := [.int (1 : Int32), .int (9 : Int32)]) (rest := []) ⟨hx, hb, hml, hown, hT⟩ (mX6_readNumber l D kz b0 sz F X8 a0 (1 : Int32) (9 : Int32) v9 X10 hc) (cwV 2 hT (q_gV wco_X6_readNumber wml_X6_76 wim_X6_readNumber wse_X6_readNumber win_X6) rfl rfl rfl hdX6_readNumber ⟨Nat.le_of_ble_eq_true rfl, Nat.le_of_ble_eq_true rfl⟩) (q_preV vqX6 (fX6_readNumber_is hc) hR hK hz) rfl rfl hl.1 rfl (lv_room (Nat.le_of_ble_eq_true rfl)) dX6_readHouse_52 ⟨Nat.le_of_ble_eq_true rfl, Nat.le_of_ble_eq_true rfl⟩) hS (fun H locs hR hS hz => ?_)
      refine lv_istore_n (lv' := [(3, .int v9), (0, .ref a0), (1, .ref a1), (2, .int v5)]) hx hb dX6_readHouse_55 rfl hl (by decide) rfl (fun ls hl => ?_)
      refine lv_aload_n hx hb dX6_readHouse_56 rfl (lv_at hl 1 rfl) ?_
      refine lv_iconst (v := (0 : Int32)) hx hb dX6_readHouse_57 (by decide) ?_
      refine lv_bipush (v := (9 : Int32)) hx hb dX6_readHouse_58 (by decide) ?_
      obtain ⟨v11, X12, hc, hf⟩ := q_b2 hf
      refine q_calli (va_runV (As := [.int (0 : Int32), .int (9 : Int32)]) (rest := []) ⟨hx, hb, hml, hown, hT⟩ (mX6_readNumber l D kz b0 sz F X10 a0 (0 : Int32) (9 : Int32) v11 X12 hc) (cwV 2 hT (q_gV wco_X6_readNumber wml_X6_76 wim_X6_readNumber wse_X6_readNumber win_X6) rfl rfl rfl hdX6_readNumber ⟨Nat.le_of_ble_eq_true rfl, Nat.le_of_ble_eq_true rfl⟩) (q_preV vqX6 (fX6_readNumber_is hc) hR hK hz) rfl rfl hl.1 rfl (lv_room (Nat.le_of_ble_eq_true rfl)) dX6_readHouse_60 ⟨Nat.le_of_ble_eq_true rfl, Nat.le_of_ble_eq_true rfl⟩) hS (fun H locs hR hS hz => ?_)
      refine lv_istore (lv' := [(4, .int v11), (3, .int v9), (0, .ref a0), (1, .ref a1), (2, .int v5)]) hx hb dX6_readHouse_63 hl (by decide) rfl (fun ls hl => ?_)
      refine lv_aload_n hx hb dX6_readHouse_65 rfl (lv_at hl 2 rfl) ?_
      refine lv_aload_n hx hb dX6_readHouse_66 rfl (lv_at hl 3 rfl) ?_
      obtain ⟨v13, X14, hc, hf⟩ := q_b2 hf
      refine q_calli (va_runV (As := [.ref a1]) (rest := []) ⟨hx, hb, hml, hown, hT⟩ (mX6_readStars l D kz b0 sz F X12 a0 a1 v13 X14 hc) (cwV 1 hT (q_gV wco_X6_readStars wml_X6_98 wim_X6_readStars wse_X6_readStars win_X6) rfl rfl rfl hdX6_readStars ⟨Nat.le_of_ble_eq_true rfl, Nat.le_of_ble_eq_true rfl⟩) (q_preV vqX6 (fX6_readStars_is hc) hR hK hz) rfl rfl hl.1 rfl (lv_room (Nat.le_of_ble_eq_true rfl)) dX6_readHouse_67 ⟨Nat.le_of_ble_eq_true rfl, Nat.le_of_ble_eq_true rfl⟩) hS (fun H locs hR hS hz => ?_)
      refine lv_istore (lv' := [(5, .int v13), (4, .int v11), (3, .int v9), (0, .ref a0), (1, .ref a1), (2, .int v5)]) hx hb dX6_readHouse_70 hl (by decide) rfl (fun ls hl => ?_)
      refine lv_aload_n hx hb dX6_readHouse_72 rfl (lv_at hl 3 rfl) ?_
      obtain ⟨X15, hc, hf⟩ := q_b hf
      refine q_callv (va_runV (As := []) (rest := []) ⟨hx, hb, hml, hown, hT⟩ (mX6_passEnd l D kz b0 sz F X14 a0 X15 hc) (cwV 0 hT (q_gV wco_X6_passEnd wml_X6_79 wim_X6_passEnd wse_X6_passEnd win_X6) rfl rfl rfl hdX6_passEnd ⟨Nat.le_of_ble_eq_true rfl, Nat.le_of_ble_eq_true rfl⟩) (q_preV vqX6 (fX6_passEnd_is hc) hR hK hz) rfl rfl hl.1 rfl (lv_room (Nat.le_of_ble_eq_true rfl)) dX6_readHouse_73 ⟨Nat.le_of_ble_eq_true rfl, Nat.le_of_ble_eq_true rfl⟩) hS (fun H locs hR hS hz => ?_)
      refine lv_aload_n hx hb dX6_readHouse_76 rfl (lv_at hl 3 rfl) ?_
      refine q_gI hx hb hT hown hK hR iqX6 vqX6 4 (by decide) (hT _ wfl_X6_28) hf dX6_readHouse_77 (fun v16 hf => ?_)
      obtain ⟨X17, hp, hf⟩ := q_b hf
      have hJ : ∀ (H : Heap) (locs : List Loc) (ls : Array Slot), qR D kz b0 X17 H → va_S (qA b0) s.heap H locs → H.size = sz → lv_has ls 6 [] → W p l e rmX6_readHouse s m args below meth c H locs 0 0 Q (F0 m 93 ls []) := by
        intro H locs ls hR hS hz hl
        subst hQ
        exact q_vret hx hb hr hlocks hR hS hz (Option.some.inj hf) dX6_readHouse_93
      have hf := hp
      refine lv_if_ne (tgt := 93) hx hb dX6_readHouse_80 (by decide) (fun hc => ?_) (fun hc => ?_)
      · have hf := q_f hf hc
        cases hf
        exact hJ _ _ _ hR hS hz (lv_sub hl [] rfl)
      · have hf := q_t hf hc
        refine lv_aload_n hx hb dX6_readHouse_83 rfl (lv_at hl 4 rfl) ?_
        refine lv_iload_n hx hb dX6_readHouse_84 rfl (lv_at hl 5 rfl) ?_
        refine lv_iload_n hx hb dX6_readHouse_85 rfl (lv_at hl 2 rfl) ?_
        refine lv_iload hx hb dX6_readHouse_86 (lv_at hl 1 rfl) ?_
        refine lv_iload hx hb dX6_readHouse_88 (lv_at hl 0 rfl) ?_
        obtain ⟨X18, hc, hf⟩ := q_b hf
        refine q_callv (va_runV (As := [.int v5, .int v9, .int v11, .int v13]) (rest := []) ⟨hx, hb, hml, hown, hT⟩ (mX0_settle l D kz b0 sz F X15 a1 v5 v9 v11 v13 X18 hc) (cwV 4 hT (q_gV wco_X0_settle wml_X6_102 wim_X0_settle wse_X0_settle win_X0) rfl rfl rfl hdX0_settle ⟨Nat.le_of_ble_eq_true rfl, Nat.le_of_ble_eq_true rfl⟩) (q_preV vqX0 (fX0_settle_is hc) hR hK hz) rfl rfl hl.1 rfl (lv_room (Nat.le_of_ble_eq_true rfl)) dX6_readHouse_90 ⟨Nat.le_of_ble_eq_true rfl, Nat.le_of_ble_eq_true rfl⟩) hS (fun H locs hR hS hz => ?_)
        cases hf
        exact hJ _ _ _ hR hS hz (lv_sub hl [] rfl)
    have hf := hp
    refine lv_icmp_eq (tgt := 48) hx hb dX6_readHouse_36 (by decide) (fun hc => ?_) (fun hc => ?_)
    · have hf := q_t hf hc
      cases hf
      exact hJ _ _ _ hR hS hz (lv_sub hl [1, 2, 0] rfl)
    · have hf := q_f hf hc
      refine lv_aload_n hx hb dX6_readHouse_39 rfl (lv_at hl 1 rfl) ?_
      refine lv_iconst (v := (4 : Int32)) hx hb dX6_readHouse_40 (by decide) ?_
      refine lv_aload_n hx hb dX6_readHouse_41 rfl (lv_at hl 1 rfl) ?_
      refine q_gI hx hb hT hown hK hR iqX6 vqX6 3 (by decide) (hT _ wfl_X6_95) hf dX6_readHouse_42 (fun v19 hf => ?_)
      obtain ⟨X20, hc, hf⟩ := q_b hf
      refine q_callv (va_runV (As := [.int (4 : Int32), .int v19]) (rest := []) ⟨hx, hb, hml, hown, hT⟩ (mX6_fail l D kz b0 sz F X6 a0 (4 : Int32) v19 X20 hc) (cwV 2 hT (q_gV wco_X6_fail wml_X6_56 wim_X6_fail wse_X6_fail win_X6) rfl rfl rfl hdX6_fail ⟨Nat.le_of_ble_eq_true rfl, Nat.le_of_ble_eq_true rfl⟩) (q_preV vqX6 (fX6_fail_is hc) hR hK hz) rfl rfl hl.1 rfl (lv_room (Nat.le_of_ble_eq_true rfl)) dX6_readHouse_45 ⟨Nat.le_of_ble_eq_true rfl, Nat.le_of_ble_eq_true rfl⟩) hS (fun H locs hR hS hz => ?_)
      cases hf
      exact hJ _ _ _ hR hS hz (lv_sub hl [1, 2, 0] rfl)
  have hf := hp
  refine lv_icmp_lt (tgt := 14) hx hb dX6_readHouse_7 (by decide) (fun hc => ?_) (fun hc => ?_)
  · have hf := q_t hf hc
    refine lv_iconst (v := (0 : Int32)) hx hb dX6_readHouse_14 (by decide) ?_
    cases hf
    exact hJ _ _ _ hR hS hz (lv_sub hl [0, 1] rfl)
  · have hf := q_f hf hc
    refine lv_iconst (v := (1 : Int32)) hx hb dX6_readHouse_10 (by decide) ?_
    refine lv_goto (tgt := 15) hx hb dX6_readHouse_11 (by decide) ?_
    cases hf
    exact hJ _ _ _ hR hS hz (lv_sub hl [0, 1] rfl)
