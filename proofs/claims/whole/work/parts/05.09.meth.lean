/-! X10_light -/
def fX10_light_L68_B (F : Nat) (a0 : Nat) (a1 : Int32) (self0 : Int32 → Int32 → qH → Option (Int32 × qH)) (v15 : Int32) (v16 : Int32) (X17 : qH) : Option (Int32 × qH) :=
(qgI X17 9 a0 1).bind fun v18 =>
if v18 ≤ v16 then (some (v15, X17))
else ((if v16 = a1 then (some (0 : Int32))
else ((qgR X17 9 a0 8).bind fun v26 =>
(qaI X17 0 v26 ((11 : Int32) + v16)).bind fun v27 =>
if v27 < (0 : Int32) then (some (0 : Int32))
else ((qgR X17 9 a0 8).bind fun v28 =>
(qaI X17 0 v28 (2 : Int32)).bind fun v29 =>
(qgR X17 9 a0 8).bind fun v30 =>
(qaI X17 0 v30 ((11 : Int32) + v16)).bind fun v31 =>
if (1 : Int32) < (v29 - v31) then (some (0 : Int32))
else (some (1 : Int32)))) : Option Int32).bind fun v19 =>
qb2 (if v19 = (0 : Int32) then (some ((0 : Int32), X17))
else (qb2 (fX10_holds F X17 a0 a1 v16) fun v24 X25 =>
if v24 = (0 : Int32) then (some ((0 : Int32), X25))
else (some ((1 : Int32), X25)))) fun v20 X21 =>
qlt (v15 + v20) fun v22 =>
qlt (v16 + (1 : Int32)) fun v23 =>
self0 v22 v23 X21)
def fX10_light_L68 (F : Nat) (a0 : Nat) (a1 : Int32) : Nat → Int32 → Int32 → qH → Option (Int32 × qH)
  | 0, _, _, _ => none
  | n + 1, v15, v16, X17 => fX10_light_L68_B F a0 a1 (fX10_light_L68 F a0 a1 n) v15 v16 X17
def fX10_light (F : Nat) (X : qH) (a0 : Nat) (a1 : Int32) : Option (Int32 × qH) :=
qIs 9 X a0 <|
(fX10_isHouse F X a0 a1).bind fun v1 =>
if v1 = (0 : Int32) then (some ((-1000000001 : Int32), X))
else ((qgR X 9 a0 8).bind fun v2 =>
(qaI X 0 v2 ((3 : Int32) + a1)).bind fun v3 =>
if v3 = (0 : Int32) then (some ((-1000000003 : Int32), X))
else ((qgR X 9 a0 8).bind fun v4 =>
(qaI X 0 v4 ((11 : Int32) + a1)).bind fun v5 =>
(qgR X 9 a0 8).bind fun v6 =>
(qaI X 0 v6 (2 : Int32)).bind fun v7 =>
if v5 = v7 then (some ((-1000000003 : Int32), X))
else ((fX10_remember F X a0).bind fun X8 =>
(qgR X8 9 a0 8).bind fun v9 =>
qlt ((3 : Int32) + a1) fun v10 =>
(qaI X8 0 v9 v10).bind fun v11 =>
qlt (v11 - (1 : Int32)) fun v12 =>
(qaS X8 0 v9 v10 v12).bind fun X13 =>
(fX10_lightNow F X13 a0 a1).bind fun X14 =>
qb2 (fX10_light_L68 F a0 a1 F (0 : Int32) (0 : Int32) X14) fun v32 X33 =>
some (v32, X33))))
abbrev rmX10_light : Room := { frames := 3, cells := 0, slots := 0, locals := 70 }
theorem fX10_light_is {F : Nat} {X : qH} {a0 : Nat} {a1 : Int32} {r9 : Int32 × qH} (h : fX10_light F X a0 a1 = some r9) : ∃ fs, X a0 = some (.inr (9, fs)) := (qIs_spec h).1
theorem hdX10_light : yX10_light.cls = RX10 ∧ yX10_light.cls ≠ "java/lang/invoke/MethodHandle" ∧ yX10_light.cls ≠ "java/lang/invoke/VarHandle" ∧ (parseMethodDescriptor yX10_light.desc).map (fun d => d.parameters.length) = some 1 := by decide +kernel
set_option maxHeartbeats 4000000 in
set_option maxRecDepth 100000 in
theorem mX10_light (l : Launch) (D : va_G) (kz : Nat → Nat) (b0 sz F : Nat) (X : qH) (a0 : Nat) (a1 : Int32) (r : Int32) (Xr : qH) (hf : fX10_light F X a0 a1 = some (r, Xr)) : Met l yX10_light (qws yX10_light cX10_light 5 (some .int)) rmX10_light (va_Pc [.ref a0, .int a1] (qU D kz b0 sz X)) (va_Qi (fun (r' : Int32) (u : qH) => r' = r ∧ u = Xr) (fun u t => qO D kz b0 sz u t) (qA b0)) 0 0 (qA b0) := by
  refine q_start (by decide) (Nat.le_of_ble_eq_true rfl) ?_
  intro p e s m args below meth c hx hb hr hlocks hnm hml hown hT hR hK hz ls hl
  have hown : s.vm.findClass RX10 = some m.cls := hown
  have hl : lv_has ls 5 [(0, .ref a0), (1, .int a1)] := hl
  have hS : va_S (qA b0) s.heap s.heap [] := va_S.rf
  obtain ⟨Q, hQ⟩ : ∃ Q, Q = MQ below (va_Qi (fun (r' : Int32) (u : qH) => r' = r ∧ u = Xr) (fun u t => qO D kz b0 sz u t) (qA b0)) args s 0 0 (qA b0) := ⟨_, rfl⟩
  rw [← hQ]
  unfold fX10_light at hf
  obtain ⟨hthis, hf⟩ := qIs_spec hf
  refine lv_aload_n hx hb dX10_light_0 rfl (lv_at hl 0 rfl) ?_
  refine lv_iload_n hx hb dX10_light_1 rfl (lv_at hl 1 rfl) ?_
  obtain ⟨v1, hc, hf⟩ := q_b hf
  refine q_calli (va_runV (As := [.int a1]) (rest := []) ⟨hx, hb, hml, hown, hT⟩ (mX10_isHouse l D kz b0 sz F X a0 a1 v1 hc) (cwV 1 hT (q_gV wco_X10_isHouse wml_X10_204 wim_X10_isHouse wse_X10_isHouse win_X10) rfl rfl rfl hdX10_isHouse ⟨Nat.le_of_ble_eq_true rfl, Nat.le_of_ble_eq_true rfl⟩) (q_preV vqX10 (fX10_isHouse_is hc) hR hK hz) rfl rfl hl.1 rfl (lv_room (Nat.le_of_ble_eq_true rfl)) dX10_light_2 ⟨Nat.le_of_ble_eq_true rfl, Nat.le_of_ble_eq_true rfl⟩) hS (fun H locs hR hS hz => ?_)
  refine lv_if_ne (tgt := 11) hx hb dX10_light_5 (by decide) (fun hc => ?_) (fun hc => ?_)
  · have hf := q_f hf hc
    refine lv_aload_n hx hb dX10_light_11 rfl (lv_at hl 0 rfl) ?_
    refine q_gR hx hb hT hown hK hR iqX10 vqX10 8 (by decide) (hT _ wfl_X10_29) hf dX10_light_12 (fun v2 hf => ?_)
    refine lv_iconst (v := (3 : Int32)) hx hb dX10_light_15 (by decide) ?_
    refine lv_iload_n hx hb dX10_light_16 rfl (lv_at hl 1 rfl) ?_
    refine lv_iadd hx hb dX10_light_17 ?_
    refine q_iald hx hb hK hR hf dX10_light_18 (fun v3 hf => ?_)
    refine lv_if_eq (tgt := 40) hx hb dX10_light_19 (by decide) (fun hc => ?_) (fun hc => ?_)
    · have hf := q_t hf hc
      refine lv_ldc (v := (-1000000003 : Int32)) hx hb hown (hT _ wk_X10_232) dX10_light_40 ?_
      subst hQ
      obtain ⟨h8, h9⟩ := Prod.mk.inj (Option.some.inj hf)
      exact q_iret hx hb hr hlocks hR hS hz h8 h9 dX10_light_42
    · have hf := q_f hf hc
      refine lv_aload_n hx hb dX10_light_22 rfl (lv_at hl 0 rfl) ?_
      refine q_gR hx hb hT hown hK hR iqX10 vqX10 8 (by decide) (hT _ wfl_X10_29) hf dX10_light_23 (fun v4 hf => ?_)
      refine lv_bipush (v := (11 : Int32)) hx hb dX10_light_26 (by decide) ?_
      refine lv_iload_n hx hb dX10_light_28 rfl (lv_at hl 1 rfl) ?_
      refine lv_iadd hx hb dX10_light_29 ?_
      refine q_iald hx hb hK hR hf dX10_light_30 (fun v5 hf => ?_)
      refine lv_aload_n hx hb dX10_light_31 rfl (lv_at hl 0 rfl) ?_
      refine q_gR hx hb hT hown hK hR iqX10 vqX10 8 (by decide) (hT _ wfl_X10_29) hf dX10_light_32 (fun v6 hf => ?_)
      refine lv_iconst (v := (2 : Int32)) hx hb dX10_light_35 (by decide) ?_
      refine q_iald hx hb hK hR hf dX10_light_36 (fun v7 hf => ?_)
      refine lv_icmp_ne (tgt := 43) hx hb dX10_light_37 (by decide) (fun hc => ?_) (fun hc => ?_)
      · have hf := q_f hf hc
        refine lv_aload_n hx hb dX10_light_43 rfl (lv_at hl 0 rfl) ?_
        obtain ⟨X8, hc, hf⟩ := q_b hf
        refine q_callv (va_runV (As := []) (rest := []) ⟨hx, hb, hml, hown, hT⟩ (mX10_remember l D kz b0 sz F X a0 X8 hc) (cwV 0 hT (q_gV wco_X10_remember wml_X10_233 wim_X10_remember wse_X10_remember win_X10) rfl rfl rfl hdX10_remember ⟨Nat.le_of_ble_eq_true rfl, Nat.le_of_ble_eq_true rfl⟩) (q_preV vqX10 (fX10_remember_is hc) hR hK hz) rfl rfl hl.1 rfl (lv_room (Nat.le_of_ble_eq_true rfl)) dX10_light_44 ⟨Nat.le_of_ble_eq_true rfl, Nat.le_of_ble_eq_true rfl⟩) hS (fun H locs hR hS hz => ?_)
        refine lv_aload_n hx hb dX10_light_47 rfl (lv_at hl 0 rfl) ?_
        refine q_gR hx hb hT hown hK hR iqX10 vqX10 8 (by decide) (hT _ wfl_X10_29) hf dX10_light_48 (fun v9 hf => ?_)
        refine lv_iconst (v := (3 : Int32)) hx hb dX10_light_51 (by decide) ?_
        refine lv_iload_n hx hb dX10_light_52 rfl (lv_at hl 1 rfl) ?_
        refine lv_iadd hx hb dX10_light_53 ?_
        refine lv_topi (fun v10 ev10 => ?_)
        have hf := q_lt ev10 hf
        refine lv_dup2_11 hx hb dX10_light_54 rfl rfl ?_
        refine q_iald hx hb hK hR hf dX10_light_55 (fun v11 hf => ?_)
        refine lv_iconst (v := (1 : Int32)) hx hb dX10_light_56 (by decide) ?_
        refine lv_isub hx hb dX10_light_57 ?_
        refine lv_topi (fun v12 ev12 => ?_)
        have hf := q_lt ev12 hf
        refine q_iast hx hb hK hR hS hz hf dX10_light_58 (fun X13 hf H locs hR hS hz => ?_)
        refine lv_aload_n hx hb dX10_light_59 rfl (lv_at hl 0 rfl) ?_
        refine lv_iload_n hx hb dX10_light_60 rfl (lv_at hl 1 rfl) ?_
        obtain ⟨X14, hc, hf⟩ := q_b hf
        refine q_callv (va_runV (As := [.int a1]) (rest := []) ⟨hx, hb, hml, hown, hT⟩ (mX10_lightNow l D kz b0 sz F X13 a0 a1 X14 hc) (cwV 1 hT (q_gV wco_X10_lightNow wml_X10_236 wim_X10_lightNow wse_X10_lightNow win_X10) rfl rfl rfl hdX10_lightNow ⟨Nat.le_of_ble_eq_true rfl, Nat.le_of_ble_eq_true rfl⟩) (q_preV vqX10 (fX10_lightNow_is hc) hR hK hz) rfl rfl hl.1 rfl (lv_room (Nat.le_of_ble_eq_true rfl)) dX10_light_61 ⟨Nat.le_of_ble_eq_true rfl, Nat.le_of_ble_eq_true rfl⟩) hS (fun H locs hR hS hz => ?_)
        refine lv_iconst (v := (0 : Int32)) hx hb dX10_light_64 (by decide) ?_
        refine lv_istore_n (lv' := [(2, .int (0 : Int32)), (0, .ref a0), (1, .int a1)]) hx hb dX10_light_65 rfl hl (by decide) rfl (fun ls hl => ?_)
        refine lv_iconst (v := (0 : Int32)) hx hb dX10_light_66 (by decide) ?_
        refine lv_istore_n (lv' := [(3, .int (0 : Int32)), (2, .int (0 : Int32)), (0, .ref a0), (1, .int a1)]) hx hb dX10_light_67 rfl hl (by decide) rfl (fun ls hl => ?_)
        obtain ⟨v32, X33, ho, hf⟩ := q_b2 hf
        have hL : ∀ (n : Nat) (v15 : Int32) (v16 : Int32) (X17 : qH) (out : Int32 × qH), fX10_light_L68 F a0 a1 n v15 v16 X17 = some out → (∀ (v32 : Int32) (X33 : qH), out = (v32, X33) → ∀ (H : Heap) (locs : List Loc) (ls : Array Slot), qR D kz b0 X33 H → va_S (qA b0) s.heap H locs → H.size = sz → lv_has ls 5 [(2, .int v32)] → W p l e rmX10_light s m args below meth c H locs 0 0 Q (F0 m 148 ls [])) → ∀ (H : Heap) (locs : List Loc) (ls : Array Slot), qR D kz b0 X17 H → va_S (qA b0) s.heap H locs → H.size = sz → lv_has ls 5 [(0, .ref a0), (1, .int a1), (2, .int v15), (3, .int v16)] → W p l e rmX10_light s m args below meth c H locs 0 0 Q (F0 m 68 ls []) := by
          intro n9
          induction n9 with
          | zero =>
            intro v15 v16 X17 out hf
            exact absurd (show none = some out from hf) (by simp)
          | succ n9 ih0 =>
            intro v15 v16 X17 out hf hex H locs ls hR hS hz hl
            have hf : fX10_light_L68_B F a0 a1 (fX10_light_L68 F a0 a1 n9) v15 v16 X17 = some out := hf
            unfold fX10_light_L68_B at hf
            refine lv_iload_n hx hb dX10_light_68 rfl (lv_at hl 3 rfl) ?_
            refine lv_aload_n hx hb dX10_light_69 rfl (lv_at hl 0 rfl) ?_
            refine q_gI hx hb hT hown hK hR iqX10 vqX10 1 (by decide) (hT _ wfl_X10_102) hf dX10_light_70 (fun v18 hf => ?_)
            refine lv_icmp_ge (tgt := 148) hx hb dX10_light_73 (by decide) (fun hc => ?_) (fun hc => ?_)
            · have hf := q_t hf hc
              exact hex _ _ (Option.some.inj hf).symm _ _ _ hR hS hz (lv_sub hl [2] rfl)
            · have hf := q_f hf hc
              refine lv_iload_n hx hb dX10_light_76 rfl (lv_at hl 3 rfl) ?_
              refine lv_iload_n hx hb dX10_light_77 rfl (lv_at hl 1 rfl) ?_
              obtain ⟨v19, hp, hf⟩ := q_b hf
              have hJ : ∀ (H : Heap) (locs : List Loc) (ls : Array Slot), qR D kz b0 X17 H → va_S (qA b0) s.heap H locs → H.size = sz → lv_has ls 5 [(0, .ref a0), (1, .int a1), (2, .int v15), (3, .int v16)] → W p l e rmX10_light s m args below meth c H locs 0 0 Q (F0 m 118 ls [.int v19]) := by
                intro H locs ls hR hS hz hl
                refine lv_istore (lv' := [(4, .int v19), (0, .ref a0), (1, .int a1), (2, .int v15), (3, .int v16)]) hx hb dX10_light_118 hl (by decide) rfl (fun ls hl => ?_)
                refine lv_iload_n hx hb dX10_light_120 rfl (lv_at hl 3 rfl) ?_
                refine lv_iload hx hb dX10_light_121 (lv_at hl 0 rfl) ?_
                obtain ⟨v20, X21, hp, hf⟩ := q_b2 hf
                have hJ : ∀ (H : Heap) (locs : List Loc) (ls : Array Slot), qR D kz b0 X21 H → va_S (qA b0) s.heap H locs → H.size = sz → lv_has ls 5 [(0, .ref a0), (1, .int a1), (3, .int v16)] → W p l e rmX10_light s m args below meth c H locs 0 0 Q (F0 m 140 ls [.int v20, .int v15]) := by
                  intro H locs ls hR hS hz hl
                  refine lv_iadd hx hb dX10_light_140 ?_
                  refine lv_topi (fun v22 ev22 => ?_)
                  have hf := q_lt ev22 hf
                  refine lv_istore_n (lv' := [(2, .int v22), (0, .ref a0), (1, .int a1), (3, .int v16)]) hx hb dX10_light_141 rfl hl (by decide) rfl (fun ls hl => ?_)
                  obtain ⟨v23, ev23⟩ : ∃ y : Int32, y = (v16 + (1 : Int32)) := ⟨_, rfl⟩
                  have hf := q_lt ev23 hf
                  refine lv_iinc (v := v23) (lv' := [(3, .int v23), (2, .int v22), (0, .ref a0), (1, .int a1)]) hx hb dX10_light_142 hl (k := 3) rfl (by rw [ev23]; rfl) (by decide) rfl (fun ls hl => ?_)
                  refine lv_goto (tgt := 68) hx hb dX10_light_145 (by decide) ?_
                  exact ih0 _ _ _ out hf hex _ _ _ hR hS hz (lv_sub hl [2, 3, 1, 0] rfl)
                have hf := hp
                refine lv_if_eq (tgt := 139) hx hb dX10_light_123 (by decide) (fun hc => ?_) (fun hc => ?_)
                · have hf := q_t hf hc
                  refine lv_iconst (v := (0 : Int32)) hx hb dX10_light_139 (by decide) ?_
                  cases hf
                  exact hJ _ _ _ hR hS hz (lv_sub hl [1, 2, 4] rfl)
                · have hf := q_f hf hc
                  refine lv_aload_n hx hb dX10_light_126 rfl (lv_at hl 1 rfl) ?_
                  refine lv_iload_n hx hb dX10_light_127 rfl (lv_at hl 2 rfl) ?_
                  refine lv_iload_n hx hb dX10_light_128 rfl (lv_at hl 4 rfl) ?_
                  obtain ⟨v24, X25, hc, hf⟩ := q_b2 hf
                  refine q_calli (va_runV (As := [.int a1, .int v16]) (rest := [.int v15]) ⟨hx, hb, hml, hown, hT⟩ (mX10_holds l D kz b0 sz F X17 a0 a1 v16 v24 X25 hc) (cwV 2 hT (q_gV wco_X10_holds wml_X10_240 wim_X10_holds wse_X10_holds win_X10) rfl rfl rfl hdX10_holds ⟨Nat.le_of_ble_eq_true rfl, Nat.le_of_ble_eq_true rfl⟩) (q_preV vqX10 (fX10_holds_is hc) hR hK hz) rfl rfl hl.1 rfl (lv_room (Nat.le_of_ble_eq_true rfl)) dX10_light_129 ⟨Nat.le_of_ble_eq_true rfl, Nat.le_of_ble_eq_true rfl⟩) hS (fun H locs hR hS hz => ?_)
                  refine lv_if_eq (tgt := 139) hx hb dX10_light_132 (by decide) (fun hc => ?_) (fun hc => ?_)
                  · have hf := q_t hf hc
                    refine lv_iconst (v := (0 : Int32)) hx hb dX10_light_139 (by decide) ?_
                    cases hf
                    exact hJ _ _ _ hR hS hz (lv_sub hl [1, 2, 4] rfl)
                  · have hf := q_f hf hc
                    refine lv_iconst (v := (1 : Int32)) hx hb dX10_light_135 (by decide) ?_
                    refine lv_goto (tgt := 140) hx hb dX10_light_136 (by decide) ?_
                    cases hf
                    exact hJ _ _ _ hR hS hz (lv_sub hl [1, 2, 4] rfl)
              have hf := hp
              refine lv_icmp_eq (tgt := 117) hx hb dX10_light_78 (by decide) (fun hc => ?_) (fun hc => ?_)
              · have hf := q_t hf hc
                refine lv_iconst (v := (0 : Int32)) hx hb dX10_light_117 (by decide) ?_
                cases hf
                exact hJ _ _ _ hR hS hz (lv_sub hl [0, 1, 2, 3] rfl)
              · have hf := q_f hf hc
                refine lv_aload_n hx hb dX10_light_81 rfl (lv_at hl 0 rfl) ?_
                refine q_gR hx hb hT hown hK hR iqX10 vqX10 8 (by decide) (hT _ wfl_X10_29) hf dX10_light_82 (fun v26 hf => ?_)
                refine lv_bipush (v := (11 : Int32)) hx hb dX10_light_85 (by decide) ?_
                refine lv_iload_n hx hb dX10_light_87 rfl (lv_at hl 3 rfl) ?_
                refine lv_iadd hx hb dX10_light_88 ?_
                refine q_iald hx hb hK hR hf dX10_light_89 (fun v27 hf => ?_)
                refine lv_if_lt (tgt := 117) hx hb dX10_light_90 (by decide) (fun hc => ?_) (fun hc => ?_)
                · have hf := q_t hf hc
                  refine lv_iconst (v := (0 : Int32)) hx hb dX10_light_117 (by decide) ?_
                  cases hf
                  exact hJ _ _ _ hR hS hz (lv_sub hl [0, 1, 2, 3] rfl)
                · have hf := q_f hf hc
                  refine lv_aload_n hx hb dX10_light_93 rfl (lv_at hl 0 rfl) ?_
                  refine q_gR hx hb hT hown hK hR iqX10 vqX10 8 (by decide) (hT _ wfl_X10_29) hf dX10_light_94 (fun v28 hf => ?_)
                  refine lv_iconst (v := (2 : Int32)) hx hb dX10_light_97 (by decide) ?_
                  refine q_iald hx hb hK hR hf dX10_light_98 (fun v29 hf => ?_)
                  refine lv_aload_n hx hb dX10_light_99 rfl (lv_at hl 0 rfl) ?_
                  refine q_gR hx hb hT hown hK hR iqX10 vqX10 8 (by decide) (hT _ wfl_X10_29) hf dX10_light_100 (fun v30 hf => ?_)
                  refine lv_bipush (v := (11 : Int32)) hx hb dX10_light_103 (by decide) ?_
                  refine lv_iload_n hx hb dX10_light_105 rfl (lv_at hl 3 rfl) ?_
                  refine lv_iadd hx hb dX10_light_106 ?_
                  refine q_iald hx hb hK hR hf dX10_light_107 (fun v31 hf => ?_)
                  refine lv_isub hx hb dX10_light_108 ?_
                  refine lv_iconst (v := (1 : Int32)) hx hb dX10_light_109 (by decide) ?_
                  refine lv_icmp_gt (tgt := 117) hx hb dX10_light_110 (by decide) (fun hc => ?_) (fun hc => ?_)
                  · have hf := q_t hf hc
                    refine lv_iconst (v := (0 : Int32)) hx hb dX10_light_117 (by decide) ?_
                    cases hf
                    exact hJ _ _ _ hR hS hz (lv_sub hl [0, 1, 2, 3] rfl)
                  · have hf := q_f hf hc
                    refine lv_iconst (v := (1 : Int32)) hx hb dX10_light_113 (by decide) ?_
                    refine lv_goto (tgt := 118) hx hb dX10_light_114 (by decide) ?_
                    cases hf
                    exact hJ _ _ _ hR hS hz (lv_sub hl [0, 1, 2, 3] rfl)
        refine hL F _ _ _ _ ho (fun z0 z1 h9 => ?_) _ _ _ hR hS hz (lv_sub hl [2, 3, 1, 0] rfl)
        cases h9
        intro H locs ls hR hS hz hl
        refine lv_iload_n hx hb dX10_light_148 rfl (lv_at hl 0 rfl) ?_
        subst hQ
        obtain ⟨h8, h9⟩ := Prod.mk.inj (Option.some.inj hf)
        exact q_iret hx hb hr hlocks hR hS hz h8 h9 dX10_light_149
      · have hf := q_t hf hc
        refine lv_ldc (v := (-1000000003 : Int32)) hx hb hown (hT _ wk_X10_232) dX10_light_40 ?_
        subst hQ
        obtain ⟨h8, h9⟩ := Prod.mk.inj (Option.some.inj hf)
        exact q_iret hx hb hr hlocks hR hS hz h8 h9 dX10_light_42
  · have hf := q_t hf hc
    refine lv_ldc (v := (-1000000001 : Int32)) hx hb hown (hT _ wk_X10_207) dX10_light_8 ?_
    subst hQ
    obtain ⟨h8, h9⟩ := Prod.mk.inj (Option.some.inj hf)
    exact q_iret hx hb hr hlocks hR hS hz h8 h9 dX10_light_10
/-! X10_minutesRefused -/
def fX10_minutesRefused (F : Nat) (X : qH) (a0 : Nat) (a1 : Int32) : Option (Int32) :=
qIs 9 X a0 <|
(fX10_in F X ((a1).toInt64) (1 : Int64) (99 : Int64)).bind fun v1 =>
if v1 = (0 : Int32) then (some (-1000000002 : Int32))
else ((qgI X 9 a0 0).bind fun v2 =>
(if v2 = (0 : Int32) then (some (-1000000003 : Int32))
else ((qgR X 9 a0 8).bind fun v4 =>
(qaI X 0 v4 (2 : Int32)).bind fun v5 =>
if v5 ≤ (90000 : Int32) then (some (0 : Int32))
else (some (-1000000004 : Int32))) : Option Int32).bind fun v3 =>
some v3)
abbrev rmX10_minutesRefused : Room := { frames := 1, cells := 0, slots := 0, locals := 25 }
theorem fX10_minutesRefused_is {F : Nat} {X : qH} {a0 : Nat} {a1 : Int32} {r9 : Int32} (h : fX10_minutesRefused F X a0 a1 = some r9) : ∃ fs, X a0 = some (.inr (9, fs)) := (qIs_spec h).1
theorem hdX10_minutesRefused : yX10_minutesRefused.cls = RX10 ∧ yX10_minutesRefused.cls ≠ "java/lang/invoke/MethodHandle" ∧ yX10_minutesRefused.cls ≠ "java/lang/invoke/VarHandle" ∧ (parseMethodDescriptor yX10_minutesRefused.desc).map (fun d => d.parameters.length) = some 1 := by decide +kernel
set_option maxHeartbeats 4000000 in
set_option maxRecDepth 100000 in
theorem mX10_minutesRefused (l : Launch) (D : va_G) (kz : Nat → Nat) (b0 sz F : Nat) (X : qH) (a0 : Nat) (a1 : Int32) (r : Int32) (hf : fX10_minutesRefused F X a0 a1 = some r) : Met l yX10_minutesRefused (qws yX10_minutesRefused cX10_minutesRefused 2 (some .int)) rmX10_minutesRefused (va_Pc [.ref a0, .int a1] (qU D kz b0 sz X)) (va_Qi (fun (r' : Int32) (u : qH) => r' = r ∧ u = X) (fun u t => qO D kz b0 sz u t) (qA b0)) 0 0 (qA b0) := by
  refine q_start (by decide) (Nat.le_of_ble_eq_true rfl) ?_
  intro p e s m args below meth c hx hb hr hlocks hnm hml hown hT hR hK hz ls hl
  have hown : s.vm.findClass RX10 = some m.cls := hown
  have hl : lv_has ls 2 [(0, .ref a0), (1, .int a1)] := hl
  have hS : va_S (qA b0) s.heap s.heap [] := va_S.rf
  obtain ⟨Q, hQ⟩ : ∃ Q, Q = MQ below (va_Qi (fun (r' : Int32) (u : qH) => r' = r ∧ u = X) (fun u t => qO D kz b0 sz u t) (qA b0)) args s 0 0 (qA b0) := ⟨_, rfl⟩
  rw [← hQ]
  unfold fX10_minutesRefused at hf
  obtain ⟨hthis, hf⟩ := qIs_spec hf
  refine lv_iload_n hx hb dX10_minutesRefused_0 rfl (lv_at hl 1 rfl) ?_
  refine lv_i2l hx hb dX10_minutesRefused_1 rfl ?_
  refine lv_lconst (v := (1 : Int64)) hx hb dX10_minutesRefused_2 (by decide) ?_
  refine lv_ldc2 (v := (99 : Int64)) hx hb hown (hT _ wkl_X10_243) dX10_minutesRefused_3 ?_
  obtain ⟨v1, hc, hf⟩ := q_b hf
  refine q_calli (va_runS (As := [.long ((a1).toInt64), .long (1 : Int64), .long (99 : Int64)]) (rest := []) ⟨hx, hb, hml, hown, hT⟩ (mX10_in l D kz b0 sz F X ((a1).toInt64) (1 : Int64) (99 : Int64) v1 hc) (va_cwS 3 hT (q_gS wco_X10_in wml_X10_105 wst_X10_in win_X10) rfl rfl rfl hdX10_in ⟨Nat.le_of_ble_eq_true rfl, Nat.le_of_ble_eq_true rfl⟩) (q_preS hR hK hz) rfl rfl hl.1 rfl (lv_room (Nat.le_of_ble_eq_true rfl)) dX10_minutesRefused_6 ⟨Nat.le_of_ble_eq_true rfl, Nat.le_of_ble_eq_true rfl⟩) hS (fun H locs hR hS hz => ?_)
  refine lv_if_ne (tgt := 15) hx hb dX10_minutesRefused_9 (by decide) (fun hc => ?_) (fun hc => ?_)
  · have hf := q_f hf hc
    refine lv_aload_n hx hb dX10_minutesRefused_15 rfl (lv_at hl 0 rfl) ?_
    refine q_gI hx hb hT hown hK hR iqX10 vqX10 0 (by decide) (hT _ wfl_X10_99) hf dX10_minutesRefused_16 (fun v2 hf => ?_)
    obtain ⟨v3, hp, hf⟩ := q_b hf
    have hJ : ∀ (H : Heap) (locs : List Loc) (ls : Array Slot), qR D kz b0 X H → va_S (qA b0) s.heap H locs → H.size = sz → lv_has ls 2 [] → W p l e rmX10_minutesRefused s m args below meth c H locs 0 0 Q (F0 m 44 ls [.int v3]) := by
      intro H locs ls hR hS hz hl
      subst hQ
      exact q_iret hx hb hr hlocks hR hS hz (Option.some.inj hf) rfl dX10_minutesRefused_44
    have hf := hp
    refine lv_if_ne (tgt := 27) hx hb dX10_minutesRefused_19 (by decide) (fun hc => ?_) (fun hc => ?_)
    · have hf := q_f hf hc
      refine lv_aload_n hx hb dX10_minutesRefused_27 rfl (lv_at hl 0 rfl) ?_
      refine q_gR hx hb hT hown hK hR iqX10 vqX10 8 (by decide) (hT _ wfl_X10_29) hf dX10_minutesRefused_28 (fun v4 hf => ?_)
      refine lv_iconst (v := (2 : Int32)) hx hb dX10_minutesRefused_31 (by decide) ?_
      refine q_iald hx hb hK hR hf dX10_minutesRefused_32 (fun v5 hf => ?_)
      refine lv_ldc (v := (90000 : Int32)) hx hb hown (hT _ wk_X10_245) dX10_minutesRefused_33 ?_
      refine lv_icmp_le (tgt := 43) hx hb dX10_minutesRefused_35 (by decide) (fun hc => ?_) (fun hc => ?_)
      · have hf := q_t hf hc
        refine lv_iconst (v := (0 : Int32)) hx hb dX10_minutesRefused_43 (by decide) ?_
        cases hf
        exact hJ _ _ _ hR hS hz (lv_sub hl [] rfl)
      · have hf := q_f hf hc
        refine lv_ldc (v := (-1000000004 : Int32)) hx hb hown (hT _ wk_X10_115) dX10_minutesRefused_38 ?_
        refine lv_goto (tgt := 44) hx hb dX10_minutesRefused_40 (by decide) ?_
        cases hf
        exact hJ _ _ _ hR hS hz (lv_sub hl [] rfl)
    · have hf := q_t hf hc
      refine lv_ldc (v := (-1000000003 : Int32)) hx hb hown (hT _ wk_X10_232) dX10_minutesRefused_22 ?_
      refine lv_goto (tgt := 44) hx hb dX10_minutesRefused_24 (by decide) ?_
      cases hf
      exact hJ _ _ _ hR hS hz (lv_sub hl [] rfl)
  · have hf := q_t hf hc
    refine lv_ldc (v := (-1000000002 : Int32)) hx hb hown (hT _ wk_X10_111) dX10_minutesRefused_12 ?_
    subst hQ
    exact q_iret hx hb hr hlocks hR hS hz (Option.some.inj hf) rfl dX10_minutesRefused_14
/-! X10_minute -/
def fX10_minute (F : Nat) (X : qH) (a0 : Nat) (a1 : Int32) : Option (Int32 × qH) :=
qIs 9 X a0 <|
(fX10_minutesRefused F X a0 a1).bind fun v1 =>
if v1 = (0 : Int32) then ((fX10_remember F X a0).bind fun X2 =>
(qgR X2 9 a0 8).bind fun v3 =>
(qaI X2 0 v3 (2 : Int32)).bind fun v4 =>
qlt (v4 + a1) fun v5 =>
(qaS X2 0 v3 (2 : Int32) v5).bind fun X6 =>
(qgR X6 9 a0 8).bind fun v7 =>
(qaI X6 0 v7 (2 : Int32)).bind fun v8 =>
some (v8, X6))
else (some (v1, X))
abbrev rmX10_minute : Room := { frames := 2, cells := 0, slots := 0, locals := 46 }
theorem fX10_minute_is {F : Nat} {X : qH} {a0 : Nat} {a1 : Int32} {r9 : Int32 × qH} (h : fX10_minute F X a0 a1 = some r9) : ∃ fs, X a0 = some (.inr (9, fs)) := (qIs_spec h).1
theorem hdX10_minute : yX10_minute.cls = RX10 ∧ yX10_minute.cls ≠ "java/lang/invoke/MethodHandle" ∧ yX10_minute.cls ≠ "java/lang/invoke/VarHandle" ∧ (parseMethodDescriptor yX10_minute.desc).map (fun d => d.parameters.length) = some 1 := by decide +kernel
set_option maxHeartbeats 4000000 in
set_option maxRecDepth 100000 in
theorem mX10_minute (l : Launch) (D : va_G) (kz : Nat → Nat) (b0 sz F : Nat) (X : qH) (a0 : Nat) (a1 : Int32) (r : Int32) (Xr : qH) (hf : fX10_minute F X a0 a1 = some (r, Xr)) : Met l yX10_minute (qws yX10_minute cX10_minute 3 (some .int)) rmX10_minute (va_Pc [.ref a0, .int a1] (qU D kz b0 sz X)) (va_Qi (fun (r' : Int32) (u : qH) => r' = r ∧ u = Xr) (fun u t => qO D kz b0 sz u t) (qA b0)) 0 0 (qA b0) := by
  refine q_start (by decide) (Nat.le_of_ble_eq_true rfl) ?_
  intro p e s m args below meth c hx hb hr hlocks hnm hml hown hT hR hK hz ls hl
  have hown : s.vm.findClass RX10 = some m.cls := hown
  have hl : lv_has ls 3 [(0, .ref a0), (1, .int a1)] := hl
  have hS : va_S (qA b0) s.heap s.heap [] := va_S.rf
  obtain ⟨Q, hQ⟩ : ∃ Q, Q = MQ below (va_Qi (fun (r' : Int32) (u : qH) => r' = r ∧ u = Xr) (fun u t => qO D kz b0 sz u t) (qA b0)) args s 0 0 (qA b0) := ⟨_, rfl⟩
  rw [← hQ]
  unfold fX10_minute at hf
  obtain ⟨hthis, hf⟩ := qIs_spec hf
  refine lv_aload_n hx hb dX10_minute_0 rfl (lv_at hl 0 rfl) ?_
  refine lv_iload_n hx hb dX10_minute_1 rfl (lv_at hl 1 rfl) ?_
  obtain ⟨v1, hc, hf⟩ := q_b hf
  refine q_calli (va_runV (As := [.int a1]) (rest := []) ⟨hx, hb, hml, hown, hT⟩ (mX10_minutesRefused l D kz b0 sz F X a0 a1 v1 hc) (cwV 1 hT (q_gV wco_X10_minutesRefused wml_X10_246 wim_X10_minutesRefused wse_X10_minutesRefused win_X10) rfl rfl rfl hdX10_minutesRefused ⟨Nat.le_of_ble_eq_true rfl, Nat.le_of_ble_eq_true rfl⟩) (q_preV vqX10 (fX10_minutesRefused_is hc) hR hK hz) rfl rfl hl.1 rfl (lv_room (Nat.le_of_ble_eq_true rfl)) dX10_minute_2 ⟨Nat.le_of_ble_eq_true rfl, Nat.le_of_ble_eq_true rfl⟩) hS (fun H locs hR hS hz => ?_)
  refine lv_istore_n (lv' := [(2, .int v1), (0, .ref a0), (1, .int a1)]) hx hb dX10_minute_5 rfl hl (by decide) rfl (fun ls hl => ?_)
  refine lv_iload_n hx hb dX10_minute_6 rfl (lv_at hl 0 rfl) ?_
  refine lv_if_eq (tgt := 12) hx hb dX10_minute_7 (by decide) (fun hc => ?_) (fun hc => ?_)
  · have hf := q_t hf hc
    refine lv_aload_n hx hb dX10_minute_12 rfl (lv_at hl 1 rfl) ?_
    obtain ⟨X2, hc, hf⟩ := q_b hf
    refine q_callv (va_runV (As := []) (rest := []) ⟨hx, hb, hml, hown, hT⟩ (mX10_remember l D kz b0 sz F X a0 X2 hc) (cwV 0 hT (q_gV wco_X10_remember wml_X10_233 wim_X10_remember wse_X10_remember win_X10) rfl rfl rfl hdX10_remember ⟨Nat.le_of_ble_eq_true rfl, Nat.le_of_ble_eq_true rfl⟩) (q_preV vqX10 (fX10_remember_is hc) hR hK hz) rfl rfl hl.1 rfl (lv_room (Nat.le_of_ble_eq_true rfl)) dX10_minute_13 ⟨Nat.le_of_ble_eq_true rfl, Nat.le_of_ble_eq_true rfl⟩) hS (fun H locs hR hS hz => ?_)
    refine lv_aload_n hx hb dX10_minute_16 rfl (lv_at hl 1 rfl) ?_
    refine q_gR hx hb hT hown hK hR iqX10 vqX10 8 (by decide) (hT _ wfl_X10_29) hf dX10_minute_17 (fun v3 hf => ?_)
    refine lv_iconst (v := (2 : Int32)) hx hb dX10_minute_20 (by decide) ?_
    refine lv_dup2_11 hx hb dX10_minute_21 rfl rfl ?_
    refine q_iald hx hb hK hR hf dX10_minute_22 (fun v4 hf => ?_)
    refine lv_iload_n hx hb dX10_minute_23 rfl (lv_at hl 2 rfl) ?_
    refine lv_iadd hx hb dX10_minute_24 ?_
    refine lv_topi (fun v5 ev5 => ?_)
    have hf := q_lt ev5 hf
    refine q_iast hx hb hK hR hS hz hf dX10_minute_25 (fun X6 hf H locs hR hS hz => ?_)
    refine lv_aload_n hx hb dX10_minute_26 rfl (lv_at hl 1 rfl) ?_
    refine q_gR hx hb hT hown hK hR iqX10 vqX10 8 (by decide) (hT _ wfl_X10_29) hf dX10_minute_27 (fun v7 hf => ?_)
    refine lv_iconst (v := (2 : Int32)) hx hb dX10_minute_30 (by decide) ?_
    refine q_iald hx hb hK hR hf dX10_minute_31 (fun v8 hf => ?_)
    subst hQ
    obtain ⟨h8, h9⟩ := Prod.mk.inj (Option.some.inj hf)
    exact q_iret hx hb hr hlocks hR hS hz h8 h9 dX10_minute_32
  · have hf := q_f hf hc
    refine lv_iload_n hx hb dX10_minute_10 rfl (lv_at hl 0 rfl) ?_
    subst hQ
    obtain ⟨h8, h9⟩ := Prod.mk.inj (Option.some.inj hf)
    exact q_iret hx hb hr hlocks hR hS hz h8 h9 dX10_minute_11
/-! X10_fog -/
def fX10_fog (F : Nat) (X : qH) (a0 : Nat) (a1 : Int32) : Option (Int32 × qH) :=
qIs 9 X a0 <|
(fX10_in F X ((a1).toInt64) (0 : Int64) (20 : Int64)).bind fun v1 =>
if v1 = (0 : Int32) then (some ((-1000000002 : Int32), X))
else ((qgI X 9 a0 0).bind fun v2 =>
if v2 = (0 : Int32) then (some ((-1000000003 : Int32), X))
else ((fX10_remember F X a0).bind fun X3 =>
(qgR X3 9 a0 8).bind fun v4 =>
(qaI X3 0 v4 (0 : Int32)).bind fun v5 =>
(qgR X3 9 a0 8).bind fun v6 =>
(qaS X3 0 v6 (0 : Int32) a1).bind fun X7 =>
some (v5, X7)))
abbrev rmX10_fog : Room := { frames := 1, cells := 0, slots := 0, locals := 25 }
theorem fX10_fog_is {F : Nat} {X : qH} {a0 : Nat} {a1 : Int32} {r9 : Int32 × qH} (h : fX10_fog F X a0 a1 = some r9) : ∃ fs, X a0 = some (.inr (9, fs)) := (qIs_spec h).1
theorem hdX10_fog : yX10_fog.cls = RX10 ∧ yX10_fog.cls ≠ "java/lang/invoke/MethodHandle" ∧ yX10_fog.cls ≠ "java/lang/invoke/VarHandle" ∧ (parseMethodDescriptor yX10_fog.desc).map (fun d => d.parameters.length) = some 1 := by decide +kernel
set_option maxHeartbeats 4000000 in
set_option maxRecDepth 100000 in
theorem mX10_fog (l : Launch) (D : va_G) (kz : Nat → Nat) (b0 sz F : Nat) (X : qH) (a0 : Nat) (a1 : Int32) (r : Int32) (Xr : qH) (hf : fX10_fog F X a0 a1 = some (r, Xr)) : Met l yX10_fog (qws yX10_fog cX10_fog 3 (some .int)) rmX10_fog (va_Pc [.ref a0, .int a1] (qU D kz b0 sz X)) (va_Qi (fun (r' : Int32) (u : qH) => r' = r ∧ u = Xr) (fun u t => qO D kz b0 sz u t) (qA b0)) 0 0 (qA b0) := by
  refine q_start (by decide) (Nat.le_of_ble_eq_true rfl) ?_
  intro p e s m args below meth c hx hb hr hlocks hnm hml hown hT hR hK hz ls hl
  have hown : s.vm.findClass RX10 = some m.cls := hown
  have hl : lv_has ls 3 [(0, .ref a0), (1, .int a1)] := hl
  have hS : va_S (qA b0) s.heap s.heap [] := va_S.rf
  obtain ⟨Q, hQ⟩ : ∃ Q, Q = MQ below (va_Qi (fun (r' : Int32) (u : qH) => r' = r ∧ u = Xr) (fun u t => qO D kz b0 sz u t) (qA b0)) args s 0 0 (qA b0) := ⟨_, rfl⟩
  rw [← hQ]
  unfold fX10_fog at hf
  obtain ⟨hthis, hf⟩ := qIs_spec hf
  refine lv_iload_n hx hb dX10_fog_0 rfl (lv_at hl 1 rfl) ?_
  refine lv_i2l hx hb dX10_fog_1 rfl ?_
  refine lv_lconst (v := (0 : Int64)) hx hb dX10_fog_2 (by decide) ?_
  refine lv_ldc2 (v := (20 : Int64)) hx hb hown (hT _ wkl_X10_249) dX10_fog_3 ?_
  obtain ⟨v1, hc, hf⟩ := q_b hf
  refine q_calli (va_runS (As := [.long ((a1).toInt64), .long (0 : Int64), .long (20 : Int64)]) (rest := []) ⟨hx, hb, hml, hown, hT⟩ (mX10_in l D kz b0 sz F X ((a1).toInt64) (0 : Int64) (20 : Int64) v1 hc) (va_cwS 3 hT (q_gS wco_X10_in wml_X10_105 wst_X10_in win_X10) rfl rfl rfl hdX10_in ⟨Nat.le_of_ble_eq_true rfl, Nat.le_of_ble_eq_true rfl⟩) (q_preS hR hK hz) rfl rfl hl.1 rfl (lv_room (Nat.le_of_ble_eq_true rfl)) dX10_fog_6 ⟨Nat.le_of_ble_eq_true rfl, Nat.le_of_ble_eq_true rfl⟩) hS (fun H locs hR hS hz => ?_)
  refine lv_if_ne (tgt := 15) hx hb dX10_fog_9 (by decide) (fun hc => ?_) (fun hc => ?_)
  · have hf := q_f hf hc
    refine lv_aload_n hx hb dX10_fog_15 rfl (lv_at hl 0 rfl) ?_
    refine q_gI hx hb hT hown hK hR iqX10 vqX10 0 (by decide) (hT _ wfl_X10_99) hf dX10_fog_16 (fun v2 hf => ?_)
    refine lv_if_ne (tgt := 25) hx hb dX10_fog_19 (by decide) (fun hc => ?_) (fun hc => ?_)
    · have hf := q_f hf hc
      refine lv_aload_n hx hb dX10_fog_25 rfl (lv_at hl 0 rfl) ?_
      obtain ⟨X3, hc, hf⟩ := q_b hf
      refine q_callv (va_runV (As := []) (rest := []) ⟨hx, hb, hml, hown, hT⟩ (mX10_remember l D kz b0 sz F X a0 X3 hc) (cwV 0 hT (q_gV wco_X10_remember wml_X10_233 wim_X10_remember wse_X10_remember win_X10) rfl rfl rfl hdX10_remember ⟨Nat.le_of_ble_eq_true rfl, Nat.le_of_ble_eq_true rfl⟩) (q_preV vqX10 (fX10_remember_is hc) hR hK hz) rfl rfl hl.1 rfl (lv_room (Nat.le_of_ble_eq_true rfl)) dX10_fog_26 ⟨Nat.le_of_ble_eq_true rfl, Nat.le_of_ble_eq_true rfl⟩) hS (fun H locs hR hS hz => ?_)
      refine lv_aload_n hx hb dX10_fog_29 rfl (lv_at hl 0 rfl) ?_
      refine q_gR hx hb hT hown hK hR iqX10 vqX10 8 (by decide) (hT _ wfl_X10_29) hf dX10_fog_30 (fun v4 hf => ?_)
      refine lv_iconst (v := (0 : Int32)) hx hb dX10_fog_33 (by decide) ?_
      refine q_iald hx hb hK hR hf dX10_fog_34 (fun v5 hf => ?_)
      refine lv_istore_n (lv' := [(2, .int v5), (0, .ref a0), (1, .int a1)]) hx hb dX10_fog_35 rfl hl (by decide) rfl (fun ls hl => ?_)
      refine lv_aload_n hx hb dX10_fog_36 rfl (lv_at hl 1 rfl) ?_
      refine q_gR hx hb hT hown hK hR iqX10 vqX10 8 (by decide) (hT _ wfl_X10_29) hf dX10_fog_37 (fun v6 hf => ?_)
      refine lv_iconst (v := (0 : Int32)) hx hb dX10_fog_40 (by decide) ?_
      refine lv_iload_n hx hb dX10_fog_41 rfl (lv_at hl 2 rfl) ?_
      refine q_iast hx hb hK hR hS hz hf dX10_fog_42 (fun X7 hf H locs hR hS hz => ?_)
      refine lv_iload_n hx hb dX10_fog_43 rfl (lv_at hl 0 rfl) ?_
      subst hQ
      obtain ⟨h8, h9⟩ := Prod.mk.inj (Option.some.inj hf)
      exact q_iret hx hb hr hlocks hR hS hz h8 h9 dX10_fog_44
    · have hf := q_t hf hc
      refine lv_ldc (v := (-1000000003 : Int32)) hx hb hown (hT _ wk_X10_232) dX10_fog_22 ?_
      subst hQ
      obtain ⟨h8, h9⟩ := Prod.mk.inj (Option.some.inj hf)
      exact q_iret hx hb hr hlocks hR hS hz h8 h9 dX10_fog_24
  · have hf := q_t hf hc
    refine lv_ldc (v := (-1000000002 : Int32)) hx hb hown (hT _ wk_X10_111) dX10_fog_12 ?_
    subst hQ
    obtain ⟨h8, h9⟩ := Prod.mk.inj (Option.some.inj hf)
    exact q_iret hx hb hr hlocks hR hS hz h8 h9 dX10_fog_14
/-! X10_wind -/
def fX10_wind (F : Nat) (X : qH) (a0 : Nat) (a1 : Int32) : Option (Int32 × qH) :=
qIs 9 X a0 <|
(fX10_in F X ((a1).toInt64) (-5 : Int64) (5 : Int64)).bind fun v1 =>
if v1 = (0 : Int32) then (some ((-1000000002 : Int32), X))
else ((qgI X 9 a0 0).bind fun v2 =>
if v2 = (0 : Int32) then (some ((-1000000003 : Int32), X))
else ((fX10_remember F X a0).bind fun X3 =>
(qgR X3 9 a0 8).bind fun v4 =>
(qaI X3 0 v4 (1 : Int32)).bind fun v5 =>
(qgR X3 9 a0 8).bind fun v6 =>
(qaS X3 0 v6 (1 : Int32) a1).bind fun X7 =>
some ((v5 + (5 : Int32)), X7)))
abbrev rmX10_wind : Room := { frames := 1, cells := 0, slots := 0, locals := 25 }
theorem fX10_wind_is {F : Nat} {X : qH} {a0 : Nat} {a1 : Int32} {r9 : Int32 × qH} (h : fX10_wind F X a0 a1 = some r9) : ∃ fs, X a0 = some (.inr (9, fs)) := (qIs_spec h).1
theorem hdX10_wind : yX10_wind.cls = RX10 ∧ yX10_wind.cls ≠ "java/lang/invoke/MethodHandle" ∧ yX10_wind.cls ≠ "java/lang/invoke/VarHandle" ∧ (parseMethodDescriptor yX10_wind.desc).map (fun d => d.parameters.length) = some 1 := by decide +kernel
set_option maxHeartbeats 4000000 in
set_option maxRecDepth 100000 in
theorem mX10_wind (l : Launch) (D : va_G) (kz : Nat → Nat) (b0 sz F : Nat) (X : qH) (a0 : Nat) (a1 : Int32) (r : Int32) (Xr : qH) (hf : fX10_wind F X a0 a1 = some (r, Xr)) : Met l yX10_wind (qws yX10_wind cX10_wind 3 (some .int)) rmX10_wind (va_Pc [.ref a0, .int a1] (qU D kz b0 sz X)) (va_Qi (fun (r' : Int32) (u : qH) => r' = r ∧ u = Xr) (fun u t => qO D kz b0 sz u t) (qA b0)) 0 0 (qA b0) := by
  refine q_start (by decide) (Nat.le_of_ble_eq_true rfl) ?_
  intro p e s m args below meth c hx hb hr hlocks hnm hml hown hT hR hK hz ls hl
  have hown : s.vm.findClass RX10 = some m.cls := hown
  have hl : lv_has ls 3 [(0, .ref a0), (1, .int a1)] := hl
  have hS : va_S (qA b0) s.heap s.heap [] := va_S.rf
  obtain ⟨Q, hQ⟩ : ∃ Q, Q = MQ below (va_Qi (fun (r' : Int32) (u : qH) => r' = r ∧ u = Xr) (fun u t => qO D kz b0 sz u t) (qA b0)) args s 0 0 (qA b0) := ⟨_, rfl⟩
  rw [← hQ]
  unfold fX10_wind at hf
  obtain ⟨hthis, hf⟩ := qIs_spec hf
  refine lv_iload_n hx hb dX10_wind_0 rfl (lv_at hl 1 rfl) ?_
  refine lv_i2l hx hb dX10_wind_1 rfl ?_
  refine lv_ldc2 (v := (-5 : Int64)) hx hb hown (hT _ wkl_X10_251) dX10_wind_2 ?_
  refine lv_ldc2 (v := (5 : Int64)) hx hb hown (hT _ wkl_X10_253) dX10_wind_5 ?_
  obtain ⟨v1, hc, hf⟩ := q_b hf
  refine q_calli (va_runS (As := [.long ((a1).toInt64), .long (-5 : Int64), .long (5 : Int64)]) (rest := []) ⟨hx, hb, hml, hown, hT⟩ (mX10_in l D kz b0 sz F X ((a1).toInt64) (-5 : Int64) (5 : Int64) v1 hc) (va_cwS 3 hT (q_gS wco_X10_in wml_X10_105 wst_X10_in win_X10) rfl rfl rfl hdX10_in ⟨Nat.le_of_ble_eq_true rfl, Nat.le_of_ble_eq_true rfl⟩) (q_preS hR hK hz) rfl rfl hl.1 rfl (lv_room (Nat.le_of_ble_eq_true rfl)) dX10_wind_8 ⟨Nat.le_of_ble_eq_true rfl, Nat.le_of_ble_eq_true rfl⟩) hS (fun H locs hR hS hz => ?_)
  refine lv_if_ne (tgt := 17) hx hb dX10_wind_11 (by decide) (fun hc => ?_) (fun hc => ?_)
  · have hf := q_f hf hc
    refine lv_aload_n hx hb dX10_wind_17 rfl (lv_at hl 0 rfl) ?_
    refine q_gI hx hb hT hown hK hR iqX10 vqX10 0 (by decide) (hT _ wfl_X10_99) hf dX10_wind_18 (fun v2 hf => ?_)
    refine lv_if_ne (tgt := 27) hx hb dX10_wind_21 (by decide) (fun hc => ?_) (fun hc => ?_)
    · have hf := q_f hf hc
      refine lv_aload_n hx hb dX10_wind_27 rfl (lv_at hl 0 rfl) ?_
      obtain ⟨X3, hc, hf⟩ := q_b hf
      refine q_callv (va_runV (As := []) (rest := []) ⟨hx, hb, hml, hown, hT⟩ (mX10_remember l D kz b0 sz F X a0 X3 hc) (cwV 0 hT (q_gV wco_X10_remember wml_X10_233 wim_X10_remember wse_X10_remember win_X10) rfl rfl rfl hdX10_remember ⟨Nat.le_of_ble_eq_true rfl, Nat.le_of_ble_eq_true rfl⟩) (q_preV vqX10 (fX10_remember_is hc) hR hK hz) rfl rfl hl.1 rfl (lv_room (Nat.le_of_ble_eq_true rfl)) dX10_wind_28 ⟨Nat.le_of_ble_eq_true rfl, Nat.le_of_ble_eq_true rfl⟩) hS (fun H locs hR hS hz => ?_)
      refine lv_aload_n hx hb dX10_wind_31 rfl (lv_at hl 0 rfl) ?_
      refine q_gR hx hb hT hown hK hR iqX10 vqX10 8 (by decide) (hT _ wfl_X10_29) hf dX10_wind_32 (fun v4 hf => ?_)
      refine lv_iconst (v := (1 : Int32)) hx hb dX10_wind_35 (by decide) ?_
      refine q_iald hx hb hK hR hf dX10_wind_36 (fun v5 hf => ?_)
      refine lv_istore_n (lv' := [(2, .int v5), (0, .ref a0), (1, .int a1)]) hx hb dX10_wind_37 rfl hl (by decide) rfl (fun ls hl => ?_)
      refine lv_aload_n hx hb dX10_wind_38 rfl (lv_at hl 1 rfl) ?_
      refine q_gR hx hb hT hown hK hR iqX10 vqX10 8 (by decide) (hT _ wfl_X10_29) hf dX10_wind_39 (fun v6 hf => ?_)
      refine lv_iconst (v := (1 : Int32)) hx hb dX10_wind_42 (by decide) ?_
      refine lv_iload_n hx hb dX10_wind_43 rfl (lv_at hl 2 rfl) ?_
      refine q_iast hx hb hK hR hS hz hf dX10_wind_44 (fun X7 hf H locs hR hS hz => ?_)
      refine lv_iload_n hx hb dX10_wind_45 rfl (lv_at hl 0 rfl) ?_
      refine lv_iconst (v := (5 : Int32)) hx hb dX10_wind_46 (by decide) ?_
      refine lv_iadd hx hb dX10_wind_47 ?_
      subst hQ
      obtain ⟨h8, h9⟩ := Prod.mk.inj (Option.some.inj hf)
      exact q_iret hx hb hr hlocks hR hS hz h8 h9 dX10_wind_48
    · have hf := q_t hf hc
      refine lv_ldc (v := (-1000000003 : Int32)) hx hb hown (hT _ wk_X10_232) dX10_wind_24 ?_
      subst hQ
      obtain ⟨h8, h9⟩ := Prod.mk.inj (Option.some.inj hf)
      exact q_iret hx hb hr hlocks hR hS hz h8 h9 dX10_wind_26
  · have hf := q_t hf hc
    refine lv_ldc (v := (-1000000002 : Int32)) hx hb hown (hT _ wk_X10_111) dX10_wind_14 ?_
    subst hQ
    obtain ⟨h8, h9⟩ := Prod.mk.inj (Option.some.inj hf)
    exact q_iret hx hb hr hlocks hR hS hz h8 h9 dX10_wind_16
/-! X10_draw -/
def fX10_draw (F : Nat) (X : qH) (a0 : Nat) (a1 : Int32) : Option (Int32 × qH) :=
qIs 9 X a0 <|
(qgI X 9 a0 9).bind fun v1 =>
qlt (((((((v1).toInt64) * (1103515245 : Int64)) + (12345 : Int64)) - ((((v1).toInt64) * (1103515245 : Int64)) + (12345 : Int64)) / (2147483648 : Int64) * (2147483648 : Int64))).toInt32) fun v2 =>
(qpI X 9 a0 9 v2).bind fun X3 =>
(qgI X3 9 a0 9).bind fun v4 =>
qnz a1 <|
some (((v4 / (65536 : Int32)) - (v4 / (65536 : Int32)) / a1 * a1), X3)
abbrev rmX10_draw : Room := { frames := 0, cells := 0, slots := 0, locals := 0 }
theorem fX10_draw_is {F : Nat} {X : qH} {a0 : Nat} {a1 : Int32} {r9 : Int32 × qH} (h : fX10_draw F X a0 a1 = some r9) : ∃ fs, X a0 = some (.inr (9, fs)) := (qIs_spec h).1
theorem hdX10_draw : yX10_draw.cls = RX10 ∧ yX10_draw.cls ≠ "java/lang/invoke/MethodHandle" ∧ yX10_draw.cls ≠ "java/lang/invoke/VarHandle" ∧ (parseMethodDescriptor yX10_draw.desc).map (fun d => d.parameters.length) = some 1 := by decide +kernel
set_option maxHeartbeats 4000000 in
set_option maxRecDepth 100000 in
theorem mX10_draw (l : Launch) (D : va_G) (kz : Nat → Nat) (b0 sz F : Nat) (X : qH) (a0 : Nat) (a1 : Int32) (r : Int32) (Xr : qH) (hf : fX10_draw F X a0 a1 = some (r, Xr)) : Met l yX10_draw (qws yX10_draw cX10_draw 2 (some .int)) rmX10_draw (va_Pc [.ref a0, .int a1] (qU D kz b0 sz X)) (va_Qi (fun (r' : Int32) (u : qH) => r' = r ∧ u = Xr) (fun u t => qO D kz b0 sz u t) (qA b0)) 0 0 (qA b0) := by
  refine q_start (by decide) (Nat.le_of_ble_eq_true rfl) ?_
  intro p e s m args below meth c hx hb hr hlocks hnm hml hown hT hR hK hz ls hl
  have hown : s.vm.findClass RX10 = some m.cls := hown
  have hl : lv_has ls 2 [(0, .ref a0), (1, .int a1)] := hl
  have hS : va_S (qA b0) s.heap s.heap [] := va_S.rf
  obtain ⟨Q, hQ⟩ : ∃ Q, Q = MQ below (va_Qi (fun (r' : Int32) (u : qH) => r' = r ∧ u = Xr) (fun u t => qO D kz b0 sz u t) (qA b0)) args s 0 0 (qA b0) := ⟨_, rfl⟩
  rw [← hQ]
  unfold fX10_draw at hf
  obtain ⟨hthis, hf⟩ := qIs_spec hf
  refine lv_aload_n hx hb dX10_draw_0 rfl (lv_at hl 0 rfl) ?_
  refine lv_aload_n hx hb dX10_draw_1 rfl (lv_at hl 0 rfl) ?_
  refine q_gI hx hb hT hown hK hR iqX10 vqX10 9 (by decide) (hT _ wfl_X10_255) hf dX10_draw_2 (fun v1 hf => ?_)
  refine lv_i2l hx hb dX10_draw_5 rfl ?_
  refine lv_ldc2 (v := (1103515245 : Int64)) hx hb hown (hT _ wkl_X10_258) dX10_draw_6 ?_
  refine lv_lmul hx hb dX10_draw_9 ?_
  refine lv_ldc2 (v := (12345 : Int64)) hx hb hown (hT _ wkl_X10_260) dX10_draw_10 ?_
  refine lv_ladd hx hb dX10_draw_13 ?_
  refine lv_ldc2 (v := (2147483648 : Int64)) hx hb hown (hT _ wkl_X10_262) dX10_draw_14 ?_
  refine lv_lrem hx hb dX10_draw_17 (by decide) ?_
  refine lv_l2i hx hb dX10_draw_18 rfl ?_
  refine lv_topi (fun v2 ev2 => ?_)
  have hf := q_lt ev2 hf
  refine q_pI hx hb hT hown hK hR hS hz iqX10 vqX10 tyX10_ok nmX10 9 (by decide) (hT _ wfl_X10_255) rfl rfl hf dX10_draw_19 (fun X3 hf H locs hR hS hz => ?_)
  refine lv_aload_n hx hb dX10_draw_22 rfl (lv_at hl 0 rfl) ?_
  refine q_gI hx hb hT hown hK hR iqX10 vqX10 9 (by decide) (hT _ wfl_X10_255) hf dX10_draw_23 (fun v4 hf => ?_)
  refine lv_ldcw (v := (65536 : Int32)) hx hb hown (hT _ wk_X10_264) dX10_draw_26 ?_
  refine lv_idiv hx hb dX10_draw_29 (by decide) ?_
  refine lv_iload_n hx hb dX10_draw_30 rfl (lv_at hl 1 rfl) ?_
  obtain ⟨hn5, hf⟩ := qnz_spec hf
  refine lv_irem hx hb dX10_draw_31 hn5 ?_
  subst hQ
  obtain ⟨h8, h9⟩ := Prod.mk.inj (Option.some.inj hf)
  exact q_iret hx hb hr hlocks hR hS hz h8 h9 dX10_draw_32
/-! X10_drift -/
def fX10_drift_L18_B (F : Nat) (a0 : Nat) (a1 : Int32) (self0 : Int32 → qH → Option (qH)) (v3 : Int32) (X4 : qH) : Option (qH) :=
if a1 ≤ v3 then (some X4)
else (qb2 (fX10_draw F X4 a0 (3 : Int32)) fun v5 X6 =>
(if v5 = (0 : Int32) then ((qgR X6 9 a0 8).bind fun v13 =>
qb2 (fX10_draw F X6 a0 (21 : Int32)) fun v14 X15 =>
(qaS X15 0 v13 (0 : Int32) v14).bind fun X16 =>
some X16)
else (if v5 = (1 : Int32) then ((qgR X6 9 a0 8).bind fun v17 =>
qb2 (fX10_draw F X6 a0 (11 : Int32)) fun v18 X19 =>
qlt (v18 - (5 : Int32)) fun v20 =>
(qaS X19 0 v17 (1 : Int32) v20).bind fun X21 =>
some X21)
else (some X6)) : Option qH).bind fun X7 =>
(qgR X7 9 a0 8).bind fun v8 =>
(qaI X7 0 v8 (2 : Int32)).bind fun v9 =>
qlt (v9 + (1 : Int32)) fun v10 =>
(qaS X7 0 v8 (2 : Int32) v10).bind fun X11 =>
qlt (v3 + (1 : Int32)) fun v12 =>
self0 v12 X11)
def fX10_drift_L18 (F : Nat) (a0 : Nat) (a1 : Int32) : Nat → Int32 → qH → Option (qH)
  | 0, _, _ => none
  | n + 1, v3, X4 => fX10_drift_L18_B F a0 a1 (fX10_drift_L18 F a0 a1 n) v3 X4
def fX10_drift (F : Nat) (X : qH) (a0 : Nat) (a1 : Int32) : Option (Int32 × qH) :=
qIs 9 X a0 <|
(fX10_minutesRefused F X a0 a1).bind fun v1 =>
if v1 = (0 : Int32) then ((fX10_remember F X a0).bind fun X2 =>
(fX10_drift_L18 F a0 a1 F (0 : Int32) X2).bind fun X22 =>
(qgR X22 9 a0 8).bind fun v23 =>
(qaI X22 0 v23 (2 : Int32)).bind fun v24 =>
some (v24, X22))
else (some (v1, X))
abbrev rmX10_drift : Room := { frames := 2, cells := 0, slots := 0, locals := 46 }
theorem fX10_drift_is {F : Nat} {X : qH} {a0 : Nat} {a1 : Int32} {r9 : Int32 × qH} (h : fX10_drift F X a0 a1 = some r9) : ∃ fs, X a0 = some (.inr (9, fs)) := (qIs_spec h).1
theorem hdX10_drift : yX10_drift.cls = RX10 ∧ yX10_drift.cls ≠ "java/lang/invoke/MethodHandle" ∧ yX10_drift.cls ≠ "java/lang/invoke/VarHandle" ∧ (parseMethodDescriptor yX10_drift.desc).map (fun d => d.parameters.length) = some 1 := by decide +kernel
set_option maxHeartbeats 4000000 in
set_option maxRecDepth 100000 in
theorem mX10_drift (l : Launch) (D : va_G) (kz : Nat → Nat) (b0 sz F : Nat) (X : qH) (a0 : Nat) (a1 : Int32) (r : Int32) (Xr : qH) (hf : fX10_drift F X a0 a1 = some (r, Xr)) : Met l yX10_drift (qws yX10_drift cX10_drift 5 (some .int)) rmX10_drift (va_Pc [.ref a0, .int a1] (qU D kz b0 sz X)) (va_Qi (fun (r' : Int32) (u : qH) => r' = r ∧ u = Xr) (fun u t => qO D kz b0 sz u t) (qA b0)) 0 0 (qA b0) := by
  refine q_start (by decide) (Nat.le_of_ble_eq_true rfl) ?_
  intro p e s m args below meth c hx hb hr hlocks hnm hml hown hT hR hK hz ls hl
  have hown : s.vm.findClass RX10 = some m.cls := hown
  have hl : lv_has ls 5 [(0, .ref a0), (1, .int a1)] := hl
  have hS : va_S (qA b0) s.heap s.heap [] := va_S.rf
  obtain ⟨Q, hQ⟩ : ∃ Q, Q = MQ below (va_Qi (fun (r' : Int32) (u : qH) => r' = r ∧ u = Xr) (fun u t => qO D kz b0 sz u t) (qA b0)) args s 0 0 (qA b0) := ⟨_, rfl⟩
  rw [← hQ]
  unfold fX10_drift at hf
  obtain ⟨hthis, hf⟩ := qIs_spec hf
  refine lv_aload_n hx hb dX10_drift_0 rfl (lv_at hl 0 rfl) ?_
  refine lv_iload_n hx hb dX10_drift_1 rfl (lv_at hl 1 rfl) ?_
  obtain ⟨v1, hc, hf⟩ := q_b hf
  refine q_calli (va_runV (As := [.int a1]) (rest := []) ⟨hx, hb, hml, hown, hT⟩ (mX10_minutesRefused l D kz b0 sz F X a0 a1 v1 hc) (cwV 1 hT (q_gV wco_X10_minutesRefused wml_X10_246 wim_X10_minutesRefused wse_X10_minutesRefused win_X10) rfl rfl rfl hdX10_minutesRefused ⟨Nat.le_of_ble_eq_true rfl, Nat.le_of_ble_eq_true rfl⟩) (q_preV vqX10 (fX10_minutesRefused_is hc) hR hK hz) rfl rfl hl.1 rfl (lv_room (Nat.le_of_ble_eq_true rfl)) dX10_drift_2 ⟨Nat.le_of_ble_eq_true rfl, Nat.le_of_ble_eq_true rfl⟩) hS (fun H locs hR hS hz => ?_)
  refine lv_istore_n (lv' := [(2, .int v1), (0, .ref a0), (1, .int a1)]) hx hb dX10_drift_5 rfl hl (by decide) rfl (fun ls hl => ?_)
  refine lv_iload_n hx hb dX10_drift_6 rfl (lv_at hl 0 rfl) ?_
  refine lv_if_eq (tgt := 12) hx hb dX10_drift_7 (by decide) (fun hc => ?_) (fun hc => ?_)
  · have hf := q_t hf hc
    refine lv_aload_n hx hb dX10_drift_12 rfl (lv_at hl 1 rfl) ?_
    obtain ⟨X2, hc, hf⟩ := q_b hf
    refine q_callv (va_runV (As := []) (rest := []) ⟨hx, hb, hml, hown, hT⟩ (mX10_remember l D kz b0 sz F X a0 X2 hc) (cwV 0 hT (q_gV wco_X10_remember wml_X10_233 wim_X10_remember wse_X10_remember win_X10) rfl rfl rfl hdX10_remember ⟨Nat.le_of_ble_eq_true rfl, Nat.le_of_ble_eq_true rfl⟩) (q_preV vqX10 (fX10_remember_is hc) hR hK hz) rfl rfl hl.1 rfl (lv_room (Nat.le_of_ble_eq_true rfl)) dX10_drift_13 ⟨Nat.le_of_ble_eq_true rfl, Nat.le_of_ble_eq_true rfl⟩) hS (fun H locs hR hS hz => ?_)
    refine lv_iconst (v := (0 : Int32)) hx hb dX10_drift_16 (by decide) ?_
    refine lv_istore_n (lv' := [(3, .int (0 : Int32)), (2, .int v1), (0, .ref a0), (1, .int a1)]) hx hb dX10_drift_17 rfl hl (by decide) rfl (fun ls hl => ?_)
    obtain ⟨X22, ho, hf⟩ := q_b hf
    have hL : ∀ (n : Nat) (v3 : Int32) (X4 : qH) (out : qH), fX10_drift_L18 F a0 a1 n v3 X4 = some out → (∀ (X22 : qH), out = X22 → ∀ (H : Heap) (locs : List Loc) (ls : Array Slot), qR D kz b0 X22 H → va_S (qA b0) s.heap H locs → H.size = sz → lv_has ls 5 [(0, .ref a0)] → W p l e rmX10_drift s m args below meth c H locs 0 0 Q (F0 m 86 ls [])) → ∀ (H : Heap) (locs : List Loc) (ls : Array Slot), qR D kz b0 X4 H → va_S (qA b0) s.heap H locs → H.size = sz → lv_has ls 5 [(0, .ref a0), (1, .int a1), (3, .int v3)] → W p l e rmX10_drift s m args below meth c H locs 0 0 Q (F0 m 18 ls []) := by
      intro n9
      induction n9 with
      | zero =>
        intro v3 X4 out hf
        exact absurd (show none = some out from hf) (by simp)
      | succ n9 ih0 =>
        intro v3 X4 out hf hex H locs ls hR hS hz hl
        have hf : fX10_drift_L18_B F a0 a1 (fX10_drift_L18 F a0 a1 n9) v3 X4 = some out := hf
        unfold fX10_drift_L18_B at hf
        refine lv_iload_n hx hb dX10_drift_18 rfl (lv_at hl 2 rfl) ?_
        refine lv_iload_n hx hb dX10_drift_19 rfl (lv_at hl 1 rfl) ?_
        refine lv_icmp_ge (tgt := 86) hx hb dX10_drift_20 (by decide) (fun hc => ?_) (fun hc => ?_)
        · have hf := q_t hf hc
          exact hex _ (Option.some.inj hf).symm _ _ _ hR hS hz (lv_sub hl [0] rfl)
        · have hf := q_f hf hc
          refine lv_aload_n hx hb dX10_drift_23 rfl (lv_at hl 0 rfl) ?_
          refine lv_iconst (v := (3 : Int32)) hx hb dX10_drift_24 (by decide) ?_
          obtain ⟨v5, X6, hc, hf⟩ := q_b2 hf
          refine q_calli (va_runV (As := [.int (3 : Int32)]) (rest := []) ⟨hx, hb, hml, hown, hT⟩ (mX10_draw l D kz b0 sz F X4 a0 (3 : Int32) v5 X6 hc) (cwV 1 hT (q_gV wco_X10_draw wml_X10_265 wim_X10_draw wse_X10_draw win_X10) rfl rfl rfl hdX10_draw ⟨Nat.le_of_ble_eq_true rfl, Nat.le_of_ble_eq_true rfl⟩) (q_preV vqX10 (fX10_draw_is hc) hR hK hz) rfl rfl hl.1 rfl (lv_room (Nat.le_of_ble_eq_true rfl)) dX10_drift_25 ⟨Nat.le_of_ble_eq_true rfl, Nat.le_of_ble_eq_true rfl⟩) hS (fun H locs hR hS hz => ?_)
          refine lv_istore (lv' := [(4, .int v5), (0, .ref a0), (1, .int a1), (3, .int v3)]) hx hb dX10_drift_28 hl (by decide) rfl (fun ls hl => ?_)
          refine lv_iload hx hb dX10_drift_30 (lv_at hl 0 rfl) ?_
          obtain ⟨X7, hp, hf⟩ := q_b hf
          have hJ : ∀ (H : Heap) (locs : List Loc) (ls : Array Slot), qR D kz b0 X7 H → va_S (qA b0) s.heap H locs → H.size = sz → lv_has ls 5 [(0, .ref a0), (1, .int a1), (3, .int v3)] → W p l e rmX10_drift s m args below meth c H locs 0 0 Q (F0 m 70 ls []) := by
            intro H locs ls hR hS hz hl
            refine lv_aload_n hx hb dX10_drift_70 rfl (lv_at hl 0 rfl) ?_
            refine q_gR hx hb hT hown hK hR iqX10 vqX10 8 (by decide) (hT _ wfl_X10_29) hf dX10_drift_71 (fun v8 hf => ?_)
            refine lv_iconst (v := (2 : Int32)) hx hb dX10_drift_74 (by decide) ?_
            refine lv_dup2_11 hx hb dX10_drift_75 rfl rfl ?_
            refine q_iald hx hb hK hR hf dX10_drift_76 (fun v9 hf => ?_)
            refine lv_iconst (v := (1 : Int32)) hx hb dX10_drift_77 (by decide) ?_
            refine lv_iadd hx hb dX10_drift_78 ?_
            refine lv_topi (fun v10 ev10 => ?_)
            have hf := q_lt ev10 hf
            refine q_iast hx hb hK hR hS hz hf dX10_drift_79 (fun X11 hf H locs hR hS hz => ?_)
            obtain ⟨v12, ev12⟩ : ∃ y : Int32, y = (v3 + (1 : Int32)) := ⟨_, rfl⟩
            have hf := q_lt ev12 hf
            refine lv_iinc (v := v12) (lv' := [(3, .int v12), (0, .ref a0), (1, .int a1)]) hx hb dX10_drift_80 hl (k := 2) rfl (by rw [ev12]; rfl) (by decide) rfl (fun ls hl => ?_)
            refine lv_goto (tgt := 18) hx hb dX10_drift_83 (by decide) ?_
            exact ih0 _ _ out hf hex _ _ _ hR hS hz (lv_sub hl [1, 2, 0] rfl)
          have hf := hp
          refine lv_if_ne (tgt := 50) hx hb dX10_drift_32 (by decide) (fun hc => ?_) (fun hc => ?_)
          · have hf := q_f hf hc
            refine lv_iload hx hb dX10_drift_50 (lv_at hl 0 rfl) ?_
            refine lv_iconst (v := (1 : Int32)) hx hb dX10_drift_52 (by decide) ?_
            refine lv_icmp_ne (tgt := 70) hx hb dX10_drift_53 (by decide) (fun hc => ?_) (fun hc => ?_)
            · have hf := q_f hf hc
              cases hf
              exact hJ _ _ _ hR hS hz (lv_sub hl [1, 2, 3] rfl)
            · have hf := q_t hf hc
              refine lv_aload_n hx hb dX10_drift_56 rfl (lv_at hl 1 rfl) ?_
              refine q_gR hx hb hT hown hK hR iqX10 vqX10 8 (by decide) (hT _ wfl_X10_29) hf dX10_drift_57 (fun v17 hf => ?_)
              refine lv_iconst (v := (1 : Int32)) hx hb dX10_drift_60 (by decide) ?_
              refine lv_aload_n hx hb dX10_drift_61 rfl (lv_at hl 1 rfl) ?_
              refine lv_bipush (v := (11 : Int32)) hx hb dX10_drift_62 (by decide) ?_
              obtain ⟨v18, X19, hc, hf⟩ := q_b2 hf
              refine q_calli (va_runV (As := [.int (11 : Int32)]) (rest := [.int (1 : Int32), .ref v17]) ⟨hx, hb, hml, hown, hT⟩ (mX10_draw l D kz b0 sz F X6 a0 (11 : Int32) v18 X19 hc) (cwV 1 hT (q_gV wco_X10_draw wml_X10_265 wim_X10_draw wse_X10_draw win_X10) rfl rfl rfl hdX10_draw ⟨Nat.le_of_ble_eq_true rfl, Nat.le_of_ble_eq_true rfl⟩) (q_preV vqX10 (fX10_draw_is hc) hR hK hz) rfl rfl hl.1 rfl (lv_room (Nat.le_of_ble_eq_true rfl)) dX10_drift_64 ⟨Nat.le_of_ble_eq_true rfl, Nat.le_of_ble_eq_true rfl⟩) hS (fun H locs hR hS hz => ?_)
              refine lv_iconst (v := (5 : Int32)) hx hb dX10_drift_67 (by decide) ?_
              refine lv_isub hx hb dX10_drift_68 ?_
              refine lv_topi (fun v20 ev20 => ?_)
              have hf := q_lt ev20 hf
              refine q_iast hx hb hK hR hS hz hf dX10_drift_69 (fun X21 hf H locs hR hS hz => ?_)
              cases hf
              exact hJ _ _ _ hR hS hz (lv_sub hl [1, 2, 3] rfl)
          · have hf := q_t hf hc
            refine lv_aload_n hx hb dX10_drift_35 rfl (lv_at hl 1 rfl) ?_
            refine q_gR hx hb hT hown hK hR iqX10 vqX10 8 (by decide) (hT _ wfl_X10_29) hf dX10_drift_36 (fun v13 hf => ?_)
            refine lv_iconst (v := (0 : Int32)) hx hb dX10_drift_39 (by decide) ?_
            refine lv_aload_n hx hb dX10_drift_40 rfl (lv_at hl 1 rfl) ?_
            refine lv_bipush (v := (21 : Int32)) hx hb dX10_drift_41 (by decide) ?_
            obtain ⟨v14, X15, hc, hf⟩ := q_b2 hf
            refine q_calli (va_runV (As := [.int (21 : Int32)]) (rest := [.int (0 : Int32), .ref v13]) ⟨hx, hb, hml, hown, hT⟩ (mX10_draw l D kz b0 sz F X6 a0 (21 : Int32) v14 X15 hc) (cwV 1 hT (q_gV wco_X10_draw wml_X10_265 wim_X10_draw wse_X10_draw win_X10) rfl rfl rfl hdX10_draw ⟨Nat.le_of_ble_eq_true rfl, Nat.le_of_ble_eq_true rfl⟩) (q_preV vqX10 (fX10_draw_is hc) hR hK hz) rfl rfl hl.1 rfl (lv_room (Nat.le_of_ble_eq_true rfl)) dX10_drift_43 ⟨Nat.le_of_ble_eq_true rfl, Nat.le_of_ble_eq_true rfl⟩) hS (fun H locs hR hS hz => ?_)
            refine q_iast hx hb hK hR hS hz hf dX10_drift_46 (fun X16 hf H locs hR hS hz => ?_)
            refine lv_goto (tgt := 70) hx hb dX10_drift_47 (by decide) ?_
            cases hf
            exact hJ _ _ _ hR hS hz (lv_sub hl [1, 2, 3] rfl)
    refine hL F _ _ _ ho (fun z0 h9 => ?_) _ _ _ hR hS hz (lv_sub hl [2, 3, 0] rfl)
    cases h9
    intro H locs ls hR hS hz hl
    refine lv_aload_n hx hb dX10_drift_86 rfl (lv_at hl 0 rfl) ?_
    refine q_gR hx hb hT hown hK hR iqX10 vqX10 8 (by decide) (hT _ wfl_X10_29) hf dX10_drift_87 (fun v23 hf => ?_)
    refine lv_iconst (v := (2 : Int32)) hx hb dX10_drift_90 (by decide) ?_
    refine q_iald hx hb hK hR hf dX10_drift_91 (fun v24 hf => ?_)
    subst hQ
    obtain ⟨h8, h9⟩ := Prod.mk.inj (Option.some.inj hf)
    exact q_iret hx hb hr hlocks hR hS hz h8 h9 dX10_drift_92
  · have hf := q_f hf hc
    refine lv_iload_n hx hb dX10_drift_10 rfl (lv_at hl 0 rfl) ?_
    subst hQ
    obtain ⟨h8, h9⟩ := Prod.mk.inj (Option.some.inj hf)
    exact q_iret hx hb hr hlocks hR hS hz h8 h9 dX10_drift_11
/-! X10_undo -/
def fX10_undo_L22_B (F : Nat) (a0 : Nat) (self0 : Int32 → qH → Option (qH)) (v5 : Int32) (X6 : qH) : Option (qH) :=
if (43 : Int32) ≤ v5 then (some X6)
else ((qgR X6 9 a0 8).bind fun v7 =>
(qgR X6 9 a0 28).bind fun v8 =>
(qgI X6 9 a0 27).bind fun v9 =>
(qaI X6 0 v8 (((43 : Int32) * v9) + v5)).bind fun v10 =>
(qaS X6 0 v7 v5 v10).bind fun X11 =>
qlt (v5 + (1 : Int32)) fun v12 =>
self0 v12 X11)
def fX10_undo_L22 (F : Nat) (a0 : Nat) : Nat → Int32 → qH → Option (qH)
  | 0, _, _ => none
  | n + 1, v5, X6 => fX10_undo_L22_B F a0 (fX10_undo_L22 F a0 n) v5 X6
def fX10_undo (F : Nat) (X : qH) (a0 : Nat) : Option (Int32 × qH) :=
qIs 9 X a0 <|
(qgI X 9 a0 27).bind fun v1 =>
if v1 = (0 : Int32) then (some ((-1000000003 : Int32), X))
else ((qgI X 9 a0 27).bind fun v2 =>
qlt (v2 - (1 : Int32)) fun v3 =>
(qpI X 9 a0 27 v3).bind fun X4 =>
(fX10_undo_L22 F a0 F (0 : Int32) X4).bind fun X13 =>
(qgI X13 9 a0 27).bind fun v14 =>
some (v14, X13))
abbrev rmX10_undo : Room := { frames := 0, cells := 0, slots := 0, locals := 0 }
theorem fX10_undo_is {F : Nat} {X : qH} {a0 : Nat} {r9 : Int32 × qH} (h : fX10_undo F X a0 = some r9) : ∃ fs, X a0 = some (.inr (9, fs)) := (qIs_spec h).1
theorem hdX10_undo : yX10_undo.cls = RX10 ∧ yX10_undo.cls ≠ "java/lang/invoke/MethodHandle" ∧ yX10_undo.cls ≠ "java/lang/invoke/VarHandle" ∧ (parseMethodDescriptor yX10_undo.desc).map (fun d => d.parameters.length) = some 0 := by decide +kernel
set_option maxHeartbeats 4000000 in
set_option maxRecDepth 100000 in
theorem mX10_undo (l : Launch) (D : va_G) (kz : Nat → Nat) (b0 sz F : Nat) (X : qH) (a0 : Nat) (r : Int32) (Xr : qH) (hf : fX10_undo F X a0 = some (r, Xr)) : Met l yX10_undo (qws yX10_undo cX10_undo 2 (some .int)) rmX10_undo (va_Pc [.ref a0] (qU D kz b0 sz X)) (va_Qi (fun (r' : Int32) (u : qH) => r' = r ∧ u = Xr) (fun u t => qO D kz b0 sz u t) (qA b0)) 0 0 (qA b0) := by
  refine q_start (by decide) (Nat.le_of_ble_eq_true rfl) ?_
  intro p e s m args below meth c hx hb hr hlocks hnm hml hown hT hR hK hz ls hl
  have hown : s.vm.findClass RX10 = some m.cls := hown
  have hl : lv_has ls 2 [(0, .ref a0)] := hl
  have hS : va_S (qA b0) s.heap s.heap [] := va_S.rf
  obtain ⟨Q, hQ⟩ : ∃ Q, Q = MQ below (va_Qi (fun (r' : Int32) (u : qH) => r' = r ∧ u = Xr) (fun u t => qO D kz b0 sz u t) (qA b0)) args s 0 0 (qA b0) := ⟨_, rfl⟩
  rw [← hQ]
  unfold fX10_undo at hf
  obtain ⟨hthis, hf⟩ := qIs_spec hf
  refine lv_aload_n hx hb dX10_undo_0 rfl (lv_at hl 0 rfl) ?_
  refine q_gI hx hb hT hown hK hR iqX10 vqX10 27 (by decide) (hT _ wfl_X10_191) hf dX10_undo_1 (fun v1 hf => ?_)
  refine lv_if_ne (tgt := 10) hx hb dX10_undo_4 (by decide) (fun hc => ?_) (fun hc => ?_)
  · have hf := q_f hf hc
    refine lv_aload_n hx hb dX10_undo_10 rfl (lv_at hl 0 rfl) ?_
    refine lv_dup hx hb dX10_undo_11 rfl ?_
    refine q_gI hx hb hT hown hK hR iqX10 vqX10 27 (by decide) (hT _ wfl_X10_191) hf dX10_undo_12 (fun v2 hf => ?_)
    refine lv_iconst (v := (1 : Int32)) hx hb dX10_undo_15 (by decide) ?_
    refine lv_isub hx hb dX10_undo_16 ?_
    refine lv_topi (fun v3 ev3 => ?_)
    have hf := q_lt ev3 hf
    refine q_pI hx hb hT hown hK hR hS hz iqX10 vqX10 tyX10_ok nmX10 27 (by decide) (hT _ wfl_X10_191) rfl rfl hf dX10_undo_17 (fun X4 hf H locs hR hS hz => ?_)
    refine lv_iconst (v := (0 : Int32)) hx hb dX10_undo_20 (by decide) ?_
    refine lv_istore_n (lv' := [(1, .int (0 : Int32)), (0, .ref a0)]) hx hb dX10_undo_21 rfl hl (by decide) rfl (fun ls hl => ?_)
    obtain ⟨X13, ho, hf⟩ := q_b hf
    have hL : ∀ (n : Nat) (v5 : Int32) (X6 : qH) (out : qH), fX10_undo_L22 F a0 n v5 X6 = some out → (∀ (X13 : qH), out = X13 → ∀ (H : Heap) (locs : List Loc) (ls : Array Slot), qR D kz b0 X13 H → va_S (qA b0) s.heap H locs → H.size = sz → lv_has ls 2 [(0, .ref a0)] → W p l e rmX10_undo s m args below meth c H locs 0 0 Q (F0 m 54 ls [])) → ∀ (H : Heap) (locs : List Loc) (ls : Array Slot), qR D kz b0 X6 H → va_S (qA b0) s.heap H locs → H.size = sz → lv_has ls 2 [(0, .ref a0), (1, .int v5)] → W p l e rmX10_undo s m args below meth c H locs 0 0 Q (F0 m 22 ls []) := by
      intro n9
      induction n9 with
      | zero =>
        intro v5 X6 out hf
        exact absurd (show none = some out from hf) (by simp)
      | succ n9 ih0 =>
        intro v5 X6 out hf hex H locs ls hR hS hz hl
        have hf : fX10_undo_L22_B F a0 (fX10_undo_L22 F a0 n9) v5 X6 = some out := hf
        unfold fX10_undo_L22_B at hf
        refine lv_iload_n hx hb dX10_undo_22 rfl (lv_at hl 1 rfl) ?_
        refine lv_bipush (v := (43 : Int32)) hx hb dX10_undo_23 (by decide) ?_
        refine lv_icmp_ge (tgt := 54) hx hb dX10_undo_25 (by decide) (fun hc => ?_) (fun hc => ?_)
        · have hf := q_t hf hc
          exact hex _ (Option.some.inj hf).symm _ _ _ hR hS hz (lv_sub hl [0] rfl)
        · have hf := q_f hf hc
          refine lv_aload_n hx hb dX10_undo_28 rfl (lv_at hl 0 rfl) ?_
          refine q_gR hx hb hT hown hK hR iqX10 vqX10 8 (by decide) (hT _ wfl_X10_29) hf dX10_undo_29 (fun v7 hf => ?_)
          refine lv_iload_n hx hb dX10_undo_32 rfl (lv_at hl 1 rfl) ?_
          refine lv_aload_n hx hb dX10_undo_33 rfl (lv_at hl 0 rfl) ?_
          refine q_gR hx hb hT hown hK hR iqX10 vqX10 28 (by decide) (hT _ wfl_X10_62) hf dX10_undo_34 (fun v8 hf => ?_)
          refine lv_bipush (v := (43 : Int32)) hx hb dX10_undo_37 (by decide) ?_
          refine lv_aload_n hx hb dX10_undo_39 rfl (lv_at hl 0 rfl) ?_
          refine q_gI hx hb hT hown hK hR iqX10 vqX10 27 (by decide) (hT _ wfl_X10_191) hf dX10_undo_40 (fun v9 hf => ?_)
          refine lv_imul hx hb dX10_undo_43 ?_
          refine lv_iload_n hx hb dX10_undo_44 rfl (lv_at hl 1 rfl) ?_
          refine lv_iadd hx hb dX10_undo_45 ?_
          refine q_iald hx hb hK hR hf dX10_undo_46 (fun v10 hf => ?_)
          refine q_iast hx hb hK hR hS hz hf dX10_undo_47 (fun X11 hf H locs hR hS hz => ?_)
          obtain ⟨v12, ev12⟩ : ∃ y : Int32, y = (v5 + (1 : Int32)) := ⟨_, rfl⟩
          have hf := q_lt ev12 hf
          refine lv_iinc (v := v12) (lv' := [(1, .int v12), (0, .ref a0)]) hx hb dX10_undo_48 hl (k := 1) rfl (by rw [ev12]; rfl) (by decide) rfl (fun ls hl => ?_)
          refine lv_goto (tgt := 22) hx hb dX10_undo_51 (by decide) ?_
          exact ih0 _ _ out hf hex _ _ _ hR hS hz (lv_sub hl [1, 0] rfl)
    refine hL F _ _ _ ho (fun z0 h9 => ?_) _ _ _ hR hS hz (lv_sub hl [1, 0] rfl)
    cases h9
    intro H locs ls hR hS hz hl
    refine lv_aload_n hx hb dX10_undo_54 rfl (lv_at hl 0 rfl) ?_
    refine q_gI hx hb hT hown hK hR iqX10 vqX10 27 (by decide) (hT _ wfl_X10_191) hf dX10_undo_55 (fun v14 hf => ?_)
    subst hQ
    obtain ⟨h8, h9⟩ := Prod.mk.inj (Option.some.inj hf)
    exact q_iret hx hb hr hlocks hR hS hz h8 h9 dX10_undo_58
  · have hf := q_t hf hc
    refine lv_ldc (v := (-1000000003 : Int32)) hx hb hown (hT _ wk_X10_232) dX10_undo_7 ?_
    subst hQ
    obtain ⟨h8, h9⟩ := Prod.mk.inj (Option.some.inj hf)
    exact q_iret hx hb hr hlocks hR hS hz h8 h9 dX10_undo_9
/-! X10_figure -/
def fX10_figure (F : Nat) (X : qH) (a0 : Int32) (a1 : Int32) (a2 : Int32) : Option (Int32) :=
some ((a0 >>> (((3 : Int32) * ((a1 - (1 : Int32)) - a2)) &&& 31)) &&& (7 : Int32))
abbrev rmX10_figure : Room := { frames := 0, cells := 0, slots := 0, locals := 0 }
theorem hdX10_figure : yX10_figure.cls ≠ "java/lang/invoke/MethodHandle" ∧ yX10_figure.cls ≠ "java/lang/invoke/VarHandle" ∧ (parseMethodDescriptor yX10_figure.desc).map (fun d => d.parameters.length) = some 3 := by decide +kernel
set_option maxHeartbeats 4000000 in
set_option maxRecDepth 100000 in
theorem mX10_figure (l : Launch) (D : va_G) (kz : Nat → Nat) (b0 sz F : Nat) (X : qH) (a0 : Int32) (a1 : Int32) (a2 : Int32) (r : Int32) (hf : fX10_figure F X a0 a1 a2 = some r) : Met l yX10_figure (qws yX10_figure cX10_figure 3 (some .int)) rmX10_figure (va_Pc [.int a0, .int a1, .int a2] (qU D kz b0 sz X)) (va_Qi (fun (r' : Int32) (u : qH) => r' = r ∧ u = X) (fun u t => qO D kz b0 sz u t) (qA b0)) 0 0 (qA b0) := by
  refine q_start (by decide) (Nat.le_of_ble_eq_true rfl) ?_
  intro p e s m args below meth c hx hb hr hlocks hnm hml hown hT hR hK hz ls hl
  have hown : s.vm.findClass RX10 = some m.cls := hown
  have hl : lv_has ls 3 [(0, .int a0), (1, .int a1), (2, .int a2)] := hl
  have hS : va_S (qA b0) s.heap s.heap [] := va_S.rf
  obtain ⟨Q, hQ⟩ : ∃ Q, Q = MQ below (va_Qi (fun (r' : Int32) (u : qH) => r' = r ∧ u = X) (fun u t => qO D kz b0 sz u t) (qA b0)) args s 0 0 (qA b0) := ⟨_, rfl⟩
  rw [← hQ]
  unfold fX10_figure at hf
  refine lv_iload_n hx hb dX10_figure_0 rfl (lv_at hl 0 rfl) ?_
  refine lv_iconst (v := (3 : Int32)) hx hb dX10_figure_1 (by decide) ?_
  refine lv_iload_n hx hb dX10_figure_2 rfl (lv_at hl 1 rfl) ?_
  refine lv_iconst (v := (1 : Int32)) hx hb dX10_figure_3 (by decide) ?_
  refine lv_isub hx hb dX10_figure_4 ?_
  refine lv_iload_n hx hb dX10_figure_5 rfl (lv_at hl 2 rfl) ?_
  refine lv_isub hx hb dX10_figure_6 ?_
  refine lv_imul hx hb dX10_figure_7 ?_
  refine lv_ishr hx hb dX10_figure_8 ?_
  refine lv_bipush (v := (7 : Int32)) hx hb dX10_figure_9 (by decide) ?_
  refine lv_iand hx hb dX10_figure_11 ?_
  subst hQ
  exact q_iret hx hb hr hlocks hR hS hz (Option.some.inj hf) rfl dX10_figure_12
/-! X10_isOrder -/
def fX10_isOrder_L9_B (F : Nat) (X : qH) (a0 : Nat) (a1 : Int32) (a2 : Int32) (self0 : Int32 → Int32 → Int32 → Option (Int32)) (v1 : Int32) (v2 : Int32) (v3 : Int32) : Option (Int32) :=
if a2 ≤ v3 then (some v2)
else (if v2 = (0 : Int32) then (some v2)
else ((fX10_figure F X a1 a2 v3).bind fun v4 =>
(fX10_has F X v1 v4).bind fun v5 =>
(if v5 = (0 : Int32) then (some (0 : Int32))
else (if v3 = (0 : Int32) then (some (1 : Int32))
else ((qgR X 9 a0 2).bind fun v9 =>
(qaI X 0 v9 v4).bind fun v10 =>
(qgR X 9 a0 2).bind fun v11 =>
(fX10_figure F X a1 a2 (v3 - (1 : Int32))).bind fun v12 =>
(qaI X 0 v11 v12).bind fun v13 =>
(fX10_apart F X v10 v13).bind fun v14 =>
if v14 = (1 : Int32) then (some (0 : Int32))
else (some (1 : Int32)))) : Option Int32).bind fun v6 =>
qlt (v1 &&& (((1 : Int32) <<< (v4 &&& 31)) ^^^ (-1 : Int32))) fun v7 =>
qlt (v3 + (1 : Int32)) fun v8 =>
self0 v7 v6 v8))
def fX10_isOrder_L9 (F : Nat) (X : qH) (a0 : Nat) (a1 : Int32) (a2 : Int32) : Nat → Int32 → Int32 → Int32 → Option (Int32)
  | 0, _, _, _ => none
  | n + 1, v1, v2, v3 => fX10_isOrder_L9_B F X a0 a1 a2 (fX10_isOrder_L9 F X a0 a1 a2 n) v1 v2 v3
def fX10_isOrder_L106_B (F : Nat) (a0 : Nat) (a1 : Int32) (a2 : Int32) (v15 : Int32) (self0 : Int32 → qH → Option (qH)) (v16 : Int32) (X17 : qH) : Option (qH) :=
if (43 : Int32) ≤ v16 then (some X17)
else ((qgR X17 9 a0 29).bind fun v18 =>
(qgR X17 9 a0 8).bind fun v19 =>
(qaI X17 0 v19 v16).bind fun v20 =>
(qaS X17 0 v18 v16 v20).bind fun X21 =>
qlt (v16 + (1 : Int32)) fun v22 =>
self0 v22 X21)
def fX10_isOrder_L106 (F : Nat) (a0 : Nat) (a1 : Int32) (a2 : Int32) (v15 : Int32) : Nat → Int32 → qH → Option (qH)
  | 0, _, _ => none
  | n + 1, v16, X17 => fX10_isOrder_L106_B F a0 a1 a2 v15 (fX10_isOrder_L106 F a0 a1 a2 v15 n) v16 X17
def fX10_isOrder_L136_B (F : Nat) (a0 : Nat) (a1 : Int32) (a2 : Int32) (self0 : Int32 → Int32 → qH → Option (Int32 × qH)) (v24 : Int32) (v25 : Int32) (X26 : qH) : Option (Int32 × qH) :=
if a2 ≤ v25 then (some (v24, X26))
else (if v24 = (0 : Int32) then (some (v24, X26))
else ((fX10_figure F X26 a1 a2 v25).bind fun v27 =>
(fX10_seers F X26 a0 v27).bind fun v28 =>
(fX10_bits F X26 v28).bind fun v29 =>
(if v29 < (2 : Int32) then (some (0 : Int32))
else (some (1 : Int32)) : Option Int32).bind fun v30 =>
(fX10_lightNow F X26 a0 v27).bind fun X31 =>
(qgR X31 9 a0 8).bind fun v32 =>
(qaI X31 0 v32 (2 : Int32)).bind fun v33 =>
qlt (v33 + (1 : Int32)) fun v34 =>
(qaS X31 0 v32 (2 : Int32) v34).bind fun X35 =>
qlt (v25 + (1 : Int32)) fun v36 =>
self0 v30 v36 X35))
def fX10_isOrder_L136 (F : Nat) (a0 : Nat) (a1 : Int32) (a2 : Int32) : Nat → Int32 → Int32 → qH → Option (Int32 × qH)
  | 0, _, _, _ => none
  | n + 1, v24, v25, X26 => fX10_isOrder_L136_B F a0 a1 a2 (fX10_isOrder_L136 F a0 a1 a2 n) v24 v25 X26
def fX10_isOrder_L201_B (F : Nat) (a0 : Nat) (v37 : Int32) (self0 : Int32 → qH → Option (qH)) (v39 : Int32) (X40 : qH) : Option (qH) :=
if (43 : Int32) ≤ v39 then (some X40)
else ((qgR X40 9 a0 8).bind fun v41 =>
(qgR X40 9 a0 29).bind fun v42 =>
(qaI X40 0 v42 v39).bind fun v43 =>
(qaS X40 0 v41 v39 v43).bind fun X44 =>
qlt (v39 + (1 : Int32)) fun v45 =>
self0 v45 X44)
def fX10_isOrder_L201 (F : Nat) (a0 : Nat) (v37 : Int32) : Nat → Int32 → qH → Option (qH)
  | 0, _, _ => none
  | n + 1, v39, X40 => fX10_isOrder_L201_B F a0 v37 (fX10_isOrder_L201 F a0 v37 n) v39 X40
def fX10_isOrder (F : Nat) (X : qH) (a0 : Nat) (a1 : Int32) (a2 : Int32) (a3 : Int32) : Option (Int32 × qH) :=
qIs 9 X a0 <|
(fX10_isOrder_L9 F X a0 a1 a2 F a3 (1 : Int32) (0 : Int32)).bind fun v15 =>
if v15 = (0 : Int32) then (some ((0 : Int32), X))
else ((fX10_isOrder_L106 F a0 a1 a2 v15 F (0 : Int32) X).bind fun X23 =>
qb2 (fX10_isOrder_L136 F a0 a1 a2 F v15 (0 : Int32) X23) fun v37 X38 =>
(fX10_isOrder_L201 F a0 v37 F (0 : Int32) X38).bind fun X46 =>
(qz v37).bind fun z =>
some (z, X46))
abbrev rmX10_isOrder : Room := { frames := 3, cells := 0, slots := 0, locals := 70 }
theorem fX10_isOrder_is {F : Nat} {X : qH} {a0 : Nat} {a1 : Int32} {a2 : Int32} {a3 : Int32} {r9 : Int32 × qH} (h : fX10_isOrder F X a0 a1 a2 a3 = some r9) : ∃ fs, X a0 = some (.inr (9, fs)) := (qIs_spec h).1
theorem hdX10_isOrder : yX10_isOrder.cls = RX10 ∧ yX10_isOrder.cls ≠ "java/lang/invoke/MethodHandle" ∧ yX10_isOrder.cls ≠ "java/lang/invoke/VarHandle" ∧ (parseMethodDescriptor yX10_isOrder.desc).map (fun d => d.parameters.length) = some 3 := by decide +kernel
set_option maxHeartbeats 4000000 in
set_option maxRecDepth 100000 in
theorem mX10_isOrder (l : Launch) (D : va_G) (kz : Nat → Nat) (b0 sz F : Nat) (X : qH) (a0 : Nat) (a1 : Int32) (a2 : Int32) (a3 : Int32) (r : Int32) (Xr : qH) (hf : fX10_isOrder F X a0 a1 a2 a3 = some (r, Xr)) : Met l yX10_isOrder (qws yX10_isOrder cX10_isOrder 8 (some .boolean)) rmX10_isOrder (va_Pc [.ref a0, .int a1, .int a2, .int a3] (qU D kz b0 sz X)) (va_Qi (fun (r' : Int32) (u : qH) => r' = r ∧ u = Xr) (fun u t => qO D kz b0 sz u t) (qA b0)) 0 0 (qA b0) := by
  refine q_start (by decide) (Nat.le_of_ble_eq_true rfl) ?_
  intro p e s m args below meth c hx hb hr hlocks hnm hml hown hT hR hK hz ls hl
  have hown : s.vm.findClass RX10 = some m.cls := hown
  have hl : lv_has ls 8 [(0, .ref a0), (1, .int a1), (2, .int a2), (3, .int a3)] := hl
  have hS : va_S (qA b0) s.heap s.heap [] := va_S.rf
  obtain ⟨Q, hQ⟩ : ∃ Q, Q = MQ below (va_Qi (fun (r' : Int32) (u : qH) => r' = r ∧ u = Xr) (fun u t => qO D kz b0 sz u t) (qA b0)) args s 0 0 (qA b0) := ⟨_, rfl⟩
  rw [← hQ]
  unfold fX10_isOrder at hf
  obtain ⟨hthis, hf⟩ := qIs_spec hf
  refine lv_iload_n hx hb dX10_isOrder_0 rfl (lv_at hl 3 rfl) ?_
  refine lv_istore (lv' := [(4, .int a3), (0, .ref a0), (1, .int a1), (2, .int a2), (3, .int a3)]) hx hb dX10_isOrder_1 hl (by decide) rfl (fun ls hl => ?_)
  refine lv_iconst (v := (1 : Int32)) hx hb dX10_isOrder_3 (by decide) ?_
  refine lv_istore (lv' := [(5, .int (1 : Int32)), (4, .int a3), (0, .ref a0), (1, .int a1), (2, .int a2), (3, .int a3)]) hx hb dX10_isOrder_4 hl (by decide) rfl (fun ls hl => ?_)
  refine lv_iconst (v := (0 : Int32)) hx hb dX10_isOrder_6 (by decide) ?_
  refine lv_istore (lv' := [(6, .int (0 : Int32)), (5, .int (1 : Int32)), (4, .int a3), (0, .ref a0), (1, .int a1), (2, .int a2), (3, .int a3)]) hx hb dX10_isOrder_7 hl (by decide) rfl (fun ls hl => ?_)
  obtain ⟨v15, ho, hf⟩ := q_b hf
  have hL : ∀ (n : Nat) (v1 : Int32) (v2 : Int32) (v3 : Int32) (out : Int32), fX10_isOrder_L9 F X a0 a1 a2 n v1 v2 v3 = some out → (∀ (v15 : Int32), out = v15 → ∀ (H : Heap) (locs : List Loc) (ls : Array Slot), qR D kz b0 X H → va_S (qA b0) s.heap H locs → H.size = sz → lv_has ls 8 [(0, .ref a0), (1, .int a1), (2, .int a2), (5, .int v15)] → W p l e rmX10_isOrder s m args below meth c H locs 0 0 Q (F0 m 96 ls [])) → ∀ (H : Heap) (locs : List Loc) (ls : Array Slot), qR D kz b0 X H → va_S (qA b0) s.heap H locs → H.size = sz → lv_has ls 8 [(0, .ref a0), (1, .int a1), (2, .int a2), (4, .int v1), (5, .int v2), (6, .int v3)] → W p l e rmX10_isOrder s m args below meth c H locs 0 0 Q (F0 m 9 ls []) := by
    intro n9
    induction n9 with
    | zero =>
      intro v1 v2 v3 out hf
      exact absurd (show none = some out from hf) (by simp)
    | succ n9 ih0 =>
      intro v1 v2 v3 out hf hex H locs ls hR hS hz hl
      have hf : fX10_isOrder_L9_B F X a0 a1 a2 (fX10_isOrder_L9 F X a0 a1 a2 n9) v1 v2 v3 = some out := hf
      unfold fX10_isOrder_L9_B at hf
      refine lv_iload hx hb dX10_isOrder_9 (lv_at hl 5 rfl) ?_
      refine lv_iload_n hx hb dX10_isOrder_11 rfl (lv_at hl 2 rfl) ?_
      refine lv_icmp_ge (tgt := 96) hx hb dX10_isOrder_12 (by decide) (fun hc => ?_) (fun hc => ?_)
      · have hf := q_t hf hc
        exact hex _ (Option.some.inj hf).symm _ _ _ hR hS hz (lv_sub hl [0, 1, 2, 4] rfl)
      · have hf := q_f hf hc
        refine lv_iload hx hb dX10_isOrder_15 (lv_at hl 4 rfl) ?_
        refine lv_if_eq (tgt := 96) hx hb dX10_isOrder_17 (by decide) (fun hc => ?_) (fun hc => ?_)
        · have hf := q_t hf hc
          exact hex _ (Option.some.inj hf).symm _ _ _ hR hS hz (lv_sub hl [0, 1, 2, 4] rfl)
        · have hf := q_f hf hc
          refine lv_iload_n hx hb dX10_isOrder_20 rfl (lv_at hl 1 rfl) ?_
          refine lv_iload_n hx hb dX10_isOrder_21 rfl (lv_at hl 2 rfl) ?_
          refine lv_iload hx hb dX10_isOrder_22 (lv_at hl 5 rfl) ?_
          obtain ⟨v4, hc, hf⟩ := q_b hf
          refine q_calli (va_runS (As := [.int a1, .int a2, .int v3]) (rest := []) ⟨hx, hb, hml, hown, hT⟩ (mX10_figure l D kz b0 sz F X a1 a2 v3 v4 hc) (va_cwS 3 hT (q_gS wco_X10_figure wml_X10_268 wst_X10_figure win_X10) rfl rfl rfl hdX10_figure ⟨Nat.le_of_ble_eq_true rfl, Nat.le_of_ble_eq_true rfl⟩) (q_preS hR hK hz) rfl rfl hl.1 rfl (lv_room (Nat.le_of_ble_eq_true rfl)) dX10_isOrder_24 ⟨Nat.le_of_ble_eq_true rfl, Nat.le_of_ble_eq_true rfl⟩) hS (fun H locs hR hS hz => ?_)
          refine lv_istore (lv' := [(7, .int v4), (0, .ref a0), (1, .int a1), (2, .int a2), (4, .int v1), (5, .int v2), (6, .int v3)]) hx hb dX10_isOrder_27 hl (by decide) rfl (fun ls hl => ?_)
          refine lv_iload hx hb dX10_isOrder_29 (lv_at hl 4 rfl) ?_
          refine lv_iload hx hb dX10_isOrder_31 (lv_at hl 0 rfl) ?_
          obtain ⟨v5, hc, hf⟩ := q_b hf
          refine q_calli (va_runS (As := [.int v1, .int v4]) (rest := []) ⟨hx, hb, hml, hown, hT⟩ (mX10_has l D kz b0 sz F X v1 v4 v5 hc) (va_cwS 2 hT (q_gS wco_X10_has wml_X10_194 wst_X10_has win_X10) rfl rfl rfl hdX10_has ⟨Nat.le_of_ble_eq_true rfl, Nat.le_of_ble_eq_true rfl⟩) (q_preS hR hK hz) rfl rfl hl.1 rfl (lv_room (Nat.le_of_ble_eq_true rfl)) dX10_isOrder_33 ⟨Nat.le_of_ble_eq_true rfl, Nat.le_of_ble_eq_true rfl⟩) hS (fun H locs hR hS hz => ?_)
          obtain ⟨v6, hp, hf⟩ := q_b hf
          have hJ : ∀ (H : Heap) (locs : List Loc) (ls : Array Slot), qR D kz b0 X H → va_S (qA b0) s.heap H locs → H.size = sz → lv_has ls 8 [(0, .ref a0), (1, .int a1), (2, .int a2), (4, .int v1), (6, .int v3), (7, .int v4)] → W p l e rmX10_isOrder s m args below meth c H locs 0 0 Q (F0 m 77 ls [.int v6]) := by
            intro H locs ls hR hS hz hl
            refine lv_istore (lv' := [(5, .int v6), (0, .ref a0), (1, .int a1), (2, .int a2), (4, .int v1), (6, .int v3), (7, .int v4)]) hx hb dX10_isOrder_77 hl (by decide) rfl (fun ls hl => ?_)
            refine lv_iload hx hb dX10_isOrder_79 (lv_at hl 4 rfl) ?_
            refine lv_iconst (v := (1 : Int32)) hx hb dX10_isOrder_81 (by decide) ?_
            refine lv_iload hx hb dX10_isOrder_82 (lv_at hl 6 rfl) ?_
            refine lv_ishl hx hb dX10_isOrder_84 ?_
            refine lv_iconst (v := (-1 : Int32)) hx hb dX10_isOrder_85 (by decide) ?_
            refine lv_ixor hx hb dX10_isOrder_86 ?_
            refine lv_iand hx hb dX10_isOrder_87 ?_
            refine lv_topi (fun v7 ev7 => ?_)
            have hf := q_lt ev7 hf
            refine lv_istore (lv' := [(4, .int v7), (5, .int v6), (0, .ref a0), (1, .int a1), (2, .int a2), (6, .int v3), (7, .int v4)]) hx hb dX10_isOrder_88 hl (by decide) rfl (fun ls hl => ?_)
            obtain ⟨v8, ev8⟩ : ∃ y : Int32, y = (v3 + (1 : Int32)) := ⟨_, rfl⟩
            have hf := q_lt ev8 hf
            refine lv_iinc (v := v8) (lv' := [(6, .int v8), (4, .int v7), (5, .int v6), (0, .ref a0), (1, .int a1), (2, .int a2), (7, .int v4)]) hx hb dX10_isOrder_90 hl (k := 5) rfl (by rw [ev8]; rfl) (by decide) rfl (fun ls hl => ?_)
            refine lv_goto (tgt := 9) hx hb dX10_isOrder_93 (by decide) ?_
            exact ih0 _ _ _ out hf hex _ _ _ hR hS hz (lv_sub hl [3, 4, 5, 1, 2, 0] rfl)
          have hf := hp
          refine lv_if_eq (tgt := 76) hx hb dX10_isOrder_36 (by decide) (fun hc => ?_) (fun hc => ?_)
          · have hf := q_t hf hc
            refine lv_iconst (v := (0 : Int32)) hx hb dX10_isOrder_76 (by decide) ?_
            cases hf
            exact hJ _ _ _ hR hS hz (lv_sub hl [1, 2, 3, 4, 6, 0] rfl)
          · have hf := q_f hf hc
            refine lv_iload hx hb dX10_isOrder_39 (lv_at hl 6 rfl) ?_
            refine lv_if_eq (tgt := 72) hx hb dX10_isOrder_41 (by decide) (fun hc => ?_) (fun hc => ?_)
            · have hf := q_t hf hc
              refine lv_iconst (v := (1 : Int32)) hx hb dX10_isOrder_72 (by decide) ?_
              refine lv_goto (tgt := 77) hx hb dX10_isOrder_73 (by decide) ?_
              cases hf
              exact hJ _ _ _ hR hS hz (lv_sub hl [1, 2, 3, 4, 6, 0] rfl)
            · have hf := q_f hf hc
              refine lv_aload_n hx hb dX10_isOrder_44 rfl (lv_at hl 1 rfl) ?_
              refine q_gR hx hb hT hown hK hR iqX10 vqX10 2 (by decide) (hT _ wfl_X10_7) hf dX10_isOrder_45 (fun v9 hf => ?_)
              refine lv_iload hx hb dX10_isOrder_48 (lv_at hl 0 rfl) ?_
              refine q_iald hx hb hK hR hf dX10_isOrder_50 (fun v10 hf => ?_)
              refine lv_aload_n hx hb dX10_isOrder_51 rfl (lv_at hl 1 rfl) ?_
              refine q_gR hx hb hT hown hK hR iqX10 vqX10 2 (by decide) (hT _ wfl_X10_7) hf dX10_isOrder_52 (fun v11 hf => ?_)
              refine lv_iload_n hx hb dX10_isOrder_55 rfl (lv_at hl 2 rfl) ?_
              refine lv_iload_n hx hb dX10_isOrder_56 rfl (lv_at hl 3 rfl) ?_
              refine lv_iload hx hb dX10_isOrder_57 (lv_at hl 6 rfl) ?_
              refine lv_iconst (v := (1 : Int32)) hx hb dX10_isOrder_59 (by decide) ?_
              refine lv_isub hx hb dX10_isOrder_60 ?_
              obtain ⟨v12, hc, hf⟩ := q_b hf
              refine q_calli (va_runS (As := [.int a1, .int a2, .int (v3 - (1 : Int32))]) (rest := [.ref v11, .int v10]) ⟨hx, hb, hml, hown, hT⟩ (mX10_figure l D kz b0 sz F X a1 a2 (v3 - (1 : Int32)) v12 hc) (va_cwS 3 hT (q_gS wco_X10_figure wml_X10_268 wst_X10_figure win_X10) rfl rfl rfl hdX10_figure ⟨Nat.le_of_ble_eq_true rfl, Nat.le_of_ble_eq_true rfl⟩) (q_preS hR hK hz) rfl rfl hl.1 rfl (lv_room (Nat.le_of_ble_eq_true rfl)) dX10_isOrder_61 ⟨Nat.le_of_ble_eq_true rfl, Nat.le_of_ble_eq_true rfl⟩) hS (fun H locs hR hS hz => ?_)
              refine q_iald hx hb hK hR hf dX10_isOrder_64 (fun v13 hf => ?_)
              obtain ⟨v14, hc, hf⟩ := q_b hf
              refine q_calli (va_runS (As := [.int v10, .int v13]) (rest := []) ⟨hx, hb, hml, hown, hT⟩ (mX10_apart l D kz b0 sz F X v10 v13 v14 hc) (va_cwS 2 hT (q_gS wco_X10_apart wml_X10_217 wst_X10_apart win_X10) rfl rfl rfl hdX10_apart ⟨Nat.le_of_ble_eq_true rfl, Nat.le_of_ble_eq_true rfl⟩) (q_preS hR hK hz) rfl rfl hl.1 rfl (lv_room (Nat.le_of_ble_eq_true rfl)) dX10_isOrder_65 ⟨Nat.le_of_ble_eq_true rfl, Nat.le_of_ble_eq_true rfl⟩) hS (fun H locs hR hS hz => ?_)
              refine lv_iconst (v := (1 : Int32)) hx hb dX10_isOrder_68 (by decide) ?_
              refine lv_icmp_eq (tgt := 76) hx hb dX10_isOrder_69 (by decide) (fun hc => ?_) (fun hc => ?_)
              · have hf := q_t hf hc
                refine lv_iconst (v := (0 : Int32)) hx hb dX10_isOrder_76 (by decide) ?_
                cases hf
                exact hJ _ _ _ hR hS hz (lv_sub hl [1, 2, 3, 4, 6, 0] rfl)
              · have hf := q_f hf hc
                refine lv_iconst (v := (1 : Int32)) hx hb dX10_isOrder_72 (by decide) ?_
                refine lv_goto (tgt := 77) hx hb dX10_isOrder_73 (by decide) ?_
                cases hf
                exact hJ _ _ _ hR hS hz (lv_sub hl [1, 2, 3, 4, 6, 0] rfl)
  refine hL F _ _ _ _ ho (fun z0 h9 => ?_) _ _ _ hR hS hz (lv_sub hl [3, 4, 5, 2, 1, 0] rfl)
  cases h9
  intro H locs ls hR hS hz hl
  refine lv_iload hx hb dX10_isOrder_96 (lv_at hl 3 rfl) ?_
  refine lv_if_ne (tgt := 103) hx hb dX10_isOrder_98 (by decide) (fun hc => ?_) (fun hc => ?_)
  · have hf := q_f hf hc
    refine lv_iconst (v := (0 : Int32)) hx hb dX10_isOrder_103 (by decide) ?_
    refine lv_istore (lv' := [(6, .int (0 : Int32)), (0, .ref a0), (1, .int a1), (2, .int a2), (5, .int v15)]) hx hb dX10_isOrder_104 hl (by decide) rfl (fun ls hl => ?_)
    obtain ⟨X23, ho, hf⟩ := q_b hf
    have hL : ∀ (n : Nat) (v16 : Int32) (X17 : qH) (out : qH), fX10_isOrder_L106 F a0 a1 a2 v15 n v16 X17 = some out → (∀ (X23 : qH), out = X23 → ∀ (H : Heap) (locs : List Loc) (ls : Array Slot), qR D kz b0 X23 H → va_S (qA b0) s.heap H locs → H.size = sz → lv_has ls 8 [(0, .ref a0), (1, .int a1), (2, .int a2), (5, .int v15)] → W p l e rmX10_isOrder s m args below meth c H locs 0 0 Q (F0 m 133 ls [])) → ∀ (H : Heap) (locs : List Loc) (ls : Array Slot), qR D kz b0 X17 H → va_S (qA b0) s.heap H locs → H.size = sz → lv_has ls 8 [(0, .ref a0), (1, .int a1), (2, .int a2), (5, .int v15), (6, .int v16)] → W p l e rmX10_isOrder s m args below meth c H locs 0 0 Q (F0 m 106 ls []) := by
      intro n9
      induction n9 with
      | zero =>
        intro v16 X17 out hf
        exact absurd (show none = some out from hf) (by simp)
      | succ n9 ih0 =>
        intro v16 X17 out hf hex H locs ls hR hS hz hl
        have hf : fX10_isOrder_L106_B F a0 a1 a2 v15 (fX10_isOrder_L106 F a0 a1 a2 v15 n9) v16 X17 = some out := hf
        unfold fX10_isOrder_L106_B at hf
        refine lv_iload hx hb dX10_isOrder_106 (lv_at hl 4 rfl) ?_
        refine lv_bipush (v := (43 : Int32)) hx hb dX10_isOrder_108 (by decide) ?_
        refine lv_icmp_ge (tgt := 133) hx hb dX10_isOrder_110 (by decide) (fun hc => ?_) (fun hc => ?_)
        · have hf := q_t hf hc
          exact hex _ (Option.some.inj hf).symm _ _ _ hR hS hz (lv_sub hl [0, 1, 2, 3] rfl)
        · have hf := q_f hf hc
          refine lv_aload_n hx hb dX10_isOrder_113 rfl (lv_at hl 0 rfl) ?_
          refine q_gR hx hb hT hown hK hR iqX10 vqX10 29 (by decide) (hT _ wfl_X10_65) hf dX10_isOrder_114 (fun v18 hf => ?_)
          refine lv_iload hx hb dX10_isOrder_117 (lv_at hl 4 rfl) ?_
          refine lv_aload_n hx hb dX10_isOrder_119 rfl (lv_at hl 0 rfl) ?_
          refine q_gR hx hb hT hown hK hR iqX10 vqX10 8 (by decide) (hT _ wfl_X10_29) hf dX10_isOrder_120 (fun v19 hf => ?_)
          refine lv_iload hx hb dX10_isOrder_123 (lv_at hl 4 rfl) ?_
          refine q_iald hx hb hK hR hf dX10_isOrder_125 (fun v20 hf => ?_)
          refine q_iast hx hb hK hR hS hz hf dX10_isOrder_126 (fun X21 hf H locs hR hS hz => ?_)
          obtain ⟨v22, ev22⟩ : ∃ y : Int32, y = (v16 + (1 : Int32)) := ⟨_, rfl⟩
          have hf := q_lt ev22 hf
          refine lv_iinc (v := v22) (lv' := [(6, .int v22), (0, .ref a0), (1, .int a1), (2, .int a2), (5, .int v15)]) hx hb dX10_isOrder_127 hl (k := 4) rfl (by rw [ev22]; rfl) (by decide) rfl (fun ls hl => ?_)
          refine lv_goto (tgt := 106) hx hb dX10_isOrder_130 (by decide) ?_
          exact ih0 _ _ out hf hex _ _ _ hR hS hz (lv_sub hl [1, 2, 3, 4, 0] rfl)
    refine hL F _ _ _ ho (fun z0 h9 => ?_) _ _ _ hR hS hz (lv_sub hl [1, 2, 3, 4, 0] rfl)
    cases h9
    intro H locs ls hR hS hz hl
    refine lv_iconst (v := (0 : Int32)) hx hb dX10_isOrder_133 (by decide) ?_
    refine lv_istore (lv' := [(6, .int (0 : Int32)), (0, .ref a0), (1, .int a1), (2, .int a2), (5, .int v15)]) hx hb dX10_isOrder_134 hl (by decide) rfl (fun ls hl => ?_)
    obtain ⟨v37, X38, ho, hf⟩ := q_b2 hf
    have hL : ∀ (n : Nat) (v24 : Int32) (v25 : Int32) (X26 : qH) (out : Int32 × qH), fX10_isOrder_L136 F a0 a1 a2 n v24 v25 X26 = some out → (∀ (v37 : Int32) (X38 : qH), out = (v37, X38) → ∀ (H : Heap) (locs : List Loc) (ls : Array Slot), qR D kz b0 X38 H → va_S (qA b0) s.heap H locs → H.size = sz → lv_has ls 8 [(0, .ref a0), (5, .int v37)] → W p l e rmX10_isOrder s m args below meth c H locs 0 0 Q (F0 m 198 ls [])) → ∀ (H : Heap) (locs : List Loc) (ls : Array Slot), qR D kz b0 X26 H → va_S (qA b0) s.heap H locs → H.size = sz → lv_has ls 8 [(0, .ref a0), (1, .int a1), (2, .int a2), (5, .int v24), (6, .int v25)] → W p l e rmX10_isOrder s m args below meth c H locs 0 0 Q (F0 m 136 ls []) := by
      intro n9
      induction n9 with
      | zero =>
        intro v24 v25 X26 out hf
        exact absurd (show none = some out from hf) (by simp)
      | succ n9 ih0 =>
        intro v24 v25 X26 out hf hex H locs ls hR hS hz hl
        have hf : fX10_isOrder_L136_B F a0 a1 a2 (fX10_isOrder_L136 F a0 a1 a2 n9) v24 v25 X26 = some out := hf
        unfold fX10_isOrder_L136_B at hf
        refine lv_iload hx hb dX10_isOrder_136 (lv_at hl 4 rfl) ?_
        refine lv_iload_n hx hb dX10_isOrder_138 rfl (lv_at hl 2 rfl) ?_
        refine lv_icmp_ge (tgt := 198) hx hb dX10_isOrder_139 (by decide) (fun hc => ?_) (fun hc => ?_)
        · have hf := q_t hf hc
          exact hex _ _ (Option.some.inj hf).symm _ _ _ hR hS hz (lv_sub hl [0, 3] rfl)
        · have hf := q_f hf hc
          refine lv_iload hx hb dX10_isOrder_142 (lv_at hl 3 rfl) ?_
          refine lv_if_eq (tgt := 198) hx hb dX10_isOrder_144 (by decide) (fun hc => ?_) (fun hc => ?_)
          · have hf := q_t hf hc
            exact hex _ _ (Option.some.inj hf).symm _ _ _ hR hS hz (lv_sub hl [0, 3] rfl)
          · have hf := q_f hf hc
            refine lv_iload_n hx hb dX10_isOrder_147 rfl (lv_at hl 1 rfl) ?_
            refine lv_iload_n hx hb dX10_isOrder_148 rfl (lv_at hl 2 rfl) ?_
            refine lv_iload hx hb dX10_isOrder_149 (lv_at hl 4 rfl) ?_
            obtain ⟨v27, hc, hf⟩ := q_b hf
            refine q_calli (va_runS (As := [.int a1, .int a2, .int v25]) (rest := []) ⟨hx, hb, hml, hown, hT⟩ (mX10_figure l D kz b0 sz F X26 a1 a2 v25 v27 hc) (va_cwS 3 hT (q_gS wco_X10_figure wml_X10_268 wst_X10_figure win_X10) rfl rfl rfl hdX10_figure ⟨Nat.le_of_ble_eq_true rfl, Nat.le_of_ble_eq_true rfl⟩) (q_preS hR hK hz) rfl rfl hl.1 rfl (lv_room (Nat.le_of_ble_eq_true rfl)) dX10_isOrder_151 ⟨Nat.le_of_ble_eq_true rfl, Nat.le_of_ble_eq_true rfl⟩) hS (fun H locs hR hS hz => ?_)
            refine lv_istore (lv' := [(7, .int v27), (0, .ref a0), (1, .int a1), (2, .int a2), (5, .int v24), (6, .int v25)]) hx hb dX10_isOrder_154 hl (by decide) rfl (fun ls hl => ?_)
            refine lv_aload_n hx hb dX10_isOrder_156 rfl (lv_at hl 1 rfl) ?_
            refine lv_iload hx hb dX10_isOrder_157 (lv_at hl 0 rfl) ?_
            obtain ⟨v28, hc, hf⟩ := q_b hf
            refine q_calli (va_runV (As := [.int v27]) (rest := []) ⟨hx, hb, hml, hown, hT⟩ (mX10_seers l D kz b0 sz F X26 a0 v27 v28 hc) (cwV 1 hT (q_gV wco_X10_seers wml_X10_229 wim_X10_seers wse_X10_seers win_X10) rfl rfl rfl hdX10_seers ⟨Nat.le_of_ble_eq_true rfl, Nat.le_of_ble_eq_true rfl⟩) (q_preV vqX10 (fX10_seers_is hc) hR hK hz) rfl rfl hl.1 rfl (lv_room (Nat.le_of_ble_eq_true rfl)) dX10_isOrder_159 ⟨Nat.le_of_ble_eq_true rfl, Nat.le_of_ble_eq_true rfl⟩) hS (fun H locs hR hS hz => ?_)
            obtain ⟨v29, hc, hf⟩ := q_b hf
            refine q_calli (va_runS (As := [.int v28]) (rest := []) ⟨hx, hb, hml, hown, hT⟩ (mX10_bits l D kz b0 sz F X26 v28 v29 hc) (va_cwS 1 hT (q_gS wco_X10_bits wml_X10_272 wst_X10_bits win_X10) rfl rfl rfl hdX10_bits ⟨Nat.le_of_ble_eq_true rfl, Nat.le_of_ble_eq_true rfl⟩) (q_preS hR hK hz) rfl rfl hl.1 rfl (lv_room (Nat.le_of_ble_eq_true rfl)) dX10_isOrder_162 ⟨Nat.le_of_ble_eq_true rfl, Nat.le_of_ble_eq_true rfl⟩) hS (fun H locs hR hS hz => ?_)
            refine lv_iconst (v := (2 : Int32)) hx hb dX10_isOrder_165 (by decide) ?_
            obtain ⟨v30, hp, hf⟩ := q_b hf
            have hJ : ∀ (H : Heap) (locs : List Loc) (ls : Array Slot), qR D kz b0 X26 H → va_S (qA b0) s.heap H locs → H.size = sz → lv_has ls 8 [(0, .ref a0), (1, .int a1), (2, .int a2), (6, .int v25), (7, .int v27)] → W p l e rmX10_isOrder s m args below meth c H locs 0 0 Q (F0 m 174 ls [.int v30]) := by
              intro H locs ls hR hS hz hl
              refine lv_istore (lv' := [(5, .int v30), (0, .ref a0), (1, .int a1), (2, .int a2), (6, .int v25), (7, .int v27)]) hx hb dX10_isOrder_174 hl (by decide) rfl (fun ls hl => ?_)
              refine lv_aload_n hx hb dX10_isOrder_176 rfl (lv_at hl 1 rfl) ?_
              refine lv_iload hx hb dX10_isOrder_177 (lv_at hl 5 rfl) ?_
              obtain ⟨X31, hc, hf⟩ := q_b hf
              refine q_callv (va_runV (As := [.int v27]) (rest := []) ⟨hx, hb, hml, hown, hT⟩ (mX10_lightNow l D kz b0 sz F X26 a0 v27 X31 hc) (cwV 1 hT (q_gV wco_X10_lightNow wml_X10_236 wim_X10_lightNow wse_X10_lightNow win_X10) rfl rfl rfl hdX10_lightNow ⟨Nat.le_of_ble_eq_true rfl, Nat.le_of_ble_eq_true rfl⟩) (q_preV vqX10 (fX10_lightNow_is hc) hR hK hz) rfl rfl hl.1 rfl (lv_room (Nat.le_of_ble_eq_true rfl)) dX10_isOrder_179 ⟨Nat.le_of_ble_eq_true rfl, Nat.le_of_ble_eq_true rfl⟩) hS (fun H locs hR hS hz => ?_)
              refine lv_aload_n hx hb dX10_isOrder_182 rfl (lv_at hl 1 rfl) ?_
              refine q_gR hx hb hT hown hK hR iqX10 vqX10 8 (by decide) (hT _ wfl_X10_29) hf dX10_isOrder_183 (fun v32 hf => ?_)
              refine lv_iconst (v := (2 : Int32)) hx hb dX10_isOrder_186 (by decide) ?_
              refine lv_dup2_11 hx hb dX10_isOrder_187 rfl rfl ?_
              refine q_iald hx hb hK hR hf dX10_isOrder_188 (fun v33 hf => ?_)
              refine lv_iconst (v := (1 : Int32)) hx hb dX10_isOrder_189 (by decide) ?_
              refine lv_iadd hx hb dX10_isOrder_190 ?_
              refine lv_topi (fun v34 ev34 => ?_)
              have hf := q_lt ev34 hf
              refine q_iast hx hb hK hR hS hz hf dX10_isOrder_191 (fun X35 hf H locs hR hS hz => ?_)
              obtain ⟨v36, ev36⟩ : ∃ y : Int32, y = (v25 + (1 : Int32)) := ⟨_, rfl⟩
              have hf := q_lt ev36 hf
              refine lv_iinc (v := v36) (lv' := [(6, .int v36), (5, .int v30), (0, .ref a0), (1, .int a1), (2, .int a2), (7, .int v27)]) hx hb dX10_isOrder_192 hl (k := 4) rfl (by rw [ev36]; rfl) (by decide) rfl (fun ls hl => ?_)
              refine lv_goto (tgt := 136) hx hb dX10_isOrder_195 (by decide) ?_
              exact ih0 _ _ _ out hf hex _ _ _ hR hS hz (lv_sub hl [2, 3, 4, 1, 0] rfl)
            have hf := hp
            refine lv_icmp_lt (tgt := 173) hx hb dX10_isOrder_166 (by decide) (fun hc => ?_) (fun hc => ?_)
            · have hf := q_t hf hc
              refine lv_iconst (v := (0 : Int32)) hx hb dX10_isOrder_173 (by decide) ?_
              cases hf
              exact hJ _ _ _ hR hS hz (lv_sub hl [1, 2, 3, 5, 0] rfl)
            · have hf := q_f hf hc
              refine lv_iconst (v := (1 : Int32)) hx hb dX10_isOrder_169 (by decide) ?_
              refine lv_goto (tgt := 174) hx hb dX10_isOrder_170 (by decide) ?_
              cases hf
              exact hJ _ _ _ hR hS hz (lv_sub hl [1, 2, 3, 5, 0] rfl)
    refine hL F _ _ _ _ ho (fun z0 z1 h9 => ?_) _ _ _ hR hS hz (lv_sub hl [1, 2, 3, 4, 0] rfl)
    cases h9
    intro H locs ls hR hS hz hl
    refine lv_iconst (v := (0 : Int32)) hx hb dX10_isOrder_198 (by decide) ?_
    refine lv_istore (lv' := [(6, .int (0 : Int32)), (0, .ref a0), (5, .int v37)]) hx hb dX10_isOrder_199 hl (by decide) rfl (fun ls hl => ?_)
    obtain ⟨X46, ho, hf⟩ := q_b hf
    have hL : ∀ (n : Nat) (v39 : Int32) (X40 : qH) (out : qH), fX10_isOrder_L201 F a0 v37 n v39 X40 = some out → (∀ (X46 : qH), out = X46 → ∀ (H : Heap) (locs : List Loc) (ls : Array Slot), qR D kz b0 X46 H → va_S (qA b0) s.heap H locs → H.size = sz → lv_has ls 8 [(5, .int v37)] → W p l e rmX10_isOrder s m args below meth c H locs 0 0 Q (F0 m 228 ls [])) → ∀ (H : Heap) (locs : List Loc) (ls : Array Slot), qR D kz b0 X40 H → va_S (qA b0) s.heap H locs → H.size = sz → lv_has ls 8 [(0, .ref a0), (5, .int v37), (6, .int v39)] → W p l e rmX10_isOrder s m args below meth c H locs 0 0 Q (F0 m 201 ls []) := by
      intro n9
      induction n9 with
      | zero =>
        intro v39 X40 out hf
        exact absurd (show none = some out from hf) (by simp)
      | succ n9 ih0 =>
        intro v39 X40 out hf hex H locs ls hR hS hz hl
        have hf : fX10_isOrder_L201_B F a0 v37 (fX10_isOrder_L201 F a0 v37 n9) v39 X40 = some out := hf
        unfold fX10_isOrder_L201_B at hf
        refine lv_iload hx hb dX10_isOrder_201 (lv_at hl 2 rfl) ?_
        refine lv_bipush (v := (43 : Int32)) hx hb dX10_isOrder_203 (by decide) ?_
        refine lv_icmp_ge (tgt := 228) hx hb dX10_isOrder_205 (by decide) (fun hc => ?_) (fun hc => ?_)
        · have hf := q_t hf hc
          exact hex _ (Option.some.inj hf).symm _ _ _ hR hS hz (lv_sub hl [1] rfl)
        · have hf := q_f hf hc
          refine lv_aload_n hx hb dX10_isOrder_208 rfl (lv_at hl 0 rfl) ?_
          refine q_gR hx hb hT hown hK hR iqX10 vqX10 8 (by decide) (hT _ wfl_X10_29) hf dX10_isOrder_209 (fun v41 hf => ?_)
          refine lv_iload hx hb dX10_isOrder_212 (lv_at hl 2 rfl) ?_
          refine lv_aload_n hx hb dX10_isOrder_214 rfl (lv_at hl 0 rfl) ?_
          refine q_gR hx hb hT hown hK hR iqX10 vqX10 29 (by decide) (hT _ wfl_X10_65) hf dX10_isOrder_215 (fun v42 hf => ?_)
          refine lv_iload hx hb dX10_isOrder_218 (lv_at hl 2 rfl) ?_
          refine q_iald hx hb hK hR hf dX10_isOrder_220 (fun v43 hf => ?_)
          refine q_iast hx hb hK hR hS hz hf dX10_isOrder_221 (fun X44 hf H locs hR hS hz => ?_)
          obtain ⟨v45, ev45⟩ : ∃ y : Int32, y = (v39 + (1 : Int32)) := ⟨_, rfl⟩
          have hf := q_lt ev45 hf
          refine lv_iinc (v := v45) (lv' := [(6, .int v45), (0, .ref a0), (5, .int v37)]) hx hb dX10_isOrder_222 hl (k := 2) rfl (by rw [ev45]; rfl) (by decide) rfl (fun ls hl => ?_)
          refine lv_goto (tgt := 201) hx hb dX10_isOrder_225 (by decide) ?_
          exact ih0 _ _ out hf hex _ _ _ hR hS hz (lv_sub hl [1, 2, 0] rfl)
    refine hL F _ _ _ ho (fun z0 h9 => ?_) _ _ _ hR hS hz (lv_sub hl [1, 2, 0] rfl)
    cases h9
    intro H locs ls hR hS hz hl
    refine lv_iload hx hb dX10_isOrder_228 (lv_at hl 0 rfl) ?_
    subst hQ
    obtain ⟨z9, hz9, hf⟩ := q_b hf
    obtain ⟨rfl, h01⟩ := qz_spec hz9
    obtain ⟨h8, h9⟩ := Prod.mk.inj (Option.some.inj hf)
    exact q_zret hx hb hr hlocks hR hS hz h8 h01 h9 dX10_isOrder_230
  · have hf := q_t hf hc
    refine lv_iconst (v := (0 : Int32)) hx hb dX10_isOrder_101 (by decide) ?_
    subst hQ
    obtain ⟨h8, h9⟩ := Prod.mk.inj (Option.some.inj hf)
    exact q_zret hx hb hr hlocks hR hS hz h8 (by decide) h9 dX10_isOrder_102
/-! X10_order -/
def fX10_order_L43_B (F : Nat) (a0 : Nat) (a1 : Int32) (a2 : Int32) (v2 : Int32) (self0 : Int32 → qH → Option ((Int32 × qH) ⊕ (qH))) (v4 : Int32) (X5 : qH) : Option ((Int32 × qH) ⊕ (qH)) :=
if ((1 : Int32) <<< (((3 : Int32) * v2) &&& 31)) ≤ v4 then (some (.inr X5))
else (qb2 (fX10_isOrder F X5 a0 v4 v2 a1) fun v6 X7 =>
if v6 = (0 : Int32) then (qlt (v4 + (1 : Int32)) fun v8 =>
self0 v8 X7)
else ((fX10_figure F X7 v4 v2 a2).bind fun v9 =>
some (.inl (v9, X7))))
def fX10_order_L43 (F : Nat) (a0 : Nat) (a1 : Int32) (a2 : Int32) (v2 : Int32) : Nat → Int32 → qH → Option ((Int32 × qH) ⊕ (qH))
  | 0, _, _ => none
  | n + 1, v4, X5 => fX10_order_L43_B F a0 a1 a2 v2 (fX10_order_L43 F a0 a1 a2 v2 n) v4 X5
def fX10_order (F : Nat) (X : qH) (a0 : Nat) (a1 : Int32) (a2 : Int32) : Option (Int32 × qH) :=
qIs 9 X a0 <|
(fX10_isSet F X a0 a1).bind fun v1 =>
if v1 = (0 : Int32) then (some ((-1000000001 : Int32), X))
else ((fX10_bits F X a1).bind fun v2 =>
if v2 ≤ (6 : Int32) then ((fX10_in F X ((a2).toInt64) (0 : Int64) (((v2 - (1 : Int32))).toInt64)).bind fun v3 =>
if v3 = (0 : Int32) then (some ((-1 : Int32), X))
else ((fX10_order_L43 F a0 a1 a2 v2 F (0 : Int32) X).bind fun o11 => qsm1 o11 (fun z => some z) fun X10 =>
some ((-1 : Int32), X10)))
else (some ((-1000000002 : Int32), X)))
abbrev rmX10_order : Room := { frames := 4, cells := 0, slots := 0, locals := 97 }
theorem fX10_order_is {F : Nat} {X : qH} {a0 : Nat} {a1 : Int32} {a2 : Int32} {r9 : Int32 × qH} (h : fX10_order F X a0 a1 a2 = some r9) : ∃ fs, X a0 = some (.inr (9, fs)) := (qIs_spec h).1
theorem hdX10_order : yX10_order.cls = RX10 ∧ yX10_order.cls ≠ "java/lang/invoke/MethodHandle" ∧ yX10_order.cls ≠ "java/lang/invoke/VarHandle" ∧ (parseMethodDescriptor yX10_order.desc).map (fun d => d.parameters.length) = some 2 := by decide +kernel
set_option maxHeartbeats 4000000 in
set_option maxRecDepth 100000 in
theorem mX10_order (l : Launch) (D : va_G) (kz : Nat → Nat) (b0 sz F : Nat) (X : qH) (a0 : Nat) (a1 : Int32) (a2 : Int32) (r : Int32) (Xr : qH) (hf : fX10_order F X a0 a1 a2 = some (r, Xr)) : Met l yX10_order (qws yX10_order cX10_order 5 (some .int)) rmX10_order (va_Pc [.ref a0, .int a1, .int a2] (qU D kz b0 sz X)) (va_Qi (fun (r' : Int32) (u : qH) => r' = r ∧ u = Xr) (fun u t => qO D kz b0 sz u t) (qA b0)) 0 0 (qA b0) := by
  refine q_start (by decide) (Nat.le_of_ble_eq_true rfl) ?_
  intro p e s m args below meth c hx hb hr hlocks hnm hml hown hT hR hK hz ls hl
  have hown : s.vm.findClass RX10 = some m.cls := hown
  have hl : lv_has ls 5 [(0, .ref a0), (1, .int a1), (2, .int a2)] := hl
  have hS : va_S (qA b0) s.heap s.heap [] := va_S.rf
  obtain ⟨Q, hQ⟩ : ∃ Q, Q = MQ below (va_Qi (fun (r' : Int32) (u : qH) => r' = r ∧ u = Xr) (fun u t => qO D kz b0 sz u t) (qA b0)) args s 0 0 (qA b0) := ⟨_, rfl⟩
  rw [← hQ]
  unfold fX10_order at hf
  obtain ⟨hthis, hf⟩ := qIs_spec hf
  refine lv_aload_n hx hb dX10_order_0 rfl (lv_at hl 0 rfl) ?_
  refine lv_iload_n hx hb dX10_order_1 rfl (lv_at hl 1 rfl) ?_
  obtain ⟨v1, hc, hf⟩ := q_b hf
  refine q_calli (va_runV (As := [.int a1]) (rest := []) ⟨hx, hb, hml, hown, hT⟩ (mX10_isSet l D kz b0 sz F X a0 a1 v1 hc) (cwV 1 hT (q_gV wco_X10_isSet wml_X10_275 wim_X10_isSet wse_X10_isSet win_X10) rfl rfl rfl hdX10_isSet ⟨Nat.le_of_ble_eq_true rfl, Nat.le_of_ble_eq_true rfl⟩) (q_preV vqX10 (fX10_isSet_is hc) hR hK hz) rfl rfl hl.1 rfl (lv_room (Nat.le_of_ble_eq_true rfl)) dX10_order_2 ⟨Nat.le_of_ble_eq_true rfl, Nat.le_of_ble_eq_true rfl⟩) hS (fun H locs hR hS hz => ?_)
  refine lv_if_ne (tgt := 11) hx hb dX10_order_5 (by decide) (fun hc => ?_) (fun hc => ?_)
  · have hf := q_f hf hc
    refine lv_iload_n hx hb dX10_order_11 rfl (lv_at hl 1 rfl) ?_
    obtain ⟨v2, hc, hf⟩ := q_b hf
    refine q_calli (va_runS (As := [.int a1]) (rest := []) ⟨hx, hb, hml, hown, hT⟩ (mX10_bits l D kz b0 sz F X a1 v2 hc) (va_cwS 1 hT (q_gS wco_X10_bits wml_X10_272 wst_X10_bits win_X10) rfl rfl rfl hdX10_bits ⟨Nat.le_of_ble_eq_true rfl, Nat.le_of_ble_eq_true rfl⟩) (q_preS hR hK hz) rfl rfl hl.1 rfl (lv_room (Nat.le_of_ble_eq_true rfl)) dX10_order_12 ⟨Nat.le_of_ble_eq_true rfl, Nat.le_of_ble_eq_true rfl⟩) hS (fun H locs hR hS hz => ?_)
    refine lv_istore_n (lv' := [(3, .int v2), (0, .ref a0), (1, .int a1), (2, .int a2)]) hx hb dX10_order_15 rfl hl (by decide) rfl (fun ls hl => ?_)
    refine lv_iload_n hx hb dX10_order_16 rfl (lv_at hl 0 rfl) ?_
    refine lv_bipush (v := (6 : Int32)) hx hb dX10_order_17 (by decide) ?_
    refine lv_icmp_le (tgt := 25) hx hb dX10_order_19 (by decide) (fun hc => ?_) (fun hc => ?_)
    · have hf := q_t hf hc
      refine lv_iload_n hx hb dX10_order_25 rfl (lv_at hl 3 rfl) ?_
      refine lv_i2l hx hb dX10_order_26 rfl ?_
      refine lv_lconst (v := (0 : Int64)) hx hb dX10_order_27 (by decide) ?_
      refine lv_iload_n hx hb dX10_order_28 rfl (lv_at hl 0 rfl) ?_
      refine lv_iconst (v := (1 : Int32)) hx hb dX10_order_29 (by decide) ?_
      refine lv_isub hx hb dX10_order_30 ?_
      refine lv_i2l hx hb dX10_order_31 rfl ?_
      obtain ⟨v3, hc, hf⟩ := q_b hf
      refine q_calli (va_runS (As := [.long ((a2).toInt64), .long (0 : Int64), .long (((v2 - (1 : Int32))).toInt64)]) (rest := []) ⟨hx, hb, hml, hown, hT⟩ (mX10_in l D kz b0 sz F X ((a2).toInt64) (0 : Int64) (((v2 - (1 : Int32))).toInt64) v3 hc) (va_cwS 3 hT (q_gS wco_X10_in wml_X10_105 wst_X10_in win_X10) rfl rfl rfl hdX10_in ⟨Nat.le_of_ble_eq_true rfl, Nat.le_of_ble_eq_true rfl⟩) (q_preS hR hK hz) rfl rfl hl.1 rfl (lv_room (Nat.le_of_ble_eq_true rfl)) dX10_order_32 ⟨Nat.le_of_ble_eq_true rfl, Nat.le_of_ble_eq_true rfl⟩) hS (fun H locs hR hS hz => ?_)
      refine lv_if_ne (tgt := 40) hx hb dX10_order_35 (by decide) (fun hc => ?_) (fun hc => ?_)
      · have hf := q_f hf hc
        refine lv_iconst (v := (0 : Int32)) hx hb dX10_order_40 (by decide) ?_
        refine lv_istore (lv' := [(4, .int (0 : Int32)), (3, .int v2), (0, .ref a0), (1, .int a1), (2, .int a2)]) hx hb dX10_order_41 hl (by decide) rfl (fun ls hl => ?_)
        obtain ⟨o11, ho, hf⟩ := q_b hf
        have hL : ∀ (n : Nat) (v4 : Int32) (X5 : qH) (out : (Int32 × qH) ⊕ (qH)), fX10_order_L43 F a0 a1 a2 v2 n v4 X5 = some out → (∀ z, out = .inl z → z = (r, Xr)) → (∀ (X10 : qH), out = .inr X10 → ∀ (H : Heap) (locs : List Loc) (ls : Array Slot), qR D kz b0 X10 H → va_S (qA b0) s.heap H locs → H.size = sz → lv_has ls 5 [] → W p l e rmX10_order s m args below meth c H locs 0 0 Q (F0 m 78 ls [])) → ∀ (H : Heap) (locs : List Loc) (ls : Array Slot), qR D kz b0 X5 H → va_S (qA b0) s.heap H locs → H.size = sz → lv_has ls 5 [(0, .ref a0), (1, .int a1), (2, .int a2), (3, .int v2), (4, .int v4)] → W p l e rmX10_order s m args below meth c H locs 0 0 Q (F0 m 43 ls []) := by
          intro n9
          induction n9 with
          | zero =>
            intro v4 X5 out hf
            exact absurd (show none = some out from hf) (by simp)
          | succ n9 ih0 =>
            intro v4 X5 out hf hret hex H locs ls hR hS hz hl
            have hf : fX10_order_L43_B F a0 a1 a2 v2 (fX10_order_L43 F a0 a1 a2 v2 n9) v4 X5 = some out := hf
            unfold fX10_order_L43_B at hf
            refine lv_iload hx hb dX10_order_43 (lv_at hl 4 rfl) ?_
            refine lv_iconst (v := (1 : Int32)) hx hb dX10_order_45 (by decide) ?_
            refine lv_iconst (v := (3 : Int32)) hx hb dX10_order_46 (by decide) ?_
            refine lv_iload_n hx hb dX10_order_47 rfl (lv_at hl 3 rfl) ?_
            refine lv_imul hx hb dX10_order_48 ?_
            refine lv_ishl hx hb dX10_order_49 ?_
            refine lv_icmp_ge (tgt := 78) hx hb dX10_order_50 (by decide) (fun hc => ?_) (fun hc => ?_)
            · have hf := q_t hf hc
              exact hex _ (Option.some.inj hf).symm _ _ _ hR hS hz (lv_sub hl [] rfl)
            · have hf := q_f hf hc
              refine lv_aload_n hx hb dX10_order_53 rfl (lv_at hl 0 rfl) ?_
              refine lv_iload hx hb dX10_order_54 (lv_at hl 4 rfl) ?_
              refine lv_iload_n hx hb dX10_order_56 rfl (lv_at hl 3 rfl) ?_
              refine lv_iload_n hx hb dX10_order_57 rfl (lv_at hl 1 rfl) ?_
              obtain ⟨v6, X7, hc, hf⟩ := q_b2 hf
              refine q_calli (va_runV (As := [.int v4, .int v2, .int a1]) (rest := []) ⟨hx, hb, hml, hown, hT⟩ (mX10_isOrder l D kz b0 sz F X5 a0 v4 v2 a1 v6 X7 hc) (cwV 3 hT (q_gV wco_X10_isOrder wml_X10_278 wim_X10_isOrder wse_X10_isOrder win_X10) rfl rfl rfl hdX10_isOrder ⟨Nat.le_of_ble_eq_true rfl, Nat.le_of_ble_eq_true rfl⟩) (q_preV vqX10 (fX10_isOrder_is hc) hR hK hz) rfl rfl hl.1 rfl (lv_room (Nat.le_of_ble_eq_true rfl)) dX10_order_58 ⟨Nat.le_of_ble_eq_true rfl, Nat.le_of_ble_eq_true rfl⟩) hS (fun H locs hR hS hz => ?_)
              refine lv_if_eq (tgt := 72) hx hb dX10_order_61 (by decide) (fun hc => ?_) (fun hc => ?_)
              · have hf := q_t hf hc
                obtain ⟨v8, ev8⟩ : ∃ y : Int32, y = (v4 + (1 : Int32)) := ⟨_, rfl⟩
                have hf := q_lt ev8 hf
                refine lv_iinc (v := v8) (lv' := [(4, .int v8), (0, .ref a0), (1, .int a1), (2, .int a2), (3, .int v2)]) hx hb dX10_order_72 hl (k := 4) rfl (by rw [ev8]; rfl) (by decide) rfl (fun ls hl => ?_)
                refine lv_goto (tgt := 43) hx hb dX10_order_75 (by decide) ?_
                exact ih0 _ _ out hf hret hex _ _ _ hR hS hz (lv_sub hl [1, 2, 3, 4, 0] rfl)
              · have hf := q_f hf hc
                refine lv_iload hx hb dX10_order_64 (lv_at hl 4 rfl) ?_
                refine lv_iload_n hx hb dX10_order_66 rfl (lv_at hl 3 rfl) ?_
                refine lv_iload_n hx hb dX10_order_67 rfl (lv_at hl 2 rfl) ?_
                obtain ⟨v9, hc, hf⟩ := q_b hf
                refine q_calli (va_runS (As := [.int v4, .int v2, .int a2]) (rest := []) ⟨hx, hb, hml, hown, hT⟩ (mX10_figure l D kz b0 sz F X7 v4 v2 a2 v9 hc) (va_cwS 3 hT (q_gS wco_X10_figure wml_X10_268 wst_X10_figure win_X10) rfl rfl rfl hdX10_figure ⟨Nat.le_of_ble_eq_true rfl, Nat.le_of_ble_eq_true rfl⟩) (q_preS hR hK hz) rfl rfl hl.1 rfl (lv_room (Nat.le_of_ble_eq_true rfl)) dX10_order_68 ⟨Nat.le_of_ble_eq_true rfl, Nat.le_of_ble_eq_true rfl⟩) hS (fun H locs hR hS hz => ?_)
                subst hQ
                obtain ⟨h8, h9⟩ := Prod.mk.inj (hret _ (Option.some.inj hf).symm)
                exact q_iret hx hb hr hlocks hR hS hz h8 h9 dX10_order_71
        refine hL F _ _ o11 ho (fun z hz9 => by subst hz9; exact Option.some.inj hf) (fun X10 h9 => ?_) _ _ _ hR hS hz (lv_sub hl [2, 3, 4, 1, 0] rfl)
        subst h9
        intro H locs ls hR hS hz hl
        have hf := qsm1_r hf
        refine lv_iconst (v := (-1 : Int32)) hx hb dX10_order_78 (by decide) ?_
        subst hQ
        obtain ⟨h8, h9⟩ := Prod.mk.inj (Option.some.inj hf)
        exact q_iret hx hb hr hlocks hR hS hz h8 h9 dX10_order_79
      · have hf := q_t hf hc
        refine lv_iconst (v := (-1 : Int32)) hx hb dX10_order_38 (by decide) ?_
        subst hQ
        obtain ⟨h8, h9⟩ := Prod.mk.inj (Option.some.inj hf)
        exact q_iret hx hb hr hlocks hR hS hz h8 h9 dX10_order_39
    · have hf := q_f hf hc
      refine lv_ldc (v := (-1000000002 : Int32)) hx hb hown (hT _ wk_X10_111) dX10_order_22 ?_
      subst hQ
      obtain ⟨h8, h9⟩ := Prod.mk.inj (Option.some.inj hf)
      exact q_iret hx hb hr hlocks hR hS hz h8 h9 dX10_order_24
  · have hf := q_t hf hc
    refine lv_ldc (v := (-1000000001 : Int32)) hx hb hown (hT _ wk_X10_207) dX10_order_8 ?_
    subst hQ
    obtain ⟨h8, h9⟩ := Prod.mk.inj (Option.some.inj hf)
    exact q_iret hx hb hr hlocks hR hS hz h8 h9 dX10_order_10
/-! X10_signers -/
def fX10_signers_L15_B (F : Nat) (X : qH) (a0 : Nat) (a1 : Int32) (self0 : Int32 → Int32 → Option (Int32)) (v2 : Int32) (v3 : Int32) : Option (Int32) :=
(qgI X 9 a0 1).bind fun v4 =>
if v4 ≤ v3 then (some v2)
else ((fX10_readAs F X a0 v3).bind fun v5 =>
(if v5 = a1 then (some ((1 : Int32) <<< (v3 &&& 31)))
else (some (0 : Int32)) : Option Int32).bind fun v6 =>
qlt (v2 ||| v6) fun v7 =>
qlt (v3 + (1 : Int32)) fun v8 =>
self0 v7 v8)
def fX10_signers_L15 (F : Nat) (X : qH) (a0 : Nat) (a1 : Int32) : Nat → Int32 → Int32 → Option (Int32)
  | 0, _, _ => none
  | n + 1, v2, v3 => fX10_signers_L15_B F X a0 a1 (fX10_signers_L15 F X a0 a1 n) v2 v3
def fX10_signers (F : Nat) (X : qH) (a0 : Nat) (a1 : Int32) : Option (Int32) :=
qIs 9 X a0 <|
(fX10_isHouse F X a0 a1).bind fun v1 =>
if v1 = (0 : Int32) then (some (-1000000001 : Int32))
else ((fX10_signers_L15 F X a0 a1 F (0 : Int32) (0 : Int32)).bind fun v9 =>
some v9)
abbrev rmX10_signers : Room := { frames := 2, cells := 0, slots := 0, locals := 46 }
theorem fX10_signers_is {F : Nat} {X : qH} {a0 : Nat} {a1 : Int32} {r9 : Int32} (h : fX10_signers F X a0 a1 = some r9) : ∃ fs, X a0 = some (.inr (9, fs)) := (qIs_spec h).1
theorem hdX10_signers : yX10_signers.cls = RX10 ∧ yX10_signers.cls ≠ "java/lang/invoke/MethodHandle" ∧ yX10_signers.cls ≠ "java/lang/invoke/VarHandle" ∧ (parseMethodDescriptor yX10_signers.desc).map (fun d => d.parameters.length) = some 1 := by decide +kernel
set_option maxHeartbeats 4000000 in
set_option maxRecDepth 100000 in
theorem mX10_signers (l : Launch) (D : va_G) (kz : Nat → Nat) (b0 sz F : Nat) (X : qH) (a0 : Nat) (a1 : Int32) (r : Int32) (hf : fX10_signers F X a0 a1 = some r) : Met l yX10_signers (qws yX10_signers cX10_signers 4 (some .int)) rmX10_signers (va_Pc [.ref a0, .int a1] (qU D kz b0 sz X)) (va_Qi (fun (r' : Int32) (u : qH) => r' = r ∧ u = X) (fun u t => qO D kz b0 sz u t) (qA b0)) 0 0 (qA b0) := by
  refine q_start (by decide) (Nat.le_of_ble_eq_true rfl) ?_
  intro p e s m args below meth c hx hb hr hlocks hnm hml hown hT hR hK hz ls hl
  have hown : s.vm.findClass RX10 = some m.cls := hown
  have hl : lv_has ls 4 [(0, .ref a0), (1, .int a1)] := hl
  have hS : va_S (qA b0) s.heap s.heap [] := va_S.rf
  obtain ⟨Q, hQ⟩ : ∃ Q, Q = MQ below (va_Qi (fun (r' : Int32) (u : qH) => r' = r ∧ u = X) (fun u t => qO D kz b0 sz u t) (qA b0)) args s 0 0 (qA b0) := ⟨_, rfl⟩
  rw [← hQ]
  unfold fX10_signers at hf
  obtain ⟨hthis, hf⟩ := qIs_spec hf
  refine lv_aload_n hx hb dX10_signers_0 rfl (lv_at hl 0 rfl) ?_
  refine lv_iload_n hx hb dX10_signers_1 rfl (lv_at hl 1 rfl) ?_
  obtain ⟨v1, hc, hf⟩ := q_b hf
  refine q_calli (va_runV (As := [.int a1]) (rest := []) ⟨hx, hb, hml, hown, hT⟩ (mX10_isHouse l D kz b0 sz F X a0 a1 v1 hc) (cwV 1 hT (q_gV wco_X10_isHouse wml_X10_204 wim_X10_isHouse wse_X10_isHouse win_X10) rfl rfl rfl hdX10_isHouse ⟨Nat.le_of_ble_eq_true rfl, Nat.le_of_ble_eq_true rfl⟩) (q_preV vqX10 (fX10_isHouse_is hc) hR hK hz) rfl rfl hl.1 rfl (lv_room (Nat.le_of_ble_eq_true rfl)) dX10_signers_2 ⟨Nat.le_of_ble_eq_true rfl, Nat.le_of_ble_eq_true rfl⟩) hS (fun H locs hR hS hz => ?_)
  refine lv_if_ne (tgt := 11) hx hb dX10_signers_5 (by decide) (fun hc => ?_) (fun hc => ?_)
  · have hf := q_f hf hc
    refine lv_iconst (v := (0 : Int32)) hx hb dX10_signers_11 (by decide) ?_
    refine lv_istore_n (lv' := [(2, .int (0 : Int32)), (0, .ref a0), (1, .int a1)]) hx hb dX10_signers_12 rfl hl (by decide) rfl (fun ls hl => ?_)
    refine lv_iconst (v := (0 : Int32)) hx hb dX10_signers_13 (by decide) ?_
    refine lv_istore_n (lv' := [(3, .int (0 : Int32)), (2, .int (0 : Int32)), (0, .ref a0), (1, .int a1)]) hx hb dX10_signers_14 rfl hl (by decide) rfl (fun ls hl => ?_)
    obtain ⟨v9, ho, hf⟩ := q_b hf
    have hL : ∀ (n : Nat) (v2 : Int32) (v3 : Int32) (out : Int32), fX10_signers_L15 F X a0 a1 n v2 v3 = some out → (∀ (v9 : Int32), out = v9 → ∀ (H : Heap) (locs : List Loc) (ls : Array Slot), qR D kz b0 X H → va_S (qA b0) s.heap H locs → H.size = sz → lv_has ls 4 [(2, .int v9)] → W p l e rmX10_signers s m args below meth c H locs 0 0 Q (F0 m 48 ls [])) → ∀ (H : Heap) (locs : List Loc) (ls : Array Slot), qR D kz b0 X H → va_S (qA b0) s.heap H locs → H.size = sz → lv_has ls 4 [(0, .ref a0), (1, .int a1), (2, .int v2), (3, .int v3)] → W p l e rmX10_signers s m args below meth c H locs 0 0 Q (F0 m 15 ls []) := by
      intro n9
      induction n9 with
      | zero =>
        intro v2 v3 out hf
        exact absurd (show none = some out from hf) (by simp)
      | succ n9 ih0 =>
        intro v2 v3 out hf hex H locs ls hR hS hz hl
        have hf : fX10_signers_L15_B F X a0 a1 (fX10_signers_L15 F X a0 a1 n9) v2 v3 = some out := hf
        unfold fX10_signers_L15_B at hf
        refine lv_iload_n hx hb dX10_signers_15 rfl (lv_at hl 3 rfl) ?_
        refine lv_aload_n hx hb dX10_signers_16 rfl (lv_at hl 0 rfl) ?_
        refine q_gI hx hb hT hown hK hR iqX10 vqX10 1 (by decide) (hT _ wfl_X10_102) hf dX10_signers_17 (fun v4 hf => ?_)
        refine lv_icmp_ge (tgt := 48) hx hb dX10_signers_20 (by decide) (fun hc => ?_) (fun hc => ?_)
        · have hf := q_t hf hc
          exact hex _ (Option.some.inj hf).symm _ _ _ hR hS hz (lv_sub hl [2] rfl)
        · have hf := q_f hf hc
          refine lv_iload_n hx hb dX10_signers_23 rfl (lv_at hl 2 rfl) ?_
          refine lv_aload_n hx hb dX10_signers_24 rfl (lv_at hl 0 rfl) ?_
          refine lv_iload_n hx hb dX10_signers_25 rfl (lv_at hl 3 rfl) ?_
          obtain ⟨v5, hc, hf⟩ := q_b hf
          refine q_calli (va_runV (As := [.int v3]) (rest := [.int v2]) ⟨hx, hb, hml, hown, hT⟩ (mX10_readAs l D kz b0 sz F X a0 v3 v5 hc) (cwV 1 hT (q_gV wco_X10_readAs wml_X10_211 wim_X10_readAs wse_X10_readAs win_X10) rfl rfl rfl hdX10_readAs ⟨Nat.le_of_ble_eq_true rfl, Nat.le_of_ble_eq_true rfl⟩) (q_preV vqX10 (fX10_readAs_is hc) hR hK hz) rfl rfl hl.1 rfl (lv_room (Nat.le_of_ble_eq_true rfl)) dX10_signers_26 ⟨Nat.le_of_ble_eq_true rfl, Nat.le_of_ble_eq_true rfl⟩) hS (fun H locs hR hS hz => ?_)
          refine lv_iload_n hx hb dX10_signers_29 rfl (lv_at hl 1 rfl) ?_
          obtain ⟨v6, hp, hf⟩ := q_b hf
          have hJ : ∀ (H : Heap) (locs : List Loc) (ls : Array Slot), qR D kz b0 X H → va_S (qA b0) s.heap H locs → H.size = sz → lv_has ls 4 [(0, .ref a0), (1, .int a1), (3, .int v3)] → W p l e rmX10_signers s m args below meth c H locs 0 0 Q (F0 m 40 ls [.int v6, .int v2]) := by
            intro H locs ls hR hS hz hl
            refine lv_ior hx hb dX10_signers_40 ?_
            refine lv_topi (fun v7 ev7 => ?_)
            have hf := q_lt ev7 hf
            refine lv_istore_n (lv' := [(2, .int v7), (0, .ref a0), (1, .int a1), (3, .int v3)]) hx hb dX10_signers_41 rfl hl (by decide) rfl (fun ls hl => ?_)
            obtain ⟨v8, ev8⟩ : ∃ y : Int32, y = (v3 + (1 : Int32)) := ⟨_, rfl⟩
            have hf := q_lt ev8 hf
            refine lv_iinc (v := v8) (lv' := [(3, .int v8), (2, .int v7), (0, .ref a0), (1, .int a1)]) hx hb dX10_signers_42 hl (k := 3) rfl (by rw [ev8]; rfl) (by decide) rfl (fun ls hl => ?_)
            refine lv_goto (tgt := 15) hx hb dX10_signers_45 (by decide) ?_
            exact ih0 _ _ out hf hex _ _ _ hR hS hz (lv_sub hl [2, 3, 1, 0] rfl)
          have hf := hp
          refine lv_icmp_ne (tgt := 39) hx hb dX10_signers_30 (by decide) (fun hc => ?_) (fun hc => ?_)
          · have hf := q_f hf hc
            refine lv_iconst (v := (0 : Int32)) hx hb dX10_signers_39 (by decide) ?_
            cases hf
            exact hJ _ _ _ hR hS hz (lv_sub hl [0, 1, 3] rfl)
          · have hf := q_t hf hc
            refine lv_iconst (v := (1 : Int32)) hx hb dX10_signers_33 (by decide) ?_
            refine lv_iload_n hx hb dX10_signers_34 rfl (lv_at hl 3 rfl) ?_
            refine lv_ishl hx hb dX10_signers_35 ?_
            refine lv_goto (tgt := 40) hx hb dX10_signers_36 (by decide) ?_
            cases hf
            exact hJ _ _ _ hR hS hz (lv_sub hl [0, 1, 3] rfl)
    refine hL F _ _ _ ho (fun z0 h9 => ?_) _ _ _ hR hS hz (lv_sub hl [2, 3, 1, 0] rfl)
    cases h9
    intro H locs ls hR hS hz hl
    refine lv_iload_n hx hb dX10_signers_48 rfl (lv_at hl 0 rfl) ?_
    subst hQ
    exact q_iret hx hb hr hlocks hR hS hz (Option.some.inj hf) rfl dX10_signers_49
  · have hf := q_t hf hc
    refine lv_ldc (v := (-1000000001 : Int32)) hx hb hown (hT _ wk_X10_207) dX10_signers_8 ?_
    subst hQ
    exact q_iret hx hb hr hlocks hR hS hz (Option.some.inj hf) rfl dX10_signers_10
