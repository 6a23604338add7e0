/-! X10_ask -/
def fX10_ask (F : Nat) (X : qH) (a0 : Nat) (a1 : Int32) (a2 : Int32) : Option (qH) :=
qIs 9 X a0 <|
(qgR X 9 a0 32).bind fun v1 =>
(qaI X 0 v1 a2).bind fun v2 =>
qlab (fun (_ : Unit) =>
(if v2 < (0 : Int32) then (some X)
else ((qgR X 9 a0 32).bind fun v8 =>
(qaS X 0 v8 v2 (-1 : Int32)).bind fun X9 =>
(qgR X9 9 a0 31).bind fun v10 =>
(qaI X9 0 v10 v2).bind fun v11 =>
qlt (v11 ||| ((1 : Int32) <<< (a2 &&& 31))) fun v12 =>
(qaS X9 0 v10 v2 v12).bind fun X13 =>
some X13) : Option qH).bind fun X3 =>
(qgR X3 9 a0 32).bind fun v4 =>
(qaS X3 0 v4 a2 a1).bind fun X5 =>
(qgR X5 9 a0 32).bind fun v6 =>
(qaS X5 0 v6 a1 a2).bind fun X7 =>
some X7) fun J19 =>
if v2 < (0 : Int32) then (J19 ())
else ((fX10_isKeptOf F X a0 a2 v2 a1).bind fun v14 =>
if v14 = (0 : Int32) then (J19 ())
else ((qgR X 9 a0 31).bind fun v15 =>
(qaI X 0 v15 a1).bind fun v16 =>
qlt (v16 ||| ((1 : Int32) <<< (a2 &&& 31))) fun v17 =>
(qaS X 0 v15 a1 v17).bind fun X18 =>
some X18))
abbrev rmX10_ask : Room := { frames := 2, cells := 0, slots := 0, locals := 46 }
theorem fX10_ask_is {F : Nat} {X : qH} {a0 : Nat} {a1 : Int32} {a2 : Int32} {r9 : qH} (h : fX10_ask F X a0 a1 a2 = some r9) : ∃ fs, X a0 = some (.inr (9, fs)) := (qIs_spec h).1
theorem hdX10_ask : yX10_ask.cls = RX10 ∧ yX10_ask.cls ≠ "java/lang/invoke/MethodHandle" ∧ yX10_ask.cls ≠ "java/lang/invoke/VarHandle" ∧ (parseMethodDescriptor yX10_ask.desc).map (fun d => d.parameters.length) = some 2 := by decide +kernel
set_option maxHeartbeats 4000000 in
set_option maxRecDepth 100000 in
theorem mX10_ask (l : Launch) (D : va_G) (kz : Nat → Nat) (b0 sz F : Nat) (X : qH) (a0 : Nat) (a1 : Int32) (a2 : Int32)  (Xr : qH) (hf : fX10_ask F X a0 a1 a2 = some Xr) : Met l yX10_ask (qws yX10_ask cX10_ask 4 none) rmX10_ask (va_Pc [.ref a0, .int a1, .int a2] (qU D kz b0 sz X)) (va_Qv (fun (u : qH) => u = Xr) (fun u t => qO D kz b0 sz u t) (qA b0)) 0 0 (qA b0) := by
  refine q_start (by decide) (Nat.le_of_ble_eq_true rfl) ?_
  intro p e s m args below meth c hx hb hr hlocks hnm hml hown hT hR hK hz ls hl
  have hown : s.vm.findClass RX10 = some m.cls := hown
  have hl : lv_has ls 4 [(0, .ref a0), (1, .int a1), (2, .int a2)] := hl
  have hS : va_S (qA b0) s.heap s.heap [] := va_S.rf
  obtain ⟨Q, hQ⟩ : ∃ Q, Q = MQ below (va_Qv (fun (u : qH) => u = Xr) (fun u t => qO D kz b0 sz u t) (qA b0)) args s 0 0 (qA b0) := ⟨_, rfl⟩
  rw [← hQ]
  unfold fX10_ask at hf
  obtain ⟨hthis, hf⟩ := qIs_spec hf
  refine lv_aload_n hx hb dX10_ask_0 rfl (lv_at hl 0 rfl) ?_
  refine q_gR hx hb hT hown hK hR iqX10 vqX10 32 (by decide) (hT _ wfl_X10_74) hf dX10_ask_1 (fun v1 hf => ?_)
  refine lv_iload_n hx hb dX10_ask_4 rfl (lv_at hl 2 rfl) ?_
  refine q_iald hx hb hK hR hf dX10_ask_5 (fun v2 hf => ?_)
  refine lv_istore_n (lv' := [(3, .int v2), (0, .ref a0), (1, .int a1), (2, .int a2)]) hx hb dX10_ask_6 rfl hl (by decide) rfl (fun ls hl => ?_)
  refine lv_iload_n hx hb dX10_ask_7 rfl (lv_at hl 0 rfl) ?_
  obtain ⟨J19, hJd, hf⟩ := q_lab hf
  have hJ34 : ∀ (_ : Unit), J19 () = some Xr → ∀ (H : Heap) (locs : List Loc) (ls : Array Slot), qR D kz b0 X H → va_S (qA b0) s.heap H locs → H.size = sz → lv_has ls 4 [(0, .ref a0), (1, .int a1), (2, .int a2), (3, .int v2)] → W p l e rmX10_ask s m args below meth c H locs 0 0 Q (F0 m 34 ls []) := by
    intro _ hf H locs ls hR hS hz hl
    rw [hJd] at hf
    refine lv_iload_n hx hb dX10_ask_34 rfl (lv_at hl 3 rfl) ?_
    obtain ⟨X3, hp, hf⟩ := q_b hf
    have hJ : ∀ (H : Heap) (locs : List Loc) (ls : Array Slot), qR D kz b0 X3 H → va_S (qA b0) s.heap H locs → H.size = sz → lv_has ls 4 [(0, .ref a0), (1, .int a1), (2, .int a2)] → W p l e rmX10_ask s m args below meth c H locs 0 0 Q (F0 m 57 ls []) := by
      intro H locs ls hR hS hz hl
      refine lv_aload_n hx hb dX10_ask_57 rfl (lv_at hl 0 rfl) ?_
      refine q_gR hx hb hT hown hK hR iqX10 vqX10 32 (by decide) (hT _ wfl_X10_74) hf dX10_ask_58 (fun v4 hf => ?_)
      refine lv_iload_n hx hb dX10_ask_61 rfl (lv_at hl 2 rfl) ?_
      refine lv_iload_n hx hb dX10_ask_62 rfl (lv_at hl 1 rfl) ?_
      refine q_iast hx hb hK hR hS hz hf dX10_ask_63 (fun X5 hf H locs hR hS hz => ?_)
      refine lv_aload_n hx hb dX10_ask_64 rfl (lv_at hl 0 rfl) ?_
      refine q_gR hx hb hT hown hK hR iqX10 vqX10 32 (by decide) (hT _ wfl_X10_74) hf dX10_ask_65 (fun v6 hf => ?_)
      refine lv_iload_n hx hb dX10_ask_68 rfl (lv_at hl 1 rfl) ?_
      refine lv_iload_n hx hb dX10_ask_69 rfl (lv_at hl 2 rfl) ?_
      refine q_iast hx hb hK hR hS hz hf dX10_ask_70 (fun X7 hf H locs hR hS hz => ?_)
      subst hQ
      exact q_vret hx hb hr hlocks hR hS hz (Option.some.inj hf) dX10_ask_71
    have hf := hp
    refine lv_if_lt (tgt := 57) hx hb dX10_ask_35 (by decide) (fun hc => ?_) (fun hc => ?_)
    · have hf := q_t hf hc
      cases hf
      exact hJ _ _ _ hR hS hz (lv_sub hl [0, 1, 2] rfl)
    · have hf := q_f hf hc
      refine lv_aload_n hx hb dX10_ask_38 rfl (lv_at hl 0 rfl) ?_
      refine q_gR hx hb hT hown hK hR iqX10 vqX10 32 (by decide) (hT _ wfl_X10_74) hf dX10_ask_39 (fun v8 hf => ?_)
      refine lv_iload_n hx hb dX10_ask_42 rfl (lv_at hl 3 rfl) ?_
      refine lv_iconst (v := (-1 : Int32)) hx hb dX10_ask_43 (by decide) ?_
      refine q_iast hx hb hK hR hS hz hf dX10_ask_44 (fun X9 hf H locs hR hS hz => ?_)
      refine lv_aload_n hx hb dX10_ask_45 rfl (lv_at hl 0 rfl) ?_
      refine q_gR hx hb hT hown hK hR iqX10 vqX10 31 (by decide) (hT _ wfl_X10_71) hf dX10_ask_46 (fun v10 hf => ?_)
      refine lv_iload_n hx hb dX10_ask_49 rfl (lv_at hl 3 rfl) ?_
      refine lv_dup2_11 hx hb dX10_ask_50 rfl rfl ?_
      refine q_iald hx hb hK hR hf dX10_ask_51 (fun v11 hf => ?_)
      refine lv_iconst (v := (1 : Int32)) hx hb dX10_ask_52 (by decide) ?_
      refine lv_iload_n hx hb dX10_ask_53 rfl (lv_at hl 2 rfl) ?_
      refine lv_ishl hx hb dX10_ask_54 ?_
      refine lv_ior hx hb dX10_ask_55 ?_
      refine lv_topi (fun v12 ev12 => ?_)
      have hf := q_lt ev12 hf
      refine q_iast hx hb hK hR hS hz hf dX10_ask_56 (fun X13 hf H locs hR hS hz => ?_)
      cases hf
      exact hJ _ _ _ hR hS hz (lv_sub hl [0, 1, 2] rfl)
  clear hJd
  refine lv_if_lt (tgt := 34) hx hb dX10_ask_8 (by decide) (fun hc => ?_) (fun hc => ?_)
  · have hf := q_t hf hc
    exact hJ34 () hf _ _ _ hR hS hz (lv_sub hl [1, 2, 3, 0] rfl)
  · have hf := q_f hf hc
    refine lv_aload_n hx hb dX10_ask_11 rfl (lv_at hl 1 rfl) ?_
    refine lv_iload_n hx hb dX10_ask_12 rfl (lv_at hl 3 rfl) ?_
    refine lv_iload_n hx hb dX10_ask_13 rfl (lv_at hl 0 rfl) ?_
    refine lv_iload_n hx hb dX10_ask_14 rfl (lv_at hl 2 rfl) ?_
    obtain ⟨v14, hc, hf⟩ := q_b hf
    refine q_calli (va_runV (As := [.int a2, .int v2, .int a1]) (rest := []) ⟨hx, hb, hml, hown, hT⟩ (mX10_isKeptOf l D kz b0 sz F X a0 a2 v2 a1 v14 hc) (cwV 3 hT (q_gV wco_X10_isKeptOf wml_X10_292 wim_X10_isKeptOf wse_X10_isKeptOf win_X10) rfl rfl rfl hdX10_isKeptOf ⟨Nat.le_of_ble_eq_true rfl, Nat.le_of_ble_eq_true rfl⟩) (q_preV vqX10 (fX10_isKeptOf_is hc) hR hK hz) rfl rfl hl.1 rfl (lv_room (Nat.le_of_ble_eq_true rfl)) dX10_ask_15 ⟨Nat.le_of_ble_eq_true rfl, Nat.le_of_ble_eq_true rfl⟩) hS (fun H locs hR hS hz => ?_)
    refine lv_if_eq (tgt := 34) hx hb dX10_ask_18 (by decide) (fun hc => ?_) (fun hc => ?_)
    · have hf := q_t hf hc
      exact hJ34 () hf _ _ _ hR hS hz (lv_sub hl [1, 2, 3, 0] rfl)
    · have hf := q_f hf hc
      refine lv_aload_n hx hb dX10_ask_21 rfl (lv_at hl 1 rfl) ?_
      refine q_gR hx hb hT hown hK hR iqX10 vqX10 31 (by decide) (hT _ wfl_X10_71) hf dX10_ask_22 (fun v15 hf => ?_)
      refine lv_iload_n hx hb dX10_ask_25 rfl (lv_at hl 2 rfl) ?_
      refine lv_dup2_11 hx hb dX10_ask_26 rfl rfl ?_
      refine q_iald hx hb hK hR hf dX10_ask_27 (fun v16 hf => ?_)
      refine lv_iconst (v := (1 : Int32)) hx hb dX10_ask_28 (by decide) ?_
      refine lv_iload_n hx hb dX10_ask_29 rfl (lv_at hl 3 rfl) ?_
      refine lv_ishl hx hb dX10_ask_30 ?_
      refine lv_ior hx hb dX10_ask_31 ?_
      refine lv_topi (fun v17 ev17 => ?_)
      have hf := q_lt ev17 hf
      refine q_iast hx hb hK hR hS hz hf dX10_ask_32 (fun X18 hf H locs hR hS hz => ?_)
      subst hQ
      exact q_vret hx hb hr hlocks hR hS hz (Option.some.inj hf) dX10_ask_33
/-! X10_partner -/
def fX10_partner_L13_B (F : Nat) (a0 : Nat) (a1 : Int32) (self0 : Int32 → qH → Option (qH)) (v2 : Int32) (X3 : qH) : Option (qH) :=
if (8 : Int32) ≤ v2 then (some X3)
else ((qgR X3 9 a0 31).bind fun v4 =>
(qaS X3 0 v4 v2 (0 : Int32)).bind fun X5 =>
(qgR X5 9 a0 32).bind fun v6 =>
(qaS X5 0 v6 v2 (-1 : Int32)).bind fun X7 =>
qlt (v2 + (1 : Int32)) fun v8 =>
self0 v8 X7)
def fX10_partner_L13 (F : Nat) (a0 : Nat) (a1 : Int32) : Nat → Int32 → qH → Option (qH)
  | 0, _, _ => none
  | n + 1, v2, X3 => fX10_partner_L13_B F a0 a1 (fX10_partner_L13 F a0 a1 n) v2 X3
def fX10_partner_L49_B (F : Nat) (a0 : Nat) (a1 : Int32) (self0 : Int32 → Int32 → qH → Option (Int32 × qH)) (v12 : Int32) (v13 : Int32) (X14 : qH) : Option (Int32 × qH) :=
(qgI X14 9 a0 1).bind fun v15 =>
if v15 ≤ v13 then (some (v12, X14))
else ((qgR X14 9 a0 8).bind fun v16 =>
(qaI X14 0 v16 ((3 : Int32) + v13)).bind fun v17 =>
(if v17 ≤ (0 : Int32) then (some (-1 : Int32))
else ((qgR X14 9 a0 32).bind fun v23 =>
(qaI X14 0 v23 v13).bind fun v24 =>
if (0 : Int32) ≤ v24 then (some (-1 : Int32))
else ((fX10_nearest F X14 a0 v13).bind fun v25 =>
some v25)) : Option Int32).bind fun v18 =>
qb2 (if v18 < (0 : Int32) then (some (v12, X14))
else ((fX10_ask F X14 a0 v13 v18).bind fun X22 =>
some ((1 : Int32), X22))) fun v19 X20 =>
qlt (v13 + (2 : Int32)) fun v21 =>
self0 v19 v21 X20)
def fX10_partner_L49 (F : Nat) (a0 : Nat) (a1 : Int32) : Nat → Int32 → Int32 → qH → Option (Int32 × qH)
  | 0, _, _, _ => none
  | n + 1, v12, v13, X14 => fX10_partner_L49_B F a0 a1 (fX10_partner_L49 F a0 a1 n) v12 v13 X14
def fX10_partner_L41_B (F : Nat) (a0 : Nat) (a1 : Int32) (self0 : Int32 → qH → Option (qH)) (v10 : Int32) (X11 : qH) : Option (qH) :=
if v10 = (0 : Int32) then (some X11)
else (qb2 (fX10_partner_L49 F a0 a1 F (0 : Int32) (0 : Int32) X11) fun v26 X27 =>
self0 v26 X27)
def fX10_partner_L41 (F : Nat) (a0 : Nat) (a1 : Int32) : Nat → Int32 → qH → Option (qH)
  | 0, _, _ => none
  | n + 1, v10, X11 => fX10_partner_L41_B F a0 a1 (fX10_partner_L41 F a0 a1 n) v10 X11
def fX10_partner (F : Nat) (X : qH) (a0 : Nat) (a1 : Int32) : Option (Int32 × qH) :=
qIs 9 X a0 <|
(fX10_isHouse F X a0 a1).bind fun v1 =>
if v1 = (0 : Int32) then (some ((-1000000001 : Int32), X))
else ((fX10_partner_L13 F a0 a1 F (0 : Int32) X).bind fun X9 =>
(fX10_partner_L41 F a0 a1 F (1 : Int32) X9).bind fun X28 =>
(qgR X28 9 a0 32).bind fun v29 =>
(qaI X28 0 v29 a1).bind fun v30 =>
some (v30, X28))
abbrev rmX10_partner : Room := { frames := 3, cells := 0, slots := 0, locals := 69 }
theorem fX10_partner_is {F : Nat} {X : qH} {a0 : Nat} {a1 : Int32} {r9 : Int32 × qH} (h : fX10_partner F X a0 a1 = some r9) : ∃ fs, X a0 = some (.inr (9, fs)) := (qIs_spec h).1
theorem hdX10_partner : yX10_partner.cls = RX10 ∧ yX10_partner.cls ≠ "java/lang/invoke/MethodHandle" ∧ yX10_partner.cls ≠ "java/lang/invoke/VarHandle" ∧ (parseMethodDescriptor yX10_partner.desc).map (fun d => d.parameters.length) = some 1 := by decide +kernel
set_option maxHeartbeats 4000000 in
set_option maxRecDepth 100000 in
theorem mX10_partner (l : Launch) (D : va_G) (kz : Nat → Nat) (b0 sz F : Nat) (X : qH) (a0 : Nat) (a1 : Int32) (r : Int32) (Xr : qH) (hf : fX10_partner F X a0 a1 = some (r, Xr)) : Met l yX10_partner (qws yX10_partner cX10_partner 5 (some .int)) rmX10_partner (va_Pc [.ref a0, .int a1] (qU D kz b0 sz X)) (va_Qi (fun (r' : Int32) (u : qH) => r' = r ∧ u = Xr) (fun u t => qO D kz b0 sz u t) (qA b0)) 0 0 (qA b0) := by
  refine q_start (by decide) (Nat.le_of_ble_eq_true rfl) ?_
  intro p e s m args below meth c hx hb hr hlocks hnm hml hown hT hR hK hz ls hl
  have hown : s.vm.findClass RX10 = some m.cls := hown
  have hl : lv_has ls 5 [(0, .ref a0), (1, .int a1)] := hl
  have hS : va_S (qA b0) s.heap s.heap [] := va_S.rf
  obtain ⟨Q, hQ⟩ : ∃ Q, Q = MQ below (va_Qi (fun (r' : Int32) (u : qH) => r' = r ∧ u = Xr) (fun u t => qO D kz b0 sz u t) (qA b0)) args s 0 0 (qA b0) := ⟨_, rfl⟩
  rw [← hQ]
  unfold fX10_partner at hf
  obtain ⟨hthis, hf⟩ := qIs_spec hf
  refine lv_aload_n hx hb dX10_partner_0 rfl (lv_at hl 0 rfl) ?_
  refine lv_iload_n hx hb dX10_partner_1 rfl (lv_at hl 1 rfl) ?_
  obtain ⟨v1, hc, hf⟩ := q_b hf
  refine q_calli (va_runV (As := [.int a1]) (rest := []) ⟨hx, hb, hml, hown, hT⟩ (mX10_isHouse l D kz b0 sz F X a0 a1 v1 hc) (cwV 1 hT (q_gV wco_X10_isHouse wml_X10_204 wim_X10_isHouse wse_X10_isHouse win_X10) rfl rfl rfl hdX10_isHouse ⟨Nat.le_of_ble_eq_true rfl, Nat.le_of_ble_eq_true rfl⟩) (q_preV vqX10 (fX10_isHouse_is hc) hR hK hz) rfl rfl hl.1 rfl (lv_room (Nat.le_of_ble_eq_true rfl)) dX10_partner_2 ⟨Nat.le_of_ble_eq_true rfl, Nat.le_of_ble_eq_true rfl⟩) hS (fun H locs hR hS hz => ?_)
  refine lv_if_ne (tgt := 11) hx hb dX10_partner_5 (by decide) (fun hc => ?_) (fun hc => ?_)
  · have hf := q_f hf hc
    refine lv_iconst (v := (0 : Int32)) hx hb dX10_partner_11 (by decide) ?_
    refine lv_istore_n (lv' := [(2, .int (0 : Int32)), (0, .ref a0), (1, .int a1)]) hx hb dX10_partner_12 rfl hl (by decide) rfl (fun ls hl => ?_)
    obtain ⟨X9, ho, hf⟩ := q_b hf
    have hL : ∀ (n : Nat) (v2 : Int32) (X3 : qH) (out : qH), fX10_partner_L13 F a0 a1 n v2 X3 = some out → (∀ (X9 : qH), out = X9 → ∀ (H : Heap) (locs : List Loc) (ls : Array Slot), qR D kz b0 X9 H → va_S (qA b0) s.heap H locs → H.size = sz → lv_has ls 5 [(0, .ref a0), (1, .int a1)] → W p l e rmX10_partner s m args below meth c H locs 0 0 Q (F0 m 39 ls [])) → ∀ (H : Heap) (locs : List Loc) (ls : Array Slot), qR D kz b0 X3 H → va_S (qA b0) s.heap H locs → H.size = sz → lv_has ls 5 [(0, .ref a0), (1, .int a1), (2, .int v2)] → W p l e rmX10_partner s m args below meth c H locs 0 0 Q (F0 m 13 ls []) := by
      intro n9
      induction n9 with
      | zero =>
        intro v2 X3 out hf
        exact absurd (show none = some out from hf) (by simp)
      | succ n9 ih0 =>
        intro v2 X3 out hf hex H locs ls hR hS hz hl
        have hf : fX10_partner_L13_B F a0 a1 (fX10_partner_L13 F a0 a1 n9) v2 X3 = some out := hf
        unfold fX10_partner_L13_B at hf
        refine lv_iload_n hx hb dX10_partner_13 rfl (lv_at hl 2 rfl) ?_
        refine lv_bipush (v := (8 : Int32)) hx hb dX10_partner_14 (by decide) ?_
        refine lv_icmp_ge (tgt := 39) hx hb dX10_partner_16 (by decide) (fun hc => ?_) (fun hc => ?_)
        · have hf := q_t hf hc
          exact hex _ (Option.some.inj hf).symm _ _ _ hR hS hz (lv_sub hl [0, 1] rfl)
        · have hf := q_f hf hc
          refine lv_aload_n hx hb dX10_partner_19 rfl (lv_at hl 0 rfl) ?_
          refine q_gR hx hb hT hown hK hR iqX10 vqX10 31 (by decide) (hT _ wfl_X10_71) hf dX10_partner_20 (fun v4 hf => ?_)
          refine lv_iload_n hx hb dX10_partner_23 rfl (lv_at hl 2 rfl) ?_
          refine lv_iconst (v := (0 : Int32)) hx hb dX10_partner_24 (by decide) ?_
          refine q_iast hx hb hK hR hS hz hf dX10_partner_25 (fun X5 hf H locs hR hS hz => ?_)
          refine lv_aload_n hx hb dX10_partner_26 rfl (lv_at hl 0 rfl) ?_
          refine q_gR hx hb hT hown hK hR iqX10 vqX10 32 (by decide) (hT _ wfl_X10_74) hf dX10_partner_27 (fun v6 hf => ?_)
          refine lv_iload_n hx hb dX10_partner_30 rfl (lv_at hl 2 rfl) ?_
          refine lv_iconst (v := (-1 : Int32)) hx hb dX10_partner_31 (by decide) ?_
          refine q_iast hx hb hK hR hS hz hf dX10_partner_32 (fun X7 hf H locs hR hS hz => ?_)
          obtain ⟨v8, ev8⟩ : ∃ y : Int32, y = (v2 + (1 : Int32)) := ⟨_, rfl⟩
          have hf := q_lt ev8 hf
          refine lv_iinc (v := v8) (lv' := [(2, .int v8), (0, .ref a0), (1, .int a1)]) hx hb dX10_partner_33 hl (k := 2) rfl (by rw [ev8]; rfl) (by decide) rfl (fun ls hl => ?_)
          refine lv_goto (tgt := 13) hx hb dX10_partner_36 (by decide) ?_
          exact ih0 _ _ out hf hex _ _ _ hR hS hz (lv_sub hl [1, 2, 0] rfl)
    refine hL F _ _ _ ho (fun z0 h9 => ?_) _ _ _ hR hS hz (lv_sub hl [1, 2, 0] rfl)
    cases h9
    intro H locs ls hR hS hz hl
    refine lv_iconst (v := (1 : Int32)) hx hb dX10_partner_39 (by decide) ?_
    refine lv_istore_n (lv' := [(2, .int (1 : Int32)), (0, .ref a0), (1, .int a1)]) hx hb dX10_partner_40 rfl hl (by decide) rfl (fun ls hl => ?_)
    obtain ⟨X28, ho, hf⟩ := q_b hf
    have hL : ∀ (n : Nat) (v10 : Int32) (X11 : qH) (out : qH), fX10_partner_L41 F a0 a1 n v10 X11 = some out → (∀ (X28 : qH), out = X28 → ∀ (H : Heap) (locs : List Loc) (ls : Array Slot), qR D kz b0 X28 H → va_S (qA b0) s.heap H locs → H.size = sz → lv_has ls 5 [(0, .ref a0), (1, .int a1)] → W p l e rmX10_partner s m args below meth c H locs 0 0 Q (F0 m 111 ls [])) → ∀ (H : Heap) (locs : List Loc) (ls : Array Slot), qR D kz b0 X11 H → va_S (qA b0) s.heap H locs → H.size = sz → lv_has ls 5 [(0, .ref a0), (1, .int a1), (2, .int v10)] → W p l e rmX10_partner s m args below meth c H locs 0 0 Q (F0 m 41 ls []) := by
      intro n9
      induction n9 with
      | zero =>
        intro v10 X11 out hf
        exact absurd (show none = some out from hf) (by simp)
      | succ n9 ih0 =>
        intro v10 X11 out hf hex H locs ls hR hS hz hl
        have hf : fX10_partner_L41_B F a0 a1 (fX10_partner_L41 F a0 a1 n9) v10 X11 = some out := hf
        unfold fX10_partner_L41_B at hf
        refine lv_iload_n hx hb dX10_partner_41 rfl (lv_at hl 2 rfl) ?_
        refine lv_if_eq (tgt := 111) hx hb dX10_partner_42 (by decide) (fun hc => ?_) (fun hc => ?_)
        · have hf := q_t hf hc
          exact hex _ (Option.some.inj hf).symm _ _ _ hR hS hz (lv_sub hl [0, 1] rfl)
        · have hf := q_f hf hc
          refine lv_iconst (v := (0 : Int32)) hx hb dX10_partner_45 (by decide) ?_
          refine lv_istore_n (lv' := [(2, .int (0 : Int32)), (0, .ref a0), (1, .int a1)]) hx hb dX10_partner_46 rfl hl (by decide) rfl (fun ls hl => ?_)
          refine lv_iconst (v := (0 : Int32)) hx hb dX10_partner_47 (by decide) ?_
          refine lv_istore_n (lv' := [(3, .int (0 : Int32)), (2, .int (0 : Int32)), (0, .ref a0), (1, .int a1)]) hx hb dX10_partner_48 rfl hl (by decide) rfl (fun ls hl => ?_)
          obtain ⟨v26, X27, ho, hf⟩ := q_b2 hf
          have hL : ∀ (n : Nat) (v12 : Int32) (v13 : Int32) (X14 : qH) (out : Int32 × qH), fX10_partner_L49 F a0 a1 n v12 v13 X14 = some out → (∀ (v26 : Int32) (X27 : qH), out = (v26, X27) → ∀ (H : Heap) (locs : List Loc) (ls : Array Slot), qR D kz b0 X27 H → va_S (qA b0) s.heap H locs → H.size = sz → lv_has ls 5 [(0, .ref a0), (1, .int a1), (2, .int v26)] → W p l e rmX10_partner s m args below meth c H locs 0 0 Q (F0 m 108 ls [])) → ∀ (H : Heap) (locs : List Loc) (ls : Array Slot), qR D kz b0 X14 H → va_S (qA b0) s.heap H locs → H.size = sz → lv_has ls 5 [(0, .ref a0), (1, .int a1), (2, .int v12), (3, .int v13)] → W p l e rmX10_partner s m args below meth c H locs 0 0 Q (F0 m 49 ls []) := by
            intro n9
            induction n9 with
            | zero =>
              intro v12 v13 X14 out hf
              exact absurd (show none = some out from hf) (by simp)
            | succ n9 ih0 =>
              intro v12 v13 X14 out hf hex H locs ls hR hS hz hl
              have hf : fX10_partner_L49_B F a0 a1 (fX10_partner_L49 F a0 a1 n9) v12 v13 X14 = some out := hf
              unfold fX10_partner_L49_B at hf
              refine lv_iload_n hx hb dX10_partner_49 rfl (lv_at hl 3 rfl) ?_
              refine lv_aload_n hx hb dX10_partner_50 rfl (lv_at hl 0 rfl) ?_
              refine q_gI hx hb hT hown hK hR iqX10 vqX10 1 (by decide) (hT _ wfl_X10_102) hf dX10_partner_51 (fun v15 hf => ?_)
              refine lv_icmp_ge (tgt := 108) hx hb dX10_partner_54 (by decide) (fun hc => ?_) (fun hc => ?_)
              · have hf := q_t hf hc
                exact hex _ _ (Option.some.inj hf).symm _ _ _ hR hS hz (lv_sub hl [0, 1, 2] rfl)
              · have hf := q_f hf hc
                refine lv_aload_n hx hb dX10_partner_57 rfl (lv_at hl 0 rfl) ?_
                refine q_gR hx hb hT hown hK hR iqX10 vqX10 8 (by decide) (hT _ wfl_X10_29) hf dX10_partner_58 (fun v16 hf => ?_)
                refine lv_iconst (v := (3 : Int32)) hx hb dX10_partner_61 (by decide) ?_
                refine lv_iload_n hx hb dX10_partner_62 rfl (lv_at hl 3 rfl) ?_
                refine lv_iadd hx hb dX10_partner_63 ?_
                refine q_iald hx hb hK hR hf dX10_partner_64 (fun v17 hf => ?_)
                obtain ⟨v18, hp, hf⟩ := q_b hf
                have hJ : ∀ (H : Heap) (locs : List Loc) (ls : Array Slot), qR D kz b0 X14 H → va_S (qA b0) s.heap H locs → H.size = sz → lv_has ls 5 [(0, .ref a0), (1, .int a1), (2, .int v12), (3, .int v13)] → W p l e rmX10_partner s m args below meth c H locs 0 0 Q (F0 m 86 ls [.int v18]) := by
                  intro H locs ls hR hS hz hl
                  refine lv_istore (lv' := [(4, .int v18), (0, .ref a0), (1, .int a1), (2, .int v12), (3, .int v13)]) hx hb dX10_partner_86 hl (by decide) rfl (fun ls hl => ?_)
                  refine lv_iload hx hb dX10_partner_88 (lv_at hl 0 rfl) ?_
                  obtain ⟨v19, X20, hp, hf⟩ := q_b2 hf
                  have hJ : ∀ (H : Heap) (locs : List Loc) (ls : Array Slot), qR D kz b0 X20 H → va_S (qA b0) s.heap H locs → H.size = sz → lv_has ls 5 [(0, .ref a0), (1, .int a1), (2, .int v19), (3, .int v13)] → W p l e rmX10_partner s m args below meth c H locs 0 0 Q (F0 m 102 ls []) := by
                    intro H locs ls hR hS hz hl
                    obtain ⟨v21, ev21⟩ : ∃ y : Int32, y = (v13 + (2 : Int32)) := ⟨_, rfl⟩
                    have hf := q_lt ev21 hf
                    refine lv_iinc (v := v21) (lv' := [(3, .int v21), (0, .ref a0), (1, .int a1), (2, .int v19)]) hx hb dX10_partner_102 hl (k := 3) rfl (by rw [ev21]; rfl) (by decide) rfl (fun ls hl => ?_)
                    refine lv_goto (tgt := 49) hx hb dX10_partner_105 (by decide) ?_
                    exact ih0 _ _ _ out hf hex _ _ _ hR hS hz (lv_sub hl [1, 2, 3, 0] rfl)
                  have hf := hp
                  refine lv_if_lt (tgt := 102) hx hb dX10_partner_90 (by decide) (fun hc => ?_) (fun hc => ?_)
                  · have hf := q_t hf hc
                    cases hf
                    exact hJ _ _ _ hR hS hz (lv_sub hl [1, 2, 3, 4] rfl)
                  · have hf := q_f hf hc
                    refine lv_aload_n hx hb dX10_partner_93 rfl (lv_at hl 1 rfl) ?_
                    refine lv_iload_n hx hb dX10_partner_94 rfl (lv_at hl 4 rfl) ?_
                    refine lv_iload hx hb dX10_partner_95 (lv_at hl 0 rfl) ?_
                    obtain ⟨X22, hc, hf⟩ := q_b hf
                    refine q_callv (va_runV (As := [.int v13, .int v18]) (rest := []) ⟨hx, hb, hml, hown, hT⟩ (mX10_ask l D kz b0 sz F X14 a0 v13 v18 X22 hc) (cwV 2 hT (q_gV wco_X10_ask wml_X10_298 wim_X10_ask wse_X10_ask win_X10) rfl rfl rfl hdX10_ask ⟨Nat.le_of_ble_eq_true rfl, Nat.le_of_ble_eq_true rfl⟩) (q_preV vqX10 (fX10_ask_is hc) hR hK hz) rfl rfl hl.1 rfl (lv_room (Nat.le_of_ble_eq_true rfl)) dX10_partner_97 ⟨Nat.le_of_ble_eq_true rfl, Nat.le_of_ble_eq_true rfl⟩) hS (fun H locs hR hS hz => ?_)
                    refine lv_iconst (v := (1 : Int32)) hx hb dX10_partner_100 (by decide) ?_
                    refine lv_istore_n (lv' := [(2, .int (1 : Int32)), (4, .int v18), (0, .ref a0), (1, .int a1), (3, .int v13)]) hx hb dX10_partner_101 rfl hl (by decide) rfl (fun ls hl => ?_)
                    cases hf
                    exact hJ _ _ _ hR hS hz (lv_sub hl [2, 3, 0, 4] rfl)
                have hf := hp
                refine lv_if_le (tgt := 85) hx hb dX10_partner_65 (by decide) (fun hc => ?_) (fun hc => ?_)
                · have hf := q_t hf hc
                  refine lv_iconst (v := (-1 : Int32)) hx hb dX10_partner_85 (by decide) ?_
                  cases hf
                  exact hJ _ _ _ hR hS hz (lv_sub hl [0, 1, 2, 3] rfl)
                · have hf := q_f hf hc
                  refine lv_aload_n hx hb dX10_partner_68 rfl (lv_at hl 0 rfl) ?_
                  refine q_gR hx hb hT hown hK hR iqX10 vqX10 32 (by decide) (hT _ wfl_X10_74) hf dX10_partner_69 (fun v23 hf => ?_)
                  refine lv_iload_n hx hb dX10_partner_72 rfl (lv_at hl 3 rfl) ?_
                  refine q_iald hx hb hK hR hf dX10_partner_73 (fun v24 hf => ?_)
                  refine lv_if_ge (tgt := 85) hx hb dX10_partner_74 (by decide) (fun hc => ?_) (fun hc => ?_)
                  · have hf := q_t hf hc
                    refine lv_iconst (v := (-1 : Int32)) hx hb dX10_partner_85 (by decide) ?_
                    cases hf
                    exact hJ _ _ _ hR hS hz (lv_sub hl [0, 1, 2, 3] rfl)
                  · have hf := q_f hf hc
                    refine lv_aload_n hx hb dX10_partner_77 rfl (lv_at hl 0 rfl) ?_
                    refine lv_iload_n hx hb dX10_partner_78 rfl (lv_at hl 3 rfl) ?_
                    obtain ⟨v25, hc, hf⟩ := q_b hf
                    refine q_calli (va_runV (As := [.int v13]) (rest := []) ⟨hx, hb, hml, hown, hT⟩ (mX10_nearest l D kz b0 sz F X14 a0 v13 v25 hc) (cwV 1 hT (q_gV wco_X10_nearest wml_X10_295 wim_X10_nearest wse_X10_nearest win_X10) rfl rfl rfl hdX10_nearest ⟨Nat.le_of_ble_eq_true rfl, Nat.le_of_ble_eq_true rfl⟩) (q_preV vqX10 (fX10_nearest_is hc) hR hK hz) rfl rfl hl.1 rfl (lv_room (Nat.le_of_ble_eq_true rfl)) dX10_partner_79 ⟨Nat.le_of_ble_eq_true rfl, Nat.le_of_ble_eq_true rfl⟩) hS (fun H locs hR hS hz => ?_)
                    refine lv_goto (tgt := 86) hx hb dX10_partner_82 (by decide) ?_
                    cases hf
                    exact hJ _ _ _ hR hS hz (lv_sub hl [0, 1, 2, 3] rfl)
          refine hL F _ _ _ _ ho (fun z0 z1 h9 => ?_) _ _ _ hR hS hz (lv_sub hl [2, 3, 1, 0] rfl)
          cases h9
          intro H locs ls hR hS hz hl
          refine lv_goto (tgt := 41) hx hb dX10_partner_108 (by decide) ?_
          exact ih0 _ _ out hf hex _ _ _ hR hS hz (lv_sub hl [0, 1, 2] rfl)
    refine hL F _ _ _ ho (fun z0 h9 => ?_) _ _ _ hR hS hz (lv_sub hl [1, 2, 0] rfl)
    cases h9
    intro H locs ls hR hS hz hl
    refine lv_aload_n hx hb dX10_partner_111 rfl (lv_at hl 0 rfl) ?_
    refine q_gR hx hb hT hown hK hR iqX10 vqX10 32 (by decide) (hT _ wfl_X10_74) hf dX10_partner_112 (fun v29 hf => ?_)
    refine lv_iload_n hx hb dX10_partner_115 rfl (lv_at hl 1 rfl) ?_
    refine q_iald hx hb hK hR hf dX10_partner_116 (fun v30 hf => ?_)
    subst hQ
    obtain ⟨h8, h9⟩ := Prod.mk.inj (Option.some.inj hf)
    exact q_iret hx hb hr hlocks hR hS hz h8 h9 dX10_partner_117
  · have hf := q_t hf hc
    refine lv_ldc (v := (-1000000001 : Int32)) hx hb hown (hT _ wk_X10_207) dX10_partner_8 ?_
    subst hQ
    obtain ⟨h8, h9⟩ := Prod.mk.inj (Option.some.inj hf)
    exact q_iret hx hb hr hlocks hR hS hz h8 h9 dX10_partner_10
/-! X10_duck -/
def fX10_duck (F : Nat) (X : qH) (a0 : Nat) (a1 : Int32) (a2 : Int32) : Option (Int32 × qH) :=
qIs 9 X a0 <|
(fX10_in F X ((a1).toInt64) (0 : Int64) (999 : Int64)).bind fun v1 =>
if v1 = (0 : Int32) then (some ((-1000000002 : Int32), X))
else ((qgI X 9 a0 0).bind fun v2 =>
(fX10_in F X ((a2).toInt64) (0 : Int64) (((v2 - (1 : Int32))).toInt64)).bind fun v3 =>
if v3 = (0 : Int32) then (some ((-1000000002 : Int32), X))
else ((qgI X 9 a0 33).bind fun v4 =>
if v4 = (6 : Int32) then (some ((-1000000004 : Int32), X))
else ((qgR X 9 a0 34).bind fun v5 =>
(qgI X 9 a0 33).bind fun v6 =>
(qaS X 0 v5 v6 a1).bind fun X7 =>
(qgR X7 9 a0 35).bind fun v8 =>
(qgI X7 9 a0 33).bind fun v9 =>
(qaS X7 0 v8 v9 a2).bind fun X10 =>
(qgI X10 9 a0 33).bind fun v11 =>
qlt (v11 + (1 : Int32)) fun v12 =>
(qpI X10 9 a0 33 v12).bind fun X13 =>
(qgI X13 9 a0 33).bind fun v14 =>
some (v14, X13))))
abbrev rmX10_duck : Room := { frames := 1, cells := 0, slots := 0, locals := 25 }
theorem fX10_duck_is {F : Nat} {X : qH} {a0 : Nat} {a1 : Int32} {a2 : Int32} {r9 : Int32 × qH} (h : fX10_duck F X a0 a1 a2 = some r9) : ∃ fs, X a0 = some (.inr (9, fs)) := (qIs_spec h).1
theorem hdX10_duck : yX10_duck.cls = RX10 ∧ yX10_duck.cls ≠ "java/lang/invoke/MethodHandle" ∧ yX10_duck.cls ≠ "java/lang/invoke/VarHandle" ∧ (parseMethodDescriptor yX10_duck.desc).map (fun d => d.parameters.length) = some 2 := by decide +kernel
set_option maxHeartbeats 4000000 in
set_option maxRecDepth 100000 in
theorem mX10_duck (l : Launch) (D : va_G) (kz : Nat → Nat) (b0 sz F : Nat) (X : qH) (a0 : Nat) (a1 : Int32) (a2 : Int32) (r : Int32) (Xr : qH) (hf : fX10_duck F X a0 a1 a2 = some (r, Xr)) : Met l yX10_duck (qws yX10_duck cX10_duck 3 (some .int)) rmX10_duck (va_Pc [.ref a0, .int a1, .int a2] (qU D kz b0 sz X)) (va_Qi (fun (r' : Int32) (u : qH) => r' = r ∧ u = Xr) (fun u t => qO D kz b0 sz u t) (qA b0)) 0 0 (qA b0) := by
  refine q_start (by decide) (Nat.le_of_ble_eq_true rfl) ?_
  intro p e s m args below meth c hx hb hr hlocks hnm hml hown hT hR hK hz ls hl
  have hown : s.vm.findClass RX10 = some m.cls := hown
  have hl : lv_has ls 3 [(0, .ref a0), (1, .int a1), (2, .int a2)] := hl
  have hS : va_S (qA b0) s.heap s.heap [] := va_S.rf
  obtain ⟨Q, hQ⟩ : ∃ Q, Q = MQ below (va_Qi (fun (r' : Int32) (u : qH) => r' = r ∧ u = Xr) (fun u t => qO D kz b0 sz u t) (qA b0)) args s 0 0 (qA b0) := ⟨_, rfl⟩
  rw [← hQ]
  unfold fX10_duck at hf
  obtain ⟨hthis, hf⟩ := qIs_spec hf
  refine lv_iload_n hx hb dX10_duck_0 rfl (lv_at hl 1 rfl) ?_
  refine lv_i2l hx hb dX10_duck_1 rfl ?_
  refine lv_lconst (v := (0 : Int64)) hx hb dX10_duck_2 (by decide) ?_
  refine lv_ldc2 (v := (999 : Int64)) hx hb hown (hT _ wkl_X10_302) dX10_duck_3 ?_
  obtain ⟨v1, hc, hf⟩ := q_b hf
  refine q_calli (va_runS (As := [.long ((a1).toInt64), .long (0 : Int64), .long (999 : Int64)]) (rest := []) ⟨hx, hb, hml, hown, hT⟩ (mX10_in l D kz b0 sz F X ((a1).toInt64) (0 : Int64) (999 : Int64) v1 hc) (va_cwS 3 hT (q_gS wco_X10_in wml_X10_105 wst_X10_in win_X10) rfl rfl rfl hdX10_in ⟨Nat.le_of_ble_eq_true rfl, Nat.le_of_ble_eq_true rfl⟩) (q_preS hR hK hz) rfl rfl hl.1 rfl (lv_room (Nat.le_of_ble_eq_true rfl)) dX10_duck_6 ⟨Nat.le_of_ble_eq_true rfl, Nat.le_of_ble_eq_true rfl⟩) hS (fun H locs hR hS hz => ?_)
  refine lv_if_eq (tgt := 28) hx hb dX10_duck_9 (by decide) (fun hc => ?_) (fun hc => ?_)
  · have hf := q_t hf hc
    refine lv_ldc (v := (-1000000002 : Int32)) hx hb hown (hT _ wk_X10_111) dX10_duck_28 ?_
    subst hQ
    obtain ⟨h8, h9⟩ := Prod.mk.inj (Option.some.inj hf)
    exact q_iret hx hb hr hlocks hR hS hz h8 h9 dX10_duck_30
  · have hf := q_f hf hc
    refine lv_iload_n hx hb dX10_duck_12 rfl (lv_at hl 2 rfl) ?_
    refine lv_i2l hx hb dX10_duck_13 rfl ?_
    refine lv_lconst (v := (0 : Int64)) hx hb dX10_duck_14 (by decide) ?_
    refine lv_aload_n hx hb dX10_duck_15 rfl (lv_at hl 0 rfl) ?_
    refine q_gI hx hb hT hown hK hR iqX10 vqX10 0 (by decide) (hT _ wfl_X10_99) hf dX10_duck_16 (fun v2 hf => ?_)
    refine lv_iconst (v := (1 : Int32)) hx hb dX10_duck_19 (by decide) ?_
    refine lv_isub hx hb dX10_duck_20 ?_
    refine lv_i2l hx hb dX10_duck_21 rfl ?_
    obtain ⟨v3, hc, hf⟩ := q_b hf
    refine q_calli (va_runS (As := [.long ((a2).toInt64), .long (0 : Int64), .long (((v2 - (1 : Int32))).toInt64)]) (rest := []) ⟨hx, hb, hml, hown, hT⟩ (mX10_in l D kz b0 sz F X ((a2).toInt64) (0 : Int64) (((v2 - (1 : Int32))).toInt64) v3 hc) (va_cwS 3 hT (q_gS wco_X10_in wml_X10_105 wst_X10_in win_X10) rfl rfl rfl hdX10_in ⟨Nat.le_of_ble_eq_true rfl, Nat.le_of_ble_eq_true rfl⟩) (q_preS hR hK hz) rfl rfl hl.1 rfl (lv_room (Nat.le_of_ble_eq_true rfl)) dX10_duck_22 ⟨Nat.le_of_ble_eq_true rfl, Nat.le_of_ble_eq_true rfl⟩) hS (fun H locs hR hS hz => ?_)
    refine lv_if_ne (tgt := 31) hx hb dX10_duck_25 (by decide) (fun hc => ?_) (fun hc => ?_)
    · have hf := q_f hf hc
      refine lv_aload_n hx hb dX10_duck_31 rfl (lv_at hl 0 rfl) ?_
      refine q_gI hx hb hT hown hK hR iqX10 vqX10 33 (by decide) (hT _ wfl_X10_185) hf dX10_duck_32 (fun v4 hf => ?_)
      refine lv_bipush (v := (6 : Int32)) hx hb dX10_duck_35 (by decide) ?_
      refine lv_icmp_ne (tgt := 43) hx hb dX10_duck_37 (by decide) (fun hc => ?_) (fun hc => ?_)
      · have hf := q_f hf hc
        refine lv_aload_n hx hb dX10_duck_43 rfl (lv_at hl 0 rfl) ?_
        refine q_gR hx hb hT hown hK hR iqX10 vqX10 34 (by decide) (hT _ wfl_X10_77) hf dX10_duck_44 (fun v5 hf => ?_)
        refine lv_aload_n hx hb dX10_duck_47 rfl (lv_at hl 0 rfl) ?_
        refine q_gI hx hb hT hown hK hR iqX10 vqX10 33 (by decide) (hT _ wfl_X10_185) hf dX10_duck_48 (fun v6 hf => ?_)
        refine lv_iload_n hx hb dX10_duck_51 rfl (lv_at hl 1 rfl) ?_
        refine q_iast hx hb hK hR hS hz hf dX10_duck_52 (fun X7 hf H locs hR hS hz => ?_)
        refine lv_aload_n hx hb dX10_duck_53 rfl (lv_at hl 0 rfl) ?_
        refine q_gR hx hb hT hown hK hR iqX10 vqX10 35 (by decide) (hT _ wfl_X10_80) hf dX10_duck_54 (fun v8 hf => ?_)
        refine lv_aload_n hx hb dX10_duck_57 rfl (lv_at hl 0 rfl) ?_
        refine q_gI hx hb hT hown hK hR iqX10 vqX10 33 (by decide) (hT _ wfl_X10_185) hf dX10_duck_58 (fun v9 hf => ?_)
        refine lv_iload_n hx hb dX10_duck_61 rfl (lv_at hl 2 rfl) ?_
        refine q_iast hx hb hK hR hS hz hf dX10_duck_62 (fun X10 hf H locs hR hS hz => ?_)
        refine lv_aload_n hx hb dX10_duck_63 rfl (lv_at hl 0 rfl) ?_
        refine lv_dup hx hb dX10_duck_64 rfl ?_
        refine q_gI hx hb hT hown hK hR iqX10 vqX10 33 (by decide) (hT _ wfl_X10_185) hf dX10_duck_65 (fun v11 hf => ?_)
        refine lv_iconst (v := (1 : Int32)) hx hb dX10_duck_68 (by decide) ?_
        refine lv_iadd hx hb dX10_duck_69 ?_
        refine lv_topi (fun v12 ev12 => ?_)
        have hf := q_lt ev12 hf
        refine q_pI hx hb hT hown hK hR hS hz iqX10 vqX10 tyX10_ok nmX10 33 (by decide) (hT _ wfl_X10_185) rfl rfl hf dX10_duck_70 (fun X13 hf H locs hR hS hz => ?_)
        refine lv_aload_n hx hb dX10_duck_73 rfl (lv_at hl 0 rfl) ?_
        refine q_gI hx hb hT hown hK hR iqX10 vqX10 33 (by decide) (hT _ wfl_X10_185) hf dX10_duck_74 (fun v14 hf => ?_)
        subst hQ
        obtain ⟨h8, h9⟩ := Prod.mk.inj (Option.some.inj hf)
        exact q_iret hx hb hr hlocks hR hS hz h8 h9 dX10_duck_77
      · have hf := q_t hf hc
        refine lv_ldc (v := (-1000000004 : Int32)) hx hb hown (hT _ wk_X10_115) dX10_duck_40 ?_
        subst hQ
        obtain ⟨h8, h9⟩ := Prod.mk.inj (Option.some.inj hf)
        exact q_iret hx hb hr hlocks hR hS hz h8 h9 dX10_duck_42
    · have hf := q_t hf hc
      refine lv_ldc (v := (-1000000002 : Int32)) hx hb hown (hT _ wk_X10_111) dX10_duck_28 ?_
      subst hQ
      obtain ⟨h8, h9⟩ := Prod.mk.inj (Option.some.inj hf)
      exact q_iret hx hb hr hlocks hR hS hz h8 h9 dX10_duck_30
/-! X10_litOver -/
def fX10_litOver_L4_B (F : Nat) (X : qH) (a0 : Nat) (a1 : Int32) (self0 : Int32 → Int32 → Option (Int32)) (v1 : Int32) (v2 : Int32) : Option (Int32) :=
(qgI X 9 a0 1).bind fun v3 =>
if v3 ≤ v2 then (some v1)
else ((fX10_overOf F X a0 v2).bind fun v4 =>
(if v4 = a1 then (some ((1 : Int32) <<< (v2 &&& 31)))
else (some (0 : Int32)) : Option Int32).bind fun v5 =>
qlt (v1 ||| v5) fun v6 =>
qlt (v2 + (1 : Int32)) fun v7 =>
self0 v6 v7)
def fX10_litOver_L4 (F : Nat) (X : qH) (a0 : Nat) (a1 : Int32) : Nat → Int32 → Int32 → Option (Int32)
  | 0, _, _ => none
  | n + 1, v1, v2 => fX10_litOver_L4_B F X a0 a1 (fX10_litOver_L4 F X a0 a1 n) v1 v2
def fX10_litOver (F : Nat) (X : qH) (a0 : Nat) (a1 : Int32) : Option (Int32) :=
qIs 9 X a0 <|
(fX10_litOver_L4 F X a0 a1 F (0 : Int32) (0 : Int32)).bind fun v8 =>
some v8
abbrev rmX10_litOver : Room := { frames := 1, cells := 0, slots := 0, locals := 22 }
theorem fX10_litOver_is {F : Nat} {X : qH} {a0 : Nat} {a1 : Int32} {r9 : Int32} (h : fX10_litOver F X a0 a1 = some r9) : ∃ fs, X a0 = some (.inr (9, fs)) := (qIs_spec h).1
theorem hdX10_litOver : yX10_litOver.cls = RX10 ∧ yX10_litOver.cls ≠ "java/lang/invoke/MethodHandle" ∧ yX10_litOver.cls ≠ "java/lang/invoke/VarHandle" ∧ (parseMethodDescriptor yX10_litOver.desc).map (fun d => d.parameters.length) = some 1 := by decide +kernel
set_option maxHeartbeats 4000000 in
set_option maxRecDepth 100000 in
theorem mX10_litOver (l : Launch) (D : va_G) (kz : Nat → Nat) (b0 sz F : Nat) (X : qH) (a0 : Nat) (a1 : Int32) (r : Int32) (hf : fX10_litOver F X a0 a1 = some r) : Met l yX10_litOver (qws yX10_litOver cX10_litOver 4 (some .int)) rmX10_litOver (va_Pc [.ref a0, .int a1] (qU D kz b0 sz X)) (va_Qi (fun (r' : Int32) (u : qH) => r' = r ∧ u = X) (fun u t => qO D kz b0 sz u t) (qA b0)) 0 0 (qA b0) := by
  refine q_start (by decide) (Nat.le_of_ble_eq_true rfl) ?_
  intro p e s m args below meth c hx hb hr hlocks hnm hml hown hT hR hK hz ls hl
  have hown : s.vm.findClass RX10 = some m.cls := hown
  have hl : lv_has ls 4 [(0, .ref a0), (1, .int a1)] := hl
  have hS : va_S (qA b0) s.heap s.heap [] := va_S.rf
  obtain ⟨Q, hQ⟩ : ∃ Q, Q = MQ below (va_Qi (fun (r' : Int32) (u : qH) => r' = r ∧ u = X) (fun u t => qO D kz b0 sz u t) (qA b0)) args s 0 0 (qA b0) := ⟨_, rfl⟩
  rw [← hQ]
  unfold fX10_litOver at hf
  obtain ⟨hthis, hf⟩ := qIs_spec hf
  refine lv_iconst (v := (0 : Int32)) hx hb dX10_litOver_0 (by decide) ?_
  refine lv_istore_n (lv' := [(2, .int (0 : Int32)), (0, .ref a0), (1, .int a1)]) hx hb dX10_litOver_1 rfl hl (by decide) rfl (fun ls hl => ?_)
  refine lv_iconst (v := (0 : Int32)) hx hb dX10_litOver_2 (by decide) ?_
  refine lv_istore_n (lv' := [(3, .int (0 : Int32)), (2, .int (0 : Int32)), (0, .ref a0), (1, .int a1)]) hx hb dX10_litOver_3 rfl hl (by decide) rfl (fun ls hl => ?_)
  obtain ⟨v8, ho, hf⟩ := q_b hf
  have hL : ∀ (n : Nat) (v1 : Int32) (v2 : Int32) (out : Int32), fX10_litOver_L4 F X a0 a1 n v1 v2 = some out → (∀ (v8 : Int32), out = v8 → ∀ (H : Heap) (locs : List Loc) (ls : Array Slot), qR D kz b0 X H → va_S (qA b0) s.heap H locs → H.size = sz → lv_has ls 4 [(2, .int v8)] → W p l e rmX10_litOver s m args below meth c H locs 0 0 Q (F0 m 37 ls [])) → ∀ (H : Heap) (locs : List Loc) (ls : Array Slot), qR D kz b0 X H → va_S (qA b0) s.heap H locs → H.size = sz → lv_has ls 4 [(0, .ref a0), (1, .int a1), (2, .int v1), (3, .int v2)] → W p l e rmX10_litOver s m args below meth c H locs 0 0 Q (F0 m 4 ls []) := by
    intro n9
    induction n9 with
    | zero =>
      intro v1 v2 out hf
      exact absurd (show none = some out from hf) (by simp)
    | succ n9 ih0 =>
      intro v1 v2 out hf hex H locs ls hR hS hz hl
      have hf : fX10_litOver_L4_B F X a0 a1 (fX10_litOver_L4 F X a0 a1 n9) v1 v2 = some out := hf
      unfold fX10_litOver_L4_B at hf
      refine lv_iload_n hx hb dX10_litOver_4 rfl (lv_at hl 3 rfl) ?_
      refine lv_aload_n hx hb dX10_litOver_5 rfl (lv_at hl 0 rfl) ?_
      refine q_gI hx hb hT hown hK hR iqX10 vqX10 1 (by decide) (hT _ wfl_X10_102) hf dX10_litOver_6 (fun v3 hf => ?_)
      refine lv_icmp_ge (tgt := 37) hx hb dX10_litOver_9 (by decide) (fun hc => ?_) (fun hc => ?_)
      · have hf := q_t hf hc
        exact hex _ (Option.some.inj hf).symm _ _ _ hR hS hz (lv_sub hl [2] rfl)
      · have hf := q_f hf hc
        refine lv_iload_n hx hb dX10_litOver_12 rfl (lv_at hl 2 rfl) ?_
        refine lv_aload_n hx hb dX10_litOver_13 rfl (lv_at hl 0 rfl) ?_
        refine lv_iload_n hx hb dX10_litOver_14 rfl (lv_at hl 3 rfl) ?_
        obtain ⟨v4, hc, hf⟩ := q_b hf
        refine q_calli (va_runV (As := [.int v2]) (rest := [.int v1]) ⟨hx, hb, hml, hown, hT⟩ (mX10_overOf l D kz b0 sz F X a0 v2 v4 hc) (cwV 1 hT (q_gV wco_X10_overOf wml_X10_214 wim_X10_overOf wse_X10_overOf win_X10) rfl rfl rfl hdX10_overOf ⟨Nat.le_of_ble_eq_true rfl, Nat.le_of_ble_eq_true rfl⟩) (q_preV vqX10 (fX10_overOf_is hc) hR hK hz) rfl rfl hl.1 rfl (lv_room (Nat.le_of_ble_eq_true rfl)) dX10_litOver_15 ⟨Nat.le_of_ble_eq_true rfl, Nat.le_of_ble_eq_true rfl⟩) hS (fun H locs hR hS hz => ?_)
        refine lv_iload_n hx hb dX10_litOver_18 rfl (lv_at hl 1 rfl) ?_
        obtain ⟨v5, hp, hf⟩ := q_b hf
        have hJ : ∀ (H : Heap) (locs : List Loc) (ls : Array Slot), qR D kz b0 X H → va_S (qA b0) s.heap H locs → H.size = sz → lv_has ls 4 [(0, .ref a0), (1, .int a1), (3, .int v2)] → W p l e rmX10_litOver s m args below meth c H locs 0 0 Q (F0 m 29 ls [.int v5, .int v1]) := by
          intro H locs ls hR hS hz hl
          refine lv_ior hx hb dX10_litOver_29 ?_
          refine lv_topi (fun v6 ev6 => ?_)
          have hf := q_lt ev6 hf
          refine lv_istore_n (lv' := [(2, .int v6), (0, .ref a0), (1, .int a1), (3, .int v2)]) hx hb dX10_litOver_30 rfl hl (by decide) rfl (fun ls hl => ?_)
          obtain ⟨v7, ev7⟩ : ∃ y : Int32, y = (v2 + (1 : Int32)) := ⟨_, rfl⟩
          have hf := q_lt ev7 hf
          refine lv_iinc (v := v7) (lv' := [(3, .int v7), (2, .int v6), (0, .ref a0), (1, .int a1)]) hx hb dX10_litOver_31 hl (k := 3) rfl (by rw [ev7]; rfl) (by decide) rfl (fun ls hl => ?_)
          refine lv_goto (tgt := 4) hx hb dX10_litOver_34 (by decide) ?_
          exact ih0 _ _ out hf hex _ _ _ hR hS hz (lv_sub hl [2, 3, 1, 0] rfl)
        have hf := hp
        refine lv_icmp_ne (tgt := 28) hx hb dX10_litOver_19 (by decide) (fun hc => ?_) (fun hc => ?_)
        · have hf := q_f hf hc
          refine lv_iconst (v := (0 : Int32)) hx hb dX10_litOver_28 (by decide) ?_
          cases hf
          exact hJ _ _ _ hR hS hz (lv_sub hl [0, 1, 3] rfl)
        · have hf := q_t hf hc
          refine lv_iconst (v := (1 : Int32)) hx hb dX10_litOver_22 (by decide) ?_
          refine lv_iload_n hx hb dX10_litOver_23 rfl (lv_at hl 3 rfl) ?_
          refine lv_ishl hx hb dX10_litOver_24 ?_
          refine lv_goto (tgt := 29) hx hb dX10_litOver_25 (by decide) ?_
          cases hf
          exact hJ _ _ _ hR hS hz (lv_sub hl [0, 1, 3] rfl)
  refine hL F _ _ _ ho (fun z0 h9 => ?_) _ _ _ hR hS hz (lv_sub hl [2, 3, 1, 0] rfl)
  cases h9
  intro H locs ls hR hS hz hl
  refine lv_iload_n hx hb dX10_litOver_37 rfl (lv_at hl 0 rfl) ?_
  subst hQ
  exact q_iret hx hb hr hlocks hR hS hz (Option.some.inj hf) rfl dX10_litOver_38
/-! X10_lit -/
def fX10_lit_L66_B (F : Nat) (X : qH) (a0 : Nat) (v1 : Int32) (v2 : Int32) (self0 : Int32 → Int32 → Option (Int32)) (v8 : Int32) (v9 : Int32) : Option (Int32) :=
if v2 ≤ v9 then (some v8)
else ((qgR X 9 a0 34).bind fun v10 =>
(qaI X 0 v10 v2).bind fun v11 =>
(qgR X 9 a0 34).bind fun v12 =>
(qaI X 0 v12 v9).bind fun v13 =>
(if v11 = v13 then ((qgR X 9 a0 35).bind fun v17 =>
(qaI X 0 v17 v2).bind fun v18 =>
(qgR X 9 a0 35).bind fun v19 =>
(qaI X 0 v19 v9).bind fun v20 =>
if v18 = v20 then (some (1 : Int32))
else (some (0 : Int32)))
else (some (0 : Int32)) : Option Int32).bind fun v14 =>
qlt (v8 - v14) fun v15 =>
qlt (v9 + (1 : Int32)) fun v16 =>
self0 v15 v16)
def fX10_lit_L66 (F : Nat) (X : qH) (a0 : Nat) (v1 : Int32) (v2 : Int32) : Nat → Int32 → Int32 → Option (Int32)
  | 0, _, _ => none
  | n + 1, v8, v9 => fX10_lit_L66_B F X a0 v1 v2 (fX10_lit_L66 F X a0 v1 v2 n) v8 v9
def fX10_lit_L40_B (F : Nat) (X : qH) (a0 : Nat) (self0 : Int32 → Int32 → Option (Int32)) (v1 : Int32) (v2 : Int32) : Option (Int32) :=
(qgI X 9 a0 33).bind fun v3 =>
if v3 ≤ v2 then (some v1)
else ((qgR X 9 a0 35).bind fun v4 =>
(qaI X 0 v4 v2).bind fun v5 =>
(fX10_litOver F X a0 v5).bind fun v6 =>
(fX10_bits F X v6).bind fun v7 =>
(fX10_lit_L66 F X a0 v1 v2 F v7 (0 : Int32)).bind fun v21 =>
(if v21 ≤ (0 : Int32) then (some (0 : Int32))
else (some v21) : Option Int32).bind fun v22 =>
qlt (v1 * v22) fun v23 =>
qlt (v2 + (1 : Int32)) fun v24 =>
self0 v23 v24)
def fX10_lit_L40 (F : Nat) (X : qH) (a0 : Nat) : Nat → Int32 → Int32 → Option (Int32)
  | 0, _, _ => none
  | n + 1, v1, v2 => fX10_lit_L40_B F X a0 (fX10_lit_L40 F X a0 n) v1 v2
def fX10_lit (F : Nat) (X : qH) (a0 : Nat) (a1 : Int32) : Option (Int32) :=
qIs 9 X a0 <|
if a1 = (-1 : Int32) then ((fX10_lit_L40 F X a0 F (1 : Int32) (0 : Int32)).bind fun v25 =>
some v25)
else ((qgI X 9 a0 33).bind fun v26 =>
(fX10_in F X ((a1).toInt64) (0 : Int64) (((v26 - (1 : Int32))).toInt64)).bind fun v27 =>
(if v27 = (0 : Int32) then (some (-1 : Int32))
else ((qgR X 9 a0 35).bind fun v29 =>
(qaI X 0 v29 a1).bind fun v30 =>
(fX10_litOver F X a0 v30).bind fun v31 =>
some v31) : Option Int32).bind fun v28 =>
some v28)
abbrev rmX10_lit : Room := { frames := 2, cells := 0, slots := 0, locals := 45 }
theorem fX10_lit_is {F : Nat} {X : qH} {a0 : Nat} {a1 : Int32} {r9 : Int32} (h : fX10_lit F X a0 a1 = some r9) : ∃ fs, X a0 = some (.inr (9, fs)) := (qIs_spec h).1
theorem hdX10_lit : yX10_lit.cls = RX10 ∧ yX10_lit.cls ≠ "java/lang/invoke/MethodHandle" ∧ yX10_lit.cls ≠ "java/lang/invoke/VarHandle" ∧ (parseMethodDescriptor yX10_lit.desc).map (fun d => d.parameters.length) = some 1 := by decide +kernel
set_option maxHeartbeats 4000000 in
set_option maxRecDepth 100000 in
theorem mX10_lit (l : Launch) (D : va_G) (kz : Nat → Nat) (b0 sz F : Nat) (X : qH) (a0 : Nat) (a1 : Int32) (r : Int32) (hf : fX10_lit F X a0 a1 = some r) : Met l yX10_lit (qws yX10_lit cX10_lit 6 (some .int)) rmX10_lit (va_Pc [.ref a0, .int a1] (qU D kz b0 sz X)) (va_Qi (fun (r' : Int32) (u : qH) => r' = r ∧ u = X) (fun u t => qO D kz b0 sz u t) (qA b0)) 0 0 (qA b0) := by
  refine q_start (by decide) (Nat.le_of_ble_eq_true rfl) ?_
  intro p e s m args below meth c hx hb hr hlocks hnm hml hown hT hR hK hz ls hl
  have hown : s.vm.findClass RX10 = some m.cls := hown
  have hl : lv_has ls 6 [(0, .ref a0), (1, .int a1)] := hl
  have hS : va_S (qA b0) s.heap s.heap [] := va_S.rf
  obtain ⟨Q, hQ⟩ : ∃ Q, Q = MQ below (va_Qi (fun (r' : Int32) (u : qH) => r' = r ∧ u = X) (fun u t => qO D kz b0 sz u t) (qA b0)) args s 0 0 (qA b0) := ⟨_, rfl⟩
  rw [← hQ]
  unfold fX10_lit at hf
  obtain ⟨hthis, hf⟩ := qIs_spec hf
  refine lv_iload_n hx hb dX10_lit_0 rfl (lv_at hl 1 rfl) ?_
  refine lv_iconst (v := (-1 : Int32)) hx hb dX10_lit_1 (by decide) ?_
  refine lv_icmp_eq (tgt := 36) hx hb dX10_lit_2 (by decide) (fun hc => ?_) (fun hc => ?_)
  · have hf := q_t hf hc
    refine lv_iconst (v := (1 : Int32)) hx hb dX10_lit_36 (by decide) ?_
    refine lv_istore_n (lv' := [(2, .int (1 : Int32)), (0, .ref a0), (1, .int a1)]) hx hb dX10_lit_37 rfl hl (by decide) rfl (fun ls hl => ?_)
    refine lv_iconst (v := (0 : Int32)) hx hb dX10_lit_38 (by decide) ?_
    refine lv_istore_n (lv' := [(3, .int (0 : Int32)), (2, .int (1 : Int32)), (0, .ref a0), (1, .int a1)]) hx hb dX10_lit_39 rfl hl (by decide) rfl (fun ls hl => ?_)
    obtain ⟨v25, ho, hf⟩ := q_b hf
    have hL : ∀ (n : Nat) (v1 : Int32) (v2 : Int32) (out : Int32), fX10_lit_L40 F X a0 n v1 v2 = some out → (∀ (v25 : Int32), out = v25 → ∀ (H : Heap) (locs : List Loc) (ls : Array Slot), qR D kz b0 X H → va_S (qA b0) s.heap H locs → H.size = sz → lv_has ls 6 [(2, .int v25)] → W p l e rmX10_lit s m args below meth c H locs 0 0 Q (F0 m 140 ls [])) → ∀ (H : Heap) (locs : List Loc) (ls : Array Slot), qR D kz b0 X H → va_S (qA b0) s.heap H locs → H.size = sz → lv_has ls 6 [(0, .ref a0), (2, .int v1), (3, .int v2)] → W p l e rmX10_lit s m args below meth c H locs 0 0 Q (F0 m 40 ls []) := by
      intro n9
      induction n9 with
      | zero =>
        intro v1 v2 out hf
        exact absurd (show none = some out from hf) (by simp)
      | succ n9 ih0 =>
        intro v1 v2 out hf hex H locs ls hR hS hz hl
        have hf : fX10_lit_L40_B F X a0 (fX10_lit_L40 F X a0 n9) v1 v2 = some out := hf
        unfold fX10_lit_L40_B at hf
        refine lv_iload_n hx hb dX10_lit_40 rfl (lv_at hl 2 rfl) ?_
        refine lv_aload_n hx hb dX10_lit_41 rfl (lv_at hl 0 rfl) ?_
        refine q_gI hx hb hT hown hK hR iqX10 vqX10 33 (by decide) (hT _ wfl_X10_185) hf dX10_lit_42 (fun v3 hf => ?_)
        refine lv_icmp_ge (tgt := 140) hx hb dX10_lit_45 (by decide) (fun hc => ?_) (fun hc => ?_)
        · have hf := q_t hf hc
          exact hex _ (Option.some.inj hf).symm _ _ _ hR hS hz (lv_sub hl [1] rfl)
        · have hf := q_f hf hc
          refine lv_aload_n hx hb dX10_lit_48 rfl (lv_at hl 0 rfl) ?_
          refine lv_aload_n hx hb dX10_lit_49 rfl (lv_at hl 0 rfl) ?_
          refine q_gR hx hb hT hown hK hR iqX10 vqX10 35 (by decide) (hT _ wfl_X10_80) hf dX10_lit_50 (fun v4 hf => ?_)
          refine lv_iload_n hx hb dX10_lit_53 rfl (lv_at hl 2 rfl) ?_
          refine q_iald hx hb hK hR hf dX10_lit_54 (fun v5 hf => ?_)
          obtain ⟨v6, hc, hf⟩ := q_b hf
          refine q_calli (va_runV (As := [.int v5]) (rest := []) ⟨hx, hb, hml, hown, hT⟩ (mX10_litOver l D kz b0 sz F X a0 v5 v6 hc) (cwV 1 hT (q_gV wco_X10_litOver wml_X10_304 wim_X10_litOver wse_X10_litOver win_X10) rfl rfl rfl hdX10_litOver ⟨Nat.le_of_ble_eq_true rfl, Nat.le_of_ble_eq_true rfl⟩) (q_preV vqX10 (fX10_litOver_is hc) hR hK hz) rfl rfl hl.1 rfl (lv_room (Nat.le_of_ble_eq_true rfl)) dX10_lit_55 ⟨Nat.le_of_ble_eq_true rfl, Nat.le_of_ble_eq_true rfl⟩) hS (fun H locs hR hS hz => ?_)
          obtain ⟨v7, hc, hf⟩ := q_b hf
          refine q_calli (va_runS (As := [.int v6]) (rest := []) ⟨hx, hb, hml, hown, hT⟩ (mX10_bits l D kz b0 sz F X v6 v7 hc) (va_cwS 1 hT (q_gS wco_X10_bits wml_X10_272 wst_X10_bits win_X10) rfl rfl rfl hdX10_bits ⟨Nat.le_of_ble_eq_true rfl, Nat.le_of_ble_eq_true rfl⟩) (q_preS hR hK hz) rfl rfl hl.1 rfl (lv_room (Nat.le_of_ble_eq_true rfl)) dX10_lit_58 ⟨Nat.le_of_ble_eq_true rfl, Nat.le_of_ble_eq_true rfl⟩) hS (fun H locs hR hS hz => ?_)
          refine lv_istore (lv' := [(4, .int v7), (0, .ref a0), (2, .int v1), (3, .int v2)]) hx hb dX10_lit_61 hl (by decide) rfl (fun ls hl => ?_)
          refine lv_iconst (v := (0 : Int32)) hx hb dX10_lit_63 (by decide) ?_
          refine lv_istore (lv' := [(5, .int (0 : Int32)), (4, .int v7), (0, .ref a0), (2, .int v1), (3, .int v2)]) hx hb dX10_lit_64 hl (by decide) rfl (fun ls hl => ?_)
          obtain ⟨v21, ho, hf⟩ := q_b hf
          have hL : ∀ (n : Nat) (v8 : Int32) (v9 : Int32) (out : Int32), fX10_lit_L66 F X a0 v1 v2 n v8 v9 = some out → (∀ (v21 : Int32), out = v21 → ∀ (H : Heap) (locs : List Loc) (ls : Array Slot), qR D kz b0 X H → va_S (qA b0) s.heap H locs → H.size = sz → lv_has ls 6 [(0, .ref a0), (2, .int v1), (3, .int v2), (4, .int v21)] → W p l e rmX10_lit s m args below meth c H locs 0 0 Q (F0 m 120 ls [])) → ∀ (H : Heap) (locs : List Loc) (ls : Array Slot), qR D kz b0 X H → va_S (qA b0) s.heap H locs → H.size = sz → lv_has ls 6 [(0, .ref a0), (2, .int v1), (3, .int v2), (4, .int v8), (5, .int v9)] → W p l e rmX10_lit s m args below meth c H locs 0 0 Q (F0 m 66 ls []) := by
            intro n9
            induction n9 with
            | zero =>
              intro v8 v9 out hf
              exact absurd (show none = some out from hf) (by simp)
            | succ n9 ih0 =>
              intro v8 v9 out hf hex H locs ls hR hS hz hl
              have hf : fX10_lit_L66_B F X a0 v1 v2 (fX10_lit_L66 F X a0 v1 v2 n9) v8 v9 = some out := hf
              unfold fX10_lit_L66_B at hf
              refine lv_iload hx hb dX10_lit_66 (lv_at hl 4 rfl) ?_
              refine lv_iload_n hx hb dX10_lit_68 rfl (lv_at hl 2 rfl) ?_
              refine lv_icmp_ge (tgt := 120) hx hb dX10_lit_69 (by decide) (fun hc => ?_) (fun hc => ?_)
              · have hf := q_t hf hc
                exact hex _ (Option.some.inj hf).symm _ _ _ hR hS hz (lv_sub hl [0, 1, 2, 3] rfl)
              · have hf := q_f hf hc
                refine lv_iload hx hb dX10_lit_72 (lv_at hl 3 rfl) ?_
                refine lv_aload_n hx hb dX10_lit_74 rfl (lv_at hl 0 rfl) ?_
                refine q_gR hx hb hT hown hK hR iqX10 vqX10 34 (by decide) (hT _ wfl_X10_77) hf dX10_lit_75 (fun v10 hf => ?_)
                refine lv_iload_n hx hb dX10_lit_78 rfl (lv_at hl 2 rfl) ?_
                refine q_iald hx hb hK hR hf dX10_lit_79 (fun v11 hf => ?_)
                refine lv_aload_n hx hb dX10_lit_80 rfl (lv_at hl 0 rfl) ?_
                refine q_gR hx hb hT hown hK hR iqX10 vqX10 34 (by decide) (hT _ wfl_X10_77) hf dX10_lit_81 (fun v12 hf => ?_)
                refine lv_iload hx hb dX10_lit_84 (lv_at hl 4 rfl) ?_
                refine q_iald hx hb hK hR hf dX10_lit_86 (fun v13 hf => ?_)
                obtain ⟨v14, hp, hf⟩ := q_b hf
                have hJ : ∀ (H : Heap) (locs : List Loc) (ls : Array Slot), qR D kz b0 X H → va_S (qA b0) s.heap H locs → H.size = sz → lv_has ls 6 [(0, .ref a0), (2, .int v1), (3, .int v2), (5, .int v9)] → W p l e rmX10_lit s m args below meth c H locs 0 0 Q (F0 m 111 ls [.int v14, .int v8]) := by
                  intro H locs ls hR hS hz hl
                  refine lv_isub hx hb dX10_lit_111 ?_
                  refine lv_topi (fun v15 ev15 => ?_)
                  have hf := q_lt ev15 hf
                  refine lv_istore (lv' := [(4, .int v15), (0, .ref a0), (2, .int v1), (3, .int v2), (5, .int v9)]) hx hb dX10_lit_112 hl (by decide) rfl (fun ls hl => ?_)
                  obtain ⟨v16, ev16⟩ : ∃ y : Int32, y = (v9 + (1 : Int32)) := ⟨_, rfl⟩
                  have hf := q_lt ev16 hf
                  refine lv_iinc (v := v16) (lv' := [(5, .int v16), (4, .int v15), (0, .ref a0), (2, .int v1), (3, .int v2)]) hx hb dX10_lit_114 hl (k := 4) rfl (by rw [ev16]; rfl) (by decide) rfl (fun ls hl => ?_)
                  refine lv_goto (tgt := 66) hx hb dX10_lit_117 (by decide) ?_
                  exact ih0 _ _ out hf hex _ _ _ hR hS hz (lv_sub hl [2, 3, 4, 1, 0] rfl)
                have hf := hp
                refine lv_icmp_ne (tgt := 110) hx hb dX10_lit_87 (by decide) (fun hc => ?_) (fun hc => ?_)
                · have hf := q_f hf hc
                  refine lv_iconst (v := (0 : Int32)) hx hb dX10_lit_110 (by decide) ?_
                  cases hf
                  exact hJ _ _ _ hR hS hz (lv_sub hl [0, 1, 2, 4] rfl)
                · have hf := q_t hf hc
                  refine lv_aload_n hx hb dX10_lit_90 rfl (lv_at hl 0 rfl) ?_
                  refine q_gR hx hb hT hown hK hR iqX10 vqX10 35 (by decide) (hT _ wfl_X10_80) hf dX10_lit_91 (fun v17 hf => ?_)
                  refine lv_iload_n hx hb dX10_lit_94 rfl (lv_at hl 2 rfl) ?_
                  refine q_iald hx hb hK hR hf dX10_lit_95 (fun v18 hf => ?_)
                  refine lv_aload_n hx hb dX10_lit_96 rfl (lv_at hl 0 rfl) ?_
                  refine q_gR hx hb hT hown hK hR iqX10 vqX10 35 (by decide) (hT _ wfl_X10_80) hf dX10_lit_97 (fun v19 hf => ?_)
                  refine lv_iload hx hb dX10_lit_100 (lv_at hl 4 rfl) ?_
                  refine q_iald hx hb hK hR hf dX10_lit_102 (fun v20 hf => ?_)
                  refine lv_icmp_ne (tgt := 110) hx hb dX10_lit_103 (by decide) (fun hc => ?_) (fun hc => ?_)
                  · have hf := q_f hf hc
                    refine lv_iconst (v := (0 : Int32)) hx hb dX10_lit_110 (by decide) ?_
                    cases hf
                    exact hJ _ _ _ hR hS hz (lv_sub hl [0, 1, 2, 4] rfl)
                  · have hf := q_t hf hc
                    refine lv_iconst (v := (1 : Int32)) hx hb dX10_lit_106 (by decide) ?_
                    refine lv_goto (tgt := 111) hx hb dX10_lit_107 (by decide) ?_
                    cases hf
                    exact hJ _ _ _ hR hS hz (lv_sub hl [0, 1, 2, 4] rfl)
          refine hL F _ _ _ ho (fun z0 h9 => ?_) _ _ _ hR hS hz (lv_sub hl [2, 3, 4, 1, 0] rfl)
          cases h9
          intro H locs ls hR hS hz hl
          refine lv_iload_n hx hb dX10_lit_120 rfl (lv_at hl 1 rfl) ?_
          refine lv_iload hx hb dX10_lit_121 (lv_at hl 3 rfl) ?_
          obtain ⟨v22, hp, hf⟩ := q_b hf
          have hJ : ∀ (H : Heap) (locs : List Loc) (ls : Array Slot), qR D kz b0 X H → va_S (qA b0) s.heap H locs → H.size = sz → lv_has ls 6 [(0, .ref a0), (3, .int v2)] → W p l e rmX10_lit s m args below meth c H locs 0 0 Q (F0 m 132 ls [.int v22, .int v1]) := by
            intro H locs ls hR hS hz hl
            refine lv_imul hx hb dX10_lit_132 ?_
            refine lv_topi (fun v23 ev23 => ?_)
            have hf := q_lt ev23 hf
            refine lv_istore_n (lv' := [(2, .int v23), (0, .ref a0), (3, .int v2)]) hx hb dX10_lit_133 rfl hl (by decide) rfl (fun ls hl => ?_)
            obtain ⟨v24, ev24⟩ : ∃ y : Int32, y = (v2 + (1 : Int32)) := ⟨_, rfl⟩
            have hf := q_lt ev24 hf
            refine lv_iinc (v := v24) (lv' := [(3, .int v24), (2, .int v23), (0, .ref a0)]) hx hb dX10_lit_134 hl (k := 2) rfl (by rw [ev24]; rfl) (by decide) rfl (fun ls hl => ?_)
            refine lv_goto (tgt := 40) hx hb dX10_lit_137 (by decide) ?_
            exact ih0 _ _ out hf hex _ _ _ hR hS hz (lv_sub hl [2, 1, 0] rfl)
          have hf := hp
          refine lv_if_le (tgt := 131) hx hb dX10_lit_123 (by decide) (fun hc => ?_) (fun hc => ?_)
          · have hf := q_t hf hc
            refine lv_iconst (v := (0 : Int32)) hx hb dX10_lit_131 (by decide) ?_
            cases hf
            exact hJ _ _ _ hR hS hz (lv_sub hl [0, 2] rfl)
          · have hf := q_f hf hc
            refine lv_iload hx hb dX10_lit_126 (lv_at hl 3 rfl) ?_
            refine lv_goto (tgt := 132) hx hb dX10_lit_128 (by decide) ?_
            cases hf
            exact hJ _ _ _ hR hS hz (lv_sub hl [0, 2] rfl)
    refine hL F _ _ _ ho (fun z0 h9 => ?_) _ _ _ hR hS hz (lv_sub hl [2, 1, 0] rfl)
    cases h9
    intro H locs ls hR hS hz hl
    refine lv_iload_n hx hb dX10_lit_140 rfl (lv_at hl 0 rfl) ?_
    subst hQ
    exact q_iret hx hb hr hlocks hR hS hz (Option.some.inj hf) rfl dX10_lit_141
  · have hf := q_f hf hc
    refine lv_iload_n hx hb dX10_lit_5 rfl (lv_at hl 1 rfl) ?_
    refine lv_i2l hx hb dX10_lit_6 rfl ?_
    refine lv_lconst (v := (0 : Int64)) hx hb dX10_lit_7 (by decide) ?_
    refine lv_aload_n hx hb dX10_lit_8 rfl (lv_at hl 0 rfl) ?_
    refine q_gI hx hb hT hown hK hR iqX10 vqX10 33 (by decide) (hT _ wfl_X10_185) hf dX10_lit_9 (fun v26 hf => ?_)
    refine lv_iconst (v := (1 : Int32)) hx hb dX10_lit_12 (by decide) ?_
    refine lv_isub hx hb dX10_lit_13 ?_
    refine lv_i2l hx hb dX10_lit_14 rfl ?_
    obtain ⟨v27, hc, hf⟩ := q_b hf
    refine q_calli (va_runS (As := [.long ((a1).toInt64), .long (0 : Int64), .long (((v26 - (1 : Int32))).toInt64)]) (rest := []) ⟨hx, hb, hml, hown, hT⟩ (mX10_in l D kz b0 sz F X ((a1).toInt64) (0 : Int64) (((v26 - (1 : Int32))).toInt64) v27 hc) (va_cwS 3 hT (q_gS wco_X10_in wml_X10_105 wst_X10_in win_X10) rfl rfl rfl hdX10_in ⟨Nat.le_of_ble_eq_true rfl, Nat.le_of_ble_eq_true rfl⟩) (q_preS hR hK hz) rfl rfl hl.1 rfl (lv_room (Nat.le_of_ble_eq_true rfl)) dX10_lit_15 ⟨Nat.le_of_ble_eq_true rfl, Nat.le_of_ble_eq_true rfl⟩) hS (fun H locs hR hS hz => ?_)
    obtain ⟨v28, hp, hf⟩ := q_b hf
    have hJ : ∀ (H : Heap) (locs : List Loc) (ls : Array Slot), qR D kz b0 X H → va_S (qA b0) s.heap H locs → H.size = sz → lv_has ls 6 [] → W p l e rmX10_lit s m args below meth c H locs 0 0 Q (F0 m 35 ls [.int v28]) := by
      intro H locs ls hR hS hz hl
      subst hQ
      exact q_iret hx hb hr hlocks hR hS hz (Option.some.inj hf) rfl dX10_lit_35
    have hf := hp
    refine lv_if_eq (tgt := 34) hx hb dX10_lit_18 (by decide) (fun hc => ?_) (fun hc => ?_)
    · have hf := q_t hf hc
      refine lv_iconst (v := (-1 : Int32)) hx hb dX10_lit_34 (by decide) ?_
      cases hf
      exact hJ _ _ _ hR hS hz (lv_sub hl [] rfl)
    · have hf := q_f hf hc
      refine lv_aload_n hx hb dX10_lit_21 rfl (lv_at hl 0 rfl) ?_
      refine lv_aload_n hx hb dX10_lit_22 rfl (lv_at hl 0 rfl) ?_
      refine q_gR hx hb hT hown hK hR iqX10 vqX10 35 (by decide) (hT _ wfl_X10_80) hf dX10_lit_23 (fun v29 hf => ?_)
      refine lv_iload_n hx hb dX10_lit_26 rfl (lv_at hl 1 rfl) ?_
      refine q_iald hx hb hK hR hf dX10_lit_27 (fun v30 hf => ?_)
      obtain ⟨v31, hc, hf⟩ := q_b hf
      refine q_calli (va_runV (As := [.int v30]) (rest := []) ⟨hx, hb, hml, hown, hT⟩ (mX10_litOver l D kz b0 sz F X a0 v30 v31 hc) (cwV 1 hT (q_gV wco_X10_litOver wml_X10_304 wim_X10_litOver wse_X10_litOver win_X10) rfl rfl rfl hdX10_litOver ⟨Nat.le_of_ble_eq_true rfl, Nat.le_of_ble_eq_true rfl⟩) (q_preV vqX10 (fX10_litOver_is hc) hR hK hz) rfl rfl hl.1 rfl (lv_room (Nat.le_of_ble_eq_true rfl)) dX10_lit_28 ⟨Nat.le_of_ble_eq_true rfl, Nat.le_of_ble_eq_true rfl⟩) hS (fun H locs hR hS hz => ?_)
      refine lv_goto (tgt := 35) hx hb dX10_lit_31 (by decide) ?_
      cases hf
      exact hJ _ _ _ hR hS hz (lv_sub hl [] rfl)
/-! X10_write -/
def fX10_write (F : Nat) (X : qH) (a0 : Nat) (a1 : Int32) (a2 : Int32) (a3 : Int32) : Option (Int32 × qH) :=
qIs 9 X a0 <|
(fX10_areTwo F X a0 a1 a2).bind fun v1 =>
if v1 = (0 : Int32) then (some ((-1000000001 : Int32), X))
else ((qgI X 9 a0 36).bind fun v2 =>
if v2 = (15 : Int32) then (some ((-1000000004 : Int32), X))
else ((qgR X 9 a0 37).bind fun v3 =>
(qgI X 9 a0 36).bind fun v4 =>
(qaS X 0 v3 v4 a1).bind fun X5 =>
(qgR X5 9 a0 38).bind fun v6 =>
(qgI X5 9 a0 36).bind fun v7 =>
(qaS X5 0 v6 v7 a2).bind fun X8 =>
(qgR X8 9 a0 39).bind fun v9 =>
(qgI X8 9 a0 36).bind fun v10 =>
(qaZ X8 v9 v10 a3).bind fun X11 =>
(qgI X11 9 a0 36).bind fun v12 =>
qlt (v12 + (1 : Int32)) fun v13 =>
(qpI X11 9 a0 36 v13).bind fun X14 =>
(qgI X14 9 a0 36).bind fun v15 =>
some (v15, X14)))
abbrev rmX10_write : Room := { frames := 3, cells := 0, slots := 0, locals := 68 }
theorem fX10_write_is {F : Nat} {X : qH} {a0 : Nat} {a1 : Int32} {a2 : Int32} {a3 : Int32} {r9 : Int32 × qH} (h : fX10_write F X a0 a1 a2 a3 = some r9) : ∃ fs, X a0 = some (.inr (9, fs)) := (qIs_spec h).1
theorem hdX10_write : yX10_write.cls = RX10 ∧ yX10_write.cls ≠ "java/lang/invoke/MethodHandle" ∧ yX10_write.cls ≠ "java/lang/invoke/VarHandle" ∧ (parseMethodDescriptor yX10_write.desc).map (fun d => d.parameters.length) = some 3 := by decide +kernel
set_option maxHeartbeats 4000000 in
set_option maxRecDepth 100000 in
theorem mX10_write (l : Launch) (D : va_G) (kz : Nat → Nat) (b0 sz F : Nat) (X : qH) (a0 : Nat) (a1 : Int32) (a2 : Int32) (a3 : Int32) (r : Int32) (Xr : qH) (hf : fX10_write F X a0 a1 a2 a3 = some (r, Xr)) : Met l yX10_write (qws yX10_write cX10_write 4 (some .int)) rmX10_write (va_Pc [.ref a0, .int a1, .int a2, .int a3] (qU D kz b0 sz X)) (va_Qi (fun (r' : Int32) (u : qH) => r' = r ∧ u = Xr) (fun u t => qO D kz b0 sz u t) (qA b0)) 0 0 (qA b0) := by
  refine q_start (by decide) (Nat.le_of_ble_eq_true rfl) ?_
  intro p e s m args below meth c hx hb hr hlocks hnm hml hown hT hR hK hz ls hl
  have hown : s.vm.findClass RX10 = some m.cls := hown
  have hl : lv_has ls 4 [(0, .ref a0), (1, .int a1), (2, .int a2), (3, .int a3)] := hl
  have hS : va_S (qA b0) s.heap s.heap [] := va_S.rf
  obtain ⟨Q, hQ⟩ : ∃ Q, Q = MQ below (va_Qi (fun (r' : Int32) (u : qH) => r' = r ∧ u = Xr) (fun u t => qO D kz b0 sz u t) (qA b0)) args s 0 0 (qA b0) := ⟨_, rfl⟩
  rw [← hQ]
  unfold fX10_write at hf
  obtain ⟨hthis, hf⟩ := qIs_spec hf
  refine lv_aload_n hx hb dX10_write_0 rfl (lv_at hl 0 rfl) ?_
  refine lv_iload_n hx hb dX10_write_1 rfl (lv_at hl 1 rfl) ?_
  refine lv_iload_n hx hb dX10_write_2 rfl (lv_at hl 2 rfl) ?_
  obtain ⟨v1, hc, hf⟩ := q_b hf
  refine q_calli (va_runV (As := [.int a1, .int a2]) (rest := []) ⟨hx, hb, hml, hown, hT⟩ (mX10_areTwo l D kz b0 sz F X a0 a1 a2 v1 hc) (cwV 2 hT (q_gV wco_X10_areTwo wml_X10_226 wim_X10_areTwo wse_X10_areTwo win_X10) rfl rfl rfl hdX10_areTwo ⟨Nat.le_of_ble_eq_true rfl, Nat.le_of_ble_eq_true rfl⟩) (q_preV vqX10 (fX10_areTwo_is hc) hR hK hz) rfl rfl hl.1 rfl (lv_room (Nat.le_of_ble_eq_true rfl)) dX10_write_3 ⟨Nat.le_of_ble_eq_true rfl, Nat.le_of_ble_eq_true rfl⟩) hS (fun H locs hR hS hz => ?_)
  refine lv_if_ne (tgt := 12) hx hb dX10_write_6 (by decide) (fun hc => ?_) (fun hc => ?_)
  · have hf := q_f hf hc
    refine lv_aload_n hx hb dX10_write_12 rfl (lv_at hl 0 rfl) ?_
    refine q_gI hx hb hT hown hK hR iqX10 vqX10 36 (by decide) (hT _ wfl_X10_188) hf dX10_write_13 (fun v2 hf => ?_)
    refine lv_bipush (v := (15 : Int32)) hx hb dX10_write_16 (by decide) ?_
    refine lv_icmp_ne (tgt := 24) hx hb dX10_write_18 (by decide) (fun hc => ?_) (fun hc => ?_)
    · have hf := q_f hf hc
      refine lv_aload_n hx hb dX10_write_24 rfl (lv_at hl 0 rfl) ?_
      refine q_gR hx hb hT hown hK hR iqX10 vqX10 37 (by decide) (hT _ wfl_X10_83) hf dX10_write_25 (fun v3 hf => ?_)
      refine lv_aload_n hx hb dX10_write_28 rfl (lv_at hl 0 rfl) ?_
      refine q_gI hx hb hT hown hK hR iqX10 vqX10 36 (by decide) (hT _ wfl_X10_188) hf dX10_write_29 (fun v4 hf => ?_)
      refine lv_iload_n hx hb dX10_write_32 rfl (lv_at hl 1 rfl) ?_
      refine q_iast hx hb hK hR hS hz hf dX10_write_33 (fun X5 hf H locs hR hS hz => ?_)
      refine lv_aload_n hx hb dX10_write_34 rfl (lv_at hl 0 rfl) ?_
      refine q_gR hx hb hT hown hK hR iqX10 vqX10 38 (by decide) (hT _ wfl_X10_86) hf dX10_write_35 (fun v6 hf => ?_)
      refine lv_aload_n hx hb dX10_write_38 rfl (lv_at hl 0 rfl) ?_
      refine q_gI hx hb hT hown hK hR iqX10 vqX10 36 (by decide) (hT _ wfl_X10_188) hf dX10_write_39 (fun v7 hf => ?_)
      refine lv_iload_n hx hb dX10_write_42 rfl (lv_at hl 2 rfl) ?_
      refine q_iast hx hb hK hR hS hz hf dX10_write_43 (fun X8 hf H locs hR hS hz => ?_)
      refine lv_aload_n hx hb dX10_write_44 rfl (lv_at hl 0 rfl) ?_
      refine q_gR hx hb hT hown hK hR iqX10 vqX10 39 (by decide) (hT _ wfl_X10_89) hf dX10_write_45 (fun v9 hf => ?_)
      refine lv_aload_n hx hb dX10_write_48 rfl (lv_at hl 0 rfl) ?_
      refine q_gI hx hb hT hown hK hR iqX10 vqX10 36 (by decide) (hT _ wfl_X10_188) hf dX10_write_49 (fun v10 hf => ?_)
      refine lv_iload_n hx hb dX10_write_52 rfl (lv_at hl 3 rfl) ?_
      refine q_zast hx hb hK hR hS hz hf dX10_write_53 (fun X11 hf H locs hR hS hz => ?_)
      refine lv_aload_n hx hb dX10_write_54 rfl (lv_at hl 0 rfl) ?_
      refine lv_dup hx hb dX10_write_55 rfl ?_
      refine q_gI hx hb hT hown hK hR iqX10 vqX10 36 (by decide) (hT _ wfl_X10_188) hf dX10_write_56 (fun v12 hf => ?_)
      refine lv_iconst (v := (1 : Int32)) hx hb dX10_write_59 (by decide) ?_
      refine lv_iadd hx hb dX10_write_60 ?_
      refine lv_topi (fun v13 ev13 => ?_)
      have hf := q_lt ev13 hf
      refine q_pI hx hb hT hown hK hR hS hz iqX10 vqX10 tyX10_ok nmX10 36 (by decide) (hT _ wfl_X10_188) rfl rfl hf dX10_write_61 (fun X14 hf H locs hR hS hz => ?_)
      refine lv_aload_n hx hb dX10_write_64 rfl (lv_at hl 0 rfl) ?_
      refine q_gI hx hb hT hown hK hR iqX10 vqX10 36 (by decide) (hT _ wfl_X10_188) hf dX10_write_65 (fun v15 hf => ?_)
      subst hQ
      obtain ⟨h8, h9⟩ := Prod.mk.inj (Option.some.inj hf)
      exact q_iret hx hb hr hlocks hR hS hz h8 h9 dX10_write_68
    · have hf := q_t hf hc
      refine lv_ldc (v := (-1000000004 : Int32)) hx hb hown (hT _ wk_X10_115) dX10_write_21 ?_
      subst hQ
      obtain ⟨h8, h9⟩ := Prod.mk.inj (Option.some.inj hf)
      exact q_iret hx hb hr hlocks hR hS hz h8 h9 dX10_write_23
  · have hf := q_t hf hc
    refine lv_ldc (v := (-1000000001 : Int32)) hx hb hown (hT _ wk_X10_207) dX10_write_9 ?_
    subst hQ
    obtain ⟨h8, h9⟩ := Prod.mk.inj (Option.some.inj hf)
    exact q_iret hx hb hr hlocks hR hS hz h8 h9 dX10_write_11
/-! X10_tear -/
def fX10_tear (F : Nat) (X : qH) (a0 : Nat) : Option (Int32 × qH) :=
qIs 9 X a0 <|
(qgI X 9 a0 33).bind fun v1 =>
(qgI X 9 a0 36).bind fun v2 =>
qlt (v1 + v2) fun v3 =>
(qpI X 9 a0 33 (0 : Int32)).bind fun X4 =>
(qpI X4 9 a0 36 (0 : Int32)).bind fun X5 =>
some (v3, X5)
abbrev rmX10_tear : Room := { frames := 0, cells := 0, slots := 0, locals := 0 }
theorem fX10_tear_is {F : Nat} {X : qH} {a0 : Nat} {r9 : Int32 × qH} (h : fX10_tear F X a0 = some r9) : ∃ fs, X a0 = some (.inr (9, fs)) := (qIs_spec h).1
theorem hdX10_tear : yX10_tear.cls = RX10 ∧ yX10_tear.cls ≠ "java/lang/invoke/MethodHandle" ∧ yX10_tear.cls ≠ "java/lang/invoke/VarHandle" ∧ (parseMethodDescriptor yX10_tear.desc).map (fun d => d.parameters.length) = some 0 := by decide +kernel
set_option maxHeartbeats 4000000 in
set_option maxRecDepth 100000 in
theorem mX10_tear (l : Launch) (D : va_G) (kz : Nat → Nat) (b0 sz F : Nat) (X : qH) (a0 : Nat) (r : Int32) (Xr : qH) (hf : fX10_tear F X a0 = some (r, Xr)) : Met l yX10_tear (qws yX10_tear cX10_tear 2 (some .int)) rmX10_tear (va_Pc [.ref a0] (qU D kz b0 sz X)) (va_Qi (fun (r' : Int32) (u : qH) => r' = r ∧ u = Xr) (fun u t => qO D kz b0 sz u t) (qA b0)) 0 0 (qA b0) := by
  refine q_start (by decide) (Nat.le_of_ble_eq_true rfl) ?_
  intro p e s m args below meth c hx hb hr hlocks hnm hml hown hT hR hK hz ls hl
  have hown : s.vm.findClass RX10 = some m.cls := hown
  have hl : lv_has ls 2 [(0, .ref a0)] := hl
  have hS : va_S (qA b0) s.heap s.heap [] := va_S.rf
  obtain ⟨Q, hQ⟩ : ∃ Q, Q = MQ below (va_Qi (fun (r' : Int32) (u : qH) => r' = r ∧ u = Xr) (fun u t => qO D kz b0 sz u t) (qA b0)) args s 0 0 (qA b0) := ⟨_, rfl⟩
  rw [← hQ]
  unfold fX10_tear at hf
  obtain ⟨hthis, hf⟩ := qIs_spec hf
  refine lv_aload_n hx hb dX10_tear_0 rfl (lv_at hl 0 rfl) ?_
  refine q_gI hx hb hT hown hK hR iqX10 vqX10 33 (by decide) (hT _ wfl_X10_185) hf dX10_tear_1 (fun v1 hf => ?_)
  refine lv_aload_n hx hb dX10_tear_4 rfl (lv_at hl 0 rfl) ?_
  refine q_gI hx hb hT hown hK hR iqX10 vqX10 36 (by decide) (hT _ wfl_X10_188) hf dX10_tear_5 (fun v2 hf => ?_)
  refine lv_iadd hx hb dX10_tear_8 ?_
  refine lv_topi (fun v3 ev3 => ?_)
  have hf := q_lt ev3 hf
  refine lv_istore_n (lv' := [(1, .int v3), (0, .ref a0)]) hx hb dX10_tear_9 rfl hl (by decide) rfl (fun ls hl => ?_)
  refine lv_aload_n hx hb dX10_tear_10 rfl (lv_at hl 1 rfl) ?_
  refine lv_iconst (v := (0 : Int32)) hx hb dX10_tear_11 (by decide) ?_
  refine q_pI hx hb hT hown hK hR hS hz iqX10 vqX10 tyX10_ok nmX10 33 (by decide) (hT _ wfl_X10_185) rfl rfl hf dX10_tear_12 (fun X4 hf H locs hR hS hz => ?_)
  refine lv_aload_n hx hb dX10_tear_15 rfl (lv_at hl 1 rfl) ?_
  refine lv_iconst (v := (0 : Int32)) hx hb dX10_tear_16 (by decide) ?_
  refine q_pI hx hb hT hown hK hR hS hz iqX10 vqX10 tyX10_ok nmX10 36 (by decide) (hT _ wfl_X10_188) rfl rfl hf dX10_tear_17 (fun X5 hf H locs hR hS hz => ?_)
  refine lv_iload_n hx hb dX10_tear_20 rfl (lv_at hl 0 rfl) ?_
  subst hQ
  obtain ⟨h8, h9⟩ := Prod.mk.inj (Option.some.inj hf)
  exact q_iret hx hb hr hlocks hR hS hz h8 h9 dX10_tear_21
/-! X10_judge -/
def fX10_judge_L2_B (F : Nat) (X : qH) (a0 : Nat) (self0 : Int32 → Option ((Int32) ⊕ (Unit))) (v1 : Int32) : Option ((Int32) ⊕ (Unit)) :=
(qgI X 9 a0 36).bind fun v2 =>
if v2 ≤ v1 then (some (.inr ()))
else ((qgR X 9 a0 8).bind fun v3 =>
(qgR X 9 a0 37).bind fun v4 =>
(qaI X 0 v4 v1).bind fun v5 =>
(qaI X 0 v3 ((35 : Int32) + v5)).bind fun v6 =>
(qgR X 9 a0 38).bind fun v7 =>
(qaI X 0 v7 v1).bind fun v8 =>
(fX10_has F X v6 v8).bind fun v9 =>
(qgR X 9 a0 39).bind fun v10 =>
(qaI X 1 v10 v1).bind fun v11 =>
if v9 = v11 then (qlt (v1 + (1 : Int32)) fun v12 =>
self0 v12)
else (some (.inl v1)))
def fX10_judge_L2 (F : Nat) (X : qH) (a0 : Nat) : Nat → Int32 → Option ((Int32) ⊕ (Unit))
  | 0, _ => none
  | n + 1, v1 => fX10_judge_L2_B F X a0 (fX10_judge_L2 F X a0 n) v1
def fX10_judge (F : Nat) (X : qH) (a0 : Nat) : Option (Int32) :=
qIs 9 X a0 <|
(fX10_judge_L2 F X a0 F (0 : Int32)).bind fun o13 => qsm0 o13 (fun z => some z) <|
some (-1 : Int32)
abbrev rmX10_judge : Room := { frames := 1, cells := 0, slots := 0, locals := 21 }
theorem fX10_judge_is {F : Nat} {X : qH} {a0 : Nat} {r9 : Int32} (h : fX10_judge F X a0 = some r9) : ∃ fs, X a0 = some (.inr (9, fs)) := (qIs_spec h).1
theorem hdX10_judge : yX10_judge.cls = RX10 ∧ yX10_judge.cls ≠ "java/lang/invoke/MethodHandle" ∧ yX10_judge.cls ≠ "java/lang/invoke/VarHandle" ∧ (parseMethodDescriptor yX10_judge.desc).map (fun d => d.parameters.length) = some 0 := by decide +kernel
set_option maxHeartbeats 4000000 in
set_option maxRecDepth 100000 in
theorem mX10_judge (l : Launch) (D : va_G) (kz : Nat → Nat) (b0 sz F : Nat) (X : qH) (a0 : Nat) (r : Int32) (hf : fX10_judge F X a0 = some r) : Met l yX10_judge (qws yX10_judge cX10_judge 2 (some .int)) rmX10_judge (va_Pc [.ref a0] (qU D kz b0 sz X)) (va_Qi (fun (r' : Int32) (u : qH) => r' = r ∧ u = X) (fun u t => qO D kz b0 sz u t) (qA b0)) 0 0 (qA b0) := by
  refine q_start (by decide) (Nat.le_of_ble_eq_true rfl) ?_
  intro p e s m args below meth c hx hb hr hlocks hnm hml hown hT hR hK hz ls hl
  have hown : s.vm.findClass RX10 = some m.cls := hown
  have hl : lv_has ls 2 [(0, .ref a0)] := hl
  have hS : va_S (qA b0) s.heap s.heap [] := va_S.rf
  obtain ⟨Q, hQ⟩ : ∃ Q, Q = MQ below (va_Qi (fun (r' : Int32) (u : qH) => r' = r ∧ u = X) (fun u t => qO D kz b0 sz u t) (qA b0)) args s 0 0 (qA b0) := ⟨_, rfl⟩
  rw [← hQ]
  unfold fX10_judge at hf
  obtain ⟨hthis, hf⟩ := qIs_spec hf
  refine lv_iconst (v := (0 : Int32)) hx hb dX10_judge_0 (by decide) ?_
  refine lv_istore_n (lv' := [(1, .int (0 : Int32)), (0, .ref a0)]) hx hb dX10_judge_1 rfl hl (by decide) rfl (fun ls hl => ?_)
  obtain ⟨o13, ho, hf⟩ := q_b hf
  have hL : ∀ (n : Nat) (v1 : Int32) (out : (Int32) ⊕ (Unit)), fX10_judge_L2 F X a0 n v1 = some out → (∀ z, out = .inl z → z = r) → (out = .inr () → ∀ (H : Heap) (locs : List Loc) (ls : Array Slot), qR D kz b0 X H → va_S (qA b0) s.heap H locs → H.size = sz → lv_has ls 2 [] → W p l e rmX10_judge s m args below meth c H locs 0 0 Q (F0 m 50 ls [])) → ∀ (H : Heap) (locs : List Loc) (ls : Array Slot), qR D kz b0 X H → va_S (qA b0) s.heap H locs → H.size = sz → lv_has ls 2 [(0, .ref a0), (1, .int v1)] → W p l e rmX10_judge s m args below meth c H locs 0 0 Q (F0 m 2 ls []) := by
    intro n9
    induction n9 with
    | zero =>
      intro v1 out hf
      exact absurd (show none = some out from hf) (by simp)
    | succ n9 ih0 =>
      intro v1 out hf hret hex H locs ls hR hS hz hl
      have hf : fX10_judge_L2_B F X a0 (fX10_judge_L2 F X a0 n9) v1 = some out := hf
      unfold fX10_judge_L2_B at hf
      refine lv_iload_n hx hb dX10_judge_2 rfl (lv_at hl 1 rfl) ?_
      refine lv_aload_n hx hb dX10_judge_3 rfl (lv_at hl 0 rfl) ?_
      refine q_gI hx hb hT hown hK hR iqX10 vqX10 36 (by decide) (hT _ wfl_X10_188) hf dX10_judge_4 (fun v2 hf => ?_)
      refine lv_icmp_ge (tgt := 50) hx hb dX10_judge_7 (by decide) (fun hc => ?_) (fun hc => ?_)
      · have hf := q_t hf hc
        exact hex  (Option.some.inj hf).symm _ _ _ hR hS hz (lv_sub hl [] rfl)
      · have hf := q_f hf hc
        refine lv_aload_n hx hb dX10_judge_10 rfl (lv_at hl 0 rfl) ?_
        refine q_gR hx hb hT hown hK hR iqX10 vqX10 8 (by decide) (hT _ wfl_X10_29) hf dX10_judge_11 (fun v3 hf => ?_)
        refine lv_bipush (v := (35 : Int32)) hx hb dX10_judge_14 (by decide) ?_
        refine lv_aload_n hx hb dX10_judge_16 rfl (lv_at hl 0 rfl) ?_
        refine q_gR hx hb hT hown hK hR iqX10 vqX10 37 (by decide) (hT _ wfl_X10_83) hf dX10_judge_17 (fun v4 hf => ?_)
        refine lv_iload_n hx hb dX10_judge_20 rfl (lv_at hl 1 rfl) ?_
        refine q_iald hx hb hK hR hf dX10_judge_21 (fun v5 hf => ?_)
        refine lv_iadd hx hb dX10_judge_22 ?_
        refine q_iald hx hb hK hR hf dX10_judge_23 (fun v6 hf => ?_)
        refine lv_aload_n hx hb dX10_judge_24 rfl (lv_at hl 0 rfl) ?_
        refine q_gR hx hb hT hown hK hR iqX10 vqX10 38 (by decide) (hT _ wfl_X10_86) hf dX10_judge_25 (fun v7 hf => ?_)
        refine lv_iload_n hx hb dX10_judge_28 rfl (lv_at hl 1 rfl) ?_
        refine q_iald hx hb hK hR hf dX10_judge_29 (fun v8 hf => ?_)
        obtain ⟨v9, hc, hf⟩ := q_b hf
        refine q_calli (va_runS (As := [.int v6, .int v8]) (rest := []) ⟨hx, hb, hml, hown, hT⟩ (mX10_has l D kz b0 sz F X v6 v8 v9 hc) (va_cwS 2 hT (q_gS wco_X10_has wml_X10_194 wst_X10_has win_X10) rfl rfl rfl hdX10_has ⟨Nat.le_of_ble_eq_true rfl, Nat.le_of_ble_eq_true rfl⟩) (q_preS hR hK hz) rfl rfl hl.1 rfl (lv_room (Nat.le_of_ble_eq_true rfl)) dX10_judge_30 ⟨Nat.le_of_ble_eq_true rfl, Nat.le_of_ble_eq_true rfl⟩) hS (fun H locs hR hS hz => ?_)
        refine lv_aload_n hx hb dX10_judge_33 rfl (lv_at hl 0 rfl) ?_
        refine q_gR hx hb hT hown hK hR iqX10 vqX10 39 (by decide) (hT _ wfl_X10_89) hf dX10_judge_34 (fun v10 hf => ?_)
        refine lv_iload_n hx hb dX10_judge_37 rfl (lv_at hl 1 rfl) ?_
        refine q_zald hx hb hK hR hf dX10_judge_38 (fun v11 hf => ?_)
        refine lv_icmp_eq (tgt := 44) hx hb dX10_judge_39 (by decide) (fun hc => ?_) (fun hc => ?_)
        · have hf := q_t hf hc
          obtain ⟨v12, ev12⟩ : ∃ y : Int32, y = (v1 + (1 : Int32)) := ⟨_, rfl⟩
          have hf := q_lt ev12 hf
          refine lv_iinc (v := v12) (lv' := [(1, .int v12), (0, .ref a0)]) hx hb dX10_judge_44 hl (k := 1) rfl (by rw [ev12]; rfl) (by decide) rfl (fun ls hl => ?_)
          refine lv_goto (tgt := 2) hx hb dX10_judge_47 (by decide) ?_
          exact ih0 _ out hf hret hex _ _ _ hR hS hz (lv_sub hl [1, 0] rfl)
        · have hf := q_f hf hc
          refine lv_iload_n hx hb dX10_judge_42 rfl (lv_at hl 1 rfl) ?_
          subst hQ
          exact q_iret hx hb hr hlocks hR hS hz (hret _ (Option.some.inj hf).symm) rfl dX10_judge_43
  refine hL F _ o13 ho (fun z hz9 => by subst hz9; exact Option.some.inj hf) (fun  h9 => ?_) _ _ _ hR hS hz (lv_sub hl [1, 0] rfl)
  subst h9
  intro H locs ls hR hS hz hl
  have hf := qsm0_r hf
  refine lv_iconst (v := (-1 : Int32)) hx hb dX10_judge_50 (by decide) ?_
  subst hQ
  exact q_iret hx hb hr hlocks hR hS hz (Option.some.inj hf) rfl dX10_judge_51
/-! X10_seed -/
def fX10_seed (F : Nat) (X : qH) (a0 : Nat) (a1 : Int32) : Option (Int32 × qH) :=
qIs 9 X a0 <|
if (0 : Int32) ≤ a1 then ((qgI X 9 a0 9).bind fun v1 =>
(qpI X 9 a0 9 a1).bind fun X2 =>
some (v1, X2))
else (some ((-1000000002 : Int32), X))
abbrev rmX10_seed : Room := { frames := 0, cells := 0, slots := 0, locals := 0 }
theorem fX10_seed_is {F : Nat} {X : qH} {a0 : Nat} {a1 : Int32} {r9 : Int32 × qH} (h : fX10_seed F X a0 a1 = some r9) : ∃ fs, X a0 = some (.inr (9, fs)) := (qIs_spec h).1
theorem hdX10_seed : yX10_seed.cls = RX10 ∧ yX10_seed.cls ≠ "java/lang/invoke/MethodHandle" ∧ yX10_seed.cls ≠ "java/lang/invoke/VarHandle" ∧ (parseMethodDescriptor yX10_seed.desc).map (fun d => d.parameters.length) = some 1 := by decide +kernel
set_option maxHeartbeats 4000000 in
set_option maxRecDepth 100000 in
theorem mX10_seed (l : Launch) (D : va_G) (kz : Nat → Nat) (b0 sz F : Nat) (X : qH) (a0 : Nat) (a1 : Int32) (r : Int32) (Xr : qH) (hf : fX10_seed F X a0 a1 = some (r, Xr)) : Met l yX10_seed (qws yX10_seed cX10_seed 3 (some .int)) rmX10_seed (va_Pc [.ref a0, .int a1] (qU D kz b0 sz X)) (va_Qi (fun (r' : Int32) (u : qH) => r' = r ∧ u = Xr) (fun u t => qO D kz b0 sz u t) (qA b0)) 0 0 (qA b0) := by
  refine q_start (by decide) (Nat.le_of_ble_eq_true rfl) ?_
  intro p e s m args below meth c hx hb hr hlocks hnm hml hown hT hR hK hz ls hl
  have hown : s.vm.findClass RX10 = some m.cls := hown
  have hl : lv_has ls 3 [(0, .ref a0), (1, .int a1)] := hl
  have hS : va_S (qA b0) s.heap s.heap [] := va_S.rf
  obtain ⟨Q, hQ⟩ : ∃ Q, Q = MQ below (va_Qi (fun (r' : Int32) (u : qH) => r' = r ∧ u = Xr) (fun u t => qO D kz b0 sz u t) (qA b0)) args s 0 0 (qA b0) := ⟨_, rfl⟩
  rw [← hQ]
  unfold fX10_seed at hf
  obtain ⟨hthis, hf⟩ := qIs_spec hf
  refine lv_iload_n hx hb dX10_seed_0 rfl (lv_at hl 1 rfl) ?_
  refine lv_if_ge (tgt := 7) hx hb dX10_seed_1 (by decide) (fun hc => ?_) (fun hc => ?_)
  · have hf := q_t hf hc
    refine lv_aload_n hx hb dX10_seed_7 rfl (lv_at hl 0 rfl) ?_
    refine q_gI hx hb hT hown hK hR iqX10 vqX10 9 (by decide) (hT _ wfl_X10_255) hf dX10_seed_8 (fun v1 hf => ?_)
    refine lv_istore_n (lv' := [(2, .int v1), (0, .ref a0), (1, .int a1)]) hx hb dX10_seed_11 rfl hl (by decide) rfl (fun ls hl => ?_)
    refine lv_aload_n hx hb dX10_seed_12 rfl (lv_at hl 1 rfl) ?_
    refine lv_iload_n hx hb dX10_seed_13 rfl (lv_at hl 2 rfl) ?_
    refine q_pI hx hb hT hown hK hR hS hz iqX10 vqX10 tyX10_ok nmX10 9 (by decide) (hT _ wfl_X10_255) rfl rfl hf dX10_seed_14 (fun X2 hf H locs hR hS hz => ?_)
    refine lv_iload_n hx hb dX10_seed_17 rfl (lv_at hl 0 rfl) ?_
    subst hQ
    obtain ⟨h8, h9⟩ := Prod.mk.inj (Option.some.inj hf)
    exact q_iret hx hb hr hlocks hR hS hz h8 h9 dX10_seed_18
  · have hf := q_f hf hc
    refine lv_ldc (v := (-1000000002 : Int32)) hx hb hown (hT _ wk_X10_111) dX10_seed_4 ?_
    subst hQ
    obtain ⟨h8, h9⟩ := Prod.mk.inj (Option.some.inj hf)
    exact q_iret hx hb hr hlocks hR hS hz h8 h9 dX10_seed_6
/-! X10_keep -/
def fX10_keep_L15_B (F : Nat) (a0 : Nat) (a1 : Int32) (self0 : Int32 → qH → Option (qH)) (v2 : Int32) (X3 : qH) : Option (qH) :=
if (43 : Int32) ≤ v2 then (some X3)
else ((qgR X3 9 a0 40).bind fun v4 =>
(qgR X3 9 a0 8).bind fun v5 =>
(qaI X3 0 v5 v2).bind fun v6 =>
(qaS X3 0 v4 (((44 : Int32) * a1) + v2) v6).bind fun X7 =>
qlt (v2 + (1 : Int32)) fun v8 =>
self0 v8 X7)
def fX10_keep_L15 (F : Nat) (a0 : Nat) (a1 : Int32) : Nat → Int32 → qH → Option (qH)
  | 0, _, _ => none
  | n + 1, v2, X3 => fX10_keep_L15_B F a0 a1 (fX10_keep_L15 F a0 a1 n) v2 X3
def fX10_keep (F : Nat) (X : qH) (a0 : Nat) (a1 : Int32) : Option (Int32 × qH) :=
qIs 9 X a0 <|
(fX10_in F X ((a1).toInt64) (0 : Int64) (1 : Int64)).bind fun v1 =>
if v1 = (0 : Int32) then (some ((-1000000001 : Int32), X))
else ((fX10_keep_L15 F a0 a1 F (0 : Int32) X).bind fun X9 =>
(qgR X9 9 a0 40).bind fun v10 =>
(qgI X9 9 a0 9).bind fun v11 =>
(qaS X9 0 v10 (((44 : Int32) * a1) + (43 : Int32)) v11).bind fun X12 =>
(qgR X12 9 a0 41).bind fun v13 =>
(qaZ X12 v13 a1 (1 : Int32)).bind fun X14 =>
(qpI X14 9 a0 27 (0 : Int32)).bind fun X15 =>
some ((1 : Int32), X15))
abbrev rmX10_keep : Room := { frames := 1, cells := 0, slots := 0, locals := 25 }
theorem fX10_keep_is {F : Nat} {X : qH} {a0 : Nat} {a1 : Int32} {r9 : Int32 × qH} (h : fX10_keep F X a0 a1 = some r9) : ∃ fs, X a0 = some (.inr (9, fs)) := (qIs_spec h).1
theorem hdX10_keep : yX10_keep.cls = RX10 ∧ yX10_keep.cls ≠ "java/lang/invoke/MethodHandle" ∧ yX10_keep.cls ≠ "java/lang/invoke/VarHandle" ∧ (parseMethodDescriptor yX10_keep.desc).map (fun d => d.parameters.length) = some 1 := by decide +kernel
set_option maxHeartbeats 4000000 in
set_option maxRecDepth 100000 in
theorem mX10_keep (l : Launch) (D : va_G) (kz : Nat → Nat) (b0 sz F : Nat) (X : qH) (a0 : Nat) (a1 : Int32) (r : Int32) (Xr : qH) (hf : fX10_keep F X a0 a1 = some (r, Xr)) : Met l yX10_keep (qws yX10_keep cX10_keep 3 (some .int)) rmX10_keep (va_Pc [.ref a0, .int a1] (qU D kz b0 sz X)) (va_Qi (fun (r' : Int32) (u : qH) => r' = r ∧ u = Xr) (fun u t => qO D kz b0 sz u t) (qA b0)) 0 0 (qA b0) := by
  refine q_start (by decide) (Nat.le_of_ble_eq_true rfl) ?_
  intro p e s m args below meth c hx hb hr hlocks hnm hml hown hT hR hK hz ls hl
  have hown : s.vm.findClass RX10 = some m.cls := hown
  have hl : lv_has ls 3 [(0, .ref a0), (1, .int a1)] := hl
  have hS : va_S (qA b0) s.heap s.heap [] := va_S.rf
  obtain ⟨Q, hQ⟩ : ∃ Q, Q = MQ below (va_Qi (fun (r' : Int32) (u : qH) => r' = r ∧ u = Xr) (fun u t => qO D kz b0 sz u t) (qA b0)) args s 0 0 (qA b0) := ⟨_, rfl⟩
  rw [← hQ]
  unfold fX10_keep at hf
  obtain ⟨hthis, hf⟩ := qIs_spec hf
  refine lv_iload_n hx hb dX10_keep_0 rfl (lv_at hl 1 rfl) ?_
  refine lv_i2l hx hb dX10_keep_1 rfl ?_
  refine lv_lconst (v := (0 : Int64)) hx hb dX10_keep_2 (by decide) ?_
  refine lv_lconst (v := (1 : Int64)) hx hb dX10_keep_3 (by decide) ?_
  obtain ⟨v1, hc, hf⟩ := q_b hf
  refine q_calli (va_runS (As := [.long ((a1).toInt64), .long (0 : Int64), .long (1 : Int64)]) (rest := []) ⟨hx, hb, hml, hown, hT⟩ (mX10_in l D kz b0 sz F X ((a1).toInt64) (0 : Int64) (1 : Int64) v1 hc) (va_cwS 3 hT (q_gS wco_X10_in wml_X10_105 wst_X10_in win_X10) rfl rfl rfl hdX10_in ⟨Nat.le_of_ble_eq_true rfl, Nat.le_of_ble_eq_true rfl⟩) (q_preS hR hK hz) rfl rfl hl.1 rfl (lv_room (Nat.le_of_ble_eq_true rfl)) dX10_keep_4 ⟨Nat.le_of_ble_eq_true rfl, Nat.le_of_ble_eq_true rfl⟩) hS (fun H locs hR hS hz => ?_)
  refine lv_if_ne (tgt := 13) hx hb dX10_keep_7 (by decide) (fun hc => ?_) (fun hc => ?_)
  · have hf := q_f hf hc
    refine lv_iconst (v := (0 : Int32)) hx hb dX10_keep_13 (by decide) ?_
    refine lv_istore_n (lv' := [(2, .int (0 : Int32)), (0, .ref a0), (1, .int a1)]) hx hb dX10_keep_14 rfl hl (by decide) rfl (fun ls hl => ?_)
    obtain ⟨X9, ho, hf⟩ := q_b hf
    have hL : ∀ (n : Nat) (v2 : Int32) (X3 : qH) (out : qH), fX10_keep_L15 F a0 a1 n v2 X3 = some out → (∀ (X9 : qH), out = X9 → ∀ (H : Heap) (locs : List Loc) (ls : Array Slot), qR D kz b0 X9 H → va_S (qA b0) s.heap H locs → H.size = sz → lv_has ls 3 [(0, .ref a0), (1, .int a1)] → W p l e rmX10_keep s m args below meth c H locs 0 0 Q (F0 m 44 ls [])) → ∀ (H : Heap) (locs : List Loc) (ls : Array Slot), qR D kz b0 X3 H → va_S (qA b0) s.heap H locs → H.size = sz → lv_has ls 3 [(0, .ref a0), (1, .int a1), (2, .int v2)] → W p l e rmX10_keep s m args below meth c H locs 0 0 Q (F0 m 15 ls []) := by
      intro n9
      induction n9 with
      | zero =>
        intro v2 X3 out hf
        exact absurd (show none = some out from hf) (by simp)
      | succ n9 ih0 =>
        intro v2 X3 out hf hex H locs ls hR hS hz hl
        have hf : fX10_keep_L15_B F a0 a1 (fX10_keep_L15 F a0 a1 n9) v2 X3 = some out := hf
        unfold fX10_keep_L15_B at hf
        refine lv_iload_n hx hb dX10_keep_15 rfl (lv_at hl 2 rfl) ?_
        refine lv_bipush (v := (43 : Int32)) hx hb dX10_keep_16 (by decide) ?_
        refine lv_icmp_ge (tgt := 44) hx hb dX10_keep_18 (by decide) (fun hc => ?_) (fun hc => ?_)
        · have hf := q_t hf hc
          exact hex _ (Option.some.inj hf).symm _ _ _ hR hS hz (lv_sub hl [0, 1] rfl)
        · have hf := q_f hf hc
          refine lv_aload_n hx hb dX10_keep_21 rfl (lv_at hl 0 rfl) ?_
          refine q_gR hx hb hT hown hK hR iqX10 vqX10 40 (by decide) (hT _ wfl_X10_93) hf dX10_keep_22 (fun v4 hf => ?_)
          refine lv_bipush (v := (44 : Int32)) hx hb dX10_keep_25 (by decide) ?_
          refine lv_iload_n hx hb dX10_keep_27 rfl (lv_at hl 1 rfl) ?_
          refine lv_imul hx hb dX10_keep_28 ?_
          refine lv_iload_n hx hb dX10_keep_29 rfl (lv_at hl 2 rfl) ?_
          refine lv_iadd hx hb dX10_keep_30 ?_
          refine lv_aload_n hx hb dX10_keep_31 rfl (lv_at hl 0 rfl) ?_
          refine q_gR hx hb hT hown hK hR iqX10 vqX10 8 (by decide) (hT _ wfl_X10_29) hf dX10_keep_32 (fun v5 hf => ?_)
          refine lv_iload_n hx hb dX10_keep_35 rfl (lv_at hl 2 rfl) ?_
          refine q_iald hx hb hK hR hf dX10_keep_36 (fun v6 hf => ?_)
          refine q_iast hx hb hK hR hS hz hf dX10_keep_37 (fun X7 hf H locs hR hS hz => ?_)
          obtain ⟨v8, ev8⟩ : ∃ y : Int32, y = (v2 + (1 : Int32)) := ⟨_, rfl⟩
          have hf := q_lt ev8 hf
          refine lv_iinc (v := v8) (lv' := [(2, .int v8), (0, .ref a0), (1, .int a1)]) hx hb dX10_keep_38 hl (k := 2) rfl (by rw [ev8]; rfl) (by decide) rfl (fun ls hl => ?_)
          refine lv_goto (tgt := 15) hx hb dX10_keep_41 (by decide) ?_
          exact ih0 _ _ out hf hex _ _ _ hR hS hz (lv_sub hl [1, 2, 0] rfl)
    refine hL F _ _ _ ho (fun z0 h9 => ?_) _ _ _ hR hS hz (lv_sub hl [1, 2, 0] rfl)
    cases h9
    intro H locs ls hR hS hz hl
    refine lv_aload_n hx hb dX10_keep_44 rfl (lv_at hl 0 rfl) ?_
    refine q_gR hx hb hT hown hK hR iqX10 vqX10 40 (by decide) (hT _ wfl_X10_93) hf dX10_keep_45 (fun v10 hf => ?_)
    refine lv_bipush (v := (44 : Int32)) hx hb dX10_keep_48 (by decide) ?_
    refine lv_iload_n hx hb dX10_keep_50 rfl (lv_at hl 1 rfl) ?_
    refine lv_imul hx hb dX10_keep_51 ?_
    refine lv_bipush (v := (43 : Int32)) hx hb dX10_keep_52 (by decide) ?_
    refine lv_iadd hx hb dX10_keep_54 ?_
    refine lv_aload_n hx hb dX10_keep_55 rfl (lv_at hl 0 rfl) ?_
    refine q_gI hx hb hT hown hK hR iqX10 vqX10 9 (by decide) (hT _ wfl_X10_255) hf dX10_keep_56 (fun v11 hf => ?_)
    refine q_iast hx hb hK hR hS hz hf dX10_keep_59 (fun X12 hf H locs hR hS hz => ?_)
    refine lv_aload_n hx hb dX10_keep_60 rfl (lv_at hl 0 rfl) ?_
    refine q_gR hx hb hT hown hK hR iqX10 vqX10 41 (by decide) (hT _ wfl_X10_96) hf dX10_keep_61 (fun v13 hf => ?_)
    refine lv_iload_n hx hb dX10_keep_64 rfl (lv_at hl 1 rfl) ?_
    refine lv_iconst (v := (1 : Int32)) hx hb dX10_keep_65 (by decide) ?_
    refine q_zast hx hb hK hR hS hz hf dX10_keep_66 (fun X14 hf H locs hR hS hz => ?_)
    refine lv_aload_n hx hb dX10_keep_67 rfl (lv_at hl 0 rfl) ?_
    refine lv_iconst (v := (0 : Int32)) hx hb dX10_keep_68 (by decide) ?_
    refine q_pI hx hb hT hown hK hR hS hz iqX10 vqX10 tyX10_ok nmX10 27 (by decide) (hT _ wfl_X10_191) rfl rfl hf dX10_keep_69 (fun X15 hf H locs hR hS hz => ?_)
    refine lv_iconst (v := (1 : Int32)) hx hb dX10_keep_72 (by decide) ?_
    subst hQ
    obtain ⟨h8, h9⟩ := Prod.mk.inj (Option.some.inj hf)
    exact q_iret hx hb hr hlocks hR hS hz h8 h9 dX10_keep_73
  · have hf := q_t hf hc
    refine lv_ldc (v := (-1000000001 : Int32)) hx hb hown (hT _ wk_X10_207) dX10_keep_10 ?_
    subst hQ
    obtain ⟨h8, h9⟩ := Prod.mk.inj (Option.some.inj hf)
    exact q_iret hx hb hr hlocks hR hS hz h8 h9 dX10_keep_12
/-! X10_goBack -/
def fX10_goBack_L27_B (F : Nat) (a0 : Nat) (a1 : Int32) (self0 : Int32 → qH → Option (qH)) (v4 : Int32) (X5 : qH) : Option (qH) :=
if (43 : Int32) ≤ v4 then (some X5)
else ((qgR X5 9 a0 8).bind fun v6 =>
(qgR X5 9 a0 40).bind fun v7 =>
(qaI X5 0 v7 (((44 : Int32) * a1) + v4)).bind fun v8 =>
(qaS X5 0 v6 v4 v8).bind fun X9 =>
qlt (v4 + (1 : Int32)) fun v10 =>
self0 v10 X9)
def fX10_goBack_L27 (F : Nat) (a0 : Nat) (a1 : Int32) : Nat → Int32 → qH → Option (qH)
  | 0, _, _ => none
  | n + 1, v4, X5 => fX10_goBack_L27_B F a0 a1 (fX10_goBack_L27 F a0 a1 n) v4 X5
def fX10_goBack (F : Nat) (X : qH) (a0 : Nat) (a1 : Int32) : Option (Int32 × qH) :=
qIs 9 X a0 <|
(fX10_in F X ((a1).toInt64) (0 : Int64) (1 : Int64)).bind fun v1 =>
if v1 = (0 : Int32) then (some ((-1000000001 : Int32), X))
else ((qgR X 9 a0 41).bind fun v2 =>
(qaI X 1 v2 a1).bind fun v3 =>
if v3 = (0 : Int32) then (some ((-1000000003 : Int32), X))
else ((fX10_goBack_L27 F a0 a1 F (0 : Int32) X).bind fun X11 =>
(qgR X11 9 a0 40).bind fun v12 =>
(qaI X11 0 v12 (((44 : Int32) * a1) + (43 : Int32))).bind fun v13 =>
(qpI X11 9 a0 9 v13).bind fun X14 =>
(qpI X14 9 a0 27 (0 : Int32)).bind fun X15 =>
some ((1 : Int32), X15)))
abbrev rmX10_goBack : Room := { frames := 1, cells := 0, slots := 0, locals := 25 }
theorem fX10_goBack_is {F : Nat} {X : qH} {a0 : Nat} {a1 : Int32} {r9 : Int32 × qH} (h : fX10_goBack F X a0 a1 = some r9) : ∃ fs, X a0 = some (.inr (9, fs)) := (qIs_spec h).1
theorem hdX10_goBack : yX10_goBack.cls = RX10 ∧ yX10_goBack.cls ≠ "java/lang/invoke/MethodHandle" ∧ yX10_goBack.cls ≠ "java/lang/invoke/VarHandle" ∧ (parseMethodDescriptor yX10_goBack.desc).map (fun d => d.parameters.length) = some 1 := by decide +kernel
set_option maxHeartbeats 4000000 in
set_option maxRecDepth 100000 in
theorem mX10_goBack (l : Launch) (D : va_G) (kz : Nat → Nat) (b0 sz F : Nat) (X : qH) (a0 : Nat) (a1 : Int32) (r : Int32) (Xr : qH) (hf : fX10_goBack F X a0 a1 = some (r, Xr)) : Met l yX10_goBack (qws yX10_goBack cX10_goBack 3 (some .int)) rmX10_goBack (va_Pc [.ref a0, .int a1] (qU D kz b0 sz X)) (va_Qi (fun (r' : Int32) (u : qH) => r' = r ∧ u = Xr) (fun u t => qO D kz b0 sz u t) (qA b0)) 0 0 (qA b0) := by
  refine q_start (by decide) (Nat.le_of_ble_eq_true rfl) ?_
  intro p e s m args below meth c hx hb hr hlocks hnm hml hown hT hR hK hz ls hl
  have hown : s.vm.findClass RX10 = some m.cls := hown
  have hl : lv_has ls 3 [(0, .ref a0), (1, .int a1)] := hl
  have hS : va_S (qA b0) s.heap s.heap [] := va_S.rf
  obtain ⟨Q, hQ⟩ : ∃ Q, Q = MQ below (va_Qi (fun (r' : Int32) (u : qH) => r' = r ∧ u = Xr) (fun u t => qO D kz b0 sz u t) (qA b0)) args s 0 0 (qA b0) := ⟨_, rfl⟩
  rw [← hQ]
  unfold fX10_goBack at hf
  obtain ⟨hthis, hf⟩ := qIs_spec hf
  refine lv_iload_n hx hb dX10_goBack_0 rfl (lv_at hl 1 rfl) ?_
  refine lv_i2l hx hb dX10_goBack_1 rfl ?_
  refine lv_lconst (v := (0 : Int64)) hx hb dX10_goBack_2 (by decide) ?_
  refine lv_lconst (v := (1 : Int64)) hx hb dX10_goBack_3 (by decide) ?_
  obtain ⟨v1, hc, hf⟩ := q_b hf
  refine q_calli (va_runS (As := [.long ((a1).toInt64), .long (0 : Int64), .long (1 : Int64)]) (rest := []) ⟨hx, hb, hml, hown, hT⟩ (mX10_in l D kz b0 sz F X ((a1).toInt64) (0 : Int64) (1 : Int64) v1 hc) (va_cwS 3 hT (q_gS wco_X10_in wml_X10_105 wst_X10_in win_X10) rfl rfl rfl hdX10_in ⟨Nat.le_of_ble_eq_true rfl, Nat.le_of_ble_eq_true rfl⟩) (q_preS hR hK hz) rfl rfl hl.1 rfl (lv_room (Nat.le_of_ble_eq_true rfl)) dX10_goBack_4 ⟨Nat.le_of_ble_eq_true rfl, Nat.le_of_ble_eq_true rfl⟩) hS (fun H locs hR hS hz => ?_)
  refine lv_if_ne (tgt := 13) hx hb dX10_goBack_7 (by decide) (fun hc => ?_) (fun hc => ?_)
  · have hf := q_f hf hc
    refine lv_aload_n hx hb dX10_goBack_13 rfl (lv_at hl 0 rfl) ?_
    refine q_gR hx hb hT hown hK hR iqX10 vqX10 41 (by decide) (hT _ wfl_X10_96) hf dX10_goBack_14 (fun v2 hf => ?_)
    refine lv_iload_n hx hb dX10_goBack_17 rfl (lv_at hl 1 rfl) ?_
    refine q_zald hx hb hK hR hf dX10_goBack_18 (fun v3 hf => ?_)
    refine lv_if_ne (tgt := 25) hx hb dX10_goBack_19 (by decide) (fun hc => ?_) (fun hc => ?_)
    · have hf := q_f hf hc
      refine lv_iconst (v := (0 : Int32)) hx hb dX10_goBack_25 (by decide) ?_
      refine lv_istore_n (lv' := [(2, .int (0 : Int32)), (0, .ref a0), (1, .int a1)]) hx hb dX10_goBack_26 rfl hl (by decide) rfl (fun ls hl => ?_)
      obtain ⟨X11, ho, hf⟩ := q_b hf
      have hL : ∀ (n : Nat) (v4 : Int32) (X5 : qH) (out : qH), fX10_goBack_L27 F a0 a1 n v4 X5 = some out → (∀ (X11 : qH), out = X11 → ∀ (H : Heap) (locs : List Loc) (ls : Array Slot), qR D kz b0 X11 H → va_S (qA b0) s.heap H locs → H.size = sz → lv_has ls 3 [(0, .ref a0), (1, .int a1)] → W p l e rmX10_goBack s m args below meth c H locs 0 0 Q (F0 m 56 ls [])) → ∀ (H : Heap) (locs : List Loc) (ls : Array Slot), qR D kz b0 X5 H → va_S (qA b0) s.heap H locs → H.size = sz → lv_has ls 3 [(0, .ref a0), (1, .int a1), (2, .int v4)] → W p l e rmX10_goBack s m args below meth c H locs 0 0 Q (F0 m 27 ls []) := by
        intro n9
        induction n9 with
        | zero =>
          intro v4 X5 out hf
          exact absurd (show none = some out from hf) (by simp)
        | succ n9 ih0 =>
          intro v4 X5 out hf hex H locs ls hR hS hz hl
          have hf : fX10_goBack_L27_B F a0 a1 (fX10_goBack_L27 F a0 a1 n9) v4 X5 = some out := hf
          unfold fX10_goBack_L27_B at hf
          refine lv_iload_n hx hb dX10_goBack_27 rfl (lv_at hl 2 rfl) ?_
          refine lv_bipush (v := (43 : Int32)) hx hb dX10_goBack_28 (by decide) ?_
          refine lv_icmp_ge (tgt := 56) hx hb dX10_goBack_30 (by decide) (fun hc => ?_) (fun hc => ?_)
          · have hf := q_t hf hc
            exact hex _ (Option.some.inj hf).symm _ _ _ hR hS hz (lv_sub hl [0, 1] rfl)
          · have hf := q_f hf hc
            refine lv_aload_n hx hb dX10_goBack_33 rfl (lv_at hl 0 rfl) ?_
            refine q_gR hx hb hT hown hK hR iqX10 vqX10 8 (by decide) (hT _ wfl_X10_29) hf dX10_goBack_34 (fun v6 hf => ?_)
            refine lv_iload_n hx hb dX10_goBack_37 rfl (lv_at hl 2 rfl) ?_
            refine lv_aload_n hx hb dX10_goBack_38 rfl (lv_at hl 0 rfl) ?_
            refine q_gR hx hb hT hown hK hR iqX10 vqX10 40 (by decide) (hT _ wfl_X10_93) hf dX10_goBack_39 (fun v7 hf => ?_)
            refine lv_bipush (v := (44 : Int32)) hx hb dX10_goBack_42 (by decide) ?_
            refine lv_iload_n hx hb dX10_goBack_44 rfl (lv_at hl 1 rfl) ?_
            refine lv_imul hx hb dX10_goBack_45 ?_
            refine lv_iload_n hx hb dX10_goBack_46 rfl (lv_at hl 2 rfl) ?_
            refine lv_iadd hx hb dX10_goBack_47 ?_
            refine q_iald hx hb hK hR hf dX10_goBack_48 (fun v8 hf => ?_)
            refine q_iast hx hb hK hR hS hz hf dX10_goBack_49 (fun X9 hf H locs hR hS hz => ?_)
            obtain ⟨v10, ev10⟩ : ∃ y : Int32, y = (v4 + (1 : Int32)) := ⟨_, rfl⟩
            have hf := q_lt ev10 hf
            refine lv_iinc (v := v10) (lv' := [(2, .int v10), (0, .ref a0), (1, .int a1)]) hx hb dX10_goBack_50 hl (k := 2) rfl (by rw [ev10]; rfl) (by decide) rfl (fun ls hl => ?_)
            refine lv_goto (tgt := 27) hx hb dX10_goBack_53 (by decide) ?_
            exact ih0 _ _ out hf hex _ _ _ hR hS hz (lv_sub hl [1, 2, 0] rfl)
      refine hL F _ _ _ ho (fun z0 h9 => ?_) _ _ _ hR hS hz (lv_sub hl [1, 2, 0] rfl)
      cases h9
      intro H locs ls hR hS hz hl
      refine lv_aload_n hx hb dX10_goBack_56 rfl (lv_at hl 0 rfl) ?_
      refine lv_aload_n hx hb dX10_goBack_57 rfl (lv_at hl 0 rfl) ?_
      refine q_gR hx hb hT hown hK hR iqX10 vqX10 40 (by decide) (hT _ wfl_X10_93) hf dX10_goBack_58 (fun v12 hf => ?_)
      refine lv_bipush (v := (44 : Int32)) hx hb dX10_goBack_61 (by decide) ?_
      refine lv_iload_n hx hb dX10_goBack_63 rfl (lv_at hl 1 rfl) ?_
      refine lv_imul hx hb dX10_goBack_64 ?_
      refine lv_bipush (v := (43 : Int32)) hx hb dX10_goBack_65 (by decide) ?_
      refine lv_iadd hx hb dX10_goBack_67 ?_
      refine q_iald hx hb hK hR hf dX10_goBack_68 (fun v13 hf => ?_)
      refine q_pI hx hb hT hown hK hR hS hz iqX10 vqX10 tyX10_ok nmX10 9 (by decide) (hT _ wfl_X10_255) rfl rfl hf dX10_goBack_69 (fun X14 hf H locs hR hS hz => ?_)
      refine lv_aload_n hx hb dX10_goBack_72 rfl (lv_at hl 0 rfl) ?_
      refine lv_iconst (v := (0 : Int32)) hx hb dX10_goBack_73 (by decide) ?_
      refine q_pI hx hb hT hown hK hR hS hz iqX10 vqX10 tyX10_ok nmX10 27 (by decide) (hT _ wfl_X10_191) rfl rfl hf dX10_goBack_74 (fun X15 hf H locs hR hS hz => ?_)
      refine lv_iconst (v := (1 : Int32)) hx hb dX10_goBack_77 (by decide) ?_
      subst hQ
      obtain ⟨h8, h9⟩ := Prod.mk.inj (Option.some.inj hf)
      exact q_iret hx hb hr hlocks hR hS hz h8 h9 dX10_goBack_78
    · have hf := q_t hf hc
      refine lv_ldc (v := (-1000000003 : Int32)) hx hb hown (hT _ wk_X10_232) dX10_goBack_22 ?_
      subst hQ
      obtain ⟨h8, h9⟩ := Prod.mk.inj (Option.some.inj hf)
      exact q_iret hx hb hr hlocks hR hS hz h8 h9 dX10_goBack_24
  · have hf := q_t hf hc
    refine lv_ldc (v := (-1000000001 : Int32)) hx hb hown (hT _ wk_X10_207) dX10_goBack_10 ?_
    subst hQ
    obtain ⟨h8, h9⟩ := Prod.mk.inj (Option.some.inj hf)
    exact q_iret hx hb hr hlocks hR hS hz h8 h9 dX10_goBack_12
