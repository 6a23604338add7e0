/-! X6_readSmoke -/
def fX6_readSmoke (F : Nat) (X : qH) (a0 : Nat) (a1 : Nat) : Option (qH) :=
qIs 6 X a0 <|
(qgI X 6 a0 6).bind fun v1 =>
(fX6_passWord F X a0 v1).bind fun X2 =>
qb2 (fX6_readNumber F X2 a0 (0 : Int32) (9 : Int32)) fun v3 X4 =>
(fX6_passEnd F X4 a0).bind fun X5 =>
(qgI X5 6 a0 4).bind fun v6 =>
(if v6 = (0 : Int32) then ((qpI X5 0 a1 3 v3).bind fun X8 =>
(qpZ X8 6 a0 6 (1 : Int32)).bind fun X9 =>
some X9)
else (some X5) : Option qH).bind fun X7 =>
some X7
abbrev rmX6_readSmoke : Room := { frames := 2, cells := 0, slots := 0, locals := 46 }
theorem fX6_readSmoke_is {F : Nat} {X : qH} {a0 : Nat} {a1 : Nat} {r9 : qH} (h : fX6_readSmoke F X a0 a1 = some r9) : ∃ fs, X a0 = some (.inr (6, fs)) := (qIs_spec h).1
theorem hdX6_readSmoke : yX6_readSmoke.cls = RX6 ∧ yX6_readSmoke.cls ≠ "java/lang/invoke/MethodHandle" ∧ yX6_readSmoke.cls ≠ "java/lang/invoke/VarHandle" ∧ (parseMethodDescriptor yX6_readSmoke.desc).map (fun d => d.parameters.length) = some 1 := by decide +kernel
set_option maxHeartbeats 4000000 in
set_option maxRecDepth 100000 in
theorem mX6_readSmoke (l : Launch) (D : va_G) (kz : Nat → Nat) (b0 sz F : Nat) (X : qH) (a0 : Nat) (a1 : Nat)  (Xr : qH) (hf : fX6_readSmoke F X a0 a1 = some Xr) : Met l yX6_readSmoke (qws yX6_readSmoke cX6_readSmoke 3 none) rmX6_readSmoke (va_Pc [.ref a0, .ref a1] (qU D kz b0 sz X)) (va_Qv (fun (u : qH) => u = Xr) (fun u t => qO D kz b0 sz u t) (qA b0)) 0 0 (qA b0) := by
  refine q_start (by decide) (Nat.le_of_ble_eq_true rfl) ?_
  intro p e s m args below meth c hx hb hr hlocks hnm hml hown hT hR hK hz ls hl
  have hown : s.vm.findClass RX6 = some m.cls := hown
  have hl : lv_has ls 3 [(0, .ref a0), (1, .ref a1)] := hl
  have hS : va_S (qA b0) s.heap s.heap [] := va_S.rf
  obtain ⟨Q, hQ⟩ : ∃ Q, Q = MQ below (va_Qv (fun (u : qH) => u = Xr) (fun u t => qO D kz b0 sz u t) (qA b0)) args s 0 0 (qA b0) := ⟨_, rfl⟩
  rw [← hQ]
  unfold fX6_readSmoke at hf
  obtain ⟨hthis, hf⟩ := qIs_spec hf
  refine lv_aload_n hx hb dX6_readSmoke_0 rfl (lv_at hl 0 rfl) ?_
  refine lv_aload_n hx hb dX6_readSmoke_1 rfl (lv_at hl 0 rfl) ?_
  refine q_gI hx hb hT hown hK hR iqX6 vqX6 6 (by decide) (hT _ wfl_X6_34) hf dX6_readSmoke_2 (fun v1 hf => ?_)
  obtain ⟨X2, hc, hf⟩ := q_b hf
  refine q_callv (va_runV (As := [.int v1]) (rest := []) ⟨hx, hb, hml, hown, hT⟩ (mX6_passWord l D kz b0 sz F X a0 v1 X2 hc) (cwV 1 hT (q_gV wco_X6_passWord wml_X6_72 wim_X6_passWord wse_X6_passWord win_X6) rfl rfl rfl hdX6_passWord ⟨Nat.le_of_ble_eq_true rfl, Nat.le_of_ble_eq_true rfl⟩) (q_preV vqX6 (fX6_passWord_is hc) hR hK hz) rfl rfl hl.1 rfl (lv_room (Nat.le_of_ble_eq_true rfl)) dX6_readSmoke_5 ⟨Nat.le_of_ble_eq_true rfl, Nat.le_of_ble_eq_true rfl⟩) hS (fun H locs hR hS hz => ?_)
  refine lv_aload_n hx hb dX6_readSmoke_8 rfl (lv_at hl 0 rfl) ?_
  refine lv_iconst (v := (0 : Int32)) hx hb dX6_readSmoke_9 (by decide) ?_
  refine lv_bipush (v := (9 : Int32)) hx hb dX6_readSmoke_10 (by decide) ?_
  obtain ⟨v3, X4, hc, hf⟩ := q_b2 hf
  refine q_calli (va_runV (As := [.int (0 : Int32), .int (9 : Int32)]) (rest := []) ⟨hx, hb, hml, hown, hT⟩ (mX6_readNumber l D kz b0 sz F X2 a0 (0 : Int32) (9 : Int32) v3 X4 hc) (cwV 2 hT (q_gV wco_X6_readNumber wml_X6_76 wim_X6_readNumber wse_X6_readNumber win_X6) rfl rfl rfl hdX6_readNumber ⟨Nat.le_of_ble_eq_true rfl, Nat.le_of_ble_eq_true rfl⟩) (q_preV vqX6 (fX6_readNumber_is hc) hR hK hz) rfl rfl hl.1 rfl (lv_room (Nat.le_of_ble_eq_true rfl)) dX6_readSmoke_12 ⟨Nat.le_of_ble_eq_true rfl, Nat.le_of_ble_eq_true rfl⟩) hS (fun H locs hR hS hz => ?_)
  refine lv_istore_n (lv' := [(2, .int v3), (0, .ref a0), (1, .ref a1)]) hx hb dX6_readSmoke_15 rfl hl (by decide) rfl (fun ls hl => ?_)
  refine lv_aload_n hx hb dX6_readSmoke_16 rfl (lv_at hl 1 rfl) ?_
  obtain ⟨X5, hc, hf⟩ := q_b hf
  refine q_callv (va_runV (As := []) (rest := []) ⟨hx, hb, hml, hown, hT⟩ (mX6_passEnd l D kz b0 sz F X4 a0 X5 hc) (cwV 0 hT (q_gV wco_X6_passEnd wml_X6_79 wim_X6_passEnd wse_X6_passEnd win_X6) rfl rfl rfl hdX6_passEnd ⟨Nat.le_of_ble_eq_true rfl, Nat.le_of_ble_eq_true rfl⟩) (q_preV vqX6 (fX6_passEnd_is hc) hR hK hz) rfl rfl hl.1 rfl (lv_room (Nat.le_of_ble_eq_true rfl)) dX6_readSmoke_17 ⟨Nat.le_of_ble_eq_true rfl, Nat.le_of_ble_eq_true rfl⟩) hS (fun H locs hR hS hz => ?_)
  refine lv_aload_n hx hb dX6_readSmoke_20 rfl (lv_at hl 1 rfl) ?_
  refine q_gI hx hb hT hown hK hR iqX6 vqX6 4 (by decide) (hT _ wfl_X6_28) hf dX6_readSmoke_21 (fun v6 hf => ?_)
  obtain ⟨X7, hp, hf⟩ := q_b hf
  have hJ : ∀ (H : Heap) (locs : List Loc) (ls : Array Slot), qR D kz b0 X7 H → va_S (qA b0) s.heap H locs → H.size = sz → lv_has ls 3 [] → W p l e rmX6_readSmoke s m args below meth c H locs 0 0 Q (F0 m 37 ls []) := by
    intro H locs ls hR hS hz hl
    subst hQ
    exact q_vret hx hb hr hlocks hR hS hz (Option.some.inj hf) dX6_readSmoke_37
  have hf := hp
  refine lv_if_ne (tgt := 37) hx hb dX6_readSmoke_24 (by decide) (fun hc => ?_) (fun hc => ?_)
  · have hf := q_f hf hc
    cases hf
    exact hJ _ _ _ hR hS hz (lv_sub hl [] rfl)
  · have hf := q_t hf hc
    refine lv_aload_n hx hb dX6_readSmoke_27 rfl (lv_at hl 2 rfl) ?_
    refine lv_iload_n hx hb dX6_readSmoke_28 rfl (lv_at hl 0 rfl) ?_
    refine q_pI hx hb hT hown hK hR hS hz iqX0 vqX0 tyX0_ok nmX0 3 (by decide) (hT _ wfl_X6_106) rfl rfl hf dX6_readSmoke_29 (fun X8 hf H locs hR hS hz => ?_)
    refine lv_aload_n hx hb dX6_readSmoke_32 rfl (lv_at hl 1 rfl) ?_
    refine lv_iconst (v := (1 : Int32)) hx hb dX6_readSmoke_33 (by decide) ?_
    refine q_pZ hx hb hT hown hK hR hS hz iqX6 vqX6 tyX6_ok nmX6 6 (by decide) (hT _ wfl_X6_34) rfl rfl hf dX6_readSmoke_34 (fun X9 hf H locs hR hS hz => ?_)
    cases hf
    exact hJ _ _ _ hR hS hz (lv_sub hl [] rfl)
/-! X6_readDamp -/
def fX6_readDamp (F : Nat) (X : qH) (a0 : Nat) (a1 : Nat) : Option (qH) :=
qIs 6 X a0 <|
(qgI X 6 a0 7).bind fun v1 =>
(fX6_passWord F X a0 v1).bind fun X2 =>
qb2 (fX6_readNumber F X2 a0 (0 : Int32) (100 : Int32)) fun v3 X4 =>
(fX6_passEnd F X4 a0).bind fun X5 =>
(qgI X5 6 a0 4).bind fun v6 =>
(if v6 = (0 : Int32) then ((qpI X5 0 a1 4 v3).bind fun X8 =>
(qpZ X8 6 a0 7 (1 : Int32)).bind fun X9 =>
some X9)
else (some X5) : Option qH).bind fun X7 =>
some X7
abbrev rmX6_readDamp : Room := { frames := 2, cells := 0, slots := 0, locals := 46 }
theorem fX6_readDamp_is {F : Nat} {X : qH} {a0 : Nat} {a1 : Nat} {r9 : qH} (h : fX6_readDamp F X a0 a1 = some r9) : ∃ fs, X a0 = some (.inr (6, fs)) := (qIs_spec h).1
theorem hdX6_readDamp : yX6_readDamp.cls = RX6 ∧ yX6_readDamp.cls ≠ "java/lang/invoke/MethodHandle" ∧ yX6_readDamp.cls ≠ "java/lang/invoke/VarHandle" ∧ (parseMethodDescriptor yX6_readDamp.desc).map (fun d => d.parameters.length) = some 1 := by decide +kernel
set_option maxHeartbeats 4000000 in
set_option maxRecDepth 100000 in
theorem mX6_readDamp (l : Launch) (D : va_G) (kz : Nat → Nat) (b0 sz F : Nat) (X : qH) (a0 : Nat) (a1 : Nat)  (Xr : qH) (hf : fX6_readDamp F X a0 a1 = some Xr) : Met l yX6_readDamp (qws yX6_readDamp cX6_readDamp 3 none) rmX6_readDamp (va_Pc [.ref a0, .ref a1] (qU D kz b0 sz X)) (va_Qv (fun (u : qH) => u = Xr) (fun u t => qO D kz b0 sz u t) (qA b0)) 0 0 (qA b0) := by
  refine q_start (by decide) (Nat.le_of_ble_eq_true rfl) ?_
  intro p e s m args below meth c hx hb hr hlocks hnm hml hown hT hR hK hz ls hl
  have hown : s.vm.findClass RX6 = some m.cls := hown
  have hl : lv_has ls 3 [(0, .ref a0), (1, .ref a1)] := hl
  have hS : va_S (qA b0) s.heap s.heap [] := va_S.rf
  obtain ⟨Q, hQ⟩ : ∃ Q, Q = MQ below (va_Qv (fun (u : qH) => u = Xr) (fun u t => qO D kz b0 sz u t) (qA b0)) args s 0 0 (qA b0) := ⟨_, rfl⟩
  rw [← hQ]
  unfold fX6_readDamp at hf
  obtain ⟨hthis, hf⟩ := qIs_spec hf
  refine lv_aload_n hx hb dX6_readDamp_0 rfl (lv_at hl 0 rfl) ?_
  refine lv_aload_n hx hb dX6_readDamp_1 rfl (lv_at hl 0 rfl) ?_
  refine q_gI hx hb hT hown hK hR iqX6 vqX6 7 (by decide) (hT _ wfl_X6_38) hf dX6_readDamp_2 (fun v1 hf => ?_)
  obtain ⟨X2, hc, hf⟩ := q_b hf
  refine q_callv (va_runV (As := [.int v1]) (rest := []) ⟨hx, hb, hml, hown, hT⟩ (mX6_passWord l D kz b0 sz F X a0 v1 X2 hc) (cwV 1 hT (q_gV wco_X6_passWord wml_X6_72 wim_X6_passWord wse_X6_passWord win_X6) rfl rfl rfl hdX6_passWord ⟨Nat.le_of_ble_eq_true rfl, Nat.le_of_ble_eq_true rfl⟩) (q_preV vqX6 (fX6_passWord_is hc) hR hK hz) rfl rfl hl.1 rfl (lv_room (Nat.le_of_ble_eq_true rfl)) dX6_readDamp_5 ⟨Nat.le_of_ble_eq_true rfl, Nat.le_of_ble_eq_true rfl⟩) hS (fun H locs hR hS hz => ?_)
  refine lv_aload_n hx hb dX6_readDamp_8 rfl (lv_at hl 0 rfl) ?_
  refine lv_iconst (v := (0 : Int32)) hx hb dX6_readDamp_9 (by decide) ?_
  refine lv_bipush (v := (100 : Int32)) hx hb dX6_readDamp_10 (by decide) ?_
  obtain ⟨v3, X4, hc, hf⟩ := q_b2 hf
  refine q_calli (va_runV (As := [.int (0 : Int32), .int (100 : Int32)]) (rest := []) ⟨hx, hb, hml, hown, hT⟩ (mX6_readNumber l D kz b0 sz F X2 a0 (0 : Int32) (100 : Int32) v3 X4 hc) (cwV 2 hT (q_gV wco_X6_readNumber wml_X6_76 wim_X6_readNumber wse_X6_readNumber win_X6) rfl rfl rfl hdX6_readNumber ⟨Nat.le_of_ble_eq_true rfl, Nat.le_of_ble_eq_true rfl⟩) (q_preV vqX6 (fX6_readNumber_is hc) hR hK hz) rfl rfl hl.1 rfl (lv_room (Nat.le_of_ble_eq_true rfl)) dX6_readDamp_12 ⟨Nat.le_of_ble_eq_true rfl, Nat.le_of_ble_eq_true rfl⟩) hS (fun H locs hR hS hz => ?_)
  refine lv_istore_n (lv' := [(2, .int v3), (0, .ref a0), (1, .ref a1)]) hx hb dX6_readDamp_15 rfl hl (by decide) rfl (fun ls hl => ?_)
  refine lv_aload_n hx hb dX6_readDamp_16 rfl (lv_at hl 1 rfl) ?_
  obtain ⟨X5, hc, hf⟩ := q_b hf
  refine q_callv (va_runV (As := []) (rest := []) ⟨hx, hb, hml, hown, hT⟩ (mX6_passEnd l D kz b0 sz F X4 a0 X5 hc) (cwV 0 hT (q_gV wco_X6_passEnd wml_X6_79 wim_X6_passEnd wse_X6_passEnd win_X6) rfl rfl rfl hdX6_passEnd ⟨Nat.le_of_ble_eq_true rfl, Nat.le_of_ble_eq_true rfl⟩) (q_preV vqX6 (fX6_passEnd_is hc) hR hK hz) rfl rfl hl.1 rfl (lv_room (Nat.le_of_ble_eq_true rfl)) dX6_readDamp_17 ⟨Nat.le_of_ble_eq_true rfl, Nat.le_of_ble_eq_true rfl⟩) hS (fun H locs hR hS hz => ?_)
  refine lv_aload_n hx hb dX6_readDamp_20 rfl (lv_at hl 1 rfl) ?_
  refine q_gI hx hb hT hown hK hR iqX6 vqX6 4 (by decide) (hT _ wfl_X6_28) hf dX6_readDamp_21 (fun v6 hf => ?_)
  obtain ⟨X7, hp, hf⟩ := q_b hf
  have hJ : ∀ (H : Heap) (locs : List Loc) (ls : Array Slot), qR D kz b0 X7 H → va_S (qA b0) s.heap H locs → H.size = sz → lv_has ls 3 [] → W p l e rmX6_readDamp s m args below meth c H locs 0 0 Q (F0 m 37 ls []) := by
    intro H locs ls hR hS hz hl
    subst hQ
    exact q_vret hx hb hr hlocks hR hS hz (Option.some.inj hf) dX6_readDamp_37
  have hf := hp
  refine lv_if_ne (tgt := 37) hx hb dX6_readDamp_24 (by decide) (fun hc => ?_) (fun hc => ?_)
  · have hf := q_f hf hc
    cases hf
    exact hJ _ _ _ hR hS hz (lv_sub hl [] rfl)
  · have hf := q_t hf hc
    refine lv_aload_n hx hb dX6_readDamp_27 rfl (lv_at hl 2 rfl) ?_
    refine lv_iload_n hx hb dX6_readDamp_28 rfl (lv_at hl 0 rfl) ?_
    refine q_pI hx hb hT hown hK hR hS hz iqX0 vqX0 tyX0_ok nmX0 4 (by decide) (hT _ wfl_X6_109) rfl rfl hf dX6_readDamp_29 (fun X8 hf H locs hR hS hz => ?_)
    refine lv_aload_n hx hb dX6_readDamp_32 rfl (lv_at hl 1 rfl) ?_
    refine lv_iconst (v := (1 : Int32)) hx hb dX6_readDamp_33 (by decide) ?_
    refine q_pZ hx hb hT hown hK hR hS hz iqX6 vqX6 tyX6_ok nmX6 7 (by decide) (hT _ wfl_X6_38) rfl rfl hf dX6_readDamp_34 (fun X9 hf H locs hR hS hz => ?_)
    cases hf
    exact hJ _ _ _ hR hS hz (lv_sub hl [] rfl)
/-! X6_readClause -/
def fX6_readClause (F : Nat) (X : qH) (a0 : Nat) (a1 : Nat) : Option (qH) :=
qIs 6 X a0 <|
(qgR X 6 a0 0).bind fun v1 =>
(qgI X 6 a0 2).bind fun v2 =>
(qaI X 0 v1 v2).bind fun v3 =>
qlab (fun (_ : Unit) =>
(if v3 = (98 : Int32) then ((fX6_readCells F X a0 a1).bind fun X5 =>
some X5)
else if v3 = (103 : Int32) then ((fX6_readDamp F X a0 a1).bind fun X6 =>
some X6)
else if v3 = (104 : Int32) then ((fX6_readHouse F X a0 a1).bind fun X7 =>
some X7)
else if v3 = (109 : Int32) then ((fX6_readSmoke F X a0 a1).bind fun X8 =>
some X8)
else ((qgI X 6 a0 2).bind fun v9 =>
(fX6_fail F X a0 (1 : Int32) v9).bind fun X10 =>
some X10) : Option qH).bind fun X4 =>
some X4) fun J14 =>
if v3 = (98 : Int32) then (J14 ())
else ((qgI X 0 a1 0).bind fun v11 =>
if v11 = (0 : Int32) then ((qgI X 6 a0 2).bind fun v12 =>
(fX6_fail F X a0 (1 : Int32) v12).bind fun X13 =>
some X13)
else (J14 ()))
abbrev rmX6_readClause : Room := { frames := 3, cells := 0, slots := 0, locals := 71 }
theorem fX6_readClause_is {F : Nat} {X : qH} {a0 : Nat} {a1 : Nat} {r9 : qH} (h : fX6_readClause F X a0 a1 = some r9) : ∃ fs, X a0 = some (.inr (6, fs)) := (qIs_spec h).1
theorem hdX6_readClause : yX6_readClause.cls = RX6 ∧ yX6_readClause.cls ≠ "java/lang/invoke/MethodHandle" ∧ yX6_readClause.cls ≠ "java/lang/invoke/VarHandle" ∧ (parseMethodDescriptor yX6_readClause.desc).map (fun d => d.parameters.length) = some 1 := by decide +kernel
set_option maxHeartbeats 4000000 in
set_option maxRecDepth 100000 in
theorem mX6_readClause (l : Launch) (D : va_G) (kz : Nat → Nat) (b0 sz F : Nat) (X : qH) (a0 : Nat) (a1 : Nat)  (Xr : qH) (hf : fX6_readClause F X a0 a1 = some Xr) : Met l yX6_readClause (qws yX6_readClause cX6_readClause 3 none) rmX6_readClause (va_Pc [.ref a0, .ref a1] (qU D kz b0 sz X)) (va_Qv (fun (u : qH) => u = Xr) (fun u t => qO D kz b0 sz u t) (qA b0)) 0 0 (qA b0) := by
  refine q_start (by decide) (Nat.le_of_ble_eq_true rfl) ?_
  intro p e s m args below meth c hx hb hr hlocks hnm hml hown hT hR hK hz ls hl
  have hown : s.vm.findClass RX6 = some m.cls := hown
  have hl : lv_has ls 3 [(0, .ref a0), (1, .ref a1)] := hl
  have hS : va_S (qA b0) s.heap s.heap [] := va_S.rf
  obtain ⟨Q, hQ⟩ : ∃ Q, Q = MQ below (va_Qv (fun (u : qH) => u = Xr) (fun u t => qO D kz b0 sz u t) (qA b0)) args s 0 0 (qA b0) := ⟨_, rfl⟩
  rw [← hQ]
  unfold fX6_readClause at hf
  obtain ⟨hthis, hf⟩ := qIs_spec hf
  refine lv_aload_n hx hb dX6_readClause_0 rfl (lv_at hl 0 rfl) ?_
  refine q_gR hx hb hT hown hK hR iqX6 vqX6 0 (by decide) (hT _ wfl_X6_9) hf dX6_readClause_1 (fun v1 hf => ?_)
  refine lv_aload_n hx hb dX6_readClause_4 rfl (lv_at hl 0 rfl) ?_
  refine q_gI hx hb hT hown hK hR iqX6 vqX6 2 (by decide) (hT _ wfl_X6_25) hf dX6_readClause_5 (fun v2 hf => ?_)
  refine q_iald hx hb hK hR hf dX6_readClause_8 (fun v3 hf => ?_)
  refine lv_istore_n (lv' := [(2, .int v3), (0, .ref a0), (1, .ref a1)]) hx hb dX6_readClause_9 rfl hl (by decide) rfl (fun ls hl => ?_)
  refine lv_iload_n hx hb dX6_readClause_10 rfl (lv_at hl 0 rfl) ?_
  refine lv_bipush (v := (98 : Int32)) hx hb dX6_readClause_11 (by decide) ?_
  obtain ⟨J14, hJd, hf⟩ := q_lab hf
  have hJ33 : ∀ (_ : Unit), J14 () = some Xr → ∀ (H : Heap) (locs : List Loc) (ls : Array Slot), qR D kz b0 X H → va_S (qA b0) s.heap H locs → H.size = sz → lv_has ls 3 [(0, .ref a0), (1, .ref a1), (2, .int v3)] → W p l e rmX6_readClause s m args below meth c H locs 0 0 Q (F0 m 33 ls []) := by
    intro _ hf H locs ls hR hS hz hl
    rw [hJd] at hf
    refine lv_iload_n hx hb dX6_readClause_33 rfl (lv_at hl 2 rfl) ?_
    obtain ⟨X4, hp, hf⟩ := q_b hf
    have hJ : ∀ (H : Heap) (locs : List Loc) (ls : Array Slot), qR D kz b0 X4 H → va_S (qA b0) s.heap H locs → H.size = sz → lv_has ls 3 [] → W p l e rmX6_readClause s m args below meth c H locs 0 0 Q (F0 m 117 ls []) := by
      intro H locs ls hR hS hz hl
      subst hQ
      exact q_vret hx hb hr hlocks hR hS hz (Option.some.inj hf) dX6_readClause_117
    have hf := hp
    by_cases hc0 : v3 = (98 : Int32)
    · have hf := q_t hf hc0
      refine lv_lookup (off := 42) (tgt := 76) hx hb dX6_readClause_34 (by decide +kernel) (by rw [hc0]; decide +kernel) (by decide) ?_
      refine lv_aload_n hx hb dX6_readClause_76 rfl (lv_at hl 0 rfl) ?_
      refine lv_aload_n hx hb dX6_readClause_77 rfl (lv_at hl 1 rfl) ?_
      obtain ⟨X5, hc, hf⟩ := q_b hf
      refine q_callv (va_runV (As := [.ref a1]) (rest := []) ⟨hx, hb, hml, hown, hT⟩ (mX6_readCells l D kz b0 sz F X a0 a1 X5 hc) (cwV 1 hT (q_gV wco_X6_readCells wml_X6_60 wim_X6_readCells wse_X6_readCells win_X6) rfl rfl rfl hdX6_readCells ⟨Nat.le_of_ble_eq_true rfl, Nat.le_of_ble_eq_true rfl⟩) (q_preV vqX6 (fX6_readCells_is hc) hR hK hz) rfl rfl hl.1 rfl (lv_room (Nat.le_of_ble_eq_true rfl)) dX6_readClause_78 ⟨Nat.le_of_ble_eq_true rfl, Nat.le_of_ble_eq_true rfl⟩) hS (fun H locs hR hS hz => ?_)
      refine lv_goto (tgt := 117) hx hb dX6_readClause_81 (by decide) ?_
      cases hf
      exact hJ _ _ _ hR hS hz (lv_sub hl [] rfl)
    have hf := q_f hf hc0
    by_cases hc1 : v3 = (103 : Int32)
    · have hf := q_t hf hc1
      refine lv_lookup (off := 66) (tgt := 100) hx hb dX6_readClause_34 (by decide +kernel) (by rw [hc1]; decide +kernel) (by decide) ?_
      refine lv_aload_n hx hb dX6_readClause_100 rfl (lv_at hl 0 rfl) ?_
      refine lv_aload_n hx hb dX6_readClause_101 rfl (lv_at hl 1 rfl) ?_
      obtain ⟨X6, hc, hf⟩ := q_b hf
      refine q_callv (va_runV (As := [.ref a1]) (rest := []) ⟨hx, hb, hml, hown, hT⟩ (mX6_readDamp l D kz b0 sz F X a0 a1 X6 hc) (cwV 1 hT (q_gV wco_X6_readDamp wml_X6_69 wim_X6_readDamp wse_X6_readDamp win_X6) rfl rfl rfl hdX6_readDamp ⟨Nat.le_of_ble_eq_true rfl, Nat.le_of_ble_eq_true rfl⟩) (q_preV vqX6 (fX6_readDamp_is hc) hR hK hz) rfl rfl hl.1 rfl (lv_room (Nat.le_of_ble_eq_true rfl)) dX6_readClause_102 ⟨Nat.le_of_ble_eq_true rfl, Nat.le_of_ble_eq_true rfl⟩) hS (fun H locs hR hS hz => ?_)
      refine lv_goto (tgt := 117) hx hb dX6_readClause_105 (by decide) ?_
      cases hf
      exact hJ _ _ _ hR hS hz (lv_sub hl [] rfl)
    have hf := q_f hf hc1
    by_cases hc2 : v3 = (104 : Int32)
    · have hf := q_t hf hc2
      refine lv_lookup (off := 50) (tgt := 84) hx hb dX6_readClause_34 (by decide +kernel) (by rw [hc2]; decide +kernel) (by decide) ?_
      refine lv_aload_n hx hb dX6_readClause_84 rfl (lv_at hl 0 rfl) ?_
      refine lv_aload_n hx hb dX6_readClause_85 rfl (lv_at hl 1 rfl) ?_
      obtain ⟨X7, hc, hf⟩ := q_b hf
      refine q_callv (va_runV (As := [.ref a1]) (rest := []) ⟨hx, hb, hml, hown, hT⟩ (mX6_readHouse l D kz b0 sz F X a0 a1 X7 hc) (cwV 1 hT (q_gV wco_X6_readHouse wml_X6_63 wim_X6_readHouse wse_X6_readHouse win_X6) rfl rfl rfl hdX6_readHouse ⟨Nat.le_of_ble_eq_true rfl, Nat.le_of_ble_eq_true rfl⟩) (q_preV vqX6 (fX6_readHouse_is hc) hR hK hz) rfl rfl hl.1 rfl (lv_room (Nat.le_of_ble_eq_true rfl)) dX6_readClause_86 ⟨Nat.le_of_ble_eq_true rfl, Nat.le_of_ble_eq_true rfl⟩) hS (fun H locs hR hS hz => ?_)
      refine lv_goto (tgt := 117) hx hb dX6_readClause_89 (by decide) ?_
      cases hf
      exact hJ _ _ _ hR hS hz (lv_sub hl [] rfl)
    have hf := q_f hf hc2
    by_cases hc3 : v3 = (109 : Int32)
    · have hf := q_t hf hc3
      refine lv_lookup (off := 58) (tgt := 92) hx hb dX6_readClause_34 (by decide +kernel) (by rw [hc3]; decide +kernel) (by decide) ?_
      refine lv_aload_n hx hb dX6_readClause_92 rfl (lv_at hl 0 rfl) ?_
      refine lv_aload_n hx hb dX6_readClause_93 rfl (lv_at hl 1 rfl) ?_
      obtain ⟨X8, hc, hf⟩ := q_b hf
      refine q_callv (va_runV (As := [.ref a1]) (rest := []) ⟨hx, hb, hml, hown, hT⟩ (mX6_readSmoke l D kz b0 sz F X a0 a1 X8 hc) (cwV 1 hT (q_gV wco_X6_readSmoke wml_X6_66 wim_X6_readSmoke wse_X6_readSmoke win_X6) rfl rfl rfl hdX6_readSmoke ⟨Nat.le_of_ble_eq_true rfl, Nat.le_of_ble_eq_true rfl⟩) (q_preV vqX6 (fX6_readSmoke_is hc) hR hK hz) rfl rfl hl.1 rfl (lv_room (Nat.le_of_ble_eq_true rfl)) dX6_readClause_94 ⟨Nat.le_of_ble_eq_true rfl, Nat.le_of_ble_eq_true rfl⟩) hS (fun H locs hR hS hz => ?_)
      refine lv_goto (tgt := 117) hx hb dX6_readClause_97 (by decide) ?_
      cases hf
      exact hJ _ _ _ hR hS hz (lv_sub hl [] rfl)
    have hf := q_f hf hc3
    refine lv_lookup (off := 74) (tgt := 108) hx hb dX6_readClause_34 (by decide +kernel) (by rw [lv_osw hc0 (by decide)]; rw [lv_osw hc1 (by decide)]; rw [lv_osw hc2 (by decide)]; rw [lv_osw hc3 (by decide)]; rfl) (by decide) ?_
    refine lv_aload_n hx hb dX6_readClause_108 rfl (lv_at hl 0 rfl) ?_
    refine lv_iconst (v := (1 : Int32)) hx hb dX6_readClause_109 (by decide) ?_
    refine lv_aload_n hx hb dX6_readClause_110 rfl (lv_at hl 0 rfl) ?_
    refine q_gI hx hb hT hown hK hR iqX6 vqX6 2 (by decide) (hT _ wfl_X6_25) hf dX6_readClause_111 (fun v9 hf => ?_)
    obtain ⟨X10, hc, hf⟩ := q_b hf
    refine q_callv (va_runV (As := [.int (1 : Int32), .int v9]) (rest := []) ⟨hx, hb, hml, hown, hT⟩ (mX6_fail l D kz b0 sz F X a0 (1 : Int32) v9 X10 hc) (cwV 2 hT (q_gV wco_X6_fail wml_X6_56 wim_X6_fail wse_X6_fail win_X6) rfl rfl rfl hdX6_fail ⟨Nat.le_of_ble_eq_true rfl, Nat.le_of_ble_eq_true rfl⟩) (q_preV vqX6 (fX6_fail_is hc) hR hK hz) rfl rfl hl.1 rfl (lv_room (Nat.le_of_ble_eq_true rfl)) dX6_readClause_114 ⟨Nat.le_of_ble_eq_true rfl, Nat.le_of_ble_eq_true rfl⟩) hS (fun H locs hR hS hz => ?_)
    cases hf
    exact hJ _ _ _ hR hS hz (lv_sub hl [] rfl)
  clear hJd
  refine lv_icmp_eq (tgt := 33) hx hb dX6_readClause_13 (by decide) (fun hc => ?_) (fun hc => ?_)
  · have hf := q_t hf hc
    exact hJ33 () hf _ _ _ hR hS hz (lv_sub hl [1, 2, 0] rfl)
  · have hf := q_f hf hc
    refine lv_aload_n hx hb dX6_readClause_16 rfl (lv_at hl 2 rfl) ?_
    refine q_gI hx hb hT hown hK hR iqX0 vqX0 0 (by decide) (hT _ wfl_X6_53) hf dX6_readClause_17 (fun v11 hf => ?_)
    refine lv_if_ne (tgt := 33) hx hb dX6_readClause_20 (by decide) (fun hc => ?_) (fun hc => ?_)
    · have hf := q_f hf hc
      exact hJ33 () hf _ _ _ hR hS hz (lv_sub hl [1, 2, 0] rfl)
    · have hf := q_t hf hc
      refine lv_aload_n hx hb dX6_readClause_23 rfl (lv_at hl 1 rfl) ?_
      refine lv_iconst (v := (1 : Int32)) hx hb dX6_readClause_24 (by decide) ?_
      refine lv_aload_n hx hb dX6_readClause_25 rfl (lv_at hl 1 rfl) ?_
      refine q_gI hx hb hT hown hK hR iqX6 vqX6 2 (by decide) (hT _ wfl_X6_25) hf dX6_readClause_26 (fun v12 hf => ?_)
      obtain ⟨X13, hc, hf⟩ := q_b hf
      refine q_callv (va_runV (As := [.int (1 : Int32), .int v12]) (rest := []) ⟨hx, hb, hml, hown, hT⟩ (mX6_fail l D kz b0 sz F X a0 (1 : Int32) v12 X13 hc) (cwV 2 hT (q_gV wco_X6_fail wml_X6_56 wim_X6_fail wse_X6_fail win_X6) rfl rfl rfl hdX6_fail ⟨Nat.le_of_ble_eq_true rfl, Nat.le_of_ble_eq_true rfl⟩) (q_preV vqX6 (fX6_fail_is hc) hR hK hz) rfl rfl hl.1 rfl (lv_room (Nat.le_of_ble_eq_true rfl)) dX6_readClause_29 ⟨Nat.le_of_ble_eq_true rfl, Nat.le_of_ble_eq_true rfl⟩) hS (fun H locs hR hS hz => ?_)
      subst hQ
      exact q_vret hx hb hr hlocks hR hS hz (Option.some.inj hf) dX6_readClause_32
/-! X6_read -/
def fX6_read_L51_B (F : Nat) (a0 : Nat) (a3 : Nat) (self0 : Int32 → qH → Option (qH)) (v12 : Int32) (X13 : qH) : Option (qH) :=
if (230 : Int32) ≤ v12 then (some X13)
else ((qgI X13 6 a0 2).bind fun v14 =>
(qgI X13 6 a0 1).bind fun v15 =>
if v15 ≤ v14 then (some X13)
else ((qgI X13 6 a0 4).bind fun v16 =>
if v16 = (0 : Int32) then ((fX6_readClause F X13 a0 a3).bind fun X17 =>
(fX6_skipBlanks F X17 a0).bind fun X18 =>
qlt (v12 + (1 : Int32)) fun v19 =>
self0 v19 X18)
else (some X13)))
def fX6_read_L51 (F : Nat) (a0 : Nat) (a3 : Nat) : Nat → Int32 → qH → Option (qH)
  | 0, _, _ => none
  | n + 1, v12, X13 => fX6_read_L51_B F a0 a3 (fX6_read_L51 F a0 a3 n) v12 X13
def fX6_read (F : Nat) (X : qH) (a0 : Nat) (a1 : Nat) (a2 : Int32) (a3 : Nat) : Option (Int32 × qH) :=
qIs 6 X a0 <|
(qpR X 6 a0 0 a1).bind fun X1 =>
(qln X1 a1).bind fun v2 =>
qlt (if v2 < a2 then v2 else a2) fun v3 =>
(qpI X1 6 a0 1 v3).bind fun X4 =>
(qpI X4 6 a0 2 (0 : Int32)).bind fun X5 =>
(qpI X5 6 a0 4 (0 : Int32)).bind fun X6 =>
(qpI X6 6 a0 5 (-1 : Int32)).bind fun X7 =>
(qpZ X7 6 a0 6 (0 : Int32)).bind fun X8 =>
(qpZ X8 6 a0 7 (0 : Int32)).bind fun X9 =>
(fX0_empty F X9 a3).bind fun X10 =>
(fX6_skipBlanks F X10 a0).bind fun X11 =>
(fX6_read_L51 F a0 a3 F (0 : Int32) X11).bind fun X20 =>
(qgI X20 6 a0 4).bind fun v21 =>
some (v21, X20)
abbrev rmX6_read : Room := { frames := 4, cells := 0, slots := 0, locals := 93 }
theorem fX6_read_is {F : Nat} {X : qH} {a0 : Nat} {a1 : Nat} {a2 : Int32} {a3 : Nat} {r9 : Int32 × qH} (h : fX6_read F X a0 a1 a2 a3 = some r9) : ∃ fs, X a0 = some (.inr (6, fs)) := (qIs_spec h).1
theorem hdX6_read : yX6_read.cls = RX6 ∧ yX6_read.cls ≠ "java/lang/invoke/MethodHandle" ∧ yX6_read.cls ≠ "java/lang/invoke/VarHandle" ∧ (parseMethodDescriptor yX6_read.desc).map (fun d => d.parameters.length) = some 3 := by decide +kernel
set_option maxHeartbeats 4000000 in
set_option maxRecDepth 100000 in
theorem mX6_read (l : Launch) (D : va_G) (kz : Nat → Nat) (b0 sz F : Nat) (X : qH) (a0 : Nat) (a1 : Nat) (a2 : Int32) (a3 : Nat) (r : Int32) (Xr : qH) (hf : fX6_read F X a0 a1 a2 a3 = some (r, Xr)) : Met l yX6_read (qws yX6_read cX6_read 5 (some .int)) rmX6_read (va_Pc [.ref a0, .ref a1, .int a2, .ref a3] (qU D kz b0 sz X)) (va_Qi (fun (r' : Int32) (u : qH) => r' = r ∧ u = Xr) (fun u t => qO D kz b0 sz u t) (qA b0)) 0 0 (qA b0) := by
  refine q_start (by decide) (Nat.le_of_ble_eq_true rfl) ?_
  intro p e s m args below meth c hx hb hr hlocks hnm hml hown hT hR hK hz ls hl
  have hown : s.vm.findClass RX6 = some m.cls := hown
  have hl : lv_has ls 5 [(0, .ref a0), (1, .ref a1), (2, .int a2), (3, .ref a3)] := hl
  have hS : va_S (qA b0) s.heap s.heap [] := va_S.rf
  obtain ⟨Q, hQ⟩ : ∃ Q, Q = MQ below (va_Qi (fun (r' : Int32) (u : qH) => r' = r ∧ u = Xr) (fun u t => qO D kz b0 sz u t) (qA b0)) args s 0 0 (qA b0) := ⟨_, rfl⟩
  rw [← hQ]
  unfold fX6_read at hf
  obtain ⟨hthis, hf⟩ := qIs_spec hf
  refine lv_aload_n hx hb dX6_read_0 rfl (lv_at hl 0 rfl) ?_
  refine lv_aload_n hx hb dX6_read_1 rfl (lv_at hl 1 rfl) ?_
  refine q_pR hx hb hT hown hK hR hS hz iqX6 vqX6 tyX6_ok nmX6 0 (by decide) (hT _ wfl_X6_9) rfl rfl rfl hf dX6_read_2 (fun X1 hf H locs hR hS hz => ?_)
  refine lv_aload_n hx hb dX6_read_5 rfl (lv_at hl 0 rfl) ?_
  refine lv_iload_n hx hb dX6_read_6 rfl (lv_at hl 2 rfl) ?_
  refine lv_aload_n hx hb dX6_read_7 rfl (lv_at hl 1 rfl) ?_
  refine q_alen hx hb hK hR hf dX6_read_8 (fun v2 hf => ?_)
  refine va_mmin hx hb (hml.trans hl.1.symm) hown (hT _ wml_X6_15) (hT _ wst_Mmin) (hT _ win_Math) (hT _ wco_Mmin) (Nat.le_of_ble_eq_true rfl) (Nat.le_of_ble_eq_true rfl) (Nat.le_of_ble_eq_true rfl) (Nat.le_of_ble_eq_true rfl) dX6_read_9 ?_
  refine lv_topi (fun v3 ev3 => ?_)
  have hf := q_lt ev3 hf
  refine q_pI hx hb hT hown hK hR hS hz iqX6 vqX6 tyX6_ok nmX6 1 (by decide) (hT _ wfl_X6_21) rfl rfl hf dX6_read_12 (fun X4 hf H locs hR hS hz => ?_)
  refine lv_aload_n hx hb dX6_read_15 rfl (lv_at hl 0 rfl) ?_
  refine lv_iconst (v := (0 : Int32)) hx hb dX6_read_16 (by decide) ?_
  refine q_pI hx hb hT hown hK hR hS hz iqX6 vqX6 tyX6_ok nmX6 2 (by decide) (hT _ wfl_X6_25) rfl rfl hf dX6_read_17 (fun X5 hf H locs hR hS hz => ?_)
  refine lv_aload_n hx hb dX6_read_20 rfl (lv_at hl 0 rfl) ?_
  refine lv_iconst (v := (0 : Int32)) hx hb dX6_read_21 (by decide) ?_
  refine q_pI hx hb hT hown hK hR hS hz iqX6 vqX6 tyX6_ok nmX6 4 (by decide) (hT _ wfl_X6_28) rfl rfl hf dX6_read_22 (fun X6 hf H locs hR hS hz => ?_)
  refine lv_aload_n hx hb dX6_read_25 rfl (lv_at hl 0 rfl) ?_
  refine lv_iconst (v := (-1 : Int32)) hx hb dX6_read_26 (by decide) ?_
  refine q_pI hx hb hT hown hK hR hS hz iqX6 vqX6 tyX6_ok nmX6 5 (by decide) (hT _ wfl_X6_31) rfl rfl hf dX6_read_27 (fun X7 hf H locs hR hS hz => ?_)
  refine lv_aload_n hx hb dX6_read_30 rfl (lv_at hl 0 rfl) ?_
  refine lv_iconst (v := (0 : Int32)) hx hb dX6_read_31 (by decide) ?_
  refine q_pZ hx hb hT hown hK hR hS hz iqX6 vqX6 tyX6_ok nmX6 6 (by decide) (hT _ wfl_X6_34) rfl rfl hf dX6_read_32 (fun X8 hf H locs hR hS hz => ?_)
  refine lv_aload_n hx hb dX6_read_35 rfl (lv_at hl 0 rfl) ?_
  refine lv_iconst (v := (0 : Int32)) hx hb dX6_read_36 (by decide) ?_
  refine q_pZ hx hb hT hown hK hR hS hz iqX6 vqX6 tyX6_ok nmX6 7 (by decide) (hT _ wfl_X6_38) rfl rfl hf dX6_read_37 (fun X9 hf H locs hR hS hz => ?_)
  refine lv_aload_n hx hb dX6_read_40 rfl (lv_at hl 3 rfl) ?_
  obtain ⟨X10, hc, hf⟩ := q_b hf
  refine q_callv (va_runV (As := []) (rest := []) ⟨hx, hb, hml, hown, hT⟩ (mX0_empty l D kz b0 sz F X9 a3 X10 hc) (cwV 0 hT (q_gV wco_X0_empty wml_X6_41 wim_X0_empty wse_X0_empty win_X0) rfl rfl rfl hdX0_empty ⟨Nat.le_of_ble_eq_true rfl, Nat.le_of_ble_eq_true rfl⟩) (q_preV vqX0 (fX0_empty_is hc) hR hK hz) rfl rfl hl.1 rfl (lv_room (Nat.le_of_ble_eq_true rfl)) dX6_read_41 ⟨Nat.le_of_ble_eq_true rfl, Nat.le_of_ble_eq_true rfl⟩) hS (fun H locs hR hS hz => ?_)
  refine lv_aload_n hx hb dX6_read_44 rfl (lv_at hl 0 rfl) ?_
  obtain ⟨X11, hc, hf⟩ := q_b hf
  refine q_callv (va_runV (As := []) (rest := []) ⟨hx, hb, hml, hown, hT⟩ (mX6_skipBlanks l D kz b0 sz F X10 a0 X11 hc) (cwV 0 hT (q_gV wco_X6_skipBlanks wml_X6_46 wim_X6_skipBlanks wse_X6_skipBlanks win_X6) rfl rfl rfl hdX6_skipBlanks ⟨Nat.le_of_ble_eq_true rfl, Nat.le_of_ble_eq_true rfl⟩) (q_preV vqX6 (fX6_skipBlanks_is hc) hR hK hz) rfl rfl hl.1 rfl (lv_room (Nat.le_of_ble_eq_true rfl)) dX6_read_45 ⟨Nat.le_of_ble_eq_true rfl, Nat.le_of_ble_eq_true rfl⟩) hS (fun H locs hR hS hz => ?_)
  refine lv_iconst (v := (0 : Int32)) hx hb dX6_read_48 (by decide) ?_
  refine lv_istore (lv' := [(4, .int (0 : Int32)), (0, .ref a0), (1, .ref a1), (2, .int a2), (3, .ref a3)]) hx hb dX6_read_49 hl (by decide) rfl (fun ls hl => ?_)
  obtain ⟨X20, ho, hf⟩ := q_b hf
  have hL : ∀ (n : Nat) (v12 : Int32) (X13 : qH) (out : qH), fX6_read_L51 F a0 a3 n v12 X13 = some out → (∀ (X20 : qH), out = X20 → ∀ (H : Heap) (locs : List Loc) (ls : Array Slot), qR D kz b0 X20 H → va_S (qA b0) s.heap H locs → H.size = sz → lv_has ls 5 [(0, .ref a0)] → W p l e rmX6_read s m args below meth c H locs 0 0 Q (F0 m 92 ls [])) → ∀ (H : Heap) (locs : List Loc) (ls : Array Slot), qR D kz b0 X13 H → va_S (qA b0) s.heap H locs → H.size = sz → lv_has ls 5 [(0, .ref a0), (3, .ref a3), (4, .int v12)] → W p l e rmX6_read s m args below meth c H locs 0 0 Q (F0 m 51 ls []) := by
    intro n9
    induction n9 with
    | zero =>
      intro v12 X13 out hf
      exact absurd (show none = some out from hf) (by simp)
    | succ n9 ih0 =>
      intro v12 X13 out hf hex H locs ls hR hS hz hl
      have hf : fX6_read_L51_B F a0 a3 (fX6_read_L51 F a0 a3 n9) v12 X13 = some out := hf
      unfold fX6_read_L51_B at hf
      refine lv_iload hx hb dX6_read_51 (lv_at hl 2 rfl) ?_
      refine lv_sipush (v := (230 : Int32)) hx hb dX6_read_53 (by decide) ?_
      refine lv_icmp_ge (tgt := 92) hx hb dX6_read_56 (by decide) (fun hc => ?_) (fun hc => ?_)
      · have hf := q_t hf hc
        exact hex _ (Option.some.inj hf).symm _ _ _ hR hS hz (lv_sub hl [0] rfl)
      · have hf := q_f hf hc
        refine lv_aload_n hx hb dX6_read_59 rfl (lv_at hl 0 rfl) ?_
        refine q_gI hx hb hT hown hK hR iqX6 vqX6 2 (by decide) (hT _ wfl_X6_25) hf dX6_read_60 (fun v14 hf => ?_)
        refine lv_aload_n hx hb dX6_read_63 rfl (lv_at hl 0 rfl) ?_
        refine q_gI hx hb hT hown hK hR iqX6 vqX6 1 (by decide) (hT _ wfl_X6_21) hf dX6_read_64 (fun v15 hf => ?_)
        refine lv_icmp_ge (tgt := 92) hx hb dX6_read_67 (by decide) (fun hc => ?_) (fun hc => ?_)
        · have hf := q_t hf hc
          exact hex _ (Option.some.inj hf).symm _ _ _ hR hS hz (lv_sub hl [0] rfl)
        · have hf := q_f hf hc
          refine lv_aload_n hx hb dX6_read_70 rfl (lv_at hl 0 rfl) ?_
          refine q_gI hx hb hT hown hK hR iqX6 vqX6 4 (by decide) (hT _ wfl_X6_28) hf dX6_read_71 (fun v16 hf => ?_)
          refine lv_if_ne (tgt := 92) hx hb dX6_read_74 (by decide) (fun hc => ?_) (fun hc => ?_)
          · have hf := q_f hf hc
            exact hex _ (Option.some.inj hf).symm _ _ _ hR hS hz (lv_sub hl [0] rfl)
          · have hf := q_t hf hc
            refine lv_aload_n hx hb dX6_read_77 rfl (lv_at hl 0 rfl) ?_
            refine lv_aload_n hx hb dX6_read_78 rfl (lv_at hl 1 rfl) ?_
            obtain ⟨X17, hc, hf⟩ := q_b hf
            refine q_callv (va_runV (As := [.ref a3]) (rest := []) ⟨hx, hb, hml, hown, hT⟩ (mX6_readClause l D kz b0 sz F X13 a0 a3 X17 hc) (cwV 1 hT (q_gV wco_X6_readClause wml_X6_49 wim_X6_readClause wse_X6_readClause win_X6) rfl rfl rfl hdX6_readClause ⟨Nat.le_of_ble_eq_true rfl, Nat.le_of_ble_eq_true rfl⟩) (q_preV vqX6 (fX6_readClause_is hc) hR hK hz) rfl rfl hl.1 rfl (lv_room (Nat.le_of_ble_eq_true rfl)) dX6_read_79 ⟨Nat.le_of_ble_eq_true rfl, Nat.le_of_ble_eq_true rfl⟩) hS (fun H locs hR hS hz => ?_)
            refine lv_aload_n hx hb dX6_read_82 rfl (lv_at hl 0 rfl) ?_
            obtain ⟨X18, hc, hf⟩ := q_b hf
            refine q_callv (va_runV (As := []) (rest := []) ⟨hx, hb, hml, hown, hT⟩ (mX6_skipBlanks l D kz b0 sz F X17 a0 X18 hc) (cwV 0 hT (q_gV wco_X6_skipBlanks wml_X6_46 wim_X6_skipBlanks wse_X6_skipBlanks win_X6) rfl rfl rfl hdX6_skipBlanks ⟨Nat.le_of_ble_eq_true rfl, Nat.le_of_ble_eq_true rfl⟩) (q_preV vqX6 (fX6_skipBlanks_is hc) hR hK hz) rfl rfl hl.1 rfl (lv_room (Nat.le_of_ble_eq_true rfl)) dX6_read_83 ⟨Nat.le_of_ble_eq_true rfl, Nat.le_of_ble_eq_true rfl⟩) hS (fun H locs hR hS hz => ?_)
            obtain ⟨v19, ev19⟩ : ∃ y : Int32, y = (v12 + (1 : Int32)) := ⟨_, rfl⟩
            have hf := q_lt ev19 hf
            refine lv_iinc (v := v19) (lv' := [(4, .int v19), (0, .ref a0), (3, .ref a3)]) hx hb dX6_read_86 hl (k := 2) rfl (by rw [ev19]; rfl) (by decide) rfl (fun ls hl => ?_)
            refine lv_goto (tgt := 51) hx hb dX6_read_89 (by decide) ?_
            exact ih0 _ _ out hf hex _ _ _ hR hS hz (lv_sub hl [1, 2, 0] rfl)
  refine hL F _ _ _ ho (fun z0 h9 => ?_) _ _ _ hR hS hz (lv_sub hl [1, 4, 0] rfl)
  cases h9
  intro H locs ls hR hS hz hl
  refine lv_aload_n hx hb dX6_read_92 rfl (lv_at hl 0 rfl) ?_
  refine q_gI hx hb hT hown hK hR iqX6 vqX6 4 (by decide) (hT _ wfl_X6_28) hf dX6_read_93 (fun v21 hf => ?_)
  subst hQ
  obtain ⟨h8, h9⟩ := Prod.mk.inj (Option.some.inj hf)
  exact q_iret hx hb hr hlocks hR hS hz h8 h9 dX6_read_96
/-! X7_fits -/
def fX7_fits (F : Nat) (X : qH) (a0 : Nat) (a1 : Nat) (a2 : Int32) (a3 : Int32) : Option (Int32) :=
qIs 7 X a0 <|
qlab (fun (_ : Unit) =>
(qgR X 7 a0 1).bind fun v1 =>
(fX3_hidden F X v1 a1 a2).bind fun v2 =>
(if v2 = (0 : Int32) then (some (1 : Int32))
else (some (0 : Int32)) : Option Int32).bind fun v3 =>
(qz v3).bind fun z =>
some z) fun J7 =>
if a3 ≤ (0 : Int32) then (J7 ())
else ((qgR X 7 a0 0).bind fun v4 =>
(qaI X 0 v4 (a3 - (1 : Int32))).bind fun v5 =>
(fX0_apart F X a1 v5 a2).bind fun v6 =>
if v6 = (1 : Int32) then (some (0 : Int32))
else (J7 ()))
abbrev rmX7_fits : Room := { frames := 3, cells := 0, slots := 0, locals := 68 }
theorem fX7_fits_is {F : Nat} {X : qH} {a0 : Nat} {a1 : Nat} {a2 : Int32} {a3 : Int32} {r9 : Int32} (h : fX7_fits F X a0 a1 a2 a3 = some r9) : ∃ fs, X a0 = some (.inr (7, fs)) := (qIs_spec h).1
theorem hdX7_fits : yX7_fits.cls = RX7 ∧ yX7_fits.cls ≠ "java/lang/invoke/MethodHandle" ∧ yX7_fits.cls ≠ "java/lang/invoke/VarHandle" ∧ (parseMethodDescriptor yX7_fits.desc).map (fun d => d.parameters.length) = some 3 := by decide +kernel
set_option maxHeartbeats 4000000 in
set_option maxRecDepth 100000 in
theorem mX7_fits (l : Launch) (D : va_G) (kz : Nat → Nat) (b0 sz F : Nat) (X : qH) (a0 : Nat) (a1 : Nat) (a2 : Int32) (a3 : Int32) (r : Int32) (hf : fX7_fits F X a0 a1 a2 a3 = some r) : Met l yX7_fits (qws yX7_fits cX7_fits 4 (some .boolean)) rmX7_fits (va_Pc [.ref a0, .ref a1, .int a2, .int a3] (qU D kz b0 sz X)) (va_Qi (fun (r' : Int32) (u : qH) => r' = r ∧ u = X) (fun u t => qO D kz b0 sz u t) (qA b0)) 0 0 (qA b0) := by
  refine q_start (by decide) (Nat.le_of_ble_eq_true rfl) ?_
  intro p e s m args below meth c hx hb hr hlocks hnm hml hown hT hR hK hz ls hl
  have hown : s.vm.findClass RX7 = some m.cls := hown
  have hl : lv_has ls 4 [(0, .ref a0), (1, .ref a1), (2, .int a2), (3, .int a3)] := hl
  have hS : va_S (qA b0) s.heap s.heap [] := va_S.rf
  obtain ⟨Q, hQ⟩ : ∃ Q, Q = MQ below (va_Qi (fun (r' : Int32) (u : qH) => r' = r ∧ u = X) (fun u t => qO D kz b0 sz u t) (qA b0)) args s 0 0 (qA b0) := ⟨_, rfl⟩
  rw [← hQ]
  unfold fX7_fits at hf
  obtain ⟨hthis, hf⟩ := qIs_spec hf
  refine lv_iload_n hx hb dX7_fits_0 rfl (lv_at hl 3 rfl) ?_
  obtain ⟨J7, hJd, hf⟩ := q_lab hf
  have hJ23 : ∀ (_ : Unit), J7 () = some r → ∀ (H : Heap) (locs : List Loc) (ls : Array Slot), qR D kz b0 X H → va_S (qA b0) s.heap H locs → H.size = sz → lv_has ls 4 [(0, .ref a0), (1, .ref a1), (2, .int a2)] → W p l e rmX7_fits s m args below meth c H locs 0 0 Q (F0 m 23 ls []) := by
    intro _ hf H locs ls hR hS hz hl
    rw [hJd] at hf
    refine lv_aload_n hx hb dX7_fits_23 rfl (lv_at hl 0 rfl) ?_
    refine q_gR hx hb hT hown hK hR iqX7 vqX7 1 (by decide) (hT _ wfl_X7_18) hf dX7_fits_24 (fun v1 hf => ?_)
    refine lv_aload_n hx hb dX7_fits_27 rfl (lv_at hl 1 rfl) ?_
    refine lv_iload_n hx hb dX7_fits_28 rfl (lv_at hl 2 rfl) ?_
    obtain ⟨v2, hc, hf⟩ := q_b hf
    refine q_calli (va_runV (As := [.ref a1, .int a2]) (rest := []) ⟨hx, hb, hml, hown, hT⟩ (mX3_hidden l D kz b0 sz F X v1 a1 a2 v2 hc) (cwV 2 hT (q_gV wco_X3_hidden wml_X7_65 wim_X3_hidden wse_X3_hidden win_X3) rfl rfl rfl hdX3_hidden ⟨Nat.le_of_ble_eq_true rfl, Nat.le_of_ble_eq_true rfl⟩) (q_preV vqX3 (fX3_hidden_is hc) hR hK hz) rfl rfl hl.1 rfl (lv_room (Nat.le_of_ble_eq_true rfl)) dX7_fits_29 ⟨Nat.le_of_ble_eq_true rfl, Nat.le_of_ble_eq_true rfl⟩) hS (fun H locs hR hS hz => ?_)
    obtain ⟨v3, hp, hf⟩ := q_b hf
    have hJ : ∀ (H : Heap) (locs : List Loc) (ls : Array Slot), qR D kz b0 X H → va_S (qA b0) s.heap H locs → H.size = sz → lv_has ls 4 [] → W p l e rmX7_fits s m args below meth c H locs 0 0 Q (F0 m 40 ls [.int v3]) := by
      intro H locs ls hR hS hz hl
      subst hQ
      obtain ⟨z9, hz9, hf⟩ := q_b hf
      obtain ⟨rfl, h01⟩ := qz_spec hz9
      exact q_zret hx hb hr hlocks hR hS hz (Option.some.inj hf) h01 rfl dX7_fits_40
    have hf := hp
    refine lv_if_ne (tgt := 39) hx hb dX7_fits_32 (by decide) (fun hc => ?_) (fun hc => ?_)
    · have hf := q_f hf hc
      refine lv_iconst (v := (0 : Int32)) hx hb dX7_fits_39 (by decide) ?_
      cases hf
      exact hJ _ _ _ hR hS hz (lv_sub hl [] rfl)
    · have hf := q_t hf hc
      refine lv_iconst (v := (1 : Int32)) hx hb dX7_fits_35 (by decide) ?_
      refine lv_goto (tgt := 40) hx hb dX7_fits_36 (by decide) ?_
      cases hf
      exact hJ _ _ _ hR hS hz (lv_sub hl [] rfl)
  clear hJd
  refine lv_if_le (tgt := 23) hx hb dX7_fits_1 (by decide) (fun hc => ?_) (fun hc => ?_)
  · have hf := q_t hf hc
    exact hJ23 () hf _ _ _ hR hS hz (lv_sub hl [0, 1, 2] rfl)
  · have hf := q_f hf hc
    refine lv_aload_n hx hb dX7_fits_4 rfl (lv_at hl 1 rfl) ?_
    refine lv_aload_n hx hb dX7_fits_5 rfl (lv_at hl 0 rfl) ?_
    refine q_gR hx hb hT hown hK hR iqX7 vqX7 0 (by decide) (hT _ wfl_X7_9) hf dX7_fits_6 (fun v4 hf => ?_)
    refine lv_iload_n hx hb dX7_fits_9 rfl (lv_at hl 3 rfl) ?_
    refine lv_iconst (v := (1 : Int32)) hx hb dX7_fits_10 (by decide) ?_
    refine lv_isub hx hb dX7_fits_11 ?_
    refine q_iald hx hb hK hR hf dX7_fits_12 (fun v5 hf => ?_)
    refine lv_iload_n hx hb dX7_fits_13 rfl (lv_at hl 2 rfl) ?_
    obtain ⟨v6, hc, hf⟩ := q_b hf
    refine q_calli (va_runV (As := [.int v5, .int a2]) (rest := []) ⟨hx, hb, hml, hown, hT⟩ (mX0_apart l D kz b0 sz F X a1 v5 a2 v6 hc) (cwV 2 hT (q_gV wco_X0_apart wml_X7_61 wim_X0_apart wse_X0_apart win_X0) rfl rfl rfl hdX0_apart ⟨Nat.le_of_ble_eq_true rfl, Nat.le_of_ble_eq_true rfl⟩) (q_preV vqX0 (fX0_apart_is hc) hR hK hz) rfl rfl hl.1 rfl (lv_room (Nat.le_of_ble_eq_true rfl)) dX7_fits_14 ⟨Nat.le_of_ble_eq_true rfl, Nat.le_of_ble_eq_true rfl⟩) hS (fun H locs hR hS hz => ?_)
    refine lv_iconst (v := (1 : Int32)) hx hb dX7_fits_17 (by decide) ?_
    refine lv_icmp_ne (tgt := 23) hx hb dX7_fits_18 (by decide) (fun hc => ?_) (fun hc => ?_)
    · have hf := q_f hf hc
      exact hJ23 () hf _ _ _ hR hS hz (lv_sub hl [0, 1, 2] rfl)
    · have hf := q_t hf hc
      refine lv_iconst (v := (0 : Int32)) hx hb dX7_fits_21 (by decide) ?_
      subst hQ
      exact q_zret hx hb hr hlocks hR hS hz (Option.some.inj hf) (by decide) rfl dX7_fits_22
/-! X7_extend -/
def fX7_extend_L18_B (F : Nat) (self : qH → Nat → Nat → Nat → Int32 → Int32 → Option (Int32 × qH)) (a0 : Nat) (a1 : Nat) (a2 : Nat) (a3 : Int32) (a4 : Int32) (self0 : Int32 → qH → Option ((Int32 × qH) ⊕ (qH))) (v1 : Int32) (X2 : qH) : Option ((Int32 × qH) ⊕ (qH)) :=
(qgI X2 0 a1 5).bind fun v3 =>
if v3 ≤ v1 then (some (.inr X2))
else ((qgR X2 7 a0 1).bind fun v4 =>
(qgI X2 3 a2 0).bind fun v5 =>
qlt (v5 + a4) fun v6 =>
(qpI X2 3 v4 0 v6).bind fun X7 =>
if ((a3 >>> (v1 &&& 31)) &&& (1 : Int32)) = (1 : Int32) then ((fX7_fits F X7 a0 a1 v1 a4).bind fun v8 =>
if v8 = (0 : Int32) then (qlt (v1 + (1 : Int32)) fun v9 =>
self0 v9 X7)
else ((qgR X7 7 a0 0).bind fun v10 =>
(qaS X7 0 v10 a4 v1).bind fun X11 =>
(qgR X11 7 a0 1).bind fun v12 =>
(fX3_sign F X11 v12 a1 v1).bind fun X13 =>
qb2 (self X13 a0 a1 a2 (a3 &&& (((1 : Int32) <<< (v1 &&& 31)) ^^^ (-1 : Int32))) (a4 + (1 : Int32))) fun v14 X15 =>
if v14 = (0 : Int32) then ((qgR X15 7 a0 1).bind fun v16 =>
(fX3_signedAs F X15 v16 v1 a2).bind fun X17 =>
qlt (v1 + (1 : Int32)) fun v18 =>
self0 v18 X17)
else (some (.inl ((1 : Int32), X15)))))
else (qlt (v1 + (1 : Int32)) fun v19 =>
self0 v19 X7))
def fX7_extend_L18 (F : Nat) (self : qH → Nat → Nat → Nat → Int32 → Int32 → Option (Int32 × qH)) (a0 : Nat) (a1 : Nat) (a2 : Nat) (a3 : Int32) (a4 : Int32) : Nat → Int32 → qH → Option ((Int32 × qH) ⊕ (qH))
  | 0, _, _ => none
  | n + 1, v1, X2 => fX7_extend_L18_B F self a0 a1 a2 a3 a4 (fX7_extend_L18 F self a0 a1 a2 a3 a4 n) v1 X2
def fX7_extend_body (F : Nat) (self : qH → Nat → Nat → Nat → Int32 → Int32 → Option (Int32 × qH)) (X : qH) (a0 : Nat) (a1 : Nat) (a2 : Nat) (a3 : Int32) (a4 : Int32) : Option (Int32 × qH) :=
qIs 7 X a0 <|
if a3 = (0 : Int32) then (some ((1 : Int32), X))
else (if a4 < (6 : Int32) then ((fX7_extend_L18 F self a0 a1 a2 a3 a4 F (0 : Int32) X).bind fun o21 => qsm1 o21 (fun z => some z) fun X20 =>
some ((0 : Int32), X20))
else (some ((0 : Int32), X)))
def fX7_extend (F : Nat) : Nat → qH → Nat → Nat → Nat → Int32 → Int32 → Option (Int32 × qH)
  | 0, _, _, _, _, _, _ => none
  | d + 1, X, a0, a1, a2, a3, a4 => fX7_extend_body F (fX7_extend F d) X a0 a1 a2 a3 a4
def rmX7_extend (d : Nat) : Room := { frames := 5 + d, cells := 0, slots := 0, locals := 113 + 25 * d }
theorem fX7_extend_is {F d : Nat} {X : qH} {a0 : Nat} {a1 : Nat} {a2 : Nat} {a3 : Int32} {a4 : Int32} {r9 : Int32 × qH} (h : fX7_extend F d X a0 a1 a2 a3 a4 = some r9) : ∃ fs, X a0 = some (.inr (7, fs)) := by
  cases d with
  | zero => exact absurd (show none = some r9 from h) (by simp)
  | succ d => exact (qIs_spec (show fX7_extend_body F (fX7_extend F d) X a0 a1 a2 a3 a4 = some r9 from h)).1
theorem hdX7_extend : yX7_extend.cls = RX7 ∧ yX7_extend.cls ≠ "java/lang/invoke/MethodHandle" ∧ yX7_extend.cls ≠ "java/lang/invoke/VarHandle" ∧ (parseMethodDescriptor yX7_extend.desc).map (fun d => d.parameters.length) = some 4 := by decide +kernel
set_option maxHeartbeats 4000000 in
set_option maxRecDepth 100000 in
theorem mX7_extend (l : Launch) (D : va_G) (kz : Nat → Nat) (b0 sz F : Nat) : ∀ (d : Nat) (X : qH) (a0 : Nat) (a1 : Nat) (a2 : Nat) (a3 : Int32) (a4 : Int32) (r : Int32) (Xr : qH), fX7_extend F d X a0 a1 a2 a3 a4 = some (r, Xr) → Met l yX7_extend (qws yX7_extend cX7_extend 6 (some .boolean)) (rmX7_extend d) (va_Pc [.ref a0, .ref a1, .ref a2, .int a3, .int a4] (qU D kz b0 sz X)) (va_Qi (fun (r' : Int32) (u : qH) => r' = r ∧ u = Xr) (fun u t => qO D kz b0 sz u t) (qA b0)) 0 0 (qA b0) := by
  intro d
  induction d with
  | zero =>
    intro X a0 a1 a2 a3 a4 r Xr hf
    exact absurd (show none = some _ from hf) (by simp)
  | succ d ih =>
    intro X a0 a1 a2 a3 a4 r Xr hf
    have hf : fX7_extend_body F (fX7_extend F d) X a0 a1 a2 a3 a4 = some (r, Xr) := hf
    refine q_start (by decide) (Nat.le_of_ble_eq_true rfl) ?_
    intro p e s m args below meth c hx hb hr hlocks hnm hml hown hT hR hK hz ls hl
    have hown : s.vm.findClass RX7 = some m.cls := hown
    have hl : lv_has ls 6 [(0, .ref a0), (1, .ref a1), (2, .ref a2), (3, .int a3), (4, .int a4)] := hl
    have hS : va_S (qA b0) s.heap s.heap [] := va_S.rf
    obtain ⟨Q, hQ⟩ : ∃ Q, Q = MQ below (va_Qi (fun (r' : Int32) (u : qH) => r' = r ∧ u = Xr) (fun u t => qO D kz b0 sz u t) (qA b0)) args s 0 0 (qA b0) := ⟨_, rfl⟩
    rw [← hQ]
    unfold fX7_extend_body at hf
    obtain ⟨hthis, hf⟩ := qIs_spec hf
    refine lv_iload_n hx hb dX7_extend_0 rfl (lv_at hl 3 rfl) ?_
    refine lv_if_ne (tgt := 6) hx hb dX7_extend_1 (by decide) (fun hc => ?_) (fun hc => ?_)
    · have hf := q_f hf hc
      refine lv_iload hx hb dX7_extend_6 (lv_at hl 4 rfl) ?_
      refine lv_bipush (v := (6 : Int32)) hx hb dX7_extend_8 (by decide) ?_
      refine lv_icmp_lt (tgt := 15) hx hb dX7_extend_10 (by decide) (fun hc => ?_) (fun hc => ?_)
      · have hf := q_t hf hc
        refine lv_iconst (v := (0 : Int32)) hx hb dX7_extend_15 (by decide) ?_
        refine lv_istore (lv' := [(5, .int (0 : Int32)), (0, .ref a0), (1, .ref a1), (2, .ref a2), (3, .int a3), (4, .int a4)]) hx hb dX7_extend_16 hl (by decide) rfl (fun ls hl => ?_)
        obtain ⟨o21, ho, hf⟩ := q_b hf
        have hL : ∀ (n : Nat) (v1 : Int32) (X2 : qH) (out : (Int32 × qH) ⊕ (qH)), fX7_extend_L18 F (fX7_extend F d) a0 a1 a2 a3 a4 n v1 X2 = some out → (∀ z, out = .inl z → z = (r, Xr)) → (∀ (X20 : qH), out = .inr X20 → ∀ (H : Heap) (locs : List Loc) (ls : Array Slot), qR D kz b0 X20 H → va_S (qA b0) s.heap H locs → H.size = sz → lv_has ls 6 [] → W p l e (rmX7_extend (d + 1)) s m args below meth c H locs 0 0 Q (F0 m 121 ls [])) → ∀ (H : Heap) (locs : List Loc) (ls : Array Slot), qR D kz b0 X2 H → va_S (qA b0) s.heap H locs → H.size = sz → lv_has ls 6 [(0, .ref a0), (1, .ref a1), (2, .ref a2), (3, .int a3), (4, .int a4), (5, .int v1)] → W p l e (rmX7_extend (d + 1)) s m args below meth c H locs 0 0 Q (F0 m 18 ls []) := by
          intro n9
          induction n9 with
          | zero =>
            intro v1 X2 out hf
            exact absurd (show none = some out from hf) (by simp)
          | succ n9 ih0 =>
            intro v1 X2 out hf hret hex H locs ls hR hS hz hl
            have hf : fX7_extend_L18_B F (fX7_extend F d) a0 a1 a2 a3 a4 (fX7_extend_L18 F (fX7_extend F d) a0 a1 a2 a3 a4 n9) v1 X2 = some out := hf
            unfold fX7_extend_L18_B at hf
            refine lv_iload hx hb dX7_extend_18 (lv_at hl 5 rfl) ?_
            refine lv_aload_n hx hb dX7_extend_20 rfl (lv_at hl 1 rfl) ?_
            refine q_gI hx hb hT hown hK hR iqX0 vqX0 5 (by decide) (hT _ wfl_X7_22) hf dX7_extend_21 (fun v3 hf => ?_)
            refine lv_icmp_ge (tgt := 121) hx hb dX7_extend_24 (by decide) (fun hc => ?_) (fun hc => ?_)
            · have hf := q_t hf hc
              exact hex _ (Option.some.inj hf).symm _ _ _ hR hS hz (lv_sub hl [] rfl)
            · have hf := q_f hf hc
              refine lv_aload_n hx hb dX7_extend_27 rfl (lv_at hl 0 rfl) ?_
              refine q_gR hx hb hT hown hK hR iqX7 vqX7 1 (by decide) (hT _ wfl_X7_18) hf dX7_extend_28 (fun v4 hf => ?_)
              refine lv_aload_n hx hb dX7_extend_31 rfl (lv_at hl 2 rfl) ?_
              refine q_gI hx hb hT hown hK hR iqX3 vqX3 0 (by decide) (hT _ wfl_X7_46) hf dX7_extend_32 (fun v5 hf => ?_)
              refine lv_iload hx hb dX7_extend_35 (lv_at hl 4 rfl) ?_
              refine lv_iadd hx hb dX7_extend_37 ?_
              refine lv_topi (fun v6 ev6 => ?_)
              have hf := q_lt ev6 hf
              refine q_pI hx hb hT hown hK hR hS hz iqX3 vqX3 tyX3_ok nmX3 0 (by decide) (hT _ wfl_X7_46) rfl rfl hf dX7_extend_38 (fun X7 hf H locs hR hS hz => ?_)
              refine lv_iload_n hx hb dX7_extend_41 rfl (lv_at hl 3 rfl) ?_
              refine lv_iload hx hb dX7_extend_42 (lv_at hl 5 rfl) ?_
              refine lv_ishr hx hb dX7_extend_44 ?_
              refine lv_iconst (v := (1 : Int32)) hx hb dX7_extend_45 (by decide) ?_
              refine lv_iand hx hb dX7_extend_46 ?_
              refine lv_iconst (v := (1 : Int32)) hx hb dX7_extend_47 (by decide) ?_
              refine lv_icmp_ne (tgt := 115) hx hb dX7_extend_48 (by decide) (fun hc => ?_) (fun hc => ?_)
              · have hf := q_f hf hc
                obtain ⟨v19, ev19⟩ : ∃ y : Int32, y = (v1 + (1 : Int32)) := ⟨_, rfl⟩
                have hf := q_lt ev19 hf
                refine lv_iinc (v := v19) (lv' := [(5, .int v19), (0, .ref a0), (1, .ref a1), (2, .ref a2), (3, .int a3), (4, .int a4)]) hx hb dX7_extend_115 hl (k := 5) rfl (by rw [ev19]; rfl) (by decide) rfl (fun ls hl => ?_)
                refine lv_goto (tgt := 18) hx hb dX7_extend_118 (by decide) ?_
                exact ih0 _ _ out hf hret hex _ _ _ hR hS hz (lv_sub hl [1, 2, 3, 4, 5, 0] rfl)
              · have hf := q_t hf hc
                refine lv_aload_n hx hb dX7_extend_51 rfl (lv_at hl 0 rfl) ?_
                refine lv_aload_n hx hb dX7_extend_52 rfl (lv_at hl 1 rfl) ?_
                refine lv_iload hx hb dX7_extend_53 (lv_at hl 5 rfl) ?_
                refine lv_iload hx hb dX7_extend_55 (lv_at hl 4 rfl) ?_
                obtain ⟨v8, hc, hf⟩ := q_b hf
                refine q_calli (va_runV (As := [.ref a1, .int v1, .int a4]) (rest := []) ⟨hx, hb, hml, hown, hT⟩ (mX7_fits l D kz b0 sz F X7 a0 a1 v1 a4 v8 hc) (cwV 3 hT (q_gV wco_X7_fits wml_X7_49 wim_X7_fits wse_X7_fits win_X7) rfl rfl rfl hdX7_fits ⟨by simp only [rmX7_extend,rmX7_fits]; omega, by simp only [rmX7_extend,rmX7_fits]; omega⟩) (q_preV vqX7 (fX7_fits_is hc) hR hK hz) rfl rfl hl.1 rfl (lv_room (Nat.le_of_ble_eq_true rfl)) dX7_extend_57 ⟨Nat.le_of_ble_eq_true rfl, Nat.le_of_ble_eq_true rfl⟩) hS (fun H locs hR hS hz => ?_)
                refine lv_if_eq (tgt := 115) hx hb dX7_extend_60 (by decide) (fun hc => ?_) (fun hc => ?_)
                · have hf := q_t hf hc
                  obtain ⟨v9, ev9⟩ : ∃ y : Int32, y = (v1 + (1 : Int32)) := ⟨_, rfl⟩
                  have hf := q_lt ev9 hf
                  refine lv_iinc (v := v9) (lv' := [(5, .int v9), (0, .ref a0), (1, .ref a1), (2, .ref a2), (3, .int a3), (4, .int a4)]) hx hb dX7_extend_115 hl (k := 5) rfl (by rw [ev9]; rfl) (by decide) rfl (fun ls hl => ?_)
                  refine lv_goto (tgt := 18) hx hb dX7_extend_118 (by decide) ?_
                  exact ih0 _ _ out hf hret hex _ _ _ hR hS hz (lv_sub hl [1, 2, 3, 4, 5, 0] rfl)
                · have hf := q_f hf hc
                  refine lv_aload_n hx hb dX7_extend_63 rfl (lv_at hl 0 rfl) ?_
                  refine q_gR hx hb hT hown hK hR iqX7 vqX7 0 (by decide) (hT _ wfl_X7_9) hf dX7_extend_64 (fun v10 hf => ?_)
                  refine lv_iload hx hb dX7_extend_67 (lv_at hl 4 rfl) ?_
                  refine lv_iload hx hb dX7_extend_69 (lv_at hl 5 rfl) ?_
                  refine q_iast hx hb hK hR hS hz hf dX7_extend_71 (fun X11 hf H locs hR hS hz => ?_)
                  refine lv_aload_n hx hb dX7_extend_72 rfl (lv_at hl 0 rfl) ?_
                  refine q_gR hx hb hT hown hK hR iqX7 vqX7 1 (by decide) (hT _ wfl_X7_18) hf dX7_extend_73 (fun v12 hf => ?_)
                  refine lv_aload_n hx hb dX7_extend_76 rfl (lv_at hl 1 rfl) ?_
                  refine lv_iload hx hb dX7_extend_77 (lv_at hl 5 rfl) ?_
                  obtain ⟨X13, hc, hf⟩ := q_b hf
                  refine q_callv (va_runV (As := [.ref a1, .int v1]) (rest := []) ⟨hx, hb, hml, hown, hT⟩ (mX3_sign l D kz b0 sz F X11 v12 a1 v1 X13 hc) (cwV 2 hT (q_gV wco_X3_sign wml_X7_53 wim_X3_sign wse_X3_sign win_X3) rfl rfl rfl hdX3_sign ⟨by simp only [rmX3_sign,rmX7_extend]; omega, by simp only [rmX3_sign,rmX7_extend]; omega⟩) (q_preV vqX3 (fX3_sign_is hc) hR hK hz) rfl rfl hl.1 rfl (lv_room (Nat.le_of_ble_eq_true rfl)) dX7_extend_79 ⟨Nat.le_of_ble_eq_true rfl, Nat.le_of_ble_eq_true rfl⟩) hS (fun H locs hR hS hz => ?_)
                  refine lv_aload_n hx hb dX7_extend_82 rfl (lv_at hl 0 rfl) ?_
                  refine lv_aload_n hx hb dX7_extend_83 rfl (lv_at hl 1 rfl) ?_
                  refine lv_aload_n hx hb dX7_extend_84 rfl (lv_at hl 2 rfl) ?_
                  refine lv_iload_n hx hb dX7_extend_85 rfl (lv_at hl 3 rfl) ?_
                  refine lv_iconst (v := (1 : Int32)) hx hb dX7_extend_86 (by decide) ?_
                  refine lv_iload hx hb dX7_extend_87 (lv_at hl 5 rfl) ?_
                  refine lv_ishl hx hb dX7_extend_89 ?_
                  refine lv_iconst (v := (-1 : Int32)) hx hb dX7_extend_90 (by decide) ?_
                  refine lv_ixor hx hb dX7_extend_91 ?_
                  refine lv_iand hx hb dX7_extend_92 ?_
                  refine lv_iload hx hb dX7_extend_93 (lv_at hl 4 rfl) ?_
                  refine lv_iconst (v := (1 : Int32)) hx hb dX7_extend_95 (by decide) ?_
                  refine lv_iadd hx hb dX7_extend_96 ?_
                  obtain ⟨v14, X15, hc, hf⟩ := q_b2 hf
                  refine q_calli (va_runV (As := [.ref a1, .ref a2, .int (a3 &&& (((1 : Int32) <<< (v1 &&& 31)) ^^^ (-1 : Int32))), .int (a4 + (1 : Int32))]) (rest := []) ⟨hx, hb, hml, hown, hT⟩ (ih X13 a0 a1 a2 (a3 &&& (((1 : Int32) <<< (v1 &&& 31)) ^^^ (-1 : Int32))) (a4 + (1 : Int32)) v14 X15 hc) (cwV 4 hT (q_gV wco_X7_extend wml_X7_42 wim_X7_extend wse_X7_extend win_X7) rfl rfl rfl hdX7_extend ⟨by simp only [rmX7_extend]; omega, by simp only [rmX7_extend]; omega⟩) (q_preV vqX7 (fX7_extend_is hc) hR hK hz) rfl rfl hl.1 rfl (lv_room (Nat.le_of_ble_eq_true rfl)) dX7_extend_97 ⟨Nat.le_of_ble_eq_true rfl, Nat.le_of_ble_eq_true rfl⟩) hS (fun H locs hR hS hz => ?_)
                  refine lv_if_eq (tgt := 105) hx hb dX7_extend_100 (by decide) (fun hc => ?_) (fun hc => ?_)
                  · have hf := q_t hf hc
                    refine lv_aload_n hx hb dX7_extend_105 rfl (lv_at hl 0 rfl) ?_
                    refine q_gR hx hb hT hown hK hR iqX7 vqX7 1 (by decide) (hT _ wfl_X7_18) hf dX7_extend_106 (fun v16 hf => ?_)
                    refine lv_iload hx hb dX7_extend_109 (lv_at hl 5 rfl) ?_
                    refine lv_aload_n hx hb dX7_extend_111 rfl (lv_at hl 2 rfl) ?_
                    obtain ⟨X17, hc, hf⟩ := q_b hf
                    refine q_callv (va_runV (As := [.int v1, .ref a2]) (rest := []) ⟨hx, hb, hml, hown, hT⟩ (mX3_signedAs l D kz b0 sz F X15 v16 v1 a2 X17 hc) (cwV 2 hT (q_gV wco_X3_signedAs wml_X7_57 wim_X3_signedAs wse_X3_signedAs win_X3) rfl rfl rfl hdX3_signedAs ⟨by simp only [rmX3_signedAs,rmX7_extend]; omega, by simp only [rmX3_signedAs,rmX7_extend]; omega⟩) (q_preV vqX3 (fX3_signedAs_is hc) hR hK hz) rfl rfl hl.1 rfl (lv_room (Nat.le_of_ble_eq_true rfl)) dX7_extend_112 ⟨Nat.le_of_ble_eq_true rfl, Nat.le_of_ble_eq_true rfl⟩) hS (fun H locs hR hS hz => ?_)
                    obtain ⟨v18, ev18⟩ : ∃ y : Int32, y = (v1 + (1 : Int32)) := ⟨_, rfl⟩
                    have hf := q_lt ev18 hf
                    refine lv_iinc (v := v18) (lv' := [(5, .int v18), (0, .ref a0), (1, .ref a1), (2, .ref a2), (3, .int a3), (4, .int a4)]) hx hb dX7_extend_115 hl (k := 5) rfl (by rw [ev18]; rfl) (by decide) rfl (fun ls hl => ?_)
                    refine lv_goto (tgt := 18) hx hb dX7_extend_118 (by decide) ?_
                    exact ih0 _ _ out hf hret hex _ _ _ hR hS hz (lv_sub hl [1, 2, 3, 4, 5, 0] rfl)
                  · have hf := q_f hf hc
                    refine lv_iconst (v := (1 : Int32)) hx hb dX7_extend_103 (by decide) ?_
                    subst hQ
                    obtain ⟨h8, h9⟩ := Prod.mk.inj (hret _ (Option.some.inj hf).symm)
                    exact q_zret hx hb hr hlocks hR hS hz h8 (by decide) h9 dX7_extend_104
        refine hL F _ _ o21 ho (fun z hz9 => by subst hz9; exact Option.some.inj hf) (fun X20 h9 => ?_) _ _ _ hR hS hz (lv_sub hl [1, 2, 3, 4, 5, 0] rfl)
        subst h9
        intro H locs ls hR hS hz hl
        have hf := qsm1_r hf
        refine lv_iconst (v := (0 : Int32)) hx hb dX7_extend_121 (by decide) ?_
        subst hQ
        obtain ⟨h8, h9⟩ := Prod.mk.inj (Option.some.inj hf)
        exact q_zret hx hb hr hlocks hR hS hz h8 (by decide) h9 dX7_extend_122
      · have hf := q_f hf hc
        refine lv_iconst (v := (0 : Int32)) hx hb dX7_extend_13 (by decide) ?_
        subst hQ
        obtain ⟨h8, h9⟩ := Prod.mk.inj (Option.some.inj hf)
        exact q_zret hx hb hr hlocks hR hS hz h8 (by decide) h9 dX7_extend_14
    · have hf := q_t hf hc
      refine lv_iconst (v := (1 : Int32)) hx hb dX7_extend_4 (by decide) ?_
      subst hQ
      obtain ⟨h8, h9⟩ := Prod.mk.inj (Option.some.inj hf)
      exact q_zret hx hb hr hlocks hR hS hz h8 (by decide) h9 dX7_extend_5
/-! X7_find -/
def fX7_find_L3_B (F : Nat) (X : qH) (a0 : Nat) (a1 : Nat) (a2 : Nat) (a3 : Int32) (self0 : Int32 → Option ((Int32 × qH) ⊕ (Unit))) (v1 : Int32) : Option ((Int32 × qH) ⊕ (Unit)) :=
(qgI X 0 a1 5).bind fun v2 =>
if v2 ≤ v1 then (some (.inr ()))
else (if ((a3 >>> (v1 &&& 31)) &&& (1 : Int32)) = (1 : Int32) then ((fX3_inReach F X a2 a1 v1).bind fun v3 =>
(fJ6_bitCount_0f7a4 F X v3).bind fun v4 =>
if (2 : Int32) ≤ v4 then (qlt (v1 + (1 : Int32)) fun v5 =>
self0 v5)
else (some (.inl ((0 : Int32), X))))
else (qlt (v1 + (1 : Int32)) fun v6 =>
self0 v6))
def fX7_find_L3 (F : Nat) (X : qH) (a0 : Nat) (a1 : Nat) (a2 : Nat) (a3 : Int32) : Nat → Int32 → Option ((Int32 × qH) ⊕ (Unit))
  | 0, _ => none
  | n + 1, v1 => fX7_find_L3_B F X a0 a1 a2 a3 (fX7_find_L3 F X a0 a1 a2 a3 n) v1
def fX7_find (F : Nat) (X : qH) (a0 : Nat) (a1 : Nat) (a2 : Nat) (a3 : Int32) : Option (Int32 × qH) :=
qIs 7 X a0 <|
(fX7_find_L3 F X a0 a1 a2 a3 F (0 : Int32)).bind fun o11 => qsm0 o11 (fun z => some z) <|
(qgR X 7 a0 1).bind fun v7 =>
(fX3_become F X v7 a2).bind fun X8 =>
qb2 (fX7_extend F 8 X8 a0 a1 a2 a3 (0 : Int32)) fun v9 X10 =>
(qz v9).bind fun z =>
some (z, X10)
abbrev rmX7_find : Room := { frames := 14, cells := 0, slots := 0, locals := 338 }
theorem fX7_find_is {F : Nat} {X : qH} {a0 : Nat} {a1 : Nat} {a2 : Nat} {a3 : Int32} {r9 : Int32 × qH} (h : fX7_find F X a0 a1 a2 a3 = some r9) : ∃ fs, X a0 = some (.inr (7, fs)) := (qIs_spec h).1
theorem hdX7_find : yX7_find.cls = RX7 ∧ yX7_find.cls ≠ "java/lang/invoke/MethodHandle" ∧ yX7_find.cls ≠ "java/lang/invoke/VarHandle" ∧ (parseMethodDescriptor yX7_find.desc).map (fun d => d.parameters.length) = some 3 := by decide +kernel
set_option maxHeartbeats 4000000 in
set_option maxRecDepth 100000 in
theorem mX7_find (l : Launch) (D : va_G) (kz : Nat → Nat) (b0 sz F : Nat) (X : qH) (a0 : Nat) (a1 : Nat) (a2 : Nat) (a3 : Int32) (r : Int32) (Xr : qH) (hf : fX7_find F X a0 a1 a2 a3 = some (r, Xr)) : Met l yX7_find (qws yX7_find cX7_find 5 (some .boolean)) rmX7_find (va_Pc [.ref a0, .ref a1, .ref a2, .int a3] (qU D kz b0 sz X)) (va_Qi (fun (r' : Int32) (u : qH) => r' = r ∧ u = Xr) (fun u t => qO D kz b0 sz u t) (qA b0)) 0 0 (qA b0) := by
  refine q_start (by decide) (Nat.le_of_ble_eq_true rfl) ?_
  intro p e s m args below meth c hx hb hr hlocks hnm hml hown hT hR hK hz ls hl
  have hown : s.vm.findClass RX7 = some m.cls := hown
  have hl : lv_has ls 5 [(0, .ref a0), (1, .ref a1), (2, .ref a2), (3, .int a3)] := hl
  have hS : va_S (qA b0) s.heap s.heap [] := va_S.rf
  obtain ⟨Q, hQ⟩ : ∃ Q, Q = MQ below (va_Qi (fun (r' : Int32) (u : qH) => r' = r ∧ u = Xr) (fun u t => qO D kz b0 sz u t) (qA b0)) args s 0 0 (qA b0) := ⟨_, rfl⟩
  rw [← hQ]
  unfold fX7_find at hf
  obtain ⟨hthis, hf⟩ := qIs_spec hf
  refine lv_iconst (v := (0 : Int32)) hx hb dX7_find_0 (by decide) ?_
  refine lv_istore (lv' := [(4, .int (0 : Int32)), (0, .ref a0), (1, .ref a1), (2, .ref a2), (3, .int a3)]) hx hb dX7_find_1 hl (by decide) rfl (fun ls hl => ?_)
  obtain ⟨o11, ho, hf⟩ := q_b hf
  have hL : ∀ (n : Nat) (v1 : Int32) (out : (Int32 × qH) ⊕ (Unit)), fX7_find_L3 F X a0 a1 a2 a3 n v1 = some out → (∀ z, out = .inl z → z = (r, Xr)) → (out = .inr () → ∀ (H : Heap) (locs : List Loc) (ls : Array Slot), qR D kz b0 X H → va_S (qA b0) s.heap H locs → H.size = sz → lv_has ls 5 [(0, .ref a0), (1, .ref a1), (2, .ref a2), (3, .int a3)] → W p l e rmX7_find s m args below meth c H locs 0 0 Q (F0 m 44 ls [])) → ∀ (H : Heap) (locs : List Loc) (ls : Array Slot), qR D kz b0 X H → va_S (qA b0) s.heap H locs → H.size = sz → lv_has ls 5 [(0, .ref a0), (1, .ref a1), (2, .ref a2), (3, .int a3), (4, .int v1)] → W p l e rmX7_find s m args below meth c H locs 0 0 Q (F0 m 3 ls []) := by
    intro n9
    induction n9 with
    | zero =>
      intro v1 out hf
      exact absurd (show none = some out from hf) (by simp)
    | succ n9 ih0 =>
      intro v1 out hf hret hex H locs ls hR hS hz hl
      have hf : fX7_find_L3_B F X a0 a1 a2 a3 (fX7_find_L3 F X a0 a1 a2 a3 n9) v1 = some out := hf
      unfold fX7_find_L3_B at hf
      refine lv_iload hx hb dX7_find_3 (lv_at hl 4 rfl) ?_
      refine lv_aload_n hx hb dX7_find_5 rfl (lv_at hl 1 rfl) ?_
      refine q_gI hx hb hT hown hK hR iqX0 vqX0 5 (by decide) (hT _ wfl_X7_22) hf dX7_find_6 (fun v2 hf => ?_)
      refine lv_icmp_ge (tgt := 44) hx hb dX7_find_9 (by decide) (fun hc => ?_) (fun hc => ?_)
      · have hf := q_t hf hc
        exact hex  (Option.some.inj hf).symm _ _ _ hR hS hz (lv_sub hl [0, 1, 2, 3] rfl)
      · have hf := q_f hf hc
        refine lv_iload_n hx hb dX7_find_12 rfl (lv_at hl 3 rfl) ?_
        refine lv_iload hx hb dX7_find_13 (lv_at hl 4 rfl) ?_
        refine lv_ishr hx hb dX7_find_15 ?_
        refine lv_iconst (v := (1 : Int32)) hx hb dX7_find_16 (by decide) ?_
        refine lv_iand hx hb dX7_find_17 ?_
        refine lv_iconst (v := (1 : Int32)) hx hb dX7_find_18 (by decide) ?_
        refine lv_icmp_ne (tgt := 38) hx hb dX7_find_19 (by decide) (fun hc => ?_) (fun hc => ?_)
        · have hf := q_f hf hc
          obtain ⟨v6, ev6⟩ : ∃ y : Int32, y = (v1 + (1 : Int32)) := ⟨_, rfl⟩
          have hf := q_lt ev6 hf
          refine lv_iinc (v := v6) (lv' := [(4, .int v6), (0, .ref a0), (1, .ref a1), (2, .ref a2), (3, .int a3)]) hx hb dX7_find_38 hl (k := 4) rfl (by rw [ev6]; rfl) (by decide) rfl (fun ls hl => ?_)
          refine lv_goto (tgt := 3) hx hb dX7_find_41 (by decide) ?_
          exact ih0 _ out hf hret hex _ _ _ hR hS hz (lv_sub hl [1, 2, 3, 4, 0] rfl)
        · have hf := q_t hf hc
          refine lv_aload_n hx hb dX7_find_22 rfl (lv_at hl 2 rfl) ?_
          refine lv_aload_n hx hb dX7_find_23 rfl (lv_at hl 1 rfl) ?_
          refine lv_iload hx hb dX7_find_24 (lv_at hl 4 rfl) ?_
          obtain ⟨v3, hc, hf⟩ := q_b hf
          refine q_calli (va_runV (As := [.ref a1, .int v1]) (rest := []) ⟨hx, hb, hml, hown, hT⟩ (mX3_inReach l D kz b0 sz F X a2 a1 v1 v3 hc) (cwV 2 hT (q_gV wco_X3_inReach wml_X7_28 wim_X3_inReach wse_X3_inReach win_X3) rfl rfl rfl hdX3_inReach ⟨Nat.le_of_ble_eq_true rfl, Nat.le_of_ble_eq_true rfl⟩) (q_preV vqX3 (fX3_inReach_is hc) hR hK hz) rfl rfl hl.1 rfl (lv_room (Nat.le_of_ble_eq_true rfl)) dX7_find_26 ⟨Nat.le_of_ble_eq_true rfl, Nat.le_of_ble_eq_true rfl⟩) hS (fun H locs hR hS hz => ?_)
          obtain ⟨v4, hc, hf⟩ := q_b hf
          refine q_calli (va_runS (As := [.int v3]) (rest := []) ⟨hx, hb, hml, hown, hT⟩ (mJ6_bitCount_0f7a4 l D kz b0 sz F X v3 v4 hc) (va_cwS 1 hT (q_gS wco_J6_bitCount_0f7a4 wml_X7_32 wst_J6_bitCount_0f7a4 win_J6) rfl rfl rfl hdJ6_bitCount_0f7a4 ⟨Nat.le_of_ble_eq_true rfl, Nat.le_of_ble_eq_true rfl⟩) (q_preS hR hK hz) rfl rfl hl.1 rfl (lv_room (Nat.le_of_ble_eq_true rfl)) dX7_find_29 ⟨Nat.le_of_ble_eq_true rfl, Nat.le_of_ble_eq_true rfl⟩) hS (fun H locs hR hS hz => ?_)
          refine lv_iconst (v := (2 : Int32)) hx hb dX7_find_32 (by decide) ?_
          refine lv_icmp_ge (tgt := 38) hx hb dX7_find_33 (by decide) (fun hc => ?_) (fun hc => ?_)
          · have hf := q_t hf hc
            obtain ⟨v5, ev5⟩ : ∃ y : Int32, y = (v1 + (1 : Int32)) := ⟨_, rfl⟩
            have hf := q_lt ev5 hf
            refine lv_iinc (v := v5) (lv' := [(4, .int v5), (0, .ref a0), (1, .ref a1), (2, .ref a2), (3, .int a3)]) hx hb dX7_find_38 hl (k := 4) rfl (by rw [ev5]; rfl) (by decide) rfl (fun ls hl => ?_)
            refine lv_goto (tgt := 3) hx hb dX7_find_41 (by decide) ?_
            exact ih0 _ out hf hret hex _ _ _ hR hS hz (lv_sub hl [1, 2, 3, 4, 0] rfl)
          · have hf := q_f hf hc
            refine lv_iconst (v := (0 : Int32)) hx hb dX7_find_36 (by decide) ?_
            subst hQ
            obtain ⟨h8, h9⟩ := Prod.mk.inj (hret _ (Option.some.inj hf).symm)
            exact q_zret hx hb hr hlocks hR hS hz h8 (by decide) h9 dX7_find_37
  refine hL F _ o11 ho (fun z hz9 => by subst hz9; exact Option.some.inj hf) (fun  h9 => ?_) _ _ _ hR hS hz (lv_sub hl [1, 2, 3, 4, 0] rfl)
  subst h9
  intro H locs ls hR hS hz hl
  have hf := qsm0_r hf
  refine lv_aload_n hx hb dX7_find_44 rfl (lv_at hl 0 rfl) ?_
  refine q_gR hx hb hT hown hK hR iqX7 vqX7 1 (by decide) (hT _ wfl_X7_18) hf dX7_find_45 (fun v7 hf => ?_)
  refine lv_aload_n hx hb dX7_find_48 rfl (lv_at hl 2 rfl) ?_
  obtain ⟨X8, hc, hf⟩ := q_b hf
  refine q_callv (va_runV (As := [.ref a2]) (rest := []) ⟨hx, hb, hml, hown, hT⟩ (mX3_become l D kz b0 sz F X v7 a2 X8 hc) (cwV 1 hT (q_gV wco_X3_become wml_X7_38 wim_X3_become wse_X3_become win_X3) rfl rfl rfl hdX3_become ⟨Nat.le_of_ble_eq_true rfl, Nat.le_of_ble_eq_true rfl⟩) (q_preV vqX3 (fX3_become_is hc) hR hK hz) rfl rfl hl.1 rfl (lv_room (Nat.le_of_ble_eq_true rfl)) dX7_find_49 ⟨Nat.le_of_ble_eq_true rfl, Nat.le_of_ble_eq_true rfl⟩) hS (fun H locs hR hS hz => ?_)
  refine lv_aload_n hx hb dX7_find_52 rfl (lv_at hl 0 rfl) ?_
  refine lv_aload_n hx hb dX7_find_53 rfl (lv_at hl 1 rfl) ?_
  refine lv_aload_n hx hb dX7_find_54 rfl (lv_at hl 2 rfl) ?_
  refine lv_iload_n hx hb dX7_find_55 rfl (lv_at hl 3 rfl) ?_
  refine lv_iconst (v := (0 : Int32)) hx hb dX7_find_56 (by decide) ?_
  obtain ⟨v9, X10, hc, hf⟩ := q_b2 hf
  refine q_calli (va_runV (As := [.ref a1, .ref a2, .int a3, .int (0 : Int32)]) (rest := []) ⟨hx, hb, hml, hown, hT⟩ (mX7_extend l D kz b0 sz F 8 X8 a0 a1 a2 a3 (0 : Int32) v9 X10 hc) (cwV 4 hT (q_gV wco_X7_extend wml_X7_42 wim_X7_extend wse_X7_extend win_X7) rfl rfl rfl hdX7_extend ⟨Nat.le_of_ble_eq_true rfl, Nat.le_of_ble_eq_true rfl⟩) (q_preV vqX7 (fX7_extend_is hc) hR hK hz) rfl rfl hl.1 rfl (lv_room (Nat.le_of_ble_eq_true rfl)) dX7_find_57 ⟨Nat.le_of_ble_eq_true rfl, Nat.le_of_ble_eq_true rfl⟩) hS (fun H locs hR hS hz => ?_)
  subst hQ
  obtain ⟨z9, hz9, hf⟩ := q_b hf
  obtain ⟨rfl, h01⟩ := qz_spec hz9
  obtain ⟨h8, h9⟩ := Prod.mk.inj (Option.some.inj hf)
  exact q_zret hx hb hr hlocks hR hS hz h8 h01 h9 dX7_find_60
/-! X8_areStars -/
def fX8_areStars_L15_B (F : Nat) (X : qH) (self0 : Int32 → Option ((Int32) ⊕ (Unit))) (v1 : Int32) : Option ((Int32) ⊕ (Unit)) :=
if v1 ≤ (0 : Int32) then (some (.inr ()))
else (qlt (v1 - v1 / (10 : Int32) * (10 : Int32)) fun v2 =>
if v2 < (1 : Int32) then (some (.inl (0 : Int32)))
else (if v2 ≤ (5 : Int32) then (qlt (v1 / (10 : Int32)) fun v3 =>
self0 v3)
else (some (.inl (0 : Int32)))))
def fX8_areStars_L15 (F : Nat) (X : qH) : Nat → Int32 → Option ((Int32) ⊕ (Unit))
  | 0, _ => none
  | n + 1, v1 => fX8_areStars_L15_B F X (fX8_areStars_L15 F X n) v1
def fX8_areStars (F : Nat) (X : qH) (a0 : Int32) : Option (Int32) :=
if a0 < (1 : Int32) then (some (0 : Int32))
else (if a0 ≤ (99999 : Int32) then ((fX8_areStars_L15 F X F a0).bind fun o4 => qsm0 o4 (fun z => some z) <|
some (1 : Int32))
else (some (0 : Int32)))
abbrev rmX8_areStars : Room := { frames := 0, cells := 0, slots := 0, locals := 0 }
theorem hdX8_areStars : yX8_areStars.cls ≠ "java/lang/invoke/MethodHandle" ∧ yX8_areStars.cls ≠ "java/lang/invoke/VarHandle" ∧ (parseMethodDescriptor yX8_areStars.desc).map (fun d => d.parameters.length) = some 1 := by decide +kernel
set_option maxHeartbeats 4000000 in
set_option maxRecDepth 100000 in
theorem mX8_areStars (l : Launch) (D : va_G) (kz : Nat → Nat) (b0 sz F : Nat) (X : qH) (a0 : Int32) (r : Int32) (hf : fX8_areStars F X a0 = some r) : Met l yX8_areStars (qws yX8_areStars cX8_areStars 3 (some .boolean)) rmX8_areStars (va_Pc [.int a0] (qU D kz b0 sz X)) (va_Qi (fun (r' : Int32) (u : qH) => r' = r ∧ u = X) (fun u t => qO D kz b0 sz u t) (qA b0)) 0 0 (qA b0) := by
  refine q_start (by decide) (Nat.le_of_ble_eq_true rfl) ?_
  intro p e s m args below meth c hx hb hr hlocks hnm hml hown hT hR hK hz ls hl
  have hown : s.vm.findClass RX8 = some m.cls := hown
  have hl : lv_has ls 3 [(0, .int a0)] := hl
  have hS : va_S (qA b0) s.heap s.heap [] := va_S.rf
  obtain ⟨Q, hQ⟩ : ∃ Q, Q = MQ below (va_Qi (fun (r' : Int32) (u : qH) => r' = r ∧ u = X) (fun u t => qO D kz b0 sz u t) (qA b0)) args s 0 0 (qA b0) := ⟨_, rfl⟩
  rw [← hQ]
  unfold fX8_areStars at hf
  refine lv_iload_n hx hb dX8_areStars_0 rfl (lv_at hl 0 rfl) ?_
  refine lv_iconst (v := (1 : Int32)) hx hb dX8_areStars_1 (by decide) ?_
  refine lv_icmp_lt (tgt := 11) hx hb dX8_areStars_2 (by decide) (fun hc => ?_) (fun hc => ?_)
  · have hf := q_t hf hc
    refine lv_iconst (v := (0 : Int32)) hx hb dX8_areStars_11 (by decide) ?_
    subst hQ
    exact q_zret hx hb hr hlocks hR hS hz (Option.some.inj hf) (by decide) rfl dX8_areStars_12
  · have hf := q_f hf hc
    refine lv_iload_n hx hb dX8_areStars_5 rfl (lv_at hl 0 rfl) ?_
    refine lv_ldc (v := (99999 : Int32)) hx hb hown (hT _ wk_X8_9) dX8_areStars_6 ?_
    refine lv_icmp_le (tgt := 13) hx hb dX8_areStars_8 (by decide) (fun hc => ?_) (fun hc => ?_)
    · have hf := q_t hf hc
      refine lv_iload_n hx hb dX8_areStars_13 rfl (lv_at hl 0 rfl) ?_
      refine lv_istore_n (lv' := [(1, .int a0), (0, .int a0)]) hx hb dX8_areStars_14 rfl hl (by decide) rfl (fun ls hl => ?_)
      obtain ⟨o4, ho, hf⟩ := q_b hf
      have hL : ∀ (n : Nat) (v1 : Int32) (out : (Int32) ⊕ (Unit)), fX8_areStars_L15 F X n v1 = some out → (∀ z, out = .inl z → z = r) → (out = .inr () → ∀ (H : Heap) (locs : List Loc) (ls : Array Slot), qR D kz b0 X H → va_S (qA b0) s.heap H locs → H.size = sz → lv_has ls 3 [] → W p l e rmX8_areStars s m args below meth c H locs 0 0 Q (F0 m 44 ls [])) → ∀ (H : Heap) (locs : List Loc) (ls : Array Slot), qR D kz b0 X H → va_S (qA b0) s.heap H locs → H.size = sz → lv_has ls 3 [(1, .int v1)] → W p l e rmX8_areStars s m args below meth c H locs 0 0 Q (F0 m 15 ls []) := by
        intro n9
        induction n9 with
        | zero =>
          intro v1 out hf
          exact absurd (show none = some out from hf) (by simp)
        | succ n9 ih0 =>
          intro v1 out hf hret hex H locs ls hR hS hz hl
          have hf : fX8_areStars_L15_B F X (fX8_areStars_L15 F X n9) v1 = some out := hf
          unfold fX8_areStars_L15_B at hf
          refine lv_iload_n hx hb dX8_areStars_15 rfl (lv_at hl 0 rfl) ?_
          refine lv_if_le (tgt := 44) hx hb dX8_areStars_16 (by decide) (fun hc => ?_) (fun hc => ?_)
          · have hf := q_t hf hc
            exact hex  (Option.some.inj hf).symm _ _ _ hR hS hz (lv_sub hl [] rfl)
          · have hf := q_f hf hc
            refine lv_iload_n hx hb dX8_areStars_19 rfl (lv_at hl 0 rfl) ?_
            refine lv_bipush (v := (10 : Int32)) hx hb dX8_areStars_20 (by decide) ?_
            refine lv_irem hx hb dX8_areStars_22 (by decide) ?_
            refine lv_topi (fun v2 ev2 => ?_)
            have hf := q_lt ev2 hf
            refine lv_istore_n (lv' := [(2, .int v2), (1, .int v1)]) hx hb dX8_areStars_23 rfl hl (by decide) rfl (fun ls hl => ?_)
            refine lv_iload_n hx hb dX8_areStars_24 rfl (lv_at hl 0 rfl) ?_
            refine lv_iconst (v := (1 : Int32)) hx hb dX8_areStars_25 (by decide) ?_
            refine lv_icmp_lt (tgt := 34) hx hb dX8_areStars_26 (by decide) (fun hc => ?_) (fun hc => ?_)
            · have hf := q_t hf hc
              refine lv_iconst (v := (0 : Int32)) hx hb dX8_areStars_34 (by decide) ?_
              subst hQ
              exact q_zret hx hb hr hlocks hR hS hz (hret _ (Option.some.inj hf).symm) (by decide) rfl dX8_areStars_35
            · have hf := q_f hf hc
              refine lv_iload_n hx hb dX8_areStars_29 rfl (lv_at hl 0 rfl) ?_
              refine lv_iconst (v := (5 : Int32)) hx hb dX8_areStars_30 (by decide) ?_
              refine lv_icmp_le (tgt := 36) hx hb dX8_areStars_31 (by decide) (fun hc => ?_) (fun hc => ?_)
              · have hf := q_t hf hc
                refine lv_iload_n hx hb dX8_areStars_36 rfl (lv_at hl 1 rfl) ?_
                refine lv_bipush (v := (10 : Int32)) hx hb dX8_areStars_37 (by decide) ?_
                refine lv_idiv hx hb dX8_areStars_39 (by decide) ?_
                refine lv_topi (fun v3 ev3 => ?_)
                have hf := q_lt ev3 hf
                refine lv_istore_n (lv' := [(1, .int v3), (2, .int v2)]) hx hb dX8_areStars_40 rfl hl (by decide) rfl (fun ls hl => ?_)
                refine lv_goto (tgt := 15) hx hb dX8_areStars_41 (by decide) ?_
                exact ih0 _ out hf hret hex _ _ _ hR hS hz (lv_sub hl [0] rfl)
              · have hf := q_f hf hc
                refine lv_iconst (v := (0 : Int32)) hx hb dX8_areStars_34 (by decide) ?_
                subst hQ
                exact q_zret hx hb hr hlocks hR hS hz (hret _ (Option.some.inj hf).symm) (by decide) rfl dX8_areStars_35
      refine hL F _ o4 ho (fun z hz9 => by subst hz9; exact Option.some.inj hf) (fun  h9 => ?_) _ _ _ hR hS hz (lv_sub hl [0] rfl)
      subst h9
      intro H locs ls hR hS hz hl
      have hf := qsm0_r hf
      refine lv_iconst (v := (1 : Int32)) hx hb dX8_areStars_44 (by decide) ?_
      subst hQ
      exact q_zret hx hb hr hlocks hR hS hz (Option.some.inj hf) (by decide) rfl dX8_areStars_45
    · have hf := q_f hf hc
      refine lv_iconst (v := (0 : Int32)) hx hb dX8_areStars_11 (by decide) ?_
      subst hQ
      exact q_zret hx hb hr hlocks hR hS hz (Option.some.inj hf) (by decide) rfl dX8_areStars_12
/-! X8_count -/
def fX8_count_L4_B (F : Nat) (X : qH) (self0 : Int32 → Int32 → Option (Int32)) (v1 : Int32) (v2 : Int32) : Option (Int32) :=
if v2 ≤ (0 : Int32) then (some v1)
else (qlt (v1 + (1 : Int32)) fun v3 =>
qlt (v2 / (10 : Int32)) fun v4 =>
self0 v3 v4)
def fX8_count_L4 (F : Nat) (X : qH) : Nat → Int32 → Int32 → Option (Int32)
  | 0, _, _ => none
  | n + 1, v1, v2 => fX8_count_L4_B F X (fX8_count_L4 F X n) v1 v2
def fX8_count (F : Nat) (X : qH) (a0 : Int32) : Option (Int32) :=
(fX8_count_L4 F X F (0 : Int32) a0).bind fun v5 =>
some v5
abbrev rmX8_count : Room := { frames := 0, cells := 0, slots := 0, locals := 0 }
theorem hdX8_count : yX8_count.cls ≠ "java/lang/invoke/MethodHandle" ∧ yX8_count.cls ≠ "java/lang/invoke/VarHandle" ∧ (parseMethodDescriptor yX8_count.desc).map (fun d => d.parameters.length) = some 1 := by decide +kernel
set_option maxHeartbeats 4000000 in
set_option maxRecDepth 100000 in
theorem mX8_count (l : Launch) (D : va_G) (kz : Nat → Nat) (b0 sz F : Nat) (X : qH) (a0 : Int32) (r : Int32) (hf : fX8_count F X a0 = some r) : Met l yX8_count (qws yX8_count cX8_count 3 (some .int)) rmX8_count (va_Pc [.int a0] (qU D kz b0 sz X)) (va_Qi (fun (r' : Int32) (u : qH) => r' = r ∧ u = X) (fun u t => qO D kz b0 sz u t) (qA b0)) 0 0 (qA b0) := by
  refine q_start (by decide) (Nat.le_of_ble_eq_true rfl) ?_
  intro p e s m args below meth c hx hb hr hlocks hnm hml hown hT hR hK hz ls hl
  have hown : s.vm.findClass RX8 = some m.cls := hown
  have hl : lv_has ls 3 [(0, .int a0)] := hl
  have hS : va_S (qA b0) s.heap s.heap [] := va_S.rf
  obtain ⟨Q, hQ⟩ : ∃ Q, Q = MQ below (va_Qi (fun (r' : Int32) (u : qH) => r' = r ∧ u = X) (fun u t => qO D kz b0 sz u t) (qA b0)) args s 0 0 (qA b0) := ⟨_, rfl⟩
  rw [← hQ]
  unfold fX8_count at hf
  refine lv_iconst (v := (0 : Int32)) hx hb dX8_count_0 (by decide) ?_
  refine lv_istore_n (lv' := [(1, .int (0 : Int32)), (0, .int a0)]) hx hb dX8_count_1 rfl hl (by decide) rfl (fun ls hl => ?_)
  refine lv_iload_n hx hb dX8_count_2 rfl (lv_at hl 1 rfl) ?_
  refine lv_istore_n (lv' := [(2, .int a0), (1, .int (0 : Int32)), (0, .int a0)]) hx hb dX8_count_3 rfl hl (by decide) rfl (fun ls hl => ?_)
  obtain ⟨v5, ho, hf⟩ := q_b hf
  have hL : ∀ (n : Nat) (v1 : Int32) (v2 : Int32) (out : Int32), fX8_count_L4 F X n v1 v2 = some out → (∀ (v5 : Int32), out = v5 → ∀ (H : Heap) (locs : List Loc) (ls : Array Slot), qR D kz b0 X H → va_S (qA b0) s.heap H locs → H.size = sz → lv_has ls 3 [(1, .int v5)] → W p l e rmX8_count s m args below meth c H locs 0 0 Q (F0 m 19 ls [])) → ∀ (H : Heap) (locs : List Loc) (ls : Array Slot), qR D kz b0 X H → va_S (qA b0) s.heap H locs → H.size = sz → lv_has ls 3 [(1, .int v1), (2, .int v2)] → W p l e rmX8_count s m args below meth c H locs 0 0 Q (F0 m 4 ls []) := by
    intro n9
    induction n9 with
    | zero =>
      intro v1 v2 out hf
      exact absurd (show none = some out from hf) (by simp)
    | succ n9 ih0 =>
      intro v1 v2 out hf hex H locs ls hR hS hz hl
      have hf : fX8_count_L4_B F X (fX8_count_L4 F X n9) v1 v2 = some out := hf
      unfold fX8_count_L4_B at hf
      refine lv_iload_n hx hb dX8_count_4 rfl (lv_at hl 1 rfl) ?_
      refine lv_if_le (tgt := 19) hx hb dX8_count_5 (by decide) (fun hc => ?_) (fun hc => ?_)
      · have hf := q_t hf hc
        exact hex _ (Option.some.inj hf).symm _ _ _ hR hS hz (lv_sub hl [0] rfl)
      · have hf := q_f hf hc
        obtain ⟨v3, ev3⟩ : ∃ y : Int32, y = (v1 + (1 : Int32)) := ⟨_, rfl⟩
        have hf := q_lt ev3 hf
        refine lv_iinc (v := v3) (lv' := [(1, .int v3), (2, .int v2)]) hx hb dX8_count_8 hl (k := 0) rfl (by rw [ev3]; rfl) (by decide) rfl (fun ls hl => ?_)
        refine lv_iload_n hx hb dX8_count_11 rfl (lv_at hl 1 rfl) ?_
        refine lv_bipush (v := (10 : Int32)) hx hb dX8_count_12 (by decide) ?_
        refine lv_idiv hx hb dX8_count_14 (by decide) ?_
        refine lv_topi (fun v4 ev4 => ?_)
        have hf := q_lt ev4 hf
        refine lv_istore_n (lv' := [(2, .int v4), (1, .int v3)]) hx hb dX8_count_15 rfl hl (by decide) rfl (fun ls hl => ?_)
        refine lv_goto (tgt := 4) hx hb dX8_count_16 (by decide) ?_
        exact ih0 _ _ out hf hex _ _ _ hR hS hz (lv_sub hl [1, 0] rfl)
  refine hL F _ _ _ ho (fun z0 h9 => ?_) _ _ _ hR hS hz (lv_sub hl [1, 0] rfl)
  cases h9
  intro H locs ls hR hS hz hl
  refine lv_iload_n hx hb dX8_count_19 rfl (lv_at hl 0 rfl) ?_
  subst hQ
  exact q_iret hx hb hr hlocks hR hS hz (Option.some.inj hf) rfl dX8_count_20
/-! X8_fromTheEnd -/
def fX8_fromTheEnd_L4_B (F : Nat) (X : qH) (self0 : Int32 → Int32 → Option (Int32)) (v1 : Int32) (v2 : Int32) : Option (Int32) :=
if v2 ≤ (0 : Int32) then (some v1)
else (qlt ((v1 * (10 : Int32)) + (v2 - v2 / (10 : Int32) * (10 : Int32))) fun v3 =>
qlt (v2 / (10 : Int32)) fun v4 =>
self0 v3 v4)
def fX8_fromTheEnd_L4 (F : Nat) (X : qH) : Nat → Int32 → Int32 → Option (Int32)
  | 0, _, _ => none
  | n + 1, v1, v2 => fX8_fromTheEnd_L4_B F X (fX8_fromTheEnd_L4 F X n) v1 v2
def fX8_fromTheEnd (F : Nat) (X : qH) (a0 : Int32) : Option (Int32) :=
(fX8_fromTheEnd_L4 F X F (0 : Int32) a0).bind fun v5 =>
some v5
abbrev rmX8_fromTheEnd : Room := { frames := 0, cells := 0, slots := 0, locals := 0 }
theorem hdX8_fromTheEnd : yX8_fromTheEnd.cls ≠ "java/lang/invoke/MethodHandle" ∧ yX8_fromTheEnd.cls ≠ "java/lang/invoke/VarHandle" ∧ (parseMethodDescriptor yX8_fromTheEnd.desc).map (fun d => d.parameters.length) = some 1 := by decide +kernel
set_option maxHeartbeats 4000000 in
set_option maxRecDepth 100000 in
theorem mX8_fromTheEnd (l : Launch) (D : va_G) (kz : Nat → Nat) (b0 sz F : Nat) (X : qH) (a0 : Int32) (r : Int32) (hf : fX8_fromTheEnd F X a0 = some r) : Met l yX8_fromTheEnd (qws yX8_fromTheEnd cX8_fromTheEnd 3 (some .int)) rmX8_fromTheEnd (va_Pc [.int a0] (qU D kz b0 sz X)) (va_Qi (fun (r' : Int32) (u : qH) => r' = r ∧ u = X) (fun u t => qO D kz b0 sz u t) (qA b0)) 0 0 (qA b0) := by
  refine q_start (by decide) (Nat.le_of_ble_eq_true rfl) ?_
  intro p e s m args below meth c hx hb hr hlocks hnm hml hown hT hR hK hz ls hl
  have hown : s.vm.findClass RX8 = some m.cls := hown
  have hl : lv_has ls 3 [(0, .int a0)] := hl
  have hS : va_S (qA b0) s.heap s.heap [] := va_S.rf
  obtain ⟨Q, hQ⟩ : ∃ Q, Q = MQ below (va_Qi (fun (r' : Int32) (u : qH) => r' = r ∧ u = X) (fun u t => qO D kz b0 sz u t) (qA b0)) args s 0 0 (qA b0) := ⟨_, rfl⟩
  rw [← hQ]
  unfold fX8_fromTheEnd at hf
  refine lv_iconst (v := (0 : Int32)) hx hb dX8_fromTheEnd_0 (by decide) ?_
  refine lv_istore_n (lv' := [(1, .int (0 : Int32)), (0, .int a0)]) hx hb dX8_fromTheEnd_1 rfl hl (by decide) rfl (fun ls hl => ?_)
  refine lv_iload_n hx hb dX8_fromTheEnd_2 rfl (lv_at hl 1 rfl) ?_
  refine lv_istore_n (lv' := [(2, .int a0), (1, .int (0 : Int32)), (0, .int a0)]) hx hb dX8_fromTheEnd_3 rfl hl (by decide) rfl (fun ls hl => ?_)
  obtain ⟨v5, ho, hf⟩ := q_b hf
  have hL : ∀ (n : Nat) (v1 : Int32) (v2 : Int32) (out : Int32), fX8_fromTheEnd_L4 F X n v1 v2 = some out → (∀ (v5 : Int32), out = v5 → ∀ (H : Heap) (locs : List Loc) (ls : Array Slot), qR D kz b0 X H → va_S (qA b0) s.heap H locs → H.size = sz → lv_has ls 3 [(1, .int v5)] → W p l e rmX8_fromTheEnd s m args below meth c H locs 0 0 Q (F0 m 26 ls [])) → ∀ (H : Heap) (locs : List Loc) (ls : Array Slot), qR D kz b0 X H → va_S (qA b0) s.heap H locs → H.size = sz → lv_has ls 3 [(1, .int v1), (2, .int v2)] → W p l e rmX8_fromTheEnd s m args below meth c H locs 0 0 Q (F0 m 4 ls []) := by
    intro n9
    induction n9 with
    | zero =>
      intro v1 v2 out hf
      exact absurd (show none = some out from hf) (by simp)
    | succ n9 ih0 =>
      intro v1 v2 out hf hex H locs ls hR hS hz hl
      have hf : fX8_fromTheEnd_L4_B F X (fX8_fromTheEnd_L4 F X n9) v1 v2 = some out := hf
      unfold fX8_fromTheEnd_L4_B at hf
      refine lv_iload_n hx hb dX8_fromTheEnd_4 rfl (lv_at hl 1 rfl) ?_
      refine lv_if_le (tgt := 26) hx hb dX8_fromTheEnd_5 (by decide) (fun hc => ?_) (fun hc => ?_)
      · have hf := q_t hf hc
        exact hex _ (Option.some.inj hf).symm _ _ _ hR hS hz (lv_sub hl [0] rfl)
      · have hf := q_f hf hc
        refine lv_iload_n hx hb dX8_fromTheEnd_8 rfl (lv_at hl 0 rfl) ?_
        refine lv_bipush (v := (10 : Int32)) hx hb dX8_fromTheEnd_9 (by decide) ?_
        refine lv_imul hx hb dX8_fromTheEnd_11 ?_
        refine lv_iload_n hx hb dX8_fromTheEnd_12 rfl (lv_at hl 1 rfl) ?_
        refine lv_bipush (v := (10 : Int32)) hx hb dX8_fromTheEnd_13 (by decide) ?_
        refine lv_irem hx hb dX8_fromTheEnd_15 (by decide) ?_
        refine lv_iadd hx hb dX8_fromTheEnd_16 ?_
        refine lv_topi (fun v3 ev3 => ?_)
        have hf := q_lt ev3 hf
        refine lv_istore_n (lv' := [(1, .int v3), (2, .int v2)]) hx hb dX8_fromTheEnd_17 rfl hl (by decide) rfl (fun ls hl => ?_)
        refine lv_iload_n hx hb dX8_fromTheEnd_18 rfl (lv_at hl 1 rfl) ?_
        refine lv_bipush (v := (10 : Int32)) hx hb dX8_fromTheEnd_19 (by decide) ?_
        refine lv_idiv hx hb dX8_fromTheEnd_21 (by decide) ?_
        refine lv_topi (fun v4 ev4 => ?_)
        have hf := q_lt ev4 hf
        refine lv_istore_n (lv' := [(2, .int v4), (1, .int v3)]) hx hb dX8_fromTheEnd_22 rfl hl (by decide) rfl (fun ls hl => ?_)
        refine lv_goto (tgt := 4) hx hb dX8_fromTheEnd_23 (by decide) ?_
        exact ih0 _ _ out hf hex _ _ _ hR hS hz (lv_sub hl [1, 0] rfl)
  refine hL F _ _ _ ho (fun z0 h9 => ?_) _ _ _ hR hS hz (lv_sub hl [1, 0] rfl)
  cases h9
  intro H locs ls hR hS hz hl
  refine lv_iload_n hx hb dX8_fromTheEnd_26 rfl (lv_at hl 0 rfl) ?_
  subst hQ
  exact q_iret hx hb hr hlocks hR hS hz (Option.some.inj hf) rfl dX8_fromTheEnd_27
/-! X8_unlike -/
def fX8_unlike_L16_B (F : Nat) (X : qH) (self0 : Int32 → Int32 → Int32 → Int32 → Option (Int32)) (v3 : Int32) (v4 : Int32) (v5 : Int32) (v6 : Int32) : Option (Int32) :=
if (5 : Int32) ≤ v6 then (some v5)
else ((if (v3 - v3 / (10 : Int32) * (10 : Int32)) = (v4 - v4 / (10 : Int32) * (10 : Int32)) then (some v5)
else (qlt (v5 + (1 : Int32)) fun v11 =>
some v11) : Option Int32).bind fun v7 =>
qlt (v3 / (10 : Int32)) fun v8 =>
qlt (v4 / (10 : Int32)) fun v9 =>
qlt (v6 + (1 : Int32)) fun v10 =>
self0 v8 v9 v7 v10)
def fX8_unlike_L16 (F : Nat) (X : qH) : Nat → Int32 → Int32 → Int32 → Int32 → Option (Int32)
  | 0, _, _, _, _ => none
  | n + 1, v3, v4, v5, v6 => fX8_unlike_L16_B F X (fX8_unlike_L16 F X n) v3 v4 v5 v6
def fX8_unlike (F : Nat) (X : qH) (a0 : Int32) (a1 : Int32) : Option (Int32) :=
(fX8_fromTheEnd F X a0).bind fun v1 =>
(fX8_fromTheEnd F X a1).bind fun v2 =>
(fX8_unlike_L16 F X F v1 v2 (0 : Int32) (0 : Int32)).bind fun v12 =>
some v12
abbrev rmX8_unlike : Room := { frames := 1, cells := 0, slots := 0, locals := 22 }
theorem hdX8_unlike : yX8_unlike.cls ≠ "java/lang/invoke/MethodHandle" ∧ yX8_unlike.cls ≠ "java/lang/invoke/VarHandle" ∧ (parseMethodDescriptor yX8_unlike.desc).map (fun d => d.parameters.length) = some 2 := by decide +kernel
set_option maxHeartbeats 4000000 in
set_option maxRecDepth 100000 in
theorem mX8_unlike (l : Launch) (D : va_G) (kz : Nat → Nat) (b0 sz F : Nat) (X : qH) (a0 : Int32) (a1 : Int32) (r : Int32) (hf : fX8_unlike F X a0 a1 = some r) : Met l yX8_unlike (qws yX8_unlike cX8_unlike 6 (some .int)) rmX8_unlike (va_Pc [.int a0, .int a1] (qU D kz b0 sz X)) (va_Qi (fun (r' : Int32) (u : qH) => r' = r ∧ u = X) (fun u t => qO D kz b0 sz u t) (qA b0)) 0 0 (qA b0) := by
  refine q_start (by decide) (Nat.le_of_ble_eq_true rfl) ?_
  intro p e s m args below meth c hx hb hr hlocks hnm hml hown hT hR hK hz ls hl
  have hown : s.vm.findClass RX8 = some m.cls := hown
  have hl : lv_has ls 6 [(0, .int a0), (1, .int a1)] := hl
  have hS : va_S (qA b0) s.heap s.heap [] := va_S.rf
  obtain ⟨Q, hQ⟩ : ∃ Q, Q = MQ below (va_Qi (fun (r' : Int32) (u : qH) => r' = r ∧ u = X) (fun u t => qO D kz b0 sz u t) (qA b0)) args s 0 0 (qA b0) := ⟨_, rfl⟩
  rw [← hQ]
  unfold fX8_unlike at hf
  refine lv_iload_n hx hb dX8_unlike_0 rfl (lv_at hl 0 rfl) ?_
  obtain ⟨v1, hc, hf⟩ := q_b hf
  refine q_calli (va_runS (As := [.int a0]) (rest := []) ⟨hx, hb, hml, hown, hT⟩ (mX8_fromTheEnd l D kz b0 sz F X a0 v1 hc) (va_cwS 1 hT (q_gS wco_X8_fromTheEnd wml_X8_10 wst_X8_fromTheEnd win_X8) rfl rfl rfl hdX8_fromTheEnd ⟨Nat.le_of_ble_eq_true rfl, Nat.le_of_ble_eq_true rfl⟩) (q_preS hR hK hz) rfl rfl hl.1 rfl (lv_room (Nat.le_of_ble_eq_true rfl)) dX8_unlike_1 ⟨Nat.le_of_ble_eq_true rfl, Nat.le_of_ble_eq_true rfl⟩) hS (fun H locs hR hS hz => ?_)
  refine lv_istore_n (lv' := [(2, .int v1), (0, .int a0), (1, .int a1)]) hx hb dX8_unlike_4 rfl hl (by decide) rfl (fun ls hl => ?_)
  refine lv_iload_n hx hb dX8_unlike_5 rfl (lv_at hl 2 rfl) ?_
  obtain ⟨v2, hc, hf⟩ := q_b hf
  refine q_calli (va_runS (As := [.int a1]) (rest := []) ⟨hx, hb, hml, hown, hT⟩ (mX8_fromTheEnd l D kz b0 sz F X a1 v2 hc) (va_cwS 1 hT (q_gS wco_X8_fromTheEnd wml_X8_10 wst_X8_fromTheEnd win_X8) rfl rfl rfl hdX8_fromTheEnd ⟨Nat.le_of_ble_eq_true rfl, Nat.le_of_ble_eq_true rfl⟩) (q_preS hR hK hz) rfl rfl hl.1 rfl (lv_room (Nat.le_of_ble_eq_true rfl)) dX8_unlike_6 ⟨Nat.le_of_ble_eq_true rfl, Nat.le_of_ble_eq_true rfl⟩) hS (fun H locs hR hS hz => ?_)
  refine lv_istore_n (lv' := [(3, .int v2), (2, .int v1), (0, .int a0), (1, .int a1)]) hx hb dX8_unlike_9 rfl hl (by decide) rfl (fun ls hl => ?_)
  refine lv_iconst (v := (0 : Int32)) hx hb dX8_unlike_10 (by decide) ?_
  refine lv_istore (lv' := [(4, .int (0 : Int32)), (3, .int v2), (2, .int v1), (0, .int a0), (1, .int a1)]) hx hb dX8_unlike_11 hl (by decide) rfl (fun ls hl => ?_)
  refine lv_iconst (v := (0 : Int32)) hx hb dX8_unlike_13 (by decide) ?_
  refine lv_istore (lv' := [(5, .int (0 : Int32)), (4, .int (0 : Int32)), (3, .int v2), (2, .int v1), (0, .int a0), (1, .int a1)]) hx hb dX8_unlike_14 hl (by decide) rfl (fun ls hl => ?_)
  obtain ⟨v12, ho, hf⟩ := q_b hf
  have hL : ∀ (n : Nat) (v3 : Int32) (v4 : Int32) (v5 : Int32) (v6 : Int32) (out : Int32), fX8_unlike_L16 F X n v3 v4 v5 v6 = some out → (∀ (v12 : Int32), out = v12 → ∀ (H : Heap) (locs : List Loc) (ls : Array Slot), qR D kz b0 X H → va_S (qA b0) s.heap H locs → H.size = sz → lv_has ls 6 [(4, .int v12)] → W p l e rmX8_unlike s m args below meth c H locs 0 0 Q (F0 m 52 ls [])) → ∀ (H : Heap) (locs : List Loc) (ls : Array Slot), qR D kz b0 X H → va_S (qA b0) s.heap H locs → H.size = sz → lv_has ls 6 [(2, .int v3), (3, .int v4), (4, .int v5), (5, .int v6)] → W p l e rmX8_unlike s m args below meth c H locs 0 0 Q (F0 m 16 ls []) := by
    intro n9
    induction n9 with
    | zero =>
      intro v3 v4 v5 v6 out hf
      exact absurd (show none = some out from hf) (by simp)
    | succ n9 ih0 =>
      intro v3 v4 v5 v6 out hf hex H locs ls hR hS hz hl
      have hf : fX8_unlike_L16_B F X (fX8_unlike_L16 F X n9) v3 v4 v5 v6 = some out := hf
      unfold fX8_unlike_L16_B at hf
      refine lv_iload hx hb dX8_unlike_16 (lv_at hl 3 rfl) ?_
      refine lv_iconst (v := (5 : Int32)) hx hb dX8_unlike_18 (by decide) ?_
      refine lv_icmp_ge (tgt := 52) hx hb dX8_unlike_19 (by decide) (fun hc => ?_) (fun hc => ?_)
      · have hf := q_t hf hc
        exact hex _ (Option.some.inj hf).symm _ _ _ hR hS hz (lv_sub hl [2] rfl)
      · have hf := q_f hf hc
        refine lv_iload_n hx hb dX8_unlike_22 rfl (lv_at hl 0 rfl) ?_
        refine lv_bipush (v := (10 : Int32)) hx hb dX8_unlike_23 (by decide) ?_
        refine lv_irem hx hb dX8_unlike_25 (by decide) ?_
        refine lv_iload_n hx hb dX8_unlike_26 rfl (lv_at hl 1 rfl) ?_
        refine lv_bipush (v := (10 : Int32)) hx hb dX8_unlike_27 (by decide) ?_
        refine lv_irem hx hb dX8_unlike_29 (by decide) ?_
        obtain ⟨v7, hp, hf⟩ := q_b hf
        have hJ : ∀ (H : Heap) (locs : List Loc) (ls : Array Slot), qR D kz b0 X H → va_S (qA b0) s.heap H locs → H.size = sz → lv_has ls 6 [(2, .int v3), (3, .int v4), (4, .int v7), (5, .int v6)] → W p l e rmX8_unlike s m args below meth c H locs 0 0 Q (F0 m 36 ls []) := by
          intro H locs ls hR hS hz hl
          refine lv_iload_n hx hb dX8_unlike_36 rfl (lv_at hl 0 rfl) ?_
          refine lv_bipush (v := (10 : Int32)) hx hb dX8_unlike_37 (by decide) ?_
          refine lv_idiv hx hb dX8_unlike_39 (by decide) ?_
          refine lv_topi (fun v8 ev8 => ?_)
          have hf := q_lt ev8 hf
          refine lv_istore_n (lv' := [(2, .int v8), (3, .int v4), (4, .int v7), (5, .int v6)]) hx hb dX8_unlike_40 rfl hl (by decide) rfl (fun ls hl => ?_)
          refine lv_iload_n hx hb dX8_unlike_41 rfl (lv_at hl 1 rfl) ?_
          refine lv_bipush (v := (10 : Int32)) hx hb dX8_unlike_42 (by decide) ?_
          refine lv_idiv hx hb dX8_unlike_44 (by decide) ?_
          refine lv_topi (fun v9 ev9 => ?_)
          have hf := q_lt ev9 hf
          refine lv_istore_n (lv' := [(3, .int v9), (2, .int v8), (4, .int v7), (5, .int v6)]) hx hb dX8_unlike_45 rfl hl (by decide) rfl (fun ls hl => ?_)
          obtain ⟨v10, ev10⟩ : ∃ y : Int32, y = (v6 + (1 : Int32)) := ⟨_, rfl⟩
          have hf := q_lt ev10 hf
          refine lv_iinc (v := v10) (lv' := [(5, .int v10), (3, .int v9), (2, .int v8), (4, .int v7)]) hx hb dX8_unlike_46 hl (k := 3) rfl (by rw [ev10]; rfl) (by decide) rfl (fun ls hl => ?_)
          refine lv_goto (tgt := 16) hx hb dX8_unlike_49 (by decide) ?_
          exact ih0 _ _ _ _ out hf hex _ _ _ hR hS hz (lv_sub hl [2, 1, 3, 0] rfl)
        have hf := hp
        refine lv_icmp_eq (tgt := 36) hx hb dX8_unlike_30 (by decide) (fun hc => ?_) (fun hc => ?_)
        · have hf := q_t hf hc
          cases hf
          exact hJ _ _ _ hR hS hz (lv_sub hl [0, 1, 2, 3] rfl)
        · have hf := q_f hf hc
          obtain ⟨v11, ev11⟩ : ∃ y : Int32, y = (v5 + (1 : Int32)) := ⟨_, rfl⟩
          have hf := q_lt ev11 hf
          refine lv_iinc (v := v11) (lv' := [(4, .int v11), (2, .int v3), (3, .int v4), (5, .int v6)]) hx hb dX8_unlike_33 hl (k := 2) rfl (by rw [ev11]; rfl) (by decide) rfl (fun ls hl => ?_)
          cases hf
          exact hJ _ _ _ hR hS hz (lv_sub hl [1, 2, 0, 3] rfl)
  refine hL F _ _ _ _ _ ho (fun z0 h9 => ?_) _ _ _ hR hS hz (lv_sub hl [3, 2, 1, 0] rfl)
  cases h9
  intro H locs ls hR hS hz hl
  refine lv_iload hx hb dX8_unlike_52 (lv_at hl 0 rfl) ?_
  subst hQ
  exact q_iret hx hb hr hlocks hR hS hz (Option.some.inj hf) rfl dX8_unlike_54
/-! X9_feed -/
def fX9_feed (F : Nat) (X : qH) (a0 : Nat) (a1 : Int32) : Option (Int32 × qH) :=
qIs 8 X a0 <|
if a1 < (0 : Int32) then (some ((-1000000002 : Int32), X))
else (if a1 ≤ (255 : Int32) then ((qgI X 8 a0 1).bind fun v1 =>
if v1 < (230 : Int32) then ((qgR X 8 a0 0).bind fun v2 =>
(qgI X 8 a0 1).bind fun v3 =>
(qaS X 0 v2 v3 a1).bind fun X4 =>
(qgI X4 8 a0 1).bind fun v5 =>
qlt (v5 + (1 : Int32)) fun v6 =>
(qpI X4 8 a0 1 v6).bind fun X7 =>
(qgI X7 8 a0 1).bind fun v8 =>
some (v8, X7))
else (some ((-1000000004 : Int32), X)))
else (some ((-1000000002 : Int32), X)))
abbrev rmX9_feed : Room := { frames := 0, cells := 0, slots := 0, locals := 0 }
theorem fX9_feed_is {F : Nat} {X : qH} {a0 : Nat} {a1 : Int32} {r9 : Int32 × qH} (h : fX9_feed F X a0 a1 = some r9) : ∃ fs, X a0 = some (.inr (8, fs)) := (qIs_spec h).1
theorem hdX9_feed : yX9_feed.cls = RX9 ∧ yX9_feed.cls ≠ "java/lang/invoke/MethodHandle" ∧ yX9_feed.cls ≠ "java/lang/invoke/VarHandle" ∧ (parseMethodDescriptor yX9_feed.desc).map (fun d => d.parameters.length) = some 1 := by decide +kernel
set_option maxHeartbeats 4000000 in
set_option maxRecDepth 100000 in
theorem mX9_feed (l : Launch) (D : va_G) (kz : Nat → Nat) (b0 sz F : Nat) (X : qH) (a0 : Nat) (a1 : Int32) (r : Int32) (Xr : qH) (hf : fX9_feed F X a0 a1 = some (r, Xr)) : Met l yX9_feed (qws yX9_feed cX9_feed 2 (some .int)) rmX9_feed (va_Pc [.ref a0, .int a1] (qU D kz b0 sz X)) (va_Qi (fun (r' : Int32) (u : qH) => r' = r ∧ u = Xr) (fun u t => qO D kz b0 sz u t) (qA b0)) 0 0 (qA b0) := by
  refine q_start (by decide) (Nat.le_of_ble_eq_true rfl) ?_
  intro p e s m args below meth c hx hb hr hlocks hnm hml hown hT hR hK hz ls hl
  have hown : s.vm.findClass RX9 = some m.cls := hown
  have hl : lv_has ls 2 [(0, .ref a0), (1, .int a1)] := hl
  have hS : va_S (qA b0) s.heap s.heap [] := va_S.rf
  obtain ⟨Q, hQ⟩ : ∃ Q, Q = MQ below (va_Qi (fun (r' : Int32) (u : qH) => r' = r ∧ u = Xr) (fun u t => qO D kz b0 sz u t) (qA b0)) args s 0 0 (qA b0) := ⟨_, rfl⟩
  rw [← hQ]
  unfold fX9_feed at hf
  obtain ⟨hthis, hf⟩ := qIs_spec hf
  refine lv_iload_n hx hb dX9_feed_0 rfl (lv_at hl 1 rfl) ?_
  refine lv_if_lt (tgt := 11) hx hb dX9_feed_1 (by decide) (fun hc => ?_) (fun hc => ?_)
  · have hf := q_t hf hc
    refine lv_ldc (v := (-1000000002 : Int32)) hx hb hown (hT _ wk_X9_97) dX9_feed_11 ?_
    subst hQ
    obtain ⟨h8, h9⟩ := Prod.mk.inj (Option.some.inj hf)
    exact q_iret hx hb hr hlocks hR hS hz h8 h9 dX9_feed_13
  · have hf := q_f hf hc
    refine lv_iload_n hx hb dX9_feed_4 rfl (lv_at hl 1 rfl) ?_
    refine lv_sipush (v := (255 : Int32)) hx hb dX9_feed_5 (by decide) ?_
    refine lv_icmp_le (tgt := 14) hx hb dX9_feed_8 (by decide) (fun hc => ?_) (fun hc => ?_)
    · have hf := q_t hf hc
      refine lv_aload_n hx hb dX9_feed_14 rfl (lv_at hl 0 rfl) ?_
      refine q_gI hx hb hT hown hK hR iqX9 vqX9 1 (by decide) (hT _ wfl_X9_13) hf dX9_feed_15 (fun v1 hf => ?_)
      refine lv_sipush (v := (230 : Int32)) hx hb dX9_feed_18 (by decide) ?_
      refine lv_icmp_lt (tgt := 27) hx hb dX9_feed_21 (by decide) (fun hc => ?_) (fun hc => ?_)
      · have hf := q_t hf hc
        refine lv_aload_n hx hb dX9_feed_27 rfl (lv_at hl 0 rfl) ?_
        refine q_gR hx hb hT hown hK hR iqX9 vqX9 0 (by decide) (hT _ wfl_X9_9) hf dX9_feed_28 (fun v2 hf => ?_)
        refine lv_aload_n hx hb dX9_feed_31 rfl (lv_at hl 0 rfl) ?_
        refine q_gI hx hb hT hown hK hR iqX9 vqX9 1 (by decide) (hT _ wfl_X9_13) hf dX9_feed_32 (fun v3 hf => ?_)
        refine lv_iload_n hx hb dX9_feed_35 rfl (lv_at hl 1 rfl) ?_
        refine q_iast hx hb hK hR hS hz hf dX9_feed_36 (fun X4 hf H locs hR hS hz => ?_)
        refine lv_aload_n hx hb dX9_feed_37 rfl (lv_at hl 0 rfl) ?_
        refine lv_dup hx hb dX9_feed_38 rfl ?_
        refine q_gI hx hb hT hown hK hR iqX9 vqX9 1 (by decide) (hT _ wfl_X9_13) hf dX9_feed_39 (fun v5 hf => ?_)
        refine lv_iconst (v := (1 : Int32)) hx hb dX9_feed_42 (by decide) ?_
        refine lv_iadd hx hb dX9_feed_43 ?_
        refine lv_topi (fun v6 ev6 => ?_)
        have hf := q_lt ev6 hf
        refine q_pI hx hb hT hown hK hR hS hz iqX9 vqX9 tyX9_ok nmX9 1 (by decide) (hT _ wfl_X9_13) rfl rfl hf dX9_feed_44 (fun X7 hf H locs hR hS hz => ?_)
        refine lv_aload_n hx hb dX9_feed_47 rfl (lv_at hl 0 rfl) ?_
        refine q_gI hx hb hT hown hK hR iqX9 vqX9 1 (by decide) (hT _ wfl_X9_13) hf dX9_feed_48 (fun v8 hf => ?_)
        subst hQ
        obtain ⟨h8, h9⟩ := Prod.mk.inj (Option.some.inj hf)
        exact q_iret hx hb hr hlocks hR hS hz h8 h9 dX9_feed_51
      · have hf := q_f hf hc
        refine lv_ldc (v := (-1000000004 : Int32)) hx hb hown (hT _ wk_X9_98) dX9_feed_24 ?_
        subst hQ
        obtain ⟨h8, h9⟩ := Prod.mk.inj (Option.some.inj hf)
        exact q_iret hx hb hr hlocks hR hS hz h8 h9 dX9_feed_26
    · have hf := q_f hf hc
      refine lv_ldc (v := (-1000000002 : Int32)) hx hb hown (hT _ wk_X9_97) dX9_feed_11 ?_
      subst hQ
      obtain ⟨h8, h9⟩ := Prod.mk.inj (Option.some.inj hf)
      exact q_iret hx hb hr hlocks hR hS hz h8 h9 dX9_feed_13
/-! X9_bay -/
def fX9_bay_L88_B (F : Nat) (a0 : Nat) (self0 : Int32 → qH → Option (qH)) (v18 : Int32) (X19 : qH) : Option (qH) :=
if (2 : Int32) ≤ v18 then (some X19)
else ((qgR X19 8 a0 10).bind fun v20 =>
(qaZ X19 v20 v18 (0 : Int32)).bind fun X21 =>
qlt (v18 + (1 : Int32)) fun v22 =>
self0 v22 X21)
def fX9_bay_L88 (F : Nat) (a0 : Nat) : Nat → Int32 → qH → Option (qH)
  | 0, _, _ => none
  | n + 1, v18, X19 => fX9_bay_L88_B F a0 (fX9_bay_L88 F a0 n) v18 X19
def fX9_bay (F : Nat) (X : qH) (a0 : Nat) : Option (Int32 × qH) :=
qIs 8 X a0 <|
(qgR X 8 a0 6).bind fun v1 =>
(qgR X 8 a0 0).bind fun v2 =>
(qgI X 8 a0 1).bind fun v3 =>
(qgR X 8 a0 4).bind fun v4 =>
qb2 (fX6_read F X v1 v2 v3 v4) fun v5 X6 =>
(qpI X6 8 a0 1 (0 : Int32)).bind fun X7 =>
if v5 = (0 : Int32) then ((qpI X7 8 a0 2 (-1 : Int32)).bind fun X8 =>
(qgR X8 8 a0 3).bind fun v9 =>
(qgR X8 8 a0 4).bind fun v10 =>
(qpR X8 8 a0 3 v10).bind fun X11 =>
(qpR X11 8 a0 4 v9).bind fun X12 =>
(qgR X12 8 a0 7).bind fun v13 =>
(qgR X12 8 a0 3).bind fun v14 =>
(fX3_begin F X12 v13 v14).bind fun X15 =>
(qgR X15 8 a0 8).bind fun v16 =>
(fX5_clear F X15 v16).bind fun X17 =>
(fX9_bay_L88 F a0 F (0 : Int32) X17).bind fun X23 =>
(qgR X23 8 a0 14).bind fun v24 =>
(qpI X23 2 v24 0 (0 : Int32)).bind fun X25 =>
(qgR X25 8 a0 15).bind fun v26 =>
(qpI X25 1 v26 0 (0 : Int32)).bind fun X27 =>
(qgR X27 8 a0 3).bind fun v28 =>
(qgI X27 0 v28 5).bind fun v29 =>
some (v29, X27))
else ((qgR X7 8 a0 6).bind fun v30 =>
(qgI X7 6 v30 5).bind fun v31 =>
(qpI X7 8 a0 2 v31).bind fun X32 =>
some (((-10 : Int32) - v5), X32))
abbrev rmX9_bay : Room := { frames := 5, cells := 0, slots := 0, locals := 117 }
theorem fX9_bay_is {F : Nat} {X : qH} {a0 : Nat} {r9 : Int32 × qH} (h : fX9_bay F X a0 = some r9) : ∃ fs, X a0 = some (.inr (8, fs)) := (qIs_spec h).1
theorem hdX9_bay : yX9_bay.cls = RX9 ∧ yX9_bay.cls ≠ "java/lang/invoke/MethodHandle" ∧ yX9_bay.cls ≠ "java/lang/invoke/VarHandle" ∧ (parseMethodDescriptor yX9_bay.desc).map (fun d => d.parameters.length) = some 0 := by decide +kernel
set_option maxHeartbeats 4000000 in
set_option maxRecDepth 100000 in
theorem mX9_bay (l : Launch) (D : va_G) (kz : Nat → Nat) (b0 sz F : Nat) (X : qH) (a0 : Nat) (r : Int32) (Xr : qH) (hf : fX9_bay F X a0 = some (r, Xr)) : Met l yX9_bay (qws yX9_bay cX9_bay 4 (some .int)) rmX9_bay (va_Pc [.ref a0] (qU D kz b0 sz X)) (va_Qi (fun (r' : Int32) (u : qH) => r' = r ∧ u = Xr) (fun u t => qO D kz b0 sz u t) (qA b0)) 0 0 (qA b0) := by
  refine q_start (by decide) (Nat.le_of_ble_eq_true rfl) ?_
  intro p e s m args below meth c hx hb hr hlocks hnm hml hown hT hR hK hz ls hl
  have hown : s.vm.findClass RX9 = some m.cls := hown
  have hl : lv_has ls 4 [(0, .ref a0)] := hl
  have hS : va_S (qA b0) s.heap s.heap [] := va_S.rf
  obtain ⟨Q, hQ⟩ : ∃ Q, Q = MQ below (va_Qi (fun (r' : Int32) (u : qH) => r' = r ∧ u = Xr) (fun u t => qO D kz b0 sz u t) (qA b0)) args s 0 0 (qA b0) := ⟨_, rfl⟩
  rw [← hQ]
  unfold fX9_bay at hf
  obtain ⟨hthis, hf⟩ := qIs_spec hf
  refine lv_aload_n hx hb dX9_bay_0 rfl (lv_at hl 0 rfl) ?_
  refine q_gR hx hb hT hown hK hR iqX9 vqX9 6 (by decide) (hT _ wfl_X9_36) hf dX9_bay_1 (fun v1 hf => ?_)
  refine lv_aload_n hx hb dX9_bay_4 rfl (lv_at hl 0 rfl) ?_
  refine q_gR hx hb hT hown hK hR iqX9 vqX9 0 (by decide) (hT _ wfl_X9_9) hf dX9_bay_5 (fun v2 hf => ?_)
  refine lv_aload_n hx hb dX9_bay_8 rfl (lv_at hl 0 rfl) ?_
  refine q_gI hx hb hT hown hK hR iqX9 vqX9 1 (by decide) (hT _ wfl_X9_13) hf dX9_bay_9 (fun v3 hf => ?_)
  refine lv_aload_n hx hb dX9_bay_12 rfl (lv_at hl 0 rfl) ?_
  refine q_gR hx hb hT hown hK hR iqX9 vqX9 4 (by decide) (hT _ wfl_X9_27) hf dX9_bay_13 (fun v4 hf => ?_)
  obtain ⟨v5, X6, hc, hf⟩ := q_b2 hf
  refine q_calli (va_runV (As := [.ref v2, .int v3, .ref v4]) (rest := []) ⟨hx, hb, hml, hown, hT⟩ (mX6_read l D kz b0 sz F X v1 v2 v3 v4 v5 X6 hc) (cwV 3 hT (q_gV wco_X6_read wml_X9_99 wim_X6_read wse_X6_read win_X6) rfl rfl rfl hdX6_read ⟨Nat.le_of_ble_eq_true rfl, Nat.le_of_ble_eq_true rfl⟩) (q_preV vqX6 (fX6_read_is hc) hR hK hz) rfl rfl hl.1 rfl (lv_room (Nat.le_of_ble_eq_true rfl)) dX9_bay_16 ⟨Nat.le_of_ble_eq_true rfl, Nat.le_of_ble_eq_true rfl⟩) hS (fun H locs hR hS hz => ?_)
  refine lv_istore_n (lv' := [(1, .int v5), (0, .ref a0)]) hx hb dX9_bay_19 rfl hl (by decide) rfl (fun ls hl => ?_)
  refine lv_aload_n hx hb dX9_bay_20 rfl (lv_at hl 1 rfl) ?_
  refine lv_iconst (v := (0 : Int32)) hx hb dX9_bay_21 (by decide) ?_
  refine q_pI hx hb hT hown hK hR hS hz iqX9 vqX9 tyX9_ok nmX9 1 (by decide) (hT _ wfl_X9_13) rfl rfl hf dX9_bay_22 (fun X7 hf H locs hR hS hz => ?_)
  refine lv_iload_n hx hb dX9_bay_25 rfl (lv_at hl 0 rfl) ?_
  refine lv_if_eq (tgt := 45) hx hb dX9_bay_26 (by decide) (fun hc => ?_) (fun hc => ?_)
  · have hf := q_t hf hc
    refine lv_aload_n hx hb dX9_bay_45 rfl (lv_at hl 1 rfl) ?_
    refine lv_iconst (v := (-1 : Int32)) hx hb dX9_bay_46 (by decide) ?_
    refine q_pI hx hb hT hown hK hR hS hz iqX9 vqX9 tyX9_ok nmX9 2 (by decide) (hT _ wfl_X9_17) rfl rfl hf dX9_bay_47 (fun X8 hf H locs hR hS hz => ?_)
    refine lv_aload_n hx hb dX9_bay_50 rfl (lv_at hl 1 rfl) ?_
    refine q_gR hx hb hT hown hK hR iqX9 vqX9 3 (by decide) (hT _ wfl_X9_23) hf dX9_bay_51 (fun v9 hf => ?_)
    refine lv_astore_n (lv' := [(2, .ref v9), (1, .int v5), (0, .ref a0)]) hx hb dX9_bay_54 rfl hl (by decide) rfl (fun ls hl => ?_)
    refine lv_aload_n hx hb dX9_bay_55 rfl (lv_at hl 2 rfl) ?_
    refine lv_aload_n hx hb dX9_bay_56 rfl (lv_at hl 2 rfl) ?_
    refine q_gR hx hb hT hown hK hR iqX9 vqX9 4 (by decide) (hT _ wfl_X9_27) hf dX9_bay_57 (fun v10 hf => ?_)
    refine q_pR hx hb hT hown hK hR hS hz iqX9 vqX9 tyX9_ok nmX9 3 (by decide) (hT _ wfl_X9_23) rfl rfl rfl hf dX9_bay_60 (fun X11 hf H locs hR hS hz => ?_)
    refine lv_aload_n hx hb dX9_bay_63 rfl (lv_at hl 2 rfl) ?_
    refine lv_aload_n hx hb dX9_bay_64 rfl (lv_at hl 0 rfl) ?_
    refine q_pR hx hb hT hown hK hR hS hz iqX9 vqX9 tyX9_ok nmX9 4 (by decide) (hT _ wfl_X9_27) rfl rfl rfl hf dX9_bay_65 (fun X12 hf H locs hR hS hz => ?_)
    refine lv_aload_n hx hb dX9_bay_68 rfl (lv_at hl 2 rfl) ?_
    refine q_gR hx hb hT hown hK hR iqX9 vqX9 7 (by decide) (hT _ wfl_X9_43) hf dX9_bay_69 (fun v13 hf => ?_)
    refine lv_aload_n hx hb dX9_bay_72 rfl (lv_at hl 2 rfl) ?_
    refine q_gR hx hb hT hown hK hR iqX9 vqX9 3 (by decide) (hT _ wfl_X9_23) hf dX9_bay_73 (fun v14 hf => ?_)
    obtain ⟨X15, hc, hf⟩ := q_b hf
    refine q_callv (va_runV (As := [.ref v14]) (rest := []) ⟨hx, hb, hml, hown, hT⟩ (mX3_begin l D kz b0 sz F X12 v13 v14 X15 hc) (cwV 1 hT (q_gV wco_X3_begin wml_X9_47 wim_X3_begin wse_X3_begin win_X3) rfl rfl rfl hdX3_begin ⟨Nat.le_of_ble_eq_true rfl, Nat.le_of_ble_eq_true rfl⟩) (q_preV vqX3 (fX3_begin_is hc) hR hK hz) rfl rfl hl.1 rfl (lv_room (Nat.le_of_ble_eq_true rfl)) dX9_bay_76 ⟨Nat.le_of_ble_eq_true rfl, Nat.le_of_ble_eq_true rfl⟩) hS (fun H locs hR hS hz => ?_)
    refine lv_aload_n hx hb dX9_bay_79 rfl (lv_at hl 2 rfl) ?_
    refine q_gR hx hb hT hown hK hR iqX9 vqX9 8 (by decide) (hT _ wfl_X9_54) hf dX9_bay_80 (fun v16 hf => ?_)
    obtain ⟨X17, hc, hf⟩ := q_b hf
    refine q_callv (va_runV (As := []) (rest := []) ⟨hx, hb, hml, hown, hT⟩ (mX5_clear l D kz b0 sz F X15 v16 X17 hc) (cwV 0 hT (q_gV wco_X5_clear wml_X9_104 wim_X5_clear wse_X5_clear win_X5) rfl rfl rfl hdX5_clear ⟨Nat.le_of_ble_eq_true rfl, Nat.le_of_ble_eq_true rfl⟩) (q_preV vqX5 (fX5_clear_is hc) hR hK hz) rfl rfl hl.1 rfl (lv_room (Nat.le_of_ble_eq_true rfl)) dX9_bay_83 ⟨Nat.le_of_ble_eq_true rfl, Nat.le_of_ble_eq_true rfl⟩) hS (fun H locs hR hS hz => ?_)
    refine lv_iconst (v := (0 : Int32)) hx hb dX9_bay_86 (by decide) ?_
    refine lv_istore_n (lv' := [(3, .int (0 : Int32)), (2, .ref v9), (1, .int v5), (0, .ref a0)]) hx hb dX9_bay_87 rfl hl (by decide) rfl (fun ls hl => ?_)
    obtain ⟨X23, ho, hf⟩ := q_b hf
    have hL : ∀ (n : Nat) (v18 : Int32) (X19 : qH) (out : qH), fX9_bay_L88 F a0 n v18 X19 = some out → (∀ (X23 : qH), out = X23 → ∀ (H : Heap) (locs : List Loc) (ls : Array Slot), qR D kz b0 X23 H → va_S (qA b0) s.heap H locs → H.size = sz → lv_has ls 4 [(0, .ref a0)] → W p l e rmX9_bay s m args below meth c H locs 0 0 Q (F0 m 106 ls [])) → ∀ (H : Heap) (locs : List Loc) (ls : Array Slot), qR D kz b0 X19 H → va_S (qA b0) s.heap H locs → H.size = sz → lv_has ls 4 [(0, .ref a0), (3, .int v18)] → W p l e rmX9_bay s m args below meth c H locs 0 0 Q (F0 m 88 ls []) := by
      intro n9
      induction n9 with
      | zero =>
        intro v18 X19 out hf
        exact absurd (show none = some out from hf) (by simp)
      | succ n9 ih0 =>
        intro v18 X19 out hf hex H locs ls hR hS hz hl
        have hf : fX9_bay_L88_B F a0 (fX9_bay_L88 F a0 n9) v18 X19 = some out := hf
        unfold fX9_bay_L88_B at hf
        refine lv_iload_n hx hb dX9_bay_88 rfl (lv_at hl 1 rfl) ?_
        refine lv_iconst (v := (2 : Int32)) hx hb dX9_bay_89 (by decide) ?_
        refine lv_icmp_ge (tgt := 106) hx hb dX9_bay_90 (by decide) (fun hc => ?_) (fun hc => ?_)
        · have hf := q_t hf hc
          exact hex _ (Option.some.inj hf).symm _ _ _ hR hS hz (lv_sub hl [0] rfl)
        · have hf := q_f hf hc
          refine lv_aload_n hx hb dX9_bay_93 rfl (lv_at hl 0 rfl) ?_
          refine q_gR hx hb hT hown hK hR iqX9 vqX9 10 (by decide) (hT _ wfl_X9_62) hf dX9_bay_94 (fun v20 hf => ?_)
          refine lv_iload_n hx hb dX9_bay_97 rfl (lv_at hl 1 rfl) ?_
          refine lv_iconst (v := (0 : Int32)) hx hb dX9_bay_98 (by decide) ?_
          refine q_zast hx hb hK hR hS hz hf dX9_bay_99 (fun X21 hf H locs hR hS hz => ?_)
          obtain ⟨v22, ev22⟩ : ∃ y : Int32, y = (v18 + (1 : Int32)) := ⟨_, rfl⟩
          have hf := q_lt ev22 hf
          refine lv_iinc (v := v22) (lv' := [(3, .int v22), (0, .ref a0)]) hx hb dX9_bay_100 hl (k := 1) rfl (by rw [ev22]; rfl) (by decide) rfl (fun ls hl => ?_)
          refine lv_goto (tgt := 88) hx hb dX9_bay_103 (by decide) ?_
          exact ih0 _ _ out hf hex _ _ _ hR hS hz (lv_sub hl [1, 0] rfl)
    refine hL F _ _ _ ho (fun z0 h9 => ?_) _ _ _ hR hS hz (lv_sub hl [3, 0] rfl)
    cases h9
    intro H locs ls hR hS hz hl
    refine lv_aload_n hx hb dX9_bay_106 rfl (lv_at hl 0 rfl) ?_
    refine q_gR hx hb hT hown hK hR iqX9 vqX9 14 (by decide) (hT _ wfl_X9_86) hf dX9_bay_107 (fun v24 hf => ?_)
    refine lv_iconst (v := (0 : Int32)) hx hb dX9_bay_110 (by decide) ?_
    refine q_pI hx hb hT hown hK hR hS hz iqX2 vqX2 tyX2_ok nmX2 0 (by decide) (hT _ wfl_X9_107) rfl rfl hf dX9_bay_111 (fun X25 hf H locs hR hS hz => ?_)
    refine lv_aload_n hx hb dX9_bay_114 rfl (lv_at hl 0 rfl) ?_
    refine q_gR hx hb hT hown hK hR iqX9 vqX9 15 (by decide) (hT _ wfl_X9_93) hf dX9_bay_115 (fun v26 hf => ?_)
    refine lv_iconst (v := (0 : Int32)) hx hb dX9_bay_118 (by decide) ?_
    refine q_pI hx hb hT hown hK hR hS hz iqX1 vqX1 tyX1_ok nmX1 0 (by decide) (hT _ wfl_X9_110) rfl rfl hf dX9_bay_119 (fun X27 hf H locs hR hS hz => ?_)
    refine lv_aload_n hx hb dX9_bay_122 rfl (lv_at hl 0 rfl) ?_
    refine q_gR hx hb hT hown hK hR iqX9 vqX9 3 (by decide) (hT _ wfl_X9_23) hf dX9_bay_123 (fun v28 hf => ?_)
    refine q_gI hx hb hT hown hK hR iqX0 vqX0 5 (by decide) (hT _ wfl_X9_111) hf dX9_bay_126 (fun v29 hf => ?_)
    subst hQ
    obtain ⟨h8, h9⟩ := Prod.mk.inj (Option.some.inj hf)
    exact q_iret hx hb hr hlocks hR hS hz h8 h9 dX9_bay_129
  · have hf := q_f hf hc
    refine lv_aload_n hx hb dX9_bay_29 rfl (lv_at hl 1 rfl) ?_
    refine lv_aload_n hx hb dX9_bay_30 rfl (lv_at hl 1 rfl) ?_
    refine q_gR hx hb hT hown hK hR iqX9 vqX9 6 (by decide) (hT _ wfl_X9_36) hf dX9_bay_31 (fun v30 hf => ?_)
    refine q_gIN hx hb hT hown hK hR iqX6 vqX6 5 (by decide) (va_Nw.use rfl hK.2.1) hf dX9_bay_34 (fun v31 hf => ?_)
    refine q_pI hx hb hT hown hK hR hS hz iqX9 vqX9 tyX9_ok nmX9 2 (by decide) (hT _ wfl_X9_17) rfl rfl hf dX9_bay_37 (fun X32 hf H locs hR hS hz => ?_)
    refine lv_bipush (v := (-10 : Int32)) hx hb dX9_bay_40 (by decide) ?_
    refine lv_iload_n hx hb dX9_bay_42 rfl (lv_at hl 0 rfl) ?_
    refine lv_isub hx hb dX9_bay_43 ?_
    subst hQ
    obtain ⟨h8, h9⟩ := Prod.mk.inj (Option.some.inj hf)
    exact q_iret hx hb hr hlocks hR hS hz h8 h9 dX9_bay_44
/-! X9_fault -/
def fX9_fault (F : Nat) (X : qH) (a0 : Nat) : Option (Int32) :=
qIs 8 X a0 <|
(qgI X 8 a0 2).bind fun v1 =>
some v1
abbrev rmX9_fault : Room := { frames := 0, cells := 0, slots := 0, locals := 0 }
theorem fX9_fault_is {F : Nat} {X : qH} {a0 : Nat} {r9 : Int32} (h : fX9_fault F X a0 = some r9) : ∃ fs, X a0 = some (.inr (8, fs)) := (qIs_spec h).1
theorem hdX9_fault : yX9_fault.cls = RX9 ∧ yX9_fault.cls ≠ "java/lang/invoke/MethodHandle" ∧ yX9_fault.cls ≠ "java/lang/invoke/VarHandle" ∧ (parseMethodDescriptor yX9_fault.desc).map (fun d => d.parameters.length) = some 0 := by decide +kernel
set_option maxHeartbeats 4000000 in
set_option maxRecDepth 100000 in
theorem mX9_fault (l : Launch) (D : va_G) (kz : Nat → Nat) (b0 sz F : Nat) (X : qH) (a0 : Nat) (r : Int32) (hf : fX9_fault F X a0 = some r) : Met l yX9_fault (qws yX9_fault cX9_fault 1 (some .int)) rmX9_fault (va_Pc [.ref a0] (qU D kz b0 sz X)) (va_Qi (fun (r' : Int32) (u : qH) => r' = r ∧ u = X) (fun u t => qO D kz b0 sz u t) (qA b0)) 0 0 (qA b0) := by
  refine q_start (by decide) (Nat.le_of_ble_eq_true rfl) ?_
  intro p e s m args below meth c hx hb hr hlocks hnm hml hown hT hR hK hz ls hl
  have hown : s.vm.findClass RX9 = some m.cls := hown
  have hl : lv_has ls 1 [(0, .ref a0)] := hl
  have hS : va_S (qA b0) s.heap s.heap [] := va_S.rf
  obtain ⟨Q, hQ⟩ : ∃ Q, Q = MQ below (va_Qi (fun (r' : Int32) (u : qH) => r' = r ∧ u = X) (fun u t => qO D kz b0 sz u t) (qA b0)) args s 0 0 (qA b0) := ⟨_, rfl⟩
  rw [← hQ]
  unfold fX9_fault at hf
  obtain ⟨hthis, hf⟩ := qIs_spec hf
  refine lv_aload_n hx hb dX9_fault_0 rfl (lv_at hl 0 rfl) ?_
  refine q_gI hx hb hT hown hK hR iqX9 vqX9 2 (by decide) (hT _ wfl_X9_17) hf dX9_fault_1 (fun v1 hf => ?_)
  subst hQ
  exact q_iret hx hb hr hlocks hR hS hz (Option.some.inj hf) rfl dX9_fault_4
