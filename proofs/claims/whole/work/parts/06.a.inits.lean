/-! X0_init -/
def fX0_init (F : Nat) (X : qH) (sz a0 : Nat) : Option qH :=
qlt (qnI X sz 8) fun X1 =>
(qpR X1 0 a0 6 sz).bind fun X2 =>
qlt (qnI X2 (sz + 1) 8) fun X3 =>
(qpR X3 0 a0 7 (sz + 1)).bind fun X4 =>
qlt (qnI X4 (sz + 2) 8) fun X5 =>
(qpR X5 0 a0 8 (sz + 2)).bind fun X6 =>
qlt (qnI X6 (sz + 3) 8) fun X7 =>
(qpR X7 0 a0 9 (sz + 3)).bind fun X8 =>
(fX0_empty F X8 a0).bind fun X9 =>
some X9
abbrev rmX0_init : Room := { frames := 1, cells := 4, slots := 32, locals := 20 }
theorem hdX0_init : yX0_init.cls ≠ "java/lang/invoke/MethodHandle" ∧ yX0_init.cls ≠ "java/lang/invoke/VarHandle" ∧ (parseMethodDescriptor yX0_init.desc).map (fun d => d.parameters.length) = some 0 := by decide +kernel
set_option maxHeartbeats 4000000 in
set_option maxRecDepth 100000 in
theorem mX0_init (l : Launch) (D : va_G) (kz : Nat → Nat) (b0 sz F : Nat) (hb0 : b0 ≤ sz) (X : qH) (a0 : Nat) (Xr : qH) (hf : fX0_init F X sz a0 = some Xr) : Met l yX0_init (qws yX0_init cX0_init 1 none) rmX0_init (va_Pc [.ref a0] (qU D kz b0 sz X)) (va_Qv (fun (u : qH) => u = Xr) (fun u t => qO D kz b0 (sz + 4) u t) (qA b0)) 4 32 (qA b0) := by
  refine q_start (by decide) (Nat.le_of_ble_eq_true rfl) ?_
  intro p e s m args below meth c hx hb hr hlocks hnm hml hown hT hR hK hz ls hl
  have hnm : meth.name = "<init>" := hnm
  have hown : s.vm.findClass RX0 = some m.cls := hown
  have hl : lv_has ls 1 [(0, .ref a0)] := hl
  have hS : va_S (qA b0) s.heap s.heap [] := va_S.rf
  obtain ⟨Q, hQ⟩ : ∃ Q, Q = MQ below (va_Qv (fun (u : qH) => u = Xr) (fun u t => qO D kz b0 (sz + 4) u t) (qA b0)) args s 4 32 (qA b0) := ⟨_, rfl⟩
  rw [← hQ]
  unfold fX0_init at hf
  refine lv_aload_n hx hb dX0_init_0 rfl (lv_at hl 0 rfl) ?_
  refine W.objInit hx hb hown (hT _ wml_X0_3) (hT _ wim_objInit) (hT _ wco_objInit) rfl (by rw [hml]; exact hl.1) rfl dX0_init_1 (Nat.le_of_ble_eq_true rfl) (Nat.le_of_ble_eq_true rfl) ?_
  refine W.eq (g2 := F0 m 4 ls []) rfl ?_
  refine lv_aload_n hx hb dX0_init_4 rfl (lv_at hl 0 rfl) ?_
  refine lv_bipush (v := (8 : Int32)) hx hb dX0_init_5 (by decide) ?_
  obtain ⟨X1, eX1⟩ : ∃ y : qH, y = (qnI X sz 8) := ⟨_, rfl⟩
  have hf := q_lt eX1 hf
  refine q_newI (N := 8) hx hb (hT _ wac_int) hK hR hS hb0 hz (by decide) (by decide) (by decide) (Nat.le_of_ble_eq_true rfl) (Nat.le_of_ble_eq_true rfl) dX0_init_7 (fun H hR hS hz => ?_)
  rw [← eX1] at hR
  have hz : H.size = sz + 1 := hz
  refine W.cs (cells' := 1) (slots' := 8) rfl rfl ?_
  refine q_pF hx hb hT hown hK hR hS hz iqX0 vqX0 tyX0_ok nmX0 6 (by decide) (hT _ wfl_X0_9) rfl hnm rfl rfl rfl hf dX0_init_9 (fun X2 hf H locs hR hS hz => ?_)
  refine lv_aload_n hx hb dX0_init_12 rfl (lv_at hl 0 rfl) ?_
  refine lv_bipush (v := (8 : Int32)) hx hb dX0_init_13 (by decide) ?_
  obtain ⟨X3, eX3⟩ : ∃ y : qH, y = (qnI X2 (sz + 1) 8) := ⟨_, rfl⟩
  have hf := q_lt eX3 hf
  refine q_newI (N := 8) hx hb (hT _ wac_int) hK hR hS (Nat.le_trans hb0 (Nat.le_add_right _ _)) hz (by decide) (by decide) (by decide) (Nat.le_of_ble_eq_true rfl) (Nat.le_of_ble_eq_true rfl) dX0_init_15 (fun H hR hS hz => ?_)
  rw [← eX3] at hR
  have hz : H.size = sz + 2 := hz
  refine W.cs (cells' := 2) (slots' := 16) rfl rfl ?_
  refine q_pF hx hb hT hown hK hR hS hz iqX0 vqX0 tyX0_ok nmX0 7 (by decide) (hT _ wfl_X0_15) rfl hnm rfl rfl rfl hf dX0_init_17 (fun X4 hf H locs hR hS hz => ?_)
  refine lv_aload_n hx hb dX0_init_20 rfl (lv_at hl 0 rfl) ?_
  refine lv_bipush (v := (8 : Int32)) hx hb dX0_init_21 (by decide) ?_
  obtain ⟨X5, eX5⟩ : ∃ y : qH, y = (qnI X4 (sz + 2) 8) := ⟨_, rfl⟩
  have hf := q_lt eX5 hf
  refine q_newI (N := 8) hx hb (hT _ wac_int) hK hR hS (Nat.le_trans hb0 (Nat.le_add_right _ _)) hz (by decide) (by decide) (by decide) (Nat.le_of_ble_eq_true rfl) (Nat.le_of_ble_eq_true rfl) dX0_init_23 (fun H hR hS hz => ?_)
  rw [← eX5] at hR
  have hz : H.size = sz + 3 := hz
  refine W.cs (cells' := 3) (slots' := 24) rfl rfl ?_
  refine q_pF hx hb hT hown hK hR hS hz iqX0 vqX0 tyX0_ok nmX0 8 (by decide) (hT _ wfl_X0_18) rfl hnm rfl rfl rfl hf dX0_init_25 (fun X6 hf H locs hR hS hz => ?_)
  refine lv_aload_n hx hb dX0_init_28 rfl (lv_at hl 0 rfl) ?_
  refine lv_bipush (v := (8 : Int32)) hx hb dX0_init_29 (by decide) ?_
  obtain ⟨X7, eX7⟩ : ∃ y : qH, y = (qnI X6 (sz + 3) 8) := ⟨_, rfl⟩
  have hf := q_lt eX7 hf
  refine q_newI (N := 8) hx hb (hT _ wac_int) hK hR hS (Nat.le_trans hb0 (Nat.le_add_right _ _)) hz (by decide) (by decide) (by decide) (Nat.le_of_ble_eq_true rfl) (Nat.le_of_ble_eq_true rfl) dX0_init_31 (fun H hR hS hz => ?_)
  rw [← eX7] at hR
  have hz : H.size = sz + 4 := hz
  refine W.cs (cells' := 4) (slots' := 32) rfl rfl ?_
  refine q_pF hx hb hT hown hK hR hS hz iqX0 vqX0 tyX0_ok nmX0 9 (by decide) (hT _ wfl_X0_21) rfl hnm rfl rfl rfl hf dX0_init_33 (fun X8 hf H locs hR hS hz => ?_)
  refine lv_aload_n hx hb dX0_init_36 rfl (lv_at hl 0 rfl) ?_
  obtain ⟨X9, hc, hf⟩ := q_b hf
  refine q_callv (va_runV (As := []) (rest := []) ⟨hx, hb, hml, hown, hT⟩ (mX0_empty l D kz b0 (sz + 4) F X8 a0 X9 hc) (cwV 0 hT (q_gV wco_X0_empty wml_X0_24 wim_X0_empty wse_X0_empty win_X0) rfl rfl rfl hdX0_empty ⟨Nat.le_of_ble_eq_true rfl, Nat.le_of_ble_eq_true rfl⟩) (q_preV vqX0 (fX0_empty_is hc) hR hK hz) rfl rfl hl.1 rfl (lv_room (Nat.le_of_ble_eq_true rfl)) dX0_init_37 ⟨Nat.le_of_ble_eq_true rfl, Nat.le_of_ble_eq_true rfl⟩) hS (fun H locs hR hS hz => ?_)
  subst hQ
  exact q_vret hx hb hr hlocks hR hS hz (Option.some.inj hf) dX0_init_40
/-! X1_init -/
def fX1_init (F : Nat) (X : qH) (sz a0 : Nat) : Option qH :=
qlt (qnI X sz 15) fun X1 =>
(qpR X1 1 a0 1 sz).bind fun X2 =>
qlt (qnI X2 (sz + 1) 15) fun X3 =>
(qpR X3 1 a0 2 (sz + 1)).bind fun X4 =>
qlt (qnZ X4 (sz + 2) 15) fun X5 =>
(qpR X5 1 a0 3 (sz + 2)).bind fun X6 =>
some X6
abbrev rmX1_init : Room := { frames := 1, cells := 3, slots := 45, locals := 20 }
theorem hdX1_init : yX1_init.cls ≠ "java/lang/invoke/MethodHandle" ∧ yX1_init.cls ≠ "java/lang/invoke/VarHandle" ∧ (parseMethodDescriptor yX1_init.desc).map (fun d => d.parameters.length) = some 0 := by decide +kernel
set_option maxHeartbeats 4000000 in
set_option maxRecDepth 100000 in
theorem mX1_init (l : Launch) (D : va_G) (kz : Nat → Nat) (b0 sz F : Nat) (hb0 : b0 ≤ sz) (X : qH) (a0 : Nat) (Xr : qH) (hf : fX1_init F X sz a0 = some Xr) : Met l yX1_init (qws yX1_init cX1_init 1 none) rmX1_init (va_Pc [.ref a0] (qU D kz b0 sz X)) (va_Qv (fun (u : qH) => u = Xr) (fun u t => qO D kz b0 (sz + 3) u t) (qA b0)) 3 45 (qA b0) := by
  refine q_start (by decide) (Nat.le_of_ble_eq_true rfl) ?_
  intro p e s m args below meth c hx hb hr hlocks hnm hml hown hT hR hK hz ls hl
  have hnm : meth.name = "<init>" := hnm
  have hown : s.vm.findClass RX1 = some m.cls := hown
  have hl : lv_has ls 1 [(0, .ref a0)] := hl
  have hS : va_S (qA b0) s.heap s.heap [] := va_S.rf
  obtain ⟨Q, hQ⟩ : ∃ Q, Q = MQ below (va_Qv (fun (u : qH) => u = Xr) (fun u t => qO D kz b0 (sz + 3) u t) (qA b0)) args s 3 45 (qA b0) := ⟨_, rfl⟩
  rw [← hQ]
  unfold fX1_init at hf
  refine lv_aload_n hx hb dX1_init_0 rfl (lv_at hl 0 rfl) ?_
  refine W.objInit hx hb hown (hT _ wml_X1_3) (hT _ wim_objInit) (hT _ wco_objInit) rfl (by rw [hml]; exact hl.1) rfl dX1_init_1 (Nat.le_of_ble_eq_true rfl) (Nat.le_of_ble_eq_true rfl) ?_
  refine W.eq (g2 := F0 m 4 ls []) rfl ?_
  refine lv_aload_n hx hb dX1_init_4 rfl (lv_at hl 0 rfl) ?_
  refine lv_bipush (v := (15 : Int32)) hx hb dX1_init_5 (by decide) ?_
  obtain ⟨X1, eX1⟩ : ∃ y : qH, y = (qnI X sz 15) := ⟨_, rfl⟩
  have hf := q_lt eX1 hf
  refine q_newI (N := 15) hx hb (hT _ wac_int) hK hR hS hb0 hz (by decide) (by decide) (by decide) (Nat.le_of_ble_eq_true rfl) (Nat.le_of_ble_eq_true rfl) dX1_init_7 (fun H hR hS hz => ?_)
  rw [← eX1] at hR
  have hz : H.size = sz + 1 := hz
  refine W.cs (cells' := 1) (slots' := 15) rfl rfl ?_
  refine q_pF hx hb hT hown hK hR hS hz iqX1 vqX1 tyX1_ok nmX1 1 (by decide) (hT _ wfl_X1_9) rfl hnm rfl rfl rfl hf dX1_init_9 (fun X2 hf H locs hR hS hz => ?_)
  refine lv_aload_n hx hb dX1_init_12 rfl (lv_at hl 0 rfl) ?_
  refine lv_bipush (v := (15 : Int32)) hx hb dX1_init_13 (by decide) ?_
  obtain ⟨X3, eX3⟩ : ∃ y : qH, y = (qnI X2 (sz + 1) 15) := ⟨_, rfl⟩
  have hf := q_lt eX3 hf
  refine q_newI (N := 15) hx hb (hT _ wac_int) hK hR hS (Nat.le_trans hb0 (Nat.le_add_right _ _)) hz (by decide) (by decide) (by decide) (Nat.le_of_ble_eq_true rfl) (Nat.le_of_ble_eq_true rfl) dX1_init_15 (fun H hR hS hz => ?_)
  rw [← eX3] at hR
  have hz : H.size = sz + 2 := hz
  refine W.cs (cells' := 2) (slots' := 30) rfl rfl ?_
  refine q_pF hx hb hT hown hK hR hS hz iqX1 vqX1 tyX1_ok nmX1 2 (by decide) (hT _ wfl_X1_15) rfl hnm rfl rfl rfl hf dX1_init_17 (fun X4 hf H locs hR hS hz => ?_)
  refine lv_aload_n hx hb dX1_init_20 rfl (lv_at hl 0 rfl) ?_
  refine lv_bipush (v := (15 : Int32)) hx hb dX1_init_21 (by decide) ?_
  obtain ⟨X5, eX5⟩ : ∃ y : qH, y = (qnZ X4 (sz + 2) 15) := ⟨_, rfl⟩
  have hf := q_lt eX5 hf
  refine q_newZ (N := 15) hx hb (hT _ wac_boolean) hK hR hS (Nat.le_trans hb0 (Nat.le_add_right _ _)) hz (by decide) (by decide) (by decide) (Nat.le_of_ble_eq_true rfl) (Nat.le_of_ble_eq_true rfl) dX1_init_23 (fun H hR hS hz => ?_)
  rw [← eX5] at hR
  have hz : H.size = sz + 3 := hz
  refine W.cs (cells' := 3) (slots' := 45) rfl rfl ?_
  refine q_pF hx hb hT hown hK hR hS hz iqX1 vqX1 tyX1_ok nmX1 3 (by decide) (hT _ wfl_X1_18) rfl hnm rfl rfl rfl hf dX1_init_25 (fun X6 hf H locs hR hS hz => ?_)
  subst hQ
  exact q_vret hx hb hr hlocks hR hS hz (Option.some.inj hf) dX1_init_28
/-! X2_init -/
def fX2_init (F : Nat) (X : qH) (sz a0 : Nat) : Option qH :=
qlt (qnI X sz 6) fun X1 =>
(qpR X1 2 a0 1 sz).bind fun X2 =>
qlt (qnI X2 (sz + 1) 6) fun X3 =>
(qpR X3 2 a0 2 (sz + 1)).bind fun X4 =>
some X4
abbrev rmX2_init : Room := { frames := 1, cells := 2, slots := 12, locals := 20 }
theorem hdX2_init : yX2_init.cls ≠ "java/lang/invoke/MethodHandle" ∧ yX2_init.cls ≠ "java/lang/invoke/VarHandle" ∧ (parseMethodDescriptor yX2_init.desc).map (fun d => d.parameters.length) = some 0 := by decide +kernel
set_option maxHeartbeats 4000000 in
set_option maxRecDepth 100000 in
theorem mX2_init (l : Launch) (D : va_G) (kz : Nat → Nat) (b0 sz F : Nat) (hb0 : b0 ≤ sz) (X : qH) (a0 : Nat) (Xr : qH) (hf : fX2_init F X sz a0 = some Xr) : Met l yX2_init (qws yX2_init cX2_init 1 none) rmX2_init (va_Pc [.ref a0] (qU D kz b0 sz X)) (va_Qv (fun (u : qH) => u = Xr) (fun u t => qO D kz b0 (sz + 2) u t) (qA b0)) 2 12 (qA b0) := by
  refine q_start (by decide) (Nat.le_of_ble_eq_true rfl) ?_
  intro p e s m args below meth c hx hb hr hlocks hnm hml hown hT hR hK hz ls hl
  have hnm : meth.name = "<init>" := hnm
  have hown : s.vm.findClass RX2 = some m.cls := hown
  have hl : lv_has ls 1 [(0, .ref a0)] := hl
  have hS : va_S (qA b0) s.heap s.heap [] := va_S.rf
  obtain ⟨Q, hQ⟩ : ∃ Q, Q = MQ below (va_Qv (fun (u : qH) => u = Xr) (fun u t => qO D kz b0 (sz + 2) u t) (qA b0)) args s 2 12 (qA b0) := ⟨_, rfl⟩
  rw [← hQ]
  unfold fX2_init at hf
  refine lv_aload_n hx hb dX2_init_0 rfl (lv_at hl 0 rfl) ?_
  refine W.objInit hx hb hown (hT _ wml_X2_3) (hT _ wim_objInit) (hT _ wco_objInit) rfl (by rw [hml]; exact hl.1) rfl dX2_init_1 (Nat.le_of_ble_eq_true rfl) (Nat.le_of_ble_eq_true rfl) ?_
  refine W.eq (g2 := F0 m 4 ls []) rfl ?_
  refine lv_aload_n hx hb dX2_init_4 rfl (lv_at hl 0 rfl) ?_
  refine lv_bipush (v := (6 : Int32)) hx hb dX2_init_5 (by decide) ?_
  obtain ⟨X1, eX1⟩ : ∃ y : qH, y = (qnI X sz 6) := ⟨_, rfl⟩
  have hf := q_lt eX1 hf
  refine q_newI (N := 6) hx hb (hT _ wac_int) hK hR hS hb0 hz (by decide) (by decide) (by decide) (Nat.le_of_ble_eq_true rfl) (Nat.le_of_ble_eq_true rfl) dX2_init_7 (fun H hR hS hz => ?_)
  rw [← eX1] at hR
  have hz : H.size = sz + 1 := hz
  refine W.cs (cells' := 1) (slots' := 6) rfl rfl ?_
  refine q_pF hx hb hT hown hK hR hS hz iqX2 vqX2 tyX2_ok nmX2 1 (by decide) (hT _ wfl_X2_9) rfl hnm rfl rfl rfl hf dX2_init_9 (fun X2 hf H locs hR hS hz => ?_)
  refine lv_aload_n hx hb dX2_init_12 rfl (lv_at hl 0 rfl) ?_
  refine lv_bipush (v := (6 : Int32)) hx hb dX2_init_13 (by decide) ?_
  obtain ⟨X3, eX3⟩ : ∃ y : qH, y = (qnI X2 (sz + 1) 6) := ⟨_, rfl⟩
  have hf := q_lt eX3 hf
  refine q_newI (N := 6) hx hb (hT _ wac_int) hK hR hS (Nat.le_trans hb0 (Nat.le_add_right _ _)) hz (by decide) (by decide) (by decide) (Nat.le_of_ble_eq_true rfl) (Nat.le_of_ble_eq_true rfl) dX2_init_15 (fun H hR hS hz => ?_)
  rw [← eX3] at hR
  have hz : H.size = sz + 2 := hz
  refine W.cs (cells' := 2) (slots' := 12) rfl rfl ?_
  refine q_pF hx hb hT hown hK hR hS hz iqX2 vqX2 tyX2_ok nmX2 2 (by decide) (hT _ wfl_X2_15) rfl hnm rfl rfl rfl hf dX2_init_17 (fun X4 hf H locs hR hS hz => ?_)
  subst hQ
  exact q_vret hx hb hr hlocks hR hS hz (Option.some.inj hf) dX2_init_20
/-! X3_init -/
def fX3_init (F : Nat) (X : qH) (sz a0 : Nat) : Option qH :=
qlt (qnI X sz 8) fun X1 =>
(qpR X1 3 a0 4 sz).bind fun X2 =>
qlt (qnI X2 (sz + 1) 8) fun X3 =>
(qpR X3 3 a0 5 (sz + 1)).bind fun X4 =>
qlt (qnI X4 (sz + 2) 8) fun X5 =>
(qpR X5 3 a0 6 (sz + 2)).bind fun X6 =>
qlt (qnI X6 (sz + 3) 8) fun X7 =>
(qpR X7 3 a0 7 (sz + 3)).bind fun X8 =>
some X8
abbrev rmX3_init : Room := { frames := 1, cells := 4, slots := 32, locals := 20 }
theorem hdX3_init : yX3_init.cls ≠ "java/lang/invoke/MethodHandle" ∧ yX3_init.cls ≠ "java/lang/invoke/VarHandle" ∧ (parseMethodDescriptor yX3_init.desc).map (fun d => d.parameters.length) = some 0 := by decide +kernel
set_option maxHeartbeats 4000000 in
set_option maxRecDepth 100000 in
theorem mX3_init (l : Launch) (D : va_G) (kz : Nat → Nat) (b0 sz F : Nat) (hb0 : b0 ≤ sz) (X : qH) (a0 : Nat) (Xr : qH) (hf : fX3_init F X sz a0 = some Xr) : Met l yX3_init (qws yX3_init cX3_init 1 none) rmX3_init (va_Pc [.ref a0] (qU D kz b0 sz X)) (va_Qv (fun (u : qH) => u = Xr) (fun u t => qO D kz b0 (sz + 4) u t) (qA b0)) 4 32 (qA b0) := by
  refine q_start (by decide) (Nat.le_of_ble_eq_true rfl) ?_
  intro p e s m args below meth c hx hb hr hlocks hnm hml hown hT hR hK hz ls hl
  have hnm : meth.name = "<init>" := hnm
  have hown : s.vm.findClass RX3 = some m.cls := hown
  have hl : lv_has ls 1 [(0, .ref a0)] := hl
  have hS : va_S (qA b0) s.heap s.heap [] := va_S.rf
  obtain ⟨Q, hQ⟩ : ∃ Q, Q = MQ below (va_Qv (fun (u : qH) => u = Xr) (fun u t => qO D kz b0 (sz + 4) u t) (qA b0)) args s 4 32 (qA b0) := ⟨_, rfl⟩
  rw [← hQ]
  unfold fX3_init at hf
  refine lv_aload_n hx hb dX3_init_0 rfl (lv_at hl 0 rfl) ?_
  refine W.objInit hx hb hown (hT _ wml_X3_3) (hT _ wim_objInit) (hT _ wco_objInit) rfl (by rw [hml]; exact hl.1) rfl dX3_init_1 (Nat.le_of_ble_eq_true rfl) (Nat.le_of_ble_eq_true rfl) ?_
  refine W.eq (g2 := F0 m 4 ls []) rfl ?_
  refine lv_aload_n hx hb dX3_init_4 rfl (lv_at hl 0 rfl) ?_
  refine lv_bipush (v := (8 : Int32)) hx hb dX3_init_5 (by decide) ?_
  obtain ⟨X1, eX1⟩ : ∃ y : qH, y = (qnI X sz 8) := ⟨_, rfl⟩
  have hf := q_lt eX1 hf
  refine q_newI (N := 8) hx hb (hT _ wac_int) hK hR hS hb0 hz (by decide) (by decide) (by decide) (Nat.le_of_ble_eq_true rfl) (Nat.le_of_ble_eq_true rfl) dX3_init_7 (fun H hR hS hz => ?_)
  rw [← eX1] at hR
  have hz : H.size = sz + 1 := hz
  refine W.cs (cells' := 1) (slots' := 8) rfl rfl ?_
  refine q_pF hx hb hT hown hK hR hS hz iqX3 vqX3 tyX3_ok nmX3 4 (by decide) (hT _ wfl_X3_9) rfl hnm rfl rfl rfl hf dX3_init_9 (fun X2 hf H locs hR hS hz => ?_)
  refine lv_aload_n hx hb dX3_init_12 rfl (lv_at hl 0 rfl) ?_
  refine lv_bipush (v := (8 : Int32)) hx hb dX3_init_13 (by decide) ?_
  obtain ⟨X3, eX3⟩ : ∃ y : qH, y = (qnI X2 (sz + 1) 8) := ⟨_, rfl⟩
  have hf := q_lt eX3 hf
  refine q_newI (N := 8) hx hb (hT _ wac_int) hK hR hS (Nat.le_trans hb0 (Nat.le_add_right _ _)) hz (by decide) (by decide) (by decide) (Nat.le_of_ble_eq_true rfl) (Nat.le_of_ble_eq_true rfl) dX3_init_15 (fun H hR hS hz => ?_)
  rw [← eX3] at hR
  have hz : H.size = sz + 2 := hz
  refine W.cs (cells' := 2) (slots' := 16) rfl rfl ?_
  refine q_pF hx hb hT hown hK hR hS hz iqX3 vqX3 tyX3_ok nmX3 5 (by decide) (hT _ wfl_X3_15) rfl hnm rfl rfl rfl hf dX3_init_17 (fun X4 hf H locs hR hS hz => ?_)
  refine lv_aload_n hx hb dX3_init_20 rfl (lv_at hl 0 rfl) ?_
  refine lv_bipush (v := (8 : Int32)) hx hb dX3_init_21 (by decide) ?_
  obtain ⟨X5, eX5⟩ : ∃ y : qH, y = (qnI X4 (sz + 2) 8) := ⟨_, rfl⟩
  have hf := q_lt eX5 hf
  refine q_newI (N := 8) hx hb (hT _ wac_int) hK hR hS (Nat.le_trans hb0 (Nat.le_add_right _ _)) hz (by decide) (by decide) (by decide) (Nat.le_of_ble_eq_true rfl) (Nat.le_of_ble_eq_true rfl) dX3_init_23 (fun H hR hS hz => ?_)
  rw [← eX5] at hR
  have hz : H.size = sz + 3 := hz
  refine W.cs (cells' := 3) (slots' := 24) rfl rfl ?_
  refine q_pF hx hb hT hown hK hR hS hz iqX3 vqX3 tyX3_ok nmX3 6 (by decide) (hT _ wfl_X3_18) rfl hnm rfl rfl rfl hf dX3_init_25 (fun X6 hf H locs hR hS hz => ?_)
  refine lv_aload_n hx hb dX3_init_28 rfl (lv_at hl 0 rfl) ?_
  refine lv_bipush (v := (8 : Int32)) hx hb dX3_init_29 (by decide) ?_
  obtain ⟨X7, eX7⟩ : ∃ y : qH, y = (qnI X6 (sz + 3) 8) := ⟨_, rfl⟩
  have hf := q_lt eX7 hf
  refine q_newI (N := 8) hx hb (hT _ wac_int) hK hR hS (Nat.le_trans hb0 (Nat.le_add_right _ _)) hz (by decide) (by decide) (by decide) (Nat.le_of_ble_eq_true rfl) (Nat.le_of_ble_eq_true rfl) dX3_init_31 (fun H hR hS hz => ?_)
  rw [← eX7] at hR
  have hz : H.size = sz + 4 := hz
  refine W.cs (cells' := 4) (slots' := 32) rfl rfl ?_
  refine q_pF hx hb hT hown hK hR hS hz iqX3 vqX3 tyX3_ok nmX3 7 (by decide) (hT _ wfl_X3_21) rfl hnm rfl rfl rfl hf dX3_init_33 (fun X8 hf H locs hR hS hz => ?_)
  subst hQ
  exact q_vret hx hb hr hlocks hR hS hz (Option.some.inj hf) dX3_init_36
/-! X4_init -/
def fX4_init (F : Nat) (X : qH) (sz a0 : Nat) : Option qH :=
qlt (qnI X sz 8) fun X1 =>
(qpR X1 4 a0 0 sz).bind fun X2 =>
qlt (qnI X2 (sz + 1) 8) fun X3 =>
(qpR X3 4 a0 1 (sz + 1)).bind fun X4 =>
some X4
abbrev rmX4_init : Room := { frames := 1, cells := 2, slots := 16, locals := 20 }
theorem hdX4_init : yX4_init.cls ≠ "java/lang/invoke/MethodHandle" ∧ yX4_init.cls ≠ "java/lang/invoke/VarHandle" ∧ (parseMethodDescriptor yX4_init.desc).map (fun d => d.parameters.length) = some 0 := by decide +kernel
set_option maxHeartbeats 4000000 in
set_option maxRecDepth 100000 in
theorem mX4_init (l : Launch) (D : va_G) (kz : Nat → Nat) (b0 sz F : Nat) (hb0 : b0 ≤ sz) (X : qH) (a0 : Nat) (Xr : qH) (hf : fX4_init F X sz a0 = some Xr) : Met l yX4_init (qws yX4_init cX4_init 1 none) rmX4_init (va_Pc [.ref a0] (qU D kz b0 sz X)) (va_Qv (fun (u : qH) => u = Xr) (fun u t => qO D kz b0 (sz + 2) u t) (qA b0)) 2 16 (qA b0) := by
  refine q_start (by decide) (Nat.le_of_ble_eq_true rfl) ?_
  intro p e s m args below meth c hx hb hr hlocks hnm hml hown hT hR hK hz ls hl
  have hnm : meth.name = "<init>" := hnm
  have hown : s.vm.findClass RX4 = some m.cls := hown
  have hl : lv_has ls 1 [(0, .ref a0)] := hl
  have hS : va_S (qA b0) s.heap s.heap [] := va_S.rf
  obtain ⟨Q, hQ⟩ : ∃ Q, Q = MQ below (va_Qv (fun (u : qH) => u = Xr) (fun u t => qO D kz b0 (sz + 2) u t) (qA b0)) args s 2 16 (qA b0) := ⟨_, rfl⟩
  rw [← hQ]
  unfold fX4_init at hf
  refine lv_aload_n hx hb dX4_init_0 rfl (lv_at hl 0 rfl) ?_
  refine W.objInit hx hb hown (hT _ wml_X4_3) (hT _ wim_objInit) (hT _ wco_objInit) rfl (by rw [hml]; exact hl.1) rfl dX4_init_1 (Nat.le_of_ble_eq_true rfl) (Nat.le_of_ble_eq_true rfl) ?_
  refine W.eq (g2 := F0 m 4 ls []) rfl ?_
  refine lv_aload_n hx hb dX4_init_4 rfl (lv_at hl 0 rfl) ?_
  refine lv_bipush (v := (8 : Int32)) hx hb dX4_init_5 (by decide) ?_
  obtain ⟨X1, eX1⟩ : ∃ y : qH, y = (qnI X sz 8) := ⟨_, rfl⟩
  have hf := q_lt eX1 hf
  refine q_newI (N := 8) hx hb (hT _ wac_int) hK hR hS hb0 hz (by decide) (by decide) (by decide) (Nat.le_of_ble_eq_true rfl) (Nat.le_of_ble_eq_true rfl) dX4_init_7 (fun H hR hS hz => ?_)
  rw [← eX1] at hR
  have hz : H.size = sz + 1 := hz
  refine W.cs (cells' := 1) (slots' := 8) rfl rfl ?_
  refine q_pF hx hb hT hown hK hR hS hz iqX4 vqX4 tyX4_ok nmX4 0 (by decide) (hT _ wfl_X4_9) rfl hnm rfl rfl rfl hf dX4_init_9 (fun X2 hf H locs hR hS hz => ?_)
  refine lv_aload_n hx hb dX4_init_12 rfl (lv_at hl 0 rfl) ?_
  refine lv_bipush (v := (8 : Int32)) hx hb dX4_init_13 (by decide) ?_
  obtain ⟨X3, eX3⟩ : ∃ y : qH, y = (qnI X2 (sz + 1) 8) := ⟨_, rfl⟩
  have hf := q_lt eX3 hf
  refine q_newI (N := 8) hx hb (hT _ wac_int) hK hR hS (Nat.le_trans hb0 (Nat.le_add_right _ _)) hz (by decide) (by decide) (by decide) (Nat.le_of_ble_eq_true rfl) (Nat.le_of_ble_eq_true rfl) dX4_init_15 (fun H hR hS hz => ?_)
  rw [← eX3] at hR
  have hz : H.size = sz + 2 := hz
  refine W.cs (cells' := 2) (slots' := 16) rfl rfl ?_
  refine q_pF hx hb hT hown hK hR hS hz iqX4 vqX4 tyX4_ok nmX4 1 (by decide) (hT _ wfl_X4_15) rfl hnm rfl rfl rfl hf dX4_init_17 (fun X4 hf H locs hR hS hz => ?_)
  subst hQ
  exact q_vret hx hb hr hlocks hR hS hz (Option.some.inj hf) dX4_init_20
/-! X6_init -/
def fX6_init (F : Nat) (X : qH) (sz a0 : Nat) : Option qH :=
qlt (qnI X sz 0) fun X1 =>
(qpR X1 6 a0 0 sz).bind fun X2 =>
some X2
abbrev rmX6_init : Room := { frames := 1, cells := 1, slots := 0, locals := 20 }
theorem hdX6_init : yX6_init.cls ≠ "java/lang/invoke/MethodHandle" ∧ yX6_init.cls ≠ "java/lang/invoke/VarHandle" ∧ (parseMethodDescriptor yX6_init.desc).map (fun d => d.parameters.length) = some 0 := by decide +kernel
set_option maxHeartbeats 4000000 in
set_option maxRecDepth 100000 in
theorem mX6_init (l : Launch) (D : va_G) (kz : Nat → Nat) (b0 sz F : Nat) (hb0 : b0 ≤ sz) (X : qH) (a0 : Nat) (Xr : qH) (hf : fX6_init F X sz a0 = some Xr) : Met l yX6_init (qws yX6_init cX6_init 1 none) rmX6_init (va_Pc [.ref a0] (qU D kz b0 sz X)) (va_Qv (fun (u : qH) => u = Xr) (fun u t => qO D kz b0 (sz + 1) u t) (qA b0)) 1 0 (qA b0) := by
  refine q_start (by decide) (Nat.le_of_ble_eq_true rfl) ?_
  intro p e s m args below meth c hx hb hr hlocks hnm hml hown hT hR hK hz ls hl
  have hnm : meth.name = "<init>" := hnm
  have hown : s.vm.findClass RX6 = some m.cls := hown
  have hl : lv_has ls 1 [(0, .ref a0)] := hl
  have hS : va_S (qA b0) s.heap s.heap [] := va_S.rf
  obtain ⟨Q, hQ⟩ : ∃ Q, Q = MQ below (va_Qv (fun (u : qH) => u = Xr) (fun u t => qO D kz b0 (sz + 1) u t) (qA b0)) args s 1 0 (qA b0) := ⟨_, rfl⟩
  rw [← hQ]
  unfold fX6_init at hf
  refine lv_aload_n hx hb dX6_init_0 rfl (lv_at hl 0 rfl) ?_
  refine W.objInit hx hb hown (hT _ wml_X6_3) (hT _ wim_objInit) (hT _ wco_objInit) rfl (by rw [hml]; exact hl.1) rfl dX6_init_1 (Nat.le_of_ble_eq_true rfl) (Nat.le_of_ble_eq_true rfl) ?_
  refine W.eq (g2 := F0 m 4 ls []) rfl ?_
  refine lv_aload_n hx hb dX6_init_4 rfl (lv_at hl 0 rfl) ?_
  refine lv_iconst (v := (0 : Int32)) hx hb dX6_init_5 (by decide) ?_
  obtain ⟨X1, eX1⟩ : ∃ y : qH, y = (qnI X sz 0) := ⟨_, rfl⟩
  have hf := q_lt eX1 hf
  refine q_newI (N := 0) hx hb (hT _ wac_int) hK hR hS hb0 hz (by decide) (by decide) (by decide) (Nat.le_of_ble_eq_true rfl) (Nat.le_of_ble_eq_true rfl) dX6_init_6 (fun H hR hS hz => ?_)
  rw [← eX1] at hR
  have hz : H.size = sz + 1 := hz
  refine W.cs (cells' := 1) (slots' := 0) rfl rfl ?_
  refine q_pR hx hb hT hown hK hR hS hz iqX6 vqX6 tyX6_ok nmX6 0 (by decide) (hT _ wfl_X6_9) rfl rfl rfl hf dX6_init_8 (fun X2 hf H locs hR hS hz => ?_)
  subst hQ
  exact q_vret hx hb hr hlocks hR hS hz (Option.some.inj hf) dX6_init_11
