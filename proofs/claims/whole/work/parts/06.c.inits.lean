/-! X7_init -/
def fX7_init (F : Nat) (X : qH) (sz a0 : Nat) : Option qH :=
qlt (qnI X sz 6) fun X1 =>
(qpR X1 7 a0 0 sz).bind fun X2 =>
qlt (qnO X2 (sz + 1) 3 [.int 0, .int 0, .int 0, .int 0, .null, .null, .null, .null]) fun X3 =>
(fX3_init F X3 (sz + 2) (sz + 1)).bind fun X4 =>
(qpR X4 7 a0 1 (sz + 1)).bind fun X5 =>
some X5
abbrev rmX7_init : Room := { frames := 2, cells := 6, slots := 46, locals := 40 }
theorem hdX7_init : yX7_init.cls ≠ "java/lang/invoke/MethodHandle" ∧ yX7_init.cls ≠ "java/lang/invoke/VarHandle" ∧ (parseMethodDescriptor yX7_init.desc).map (fun d => d.parameters.length) = some 0 := by decide +kernel
set_option maxHeartbeats 4000000 in
set_option maxRecDepth 100000 in
theorem mX7_init (l : Launch) (D : va_G) (kz : Nat → Nat) (b0 sz F : Nat) (hb0 : b0 ≤ sz) (X : qH) (a0 : Nat) (Xr : qH) (hf : fX7_init F X sz a0 = some Xr) : Met l yX7_init (qws yX7_init cX7_init 1 none) rmX7_init (va_Pc [.ref a0] (qU D kz b0 sz X)) (va_Qv (fun (u : qH) => u = Xr) (fun u t => qO D kz b0 (sz + 6) u t) (qA b0)) 6 46 (qA b0) := by
  refine q_start (by decide) (Nat.le_of_ble_eq_true rfl) ?_
  intro p e s m args below meth c hx hb hr hlocks hnm hml hown hT hR hK hz ls hl
  have hnm : meth.name = "<init>" := hnm
  have hown : s.vm.findClass RX7 = some m.cls := hown
  have hl : lv_has ls 1 [(0, .ref a0)] := hl
  have hS : va_S (qA b0) s.heap s.heap [] := va_S.rf
  obtain ⟨Q, hQ⟩ : ∃ Q, Q = MQ below (va_Qv (fun (u : qH) => u = Xr) (fun u t => qO D kz b0 (sz + 6) u t) (qA b0)) args s 6 46 (qA b0) := ⟨_, rfl⟩
  rw [← hQ]
  unfold fX7_init at hf
  refine lv_aload_n hx hb dX7_init_0 rfl (lv_at hl 0 rfl) ?_
  refine W.objInit hx hb hown (hT _ wml_X7_3) (hT _ wim_objInit) (hT _ wco_objInit) rfl (by rw [hml]; exact hl.1) rfl dX7_init_1 (Nat.le_of_ble_eq_true rfl) (Nat.le_of_ble_eq_true rfl) ?_
  refine W.eq (g2 := F0 m 4 ls []) rfl ?_
  refine lv_aload_n hx hb dX7_init_4 rfl (lv_at hl 0 rfl) ?_
  refine lv_bipush (v := (6 : Int32)) hx hb dX7_init_5 (by decide) ?_
  obtain ⟨X1, eX1⟩ : ∃ y : qH, y = (qnI X sz 6) := ⟨_, rfl⟩
  have hf := q_lt eX1 hf
  refine q_newI (N := 6) hx hb (hT _ wac_int) hK hR hS hb0 hz (by decide) (by decide) (by decide) (Nat.le_of_ble_eq_true rfl) (Nat.le_of_ble_eq_true rfl) dX7_init_7 (fun H hR hS hz => ?_)
  rw [← eX1] at hR
  have hz : H.size = sz + 1 := hz
  refine W.cs (cells' := 1) (slots' := 6) rfl rfl ?_
  refine q_pF hx hb hT hown hK hR hS hz iqX7 vqX7 tyX7_ok nmX7 0 (by decide) (hT _ wfl_X7_9) rfl hnm rfl rfl rfl hf dX7_init_9 (fun X2 hf H locs hR hS hz => ?_)
  refine lv_aload_n hx hb dX7_init_12 rfl (lv_at hl 0 rfl) ?_
  obtain ⟨X3, eX3⟩ : ∃ y : qH, y = (qnO X2 (sz + 1) 3 [.int 0, .int 0, .int 0, .int 0, .null, .null, .null, .null]) := ⟨_, rfl⟩
  have hf := q_lt eX3 hf
  refine q_newO hx hb hT hown iqX3 vqX3 tyX3_ok (hT _ wcl_X7_15) (hT _ wis_X3) (hT _ win_X3) hK hR hS (Nat.le_trans hb0 (Nat.le_add_right _ _)) hz [.int 0, .int 0, .int 0, .int 0, .null, .null, .null, .null] (by decide +kernel) (Nat.le_of_ble_eq_true rfl) (Nat.le_of_ble_eq_true rfl) dX7_init_13 (fun H hR hS hz => ?_)
  rw [← eX3] at hR
  have hz : H.size = sz + 2 := hz
  refine W.cs (cells' := 2) (slots' := 14) rfl rfl ?_
  refine lv_dup hx hb dX7_init_16 rfl ?_
  obtain ⟨X4, hc, hf⟩ := q_b hf
  refine q_callc (va_runIN (As := []) (rest := [.ref (sz + 1), .ref a0]) ⟨hx, hb, hml, hown, hT⟩ (mX3_init l D kz b0 (sz + 2) F (Nat.le_trans hb0 (Nat.le_add_right _ _)) X3 (sz + 1) X4 hc) ⟨va_cnB 0 hT (q_gI0 wco_X3_init) rfl rfl rfl hK.2.2.2.2.2.2.2.2.2.1 (hT _ win_X3) hdX3_init ⟨Nat.le_of_ble_eq_true rfl, Nat.le_of_ble_eq_true rfl⟩, rfl, hT _ wim_X3_init⟩ (q_preS hR hK hz) rfl rfl hl.1 rfl (lv_room (Nat.le_of_ble_eq_true rfl)) dX7_init_17 ⟨Nat.le_of_ble_eq_true rfl, Nat.le_of_ble_eq_true rfl⟩) hS (fun H locs hR hS hz => ?_)
  have hz : H.size = sz + 6 := hz
  refine W.cs (cells' := 6) (slots' := 46) rfl rfl ?_
  refine q_pF hx hb hT hown hK hR hS hz iqX7 vqX7 tyX7_ok nmX7 1 (by decide) (hT _ wfl_X7_18) rfl hnm rfl rfl rfl hf dX7_init_20 (fun X5 hf H locs hR hS hz => ?_)
  subst hQ
  exact q_vret hx hb hr hlocks hR hS hz (Option.some.inj hf) dX7_init_23
/-! X9_init -/
def fX9_init (F : Nat) (X : qH) (sz a0 : Nat) : Option qH :=
qlt (qnI X sz 230) fun X1 =>
(qpR X1 8 a0 0 sz).bind fun X2 =>
(qpI X2 8 a0 1 (0 : Int32)).bind fun X3 =>
(qpI X3 8 a0 2 (-1 : Int32)).bind fun X4 =>
qlt (qnO X4 (sz + 1) 0 [.int 0, .int 0, .int 0, .int 0, .int 0, .int 0, .null, .null, .null, .null]) fun X5 =>
(fX0_init F X5 (sz + 2) (sz + 1)).bind fun X6 =>
(qpR X6 8 a0 3 (sz + 1)).bind fun X7 =>
qlt (qnO X7 (sz + 6) 0 [.int 0, .int 0, .int 0, .int 0, .int 0, .int 0, .null, .null, .null, .null]) fun X8 =>
(fX0_init F X8 (sz + 7) (sz + 6)).bind fun X9 =>
(qpR X9 8 a0 4 (sz + 6)).bind fun X10 =>
(qpI X10 8 a0 5 (0 : Int32)).bind fun X11 =>
qlt (qnO X11 (sz + 11) 6 [.null, .int 0, .int 0, .int 0, .int 0, .int 0, .int 0, .int 0]) fun X12 =>
(fX6_init F X12 (sz + 12) (sz + 11)).bind fun X13 =>
(qpR X13 8 a0 6 (sz + 11)).bind fun X14 =>
qlt (qnO X14 (sz + 13) 3 [.int 0, .int 0, .int 0, .int 0, .null, .null, .null, .null]) fun X15 =>
(fX3_init F X15 (sz + 14) (sz + 13)).bind fun X16 =>
(qpR X16 8 a0 7 (sz + 13)).bind fun X17 =>
(qgR X17 8 a0 7).bind fun v18 =>
(qgR X17 8 a0 3).bind fun v19 =>
(fX3_begin F X17 v18 v19).bind fun X20 =>
qlt (qnO X20 (sz + 18) 5 [.null, .int 0, .int 0]) fun X21 =>
(fX5_init F X21 (sz + 19) (sz + 18)).bind fun X22 =>
(qpR X22 8 a0 8 (sz + 18)).bind fun X23 =>
qlt (qnR X23 (sz + 120) 2) fun X24 =>
(qpR X24 8 a0 9 (sz + 120)).bind fun X25 =>
(qgR X25 8 a0 9).bind fun v26 =>
qlt (qnO X25 (sz + 121) 3 [.int 0, .int 0, .int 0, .int 0, .null, .null, .null, .null]) fun X27 =>
(fX3_init F X27 (sz + 122) (sz + 121)).bind fun X28 =>
(qaT X28 v26 (0 : Int32) (sz + 121)).bind fun X29 =>
(qgR X29 8 a0 9).bind fun v30 =>
qlt (qnO X29 (sz + 126) 3 [.int 0, .int 0, .int 0, .int 0, .null, .null, .null, .null]) fun X31 =>
(fX3_init F X31 (sz + 127) (sz + 126)).bind fun X32 =>
(qaT X32 v30 (1 : Int32) (sz + 126)).bind fun X33 =>
qlt (qnZ X33 (sz + 131) 2) fun X34 =>
(qpR X34 8 a0 10 (sz + 131)).bind fun X35 =>
qlt (qnI X35 (sz + 132) 2) fun X36 =>
(qpR X36 8 a0 11 (sz + 132)).bind fun X37 =>
qlt (qnO X37 (sz + 133) 7 [.null, .null]) fun X38 =>
(fX7_init F X38 (sz + 134) (sz + 133)).bind fun X39 =>
(qpR X39 8 a0 12 (sz + 133)).bind fun X40 =>
qlt (qnO X40 (sz + 140) 4 [.null, .null]) fun X41 =>
(fX4_init F X41 (sz + 141) (sz + 140)).bind fun X42 =>
(qpR X42 8 a0 13 (sz + 140)).bind fun X43 =>
qlt (qnO X43 (sz + 143) 2 [.int 0, .null, .null]) fun X44 =>
(fX2_init F X44 (sz + 144) (sz + 143)).bind fun X45 =>
(qpR X45 8 a0 14 (sz + 143)).bind fun X46 =>
qlt (qnO X46 (sz + 146) 1 [.int 0, .null, .null, .null]) fun X47 =>
(fX1_init F X47 (sz + 147) (sz + 146)).bind fun X48 =>
(qpR X48 8 a0 15 (sz + 146)).bind fun X49 =>
some X49
abbrev rmX9_init : Room := { frames := 3, cells := 150, slots := 1401, locals := 61 }
theorem hdX9_init : yX9_init.cls ≠ "java/lang/invoke/MethodHandle" ∧ yX9_init.cls ≠ "java/lang/invoke/VarHandle" ∧ (parseMethodDescriptor yX9_init.desc).map (fun d => d.parameters.length) = some 0 := by decide +kernel
set_option maxHeartbeats 4000000 in
set_option maxRecDepth 100000 in
theorem mX9_init (l : Launch) (D : va_G) (kz : Nat → Nat) (b0 sz F : Nat) (hb0 : b0 ≤ sz) (X : qH) (a0 : Nat) (Xr : qH) (hf : fX9_init F X sz a0 = some Xr) : Met l yX9_init (qws yX9_init cX9_init 2 none) rmX9_init (va_Pc [.ref a0] (qU D kz b0 sz X)) (va_Qv (fun (u : qH) => u = Xr) (fun u t => qO D kz b0 (sz + 150) u t) (qA b0)) 150 1401 (qA b0) := by
  refine q_start (by decide) (Nat.le_of_ble_eq_true rfl) ?_
  intro p e s m args below meth c hx hb hr hlocks hnm hml hown hT hR hK hz ls hl
  have hnm : meth.name = "<init>" := hnm
  have hown : s.vm.findClass RX9 = some m.cls := hown
  have hl : lv_has ls 2 [(0, .ref a0)] := hl
  have hS : va_S (qA b0) s.heap s.heap [] := va_S.rf
  obtain ⟨Q, hQ⟩ : ∃ Q, Q = MQ below (va_Qv (fun (u : qH) => u = Xr) (fun u t => qO D kz b0 (sz + 150) u t) (qA b0)) args s 150 1401 (qA b0) := ⟨_, rfl⟩
  rw [← hQ]
  unfold fX9_init at hf
  refine lv_aload_n hx hb dX9_init_0 rfl (lv_at hl 0 rfl) ?_
  refine W.objInit hx hb hown (hT _ wml_X9_1) (hT _ wim_objInit) (hT _ wco_objInit) rfl (by rw [hml]; exact hl.1) rfl dX9_init_1 (Nat.le_of_ble_eq_true rfl) (Nat.le_of_ble_eq_true rfl) ?_
  refine W.eq (g2 := F0 m 4 ls []) rfl ?_
  refine lv_aload_n hx hb dX9_init_4 rfl (lv_at hl 0 rfl) ?_
  refine lv_sipush (v := (230 : Int32)) hx hb dX9_init_5 (by decide) ?_
  obtain ⟨X1, eX1⟩ : ∃ y : qH, y = (qnI X sz 230) := ⟨_, rfl⟩
  have hf := q_lt eX1 hf
  refine q_newI (N := 230) hx hb (hT _ wac_int) hK hR hS hb0 hz (by decide) (by decide) (by decide) (Nat.le_of_ble_eq_true rfl) (Nat.le_of_ble_eq_true rfl) dX9_init_8 (fun H hR hS hz => ?_)
  rw [← eX1] at hR
  have hz : H.size = sz + 1 := hz
  refine W.cs (cells' := 1) (slots' := 230) rfl rfl ?_
  refine q_pF hx hb hT hown hK hR hS hz iqX9 vqX9 tyX9_ok nmX9 0 (by decide) (hT _ wfl_X9_9) rfl hnm rfl rfl rfl hf dX9_init_10 (fun X2 hf H locs hR hS hz => ?_)
  refine lv_aload_n hx hb dX9_init_13 rfl (lv_at hl 0 rfl) ?_
  refine lv_iconst (v := (0 : Int32)) hx hb dX9_init_14 (by decide) ?_
  refine q_pI hx hb hT hown hK hR hS hz iqX9 vqX9 tyX9_ok nmX9 1 (by decide) (hT _ wfl_X9_13) rfl rfl hf dX9_init_15 (fun X3 hf H locs hR hS hz => ?_)
  refine lv_aload_n hx hb dX9_init_18 rfl (lv_at hl 0 rfl) ?_
  refine lv_iconst (v := (-1 : Int32)) hx hb dX9_init_19 (by decide) ?_
  refine q_pI hx hb hT hown hK hR hS hz iqX9 vqX9 tyX9_ok nmX9 2 (by decide) (hT _ wfl_X9_17) rfl rfl hf dX9_init_20 (fun X4 hf H locs hR hS hz => ?_)
  refine lv_aload_n hx hb dX9_init_23 rfl (lv_at hl 0 rfl) ?_
  obtain ⟨X5, eX5⟩ : ∃ y : qH, y = (qnO X4 (sz + 1) 0 [.int 0, .int 0, .int 0, .int 0, .int 0, .int 0, .null, .null, .null, .null]) := ⟨_, rfl⟩
  have hf := q_lt eX5 hf
  refine q_newO hx hb hT hown iqX0 vqX0 tyX0_ok (hT _ wcl_X9_20) (hT _ wis_X0) (hT _ win_X0) hK hR hS (Nat.le_trans hb0 (Nat.le_add_right _ _)) hz [.int 0, .int 0, .int 0, .int 0, .int 0, .int 0, .null, .null, .null, .null] (by decide +kernel) (Nat.le_of_ble_eq_true rfl) (Nat.le_of_ble_eq_true rfl) dX9_init_24 (fun H hR hS hz => ?_)
  rw [← eX5] at hR
  have hz : H.size = sz + 2 := hz
  refine W.cs (cells' := 2) (slots' := 240) rfl rfl ?_
  refine lv_dup hx hb dX9_init_27 rfl ?_
  obtain ⟨X6, hc, hf⟩ := q_b hf
  refine q_callc (va_runI (As := []) (rest := [.ref (sz + 1), .ref a0]) ⟨hx, hb, hml, hown, hT⟩ (mX0_init l D kz b0 (sz + 2) F (Nat.le_trans hb0 (Nat.le_add_right _ _)) X5 (sz + 1) X6 hc) (cwI 0 hT (q_gI0 wco_X0_init) rfl rfl rfl (hT _ win_X0) (hT _ wml_X9_22) (hT _ wim_X0_init) rfl hdX0_init ⟨Nat.le_of_ble_eq_true rfl, Nat.le_of_ble_eq_true rfl⟩) (q_preS hR hK hz) rfl rfl hl.1 rfl (lv_room (Nat.le_of_ble_eq_true rfl)) dX9_init_28 ⟨Nat.le_of_ble_eq_true rfl, Nat.le_of_ble_eq_true rfl⟩) hS (fun H locs hR hS hz => ?_)
  have hz : H.size = sz + 6 := hz
  refine W.cs (cells' := 6) (slots' := 272) rfl rfl ?_
  refine q_pR hx hb hT hown hK hR hS hz iqX9 vqX9 tyX9_ok nmX9 3 (by decide) (hT _ wfl_X9_23) rfl rfl rfl hf dX9_init_31 (fun X7 hf H locs hR hS hz => ?_)
  refine lv_aload_n hx hb dX9_init_34 rfl (lv_at hl 0 rfl) ?_
  obtain ⟨X8, eX8⟩ : ∃ y : qH, y = (qnO X7 (sz + 6) 0 [.int 0, .int 0, .int 0, .int 0, .int 0, .int 0, .null, .null, .null, .null]) := ⟨_, rfl⟩
  have hf := q_lt eX8 hf
  refine q_newO hx hb hT hown iqX0 vqX0 tyX0_ok (hT _ wcl_X9_20) (hT _ wis_X0) (hT _ win_X0) hK hR hS (Nat.le_trans hb0 (Nat.le_add_right _ _)) hz [.int 0, .int 0, .int 0, .int 0, .int 0, .int 0, .null, .null, .null, .null] (by decide +kernel) (Nat.le_of_ble_eq_true rfl) (Nat.le_of_ble_eq_true rfl) dX9_init_35 (fun H hR hS hz => ?_)
  rw [← eX8] at hR
  have hz : H.size = sz + 7 := hz
  refine W.cs (cells' := 7) (slots' := 282) rfl rfl ?_
  refine lv_dup hx hb dX9_init_38 rfl ?_
  obtain ⟨X9, hc, hf⟩ := q_b hf
  refine q_callc (va_runI (As := []) (rest := [.ref (sz + 6), .ref a0]) ⟨hx, hb, hml, hown, hT⟩ (mX0_init l D kz b0 (sz + 7) F (Nat.le_trans hb0 (Nat.le_add_right _ _)) X8 (sz + 6) X9 hc) (cwI 0 hT (q_gI0 wco_X0_init) rfl rfl rfl (hT _ win_X0) (hT _ wml_X9_22) (hT _ wim_X0_init) rfl hdX0_init ⟨Nat.le_of_ble_eq_true rfl, Nat.le_of_ble_eq_true rfl⟩) (q_preS hR hK hz) rfl rfl hl.1 rfl (lv_room (Nat.le_of_ble_eq_true rfl)) dX9_init_39 ⟨Nat.le_of_ble_eq_true rfl, Nat.le_of_ble_eq_true rfl⟩) hS (fun H locs hR hS hz => ?_)
  have hz : H.size = sz + 11 := hz
  refine W.cs (cells' := 11) (slots' := 314) rfl rfl ?_
  refine q_pR hx hb hT hown hK hR hS hz iqX9 vqX9 tyX9_ok nmX9 4 (by decide) (hT _ wfl_X9_27) rfl rfl rfl hf dX9_init_42 (fun X10 hf H locs hR hS hz => ?_)
  refine lv_aload_n hx hb dX9_init_45 rfl (lv_at hl 0 rfl) ?_
  refine lv_iconst (v := (0 : Int32)) hx hb dX9_init_46 (by decide) ?_
  refine q_pI hx hb hT hown hK hR hS hz iqX9 vqX9 tyX9_ok nmX9 5 (by decide) (hT _ wfl_X9_30) rfl rfl hf dX9_init_47 (fun X11 hf H locs hR hS hz => ?_)
  refine lv_aload_n hx hb dX9_init_50 rfl (lv_at hl 0 rfl) ?_
  obtain ⟨X12, eX12⟩ : ∃ y : qH, y = (qnO X11 (sz + 11) 6 [.null, .int 0, .int 0, .int 0, .int 0, .int 0, .int 0, .int 0]) := ⟨_, rfl⟩
  have hf := q_lt eX12 hf
  refine q_newO hx hb hT hown iqX6 vqX6 tyX6_ok (hT _ wcl_X9_33) (hT _ wis_X6) (hT _ win_X6) hK hR hS (Nat.le_trans hb0 (Nat.le_add_right _ _)) hz [.null, .int 0, .int 0, .int 0, .int 0, .int 0, .int 0, .int 0] (by decide +kernel) (Nat.le_of_ble_eq_true rfl) (Nat.le_of_ble_eq_true rfl) dX9_init_51 (fun H hR hS hz => ?_)
  rw [← eX12] at hR
  have hz : H.size = sz + 12 := hz
  refine W.cs (cells' := 12) (slots' := 322) rfl rfl ?_
  refine lv_dup hx hb dX9_init_54 rfl ?_
  obtain ⟨X13, hc, hf⟩ := q_b hf
  refine q_callc (va_runIN (As := []) (rest := [.ref (sz + 11), .ref a0]) ⟨hx, hb, hml, hown, hT⟩ (mX6_init l D kz b0 (sz + 12) F (Nat.le_trans hb0 (Nat.le_add_right _ _)) X12 (sz + 11) X13 hc) ⟨va_cnB 0 hT (q_gI0 wco_X6_init) rfl rfl rfl hK.2.2.1 (hT _ win_X6) hdX6_init ⟨Nat.le_of_ble_eq_true rfl, Nat.le_of_ble_eq_true rfl⟩, rfl, hT _ wim_X6_init⟩ (q_preS hR hK hz) rfl rfl hl.1 rfl (lv_room (Nat.le_of_ble_eq_true rfl)) dX9_init_55 ⟨Nat.le_of_ble_eq_true rfl, Nat.le_of_ble_eq_true rfl⟩) hS (fun H locs hR hS hz => ?_)
  have hz : H.size = sz + 13 := hz
  refine W.cs (cells' := 13) (slots' := 322) rfl rfl ?_
  refine q_pF hx hb hT hown hK hR hS hz iqX9 vqX9 tyX9_ok nmX9 6 (by decide) (hT _ wfl_X9_36) rfl hnm rfl rfl rfl hf dX9_init_58 (fun X14 hf H locs hR hS hz => ?_)
  refine lv_aload_n hx hb dX9_init_61 rfl (lv_at hl 0 rfl) ?_
  obtain ⟨X15, eX15⟩ : ∃ y : qH, y = (qnO X14 (sz + 13) 3 [.int 0, .int 0, .int 0, .int 0, .null, .null, .null, .null]) := ⟨_, rfl⟩
  have hf := q_lt eX15 hf
  refine q_newO hx hb hT hown iqX3 vqX3 tyX3_ok (hT _ wcl_X9_40) (hT _ wis_X3) (hT _ win_X3) hK hR hS (Nat.le_trans hb0 (Nat.le_add_right _ _)) hz [.int 0, .int 0, .int 0, .int 0, .null, .null, .null, .null] (by decide +kernel) (Nat.le_of_ble_eq_true rfl) (Nat.le_of_ble_eq_true rfl) dX9_init_62 (fun H hR hS hz => ?_)
  rw [← eX15] at hR
  have hz : H.size = sz + 14 := hz
  refine W.cs (cells' := 14) (slots' := 330) rfl rfl ?_
  refine lv_dup hx hb dX9_init_65 rfl ?_
  obtain ⟨X16, hc, hf⟩ := q_b hf
  refine q_callc (va_runIN (As := []) (rest := [.ref (sz + 13), .ref a0]) ⟨hx, hb, hml, hown, hT⟩ (mX3_init l D kz b0 (sz + 14) F (Nat.le_trans hb0 (Nat.le_add_right _ _)) X15 (sz + 13) X16 hc) ⟨va_cnB 0 hT (q_gI0 wco_X3_init) rfl rfl rfl hK.2.2.2.1 (hT _ win_X3) hdX3_init ⟨Nat.le_of_ble_eq_true rfl, Nat.le_of_ble_eq_true rfl⟩, rfl, hT _ wim_X3_init⟩ (q_preS hR hK hz) rfl rfl hl.1 rfl (lv_room (Nat.le_of_ble_eq_true rfl)) dX9_init_66 ⟨Nat.le_of_ble_eq_true rfl, Nat.le_of_ble_eq_true rfl⟩) hS (fun H locs hR hS hz => ?_)
  have hz : H.size = sz + 18 := hz
  refine W.cs (cells' := 18) (slots' := 362) rfl rfl ?_
  refine q_pF hx hb hT hown hK hR hS hz iqX9 vqX9 tyX9_ok nmX9 7 (by decide) (hT _ wfl_X9_43) rfl hnm rfl rfl rfl hf dX9_init_69 (fun X17 hf H locs hR hS hz => ?_)
  refine lv_aload_n hx hb dX9_init_72 rfl (lv_at hl 0 rfl) ?_
  refine q_gR hx hb hT hown hK hR iqX9 vqX9 7 (by decide) (hT _ wfl_X9_43) hf dX9_init_73 (fun v18 hf => ?_)
  refine lv_aload_n hx hb dX9_init_76 rfl (lv_at hl 0 rfl) ?_
  refine q_gR hx hb hT hown hK hR iqX9 vqX9 3 (by decide) (hT _ wfl_X9_23) hf dX9_init_77 (fun v19 hf => ?_)
  obtain ⟨X20, hc, hf⟩ := q_b hf
  refine q_callv (va_runV (As := [.ref v19]) (rest := []) ⟨hx, hb, hml, hown, hT⟩ (mX3_begin l D kz b0 (sz + 18) F X17 v18 v19 X20 hc) (cwV 1 hT (q_gV wco_X3_begin wml_X9_47 wim_X3_begin wse_X3_begin win_X3) rfl rfl rfl hdX3_begin ⟨Nat.le_of_ble_eq_true rfl, Nat.le_of_ble_eq_true rfl⟩) (q_preV vqX3 (fX3_begin_is hc) hR hK hz) rfl rfl hl.1 rfl (lv_room (Nat.le_of_ble_eq_true rfl)) dX9_init_80 ⟨Nat.le_of_ble_eq_true rfl, Nat.le_of_ble_eq_true rfl⟩) hS (fun H locs hR hS hz => ?_)
  refine lv_aload_n hx hb dX9_init_83 rfl (lv_at hl 0 rfl) ?_
  obtain ⟨X21, eX21⟩ : ∃ y : qH, y = (qnO X20 (sz + 18) 5 [.null, .int 0, .int 0]) := ⟨_, rfl⟩
  have hf := q_lt eX21 hf
  refine q_newO hx hb hT hown iqX5 vqX5 tyX5_ok (hT _ wcl_X9_51) (hT _ wis_X5) (hT _ win_X5) hK hR hS (Nat.le_trans hb0 (Nat.le_add_right _ _)) hz [.null, .int 0, .int 0] (by decide +kernel) (Nat.le_of_ble_eq_true rfl) (Nat.le_of_ble_eq_true rfl) dX9_init_84 (fun H hR hS hz => ?_)
  rw [← eX21] at hR
  have hz : H.size = sz + 19 := hz
  refine W.cs (cells' := 19) (slots' := 365) rfl rfl ?_
  refine lv_dup hx hb dX9_init_87 rfl ?_
  obtain ⟨X22, hc, hf⟩ := q_b hf
  refine q_callc (va_runI (As := []) (rest := [.ref (sz + 18), .ref a0]) ⟨hx, hb, hml, hown, hT⟩ (mX5_init l D kz b0 (sz + 19) F (Nat.le_trans hb0 (Nat.le_add_right _ _)) X21 (sz + 18) X22 hc) (cwI 0 hT (q_gI0 wco_X5_init) rfl rfl rfl (hT _ win_X5) (hT _ wml_X9_53) (hT _ wim_X5_init) rfl hdX5_init ⟨Nat.le_of_ble_eq_true rfl, Nat.le_of_ble_eq_true rfl⟩) (q_preS hR hK hz) rfl rfl hl.1 rfl (lv_room (Nat.le_of_ble_eq_true rfl)) dX9_init_88 ⟨Nat.le_of_ble_eq_true rfl, Nat.le_of_ble_eq_true rfl⟩) hS (fun H locs hR hS hz => ?_)
  have hz : H.size = sz + 120 := hz
  refine W.cs (cells' := 120) (slots' := 1185) rfl rfl ?_
  refine q_pF hx hb hT hown hK hR hS hz iqX9 vqX9 tyX9_ok nmX9 8 (by decide) (hT _ wfl_X9_54) rfl hnm rfl rfl rfl hf dX9_init_91 (fun X23 hf H locs hR hS hz => ?_)
  refine lv_aload_n hx hb dX9_init_94 rfl (lv_at hl 0 rfl) ?_
  refine lv_iconst (v := (2 : Int32)) hx hb dX9_init_95 (by decide) ?_
  obtain ⟨X24, eX24⟩ : ∃ y : qH, y = (qnR X23 (sz + 120) 2) := ⟨_, rfl⟩
  have hf := q_lt eX24 hf
  refine q_newR (N := 2) hx hb hown (hT _ wcl_X9_40) hK hR hS (Nat.le_trans hb0 (Nat.le_add_right _ _)) hz (by decide) (by decide) (by decide) (Nat.le_of_ble_eq_true rfl) (Nat.le_of_ble_eq_true rfl) dX9_init_96 (fun H hR hS hz => ?_)
  rw [← eX24] at hR
  have hz : H.size = sz + 121 := hz
  refine W.cs (cells' := 121) (slots' := 1187) rfl rfl ?_
  refine q_pF hx hb hT hown hK hR hS hz iqX9 vqX9 tyX9_ok nmX9 9 (by decide) (hT _ wfl_X9_58) rfl hnm rfl rfl rfl hf dX9_init_99 (fun X25 hf H locs hR hS hz => ?_)
  refine lv_iconst (v := (0 : Int32)) hx hb dX9_init_102 (by decide) ?_
  refine lv_istore_n (lv' := [(1, .int (0 : Int32)), (0, .ref a0)]) hx hb dX9_init_103 rfl hl (by decide) rfl (fun ls hl => ?_)
  refine lv_iload_n hx hb dX9_init_104 rfl (lv_at hl 0 rfl) ?_
  refine lv_iconst (v := (2 : Int32)) hx hb dX9_init_105 (by decide) ?_
  refine lv_icmp_ge (tgt := 128) hx hb dX9_init_106 (by decide) (fun hc => absurd hc (by decide)) (fun _ => ?_)
  refine lv_aload_n hx hb dX9_init_109 rfl (lv_at hl 1 rfl) ?_
  refine q_gR hx hb hT hown hK hR iqX9 vqX9 9 (by decide) (hT _ wfl_X9_58) hf dX9_init_110 (fun v26 hf => ?_)
  refine lv_iload_n hx hb dX9_init_113 rfl (lv_at hl 0 rfl) ?_
  obtain ⟨X27, eX27⟩ : ∃ y : qH, y = (qnO X25 (sz + 121) 3 [.int 0, .int 0, .int 0, .int 0, .null, .null, .null, .null]) := ⟨_, rfl⟩
  have hf := q_lt eX27 hf
  refine q_newO hx hb hT hown iqX3 vqX3 tyX3_ok (hT _ wcl_X9_40) (hT _ wis_X3) (hT _ win_X3) hK hR hS (Nat.le_trans hb0 (Nat.le_add_right _ _)) hz [.int 0, .int 0, .int 0, .int 0, .null, .null, .null, .null] (by decide +kernel) (Nat.le_of_ble_eq_true rfl) (Nat.le_of_ble_eq_true rfl) dX9_init_114 (fun H hR hS hz => ?_)
  rw [← eX27] at hR
  have hz : H.size = sz + 122 := hz
  refine W.cs (cells' := 122) (slots' := 1195) rfl rfl ?_
  refine lv_dup hx hb dX9_init_117 rfl ?_
  obtain ⟨X28, hc, hf⟩ := q_b hf
  refine q_callc (va_runIN (As := []) (rest := [.ref (sz + 121), .int (0 : Int32), .ref v26]) ⟨hx, hb, hml, hown, hT⟩ (mX3_init l D kz b0 (sz + 122) F (Nat.le_trans hb0 (Nat.le_add_right _ _)) X27 (sz + 121) X28 hc) ⟨va_cnB 0 hT (q_gI0 wco_X3_init) rfl rfl rfl hK.2.2.2.1 (hT _ win_X3) hdX3_init ⟨Nat.le_of_ble_eq_true rfl, Nat.le_of_ble_eq_true rfl⟩, rfl, hT _ wim_X3_init⟩ (q_preS hR hK hz) rfl rfl hl.1 rfl (lv_room (Nat.le_of_ble_eq_true rfl)) dX9_init_118 ⟨Nat.le_of_ble_eq_true rfl, Nat.le_of_ble_eq_true rfl⟩) hS (fun H locs hR hS hz => ?_)
  have hz : H.size = sz + 126 := hz
  refine W.cs (cells' := 126) (slots' := 1227) rfl rfl ?_
  refine q_aast hx hb hK hR hS hz hf dX9_init_121 (fun X29 hf H locs hR hS hz => ?_)
  refine lv_iinc (v := (1 : Int32)) (lv' := [(1, .int (1 : Int32)), (0, .ref a0)]) hx hb dX9_init_122 hl (k := 0) rfl (by decide) (by decide) rfl (fun ls hl => ?_)
  refine lv_goto (tgt := 104) hx hb dX9_init_125 (by decide) ?_
  refine lv_iload_n hx hb dX9_init_104 rfl (lv_at hl 0 rfl) ?_
  refine lv_iconst (v := (2 : Int32)) hx hb dX9_init_105 (by decide) ?_
  refine lv_icmp_ge (tgt := 128) hx hb dX9_init_106 (by decide) (fun hc => absurd hc (by decide)) (fun _ => ?_)
  refine lv_aload_n hx hb dX9_init_109 rfl (lv_at hl 1 rfl) ?_
  refine q_gR hx hb hT hown hK hR iqX9 vqX9 9 (by decide) (hT _ wfl_X9_58) hf dX9_init_110 (fun v30 hf => ?_)
  refine lv_iload_n hx hb dX9_init_113 rfl (lv_at hl 0 rfl) ?_
  obtain ⟨X31, eX31⟩ : ∃ y : qH, y = (qnO X29 (sz + 126) 3 [.int 0, .int 0, .int 0, .int 0, .null, .null, .null, .null]) := ⟨_, rfl⟩
  have hf := q_lt eX31 hf
  refine q_newO hx hb hT hown iqX3 vqX3 tyX3_ok (hT _ wcl_X9_40) (hT _ wis_X3) (hT _ win_X3) hK hR hS (Nat.le_trans hb0 (Nat.le_add_right _ _)) hz [.int 0, .int 0, .int 0, .int 0, .null, .null, .null, .null] (by decide +kernel) (Nat.le_of_ble_eq_true rfl) (Nat.le_of_ble_eq_true rfl) dX9_init_114 (fun H hR hS hz => ?_)
  rw [← eX31] at hR
  have hz : H.size = sz + 127 := hz
  refine W.cs (cells' := 127) (slots' := 1235) rfl rfl ?_
  refine lv_dup hx hb dX9_init_117 rfl ?_
  obtain ⟨X32, hc, hf⟩ := q_b hf
  refine q_callc (va_runIN (As := []) (rest := [.ref (sz + 126), .int (1 : Int32), .ref v30]) ⟨hx, hb, hml, hown, hT⟩ (mX3_init l D kz b0 (sz + 127) F (Nat.le_trans hb0 (Nat.le_add_right _ _)) X31 (sz + 126) X32 hc) ⟨va_cnB 0 hT (q_gI0 wco_X3_init) rfl rfl rfl hK.2.2.2.1 (hT _ win_X3) hdX3_init ⟨Nat.le_of_ble_eq_true rfl, Nat.le_of_ble_eq_true rfl⟩, rfl, hT _ wim_X3_init⟩ (q_preS hR hK hz) rfl rfl hl.1 rfl (lv_room (Nat.le_of_ble_eq_true rfl)) dX9_init_118 ⟨Nat.le_of_ble_eq_true rfl, Nat.le_of_ble_eq_true rfl⟩) hS (fun H locs hR hS hz => ?_)
  have hz : H.size = sz + 131 := hz
  refine W.cs (cells' := 131) (slots' := 1267) rfl rfl ?_
  refine q_aast hx hb hK hR hS hz hf dX9_init_121 (fun X33 hf H locs hR hS hz => ?_)
  refine lv_iinc (v := (2 : Int32)) (lv' := [(1, .int (2 : Int32)), (0, .ref a0)]) hx hb dX9_init_122 hl (k := 0) rfl (by decide) (by decide) rfl (fun ls hl => ?_)
  refine lv_goto (tgt := 104) hx hb dX9_init_125 (by decide) ?_
  refine lv_iload_n hx hb dX9_init_104 rfl (lv_at hl 0 rfl) ?_
  refine lv_iconst (v := (2 : Int32)) hx hb dX9_init_105 (by decide) ?_
  refine lv_icmp_ge (tgt := 128) hx hb dX9_init_106 (by decide) (fun _ => ?_) (fun hc => absurd (by decide) hc)
  refine lv_aload_n hx hb dX9_init_128 rfl (lv_at hl 1 rfl) ?_
  refine lv_iconst (v := (2 : Int32)) hx hb dX9_init_129 (by decide) ?_
  obtain ⟨X34, eX34⟩ : ∃ y : qH, y = (qnZ X33 (sz + 131) 2) := ⟨_, rfl⟩
  have hf := q_lt eX34 hf
  refine q_newZ (N := 2) hx hb (hT _ wac_boolean) hK hR hS (Nat.le_trans hb0 (Nat.le_add_right _ _)) hz (by decide) (by decide) (by decide) (Nat.le_of_ble_eq_true rfl) (Nat.le_of_ble_eq_true rfl) dX9_init_130 (fun H hR hS hz => ?_)
  rw [← eX34] at hR
  have hz : H.size = sz + 132 := hz
  refine W.cs (cells' := 132) (slots' := 1269) rfl rfl ?_
  refine q_pF hx hb hT hown hK hR hS hz iqX9 vqX9 tyX9_ok nmX9 10 (by decide) (hT _ wfl_X9_62) rfl hnm rfl rfl rfl hf dX9_init_132 (fun X35 hf H locs hR hS hz => ?_)
  refine lv_aload_n hx hb dX9_init_135 rfl (lv_at hl 1 rfl) ?_
  refine lv_iconst (v := (2 : Int32)) hx hb dX9_init_136 (by decide) ?_
  obtain ⟨X36, eX36⟩ : ∃ y : qH, y = (qnI X35 (sz + 132) 2) := ⟨_, rfl⟩
  have hf := q_lt eX36 hf
  refine q_newI (N := 2) hx hb (hT _ wac_int) hK hR hS (Nat.le_trans hb0 (Nat.le_add_right _ _)) hz (by decide) (by decide) (by decide) (Nat.le_of_ble_eq_true rfl) (Nat.le_of_ble_eq_true rfl) dX9_init_137 (fun H hR hS hz => ?_)
  rw [← eX36] at hR
  have hz : H.size = sz + 133 := hz
  refine W.cs (cells' := 133) (slots' := 1271) rfl rfl ?_
  refine q_pF hx hb hT hown hK hR hS hz iqX9 vqX9 tyX9_ok nmX9 11 (by decide) (hT _ wfl_X9_66) rfl hnm rfl rfl rfl hf dX9_init_139 (fun X37 hf H locs hR hS hz => ?_)
  refine lv_aload_n hx hb dX9_init_142 rfl (lv_at hl 1 rfl) ?_
  obtain ⟨X38, eX38⟩ : ∃ y : qH, y = (qnO X37 (sz + 133) 7 [.null, .null]) := ⟨_, rfl⟩
  have hf := q_lt eX38 hf
  refine q_newO hx hb hT hown iqX7 vqX7 tyX7_ok (hT _ wcl_X9_69) (hT _ wis_X7) (hT _ win_X7) hK hR hS (Nat.le_trans hb0 (Nat.le_add_right _ _)) hz [.null, .null] (by decide +kernel) (Nat.le_of_ble_eq_true rfl) (Nat.le_of_ble_eq_true rfl) dX9_init_143 (fun H hR hS hz => ?_)
  rw [← eX38] at hR
  have hz : H.size = sz + 134 := hz
  refine W.cs (cells' := 134) (slots' := 1273) rfl rfl ?_
  refine lv_dup hx hb dX9_init_146 rfl ?_
  obtain ⟨X39, hc, hf⟩ := q_b hf
  refine q_callc (va_runIN (As := []) (rest := [.ref (sz + 133), .ref a0]) ⟨hx, hb, hml, hown, hT⟩ (mX7_init l D kz b0 (sz + 134) F (Nat.le_trans hb0 (Nat.le_add_right _ _)) X38 (sz + 133) X39 hc) ⟨va_cnB 0 hT (q_gI0 wco_X7_init) rfl rfl rfl hK.2.2.2.2.1 (hT _ win_X7) hdX7_init ⟨Nat.le_of_ble_eq_true rfl, Nat.le_of_ble_eq_true rfl⟩, rfl, hT _ wim_X7_init⟩ (q_preS hR hK hz) rfl rfl hl.1 rfl (lv_room (Nat.le_of_ble_eq_true rfl)) dX9_init_147 ⟨Nat.le_of_ble_eq_true rfl, Nat.le_of_ble_eq_true rfl⟩) hS (fun H locs hR hS hz => ?_)
  have hz : H.size = sz + 140 := hz
  refine W.cs (cells' := 140) (slots' := 1319) rfl rfl ?_
  refine q_pF hx hb hT hown hK hR hS hz iqX9 vqX9 tyX9_ok nmX9 12 (by decide) (hT _ wfl_X9_72) rfl hnm rfl rfl rfl hf dX9_init_150 (fun X40 hf H locs hR hS hz => ?_)
  refine lv_aload_n hx hb dX9_init_153 rfl (lv_at hl 1 rfl) ?_
  obtain ⟨X41, eX41⟩ : ∃ y : qH, y = (qnO X40 (sz + 140) 4 [.null, .null]) := ⟨_, rfl⟩
  have hf := q_lt eX41 hf
  refine q_newO hx hb hT hown iqX4 vqX4 tyX4_ok (hT _ wcl_X9_76) (hT _ wis_X4) (hT _ win_X4) hK hR hS (Nat.le_trans hb0 (Nat.le_add_right _ _)) hz [.null, .null] (by decide +kernel) (Nat.le_of_ble_eq_true rfl) (Nat.le_of_ble_eq_true rfl) dX9_init_154 (fun H hR hS hz => ?_)
  rw [← eX41] at hR
  have hz : H.size = sz + 141 := hz
  refine W.cs (cells' := 141) (slots' := 1321) rfl rfl ?_
  refine lv_dup hx hb dX9_init_157 rfl ?_
  obtain ⟨X42, hc, hf⟩ := q_b hf
  refine q_callc (va_runIN (As := []) (rest := [.ref (sz + 140), .ref a0]) ⟨hx, hb, hml, hown, hT⟩ (mX4_init l D kz b0 (sz + 141) F (Nat.le_trans hb0 (Nat.le_add_right _ _)) X41 (sz + 140) X42 hc) ⟨va_cnB 0 hT (q_gI0 wco_X4_init) rfl rfl rfl hK.2.2.2.2.2.1 (hT _ win_X4) hdX4_init ⟨Nat.le_of_ble_eq_true rfl, Nat.le_of_ble_eq_true rfl⟩, rfl, hT _ wim_X4_init⟩ (q_preS hR hK hz) rfl rfl hl.1 rfl (lv_room (Nat.le_of_ble_eq_true rfl)) dX9_init_158 ⟨Nat.le_of_ble_eq_true rfl, Nat.le_of_ble_eq_true rfl⟩) hS (fun H locs hR hS hz => ?_)
  have hz : H.size = sz + 143 := hz
  refine W.cs (cells' := 143) (slots' := 1337) rfl rfl ?_
  refine q_pF hx hb hT hown hK hR hS hz iqX9 vqX9 tyX9_ok nmX9 13 (by decide) (hT _ wfl_X9_79) rfl hnm rfl rfl rfl hf dX9_init_161 (fun X43 hf H locs hR hS hz => ?_)
  refine lv_aload_n hx hb dX9_init_164 rfl (lv_at hl 1 rfl) ?_
  obtain ⟨X44, eX44⟩ : ∃ y : qH, y = (qnO X43 (sz + 143) 2 [.int 0, .null, .null]) := ⟨_, rfl⟩
  have hf := q_lt eX44 hf
  refine q_newO hx hb hT hown iqX2 vqX2 tyX2_ok (hT _ wcl_X9_83) (hT _ wis_X2) (hT _ win_X2) hK hR hS (Nat.le_trans hb0 (Nat.le_add_right _ _)) hz [.int 0, .null, .null] (by decide +kernel) (Nat.le_of_ble_eq_true rfl) (Nat.le_of_ble_eq_true rfl) dX9_init_165 (fun H hR hS hz => ?_)
  rw [← eX44] at hR
  have hz : H.size = sz + 144 := hz
  refine W.cs (cells' := 144) (slots' := 1340) rfl rfl ?_
  refine lv_dup hx hb dX9_init_168 rfl ?_
  obtain ⟨X45, hc, hf⟩ := q_b hf
  refine q_callc (va_runIN (As := []) (rest := [.ref (sz + 143), .ref a0]) ⟨hx, hb, hml, hown, hT⟩ (mX2_init l D kz b0 (sz + 144) F (Nat.le_trans hb0 (Nat.le_add_right _ _)) X44 (sz + 143) X45 hc) ⟨va_cnB 0 hT (q_gI0 wco_X2_init) rfl rfl rfl hK.2.2.2.2.2.2.1 (hT _ win_X2) hdX2_init ⟨Nat.le_of_ble_eq_true rfl, Nat.le_of_ble_eq_true rfl⟩, rfl, hT _ wim_X2_init⟩ (q_preS hR hK hz) rfl rfl hl.1 rfl (lv_room (Nat.le_of_ble_eq_true rfl)) dX9_init_169 ⟨Nat.le_of_ble_eq_true rfl, Nat.le_of_ble_eq_true rfl⟩) hS (fun H locs hR hS hz => ?_)
  have hz : H.size = sz + 146 := hz
  refine W.cs (cells' := 146) (slots' := 1352) rfl rfl ?_
  refine q_pF hx hb hT hown hK hR hS hz iqX9 vqX9 tyX9_ok nmX9 14 (by decide) (hT _ wfl_X9_86) rfl hnm rfl rfl rfl hf dX9_init_172 (fun X46 hf H locs hR hS hz => ?_)
  refine lv_aload_n hx hb dX9_init_175 rfl (lv_at hl 1 rfl) ?_
  obtain ⟨X47, eX47⟩ : ∃ y : qH, y = (qnO X46 (sz + 146) 1 [.int 0, .null, .null, .null]) := ⟨_, rfl⟩
  have hf := q_lt eX47 hf
  refine q_newO hx hb hT hown iqX1 vqX1 tyX1_ok (hT _ wcl_X9_90) (hT _ wis_X1) (hT _ win_X1) hK hR hS (Nat.le_trans hb0 (Nat.le_add_right _ _)) hz [.int 0, .null, .null, .null] (by decide +kernel) (Nat.le_of_ble_eq_true rfl) (Nat.le_of_ble_eq_true rfl) dX9_init_176 (fun H hR hS hz => ?_)
  rw [← eX47] at hR
  have hz : H.size = sz + 147 := hz
  refine W.cs (cells' := 147) (slots' := 1356) rfl rfl ?_
  refine lv_dup hx hb dX9_init_179 rfl ?_
  obtain ⟨X48, hc, hf⟩ := q_b hf
  refine q_callc (va_runIN (As := []) (rest := [.ref (sz + 146), .ref a0]) ⟨hx, hb, hml, hown, hT⟩ (mX1_init l D kz b0 (sz + 147) F (Nat.le_trans hb0 (Nat.le_add_right _ _)) X47 (sz + 146) X48 hc) ⟨va_cnB 0 hT (q_gI0 wco_X1_init) rfl rfl rfl hK.2.2.2.2.2.2.2.1 (hT _ win_X1) hdX1_init ⟨Nat.le_of_ble_eq_true rfl, Nat.le_of_ble_eq_true rfl⟩, rfl, hT _ wim_X1_init⟩ (q_preS hR hK hz) rfl rfl hl.1 rfl (lv_room (Nat.le_of_ble_eq_true rfl)) dX9_init_180 ⟨Nat.le_of_ble_eq_true rfl, Nat.le_of_ble_eq_true rfl⟩) hS (fun H locs hR hS hz => ?_)
  have hz : H.size = sz + 150 := hz
  refine W.cs (cells' := 150) (slots' := 1401) rfl rfl ?_
  refine q_pF hx hb hT hown hK hR hS hz iqX9 vqX9 tyX9_ok nmX9 15 (by decide) (hT _ wfl_X9_93) rfl hnm rfl rfl rfl hf dX9_init_183 (fun X49 hf H locs hR hS hz => ?_)
  subst hQ
  exact q_vret hx hb hr hlocks hR hS hz (Option.some.inj hf) dX9_init_186
