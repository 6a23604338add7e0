/-! X10_init -/
def fX10_init (F : Nat) (X : qH) (sz a0 : Nat) : Option qH :=
qlt (qnI X sz 8) fun X1 =>
(qpR X1 9 a0 2 sz).bind fun X2 =>
qlt (qnI X2 (sz + 1) 8) fun X3 =>
(qpR X3 9 a0 3 (sz + 1)).bind fun X4 =>
qlt (qnI X4 (sz + 2) 8) fun X5 =>
(qpR X5 9 a0 4 (sz + 2)).bind fun X6 =>
qlt (qnI X6 (sz + 3) 40) fun X7 =>
(qpR X7 9 a0 5 (sz + 3)).bind fun X8 =>
(qpI X8 9 a0 6 (2 : Int32)).bind fun X9 =>
(qpI X9 9 a0 7 (10 : Int32)).bind fun X10 =>
qlt (qnI X10 (sz + 4) 43) fun X11 =>
(qpR X11 9 a0 8 (sz + 4)).bind fun X12 =>
qlt (qnI X12 (sz + 5) 230) fun X13 =>
(qpR X13 9 a0 10 (sz + 5)).bind fun X14 =>
(qpI X14 9 a0 12 (-1 : Int32)).bind fun X15 =>
qlt (qnI X15 (sz + 6) 3) fun X16 =>
(qpR X16 9 a0 16 (sz + 6)).bind fun X17 =>
qlt (qnI X17 (sz + 7) 8) fun X18 =>
(qpR X18 9 a0 18 (sz + 7)).bind fun X19 =>
qlt (qnI X19 (sz + 8) 8) fun X20 =>
(qpR X20 9 a0 19 (sz + 8)).bind fun X21 =>
qlt (qnI X21 (sz + 9) 8) fun X22 =>
(qpR X22 9 a0 20 (sz + 9)).bind fun X23 =>
qlt (qnI X23 (sz + 10) 8) fun X24 =>
(qpR X24 9 a0 21 (sz + 10)).bind fun X25 =>
qlt (qnI X25 (sz + 11) 40) fun X26 =>
(qpR X26 9 a0 22 (sz + 11)).bind fun X27 =>
qlt (qnI X27 (sz + 12) 1) fun X28 =>
(qpR X28 9 a0 23 (sz + 12)).bind fun X29 =>
qlt (qnI X29 (sz + 13) 1) fun X30 =>
(qpR X30 9 a0 24 (sz + 13)).bind fun X31 =>
qlt (qnI X31 (sz + 14) 860) fun X32 =>
(qpR X32 9 a0 28 (sz + 14)).bind fun X33 =>
qlt (qnI X33 (sz + 15) 43) fun X34 =>
(qpR X34 9 a0 29 (sz + 15)).bind fun X35 =>
qlt (qnI X35 (sz + 16) 5) fun X36 =>
(qpR X36 9 a0 30 (sz + 16)).bind fun X37 =>
qlt (qnI X37 (sz + 17) 8) fun X38 =>
(qpR X38 9 a0 31 (sz + 17)).bind fun X39 =>
qlt (qnI X39 (sz + 18) 8) fun X40 =>
(qpR X40 9 a0 32 (sz + 18)).bind fun X41 =>
qlt (qnI X41 (sz + 19) 6) fun X42 =>
(qpR X42 9 a0 34 (sz + 19)).bind fun X43 =>
qlt (qnI X43 (sz + 20) 6) fun X44 =>
(qpR X44 9 a0 35 (sz + 20)).bind fun X45 =>
qlt (qnI X45 (sz + 21) 15) fun X46 =>
(qpR X46 9 a0 37 (sz + 21)).bind fun X47 =>
qlt (qnI X47 (sz + 22) 15) fun X48 =>
(qpR X48 9 a0 38 (sz + 22)).bind fun X49 =>
qlt (qnZ X49 (sz + 23) 15) fun X50 =>
(qpR X50 9 a0 39 (sz + 23)).bind fun X51 =>
qlt (qnI X51 (sz + 24) 88) fun X52 =>
(qpR X52 9 a0 40 (sz + 24)).bind fun X53 =>
qlt (qnZ X53 (sz + 25) 2) fun X54 =>
(qpR X54 9 a0 41 (sz + 25)).bind fun X55 =>
(qpI X55 9 a0 0 (0 : Int32)).bind fun X56 =>
some X56
abbrev rmX10_init : Room := { frames := 1, cells := 26, slots := 1485, locals := 20 }
theorem hdX10_init : yX10_init.cls ≠ "java/lang/invoke/MethodHandle" ∧ yX10_init.cls ≠ "java/lang/invoke/VarHandle" ∧ (parseMethodDescriptor yX10_init.desc).map (fun d => d.parameters.length) = some 0 := by decide +kernel
set_option maxHeartbeats 4000000 in
set_option maxRecDepth 100000 in
theorem mX10_init (l : Launch) (D : va_G) (kz : Nat → Nat) (b0 sz F : Nat) (hb0 : b0 ≤ sz) (X : qH) (a0 : Nat) (Xr : qH) (hf : fX10_init F X sz a0 = some Xr) : Met l yX10_init (qws yX10_init cX10_init 1 none) rmX10_init (va_Pc [.ref a0] (qU D kz b0 sz X)) (va_Qv (fun (u : qH) => u = Xr) (fun u t => qO D kz b0 (sz + 26) u t) (qA b0)) 26 1485 (qA b0) := by
  refine q_start (by decide) (Nat.le_of_ble_eq_true rfl) ?_
  intro p e s m args below meth c hx hb hr hlocks hnm hml hown hT hR hK hz ls hl
  have hnm : meth.name = "<init>" := hnm
  have hown : s.vm.findClass RX10 = some m.cls := hown
  have hl : lv_has ls 1 [(0, .ref a0)] := hl
  have hS : va_S (qA b0) s.heap s.heap [] := va_S.rf
  obtain ⟨Q, hQ⟩ : ∃ Q, Q = MQ below (va_Qv (fun (u : qH) => u = Xr) (fun u t => qO D kz b0 (sz + 26) u t) (qA b0)) args s 26 1485 (qA b0) := ⟨_, rfl⟩
  rw [← hQ]
  unfold fX10_init at hf
  refine lv_aload_n hx hb dX10_init_0 rfl (lv_at hl 0 rfl) ?_
  refine W.objInit hx hb hown (hT _ wml_X10_1) (hT _ wim_objInit) (hT _ wco_objInit) rfl (by rw [hml]; exact hl.1) rfl dX10_init_1 (Nat.le_of_ble_eq_true rfl) (Nat.le_of_ble_eq_true rfl) ?_
  refine W.eq (g2 := F0 m 4 ls []) rfl ?_
  refine lv_aload_n hx hb dX10_init_4 rfl (lv_at hl 0 rfl) ?_
  refine lv_bipush (v := (8 : Int32)) hx hb dX10_init_5 (by decide) ?_
  obtain ⟨X1, eX1⟩ : ∃ y : qH, y = (qnI X sz 8) := ⟨_, rfl⟩
  have hf := q_lt eX1 hf
  refine q_newI (N := 8) hx hb (hT _ wac_int) hK hR hS hb0 hz (by decide) (by decide) (by decide) (Nat.le_of_ble_eq_true rfl) (Nat.le_of_ble_eq_true rfl) dX10_init_7 (fun H hR hS hz => ?_)
  rw [← eX1] at hR
  have hz : H.size = sz + 1 := hz
  refine W.cs (cells' := 1) (slots' := 8) rfl rfl ?_
  refine q_pF hx hb hT hown hK hR hS hz iqX10 vqX10 tyX10_ok nmX10 2 (by decide) (hT _ wfl_X10_7) rfl hnm rfl rfl rfl hf dX10_init_9 (fun X2 hf H locs hR hS hz => ?_)
  refine lv_aload_n hx hb dX10_init_12 rfl (lv_at hl 0 rfl) ?_
  refine lv_bipush (v := (8 : Int32)) hx hb dX10_init_13 (by decide) ?_
  obtain ⟨X3, eX3⟩ : ∃ y : qH, y = (qnI X2 (sz + 1) 8) := ⟨_, rfl⟩
  have hf := q_lt eX3 hf
  refine q_newI (N := 8) hx hb (hT _ wac_int) hK hR hS (Nat.le_trans hb0 (Nat.le_add_right _ _)) hz (by decide) (by decide) (by decide) (Nat.le_of_ble_eq_true rfl) (Nat.le_of_ble_eq_true rfl) dX10_init_15 (fun H hR hS hz => ?_)
  rw [← eX3] at hR
  have hz : H.size = sz + 2 := hz
  refine W.cs (cells' := 2) (slots' := 16) rfl rfl ?_
  refine q_pF hx hb hT hown hK hR hS hz iqX10 vqX10 tyX10_ok nmX10 3 (by decide) (hT _ wfl_X10_13) rfl hnm rfl rfl rfl hf dX10_init_17 (fun X4 hf H locs hR hS hz => ?_)
  refine lv_aload_n hx hb dX10_init_20 rfl (lv_at hl 0 rfl) ?_
  refine lv_bipush (v := (8 : Int32)) hx hb dX10_init_21 (by decide) ?_
  obtain ⟨X5, eX5⟩ : ∃ y : qH, y = (qnI X4 (sz + 2) 8) := ⟨_, rfl⟩
  have hf := q_lt eX5 hf
  refine q_newI (N := 8) hx hb (hT _ wac_int) hK hR hS (Nat.le_trans hb0 (Nat.le_add_right _ _)) hz (by decide) (by decide) (by decide) (Nat.le_of_ble_eq_true rfl) (Nat.le_of_ble_eq_true rfl) dX10_init_23 (fun H hR hS hz => ?_)
  rw [← eX5] at hR
  have hz : H.size = sz + 3 := hz
  refine W.cs (cells' := 3) (slots' := 24) rfl rfl ?_
  refine q_pF hx hb hT hown hK hR hS hz iqX10 vqX10 tyX10_ok nmX10 4 (by decide) (hT _ wfl_X10_16) rfl hnm rfl rfl rfl hf dX10_init_25 (fun X6 hf H locs hR hS hz => ?_)
  refine lv_aload_n hx hb dX10_init_28 rfl (lv_at hl 0 rfl) ?_
  refine lv_bipush (v := (40 : Int32)) hx hb dX10_init_29 (by decide) ?_
  obtain ⟨X7, eX7⟩ : ∃ y : qH, y = (qnI X6 (sz + 3) 40) := ⟨_, rfl⟩
  have hf := q_lt eX7 hf
  refine q_newI (N := 40) hx hb (hT _ wac_int) hK hR hS (Nat.le_trans hb0 (Nat.le_add_right _ _)) hz (by decide) (by decide) (by decide) (Nat.le_of_ble_eq_true rfl) (Nat.le_of_ble_eq_true rfl) dX10_init_31 (fun H hR hS hz => ?_)
  rw [← eX7] at hR
  have hz : H.size = sz + 4 := hz
  refine W.cs (cells' := 4) (slots' := 64) rfl rfl ?_
  refine q_pF hx hb hT hown hK hR hS hz iqX10 vqX10 tyX10_ok nmX10 5 (by decide) (hT _ wfl_X10_19) rfl hnm rfl rfl rfl hf dX10_init_33 (fun X8 hf H locs hR hS hz => ?_)
  refine lv_aload_n hx hb dX10_init_36 rfl (lv_at hl 0 rfl) ?_
  refine lv_iconst (v := (2 : Int32)) hx hb dX10_init_37 (by decide) ?_
  refine q_pI hx hb hT hown hK hR hS hz iqX10 vqX10 tyX10_ok nmX10 6 (by decide) (hT _ wfl_X10_22) rfl rfl hf dX10_init_38 (fun X9 hf H locs hR hS hz => ?_)
  refine lv_aload_n hx hb dX10_init_41 rfl (lv_at hl 0 rfl) ?_
  refine lv_bipush (v := (10 : Int32)) hx hb dX10_init_42 (by decide) ?_
  refine q_pI hx hb hT hown hK hR hS hz iqX10 vqX10 tyX10_ok nmX10 7 (by decide) (hT _ wfl_X10_26) rfl rfl hf dX10_init_44 (fun X10 hf H locs hR hS hz => ?_)
  refine lv_aload_n hx hb dX10_init_47 rfl (lv_at hl 0 rfl) ?_
  refine lv_bipush (v := (43 : Int32)) hx hb dX10_init_48 (by decide) ?_
  obtain ⟨X11, eX11⟩ : ∃ y : qH, y = (qnI X10 (sz + 4) 43) := ⟨_, rfl⟩
  have hf := q_lt eX11 hf
  refine q_newI (N := 43) hx hb (hT _ wac_int) hK hR hS (Nat.le_trans hb0 (Nat.le_add_right _ _)) hz (by decide) (by decide) (by decide) (Nat.le_of_ble_eq_true rfl) (Nat.le_of_ble_eq_true rfl) dX10_init_50 (fun H hR hS hz => ?_)
  rw [← eX11] at hR
  have hz : H.size = sz + 5 := hz
  refine W.cs (cells' := 5) (slots' := 107) rfl rfl ?_
  refine q_pF hx hb hT hown hK hR hS hz iqX10 vqX10 tyX10_ok nmX10 8 (by decide) (hT _ wfl_X10_29) rfl hnm rfl rfl rfl hf dX10_init_52 (fun X12 hf H locs hR hS hz => ?_)
  refine lv_aload_n hx hb dX10_init_55 rfl (lv_at hl 0 rfl) ?_
  refine lv_sipush (v := (230 : Int32)) hx hb dX10_init_56 (by decide) ?_
  obtain ⟨X13, eX13⟩ : ∃ y : qH, y = (qnI X12 (sz + 5) 230) := ⟨_, rfl⟩
  have hf := q_lt eX13 hf
  refine q_newI (N := 230) hx hb (hT _ wac_int) hK hR hS (Nat.le_trans hb0 (Nat.le_add_right _ _)) hz (by decide) (by decide) (by decide) (Nat.le_of_ble_eq_true rfl) (Nat.le_of_ble_eq_true rfl) dX10_init_59 (fun H hR hS hz => ?_)
  rw [← eX13] at hR
  have hz : H.size = sz + 6 := hz
  refine W.cs (cells' := 6) (slots' := 337) rfl rfl ?_
  refine q_pF hx hb hT hown hK hR hS hz iqX10 vqX10 tyX10_ok nmX10 10 (by decide) (hT _ wfl_X10_32) rfl hnm rfl rfl rfl hf dX10_init_61 (fun X14 hf H locs hR hS hz => ?_)
  refine lv_aload_n hx hb dX10_init_64 rfl (lv_at hl 0 rfl) ?_
  refine lv_iconst (v := (-1 : Int32)) hx hb dX10_init_65 (by decide) ?_
  refine q_pI hx hb hT hown hK hR hS hz iqX10 vqX10 tyX10_ok nmX10 12 (by decide) (hT _ wfl_X10_35) rfl rfl hf dX10_init_66 (fun X15 hf H locs hR hS hz => ?_)
  refine lv_aload_n hx hb dX10_init_69 rfl (lv_at hl 0 rfl) ?_
  refine lv_iconst (v := (3 : Int32)) hx hb dX10_init_70 (by decide) ?_
  obtain ⟨X16, eX16⟩ : ∃ y : qH, y = (qnI X15 (sz + 6) 3) := ⟨_, rfl⟩
  have hf := q_lt eX16 hf
  refine q_newI (N := 3) hx hb (hT _ wac_int) hK hR hS (Nat.le_trans hb0 (Nat.le_add_right _ _)) hz (by decide) (by decide) (by decide) (Nat.le_of_ble_eq_true rfl) (Nat.le_of_ble_eq_true rfl) dX10_init_71 (fun H hR hS hz => ?_)
  rw [← eX16] at hR
  have hz : H.size = sz + 7 := hz
  refine W.cs (cells' := 7) (slots' := 340) rfl rfl ?_
  refine q_pF hx hb hT hown hK hR hS hz iqX10 vqX10 tyX10_ok nmX10 16 (by decide) (hT _ wfl_X10_38) rfl hnm rfl rfl rfl hf dX10_init_73 (fun X17 hf H locs hR hS hz => ?_)
  refine lv_aload_n hx hb dX10_init_76 rfl (lv_at hl 0 rfl) ?_
  refine lv_bipush (v := (8 : Int32)) hx hb dX10_init_77 (by decide) ?_
  obtain ⟨X18, eX18⟩ : ∃ y : qH, y = (qnI X17 (sz + 7) 8) := ⟨_, rfl⟩
  have hf := q_lt eX18 hf
  refine q_newI (N := 8) hx hb (hT _ wac_int) hK hR hS (Nat.le_trans hb0 (Nat.le_add_right _ _)) hz (by decide) (by decide) (by decide) (Nat.le_of_ble_eq_true rfl) (Nat.le_of_ble_eq_true rfl) dX10_init_79 (fun H hR hS hz => ?_)
  rw [← eX18] at hR
  have hz : H.size = sz + 8 := hz
  refine W.cs (cells' := 8) (slots' := 348) rfl rfl ?_
  refine q_pF hx hb hT hown hK hR hS hz iqX10 vqX10 tyX10_ok nmX10 18 (by decide) (hT _ wfl_X10_41) rfl hnm rfl rfl rfl hf dX10_init_81 (fun X19 hf H locs hR hS hz => ?_)
  refine lv_aload_n hx hb dX10_init_84 rfl (lv_at hl 0 rfl) ?_
  refine lv_bipush (v := (8 : Int32)) hx hb dX10_init_85 (by decide) ?_
  obtain ⟨X20, eX20⟩ : ∃ y : qH, y = (qnI X19 (sz + 8) 8) := ⟨_, rfl⟩
  have hf := q_lt eX20 hf
  refine q_newI (N := 8) hx hb (hT _ wac_int) hK hR hS (Nat.le_trans hb0 (Nat.le_add_right _ _)) hz (by decide) (by decide) (by decide) (Nat.le_of_ble_eq_true rfl) (Nat.le_of_ble_eq_true rfl) dX10_init_87 (fun H hR hS hz => ?_)
  rw [← eX20] at hR
  have hz : H.size = sz + 9 := hz
  refine W.cs (cells' := 9) (slots' := 356) rfl rfl ?_
  refine q_pF hx hb hT hown hK hR hS hz iqX10 vqX10 tyX10_ok nmX10 19 (by decide) (hT _ wfl_X10_44) rfl hnm rfl rfl rfl hf dX10_init_89 (fun X21 hf H locs hR hS hz => ?_)
  refine lv_aload_n hx hb dX10_init_92 rfl (lv_at hl 0 rfl) ?_
  refine lv_bipush (v := (8 : Int32)) hx hb dX10_init_93 (by decide) ?_
  obtain ⟨X22, eX22⟩ : ∃ y : qH, y = (qnI X21 (sz + 9) 8) := ⟨_, rfl⟩
  have hf := q_lt eX22 hf
  refine q_newI (N := 8) hx hb (hT _ wac_int) hK hR hS (Nat.le_trans hb0 (Nat.le_add_right _ _)) hz (by decide) (by decide) (by decide) (Nat.le_of_ble_eq_true rfl) (Nat.le_of_ble_eq_true rfl) dX10_init_95 (fun H hR hS hz => ?_)
  rw [← eX22] at hR
  have hz : H.size = sz + 10 := hz
  refine W.cs (cells' := 10) (slots' := 364) rfl rfl ?_
  refine q_pF hx hb hT hown hK hR hS hz iqX10 vqX10 tyX10_ok nmX10 20 (by decide) (hT _ wfl_X10_47) rfl hnm rfl rfl rfl hf dX10_init_97 (fun X23 hf H locs hR hS hz => ?_)
  refine lv_aload_n hx hb dX10_init_100 rfl (lv_at hl 0 rfl) ?_
  refine lv_bipush (v := (8 : Int32)) hx hb dX10_init_101 (by decide) ?_
  obtain ⟨X24, eX24⟩ : ∃ y : qH, y = (qnI X23 (sz + 10) 8) := ⟨_, rfl⟩
  have hf := q_lt eX24 hf
  refine q_newI (N := 8) hx hb (hT _ wac_int) hK hR hS (Nat.le_trans hb0 (Nat.le_add_right _ _)) hz (by decide) (by decide) (by decide) (Nat.le_of_ble_eq_true rfl) (Nat.le_of_ble_eq_true rfl) dX10_init_103 (fun H hR hS hz => ?_)
  rw [← eX24] at hR
  have hz : H.size = sz + 11 := hz
  refine W.cs (cells' := 11) (slots' := 372) rfl rfl ?_
  refine q_pF hx hb hT hown hK hR hS hz iqX10 vqX10 tyX10_ok nmX10 21 (by decide) (hT _ wfl_X10_50) rfl hnm rfl rfl rfl hf dX10_init_105 (fun X25 hf H locs hR hS hz => ?_)
  refine lv_aload_n hx hb dX10_init_108 rfl (lv_at hl 0 rfl) ?_
  refine lv_bipush (v := (40 : Int32)) hx hb dX10_init_109 (by decide) ?_
  obtain ⟨X26, eX26⟩ : ∃ y : qH, y = (qnI X25 (sz + 11) 40) := ⟨_, rfl⟩
  have hf := q_lt eX26 hf
  refine q_newI (N := 40) hx hb (hT _ wac_int) hK hR hS (Nat.le_trans hb0 (Nat.le_add_right _ _)) hz (by decide) (by decide) (by decide) (Nat.le_of_ble_eq_true rfl) (Nat.le_of_ble_eq_true rfl) dX10_init_111 (fun H hR hS hz => ?_)
  rw [← eX26] at hR
  have hz : H.size = sz + 12 := hz
  refine W.cs (cells' := 12) (slots' := 412) rfl rfl ?_
  refine q_pF hx hb hT hown hK hR hS hz iqX10 vqX10 tyX10_ok nmX10 22 (by decide) (hT _ wfl_X10_53) rfl hnm rfl rfl rfl hf dX10_init_113 (fun X27 hf H locs hR hS hz => ?_)
  refine lv_aload_n hx hb dX10_init_116 rfl (lv_at hl 0 rfl) ?_
  refine lv_iconst (v := (1 : Int32)) hx hb dX10_init_117 (by decide) ?_
  obtain ⟨X28, eX28⟩ : ∃ y : qH, y = (qnI X27 (sz + 12) 1) := ⟨_, rfl⟩
  have hf := q_lt eX28 hf
  refine q_newI (N := 1) hx hb (hT _ wac_int) hK hR hS (Nat.le_trans hb0 (Nat.le_add_right _ _)) hz (by decide) (by decide) (by decide) (Nat.le_of_ble_eq_true rfl) (Nat.le_of_ble_eq_true rfl) dX10_init_118 (fun H hR hS hz => ?_)
  rw [← eX28] at hR
  have hz : H.size = sz + 13 := hz
  refine W.cs (cells' := 13) (slots' := 413) rfl rfl ?_
  refine q_pF hx hb hT hown hK hR hS hz iqX10 vqX10 tyX10_ok nmX10 23 (by decide) (hT _ wfl_X10_56) rfl hnm rfl rfl rfl hf dX10_init_120 (fun X29 hf H locs hR hS hz => ?_)
  refine lv_aload_n hx hb dX10_init_123 rfl (lv_at hl 0 rfl) ?_
  refine lv_iconst (v := (1 : Int32)) hx hb dX10_init_124 (by decide) ?_
  obtain ⟨X30, eX30⟩ : ∃ y : qH, y = (qnI X29 (sz + 13) 1) := ⟨_, rfl⟩
  have hf := q_lt eX30 hf
  refine q_newI (N := 1) hx hb (hT _ wac_int) hK hR hS (Nat.le_trans hb0 (Nat.le_add_right _ _)) hz (by decide) (by decide) (by decide) (Nat.le_of_ble_eq_true rfl) (Nat.le_of_ble_eq_true rfl) dX10_init_125 (fun H hR hS hz => ?_)
  rw [← eX30] at hR
  have hz : H.size = sz + 14 := hz
  refine W.cs (cells' := 14) (slots' := 414) rfl rfl ?_
  refine q_pF hx hb hT hown hK hR hS hz iqX10 vqX10 tyX10_ok nmX10 24 (by decide) (hT _ wfl_X10_59) rfl hnm rfl rfl rfl hf dX10_init_127 (fun X31 hf H locs hR hS hz => ?_)
  refine lv_aload_n hx hb dX10_init_130 rfl (lv_at hl 0 rfl) ?_
  refine lv_sipush (v := (860 : Int32)) hx hb dX10_init_131 (by decide) ?_
  obtain ⟨X32, eX32⟩ : ∃ y : qH, y = (qnI X31 (sz + 14) 860) := ⟨_, rfl⟩
  have hf := q_lt eX32 hf
  refine q_newI (N := 860) hx hb (hT _ wac_int) hK hR hS (Nat.le_trans hb0 (Nat.le_add_right _ _)) hz (by decide) (by decide) (by decide) (Nat.le_of_ble_eq_true rfl) (Nat.le_of_ble_eq_true rfl) dX10_init_134 (fun H hR hS hz => ?_)
  rw [← eX32] at hR
  have hz : H.size = sz + 15 := hz
  refine W.cs (cells' := 15) (slots' := 1274) rfl rfl ?_
  refine q_pF hx hb hT hown hK hR hS hz iqX10 vqX10 tyX10_ok nmX10 28 (by decide) (hT _ wfl_X10_62) rfl hnm rfl rfl rfl hf dX10_init_136 (fun X33 hf H locs hR hS hz => ?_)
  refine lv_aload_n hx hb dX10_init_139 rfl (lv_at hl 0 rfl) ?_
  refine lv_bipush (v := (43 : Int32)) hx hb dX10_init_140 (by decide) ?_
  obtain ⟨X34, eX34⟩ : ∃ y : qH, y = (qnI X33 (sz + 15) 43) := ⟨_, rfl⟩
  have hf := q_lt eX34 hf
  refine q_newI (N := 43) hx hb (hT _ wac_int) hK hR hS (Nat.le_trans hb0 (Nat.le_add_right _ _)) hz (by decide) (by decide) (by decide) (Nat.le_of_ble_eq_true rfl) (Nat.le_of_ble_eq_true rfl) dX10_init_142 (fun H hR hS hz => ?_)
  rw [← eX34] at hR
  have hz : H.size = sz + 16 := hz
  refine W.cs (cells' := 16) (slots' := 1317) rfl rfl ?_
  refine q_pF hx hb hT hown hK hR hS hz iqX10 vqX10 tyX10_ok nmX10 29 (by decide) (hT _ wfl_X10_65) rfl hnm rfl rfl rfl hf dX10_init_144 (fun X35 hf H locs hR hS hz => ?_)
  refine lv_aload_n hx hb dX10_init_147 rfl (lv_at hl 0 rfl) ?_
  refine lv_iconst (v := (5 : Int32)) hx hb dX10_init_148 (by decide) ?_
  obtain ⟨X36, eX36⟩ : ∃ y : qH, y = (qnI X35 (sz + 16) 5) := ⟨_, rfl⟩
  have hf := q_lt eX36 hf
  refine q_newI (N := 5) hx hb (hT _ wac_int) hK hR hS (Nat.le_trans hb0 (Nat.le_add_right _ _)) hz (by decide) (by decide) (by decide) (Nat.le_of_ble_eq_true rfl) (Nat.le_of_ble_eq_true rfl) dX10_init_149 (fun H hR hS hz => ?_)
  rw [← eX36] at hR
  have hz : H.size = sz + 17 := hz
  refine W.cs (cells' := 17) (slots' := 1322) rfl rfl ?_
  refine q_pF hx hb hT hown hK hR hS hz iqX10 vqX10 tyX10_ok nmX10 30 (by decide) (hT _ wfl_X10_68) rfl hnm rfl rfl rfl hf dX10_init_151 (fun X37 hf H locs hR hS hz => ?_)
  refine lv_aload_n hx hb dX10_init_154 rfl (lv_at hl 0 rfl) ?_
  refine lv_bipush (v := (8 : Int32)) hx hb dX10_init_155 (by decide) ?_
  obtain ⟨X38, eX38⟩ : ∃ y : qH, y = (qnI X37 (sz + 17) 8) := ⟨_, rfl⟩
  have hf := q_lt eX38 hf
  refine q_newI (N := 8) hx hb (hT _ wac_int) hK hR hS (Nat.le_trans hb0 (Nat.le_add_right _ _)) hz (by decide) (by decide) (by decide) (Nat.le_of_ble_eq_true rfl) (Nat.le_of_ble_eq_true rfl) dX10_init_157 (fun H hR hS hz => ?_)
  rw [← eX38] at hR
  have hz : H.size = sz + 18 := hz
  refine W.cs (cells' := 18) (slots' := 1330) rfl rfl ?_
  refine q_pF hx hb hT hown hK hR hS hz iqX10 vqX10 tyX10_ok nmX10 31 (by decide) (hT _ wfl_X10_71) rfl hnm rfl rfl rfl hf dX10_init_159 (fun X39 hf H locs hR hS hz => ?_)
  refine lv_aload_n hx hb dX10_init_162 rfl (lv_at hl 0 rfl) ?_
  refine lv_bipush (v := (8 : Int32)) hx hb dX10_init_163 (by decide) ?_
  obtain ⟨X40, eX40⟩ : ∃ y : qH, y = (qnI X39 (sz + 18) 8) := ⟨_, rfl⟩
  have hf := q_lt eX40 hf
  refine q_newI (N := 8) hx hb (hT _ wac_int) hK hR hS (Nat.le_trans hb0 (Nat.le_add_right _ _)) hz (by decide) (by decide) (by decide) (Nat.le_of_ble_eq_true rfl) (Nat.le_of_ble_eq_true rfl) dX10_init_165 (fun H hR hS hz => ?_)
  rw [← eX40] at hR
  have hz : H.size = sz + 19 := hz
  refine W.cs (cells' := 19) (slots' := 1338) rfl rfl ?_
  refine q_pF hx hb hT hown hK hR hS hz iqX10 vqX10 tyX10_ok nmX10 32 (by decide) (hT _ wfl_X10_74) rfl hnm rfl rfl rfl hf dX10_init_167 (fun X41 hf H locs hR hS hz => ?_)
  refine lv_aload_n hx hb dX10_init_170 rfl (lv_at hl 0 rfl) ?_
  refine lv_bipush (v := (6 : Int32)) hx hb dX10_init_171 (by decide) ?_
  obtain ⟨X42, eX42⟩ : ∃ y : qH, y = (qnI X41 (sz + 19) 6) := ⟨_, rfl⟩
  have hf := q_lt eX42 hf
  refine q_newI (N := 6) hx hb (hT _ wac_int) hK hR hS (Nat.le_trans hb0 (Nat.le_add_right _ _)) hz (by decide) (by decide) (by decide) (Nat.le_of_ble_eq_true rfl) (Nat.le_of_ble_eq_true rfl) dX10_init_173 (fun H hR hS hz => ?_)
  rw [← eX42] at hR
  have hz : H.size = sz + 20 := hz
  refine W.cs (cells' := 20) (slots' := 1344) rfl rfl ?_
  refine q_pF hx hb hT hown hK hR hS hz iqX10 vqX10 tyX10_ok nmX10 34 (by decide) (hT _ wfl_X10_77) rfl hnm rfl rfl rfl hf dX10_init_175 (fun X43 hf H locs hR hS hz => ?_)
  refine lv_aload_n hx hb dX10_init_178 rfl (lv_at hl 0 rfl) ?_
  refine lv_bipush (v := (6 : Int32)) hx hb dX10_init_179 (by decide) ?_
  obtain ⟨X44, eX44⟩ : ∃ y : qH, y = (qnI X43 (sz + 20) 6) := ⟨_, rfl⟩
  have hf := q_lt eX44 hf
  refine q_newI (N := 6) hx hb (hT _ wac_int) hK hR hS (Nat.le_trans hb0 (Nat.le_add_right _ _)) hz (by decide) (by decide) (by decide) (Nat.le_of_ble_eq_true rfl) (Nat.le_of_ble_eq_true rfl) dX10_init_181 (fun H hR hS hz => ?_)
  rw [← eX44] at hR
  have hz : H.size = sz + 21 := hz
  refine W.cs (cells' := 21) (slots' := 1350) rfl rfl ?_
  refine q_pF hx hb hT hown hK hR hS hz iqX10 vqX10 tyX10_ok nmX10 35 (by decide) (hT _ wfl_X10_80) rfl hnm rfl rfl rfl hf dX10_init_183 (fun X45 hf H locs hR hS hz => ?_)
  refine lv_aload_n hx hb dX10_init_186 rfl (lv_at hl 0 rfl) ?_
  refine lv_bipush (v := (15 : Int32)) hx hb dX10_init_187 (by decide) ?_
  obtain ⟨X46, eX46⟩ : ∃ y : qH, y = (qnI X45 (sz + 21) 15) := ⟨_, rfl⟩
  have hf := q_lt eX46 hf
  refine q_newI (N := 15) hx hb (hT _ wac_int) hK hR hS (Nat.le_trans hb0 (Nat.le_add_right _ _)) hz (by decide) (by decide) (by decide) (Nat.le_of_ble_eq_true rfl) (Nat.le_of_ble_eq_true rfl) dX10_init_189 (fun H hR hS hz => ?_)
  rw [← eX46] at hR
  have hz : H.size = sz + 22 := hz
  refine W.cs (cells' := 22) (slots' := 1365) rfl rfl ?_
  refine q_pF hx hb hT hown hK hR hS hz iqX10 vqX10 tyX10_ok nmX10 37 (by decide) (hT _ wfl_X10_83) rfl hnm rfl rfl rfl hf dX10_init_191 (fun X47 hf H locs hR hS hz => ?_)
  refine lv_aload_n hx hb dX10_init_194 rfl (lv_at hl 0 rfl) ?_
  refine lv_bipush (v := (15 : Int32)) hx hb dX10_init_195 (by decide) ?_
  obtain ⟨X48, eX48⟩ : ∃ y : qH, y = (qnI X47 (sz + 22) 15) := ⟨_, rfl⟩
  have hf := q_lt eX48 hf
  refine q_newI (N := 15) hx hb (hT _ wac_int) hK hR hS (Nat.le_trans hb0 (Nat.le_add_right _ _)) hz (by decide) (by decide) (by decide) (Nat.le_of_ble_eq_true rfl) (Nat.le_of_ble_eq_true rfl) dX10_init_197 (fun H hR hS hz => ?_)
  rw [← eX48] at hR
  have hz : H.size = sz + 23 := hz
  refine W.cs (cells' := 23) (slots' := 1380) rfl rfl ?_
  refine q_pF hx hb hT hown hK hR hS hz iqX10 vqX10 tyX10_ok nmX10 38 (by decide) (hT _ wfl_X10_86) rfl hnm rfl rfl rfl hf dX10_init_199 (fun X49 hf H locs hR hS hz => ?_)
  refine lv_aload_n hx hb dX10_init_202 rfl (lv_at hl 0 rfl) ?_
  refine lv_bipush (v := (15 : Int32)) hx hb dX10_init_203 (by decide) ?_
  obtain ⟨X50, eX50⟩ : ∃ y : qH, y = (qnZ X49 (sz + 23) 15) := ⟨_, rfl⟩
  have hf := q_lt eX50 hf
  refine q_newZ (N := 15) hx hb (hT _ wac_boolean) hK hR hS (Nat.le_trans hb0 (Nat.le_add_right _ _)) hz (by decide) (by decide) (by decide) (Nat.le_of_ble_eq_true rfl) (Nat.le_of_ble_eq_true rfl) dX10_init_205 (fun H hR hS hz => ?_)
  rw [← eX50] at hR
  have hz : H.size = sz + 24 := hz
  refine W.cs (cells' := 24) (slots' := 1395) rfl rfl ?_
  refine q_pF hx hb hT hown hK hR hS hz iqX10 vqX10 tyX10_ok nmX10 39 (by decide) (hT _ wfl_X10_89) rfl hnm rfl rfl rfl hf dX10_init_207 (fun X51 hf H locs hR hS hz => ?_)
  refine lv_aload_n hx hb dX10_init_210 rfl (lv_at hl 0 rfl) ?_
  refine lv_bipush (v := (88 : Int32)) hx hb dX10_init_211 (by decide) ?_
  obtain ⟨X52, eX52⟩ : ∃ y : qH, y = (qnI X51 (sz + 24) 88) := ⟨_, rfl⟩
  have hf := q_lt eX52 hf
  refine q_newI (N := 88) hx hb (hT _ wac_int) hK hR hS (Nat.le_trans hb0 (Nat.le_add_right _ _)) hz (by decide) (by decide) (by decide) (Nat.le_of_ble_eq_true rfl) (Nat.le_of_ble_eq_true rfl) dX10_init_213 (fun H hR hS hz => ?_)
  rw [← eX52] at hR
  have hz : H.size = sz + 25 := hz
  refine W.cs (cells' := 25) (slots' := 1483) rfl rfl ?_
  refine q_pF hx hb hT hown hK hR hS hz iqX10 vqX10 tyX10_ok nmX10 40 (by decide) (hT _ wfl_X10_93) rfl hnm rfl rfl rfl hf dX10_init_215 (fun X53 hf H locs hR hS hz => ?_)
  refine lv_aload_n hx hb dX10_init_218 rfl (lv_at hl 0 rfl) ?_
  refine lv_iconst (v := (2 : Int32)) hx hb dX10_init_219 (by decide) ?_
  obtain ⟨X54, eX54⟩ : ∃ y : qH, y = (qnZ X53 (sz + 25) 2) := ⟨_, rfl⟩
  have hf := q_lt eX54 hf
  refine q_newZ (N := 2) hx hb (hT _ wac_boolean) hK hR hS (Nat.le_trans hb0 (Nat.le_add_right _ _)) hz (by decide) (by decide) (by decide) (Nat.le_of_ble_eq_true rfl) (Nat.le_of_ble_eq_true rfl) dX10_init_220 (fun H hR hS hz => ?_)
  rw [← eX54] at hR
  have hz : H.size = sz + 26 := hz
  refine W.cs (cells' := 26) (slots' := 1485) rfl rfl ?_
  refine q_pF hx hb hT hown hK hR hS hz iqX10 vqX10 tyX10_ok nmX10 41 (by decide) (hT _ wfl_X10_96) rfl hnm rfl rfl rfl hf dX10_init_222 (fun X55 hf H locs hR hS hz => ?_)
  refine lv_aload_n hx hb dX10_init_225 rfl (lv_at hl 0 rfl) ?_
  refine lv_iconst (v := (0 : Int32)) hx hb dX10_init_226 (by decide) ?_
  refine q_pI hx hb hT hown hK hR hS hz iqX10 vqX10 tyX10_ok nmX10 0 (by decide) (hT _ wfl_X10_99) rfl rfl hf dX10_init_227 (fun X56 hf H locs hR hS hz => ?_)
  subst hQ
  exact q_vret hx hb hr hlocks hR hS hz (Option.some.inj hf) dX10_init_230
