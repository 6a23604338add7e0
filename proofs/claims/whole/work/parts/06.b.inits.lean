/-! X5_init -/
def fX5_init (F : Nat) (X : qH) (sz a0 : Nat) : Option qH :=
qlt (qnR X sz 20) fun X1 =>
(qpR X1 5 a0 0 sz).bind fun X2 =>
(qgR X2 5 a0 0).bind fun v3 =>
qlt (qnO X2 (sz + 1) 3 [.int 0, .int 0, .int 0, .int 0, .null, .null, .null, .null]) fun X4 =>
(fX3_init F X4 (sz + 2) (sz + 1)).bind fun X5 =>
(qaT X5 v3 (0 : Int32) (sz + 1)).bind fun X6 =>
(qgR X6 5 a0 0).bind fun v7 =>
qlt (qnO X6 (sz + 6) 3 [.int 0, .int 0, .int 0, .int 0, .null, .null, .null, .null]) fun X8 =>
(fX3_init F X8 (sz + 7) (sz + 6)).bind fun X9 =>
(qaT X9 v7 (1 : Int32) (sz + 6)).bind fun X10 =>
(qgR X10 5 a0 0).bind fun v11 =>
qlt (qnO X10 (sz + 11) 3 [.int 0, .int 0, .int 0, .int 0, .null, .null, .null, .null]) fun X12 =>
(fX3_init F X12 (sz + 12) (sz + 11)).bind fun X13 =>
(qaT X13 v11 (2 : Int32) (sz + 11)).bind fun X14 =>
(qgR X14 5 a0 0).bind fun v15 =>
qlt (qnO X14 (sz + 16) 3 [.int 0, .int 0, .int 0, .int 0, .null, .null, .null, .null]) fun X16 =>
(fX3_init F X16 (sz + 17) (sz + 16)).bind fun X17 =>
(qaT X17 v15 (3 : Int32) (sz + 16)).bind fun X18 =>
(qgR X18 5 a0 0).bind fun v19 =>
qlt (qnO X18 (sz + 21) 3 [.int 0, .int 0, .int 0, .int 0, .null, .null, .null, .null]) fun X20 =>
(fX3_init F X20 (sz + 22) (sz + 21)).bind fun X21 =>
(qaT X21 v19 (4 : Int32) (sz + 21)).bind fun X22 =>
(qgR X22 5 a0 0).bind fun v23 =>
qlt (qnO X22 (sz + 26) 3 [.int 0, .int 0, .int 0, .int 0, .null, .null, .null, .null]) fun X24 =>
(fX3_init F X24 (sz + 27) (sz + 26)).bind fun X25 =>
(qaT X25 v23 (5 : Int32) (sz + 26)).bind fun X26 =>
(qgR X26 5 a0 0).bind fun v27 =>
qlt (qnO X26 (sz + 31) 3 [.int 0, .int 0, .int 0, .int 0, .null, .null, .null, .null]) fun X28 =>
(fX3_init F X28 (sz + 32) (sz + 31)).bind fun X29 =>
(qaT X29 v27 (6 : Int32) (sz + 31)).bind fun X30 =>
(qgR X30 5 a0 0).bind fun v31 =>
qlt (qnO X30 (sz + 36) 3 [.int 0, .int 0, .int 0, .int 0, .null, .null, .null, .null]) fun X32 =>
(fX3_init F X32 (sz + 37) (sz + 36)).bind fun X33 =>
(qaT X33 v31 (7 : Int32) (sz + 36)).bind fun X34 =>
(qgR X34 5 a0 0).bind fun v35 =>
qlt (qnO X34 (sz + 41) 3 [.int 0, .int 0, .int 0, .int 0, .null, .null, .null, .null]) fun X36 =>
(fX3_init F X36 (sz + 42) (sz + 41)).bind fun X37 =>
(qaT X37 v35 (8 : Int32) (sz + 41)).bind fun X38 =>
(qgR X38 5 a0 0).bind fun v39 =>
qlt (qnO X38 (sz + 46) 3 [.int 0, .int 0, .int 0, .int 0, .null, .null, .null, .null]) fun X40 =>
(fX3_init F X40 (sz + 47) (sz + 46)).bind fun X41 =>
(qaT X41 v39 (9 : Int32) (sz + 46)).bind fun X42 =>
(qgR X42 5 a0 0).bind fun v43 =>
qlt (qnO X42 (sz + 51) 3 [.int 0, .int 0, .int 0, .int 0, .null, .null, .null, .null]) fun X44 =>
(fX3_init F X44 (sz + 52) (sz + 51)).bind fun X45 =>
(qaT X45 v43 (10 : Int32) (sz + 51)).bind fun X46 =>
(qgR X46 5 a0 0).bind fun v47 =>
qlt (qnO X46 (sz + 56) 3 [.int 0, .int 0, .int 0, .int 0, .null, .null, .null, .null]) fun X48 =>
(fX3_init F X48 (sz + 57) (sz + 56)).bind fun X49 =>
(qaT X49 v47 (11 : Int32) (sz + 56)).bind fun X50 =>
(qgR X50 5 a0 0).bind fun v51 =>
qlt (qnO X50 (sz + 61) 3 [.int 0, .int 0, .int 0, .int 0, .null, .null, .null, .null]) fun X52 =>
(fX3_init F X52 (sz + 62) (sz + 61)).bind fun X53 =>
(qaT X53 v51 (12 : Int32) (sz + 61)).bind fun X54 =>
(qgR X54 5 a0 0).bind fun v55 =>
qlt (qnO X54 (sz + 66) 3 [.int 0, .int 0, .int 0, .int 0, .null, .null, .null, .null]) fun X56 =>
(fX3_init F X56 (sz + 67) (sz + 66)).bind fun X57 =>
(qaT X57 v55 (13 : Int32) (sz + 66)).bind fun X58 =>
(qgR X58 5 a0 0).bind fun v59 =>
qlt (qnO X58 (sz + 71) 3 [.int 0, .int 0, .int 0, .int 0, .null, .null, .null, .null]) fun X60 =>
(fX3_init F X60 (sz + 72) (sz + 71)).bind fun X61 =>
(qaT X61 v59 (14 : Int32) (sz + 71)).bind fun X62 =>
(qgR X62 5 a0 0).bind fun v63 =>
qlt (qnO X62 (sz + 76) 3 [.int 0, .int 0, .int 0, .int 0, .null, .null, .null, .null]) fun X64 =>
(fX3_init F X64 (sz + 77) (sz + 76)).bind fun X65 =>
(qaT X65 v63 (15 : Int32) (sz + 76)).bind fun X66 =>
(qgR X66 5 a0 0).bind fun v67 =>
qlt (qnO X66 (sz + 81) 3 [.int 0, .int 0, .int 0, .int 0, .null, .null, .null, .null]) fun X68 =>
(fX3_init F X68 (sz + 82) (sz + 81)).bind fun X69 =>
(qaT X69 v67 (16 : Int32) (sz + 81)).bind fun X70 =>
(qgR X70 5 a0 0).bind fun v71 =>
qlt (qnO X70 (sz + 86) 3 [.int 0, .int 0, .int 0, .int 0, .null, .null, .null, .null]) fun X72 =>
(fX3_init F X72 (sz + 87) (sz + 86)).bind fun X73 =>
(qaT X73 v71 (17 : Int32) (sz + 86)).bind fun X74 =>
(qgR X74 5 a0 0).bind fun v75 =>
qlt (qnO X74 (sz + 91) 3 [.int 0, .int 0, .int 0, .int 0, .null, .null, .null, .null]) fun X76 =>
(fX3_init F X76 (sz + 92) (sz + 91)).bind fun X77 =>
(qaT X77 v75 (18 : Int32) (sz + 91)).bind fun X78 =>
(qgR X78 5 a0 0).bind fun v79 =>
qlt (qnO X78 (sz + 96) 3 [.int 0, .int 0, .int 0, .int 0, .null, .null, .null, .null]) fun X80 =>
(fX3_init F X80 (sz + 97) (sz + 96)).bind fun X81 =>
(qaT X81 v79 (19 : Int32) (sz + 96)).bind fun X82 =>
some X82
abbrev rmX5_init : Room := { frames := 2, cells := 101, slots := 820, locals := 40 }
theorem hdX5_init : yX5_init.cls ≠ "java/lang/invoke/MethodHandle" ∧ yX5_init.cls ≠ "java/lang/invoke/VarHandle" ∧ (parseMethodDescriptor yX5_init.desc).map (fun d => d.parameters.length) = some 0 := by decide +kernel
set_option maxHeartbeats 4000000 in
set_option maxRecDepth 100000 in
theorem mX5_init (l : Launch) (D : va_G) (kz : Nat → Nat) (b0 sz F : Nat) (hb0 : b0 ≤ sz) (X : qH) (a0 : Nat) (Xr : qH) (hf : fX5_init F X sz a0 = some Xr) : Met l yX5_init (qws yX5_init cX5_init 2 none) rmX5_init (va_Pc [.ref a0] (qU D kz b0 sz X)) (va_Qv (fun (u : qH) => u = Xr) (fun u t => qO D kz b0 (sz + 101) u t) (qA b0)) 101 820 (qA b0) := by
  refine q_start (by decide) (Nat.le_of_ble_eq_true rfl) ?_
  intro p e s m args below meth c hx hb hr hlocks hnm hml hown hT hR hK hz ls hl
  have hnm : meth.name = "<init>" := hnm
  have hown : s.vm.findClass RX5 = some m.cls := hown
  have hl : lv_has ls 2 [(0, .ref a0)] := hl
  have hS : va_S (qA b0) s.heap s.heap [] := va_S.rf
  obtain ⟨Q, hQ⟩ : ∃ Q, Q = MQ below (va_Qv (fun (u : qH) => u = Xr) (fun u t => qO D kz b0 (sz + 101) u t) (qA b0)) args s 101 820 (qA b0) := ⟨_, rfl⟩
  rw [← hQ]
  unfold fX5_init at hf
  refine lv_aload_n hx hb dX5_init_0 rfl (lv_at hl 0 rfl) ?_
  refine W.objInit hx hb hown (hT _ wml_X5_3) (hT _ wim_objInit) (hT _ wco_objInit) rfl (by rw [hml]; exact hl.1) rfl dX5_init_1 (Nat.le_of_ble_eq_true rfl) (Nat.le_of_ble_eq_true rfl) ?_
  refine W.eq (g2 := F0 m 4 ls []) rfl ?_
  refine lv_aload_n hx hb dX5_init_4 rfl (lv_at hl 0 rfl) ?_
  refine lv_bipush (v := (20 : Int32)) hx hb dX5_init_5 (by decide) ?_
  obtain ⟨X1, eX1⟩ : ∃ y : qH, y = (qnR X sz 20) := ⟨_, rfl⟩
  have hf := q_lt eX1 hf
  refine q_newR (N := 20) hx hb hown (hT _ wcl_X5_9) hK hR hS hb0 hz (by decide) (by decide) (by decide) (Nat.le_of_ble_eq_true rfl) (Nat.le_of_ble_eq_true rfl) dX5_init_7 (fun H hR hS hz => ?_)
  rw [← eX1] at hR
  have hz : H.size = sz + 1 := hz
  refine W.cs (cells' := 1) (slots' := 20) rfl rfl ?_
  refine q_pF hx hb hT hown hK hR hS hz iqX5 vqX5 tyX5_ok nmX5 0 (by decide) (hT _ wfl_X5_11) rfl hnm rfl rfl rfl hf dX5_init_10 (fun X2 hf H locs hR hS hz => ?_)
  refine lv_iconst (v := (0 : Int32)) hx hb dX5_init_13 (by decide) ?_
  refine lv_istore_n (lv' := [(1, .int (0 : Int32)), (0, .ref a0)]) hx hb dX5_init_14 rfl hl (by decide) rfl (fun ls hl => ?_)
  refine lv_iload_n hx hb dX5_init_15 rfl (lv_at hl 0 rfl) ?_
  refine lv_bipush (v := (20 : Int32)) hx hb dX5_init_16 (by decide) ?_
  refine lv_icmp_ge (tgt := 40) hx hb dX5_init_18 (by decide) (fun hc => absurd hc (by decide)) (fun _ => ?_)
  refine lv_aload_n hx hb dX5_init_21 rfl (lv_at hl 1 rfl) ?_
  refine q_gR hx hb hT hown hK hR iqX5 vqX5 0 (by decide) (hT _ wfl_X5_11) hf dX5_init_22 (fun v3 hf => ?_)
  refine lv_iload_n hx hb dX5_init_25 rfl (lv_at hl 0 rfl) ?_
  obtain ⟨X4, eX4⟩ : ∃ y : qH, y = (qnO X2 (sz + 1) 3 [.int 0, .int 0, .int 0, .int 0, .null, .null, .null, .null]) := ⟨_, rfl⟩
  have hf := q_lt eX4 hf
  refine q_newO hx hb hT hown iqX3 vqX3 tyX3_ok (hT _ wcl_X5_9) (hT _ wis_X3) (hT _ win_X3) hK hR hS (Nat.le_trans hb0 (Nat.le_add_right _ _)) hz [.int 0, .int 0, .int 0, .int 0, .null, .null, .null, .null] (by decide +kernel) (Nat.le_of_ble_eq_true rfl) (Nat.le_of_ble_eq_true rfl) dX5_init_26 (fun H hR hS hz => ?_)
  rw [← eX4] at hR
  have hz : H.size = sz + 2 := hz
  refine W.cs (cells' := 2) (slots' := 28) rfl rfl ?_
  refine lv_dup hx hb dX5_init_29 rfl ?_
  obtain ⟨X5, hc, hf⟩ := q_b hf
  refine q_callc (va_runIN (As := []) (rest := [.ref (sz + 1), .int (0 : Int32), .ref v3]) ⟨hx, hb, hml, hown, hT⟩ (mX3_init l D kz b0 (sz + 2) F (Nat.le_trans hb0 (Nat.le_add_right _ _)) X4 (sz + 1) X5 hc) ⟨va_cnB 0 hT (q_gI0 wco_X3_init) rfl rfl rfl hK.2.2.2.2.2.2.2.2.1 (hT _ win_X3) hdX3_init ⟨Nat.le_of_ble_eq_true rfl, Nat.le_of_ble_eq_true rfl⟩, rfl, hT _ wim_X3_init⟩ (q_preS hR hK hz) rfl rfl hl.1 rfl (lv_room (Nat.le_of_ble_eq_true rfl)) dX5_init_30 ⟨Nat.le_of_ble_eq_true rfl, Nat.le_of_ble_eq_true rfl⟩) hS (fun H locs hR hS hz => ?_)
  have hz : H.size = sz + 6 := hz
  refine W.cs (cells' := 6) (slots' := 60) rfl rfl ?_
  refine q_aast hx hb hK hR hS hz hf dX5_init_33 (fun X6 hf H locs hR hS hz => ?_)
  refine lv_iinc (v := (1 : Int32)) (lv' := [(1, .int (1 : Int32)), (0, .ref a0)]) hx hb dX5_init_34 hl (k := 0) rfl (by decide) (by decide) rfl (fun ls hl => ?_)
  refine lv_goto (tgt := 15) hx hb dX5_init_37 (by decide) ?_
  refine lv_iload_n hx hb dX5_init_15 rfl (lv_at hl 0 rfl) ?_
  refine lv_bipush (v := (20 : Int32)) hx hb dX5_init_16 (by decide) ?_
  refine lv_icmp_ge (tgt := 40) hx hb dX5_init_18 (by decide) (fun hc => absurd hc (by decide)) (fun _ => ?_)
  refine lv_aload_n hx hb dX5_init_21 rfl (lv_at hl 1 rfl) ?_
  refine q_gR hx hb hT hown hK hR iqX5 vqX5 0 (by decide) (hT _ wfl_X5_11) hf dX5_init_22 (fun v7 hf => ?_)
  refine lv_iload_n hx hb dX5_init_25 rfl (lv_at hl 0 rfl) ?_
  obtain ⟨X8, eX8⟩ : ∃ y : qH, y = (qnO X6 (sz + 6) 3 [.int 0, .int 0, .int 0, .int 0, .null, .null, .null, .null]) := ⟨_, rfl⟩
  have hf := q_lt eX8 hf
  refine q_newO hx hb hT hown iqX3 vqX3 tyX3_ok (hT _ wcl_X5_9) (hT _ wis_X3) (hT _ win_X3) hK hR hS (Nat.le_trans hb0 (Nat.le_add_right _ _)) hz [.int 0, .int 0, .int 0, .int 0, .null, .null, .null, .null] (by decide +kernel) (Nat.le_of_ble_eq_true rfl) (Nat.le_of_ble_eq_true rfl) dX5_init_26 (fun H hR hS hz => ?_)
  rw [← eX8] at hR
  have hz : H.size = sz + 7 := hz
  refine W.cs (cells' := 7) (slots' := 68) rfl rfl ?_
  refine lv_dup hx hb dX5_init_29 rfl ?_
  obtain ⟨X9, hc, hf⟩ := q_b hf
  refine q_callc (va_runIN (As := []) (rest := [.ref (sz + 6), .int (1 : Int32), .ref v7]) ⟨hx, hb, hml, hown, hT⟩ (mX3_init l D kz b0 (sz + 7) F (Nat.le_trans hb0 (Nat.le_add_right _ _)) X8 (sz + 6) X9 hc) ⟨va_cnB 0 hT (q_gI0 wco_X3_init) rfl rfl rfl hK.2.2.2.2.2.2.2.2.1 (hT _ win_X3) hdX3_init ⟨Nat.le_of_ble_eq_true rfl, Nat.le_of_ble_eq_true rfl⟩, rfl, hT _ wim_X3_init⟩ (q_preS hR hK hz) rfl rfl hl.1 rfl (lv_room (Nat.le_of_ble_eq_true rfl)) dX5_init_30 ⟨Nat.le_of_ble_eq_true rfl, Nat.le_of_ble_eq_true rfl⟩) hS (fun H locs hR hS hz => ?_)
  have hz : H.size = sz + 11 := hz
  refine W.cs (cells' := 11) (slots' := 100) rfl rfl ?_
  refine q_aast hx hb hK hR hS hz hf dX5_init_33 (fun X10 hf H locs hR hS hz => ?_)
  refine lv_iinc (v := (2 : Int32)) (lv' := [(1, .int (2 : Int32)), (0, .ref a0)]) hx hb dX5_init_34 hl (k := 0) rfl (by decide) (by decide) rfl (fun ls hl => ?_)
  refine lv_goto (tgt := 15) hx hb dX5_init_37 (by decide) ?_
  refine lv_iload_n hx hb dX5_init_15 rfl (lv_at hl 0 rfl) ?_
  refine lv_bipush (v := (20 : Int32)) hx hb dX5_init_16 (by decide) ?_
  refine lv_icmp_ge (tgt := 40) hx hb dX5_init_18 (by decide) (fun hc => absurd hc (by decide)) (fun _ => ?_)
  refine lv_aload_n hx hb dX5_init_21 rfl (lv_at hl 1 rfl) ?_
  refine q_gR hx hb hT hown hK hR iqX5 vqX5 0 (by decide) (hT _ wfl_X5_11) hf dX5_init_22 (fun v11 hf => ?_)
  refine lv_iload_n hx hb dX5_init_25 rfl (lv_at hl 0 rfl) ?_
  obtain ⟨X12, eX12⟩ : ∃ y : qH, y = (qnO X10 (sz + 11) 3 [.int 0, .int 0, .int 0, .int 0, .null, .null, .null, .null]) := ⟨_, rfl⟩
  have hf := q_lt eX12 hf
  refine q_newO hx hb hT hown iqX3 vqX3 tyX3_ok (hT _ wcl_X5_9) (hT _ wis_X3) (hT _ win_X3) hK hR hS (Nat.le_trans hb0 (Nat.le_add_right _ _)) hz [.int 0, .int 0, .int 0, .int 0, .null, .null, .null, .null] (by decide +kernel) (Nat.le_of_ble_eq_true rfl) (Nat.le_of_ble_eq_true rfl) dX5_init_26 (fun H hR hS hz => ?_)
  rw [← eX12] at hR
  have hz : H.size = sz + 12 := hz
  refine W.cs (cells' := 12) (slots' := 108) rfl rfl ?_
  refine lv_dup hx hb dX5_init_29 rfl ?_
  obtain ⟨X13, hc, hf⟩ := q_b hf
  refine q_callc (va_runIN (As := []) (rest := [.ref (sz + 11), .int (2 : Int32), .ref v11]) ⟨hx, hb, hml, hown, hT⟩ (mX3_init l D kz b0 (sz + 12) F (Nat.le_trans hb0 (Nat.le_add_right _ _)) X12 (sz + 11) X13 hc) ⟨va_cnB 0 hT (q_gI0 wco_X3_init) rfl rfl rfl hK.2.2.2.2.2.2.2.2.1 (hT _ win_X3) hdX3_init ⟨Nat.le_of_ble_eq_true rfl, Nat.le_of_ble_eq_true rfl⟩, rfl, hT _ wim_X3_init⟩ (q_preS hR hK hz) rfl rfl hl.1 rfl (lv_room (Nat.le_of_ble_eq_true rfl)) dX5_init_30 ⟨Nat.le_of_ble_eq_true rfl, Nat.le_of_ble_eq_true rfl⟩) hS (fun H locs hR hS hz => ?_)
  have hz : H.size = sz + 16 := hz
  refine W.cs (cells' := 16) (slots' := 140) rfl rfl ?_
  refine q_aast hx hb hK hR hS hz hf dX5_init_33 (fun X14 hf H locs hR hS hz => ?_)
  refine lv_iinc (v := (3 : Int32)) (lv' := [(1, .int (3 : Int32)), (0, .ref a0)]) hx hb dX5_init_34 hl (k := 0) rfl (by decide) (by decide) rfl (fun ls hl => ?_)
  refine lv_goto (tgt := 15) hx hb dX5_init_37 (by decide) ?_
  refine lv_iload_n hx hb dX5_init_15 rfl (lv_at hl 0 rfl) ?_
  refine lv_bipush (v := (20 : Int32)) hx hb dX5_init_16 (by decide) ?_
  refine lv_icmp_ge (tgt := 40) hx hb dX5_init_18 (by decide) (fun hc => absurd hc (by decide)) (fun _ => ?_)
  refine lv_aload_n hx hb dX5_init_21 rfl (lv_at hl 1 rfl) ?_
  refine q_gR hx hb hT hown hK hR iqX5 vqX5 0 (by decide) (hT _ wfl_X5_11) hf dX5_init_22 (fun v15 hf => ?_)
  refine lv_iload_n hx hb dX5_init_25 rfl (lv_at hl 0 rfl) ?_
  obtain ⟨X16, eX16⟩ : ∃ y : qH, y = (qnO X14 (sz + 16) 3 [.int 0, .int 0, .int 0, .int 0, .null, .null, .null, .null]) := ⟨_, rfl⟩
  have hf := q_lt eX16 hf
  refine q_newO hx hb hT hown iqX3 vqX3 tyX3_ok (hT _ wcl_X5_9) (hT _ wis_X3) (hT _ win_X3) hK hR hS (Nat.le_trans hb0 (Nat.le_add_right _ _)) hz [.int 0, .int 0, .int 0, .int 0, .null, .null, .null, .null] (by decide +kernel) (Nat.le_of_ble_eq_true rfl) (Nat.le_of_ble_eq_true rfl) dX5_init_26 (fun H hR hS hz => ?_)
  rw [← eX16] at hR
  have hz : H.size = sz + 17 := hz
  refine W.cs (cells' := 17) (slots' := 148) rfl rfl ?_
  refine lv_dup hx hb dX5_init_29 rfl ?_
  obtain ⟨X17, hc, hf⟩ := q_b hf
  refine q_callc (va_runIN (As := []) (rest := [.ref (sz + 16), .int (3 : Int32), .ref v15]) ⟨hx, hb, hml, hown, hT⟩ (mX3_init l D kz b0 (sz + 17) F (Nat.le_trans hb0 (Nat.le_add_right _ _)) X16 (sz + 16) X17 hc) ⟨va_cnB 0 hT (q_gI0 wco_X3_init) rfl rfl rfl hK.2.2.2.2.2.2.2.2.1 (hT _ win_X3) hdX3_init ⟨Nat.le_of_ble_eq_true rfl, Nat.le_of_ble_eq_true rfl⟩, rfl, hT _ wim_X3_init⟩ (q_preS hR hK hz) rfl rfl hl.1 rfl (lv_room (Nat.le_of_ble_eq_true rfl)) dX5_init_30 ⟨Nat.le_of_ble_eq_true rfl, Nat.le_of_ble_eq_true rfl⟩) hS (fun H locs hR hS hz => ?_)
  have hz : H.size = sz + 21 := hz
  refine W.cs (cells' := 21) (slots' := 180) rfl rfl ?_
  refine q_aast hx hb hK hR hS hz hf dX5_init_33 (fun X18 hf H locs hR hS hz => ?_)
  refine lv_iinc (v := (4 : Int32)) (lv' := [(1, .int (4 : Int32)), (0, .ref a0)]) hx hb dX5_init_34 hl (k := 0) rfl (by decide) (by decide) rfl (fun ls hl => ?_)
  refine lv_goto (tgt := 15) hx hb dX5_init_37 (by decide) ?_
  refine lv_iload_n hx hb dX5_init_15 rfl (lv_at hl 0 rfl) ?_
  refine lv_bipush (v := (20 : Int32)) hx hb dX5_init_16 (by decide) ?_
  refine lv_icmp_ge (tgt := 40) hx hb dX5_init_18 (by decide) (fun hc => absurd hc (by decide)) (fun _ => ?_)
  refine lv_aload_n hx hb dX5_init_21 rfl (lv_at hl 1 rfl) ?_
  refine q_gR hx hb hT hown hK hR iqX5 vqX5 0 (by decide) (hT _ wfl_X5_11) hf dX5_init_22 (fun v19 hf => ?_)
  refine lv_iload_n hx hb dX5_init_25 rfl (lv_at hl 0 rfl) ?_
  obtain ⟨X20, eX20⟩ : ∃ y : qH, y = (qnO X18 (sz + 21) 3 [.int 0, .int 0, .int 0, .int 0, .null, .null, .null, .null]) := ⟨_, rfl⟩
  have hf := q_lt eX20 hf
  refine q_newO hx hb hT hown iqX3 vqX3 tyX3_ok (hT _ wcl_X5_9) (hT _ wis_X3) (hT _ win_X3) hK hR hS (Nat.le_trans hb0 (Nat.le_add_right _ _)) hz [.int 0, .int 0, .int 0, .int 0, .null, .null, .null, .null] (by decide +kernel) (Nat.le_of_ble_eq_true rfl) (Nat.le_of_ble_eq_true rfl) dX5_init_26 (fun H hR hS hz => ?_)
  rw [← eX20] at hR
  have hz : H.size = sz + 22 := hz
  refine W.cs (cells' := 22) (slots' := 188) rfl rfl ?_
  refine lv_dup hx hb dX5_init_29 rfl ?_
  obtain ⟨X21, hc, hf⟩ := q_b hf
  refine q_callc (va_runIN (As := []) (rest := [.ref (sz + 21), .int (4 : Int32), .ref v19]) ⟨hx, hb, hml, hown, hT⟩ (mX3_init l D kz b0 (sz + 22) F (Nat.le_trans hb0 (Nat.le_add_right _ _)) X20 (sz + 21) X21 hc) ⟨va_cnB 0 hT (q_gI0 wco_X3_init) rfl rfl rfl hK.2.2.2.2.2.2.2.2.1 (hT _ win_X3) hdX3_init ⟨Nat.le_of_ble_eq_true rfl, Nat.le_of_ble_eq_true rfl⟩, rfl, hT _ wim_X3_init⟩ (q_preS hR hK hz) rfl rfl hl.1 rfl (lv_room (Nat.le_of_ble_eq_true rfl)) dX5_init_30 ⟨Nat.le_of_ble_eq_true rfl, Nat.le_of_ble_eq_true rfl⟩) hS (fun H locs hR hS hz => ?_)
  have hz : H.size = sz + 26 := hz
  refine W.cs (cells' := 26) (slots' := 220) rfl rfl ?_
  refine q_aast hx hb hK hR hS hz hf dX5_init_33 (fun X22 hf H locs hR hS hz => ?_)
  refine lv_iinc (v := (5 : Int32)) (lv' := [(1, .int (5 : Int32)), (0, .ref a0)]) hx hb dX5_init_34 hl (k := 0) rfl (by decide) (by decide) rfl (fun ls hl => ?_)
  refine lv_goto (tgt := 15) hx hb dX5_init_37 (by decide) ?_
  refine lv_iload_n hx hb dX5_init_15 rfl (lv_at hl 0 rfl) ?_
  refine lv_bipush (v := (20 : Int32)) hx hb dX5_init_16 (by decide) ?_
  refine lv_icmp_ge (tgt := 40) hx hb dX5_init_18 (by decide) (fun hc => absurd hc (by decide)) (fun _ => ?_)
  refine lv_aload_n hx hb dX5_init_21 rfl (lv_at hl 1 rfl) ?_
  refine q_gR hx hb hT hown hK hR iqX5 vqX5 0 (by decide) (hT _ wfl_X5_11) hf dX5_init_22 (fun v23 hf => ?_)
  refine lv_iload_n hx hb dX5_init_25 rfl (lv_at hl 0 rfl) ?_
  obtain ⟨X24, eX24⟩ : ∃ y : qH, y = (qnO X22 (sz + 26) 3 [.int 0, .int 0, .int 0, .int 0, .null, .null, .null, .null]) := ⟨_, rfl⟩
  have hf := q_lt eX24 hf
  refine q_newO hx hb hT hown iqX3 vqX3 tyX3_ok (hT _ wcl_X5_9) (hT _ wis_X3) (hT _ win_X3) hK hR hS (Nat.le_trans hb0 (Nat.le_add_right _ _)) hz [.int 0, .int 0, .int 0, .int 0, .null, .null, .null, .null] (by decide +kernel) (Nat.le_of_ble_eq_true rfl) (Nat.le_of_ble_eq_true rfl) dX5_init_26 (fun H hR hS hz => ?_)
  rw [← eX24] at hR
  have hz : H.size = sz + 27 := hz
  refine W.cs (cells' := 27) (slots' := 228) rfl rfl ?_
  refine lv_dup hx hb dX5_init_29 rfl ?_
  obtain ⟨X25, hc, hf⟩ := q_b hf
  refine q_callc (va_runIN (As := []) (rest := [.ref (sz + 26), .int (5 : Int32), .ref v23]) ⟨hx, hb, hml, hown, hT⟩ (mX3_init l D kz b0 (sz + 27) F (Nat.le_trans hb0 (Nat.le_add_right _ _)) X24 (sz + 26) X25 hc) ⟨va_cnB 0 hT (q_gI0 wco_X3_init) rfl rfl rfl hK.2.2.2.2.2.2.2.2.1 (hT _ win_X3) hdX3_init ⟨Nat.le_of_ble_eq_true rfl, Nat.le_of_ble_eq_true rfl⟩, rfl, hT _ wim_X3_init⟩ (q_preS hR hK hz) rfl rfl hl.1 rfl (lv_room (Nat.le_of_ble_eq_true rfl)) dX5_init_30 ⟨Nat.le_of_ble_eq_true rfl, Nat.le_of_ble_eq_true rfl⟩) hS (fun H locs hR hS hz => ?_)
  have hz : H.size = sz + 31 := hz
  refine W.cs (cells' := 31) (slots' := 260) rfl rfl ?_
  refine q_aast hx hb hK hR hS hz hf dX5_init_33 (fun X26 hf H locs hR hS hz => ?_)
  refine lv_iinc (v := (6 : Int32)) (lv' := [(1, .int (6 : Int32)), (0, .ref a0)]) hx hb dX5_init_34 hl (k := 0) rfl (by decide) (by decide) rfl (fun ls hl => ?_)
  refine lv_goto (tgt := 15) hx hb dX5_init_37 (by decide) ?_
  refine lv_iload_n hx hb dX5_init_15 rfl (lv_at hl 0 rfl) ?_
  refine lv_bipush (v := (20 : Int32)) hx hb dX5_init_16 (by decide) ?_
  refine lv_icmp_ge (tgt := 40) hx hb dX5_init_18 (by decide) (fun hc => absurd hc (by decide)) (fun _ => ?_)
  refine lv_aload_n hx hb dX5_init_21 rfl (lv_at hl 1 rfl) ?_
  refine q_gR hx hb hT hown hK hR iqX5 vqX5 0 (by decide) (hT _ wfl_X5_11) hf dX5_init_22 (fun v27 hf => ?_)
  refine lv_iload_n hx hb dX5_init_25 rfl (lv_at hl 0 rfl) ?_
  obtain ⟨X28, eX28⟩ : ∃ y : qH, y = (qnO X26 (sz + 31) 3 [.int 0, .int 0, .int 0, .int 0, .null, .null, .null, .null]) := ⟨_, rfl⟩
  have hf := q_lt eX28 hf
  refine q_newO hx hb hT hown iqX3 vqX3 tyX3_ok (hT _ wcl_X5_9) (hT _ wis_X3) (hT _ win_X3) hK hR hS (Nat.le_trans hb0 (Nat.le_add_right _ _)) hz [.int 0, .int 0, .int 0, .int 0, .null, .null, .null, .null] (by decide +kernel) (Nat.le_of_ble_eq_true rfl) (Nat.le_of_ble_eq_true rfl) dX5_init_26 (fun H hR hS hz => ?_)
  rw [← eX28] at hR
  have hz : H.size = sz + 32 := hz
  refine W.cs (cells' := 32) (slots' := 268) rfl rfl ?_
  refine lv_dup hx hb dX5_init_29 rfl ?_
  obtain ⟨X29, hc, hf⟩ := q_b hf
  refine q_callc (va_runIN (As := []) (rest := [.ref (sz + 31), .int (6 : Int32), .ref v27]) ⟨hx, hb, hml, hown, hT⟩ (mX3_init l D kz b0 (sz + 32) F (Nat.le_trans hb0 (Nat.le_add_right _ _)) X28 (sz + 31) X29 hc) ⟨va_cnB 0 hT (q_gI0 wco_X3_init) rfl rfl rfl hK.2.2.2.2.2.2.2.2.1 (hT _ win_X3) hdX3_init ⟨Nat.le_of_ble_eq_true rfl, Nat.le_of_ble_eq_true rfl⟩, rfl, hT _ wim_X3_init⟩ (q_preS hR hK hz) rfl rfl hl.1 rfl (lv_room (Nat.le_of_ble_eq_true rfl)) dX5_init_30 ⟨Nat.le_of_ble_eq_true rfl, Nat.le_of_ble_eq_true rfl⟩) hS (fun H locs hR hS hz => ?_)
  have hz : H.size = sz + 36 := hz
  refine W.cs (cells' := 36) (slots' := 300) rfl rfl ?_
  refine q_aast hx hb hK hR hS hz hf dX5_init_33 (fun X30 hf H locs hR hS hz => ?_)
  refine lv_iinc (v := (7 : Int32)) (lv' := [(1, .int (7 : Int32)), (0, .ref a0)]) hx hb dX5_init_34 hl (k := 0) rfl (by decide) (by decide) rfl (fun ls hl => ?_)
  refine lv_goto (tgt := 15) hx hb dX5_init_37 (by decide) ?_
  refine lv_iload_n hx hb dX5_init_15 rfl (lv_at hl 0 rfl) ?_
  refine lv_bipush (v := (20 : Int32)) hx hb dX5_init_16 (by decide) ?_
  refine lv_icmp_ge (tgt := 40) hx hb dX5_init_18 (by decide) (fun hc => absurd hc (by decide)) (fun _ => ?_)
  refine lv_aload_n hx hb dX5_init_21 rfl (lv_at hl 1 rfl) ?_
  refine q_gR hx hb hT hown hK hR iqX5 vqX5 0 (by decide) (hT _ wfl_X5_11) hf dX5_init_22 (fun v31 hf => ?_)
  refine lv_iload_n hx hb dX5_init_25 rfl (lv_at hl 0 rfl) ?_
  obtain ⟨X32, eX32⟩ : ∃ y : qH, y = (qnO X30 (sz + 36) 3 [.int 0, .int 0, .int 0, .int 0, .null, .null, .null, .null]) := ⟨_, rfl⟩
  have hf := q_lt eX32 hf
  refine q_newO hx hb hT hown iqX3 vqX3 tyX3_ok (hT _ wcl_X5_9) (hT _ wis_X3) (hT _ win_X3) hK hR hS (Nat.le_trans hb0 (Nat.le_add_right _ _)) hz [.int 0, .int 0, .int 0, .int 0, .null, .null, .null, .null] (by decide +kernel) (Nat.le_of_ble_eq_true rfl) (Nat.le_of_ble_eq_true rfl) dX5_init_26 (fun H hR hS hz => ?_)
  rw [← eX32] at hR
  have hz : H.size = sz + 37 := hz
  refine W.cs (cells' := 37) (slots' := 308) rfl rfl ?_
  refine lv_dup hx hb dX5_init_29 rfl ?_
  obtain ⟨X33, hc, hf⟩ := q_b hf
  refine q_callc (va_runIN (As := []) (rest := [.ref (sz + 36), .int (7 : Int32), .ref v31]) ⟨hx, hb, hml, hown, hT⟩ (mX3_init l D kz b0 (sz + 37) F (Nat.le_trans hb0 (Nat.le_add_right _ _)) X32 (sz + 36) X33 hc) ⟨va_cnB 0 hT (q_gI0 wco_X3_init) rfl rfl rfl hK.2.2.2.2.2.2.2.2.1 (hT _ win_X3) hdX3_init ⟨Nat.le_of_ble_eq_true rfl, Nat.le_of_ble_eq_true rfl⟩, rfl, hT _ wim_X3_init⟩ (q_preS hR hK hz) rfl rfl hl.1 rfl (lv_room (Nat.le_of_ble_eq_true rfl)) dX5_init_30 ⟨Nat.le_of_ble_eq_true rfl, Nat.le_of_ble_eq_true rfl⟩) hS (fun H locs hR hS hz => ?_)
  have hz : H.size = sz + 41 := hz
  refine W.cs (cells' := 41) (slots' := 340) rfl rfl ?_
  refine q_aast hx hb hK hR hS hz hf dX5_init_33 (fun X34 hf H locs hR hS hz => ?_)
  refine lv_iinc (v := (8 : Int32)) (lv' := [(1, .int (8 : Int32)), (0, .ref a0)]) hx hb dX5_init_34 hl (k := 0) rfl (by decide) (by decide) rfl (fun ls hl => ?_)
  refine lv_goto (tgt := 15) hx hb dX5_init_37 (by decide) ?_
  refine lv_iload_n hx hb dX5_init_15 rfl (lv_at hl 0 rfl) ?_
  refine lv_bipush (v := (20 : Int32)) hx hb dX5_init_16 (by decide) ?_
  refine lv_icmp_ge (tgt := 40) hx hb dX5_init_18 (by decide) (fun hc => absurd hc (by decide)) (fun _ => ?_)
  refine lv_aload_n hx hb dX5_init_21 rfl (lv_at hl 1 rfl) ?_
  refine q_gR hx hb hT hown hK hR iqX5 vqX5 0 (by decide) (hT _ wfl_X5_11) hf dX5_init_22 (fun v35 hf => ?_)
  refine lv_iload_n hx hb dX5_init_25 rfl (lv_at hl 0 rfl) ?_
  obtain ⟨X36, eX36⟩ : ∃ y : qH, y = (qnO X34 (sz + 41) 3 [.int 0, .int 0, .int 0, .int 0, .null, .null, .null, .null]) := ⟨_, rfl⟩
  have hf := q_lt eX36 hf
  refine q_newO hx hb hT hown iqX3 vqX3 tyX3_ok (hT _ wcl_X5_9) (hT _ wis_X3) (hT _ win_X3) hK hR hS (Nat.le_trans hb0 (Nat.le_add_right _ _)) hz [.int 0, .int 0, .int 0, .int 0, .null, .null, .null, .null] (by decide +kernel) (Nat.le_of_ble_eq_true rfl) (Nat.le_of_ble_eq_true rfl) dX5_init_26 (fun H hR hS hz => ?_)
  rw [← eX36] at hR
  have hz : H.size = sz + 42 := hz
  refine W.cs (cells' := 42) (slots' := 348) rfl rfl ?_
  refine lv_dup hx hb dX5_init_29 rfl ?_
  obtain ⟨X37, hc, hf⟩ := q_b hf
  refine q_callc (va_runIN (As := []) (rest := [.ref (sz + 41), .int (8 : Int32), .ref v35]) ⟨hx, hb, hml, hown, hT⟩ (mX3_init l D kz b0 (sz + 42) F (Nat.le_trans hb0 (Nat.le_add_right _ _)) X36 (sz + 41) X37 hc) ⟨va_cnB 0 hT (q_gI0 wco_X3_init) rfl rfl rfl hK.2.2.2.2.2.2.2.2.1 (hT _ win_X3) hdX3_init ⟨Nat.le_of_ble_eq_true rfl, Nat.le_of_ble_eq_true rfl⟩, rfl, hT _ wim_X3_init⟩ (q_preS hR hK hz) rfl rfl hl.1 rfl (lv_room (Nat.le_of_ble_eq_true rfl)) dX5_init_30 ⟨Nat.le_of_ble_eq_true rfl, Nat.le_of_ble_eq_true rfl⟩) hS (fun H locs hR hS hz => ?_)
  have hz : H.size = sz + 46 := hz
  refine W.cs (cells' := 46) (slots' := 380) rfl rfl ?_
  refine q_aast hx hb hK hR hS hz hf dX5_init_33 (fun X38 hf H locs hR hS hz => ?_)
  refine lv_iinc (v := (9 : Int32)) (lv' := [(1, .int (9 : Int32)), (0, .ref a0)]) hx hb dX5_init_34 hl (k := 0) rfl (by decide) (by decide) rfl (fun ls hl => ?_)
  refine lv_goto (tgt := 15) hx hb dX5_init_37 (by decide) ?_
  refine lv_iload_n hx hb dX5_init_15 rfl (lv_at hl 0 rfl) ?_
  refine lv_bipush (v := (20 : Int32)) hx hb dX5_init_16 (by decide) ?_
  refine lv_icmp_ge (tgt := 40) hx hb dX5_init_18 (by decide) (fun hc => absurd hc (by decide)) (fun _ => ?_)
  refine lv_aload_n hx hb dX5_init_21 rfl (lv_at hl 1 rfl) ?_
  refine q_gR hx hb hT hown hK hR iqX5 vqX5 0 (by decide) (hT _ wfl_X5_11) hf dX5_init_22 (fun v39 hf => ?_)
  refine lv_iload_n hx hb dX5_init_25 rfl (lv_at hl 0 rfl) ?_
  obtain ⟨X40, eX40⟩ : ∃ y : qH, y = (qnO X38 (sz + 46) 3 [.int 0, .int 0, .int 0, .int 0, .null, .null, .null, .null]) := ⟨_, rfl⟩
  have hf := q_lt eX40 hf
  refine q_newO hx hb hT hown iqX3 vqX3 tyX3_ok (hT _ wcl_X5_9) (hT _ wis_X3) (hT _ win_X3) hK hR hS (Nat.le_trans hb0 (Nat.le_add_right _ _)) hz [.int 0, .int 0, .int 0, .int 0, .null, .null, .null, .null] (by decide +kernel) (Nat.le_of_ble_eq_true rfl) (Nat.le_of_ble_eq_true rfl) dX5_init_26 (fun H hR hS hz => ?_)
  rw [← eX40] at hR
  have hz : H.size = sz + 47 := hz
  refine W.cs (cells' := 47) (slots' := 388) rfl rfl ?_
  refine lv_dup hx hb dX5_init_29 rfl ?_
  obtain ⟨X41, hc, hf⟩ := q_b hf
  refine q_callc (va_runIN (As := []) (rest := [.ref (sz + 46), .int (9 : Int32), .ref v39]) ⟨hx, hb, hml, hown, hT⟩ (mX3_init l D kz b0 (sz + 47) F (Nat.le_trans hb0 (Nat.le_add_right _ _)) X40 (sz + 46) X41 hc) ⟨va_cnB 0 hT (q_gI0 wco_X3_init) rfl rfl rfl hK.2.2.2.2.2.2.2.2.1 (hT _ win_X3) hdX3_init ⟨Nat.le_of_ble_eq_true rfl, Nat.le_of_ble_eq_true rfl⟩, rfl, hT _ wim_X3_init⟩ (q_preS hR hK hz) rfl rfl hl.1 rfl (lv_room (Nat.le_of_ble_eq_true rfl)) dX5_init_30 ⟨Nat.le_of_ble_eq_true rfl, Nat.le_of_ble_eq_true rfl⟩) hS (fun H locs hR hS hz => ?_)
  have hz : H.size = sz + 51 := hz
  refine W.cs (cells' := 51) (slots' := 420) rfl rfl ?_
  refine q_aast hx hb hK hR hS hz hf dX5_init_33 (fun X42 hf H locs hR hS hz => ?_)
  refine lv_iinc (v := (10 : Int32)) (lv' := [(1, .int (10 : Int32)), (0, .ref a0)]) hx hb dX5_init_34 hl (k := 0) rfl (by decide) (by decide) rfl (fun ls hl => ?_)
  refine lv_goto (tgt := 15) hx hb dX5_init_37 (by decide) ?_
  refine lv_iload_n hx hb dX5_init_15 rfl (lv_at hl 0 rfl) ?_
  refine lv_bipush (v := (20 : Int32)) hx hb dX5_init_16 (by decide) ?_
  refine lv_icmp_ge (tgt := 40) hx hb dX5_init_18 (by decide) (fun hc => absurd hc (by decide)) (fun _ => ?_)
  refine lv_aload_n hx hb dX5_init_21 rfl (lv_at hl 1 rfl) ?_
  refine q_gR hx hb hT hown hK hR iqX5 vqX5 0 (by decide) (hT _ wfl_X5_11) hf dX5_init_22 (fun v43 hf => ?_)
  refine lv_iload_n hx hb dX5_init_25 rfl (lv_at hl 0 rfl) ?_
  obtain ⟨X44, eX44⟩ : ∃ y : qH, y = (qnO X42 (sz + 51) 3 [.int 0, .int 0, .int 0, .int 0, .null, .null, .null, .null]) := ⟨_, rfl⟩
  have hf := q_lt eX44 hf
  refine q_newO hx hb hT hown iqX3 vqX3 tyX3_ok (hT _ wcl_X5_9) (hT _ wis_X3) (hT _ win_X3) hK hR hS (Nat.le_trans hb0 (Nat.le_add_right _ _)) hz [.int 0, .int 0, .int 0, .int 0, .null, .null, .null, .null] (by decide +kernel) (Nat.le_of_ble_eq_true rfl) (Nat.le_of_ble_eq_true rfl) dX5_init_26 (fun H hR hS hz => ?_)
  rw [← eX44] at hR
  have hz : H.size = sz + 52 := hz
  refine W.cs (cells' := 52) (slots' := 428) rfl rfl ?_
  refine lv_dup hx hb dX5_init_29 rfl ?_
  obtain ⟨X45, hc, hf⟩ := q_b hf
  refine q_callc (va_runIN (As := []) (rest := [.ref (sz + 51), .int (10 : Int32), .ref v43]) ⟨hx, hb, hml, hown, hT⟩ (mX3_init l D kz b0 (sz + 52) F (Nat.le_trans hb0 (Nat.le_add_right _ _)) X44 (sz + 51) X45 hc) ⟨va_cnB 0 hT (q_gI0 wco_X3_init) rfl rfl rfl hK.2.2.2.2.2.2.2.2.1 (hT _ win_X3) hdX3_init ⟨Nat.le_of_ble_eq_true rfl, Nat.le_of_ble_eq_true rfl⟩, rfl, hT _ wim_X3_init⟩ (q_preS hR hK hz) rfl rfl hl.1 rfl (lv_room (Nat.le_of_ble_eq_true rfl)) dX5_init_30 ⟨Nat.le_of_ble_eq_true rfl, Nat.le_of_ble_eq_true rfl⟩) hS (fun H locs hR hS hz => ?_)
  have hz : H.size = sz + 56 := hz
  refine W.cs (cells' := 56) (slots' := 460) rfl rfl ?_
  refine q_aast hx hb hK hR hS hz hf dX5_init_33 (fun X46 hf H locs hR hS hz => ?_)
  refine lv_iinc (v := (11 : Int32)) (lv' := [(1, .int (11 : Int32)), (0, .ref a0)]) hx hb dX5_init_34 hl (k := 0) rfl (by decide) (by decide) rfl (fun ls hl => ?_)
  refine lv_goto (tgt := 15) hx hb dX5_init_37 (by decide) ?_
  refine lv_iload_n hx hb dX5_init_15 rfl (lv_at hl 0 rfl) ?_
  refine lv_bipush (v := (20 : Int32)) hx hb dX5_init_16 (by decide) ?_
  refine lv_icmp_ge (tgt := 40) hx hb dX5_init_18 (by decide) (fun hc => absurd hc (by decide)) (fun _ => ?_)
  refine lv_aload_n hx hb dX5_init_21 rfl (lv_at hl 1 rfl) ?_
  refine q_gR hx hb hT hown hK hR iqX5 vqX5 0 (by decide) (hT _ wfl_X5_11) hf dX5_init_22 (fun v47 hf => ?_)
  refine lv_iload_n hx hb dX5_init_25 rfl (lv_at hl 0 rfl) ?_
  obtain ⟨X48, eX48⟩ : ∃ y : qH, y = (qnO X46 (sz + 56) 3 [.int 0, .int 0, .int 0, .int 0, .null, .null, .null, .null]) := ⟨_, rfl⟩
  have hf := q_lt eX48 hf
  refine q_newO hx hb hT hown iqX3 vqX3 tyX3_ok (hT _ wcl_X5_9) (hT _ wis_X3) (hT _ win_X3) hK hR hS (Nat.le_trans hb0 (Nat.le_add_right _ _)) hz [.int 0, .int 0, .int 0, .int 0, .null, .null, .null, .null] (by decide +kernel) (Nat.le_of_ble_eq_true rfl) (Nat.le_of_ble_eq_true rfl) dX5_init_26 (fun H hR hS hz => ?_)
  rw [← eX48] at hR
  have hz : H.size = sz + 57 := hz
  refine W.cs (cells' := 57) (slots' := 468) rfl rfl ?_
  refine lv_dup hx hb dX5_init_29 rfl ?_
  obtain ⟨X49, hc, hf⟩ := q_b hf
  refine q_callc (va_runIN (As := []) (rest := [.ref (sz + 56), .int (11 : Int32), .ref v47]) ⟨hx, hb, hml, hown, hT⟩ (mX3_init l D kz b0 (sz + 57) F (Nat.le_trans hb0 (Nat.le_add_right _ _)) X48 (sz + 56) X49 hc) ⟨va_cnB 0 hT (q_gI0 wco_X3_init) rfl rfl rfl hK.2.2.2.2.2.2.2.2.1 (hT _ win_X3) hdX3_init ⟨Nat.le_of_ble_eq_true rfl, Nat.le_of_ble_eq_true rfl⟩, rfl, hT _ wim_X3_init⟩ (q_preS hR hK hz) rfl rfl hl.1 rfl (lv_room (Nat.le_of_ble_eq_true rfl)) dX5_init_30 ⟨Nat.le_of_ble_eq_true rfl, Nat.le_of_ble_eq_true rfl⟩) hS (fun H locs hR hS hz => ?_)
  have hz : H.size = sz + 61 := hz
  refine W.cs (cells' := 61) (slots' := 500) rfl rfl ?_
  refine q_aast hx hb hK hR hS hz hf dX5_init_33 (fun X50 hf H locs hR hS hz => ?_)
  refine lv_iinc (v := (12 : Int32)) (lv' := [(1, .int (12 : Int32)), (0, .ref a0)]) hx hb dX5_init_34 hl (k := 0) rfl (by decide) (by decide) rfl (fun ls hl => ?_)
  refine lv_goto (tgt := 15) hx hb dX5_init_37 (by decide) ?_
  refine lv_iload_n hx hb dX5_init_15 rfl (lv_at hl 0 rfl) ?_
  refine lv_bipush (v := (20 : Int32)) hx hb dX5_init_16 (by decide) ?_
  refine lv_icmp_ge (tgt := 40) hx hb dX5_init_18 (by decide) (fun hc => absurd hc (by decide)) (fun _ => ?_)
  refine lv_aload_n hx hb dX5_init_21 rfl (lv_at hl 1 rfl) ?_
  refine q_gR hx hb hT hown hK hR iqX5 vqX5 0 (by decide) (hT _ wfl_X5_11) hf dX5_init_22 (fun v51 hf => ?_)
  refine lv_iload_n hx hb dX5_init_25 rfl (lv_at hl 0 rfl) ?_
  obtain ⟨X52, eX52⟩ : ∃ y : qH, y = (qnO X50 (sz + 61) 3 [.int 0, .int 0, .int 0, .int 0, .null, .null, .null, .null]) := ⟨_, rfl⟩
  have hf := q_lt eX52 hf
  refine q_newO hx hb hT hown iqX3 vqX3 tyX3_ok (hT _ wcl_X5_9) (hT _ wis_X3) (hT _ win_X3) hK hR hS (Nat.le_trans hb0 (Nat.le_add_right _ _)) hz [.int 0, .int 0, .int 0, .int 0, .null, .null, .null, .null] (by decide +kernel) (Nat.le_of_ble_eq_true rfl) (Nat.le_of_ble_eq_true rfl) dX5_init_26 (fun H hR hS hz => ?_)
  rw [← eX52] at hR
  have hz : H.size = sz + 62 := hz
  refine W.cs (cells' := 62) (slots' := 508) rfl rfl ?_
  refine lv_dup hx hb dX5_init_29 rfl ?_
  obtain ⟨X53, hc, hf⟩ := q_b hf
  refine q_callc (va_runIN (As := []) (rest := [.ref (sz + 61), .int (12 : Int32), .ref v51]) ⟨hx, hb, hml, hown, hT⟩ (mX3_init l D kz b0 (sz + 62) F (Nat.le_trans hb0 (Nat.le_add_right _ _)) X52 (sz + 61) X53 hc) ⟨va_cnB 0 hT (q_gI0 wco_X3_init) rfl rfl rfl hK.2.2.2.2.2.2.2.2.1 (hT _ win_X3) hdX3_init ⟨Nat.le_of_ble_eq_true rfl, Nat.le_of_ble_eq_true rfl⟩, rfl, hT _ wim_X3_init⟩ (q_preS hR hK hz) rfl rfl hl.1 rfl (lv_room (Nat.le_of_ble_eq_true rfl)) dX5_init_30 ⟨Nat.le_of_ble_eq_true rfl, Nat.le_of_ble_eq_true rfl⟩) hS (fun H locs hR hS hz => ?_)
  have hz : H.size = sz + 66 := hz
  refine W.cs (cells' := 66) (slots' := 540) rfl rfl ?_
  refine q_aast hx hb hK hR hS hz hf dX5_init_33 (fun X54 hf H locs hR hS hz => ?_)
  refine lv_iinc (v := (13 : Int32)) (lv' := [(1, .int (13 : Int32)), (0, .ref a0)]) hx hb dX5_init_34 hl (k := 0) rfl (by decide) (by decide) rfl (fun ls hl => ?_)
  refine lv_goto (tgt := 15) hx hb dX5_init_37 (by decide) ?_
  refine lv_iload_n hx hb dX5_init_15 rfl (lv_at hl 0 rfl) ?_
  refine lv_bipush (v := (20 : Int32)) hx hb dX5_init_16 (by decide) ?_
  refine lv_icmp_ge (tgt := 40) hx hb dX5_init_18 (by decide) (fun hc => absurd hc (by decide)) (fun _ => ?_)
  refine lv_aload_n hx hb dX5_init_21 rfl (lv_at hl 1 rfl) ?_
  refine q_gR hx hb hT hown hK hR iqX5 vqX5 0 (by decide) (hT _ wfl_X5_11) hf dX5_init_22 (fun v55 hf => ?_)
  refine lv_iload_n hx hb dX5_init_25 rfl (lv_at hl 0 rfl) ?_
  obtain ⟨X56, eX56⟩ : ∃ y : qH, y = (qnO X54 (sz + 66) 3 [.int 0, .int 0, .int 0, .int 0, .null, .null, .null, .null]) := ⟨_, rfl⟩
  have hf := q_lt eX56 hf
  refine q_newO hx hb hT hown iqX3 vqX3 tyX3_ok (hT _ wcl_X5_9) (hT _ wis_X3) (hT _ win_X3) hK hR hS (Nat.le_trans hb0 (Nat.le_add_right _ _)) hz [.int 0, .int 0, .int 0, .int 0, .null, .null, .null, .null] (by decide +kernel) (Nat.le_of_ble_eq_true rfl) (Nat.le_of_ble_eq_true rfl) dX5_init_26 (fun H hR hS hz => ?_)
  rw [← eX56] at hR
  have hz : H.size = sz + 67 := hz
  refine W.cs (cells' := 67) (slots' := 548) rfl rfl ?_
  refine lv_dup hx hb dX5_init_29 rfl ?_
  obtain ⟨X57, hc, hf⟩ := q_b hf
  refine q_callc (va_runIN (As := []) (rest := [.ref (sz + 66), .int (13 : Int32), .ref v55]) ⟨hx, hb, hml, hown, hT⟩ (mX3_init l D kz b0 (sz + 67) F (Nat.le_trans hb0 (Nat.le_add_right _ _)) X56 (sz + 66) X57 hc) ⟨va_cnB 0 hT (q_gI0 wco_X3_init) rfl rfl rfl hK.2.2.2.2.2.2.2.2.1 (hT _ win_X3) hdX3_init ⟨Nat.le_of_ble_eq_true rfl, Nat.le_of_ble_eq_true rfl⟩, rfl, hT _ wim_X3_init⟩ (q_preS hR hK hz) rfl rfl hl.1 rfl (lv_room (Nat.le_of_ble_eq_true rfl)) dX5_init_30 ⟨Nat.le_of_ble_eq_true rfl, Nat.le_of_ble_eq_true rfl⟩) hS (fun H locs hR hS hz => ?_)
  have hz : H.size = sz + 71 := hz
  refine W.cs (cells' := 71) (slots' := 580) rfl rfl ?_
  refine q_aast hx hb hK hR hS hz hf dX5_init_33 (fun X58 hf H locs hR hS hz => ?_)
  refine lv_iinc (v := (14 : Int32)) (lv' := [(1, .int (14 : Int32)), (0, .ref a0)]) hx hb dX5_init_34 hl (k := 0) rfl (by decide) (by decide) rfl (fun ls hl => ?_)
  refine lv_goto (tgt := 15) hx hb dX5_init_37 (by decide) ?_
  refine lv_iload_n hx hb dX5_init_15 rfl (lv_at hl 0 rfl) ?_
  refine lv_bipush (v := (20 : Int32)) hx hb dX5_init_16 (by decide) ?_
  refine lv_icmp_ge (tgt := 40) hx hb dX5_init_18 (by decide) (fun hc => absurd hc (by decide)) (fun _ => ?_)
  refine lv_aload_n hx hb dX5_init_21 rfl (lv_at hl 1 rfl) ?_
  refine q_gR hx hb hT hown hK hR iqX5 vqX5 0 (by decide) (hT _ wfl_X5_11) hf dX5_init_22 (fun v59 hf => ?_)
  refine lv_iload_n hx hb dX5_init_25 rfl (lv_at hl 0 rfl) ?_
  obtain ⟨X60, eX60⟩ : ∃ y : qH, y = (qnO X58 (sz + 71) 3 [.int 0, .int 0, .int 0, .int 0, .null, .null, .null, .null]) := ⟨_, rfl⟩
  have hf := q_lt eX60 hf
  refine q_newO hx hb hT hown iqX3 vqX3 tyX3_ok (hT _ wcl_X5_9) (hT _ wis_X3) (hT _ win_X3) hK hR hS (Nat.le_trans hb0 (Nat.le_add_right _ _)) hz [.int 0, .int 0, .int 0, .int 0, .null, .null, .null, .null] (by decide +kernel) (Nat.le_of_ble_eq_true rfl) (Nat.le_of_ble_eq_true rfl) dX5_init_26 (fun H hR hS hz => ?_)
  rw [← eX60] at hR
  have hz : H.size = sz + 72 := hz
  refine W.cs (cells' := 72) (slots' := 588) rfl rfl ?_
  refine lv_dup hx hb dX5_init_29 rfl ?_
  obtain ⟨X61, hc, hf⟩ := q_b hf
  refine q_callc (va_runIN (As := []) (rest := [.ref (sz + 71), .int (14 : Int32), .ref v59]) ⟨hx, hb, hml, hown, hT⟩ (mX3_init l D kz b0 (sz + 72) F (Nat.le_trans hb0 (Nat.le_add_right _ _)) X60 (sz + 71) X61 hc) ⟨va_cnB 0 hT (q_gI0 wco_X3_init) rfl rfl rfl hK.2.2.2.2.2.2.2.2.1 (hT _ win_X3) hdX3_init ⟨Nat.le_of_ble_eq_true rfl, Nat.le_of_ble_eq_true rfl⟩, rfl, hT _ wim_X3_init⟩ (q_preS hR hK hz) rfl rfl hl.1 rfl (lv_room (Nat.le_of_ble_eq_true rfl)) dX5_init_30 ⟨Nat.le_of_ble_eq_true rfl, Nat.le_of_ble_eq_true rfl⟩) hS (fun H locs hR hS hz => ?_)
  have hz : H.size = sz + 76 := hz
  refine W.cs (cells' := 76) (slots' := 620) rfl rfl ?_
  refine q_aast hx hb hK hR hS hz hf dX5_init_33 (fun X62 hf H locs hR hS hz => ?_)
  refine lv_iinc (v := (15 : Int32)) (lv' := [(1, .int (15 : Int32)), (0, .ref a0)]) hx hb dX5_init_34 hl (k := 0) rfl (by decide) (by decide) rfl (fun ls hl => ?_)
  refine lv_goto (tgt := 15) hx hb dX5_init_37 (by decide) ?_
  refine lv_iload_n hx hb dX5_init_15 rfl (lv_at hl 0 rfl) ?_
  refine lv_bipush (v := (20 : Int32)) hx hb dX5_init_16 (by decide) ?_
  refine lv_icmp_ge (tgt := 40) hx hb dX5_init_18 (by decide) (fun hc => absurd hc (by decide)) (fun _ => ?_)
  refine lv_aload_n hx hb dX5_init_21 rfl (lv_at hl 1 rfl) ?_
  refine q_gR hx hb hT hown hK hR iqX5 vqX5 0 (by decide) (hT _ wfl_X5_11) hf dX5_init_22 (fun v63 hf => ?_)
  refine lv_iload_n hx hb dX5_init_25 rfl (lv_at hl 0 rfl) ?_
  obtain ⟨X64, eX64⟩ : ∃ y : qH, y = (qnO X62 (sz + 76) 3 [.int 0, .int 0, .int 0, .int 0, .null, .null, .null, .null]) := ⟨_, rfl⟩
  have hf := q_lt eX64 hf
  refine q_newO hx hb hT hown iqX3 vqX3 tyX3_ok (hT _ wcl_X5_9) (hT _ wis_X3) (hT _ win_X3) hK hR hS (Nat.le_trans hb0 (Nat.le_add_right _ _)) hz [.int 0, .int 0, .int 0, .int 0, .null, .null, .null, .null] (by decide +kernel) (Nat.le_of_ble_eq_true rfl) (Nat.le_of_ble_eq_true rfl) dX5_init_26 (fun H hR hS hz => ?_)
  rw [← eX64] at hR
  have hz : H.size = sz + 77 := hz
  refine W.cs (cells' := 77) (slots' := 628) rfl rfl ?_
  refine lv_dup hx hb dX5_init_29 rfl ?_
  obtain ⟨X65, hc, hf⟩ := q_b hf
  refine q_callc (va_runIN (As := []) (rest := [.ref (sz + 76), .int (15 : Int32), .ref v63]) ⟨hx, hb, hml, hown, hT⟩ (mX3_init l D kz b0 (sz + 77) F (Nat.le_trans hb0 (Nat.le_add_right _ _)) X64 (sz + 76) X65 hc) ⟨va_cnB 0 hT (q_gI0 wco_X3_init) rfl rfl rfl hK.2.2.2.2.2.2.2.2.1 (hT _ win_X3) hdX3_init ⟨Nat.le_of_ble_eq_true rfl, Nat.le_of_ble_eq_true rfl⟩, rfl, hT _ wim_X3_init⟩ (q_preS hR hK hz) rfl rfl hl.1 rfl (lv_room (Nat.le_of_ble_eq_true rfl)) dX5_init_30 ⟨Nat.le_of_ble_eq_true rfl, Nat.le_of_ble_eq_true rfl⟩) hS (fun H locs hR hS hz => ?_)
  have hz : H.size = sz + 81 := hz
  refine W.cs (cells' := 81) (slots' := 660) rfl rfl ?_
  refine q_aast hx hb hK hR hS hz hf dX5_init_33 (fun X66 hf H locs hR hS hz => ?_)
  refine lv_iinc (v := (16 : Int32)) (lv' := [(1, .int (16 : Int32)), (0, .ref a0)]) hx hb dX5_init_34 hl (k := 0) rfl (by decide) (by decide) rfl (fun ls hl => ?_)
  refine lv_goto (tgt := 15) hx hb dX5_init_37 (by decide) ?_
  refine lv_iload_n hx hb dX5_init_15 rfl (lv_at hl 0 rfl) ?_
  refine lv_bipush (v := (20 : Int32)) hx hb dX5_init_16 (by decide) ?_
  refine lv_icmp_ge (tgt := 40) hx hb dX5_init_18 (by decide) (fun hc => absurd hc (by decide)) (fun _ => ?_)
  refine lv_aload_n hx hb dX5_init_21 rfl (lv_at hl 1 rfl) ?_
  refine q_gR hx hb hT hown hK hR iqX5 vqX5 0 (by decide) (hT _ wfl_X5_11) hf dX5_init_22 (fun v67 hf => ?_)
  refine lv_iload_n hx hb dX5_init_25 rfl (lv_at hl 0 rfl) ?_
  obtain ⟨X68, eX68⟩ : ∃ y : qH, y = (qnO X66 (sz + 81) 3 [.int 0, .int 0, .int 0, .int 0, .null, .null, .null, .null]) := ⟨_, rfl⟩
  have hf := q_lt eX68 hf
  refine q_newO hx hb hT hown iqX3 vqX3 tyX3_ok (hT _ wcl_X5_9) (hT _ wis_X3) (hT _ win_X3) hK hR hS (Nat.le_trans hb0 (Nat.le_add_right _ _)) hz [.int 0, .int 0, .int 0, .int 0, .null, .null, .null, .null] (by decide +kernel) (Nat.le_of_ble_eq_true rfl) (Nat.le_of_ble_eq_true rfl) dX5_init_26 (fun H hR hS hz => ?_)
  rw [← eX68] at hR
  have hz : H.size = sz + 82 := hz
  refine W.cs (cells' := 82) (slots' := 668) rfl rfl ?_
  refine lv_dup hx hb dX5_init_29 rfl ?_
  obtain ⟨X69, hc, hf⟩ := q_b hf
  refine q_callc (va_runIN (As := []) (rest := [.ref (sz + 81), .int (16 : Int32), .ref v67]) ⟨hx, hb, hml, hown, hT⟩ (mX3_init l D kz b0 (sz + 82) F (Nat.le_trans hb0 (Nat.le_add_right _ _)) X68 (sz + 81) X69 hc) ⟨va_cnB 0 hT (q_gI0 wco_X3_init) rfl rfl rfl hK.2.2.2.2.2.2.2.2.1 (hT _ win_X3) hdX3_init ⟨Nat.le_of_ble_eq_true rfl, Nat.le_of_ble_eq_true rfl⟩, rfl, hT _ wim_X3_init⟩ (q_preS hR hK hz) rfl rfl hl.1 rfl (lv_room (Nat.le_of_ble_eq_true rfl)) dX5_init_30 ⟨Nat.le_of_ble_eq_true rfl, Nat.le_of_ble_eq_true rfl⟩) hS (fun H locs hR hS hz => ?_)
  have hz : H.size = sz + 86 := hz
  refine W.cs (cells' := 86) (slots' := 700) rfl rfl ?_
  refine q_aast hx hb hK hR hS hz hf dX5_init_33 (fun X70 hf H locs hR hS hz => ?_)
  refine lv_iinc (v := (17 : Int32)) (lv' := [(1, .int (17 : Int32)), (0, .ref a0)]) hx hb dX5_init_34 hl (k := 0) rfl (by decide) (by decide) rfl (fun ls hl => ?_)
  refine lv_goto (tgt := 15) hx hb dX5_init_37 (by decide) ?_
  refine lv_iload_n hx hb dX5_init_15 rfl (lv_at hl 0 rfl) ?_
  refine lv_bipush (v := (20 : Int32)) hx hb dX5_init_16 (by decide) ?_
  refine lv_icmp_ge (tgt := 40) hx hb dX5_init_18 (by decide) (fun hc => absurd hc (by decide)) (fun _ => ?_)
  refine lv_aload_n hx hb dX5_init_21 rfl (lv_at hl 1 rfl) ?_
  refine q_gR hx hb hT hown hK hR iqX5 vqX5 0 (by decide) (hT _ wfl_X5_11) hf dX5_init_22 (fun v71 hf => ?_)
  refine lv_iload_n hx hb dX5_init_25 rfl (lv_at hl 0 rfl) ?_
  obtain ⟨X72, eX72⟩ : ∃ y : qH, y = (qnO X70 (sz + 86) 3 [.int 0, .int 0, .int 0, .int 0, .null, .null, .null, .null]) := ⟨_, rfl⟩
  have hf := q_lt eX72 hf
  refine q_newO hx hb hT hown iqX3 vqX3 tyX3_ok (hT _ wcl_X5_9) (hT _ wis_X3) (hT _ win_X3) hK hR hS (Nat.le_trans hb0 (Nat.le_add_right _ _)) hz [.int 0, .int 0, .int 0, .int 0, .null, .null, .null, .null] (by decide +kernel) (Nat.le_of_ble_eq_true rfl) (Nat.le_of_ble_eq_true rfl) dX5_init_26 (fun H hR hS hz => ?_)
  rw [← eX72] at hR
  have hz : H.size = sz + 87 := hz
  refine W.cs (cells' := 87) (slots' := 708) rfl rfl ?_
  refine lv_dup hx hb dX5_init_29 rfl ?_
  obtain ⟨X73, hc, hf⟩ := q_b hf
  refine q_callc (va_runIN (As := []) (rest := [.ref (sz + 86), .int (17 : Int32), .ref v71]) ⟨hx, hb, hml, hown, hT⟩ (mX3_init l D kz b0 (sz + 87) F (Nat.le_trans hb0 (Nat.le_add_right _ _)) X72 (sz + 86) X73 hc) ⟨va_cnB 0 hT (q_gI0 wco_X3_init) rfl rfl rfl hK.2.2.2.2.2.2.2.2.1 (hT _ win_X3) hdX3_init ⟨Nat.le_of_ble_eq_true rfl, Nat.le_of_ble_eq_true rfl⟩, rfl, hT _ wim_X3_init⟩ (q_preS hR hK hz) rfl rfl hl.1 rfl (lv_room (Nat.le_of_ble_eq_true rfl)) dX5_init_30 ⟨Nat.le_of_ble_eq_true rfl, Nat.le_of_ble_eq_true rfl⟩) hS (fun H locs hR hS hz => ?_)
  have hz : H.size = sz + 91 := hz
  refine W.cs (cells' := 91) (slots' := 740) rfl rfl ?_
  refine q_aast hx hb hK hR hS hz hf dX5_init_33 (fun X74 hf H locs hR hS hz => ?_)
  refine lv_iinc (v := (18 : Int32)) (lv' := [(1, .int (18 : Int32)), (0, .ref a0)]) hx hb dX5_init_34 hl (k := 0) rfl (by decide) (by decide) rfl (fun ls hl => ?_)
  refine lv_goto (tgt := 15) hx hb dX5_init_37 (by decide) ?_
  refine lv_iload_n hx hb dX5_init_15 rfl (lv_at hl 0 rfl) ?_
  refine lv_bipush (v := (20 : Int32)) hx hb dX5_init_16 (by decide) ?_
  refine lv_icmp_ge (tgt := 40) hx hb dX5_init_18 (by decide) (fun hc => absurd hc (by decide)) (fun _ => ?_)
  refine lv_aload_n hx hb dX5_init_21 rfl (lv_at hl 1 rfl) ?_
  refine q_gR hx hb hT hown hK hR iqX5 vqX5 0 (by decide) (hT _ wfl_X5_11) hf dX5_init_22 (fun v75 hf => ?_)
  refine lv_iload_n hx hb dX5_init_25 rfl (lv_at hl 0 rfl) ?_
  obtain ⟨X76, eX76⟩ : ∃ y : qH, y = (qnO X74 (sz + 91) 3 [.int 0, .int 0, .int 0, .int 0, .null, .null, .null, .null]) := ⟨_, rfl⟩
  have hf := q_lt eX76 hf
  refine q_newO hx hb hT hown iqX3 vqX3 tyX3_ok (hT _ wcl_X5_9) (hT _ wis_X3) (hT _ win_X3) hK hR hS (Nat.le_trans hb0 (Nat.le_add_right _ _)) hz [.int 0, .int 0, .int 0, .int 0, .null, .null, .null, .null] (by decide +kernel) (Nat.le_of_ble_eq_true rfl) (Nat.le_of_ble_eq_true rfl) dX5_init_26 (fun H hR hS hz => ?_)
  rw [← eX76] at hR
  have hz : H.size = sz + 92 := hz
  refine W.cs (cells' := 92) (slots' := 748) rfl rfl ?_
  refine lv_dup hx hb dX5_init_29 rfl ?_
  obtain ⟨X77, hc, hf⟩ := q_b hf
  refine q_callc (va_runIN (As := []) (rest := [.ref (sz + 91), .int (18 : Int32), .ref v75]) ⟨hx, hb, hml, hown, hT⟩ (mX3_init l D kz b0 (sz + 92) F (Nat.le_trans hb0 (Nat.le_add_right _ _)) X76 (sz + 91) X77 hc) ⟨va_cnB 0 hT (q_gI0 wco_X3_init) rfl rfl rfl hK.2.2.2.2.2.2.2.2.1 (hT _ win_X3) hdX3_init ⟨Nat.le_of_ble_eq_true rfl, Nat.le_of_ble_eq_true rfl⟩, rfl, hT _ wim_X3_init⟩ (q_preS hR hK hz) rfl rfl hl.1 rfl (lv_room (Nat.le_of_ble_eq_true rfl)) dX5_init_30 ⟨Nat.le_of_ble_eq_true rfl, Nat.le_of_ble_eq_true rfl⟩) hS (fun H locs hR hS hz => ?_)
  have hz : H.size = sz + 96 := hz
  refine W.cs (cells' := 96) (slots' := 780) rfl rfl ?_
  refine q_aast hx hb hK hR hS hz hf dX5_init_33 (fun X78 hf H locs hR hS hz => ?_)
  refine lv_iinc (v := (19 : Int32)) (lv' := [(1, .int (19 : Int32)), (0, .ref a0)]) hx hb dX5_init_34 hl (k := 0) rfl (by decide) (by decide) rfl (fun ls hl => ?_)
  refine lv_goto (tgt := 15) hx hb dX5_init_37 (by decide) ?_
  refine lv_iload_n hx hb dX5_init_15 rfl (lv_at hl 0 rfl) ?_
  refine lv_bipush (v := (20 : Int32)) hx hb dX5_init_16 (by decide) ?_
  refine lv_icmp_ge (tgt := 40) hx hb dX5_init_18 (by decide) (fun hc => absurd hc (by decide)) (fun _ => ?_)
  refine lv_aload_n hx hb dX5_init_21 rfl (lv_at hl 1 rfl) ?_
  refine q_gR hx hb hT hown hK hR iqX5 vqX5 0 (by decide) (hT _ wfl_X5_11) hf dX5_init_22 (fun v79 hf => ?_)
  refine lv_iload_n hx hb dX5_init_25 rfl (lv_at hl 0 rfl) ?_
  obtain ⟨X80, eX80⟩ : ∃ y : qH, y = (qnO X78 (sz + 96) 3 [.int 0, .int 0, .int 0, .int 0, .null, .null, .null, .null]) := ⟨_, rfl⟩
  have hf := q_lt eX80 hf
  refine q_newO hx hb hT hown iqX3 vqX3 tyX3_ok (hT _ wcl_X5_9) (hT _ wis_X3) (hT _ win_X3) hK hR hS (Nat.le_trans hb0 (Nat.le_add_right _ _)) hz [.int 0, .int 0, .int 0, .int 0, .null, .null, .null, .null] (by decide +kernel) (Nat.le_of_ble_eq_true rfl) (Nat.le_of_ble_eq_true rfl) dX5_init_26 (fun H hR hS hz => ?_)
  rw [← eX80] at hR
  have hz : H.size = sz + 97 := hz
  refine W.cs (cells' := 97) (slots' := 788) rfl rfl ?_
  refine lv_dup hx hb dX5_init_29 rfl ?_
  obtain ⟨X81, hc, hf⟩ := q_b hf
  refine q_callc (va_runIN (As := []) (rest := [.ref (sz + 96), .int (19 : Int32), .ref v79]) ⟨hx, hb, hml, hown, hT⟩ (mX3_init l D kz b0 (sz + 97) F (Nat.le_trans hb0 (Nat.le_add_right _ _)) X80 (sz + 96) X81 hc) ⟨va_cnB 0 hT (q_gI0 wco_X3_init) rfl rfl rfl hK.2.2.2.2.2.2.2.2.1 (hT _ win_X3) hdX3_init ⟨Nat.le_of_ble_eq_true rfl, Nat.le_of_ble_eq_true rfl⟩, rfl, hT _ wim_X3_init⟩ (q_preS hR hK hz) rfl rfl hl.1 rfl (lv_room (Nat.le_of_ble_eq_true rfl)) dX5_init_30 ⟨Nat.le_of_ble_eq_true rfl, Nat.le_of_ble_eq_true rfl⟩) hS (fun H locs hR hS hz => ?_)
  have hz : H.size = sz + 101 := hz
  refine W.cs (cells' := 101) (slots' := 820) rfl rfl ?_
  refine q_aast hx hb hK hR hS hz hf dX5_init_33 (fun X82 hf H locs hR hS hz => ?_)
  refine lv_iinc (v := (20 : Int32)) (lv' := [(1, .int (20 : Int32)), (0, .ref a0)]) hx hb dX5_init_34 hl (k := 0) rfl (by decide) (by decide) rfl (fun ls hl => ?_)
  refine lv_goto (tgt := 15) hx hb dX5_init_37 (by decide) ?_
  refine lv_iload_n hx hb dX5_init_15 rfl (lv_at hl 0 rfl) ?_
  refine lv_bipush (v := (20 : Int32)) hx hb dX5_init_16 (by decide) ?_
  refine lv_icmp_ge (tgt := 40) hx hb dX5_init_18 (by decide) (fun _ => ?_) (fun hc => absurd (by decide) hc)
  subst hQ
  exact q_vret hx hb hr hlocks hR hS hz (Option.some.inj hf) dX5_init_40
