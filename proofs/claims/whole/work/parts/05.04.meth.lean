/-! X9_told -/
def fX9_told (F : Nat) (X : qH) (a0 : Nat) (a1 : Int32) : Option (Int32) :=
qIs 8 X a0 <|
if a1 = (0 : Int32) then ((qgR X 8 a0 3).bind fun v1 =>
(qgI X 0 v1 0).bind fun v2 =>
some v2)
else if a1 = (1 : Int32) then ((qgR X 8 a0 7).bind fun v3 =>
(qgI X 3 v3 1).bind fun v4 =>
some v4)
else if a1 = (2 : Int32) then ((qgR X 8 a0 7).bind fun v5 =>
(qgI X 3 v5 2).bind fun v6 =>
some v6)
else if a1 = (3 : Int32) then ((qgR X 8 a0 3).bind fun v7 =>
(qgI X 0 v7 5).bind fun v8 =>
some v8)
else if a1 = (4 : Int32) then ((qgR X 8 a0 3).bind fun v9 =>
(qgI X 0 v9 3).bind fun v10 =>
some v10)
else if a1 = (5 : Int32) then ((qgR X 8 a0 3).bind fun v11 =>
(qgI X 0 v11 4).bind fun v12 =>
some v12)
else if a1 = (6 : Int32) then ((qgI X 8 a0 1).bind fun v13 =>
some v13)
else if a1 = (7 : Int32) then ((qgR X 8 a0 7).bind fun v14 =>
(qgI X 3 v14 0).bind fun v15 =>
some v15)
else if a1 = (8 : Int32) then ((qgR X 8 a0 7).bind fun v16 =>
(qgI X 3 v16 3).bind fun v17 =>
(fJ6_bitCount_0f7a4 F X v17).bind fun v18 =>
some v18)
else if a1 = (9 : Int32) then ((qgR X 8 a0 7).bind fun v19 =>
(qgR X 8 a0 3).bind fun v20 =>
(fX3_conditionals F X v19 v20).bind fun v21 =>
some v21)
else if a1 = (10 : Int32) then ((qgR X 8 a0 14).bind fun v22 =>
(qgI X 2 v22 0).bind fun v23 =>
some v23)
else if a1 = (11 : Int32) then ((qgR X 8 a0 15).bind fun v24 =>
(qgI X 1 v24 0).bind fun v25 =>
some v25)
else if a1 = (12 : Int32) then ((qgR X 8 a0 8).bind fun v26 =>
(qgI X 5 v26 2).bind fun v27 =>
some v27)
else (some (-1000000002 : Int32))
abbrev rmX9_told : Room := { frames := 4, cells := 0, slots := 0, locals := 89 }
theorem fX9_told_is {F : Nat} {X : qH} {a0 : Nat} {a1 : Int32} {r9 : Int32} (h : fX9_told F X a0 a1 = some r9) : ∃ fs, X a0 = some (.inr (8, fs)) := (qIs_spec h).1
theorem hdX9_told : yX9_told.cls = RX9 ∧ yX9_told.cls ≠ "java/lang/invoke/MethodHandle" ∧ yX9_told.cls ≠ "java/lang/invoke/VarHandle" ∧ (parseMethodDescriptor yX9_told.desc).map (fun d => d.parameters.length) = some 1 := by decide +kernel
set_option maxHeartbeats 4000000 in
set_option maxRecDepth 100000 in
theorem mX9_told (l : Launch) (D : va_G) (kz : Nat → Nat) (b0 sz F : Nat) (X : qH) (a0 : Nat) (a1 : Int32) (r : Int32) (hf : fX9_told F X a0 a1 = some r) : Met l yX9_told (qws yX9_told cX9_told 2 (some .int)) rmX9_told (va_Pc [.ref a0, .int a1] (qU D kz b0 sz X)) (va_Qi (fun (r' : Int32) (u : qH) => r' = r ∧ u = X) (fun u t => qO D kz b0 sz u t) (qA b0)) 0 0 (qA b0) := by
  refine q_start (by decide) (Nat.le_of_ble_eq_true rfl) ?_
  intro p e s m args below meth c hx hb hr hlocks hnm hml hown hT hR hK hz ls hl
  have hown : s.vm.findClass RX9 = some m.cls := hown
  have hl : lv_has ls 2 [(0, .ref a0), (1, .int a1)] := hl
  have hS : va_S (qA b0) s.heap s.heap [] := va_S.rf
  obtain ⟨Q, hQ⟩ : ∃ Q, Q = MQ below (va_Qi (fun (r' : Int32) (u : qH) => r' = r ∧ u = X) (fun u t => qO D kz b0 sz u t) (qA b0)) args s 0 0 (qA b0) := ⟨_, rfl⟩
  rw [← hQ]
  unfold fX9_told at hf
  obtain ⟨hthis, hf⟩ := qIs_spec hf
  refine lv_iload_n hx hb dX9_told_0 rfl (lv_at hl 1 rfl) ?_
  by_cases hc0 : a1 = (0 : Int32)
  · have hf := q_t hf hc0
    refine lv_tableIn (off := 67) (tgt := 68) hx hb dX9_told_1 (by rw [hc0]; decide) (by rw [hc0]; decide) (by rw [hc0]; decide +kernel) (by decide) ?_
    refine lv_aload_n hx hb dX9_told_68 rfl (lv_at hl 0 rfl) ?_
    refine q_gR hx hb hT hown hK hR iqX9 vqX9 3 (by decide) (hT _ wfl_X9_23) hf dX9_told_69 (fun v1 hf => ?_)
    refine q_gI hx hb hT hown hK hR iqX0 vqX0 0 (by decide) (hT _ wfl_X9_112) hf dX9_told_72 (fun v2 hf => ?_)
    subst hQ
    exact q_iret hx hb hr hlocks hR hS hz (Option.some.inj hf) rfl dX9_told_75
  have hf := q_f hf hc0
  by_cases hc1 : a1 = (1 : Int32)
  · have hf := q_t hf hc1
    refine lv_tableIn (off := 75) (tgt := 76) hx hb dX9_told_1 (by rw [hc1]; decide) (by rw [hc1]; decide) (by rw [hc1]; decide +kernel) (by decide) ?_
    refine lv_aload_n hx hb dX9_told_76 rfl (lv_at hl 0 rfl) ?_
    refine q_gR hx hb hT hown hK hR iqX9 vqX9 7 (by decide) (hT _ wfl_X9_43) hf dX9_told_77 (fun v3 hf => ?_)
    refine q_gI hx hb hT hown hK hR iqX3 vqX3 1 (by decide) (hT _ wfl_X9_115) hf dX9_told_80 (fun v4 hf => ?_)
    subst hQ
    exact q_iret hx hb hr hlocks hR hS hz (Option.some.inj hf) rfl dX9_told_83
  have hf := q_f hf hc1
  by_cases hc2 : a1 = (2 : Int32)
  · have hf := q_t hf hc2
    refine lv_tableIn (off := 83) (tgt := 84) hx hb dX9_told_1 (by rw [hc2]; decide) (by rw [hc2]; decide) (by rw [hc2]; decide +kernel) (by decide) ?_
    refine lv_aload_n hx hb dX9_told_84 rfl (lv_at hl 0 rfl) ?_
    refine q_gR hx hb hT hown hK hR iqX9 vqX9 7 (by decide) (hT _ wfl_X9_43) hf dX9_told_85 (fun v5 hf => ?_)
    refine q_gI hx hb hT hown hK hR iqX3 vqX3 2 (by decide) (hT _ wfl_X9_118) hf dX9_told_88 (fun v6 hf => ?_)
    subst hQ
    exact q_iret hx hb hr hlocks hR hS hz (Option.some.inj hf) rfl dX9_told_91
  have hf := q_f hf hc2
  by_cases hc3 : a1 = (3 : Int32)
  · have hf := q_t hf hc3
    refine lv_tableIn (off := 91) (tgt := 92) hx hb dX9_told_1 (by rw [hc3]; decide) (by rw [hc3]; decide) (by rw [hc3]; decide +kernel) (by decide) ?_
    refine lv_aload_n hx hb dX9_told_92 rfl (lv_at hl 0 rfl) ?_
    refine q_gR hx hb hT hown hK hR iqX9 vqX9 3 (by decide) (hT _ wfl_X9_23) hf dX9_told_93 (fun v7 hf => ?_)
    refine q_gI hx hb hT hown hK hR iqX0 vqX0 5 (by decide) (hT _ wfl_X9_111) hf dX9_told_96 (fun v8 hf => ?_)
    subst hQ
    exact q_iret hx hb hr hlocks hR hS hz (Option.some.inj hf) rfl dX9_told_99
  have hf := q_f hf hc3
  by_cases hc4 : a1 = (4 : Int32)
  · have hf := q_t hf hc4
    refine lv_tableIn (off := 99) (tgt := 100) hx hb dX9_told_1 (by rw [hc4]; decide) (by rw [hc4]; decide) (by rw [hc4]; decide +kernel) (by decide) ?_
    refine lv_aload_n hx hb dX9_told_100 rfl (lv_at hl 0 rfl) ?_
    refine q_gR hx hb hT hown hK hR iqX9 vqX9 3 (by decide) (hT _ wfl_X9_23) hf dX9_told_101 (fun v9 hf => ?_)
    refine q_gI hx hb hT hown hK hR iqX0 vqX0 3 (by decide) (hT _ wfl_X9_121) hf dX9_told_104 (fun v10 hf => ?_)
    subst hQ
    exact q_iret hx hb hr hlocks hR hS hz (Option.some.inj hf) rfl dX9_told_107
  have hf := q_f hf hc4
  by_cases hc5 : a1 = (5 : Int32)
  · have hf := q_t hf hc5
    refine lv_tableIn (off := 107) (tgt := 108) hx hb dX9_told_1 (by rw [hc5]; decide) (by rw [hc5]; decide) (by rw [hc5]; decide +kernel) (by decide) ?_
    refine lv_aload_n hx hb dX9_told_108 rfl (lv_at hl 0 rfl) ?_
    refine q_gR hx hb hT hown hK hR iqX9 vqX9 3 (by decide) (hT _ wfl_X9_23) hf dX9_told_109 (fun v11 hf => ?_)
    refine q_gI hx hb hT hown hK hR iqX0 vqX0 4 (by decide) (hT _ wfl_X9_124) hf dX9_told_112 (fun v12 hf => ?_)
    subst hQ
    exact q_iret hx hb hr hlocks hR hS hz (Option.some.inj hf) rfl dX9_told_115
  have hf := q_f hf hc5
  by_cases hc6 : a1 = (6 : Int32)
  · have hf := q_t hf hc6
    refine lv_tableIn (off := 115) (tgt := 116) hx hb dX9_told_1 (by rw [hc6]; decide) (by rw [hc6]; decide) (by rw [hc6]; decide +kernel) (by decide) ?_
    refine lv_aload_n hx hb dX9_told_116 rfl (lv_at hl 0 rfl) ?_
    refine q_gI hx hb hT hown hK hR iqX9 vqX9 1 (by decide) (hT _ wfl_X9_13) hf dX9_told_117 (fun v13 hf => ?_)
    subst hQ
    exact q_iret hx hb hr hlocks hR hS hz (Option.some.inj hf) rfl dX9_told_120
  have hf := q_f hf hc6
  by_cases hc7 : a1 = (7 : Int32)
  · have hf := q_t hf hc7
    refine lv_tableIn (off := 120) (tgt := 121) hx hb dX9_told_1 (by rw [hc7]; decide) (by rw [hc7]; decide) (by rw [hc7]; decide +kernel) (by decide) ?_
    refine lv_aload_n hx hb dX9_told_121 rfl (lv_at hl 0 rfl) ?_
    refine q_gR hx hb hT hown hK hR iqX9 vqX9 7 (by decide) (hT _ wfl_X9_43) hf dX9_told_122 (fun v14 hf => ?_)
    refine q_gI hx hb hT hown hK hR iqX3 vqX3 0 (by decide) (hT _ wfl_X9_127) hf dX9_told_125 (fun v15 hf => ?_)
    subst hQ
    exact q_iret hx hb hr hlocks hR hS hz (Option.some.inj hf) rfl dX9_told_128
  have hf := q_f hf hc7
  by_cases hc8 : a1 = (8 : Int32)
  · have hf := q_t hf hc8
    refine lv_tableIn (off := 128) (tgt := 129) hx hb dX9_told_1 (by rw [hc8]; decide) (by rw [hc8]; decide) (by rw [hc8]; decide +kernel) (by decide) ?_
    refine lv_aload_n hx hb dX9_told_129 rfl (lv_at hl 0 rfl) ?_
    refine q_gR hx hb hT hown hK hR iqX9 vqX9 7 (by decide) (hT _ wfl_X9_43) hf dX9_told_130 (fun v16 hf => ?_)
    refine q_gI hx hb hT hown hK hR iqX3 vqX3 3 (by decide) (hT _ wfl_X9_130) hf dX9_told_133 (fun v17 hf => ?_)
    obtain ⟨v18, hc, hf⟩ := q_b hf
    refine q_calli (va_runS (As := [.int v17]) (rest := []) ⟨hx, hb, hml, hown, hT⟩ (mJ6_bitCount_0f7a4 l D kz b0 sz F X v17 v18 hc) (va_cwS 1 hT (q_gS wco_J6_bitCount_0f7a4 wml_X9_133 wst_J6_bitCount_0f7a4 win_J6) rfl rfl rfl hdJ6_bitCount_0f7a4 ⟨Nat.le_of_ble_eq_true rfl, Nat.le_of_ble_eq_true rfl⟩) (q_preS hR hK hz) rfl rfl hl.1 rfl (lv_room (Nat.le_of_ble_eq_true rfl)) dX9_told_136 ⟨Nat.le_of_ble_eq_true rfl, Nat.le_of_ble_eq_true rfl⟩) hS (fun H locs hR hS hz => ?_)
    subst hQ
    exact q_iret hx hb hr hlocks hR hS hz (Option.some.inj hf) rfl dX9_told_139
  have hf := q_f hf hc8
  by_cases hc9 : a1 = (9 : Int32)
  · have hf := q_t hf hc9
    refine lv_tableIn (off := 139) (tgt := 140) hx hb dX9_told_1 (by rw [hc9]; decide) (by rw [hc9]; decide) (by rw [hc9]; decide +kernel) (by decide) ?_
    refine lv_aload_n hx hb dX9_told_140 rfl (lv_at hl 0 rfl) ?_
    refine q_gR hx hb hT hown hK hR iqX9 vqX9 7 (by decide) (hT _ wfl_X9_43) hf dX9_told_141 (fun v19 hf => ?_)
    refine lv_aload_n hx hb dX9_told_144 rfl (lv_at hl 0 rfl) ?_
    refine q_gR hx hb hT hown hK hR iqX9 vqX9 3 (by decide) (hT _ wfl_X9_23) hf dX9_told_145 (fun v20 hf => ?_)
    obtain ⟨v21, hc, hf⟩ := q_b hf
    refine q_calli (va_runV (As := [.ref v20]) (rest := []) ⟨hx, hb, hml, hown, hT⟩ (mX3_conditionals l D kz b0 sz F X v19 v20 v21 hc) (cwV 1 hT (q_gV wco_X3_conditionals wml_X9_139 wim_X3_conditionals wse_X3_conditionals win_X3) rfl rfl rfl hdX3_conditionals ⟨Nat.le_of_ble_eq_true rfl, Nat.le_of_ble_eq_true rfl⟩) (q_preV vqX3 (fX3_conditionals_is hc) hR hK hz) rfl rfl hl.1 rfl (lv_room (Nat.le_of_ble_eq_true rfl)) dX9_told_148 ⟨Nat.le_of_ble_eq_true rfl, Nat.le_of_ble_eq_true rfl⟩) hS (fun H locs hR hS hz => ?_)
    subst hQ
    exact q_iret hx hb hr hlocks hR hS hz (Option.some.inj hf) rfl dX9_told_151
  have hf := q_f hf hc9
  by_cases hc10 : a1 = (10 : Int32)
  · have hf := q_t hf hc10
    refine lv_tableIn (off := 151) (tgt := 152) hx hb dX9_told_1 (by rw [hc10]; decide) (by rw [hc10]; decide) (by rw [hc10]; decide +kernel) (by decide) ?_
    refine lv_aload_n hx hb dX9_told_152 rfl (lv_at hl 0 rfl) ?_
    refine q_gR hx hb hT hown hK hR iqX9 vqX9 14 (by decide) (hT _ wfl_X9_86) hf dX9_told_153 (fun v22 hf => ?_)
    refine q_gI hx hb hT hown hK hR iqX2 vqX2 0 (by decide) (hT _ wfl_X9_107) hf dX9_told_156 (fun v23 hf => ?_)
    subst hQ
    exact q_iret hx hb hr hlocks hR hS hz (Option.some.inj hf) rfl dX9_told_159
  have hf := q_f hf hc10
  by_cases hc11 : a1 = (11 : Int32)
  · have hf := q_t hf hc11
    refine lv_tableIn (off := 159) (tgt := 160) hx hb dX9_told_1 (by rw [hc11]; decide) (by rw [hc11]; decide) (by rw [hc11]; decide +kernel) (by decide) ?_
    refine lv_aload_n hx hb dX9_told_160 rfl (lv_at hl 0 rfl) ?_
    refine q_gR hx hb hT hown hK hR iqX9 vqX9 15 (by decide) (hT _ wfl_X9_93) hf dX9_told_161 (fun v24 hf => ?_)
    refine q_gI hx hb hT hown hK hR iqX1 vqX1 0 (by decide) (hT _ wfl_X9_110) hf dX9_told_164 (fun v25 hf => ?_)
    subst hQ
    exact q_iret hx hb hr hlocks hR hS hz (Option.some.inj hf) rfl dX9_told_167
  have hf := q_f hf hc11
  by_cases hc12 : a1 = (12 : Int32)
  · have hf := q_t hf hc12
    refine lv_tableIn (off := 167) (tgt := 168) hx hb dX9_told_1 (by rw [hc12]; decide) (by rw [hc12]; decide) (by rw [hc12]; decide +kernel) (by decide) ?_
    refine lv_aload_n hx hb dX9_told_168 rfl (lv_at hl 0 rfl) ?_
    refine q_gR hx hb hT hown hK hR iqX9 vqX9 8 (by decide) (hT _ wfl_X9_54) hf dX9_told_169 (fun v26 hf => ?_)
    refine q_gI hx hb hT hown hK hR iqX5 vqX5 2 (by decide) (hT _ wfl_X9_143) hf dX9_told_172 (fun v27 hf => ?_)
    subst hQ
    exact q_iret hx hb hr hlocks hR hS hz (Option.some.inj hf) rfl dX9_told_175
  have hf := q_f hf hc12
  have hd0 := lv_neT hc0 (a := 0) (by decide)
  have hd1 := lv_neT hc1 (a := 1) (by decide)
  have hd2 := lv_neT hc2 (a := 2) (by decide)
  have hd3 := lv_neT hc3 (a := 3) (by decide)
  have hd4 := lv_neT hc4 (a := 4) (by decide)
  have hd5 := lv_neT hc5 (a := 5) (by decide)
  have hd6 := lv_neT hc6 (a := 6) (by decide)
  have hd7 := lv_neT hc7 (a := 7) (by decide)
  have hd8 := lv_neT hc8 (a := 8) (by decide)
  have hd9 := lv_neT hc9 (a := 9) (by decide)
  have hd10 := lv_neT hc10 (a := 10) (by decide)
  have hd11 := lv_neT hc11 (a := 11) (by decide)
  have hd12 := lv_neT hc12 (a := 12) (by decide)
  refine lv_tableOut (tgt := 176) hx hb dX9_told_1 (by omega) (by decide) ?_
  refine lv_ldc (v := (-1000000002 : Int32)) hx hb hown (hT _ wk_X9_97) dX9_told_176 ?_
  subst hQ
  exact q_iret hx hb hr hlocks hR hS hz (Option.some.inj hf) rfl dX9_told_178
/-! X9_house -/
def fX9_house (F : Nat) (X : qH) (a0 : Nat) (a1 : Int32) (a2 : Int32) : Option (Int32) :=
qIs 8 X a0 <|
(qgR X 8 a0 3).bind fun v1 =>
(fX0_has F X v1 a1).bind fun v2 =>
if v2 = (0 : Int32) then (some (-1000000001 : Int32))
else (if a2 = (0 : Int32) then ((qgR X 8 a0 3).bind fun v3 =>
(qgR X 0 v3 6).bind fun v4 =>
(qaI X 0 v4 a1).bind fun v5 =>
some v5)
else if a2 = (1 : Int32) then ((qgR X 8 a0 3).bind fun v6 =>
(qgR X 0 v6 7).bind fun v7 =>
(qaI X 0 v7 a1).bind fun v8 =>
some v8)
else if a2 = (2 : Int32) then ((qgR X 8 a0 7).bind fun v9 =>
(qgR X 3 v9 4).bind fun v10 =>
(qaI X 0 v10 a1).bind fun v11 =>
some v11)
else if a2 = (3 : Int32) then ((qgR X 8 a0 3).bind fun v12 =>
(qgR X 0 v12 9).bind fun v13 =>
(qaI X 0 v13 a1).bind fun v14 =>
(fX8_count F X v14).bind fun v15 =>
some v15)
else if a2 = (4 : Int32) then ((qgR X 8 a0 3).bind fun v16 =>
(qgR X 0 v16 9).bind fun v17 =>
(qaI X 0 v17 a1).bind fun v18 =>
some v18)
else if a2 = (5 : Int32) then ((qgR X 8 a0 7).bind fun v19 =>
(qgR X 3 v19 5).bind fun v20 =>
(qaI X 0 v20 a1).bind fun v21 =>
some v21)
else if a2 = (6 : Int32) then ((qgR X 8 a0 7).bind fun v22 =>
(qgR X 3 v22 6).bind fun v23 =>
(qaI X 0 v23 a1).bind fun v24 =>
some v24)
else if a2 = (7 : Int32) then ((qgR X 8 a0 3).bind fun v25 =>
(fX0_readAs F X v25 a1).bind fun v26 =>
some v26)
else (some (-1000000002 : Int32)))
abbrev rmX9_house : Room := { frames := 1, cells := 0, slots := 0, locals := 23 }
theorem fX9_house_is {F : Nat} {X : qH} {a0 : Nat} {a1 : Int32} {a2 : Int32} {r9 : Int32} (h : fX9_house F X a0 a1 a2 = some r9) : ∃ fs, X a0 = some (.inr (8, fs)) := (qIs_spec h).1
theorem hdX9_house : yX9_house.cls = RX9 ∧ yX9_house.cls ≠ "java/lang/invoke/MethodHandle" ∧ yX9_house.cls ≠ "java/lang/invoke/VarHandle" ∧ (parseMethodDescriptor yX9_house.desc).map (fun d => d.parameters.length) = some 2 := by decide +kernel
set_option maxHeartbeats 4000000 in
set_option maxRecDepth 100000 in
theorem mX9_house (l : Launch) (D : va_G) (kz : Nat → Nat) (b0 sz F : Nat) (X : qH) (a0 : Nat) (a1 : Int32) (a2 : Int32) (r : Int32) (hf : fX9_house F X a0 a1 a2 = some r) : Met l yX9_house (qws yX9_house cX9_house 3 (some .int)) rmX9_house (va_Pc [.ref a0, .int a1, .int a2] (qU D kz b0 sz X)) (va_Qi (fun (r' : Int32) (u : qH) => r' = r ∧ u = X) (fun u t => qO D kz b0 sz u t) (qA b0)) 0 0 (qA b0) := by
  refine q_start (by decide) (Nat.le_of_ble_eq_true rfl) ?_
  intro p e s m args below meth c hx hb hr hlocks hnm hml hown hT hR hK hz ls hl
  have hown : s.vm.findClass RX9 = some m.cls := hown
  have hl : lv_has ls 3 [(0, .ref a0), (1, .int a1), (2, .int a2)] := hl
  have hS : va_S (qA b0) s.heap s.heap [] := va_S.rf
  obtain ⟨Q, hQ⟩ : ∃ Q, Q = MQ below (va_Qi (fun (r' : Int32) (u : qH) => r' = r ∧ u = X) (fun u t => qO D kz b0 sz u t) (qA b0)) args s 0 0 (qA b0) := ⟨_, rfl⟩
  rw [← hQ]
  unfold fX9_house at hf
  obtain ⟨hthis, hf⟩ := qIs_spec hf
  refine lv_aload_n hx hb dX9_house_0 rfl (lv_at hl 0 rfl) ?_
  refine q_gR hx hb hT hown hK hR iqX9 vqX9 3 (by decide) (hT _ wfl_X9_23) hf dX9_house_1 (fun v1 hf => ?_)
  refine lv_iload_n hx hb dX9_house_4 rfl (lv_at hl 1 rfl) ?_
  obtain ⟨v2, hc, hf⟩ := q_b hf
  refine q_calli (va_runV (As := [.int a1]) (rest := []) ⟨hx, hb, hml, hown, hT⟩ (mX0_has l D kz b0 sz F X v1 a1 v2 hc) (cwV 1 hT (q_gV wco_X0_has wml_X9_144 wim_X0_has wse_X0_has win_X0) rfl rfl rfl hdX0_has ⟨Nat.le_of_ble_eq_true rfl, Nat.le_of_ble_eq_true rfl⟩) (q_preV vqX0 (fX0_has_is hc) hR hK hz) rfl rfl hl.1 rfl (lv_room (Nat.le_of_ble_eq_true rfl)) dX9_house_5 ⟨Nat.le_of_ble_eq_true rfl, Nat.le_of_ble_eq_true rfl⟩) hS (fun H locs hR hS hz => ?_)
  refine lv_if_ne (tgt := 14) hx hb dX9_house_8 (by decide) (fun hc => ?_) (fun hc => ?_)
  · have hf := q_f hf hc
    refine lv_iload_n hx hb dX9_house_14 rfl (lv_at hl 2 rfl) ?_
    by_cases hc0 : a2 = (0 : Int32)
    · have hf := q_t hf hc0
      refine lv_tableIn (off := 45) (tgt := 60) hx hb dX9_house_15 (by rw [hc0]; decide) (by rw [hc0]; decide) (by rw [hc0]; decide +kernel) (by decide) ?_
      refine lv_aload_n hx hb dX9_house_60 rfl (lv_at hl 0 rfl) ?_
      refine q_gR hx hb hT hown hK hR iqX9 vqX9 3 (by decide) (hT _ wfl_X9_23) hf dX9_house_61 (fun v3 hf => ?_)
      refine q_gR hx hb hT hown hK hR iqX0 vqX0 6 (by decide) (hT _ wfl_X9_149) hf dX9_house_64 (fun v4 hf => ?_)
      refine lv_iload_n hx hb dX9_house_67 rfl (lv_at hl 1 rfl) ?_
      refine q_iald hx hb hK hR hf dX9_house_68 (fun v5 hf => ?_)
      subst hQ
      exact q_iret hx hb hr hlocks hR hS hz (Option.some.inj hf) rfl dX9_house_69
    have hf := q_f hf hc0
    by_cases hc1 : a2 = (1 : Int32)
    · have hf := q_t hf hc1
      refine lv_tableIn (off := 55) (tgt := 70) hx hb dX9_house_15 (by rw [hc1]; decide) (by rw [hc1]; decide) (by rw [hc1]; decide +kernel) (by decide) ?_
      refine lv_aload_n hx hb dX9_house_70 rfl (lv_at hl 0 rfl) ?_
      refine q_gR hx hb hT hown hK hR iqX9 vqX9 3 (by decide) (hT _ wfl_X9_23) hf dX9_house_71 (fun v6 hf => ?_)
      refine q_gR hx hb hT hown hK hR iqX0 vqX0 7 (by decide) (hT _ wfl_X9_152) hf dX9_house_74 (fun v7 hf => ?_)
      refine lv_iload_n hx hb dX9_house_77 rfl (lv_at hl 1 rfl) ?_
      refine q_iald hx hb hK hR hf dX9_house_78 (fun v8 hf => ?_)
      subst hQ
      exact q_iret hx hb hr hlocks hR hS hz (Option.some.inj hf) rfl dX9_house_79
    have hf := q_f hf hc1
    by_cases hc2 : a2 = (2 : Int32)
    · have hf := q_t hf hc2
      refine lv_tableIn (off := 65) (tgt := 80) hx hb dX9_house_15 (by rw [hc2]; decide) (by rw [hc2]; decide) (by rw [hc2]; decide +kernel) (by decide) ?_
      refine lv_aload_n hx hb dX9_house_80 rfl (lv_at hl 0 rfl) ?_
      refine q_gR hx hb hT hown hK hR iqX9 vqX9 7 (by decide) (hT _ wfl_X9_43) hf dX9_house_81 (fun v9 hf => ?_)
      refine q_gR hx hb hT hown hK hR iqX3 vqX3 4 (by decide) (hT _ wfl_X9_155) hf dX9_house_84 (fun v10 hf => ?_)
      refine lv_iload_n hx hb dX9_house_87 rfl (lv_at hl 1 rfl) ?_
      refine q_iald hx hb hK hR hf dX9_house_88 (fun v11 hf => ?_)
      subst hQ
      exact q_iret hx hb hr hlocks hR hS hz (Option.some.inj hf) rfl dX9_house_89
    have hf := q_f hf hc2
    by_cases hc3 : a2 = (3 : Int32)
    · have hf := q_t hf hc3
      refine lv_tableIn (off := 75) (tgt := 90) hx hb dX9_house_15 (by rw [hc3]; decide) (by rw [hc3]; decide) (by rw [hc3]; decide +kernel) (by decide) ?_
      refine lv_aload_n hx hb dX9_house_90 rfl (lv_at hl 0 rfl) ?_
      refine q_gR hx hb hT hown hK hR iqX9 vqX9 3 (by decide) (hT _ wfl_X9_23) hf dX9_house_91 (fun v12 hf => ?_)
      refine q_gR hx hb hT hown hK hR iqX0 vqX0 9 (by decide) (hT _ wfl_X9_158) hf dX9_house_94 (fun v13 hf => ?_)
      refine lv_iload_n hx hb dX9_house_97 rfl (lv_at hl 1 rfl) ?_
      refine q_iald hx hb hK hR hf dX9_house_98 (fun v14 hf => ?_)
      obtain ⟨v15, hc, hf⟩ := q_b hf
      refine q_calli (va_runS (As := [.int v14]) (rest := []) ⟨hx, hb, hml, hown, hT⟩ (mX8_count l D kz b0 sz F X v14 v15 hc) (va_cwS 1 hT (q_gS wco_X8_count wml_X9_161 wst_X8_count win_X8) rfl rfl rfl hdX8_count ⟨Nat.le_of_ble_eq_true rfl, Nat.le_of_ble_eq_true rfl⟩) (q_preS hR hK hz) rfl rfl hl.1 rfl (lv_room (Nat.le_of_ble_eq_true rfl)) dX9_house_99 ⟨Nat.le_of_ble_eq_true rfl, Nat.le_of_ble_eq_true rfl⟩) hS (fun H locs hR hS hz => ?_)
      subst hQ
      exact q_iret hx hb hr hlocks hR hS hz (Option.some.inj hf) rfl dX9_house_102
    have hf := q_f hf hc3
    by_cases hc4 : a2 = (4 : Int32)
    · have hf := q_t hf hc4
      refine lv_tableIn (off := 88) (tgt := 103) hx hb dX9_house_15 (by rw [hc4]; decide) (by rw [hc4]; decide) (by rw [hc4]; decide +kernel) (by decide) ?_
      refine lv_aload_n hx hb dX9_house_103 rfl (lv_at hl 0 rfl) ?_
      refine q_gR hx hb hT hown hK hR iqX9 vqX9 3 (by decide) (hT _ wfl_X9_23) hf dX9_house_104 (fun v16 hf => ?_)
      refine q_gR hx hb hT hown hK hR iqX0 vqX0 9 (by decide) (hT _ wfl_X9_158) hf dX9_house_107 (fun v17 hf => ?_)
      refine lv_iload_n hx hb dX9_house_110 rfl (lv_at hl 1 rfl) ?_
      refine q_iald hx hb hK hR hf dX9_house_111 (fun v18 hf => ?_)
      subst hQ
      exact q_iret hx hb hr hlocks hR hS hz (Option.some.inj hf) rfl dX9_house_112
    have hf := q_f hf hc4
    by_cases hc5 : a2 = (5 : Int32)
    · have hf := q_t hf hc5
      refine lv_tableIn (off := 98) (tgt := 113) hx hb dX9_house_15 (by rw [hc5]; decide) (by rw [hc5]; decide) (by rw [hc5]; decide +kernel) (by decide) ?_
      refine lv_aload_n hx hb dX9_house_113 rfl (lv_at hl 0 rfl) ?_
      refine q_gR hx hb hT hown hK hR iqX9 vqX9 7 (by decide) (hT _ wfl_X9_43) hf dX9_house_114 (fun v19 hf => ?_)
      refine q_gR hx hb hT hown hK hR iqX3 vqX3 5 (by decide) (hT _ wfl_X9_165) hf dX9_house_117 (fun v20 hf => ?_)
      refine lv_iload_n hx hb dX9_house_120 rfl (lv_at hl 1 rfl) ?_
      refine q_iald hx hb hK hR hf dX9_house_121 (fun v21 hf => ?_)
      subst hQ
      exact q_iret hx hb hr hlocks hR hS hz (Option.some.inj hf) rfl dX9_house_122
    have hf := q_f hf hc5
    by_cases hc6 : a2 = (6 : Int32)
    · have hf := q_t hf hc6
      refine lv_tableIn (off := 108) (tgt := 123) hx hb dX9_house_15 (by rw [hc6]; decide) (by rw [hc6]; decide) (by rw [hc6]; decide +kernel) (by decide) ?_
      refine lv_aload_n hx hb dX9_house_123 rfl (lv_at hl 0 rfl) ?_
      refine q_gR hx hb hT hown hK hR iqX9 vqX9 7 (by decide) (hT _ wfl_X9_43) hf dX9_house_124 (fun v22 hf => ?_)
      refine q_gR hx hb hT hown hK hR iqX3 vqX3 6 (by decide) (hT _ wfl_X9_168) hf dX9_house_127 (fun v23 hf => ?_)
      refine lv_iload_n hx hb dX9_house_130 rfl (lv_at hl 1 rfl) ?_
      refine q_iald hx hb hK hR hf dX9_house_131 (fun v24 hf => ?_)
      subst hQ
      exact q_iret hx hb hr hlocks hR hS hz (Option.some.inj hf) rfl dX9_house_132
    have hf := q_f hf hc6
    by_cases hc7 : a2 = (7 : Int32)
    · have hf := q_t hf hc7
      refine lv_tableIn (off := 118) (tgt := 133) hx hb dX9_house_15 (by rw [hc7]; decide) (by rw [hc7]; decide) (by rw [hc7]; decide +kernel) (by decide) ?_
      refine lv_aload_n hx hb dX9_house_133 rfl (lv_at hl 0 rfl) ?_
      refine q_gR hx hb hT hown hK hR iqX9 vqX9 3 (by decide) (hT _ wfl_X9_23) hf dX9_house_134 (fun v25 hf => ?_)
      refine lv_iload_n hx hb dX9_house_137 rfl (lv_at hl 1 rfl) ?_
      obtain ⟨v26, hc, hf⟩ := q_b hf
      refine q_calli (va_runV (As := [.int a1]) (rest := []) ⟨hx, hb, hml, hown, hT⟩ (mX0_readAs l D kz b0 sz F X v25 a1 v26 hc) (cwV 1 hT (q_gV wco_X0_readAs wml_X9_171 wim_X0_readAs wse_X0_readAs win_X0) rfl rfl rfl hdX0_readAs ⟨Nat.le_of_ble_eq_true rfl, Nat.le_of_ble_eq_true rfl⟩) (q_preV vqX0 (fX0_readAs_is hc) hR hK hz) rfl rfl hl.1 rfl (lv_room (Nat.le_of_ble_eq_true rfl)) dX9_house_138 ⟨Nat.le_of_ble_eq_true rfl, Nat.le_of_ble_eq_true rfl⟩) hS (fun H locs hR hS hz => ?_)
      subst hQ
      exact q_iret hx hb hr hlocks hR hS hz (Option.some.inj hf) rfl dX9_house_141
    have hf := q_f hf hc7
    have hd0 := lv_neT hc0 (a := 0) (by decide)
    have hd1 := lv_neT hc1 (a := 1) (by decide)
    have hd2 := lv_neT hc2 (a := 2) (by decide)
    have hd3 := lv_neT hc3 (a := 3) (by decide)
    have hd4 := lv_neT hc4 (a := 4) (by decide)
    have hd5 := lv_neT hc5 (a := 5) (by decide)
    have hd6 := lv_neT hc6 (a := 6) (by decide)
    have hd7 := lv_neT hc7 (a := 7) (by decide)
    refine lv_tableOut (tgt := 142) hx hb dX9_house_15 (by omega) (by decide) ?_
    refine lv_ldc (v := (-1000000002 : Int32)) hx hb hown (hT _ wk_X9_97) dX9_house_142 ?_
    subst hQ
    exact q_iret hx hb hr hlocks hR hS hz (Option.some.inj hf) rfl dX9_house_144
  · have hf := q_t hf hc
    refine lv_ldc (v := (-1000000001 : Int32)) hx hb hown (hT _ wk_X9_148) dX9_house_11 ?_
    subst hQ
    exact q_iret hx hb hr hlocks hR hS hz (Option.some.inj hf) rfl dX9_house_13
/-! X9_sees -/
def fX9_sees (F : Nat) (X : qH) (a0 : Nat) (a1 : Int32) (a2 : Int32) : Option (Int32) :=
qIs 8 X a0 <|
(qgR X 8 a0 3).bind fun v1 =>
(fX0_hasTwo F X v1 a1 a2).bind fun v2 =>
if v2 = (0 : Int32) then (some (-1000000001 : Int32))
else ((qgR X 8 a0 7).bind fun v3 =>
(qgR X 8 a0 3).bind fun v4 =>
(fX3_viewers F X v3 v4 a2).bind fun v5 =>
some ((v5 >>> (a1 &&& 31)) &&& (1 : Int32)))
abbrev rmX9_sees : Room := { frames := 4, cells := 0, slots := 0, locals := 91 }
theorem fX9_sees_is {F : Nat} {X : qH} {a0 : Nat} {a1 : Int32} {a2 : Int32} {r9 : Int32} (h : fX9_sees F X a0 a1 a2 = some r9) : ∃ fs, X a0 = some (.inr (8, fs)) := (qIs_spec h).1
theorem hdX9_sees : yX9_sees.cls = RX9 ∧ yX9_sees.cls ≠ "java/lang/invoke/MethodHandle" ∧ yX9_sees.cls ≠ "java/lang/invoke/VarHandle" ∧ (parseMethodDescriptor yX9_sees.desc).map (fun d => d.parameters.length) = some 2 := by decide +kernel
set_option maxHeartbeats 4000000 in
set_option maxRecDepth 100000 in
theorem mX9_sees (l : Launch) (D : va_G) (kz : Nat → Nat) (b0 sz F : Nat) (X : qH) (a0 : Nat) (a1 : Int32) (a2 : Int32) (r : Int32) (hf : fX9_sees F X a0 a1 a2 = some r) : Met l yX9_sees (qws yX9_sees cX9_sees 3 (some .int)) rmX9_sees (va_Pc [.ref a0, .int a1, .int a2] (qU D kz b0 sz X)) (va_Qi (fun (r' : Int32) (u : qH) => r' = r ∧ u = X) (fun u t => qO D kz b0 sz u t) (qA b0)) 0 0 (qA b0) := by
  refine q_start (by decide) (Nat.le_of_ble_eq_true rfl) ?_
  intro p e s m args below meth c hx hb hr hlocks hnm hml hown hT hR hK hz ls hl
  have hown : s.vm.findClass RX9 = some m.cls := hown
  have hl : lv_has ls 3 [(0, .ref a0), (1, .int a1), (2, .int a2)] := hl
  have hS : va_S (qA b0) s.heap s.heap [] := va_S.rf
  obtain ⟨Q, hQ⟩ : ∃ Q, Q = MQ below (va_Qi (fun (r' : Int32) (u : qH) => r' = r ∧ u = X) (fun u t => qO D kz b0 sz u t) (qA b0)) args s 0 0 (qA b0) := ⟨_, rfl⟩
  rw [← hQ]
  unfold fX9_sees at hf
  obtain ⟨hthis, hf⟩ := qIs_spec hf
  refine lv_aload_n hx hb dX9_sees_0 rfl (lv_at hl 0 rfl) ?_
  refine q_gR hx hb hT hown hK hR iqX9 vqX9 3 (by decide) (hT _ wfl_X9_23) hf dX9_sees_1 (fun v1 hf => ?_)
  refine lv_iload_n hx hb dX9_sees_4 rfl (lv_at hl 1 rfl) ?_
  refine lv_iload_n hx hb dX9_sees_5 rfl (lv_at hl 2 rfl) ?_
  obtain ⟨v2, hc, hf⟩ := q_b hf
  refine q_calli (va_runV (As := [.int a1, .int a2]) (rest := []) ⟨hx, hb, hml, hown, hT⟩ (mX0_hasTwo l D kz b0 sz F X v1 a1 a2 v2 hc) (cwV 2 hT (q_gV wco_X0_hasTwo wml_X9_174 wim_X0_hasTwo wse_X0_hasTwo win_X0) rfl rfl rfl hdX0_hasTwo ⟨Nat.le_of_ble_eq_true rfl, Nat.le_of_ble_eq_true rfl⟩) (q_preV vqX0 (fX0_hasTwo_is hc) hR hK hz) rfl rfl hl.1 rfl (lv_room (Nat.le_of_ble_eq_true rfl)) dX9_sees_6 ⟨Nat.le_of_ble_eq_true rfl, Nat.le_of_ble_eq_true rfl⟩) hS (fun H locs hR hS hz => ?_)
  refine lv_if_ne (tgt := 15) hx hb dX9_sees_9 (by decide) (fun hc => ?_) (fun hc => ?_)
  · have hf := q_f hf hc
    refine lv_aload_n hx hb dX9_sees_15 rfl (lv_at hl 0 rfl) ?_
    refine q_gR hx hb hT hown hK hR iqX9 vqX9 7 (by decide) (hT _ wfl_X9_43) hf dX9_sees_16 (fun v3 hf => ?_)
    refine lv_aload_n hx hb dX9_sees_19 rfl (lv_at hl 0 rfl) ?_
    refine q_gR hx hb hT hown hK hR iqX9 vqX9 3 (by decide) (hT _ wfl_X9_23) hf dX9_sees_20 (fun v4 hf => ?_)
    refine lv_iload_n hx hb dX9_sees_23 rfl (lv_at hl 2 rfl) ?_
    obtain ⟨v5, hc, hf⟩ := q_b hf
    refine q_calli (va_runV (As := [.ref v4, .int a2]) (rest := []) ⟨hx, hb, hml, hown, hT⟩ (mX3_viewers l D kz b0 sz F X v3 v4 a2 v5 hc) (cwV 2 hT (q_gV wco_X3_viewers wml_X9_178 wim_X3_viewers wse_X3_viewers win_X3) rfl rfl rfl hdX3_viewers ⟨Nat.le_of_ble_eq_true rfl, Nat.le_of_ble_eq_true rfl⟩) (q_preV vqX3 (fX3_viewers_is hc) hR hK hz) rfl rfl hl.1 rfl (lv_room (Nat.le_of_ble_eq_true rfl)) dX9_sees_24 ⟨Nat.le_of_ble_eq_true rfl, Nat.le_of_ble_eq_true rfl⟩) hS (fun H locs hR hS hz => ?_)
    refine lv_iload_n hx hb dX9_sees_27 rfl (lv_at hl 1 rfl) ?_
    refine lv_ishr hx hb dX9_sees_28 ?_
    refine lv_iconst (v := (1 : Int32)) hx hb dX9_sees_29 (by decide) ?_
    refine lv_iand hx hb dX9_sees_30 ?_
    subst hQ
    exact q_iret hx hb hr hlocks hR hS hz (Option.some.inj hf) rfl dX9_sees_31
  · have hf := q_t hf hc
    refine lv_ldc (v := (-1000000001 : Int32)) hx hb hown (hT _ wk_X9_148) dX9_sees_12 ?_
    subst hQ
    exact q_iret hx hb hr hlocks hR hS hz (Option.some.inj hf) rfl dX9_sees_14
/-! X9_contract -/
def fX9_contract (F : Nat) (X : qH) (a0 : Nat) (a1 : Int32) (a2 : Int32) : Option (Int32) :=
qIs 8 X a0 <|
(qgR X 8 a0 3).bind fun v1 =>
(fX0_hasTwo F X v1 a1 a2).bind fun v2 =>
if v2 = (0 : Int32) then (some (-1000000001 : Int32))
else ((qgR X 8 a0 7).bind fun v3 =>
(fX3_holdsFor F X v3 a1 a2).bind fun v4 =>
if v4 = (0 : Int32) then (some (0 : Int32))
else ((qgR X 8 a0 3).bind fun v5 =>
(fX0_anyGreen F X v5 a1 a2).bind fun v6 =>
(if v6 = (0 : Int32) then (some (1 : Int32))
else (some (2 : Int32)) : Option Int32).bind fun v7 =>
some v7))
abbrev rmX9_contract : Room := { frames := 3, cells := 0, slots := 0, locals := 65 }
theorem fX9_contract_is {F : Nat} {X : qH} {a0 : Nat} {a1 : Int32} {a2 : Int32} {r9 : Int32} (h : fX9_contract F X a0 a1 a2 = some r9) : ∃ fs, X a0 = some (.inr (8, fs)) := (qIs_spec h).1
theorem hdX9_contract : yX9_contract.cls = RX9 ∧ yX9_contract.cls ≠ "java/lang/invoke/MethodHandle" ∧ yX9_contract.cls ≠ "java/lang/invoke/VarHandle" ∧ (parseMethodDescriptor yX9_contract.desc).map (fun d => d.parameters.length) = some 2 := by decide +kernel
set_option maxHeartbeats 4000000 in
set_option maxRecDepth 100000 in
theorem mX9_contract (l : Launch) (D : va_G) (kz : Nat → Nat) (b0 sz F : Nat) (X : qH) (a0 : Nat) (a1 : Int32) (a2 : Int32) (r : Int32) (hf : fX9_contract F X a0 a1 a2 = some r) : Met l yX9_contract (qws yX9_contract cX9_contract 3 (some .int)) rmX9_contract (va_Pc [.ref a0, .int a1, .int a2] (qU D kz b0 sz X)) (va_Qi (fun (r' : Int32) (u : qH) => r' = r ∧ u = X) (fun u t => qO D kz b0 sz u t) (qA b0)) 0 0 (qA b0) := by
  refine q_start (by decide) (Nat.le_of_ble_eq_true rfl) ?_
  intro p e s m args below meth c hx hb hr hlocks hnm hml hown hT hR hK hz ls hl
  have hown : s.vm.findClass RX9 = some m.cls := hown
  have hl : lv_has ls 3 [(0, .ref a0), (1, .int a1), (2, .int a2)] := hl
  have hS : va_S (qA b0) s.heap s.heap [] := va_S.rf
  obtain ⟨Q, hQ⟩ : ∃ Q, Q = MQ below (va_Qi (fun (r' : Int32) (u : qH) => r' = r ∧ u = X) (fun u t => qO D kz b0 sz u t) (qA b0)) args s 0 0 (qA b0) := ⟨_, rfl⟩
  rw [← hQ]
  unfold fX9_contract at hf
  obtain ⟨hthis, hf⟩ := qIs_spec hf
  refine lv_aload_n hx hb dX9_contract_0 rfl (lv_at hl 0 rfl) ?_
  refine q_gR hx hb hT hown hK hR iqX9 vqX9 3 (by decide) (hT _ wfl_X9_23) hf dX9_contract_1 (fun v1 hf => ?_)
  refine lv_iload_n hx hb dX9_contract_4 rfl (lv_at hl 1 rfl) ?_
  refine lv_iload_n hx hb dX9_contract_5 rfl (lv_at hl 2 rfl) ?_
  obtain ⟨v2, hc, hf⟩ := q_b hf
  refine q_calli (va_runV (As := [.int a1, .int a2]) (rest := []) ⟨hx, hb, hml, hown, hT⟩ (mX0_hasTwo l D kz b0 sz F X v1 a1 a2 v2 hc) (cwV 2 hT (q_gV wco_X0_hasTwo wml_X9_174 wim_X0_hasTwo wse_X0_hasTwo win_X0) rfl rfl rfl hdX0_hasTwo ⟨Nat.le_of_ble_eq_true rfl, Nat.le_of_ble_eq_true rfl⟩) (q_preV vqX0 (fX0_hasTwo_is hc) hR hK hz) rfl rfl hl.1 rfl (lv_room (Nat.le_of_ble_eq_true rfl)) dX9_contract_6 ⟨Nat.le_of_ble_eq_true rfl, Nat.le_of_ble_eq_true rfl⟩) hS (fun H locs hR hS hz => ?_)
  refine lv_if_ne (tgt := 15) hx hb dX9_contract_9 (by decide) (fun hc => ?_) (fun hc => ?_)
  · have hf := q_f hf hc
    refine lv_aload_n hx hb dX9_contract_15 rfl (lv_at hl 0 rfl) ?_
    refine q_gR hx hb hT hown hK hR iqX9 vqX9 7 (by decide) (hT _ wfl_X9_43) hf dX9_contract_16 (fun v3 hf => ?_)
    refine lv_iload_n hx hb dX9_contract_19 rfl (lv_at hl 1 rfl) ?_
    refine lv_iload_n hx hb dX9_contract_20 rfl (lv_at hl 2 rfl) ?_
    obtain ⟨v4, hc, hf⟩ := q_b hf
    refine q_calli (va_runV (As := [.int a1, .int a2]) (rest := []) ⟨hx, hb, hml, hown, hT⟩ (mX3_holdsFor l D kz b0 sz F X v3 a1 a2 v4 hc) (cwV 2 hT (q_gV wco_X3_holdsFor wml_X9_182 wim_X3_holdsFor wse_X3_holdsFor win_X3) rfl rfl rfl hdX3_holdsFor ⟨Nat.le_of_ble_eq_true rfl, Nat.le_of_ble_eq_true rfl⟩) (q_preV vqX3 (fX3_holdsFor_is hc) hR hK hz) rfl rfl hl.1 rfl (lv_room (Nat.le_of_ble_eq_true rfl)) dX9_contract_21 ⟨Nat.le_of_ble_eq_true rfl, Nat.le_of_ble_eq_true rfl⟩) hS (fun H locs hR hS hz => ?_)
    refine lv_if_ne (tgt := 29) hx hb dX9_contract_24 (by decide) (fun hc => ?_) (fun hc => ?_)
    · have hf := q_f hf hc
      refine lv_aload_n hx hb dX9_contract_29 rfl (lv_at hl 0 rfl) ?_
      refine q_gR hx hb hT hown hK hR iqX9 vqX9 3 (by decide) (hT _ wfl_X9_23) hf dX9_contract_30 (fun v5 hf => ?_)
      refine lv_iload_n hx hb dX9_contract_33 rfl (lv_at hl 1 rfl) ?_
      refine lv_iload_n hx hb dX9_contract_34 rfl (lv_at hl 2 rfl) ?_
      obtain ⟨v6, hc, hf⟩ := q_b hf
      refine q_calli (va_runV (As := [.int a1, .int a2]) (rest := []) ⟨hx, hb, hml, hown, hT⟩ (mX0_anyGreen l D kz b0 sz F X v5 a1 a2 v6 hc) (cwV 2 hT (q_gV wco_X0_anyGreen wml_X9_185 wim_X0_anyGreen wse_X0_anyGreen win_X0) rfl rfl rfl hdX0_anyGreen ⟨Nat.le_of_ble_eq_true rfl, Nat.le_of_ble_eq_true rfl⟩) (q_preV vqX0 (fX0_anyGreen_is hc) hR hK hz) rfl rfl hl.1 rfl (lv_room (Nat.le_of_ble_eq_true rfl)) dX9_contract_35 ⟨Nat.le_of_ble_eq_true rfl, Nat.le_of_ble_eq_true rfl⟩) hS (fun H locs hR hS hz => ?_)
      obtain ⟨v7, hp, hf⟩ := q_b hf
      have hJ : ∀ (H : Heap) (locs : List Loc) (ls : Array Slot), qR D kz b0 X H → va_S (qA b0) s.heap H locs → H.size = sz → lv_has ls 3 [] → W p l e rmX9_contract s m args below meth c H locs 0 0 Q (F0 m 46 ls [.int v7]) := by
        intro H locs ls hR hS hz hl
        subst hQ
        exact q_iret hx hb hr hlocks hR hS hz (Option.some.inj hf) rfl dX9_contract_46
      have hf := hp
      refine lv_if_eq (tgt := 45) hx hb dX9_contract_38 (by decide) (fun hc => ?_) (fun hc => ?_)
      · have hf := q_t hf hc
        refine lv_iconst (v := (1 : Int32)) hx hb dX9_contract_45 (by decide) ?_
        cases hf
        exact hJ _ _ _ hR hS hz (lv_sub hl [] rfl)
      · have hf := q_f hf hc
        refine lv_iconst (v := (2 : Int32)) hx hb dX9_contract_41 (by decide) ?_
        refine lv_goto (tgt := 46) hx hb dX9_contract_42 (by decide) ?_
        cases hf
        exact hJ _ _ _ hR hS hz (lv_sub hl [] rfl)
    · have hf := q_t hf hc
      refine lv_iconst (v := (0 : Int32)) hx hb dX9_contract_27 (by decide) ?_
      subst hQ
      exact q_iret hx hb hr hlocks hR hS hz (Option.some.inj hf) rfl dX9_contract_28
  · have hf := q_t hf hc
    refine lv_ldc (v := (-1000000001 : Int32)) hx hb hown (hT _ wk_X9_148) dX9_contract_12 ?_
    subst hQ
    exact q_iret hx hb hr hlocks hR hS hz (Option.some.inj hf) rfl dX9_contract_14
/-! X9_light -/
def fX9_light (F : Nat) (X : qH) (a0 : Nat) (a1 : Int32) : Option (Int32 × qH) :=
qIs 8 X a0 <|
(qgR X 8 a0 3).bind fun v1 =>
(fX0_has F X v1 a1).bind fun v2 =>
if v2 = (0 : Int32) then (some ((-1000000001 : Int32), X))
else ((qgR X 8 a0 7).bind fun v3 =>
(qgR X 3 v3 4).bind fun v4 =>
(qaI X 0 v4 a1).bind fun v5 =>
if v5 ≤ (0 : Int32) then (some ((-1000000003 : Int32), X))
else ((qgR X 8 a0 7).bind fun v6 =>
(qgR X 3 v6 5).bind fun v7 =>
(qaI X 0 v7 a1).bind fun v8 =>
(qgR X 8 a0 7).bind fun v9 =>
(qgI X 3 v9 0).bind fun v10 =>
if v8 = v10 then (some ((-1000000003 : Int32), X))
else ((qgR X 8 a0 8).bind fun v11 =>
(qgR X 8 a0 7).bind fun v12 =>
(fX5_push F X v11 v12).bind fun X13 =>
(qgR X13 8 a0 7).bind fun v14 =>
(qgR X13 3 v14 4).bind fun v15 =>
(qaI X13 0 v15 a1).bind fun v16 =>
qlt (v16 - (1 : Int32)) fun v17 =>
(qaS X13 0 v15 a1 v17).bind fun X18 =>
(qgR X18 8 a0 7).bind fun v19 =>
(qgR X18 8 a0 3).bind fun v20 =>
(fX3_sign F X18 v19 v20 a1).bind fun X21 =>
(qgR X21 8 a0 7).bind fun v22 =>
(qgR X21 8 a0 3).bind fun v23 =>
qb2 (fX3_agree F X21 v22 v23 a1) fun v24 X25 =>
some (v24, X25))))
abbrev rmX9_light : Room := { frames := 5, cells := 0, slots := 0, locals := 113 }
theorem fX9_light_is {F : Nat} {X : qH} {a0 : Nat} {a1 : Int32} {r9 : Int32 × qH} (h : fX9_light F X a0 a1 = some r9) : ∃ fs, X a0 = some (.inr (8, fs)) := (qIs_spec h).1
theorem hdX9_light : yX9_light.cls = RX9 ∧ yX9_light.cls ≠ "java/lang/invoke/MethodHandle" ∧ yX9_light.cls ≠ "java/lang/invoke/VarHandle" ∧ (parseMethodDescriptor yX9_light.desc).map (fun d => d.parameters.length) = some 1 := by decide +kernel
set_option maxHeartbeats 4000000 in
set_option maxRecDepth 100000 in
theorem mX9_light (l : Launch) (D : va_G) (kz : Nat → Nat) (b0 sz F : Nat) (X : qH) (a0 : Nat) (a1 : Int32) (r : Int32) (Xr : qH) (hf : fX9_light F X a0 a1 = some (r, Xr)) : Met l yX9_light (qws yX9_light cX9_light 2 (some .int)) rmX9_light (va_Pc [.ref a0, .int a1] (qU D kz b0 sz X)) (va_Qi (fun (r' : Int32) (u : qH) => r' = r ∧ u = Xr) (fun u t => qO D kz b0 sz u t) (qA b0)) 0 0 (qA b0) := by
  refine q_start (by decide) (Nat.le_of_ble_eq_true rfl) ?_
  intro p e s m args below meth c hx hb hr hlocks hnm hml hown hT hR hK hz ls hl
  have hown : s.vm.findClass RX9 = some m.cls := hown
  have hl : lv_has ls 2 [(0, .ref a0), (1, .int a1)] := hl
  have hS : va_S (qA b0) s.heap s.heap [] := va_S.rf
  obtain ⟨Q, hQ⟩ : ∃ Q, Q = MQ below (va_Qi (fun (r' : Int32) (u : qH) => r' = r ∧ u = Xr) (fun u t => qO D kz b0 sz u t) (qA b0)) args s 0 0 (qA b0) := ⟨_, rfl⟩
  rw [← hQ]
  unfold fX9_light at hf
  obtain ⟨hthis, hf⟩ := qIs_spec hf
  refine lv_aload_n hx hb dX9_light_0 rfl (lv_at hl 0 rfl) ?_
  refine q_gR hx hb hT hown hK hR iqX9 vqX9 3 (by decide) (hT _ wfl_X9_23) hf dX9_light_1 (fun v1 hf => ?_)
  refine lv_iload_n hx hb dX9_light_4 rfl (lv_at hl 1 rfl) ?_
  obtain ⟨v2, hc, hf⟩ := q_b hf
  refine q_calli (va_runV (As := [.int a1]) (rest := []) ⟨hx, hb, hml, hown, hT⟩ (mX0_has l D kz b0 sz F X v1 a1 v2 hc) (cwV 1 hT (q_gV wco_X0_has wml_X9_144 wim_X0_has wse_X0_has win_X0) rfl rfl rfl hdX0_has ⟨Nat.le_of_ble_eq_true rfl, Nat.le_of_ble_eq_true rfl⟩) (q_preV vqX0 (fX0_has_is hc) hR hK hz) rfl rfl hl.1 rfl (lv_room (Nat.le_of_ble_eq_true rfl)) dX9_light_5 ⟨Nat.le_of_ble_eq_true rfl, Nat.le_of_ble_eq_true rfl⟩) hS (fun H locs hR hS hz => ?_)
  refine lv_if_ne (tgt := 14) hx hb dX9_light_8 (by decide) (fun hc => ?_) (fun hc => ?_)
  · have hf := q_f hf hc
    refine lv_aload_n hx hb dX9_light_14 rfl (lv_at hl 0 rfl) ?_
    refine q_gR hx hb hT hown hK hR iqX9 vqX9 7 (by decide) (hT _ wfl_X9_43) hf dX9_light_15 (fun v3 hf => ?_)
    refine q_gR hx hb hT hown hK hR iqX3 vqX3 4 (by decide) (hT _ wfl_X9_155) hf dX9_light_18 (fun v4 hf => ?_)
    refine lv_iload_n hx hb dX9_light_21 rfl (lv_at hl 1 rfl) ?_
    refine q_iald hx hb hK hR hf dX9_light_22 (fun v5 hf => ?_)
    refine lv_if_le (tgt := 45) hx hb dX9_light_23 (by decide) (fun hc => ?_) (fun hc => ?_)
    · have hf := q_t hf hc
      refine lv_ldc (v := (-1000000003 : Int32)) hx hb hown (hT _ wk_X9_188) dX9_light_45 ?_
      subst hQ
      obtain ⟨h8, h9⟩ := Prod.mk.inj (Option.some.inj hf)
      exact q_iret hx hb hr hlocks hR hS hz h8 h9 dX9_light_47
    · have hf := q_f hf hc
      refine lv_aload_n hx hb dX9_light_26 rfl (lv_at hl 0 rfl) ?_
      refine q_gR hx hb hT hown hK hR iqX9 vqX9 7 (by decide) (hT _ wfl_X9_43) hf dX9_light_27 (fun v6 hf => ?_)
      refine q_gR hx hb hT hown hK hR iqX3 vqX3 5 (by decide) (hT _ wfl_X9_165) hf dX9_light_30 (fun v7 hf => ?_)
      refine lv_iload_n hx hb dX9_light_33 rfl (lv_at hl 1 rfl) ?_
      refine q_iald hx hb hK hR hf dX9_light_34 (fun v8 hf => ?_)
      refine lv_aload_n hx hb dX9_light_35 rfl (lv_at hl 0 rfl) ?_
      refine q_gR hx hb hT hown hK hR iqX9 vqX9 7 (by decide) (hT _ wfl_X9_43) hf dX9_light_36 (fun v9 hf => ?_)
      refine q_gI hx hb hT hown hK hR iqX3 vqX3 0 (by decide) (hT _ wfl_X9_127) hf dX9_light_39 (fun v10 hf => ?_)
      refine lv_icmp_ne (tgt := 48) hx hb dX9_light_42 (by decide) (fun hc => ?_) (fun hc => ?_)
      · have hf := q_f hf hc
        refine lv_aload_n hx hb dX9_light_48 rfl (lv_at hl 0 rfl) ?_
        refine q_gR hx hb hT hown hK hR iqX9 vqX9 8 (by decide) (hT _ wfl_X9_54) hf dX9_light_49 (fun v11 hf => ?_)
        refine lv_aload_n hx hb dX9_light_52 rfl (lv_at hl 0 rfl) ?_
        refine q_gR hx hb hT hown hK hR iqX9 vqX9 7 (by decide) (hT _ wfl_X9_43) hf dX9_light_53 (fun v12 hf => ?_)
        obtain ⟨X13, hc, hf⟩ := q_b hf
        refine q_callv (va_runV (As := [.ref v12]) (rest := []) ⟨hx, hb, hml, hown, hT⟩ (mX5_push l D kz b0 sz F X v11 v12 X13 hc) (cwV 1 hT (q_gV wco_X5_push wml_X9_189 wim_X5_push wse_X5_push win_X5) rfl rfl rfl hdX5_push ⟨Nat.le_of_ble_eq_true rfl, Nat.le_of_ble_eq_true rfl⟩) (q_preV vqX5 (fX5_push_is hc) hR hK hz) rfl rfl hl.1 rfl (lv_room (Nat.le_of_ble_eq_true rfl)) dX9_light_56 ⟨Nat.le_of_ble_eq_true rfl, Nat.le_of_ble_eq_true rfl⟩) hS (fun H locs hR hS hz => ?_)
        refine lv_aload_n hx hb dX9_light_59 rfl (lv_at hl 0 rfl) ?_
        refine q_gR hx hb hT hown hK hR iqX9 vqX9 7 (by decide) (hT _ wfl_X9_43) hf dX9_light_60 (fun v14 hf => ?_)
        refine q_gR hx hb hT hown hK hR iqX3 vqX3 4 (by decide) (hT _ wfl_X9_155) hf dX9_light_63 (fun v15 hf => ?_)
        refine lv_iload_n hx hb dX9_light_66 rfl (lv_at hl 1 rfl) ?_
        refine lv_dup2_11 hx hb dX9_light_67 rfl rfl ?_
        refine q_iald hx hb hK hR hf dX9_light_68 (fun v16 hf => ?_)
        refine lv_iconst (v := (1 : Int32)) hx hb dX9_light_69 (by decide) ?_
        refine lv_isub hx hb dX9_light_70 ?_
        refine lv_topi (fun v17 ev17 => ?_)
        have hf := q_lt ev17 hf
        refine q_iast hx hb hK hR hS hz hf dX9_light_71 (fun X18 hf H locs hR hS hz => ?_)
        refine lv_aload_n hx hb dX9_light_72 rfl (lv_at hl 0 rfl) ?_
        refine q_gR hx hb hT hown hK hR iqX9 vqX9 7 (by decide) (hT _ wfl_X9_43) hf dX9_light_73 (fun v19 hf => ?_)
        refine lv_aload_n hx hb dX9_light_76 rfl (lv_at hl 0 rfl) ?_
        refine q_gR hx hb hT hown hK hR iqX9 vqX9 3 (by decide) (hT _ wfl_X9_23) hf dX9_light_77 (fun v20 hf => ?_)
        refine lv_iload_n hx hb dX9_light_80 rfl (lv_at hl 1 rfl) ?_
        obtain ⟨X21, hc, hf⟩ := q_b hf
        refine q_callv (va_runV (As := [.ref v20, .int a1]) (rest := []) ⟨hx, hb, hml, hown, hT⟩ (mX3_sign l D kz b0 sz F X18 v19 v20 a1 X21 hc) (cwV 2 hT (q_gV wco_X3_sign wml_X9_193 wim_X3_sign wse_X3_sign win_X3) rfl rfl rfl hdX3_sign ⟨Nat.le_of_ble_eq_true rfl, Nat.le_of_ble_eq_true rfl⟩) (q_preV vqX3 (fX3_sign_is hc) hR hK hz) rfl rfl hl.1 rfl (lv_room (Nat.le_of_ble_eq_true rfl)) dX9_light_81 ⟨Nat.le_of_ble_eq_true rfl, Nat.le_of_ble_eq_true rfl⟩) hS (fun H locs hR hS hz => ?_)
        refine lv_aload_n hx hb dX9_light_84 rfl (lv_at hl 0 rfl) ?_
        refine q_gR hx hb hT hown hK hR iqX9 vqX9 7 (by decide) (hT _ wfl_X9_43) hf dX9_light_85 (fun v22 hf => ?_)
        refine lv_aload_n hx hb dX9_light_88 rfl (lv_at hl 0 rfl) ?_
        refine q_gR hx hb hT hown hK hR iqX9 vqX9 3 (by decide) (hT _ wfl_X9_23) hf dX9_light_89 (fun v23 hf => ?_)
        refine lv_iload_n hx hb dX9_light_92 rfl (lv_at hl 1 rfl) ?_
        obtain ⟨v24, X25, hc, hf⟩ := q_b2 hf
        refine q_calli (va_runV (As := [.ref v23, .int a1]) (rest := []) ⟨hx, hb, hml, hown, hT⟩ (mX3_agree l D kz b0 sz F X21 v22 v23 a1 v24 X25 hc) (cwV 2 hT (q_gV wco_X3_agree wml_X9_197 wim_X3_agree wse_X3_agree win_X3) rfl rfl rfl hdX3_agree ⟨Nat.le_of_ble_eq_true rfl, Nat.le_of_ble_eq_true rfl⟩) (q_preV vqX3 (fX3_agree_is hc) hR hK hz) rfl rfl hl.1 rfl (lv_room (Nat.le_of_ble_eq_true rfl)) dX9_light_93 ⟨Nat.le_of_ble_eq_true rfl, Nat.le_of_ble_eq_true rfl⟩) hS (fun H locs hR hS hz => ?_)
        subst hQ
        obtain ⟨h8, h9⟩ := Prod.mk.inj (Option.some.inj hf)
        exact q_iret hx hb hr hlocks hR hS hz h8 h9 dX9_light_96
      · have hf := q_t hf hc
        refine lv_ldc (v := (-1000000003 : Int32)) hx hb hown (hT _ wk_X9_188) dX9_light_45 ?_
        subst hQ
        obtain ⟨h8, h9⟩ := Prod.mk.inj (Option.some.inj hf)
        exact q_iret hx hb hr hlocks hR hS hz h8 h9 dX9_light_47
  · have hf := q_t hf hc
    refine lv_ldc (v := (-1000000001 : Int32)) hx hb hown (hT _ wk_X9_148) dX9_light_11 ?_
    subst hQ
    obtain ⟨h8, h9⟩ := Prod.mk.inj (Option.some.inj hf)
    exact q_iret hx hb hr hlocks hR hS hz h8 h9 dX9_light_13
/-! X9_refusalOfMinutes -/
def fX9_refusalOfMinutes (F : Nat) (X : qH) (a0 : Nat) (a1 : Int32) : Option (Int32) :=
qIs 8 X a0 <|
if a1 < (1 : Int32) then (some (-1000000002 : Int32))
else (if a1 ≤ (99 : Int32) then ((qgR X 8 a0 3).bind fun v1 =>
(qgI X 0 v1 0).bind fun v2 =>
if v2 = (0 : Int32) then (some (-1000000003 : Int32))
else ((qgR X 8 a0 7).bind fun v3 =>
(qgI X 3 v3 0).bind fun v4 =>
(if v4 ≤ (90000 : Int32) then (some (0 : Int32))
else (some (-1000000004 : Int32)) : Option Int32).bind fun v5 =>
some v5))
else (some (-1000000002 : Int32)))
abbrev rmX9_refusalOfMinutes : Room := { frames := 0, cells := 0, slots := 0, locals := 0 }
theorem fX9_refusalOfMinutes_is {F : Nat} {X : qH} {a0 : Nat} {a1 : Int32} {r9 : Int32} (h : fX9_refusalOfMinutes F X a0 a1 = some r9) : ∃ fs, X a0 = some (.inr (8, fs)) := (qIs_spec h).1
theorem hdX9_refusalOfMinutes : yX9_refusalOfMinutes.cls = RX9 ∧ yX9_refusalOfMinutes.cls ≠ "java/lang/invoke/MethodHandle" ∧ yX9_refusalOfMinutes.cls ≠ "java/lang/invoke/VarHandle" ∧ (parseMethodDescriptor yX9_refusalOfMinutes.desc).map (fun d => d.parameters.length) = some 1 := by decide +kernel
set_option maxHeartbeats 4000000 in
set_option maxRecDepth 100000 in
theorem mX9_refusalOfMinutes (l : Launch) (D : va_G) (kz : Nat → Nat) (b0 sz F : Nat) (X : qH) (a0 : Nat) (a1 : Int32) (r : Int32) (hf : fX9_refusalOfMinutes F X a0 a1 = some r) : Met l yX9_refusalOfMinutes (qws yX9_refusalOfMinutes cX9_refusalOfMinutes 2 (some .int)) rmX9_refusalOfMinutes (va_Pc [.ref a0, .int a1] (qU D kz b0 sz X)) (va_Qi (fun (r' : Int32) (u : qH) => r' = r ∧ u = X) (fun u t => qO D kz b0 sz u t) (qA b0)) 0 0 (qA b0) := by
  refine q_start (by decide) (Nat.le_of_ble_eq_true rfl) ?_
  intro p e s m args below meth c hx hb hr hlocks hnm hml hown hT hR hK hz ls hl
  have hown : s.vm.findClass RX9 = some m.cls := hown
  have hl : lv_has ls 2 [(0, .ref a0), (1, .int a1)] := hl
  have hS : va_S (qA b0) s.heap s.heap [] := va_S.rf
  obtain ⟨Q, hQ⟩ : ∃ Q, Q = MQ below (va_Qi (fun (r' : Int32) (u : qH) => r' = r ∧ u = X) (fun u t => qO D kz b0 sz u t) (qA b0)) args s 0 0 (qA b0) := ⟨_, rfl⟩
  rw [← hQ]
  unfold fX9_refusalOfMinutes at hf
  obtain ⟨hthis, hf⟩ := qIs_spec hf
  refine lv_iload_n hx hb dX9_refusalOfMinutes_0 rfl (lv_at hl 1 rfl) ?_
  refine lv_iconst (v := (1 : Int32)) hx hb dX9_refusalOfMinutes_1 (by decide) ?_
  refine lv_icmp_lt (tgt := 11) hx hb dX9_refusalOfMinutes_2 (by decide) (fun hc => ?_) (fun hc => ?_)
  · have hf := q_t hf hc
    refine lv_ldc (v := (-1000000002 : Int32)) hx hb hown (hT _ wk_X9_97) dX9_refusalOfMinutes_11 ?_
    subst hQ
    exact q_iret hx hb hr hlocks hR hS hz (Option.some.inj hf) rfl dX9_refusalOfMinutes_13
  · have hf := q_f hf hc
    refine lv_iload_n hx hb dX9_refusalOfMinutes_5 rfl (lv_at hl 1 rfl) ?_
    refine lv_bipush (v := (99 : Int32)) hx hb dX9_refusalOfMinutes_6 (by decide) ?_
    refine lv_icmp_le (tgt := 14) hx hb dX9_refusalOfMinutes_8 (by decide) (fun hc => ?_) (fun hc => ?_)
    · have hf := q_t hf hc
      refine lv_aload_n hx hb dX9_refusalOfMinutes_14 rfl (lv_at hl 0 rfl) ?_
      refine q_gR hx hb hT hown hK hR iqX9 vqX9 3 (by decide) (hT _ wfl_X9_23) hf dX9_refusalOfMinutes_15 (fun v1 hf => ?_)
      refine q_gI hx hb hT hown hK hR iqX0 vqX0 0 (by decide) (hT _ wfl_X9_112) hf dX9_refusalOfMinutes_18 (fun v2 hf => ?_)
      refine lv_if_ne (tgt := 27) hx hb dX9_refusalOfMinutes_21 (by decide) (fun hc => ?_) (fun hc => ?_)
      · have hf := q_f hf hc
        refine lv_aload_n hx hb dX9_refusalOfMinutes_27 rfl (lv_at hl 0 rfl) ?_
        refine q_gR hx hb hT hown hK hR iqX9 vqX9 7 (by decide) (hT _ wfl_X9_43) hf dX9_refusalOfMinutes_28 (fun v3 hf => ?_)
        refine q_gI hx hb hT hown hK hR iqX3 vqX3 0 (by decide) (hT _ wfl_X9_127) hf dX9_refusalOfMinutes_31 (fun v4 hf => ?_)
        refine lv_ldcw (v := (90000 : Int32)) hx hb hown (hT _ wk_X9_287) dX9_refusalOfMinutes_34 ?_
        obtain ⟨v5, hp, hf⟩ := q_b hf
        have hJ : ∀ (H : Heap) (locs : List Loc) (ls : Array Slot), qR D kz b0 X H → va_S (qA b0) s.heap H locs → H.size = sz → lv_has ls 2 [] → W p l e rmX9_refusalOfMinutes s m args below meth c H locs 0 0 Q (F0 m 46 ls [.int v5]) := by
          intro H locs ls hR hS hz hl
          subst hQ
          exact q_iret hx hb hr hlocks hR hS hz (Option.some.inj hf) rfl dX9_refusalOfMinutes_46
        have hf := hp
        refine lv_icmp_le (tgt := 45) hx hb dX9_refusalOfMinutes_37 (by decide) (fun hc => ?_) (fun hc => ?_)
        · have hf := q_t hf hc
          refine lv_iconst (v := (0 : Int32)) hx hb dX9_refusalOfMinutes_45 (by decide) ?_
          cases hf
          exact hJ _ _ _ hR hS hz (lv_sub hl [] rfl)
        · have hf := q_f hf hc
          refine lv_ldc (v := (-1000000004 : Int32)) hx hb hown (hT _ wk_X9_98) dX9_refusalOfMinutes_40 ?_
          refine lv_goto (tgt := 46) hx hb dX9_refusalOfMinutes_42 (by decide) ?_
          cases hf
          exact hJ _ _ _ hR hS hz (lv_sub hl [] rfl)
      · have hf := q_t hf hc
        refine lv_ldc (v := (-1000000003 : Int32)) hx hb hown (hT _ wk_X9_188) dX9_refusalOfMinutes_24 ?_
        subst hQ
        exact q_iret hx hb hr hlocks hR hS hz (Option.some.inj hf) rfl dX9_refusalOfMinutes_26
    · have hf := q_f hf hc
      refine lv_ldc (v := (-1000000002 : Int32)) hx hb hown (hT _ wk_X9_97) dX9_refusalOfMinutes_11 ?_
      subst hQ
      exact q_iret hx hb hr hlocks hR hS hz (Option.some.inj hf) rfl dX9_refusalOfMinutes_13
/-! X9_minute -/
def fX9_minute (F : Nat) (X : qH) (a0 : Nat) (a1 : Int32) : Option (Int32 × qH) :=
qIs 8 X a0 <|
(fX9_refusalOfMinutes F X a0 a1).bind fun v1 =>
if v1 = (0 : Int32) then ((qgR X 8 a0 8).bind fun v2 =>
(qgR X 8 a0 7).bind fun v3 =>
(fX5_push F X v2 v3).bind fun X4 =>
(qgR X4 8 a0 7).bind fun v5 =>
(qgI X4 3 v5 0).bind fun v6 =>
qlt (v6 + a1) fun v7 =>
(qpI X4 3 v5 0 v7).bind fun X8 =>
(qgR X8 8 a0 7).bind fun v9 =>
(qgI X8 3 v9 0).bind fun v10 =>
some (v10, X8))
else (some (v1, X))
abbrev rmX9_minute : Room := { frames := 3, cells := 0, slots := 0, locals := 65 }
theorem fX9_minute_is {F : Nat} {X : qH} {a0 : Nat} {a1 : Int32} {r9 : Int32 × qH} (h : fX9_minute F X a0 a1 = some r9) : ∃ fs, X a0 = some (.inr (8, fs)) := (qIs_spec h).1
theorem hdX9_minute : yX9_minute.cls = RX9 ∧ yX9_minute.cls ≠ "java/lang/invoke/MethodHandle" ∧ yX9_minute.cls ≠ "java/lang/invoke/VarHandle" ∧ (parseMethodDescriptor yX9_minute.desc).map (fun d => d.parameters.length) = some 1 := by decide +kernel
set_option maxHeartbeats 4000000 in
set_option maxRecDepth 100000 in
theorem mX9_minute (l : Launch) (D : va_G) (kz : Nat → Nat) (b0 sz F : Nat) (X : qH) (a0 : Nat) (a1 : Int32) (r : Int32) (Xr : qH) (hf : fX9_minute F X a0 a1 = some (r, Xr)) : Met l yX9_minute (qws yX9_minute cX9_minute 3 (some .int)) rmX9_minute (va_Pc [.ref a0, .int a1] (qU D kz b0 sz X)) (va_Qi (fun (r' : Int32) (u : qH) => r' = r ∧ u = Xr) (fun u t => qO D kz b0 sz u t) (qA b0)) 0 0 (qA b0) := by
  refine q_start (by decide) (Nat.le_of_ble_eq_true rfl) ?_
  intro p e s m args below meth c hx hb hr hlocks hnm hml hown hT hR hK hz ls hl
  have hown : s.vm.findClass RX9 = some m.cls := hown
  have hl : lv_has ls 3 [(0, .ref a0), (1, .int a1)] := hl
  have hS : va_S (qA b0) s.heap s.heap [] := va_S.rf
  obtain ⟨Q, hQ⟩ : ∃ Q, Q = MQ below (va_Qi (fun (r' : Int32) (u : qH) => r' = r ∧ u = Xr) (fun u t => qO D kz b0 sz u t) (qA b0)) args s 0 0 (qA b0) := ⟨_, rfl⟩
  rw [← hQ]
  unfold fX9_minute at hf
  obtain ⟨hthis, hf⟩ := qIs_spec hf
  refine lv_aload_n hx hb dX9_minute_0 rfl (lv_at hl 0 rfl) ?_
  refine lv_iload_n hx hb dX9_minute_1 rfl (lv_at hl 1 rfl) ?_
  obtain ⟨v1, hc, hf⟩ := q_b hf
  refine q_calli (va_runV (As := [.int a1]) (rest := []) ⟨hx, hb, hml, hown, hT⟩ (mX9_refusalOfMinutes l D kz b0 sz F X a0 a1 v1 hc) (cwV 1 hT (q_gV wco_X9_refusalOfMinutes wml_X9_200 wim_X9_refusalOfMinutes wse_X9_refusalOfMinutes win_X9) rfl rfl rfl hdX9_refusalOfMinutes ⟨Nat.le_of_ble_eq_true rfl, Nat.le_of_ble_eq_true rfl⟩) (q_preV vqX9 (fX9_refusalOfMinutes_is hc) hR hK hz) rfl rfl hl.1 rfl (lv_room (Nat.le_of_ble_eq_true rfl)) dX9_minute_2 ⟨Nat.le_of_ble_eq_true rfl, Nat.le_of_ble_eq_true rfl⟩) hS (fun H locs hR hS hz => ?_)
  refine lv_istore_n (lv' := [(2, .int v1), (0, .ref a0), (1, .int a1)]) hx hb dX9_minute_5 rfl hl (by decide) rfl (fun ls hl => ?_)
  refine lv_iload_n hx hb dX9_minute_6 rfl (lv_at hl 0 rfl) ?_
  refine lv_if_eq (tgt := 12) hx hb dX9_minute_7 (by decide) (fun hc => ?_) (fun hc => ?_)
  · have hf := q_t hf hc
    refine lv_aload_n hx hb dX9_minute_12 rfl (lv_at hl 1 rfl) ?_
    refine q_gR hx hb hT hown hK hR iqX9 vqX9 8 (by decide) (hT _ wfl_X9_54) hf dX9_minute_13 (fun v2 hf => ?_)
    refine lv_aload_n hx hb dX9_minute_16 rfl (lv_at hl 1 rfl) ?_
    refine q_gR hx hb hT hown hK hR iqX9 vqX9 7 (by decide) (hT _ wfl_X9_43) hf dX9_minute_17 (fun v3 hf => ?_)
    obtain ⟨X4, hc, hf⟩ := q_b hf
    refine q_callv (va_runV (As := [.ref v3]) (rest := []) ⟨hx, hb, hml, hown, hT⟩ (mX5_push l D kz b0 sz F X v2 v3 X4 hc) (cwV 1 hT (q_gV wco_X5_push wml_X9_189 wim_X5_push wse_X5_push win_X5) rfl rfl rfl hdX5_push ⟨Nat.le_of_ble_eq_true rfl, Nat.le_of_ble_eq_true rfl⟩) (q_preV vqX5 (fX5_push_is hc) hR hK hz) rfl rfl hl.1 rfl (lv_room (Nat.le_of_ble_eq_true rfl)) dX9_minute_20 ⟨Nat.le_of_ble_eq_true rfl, Nat.le_of_ble_eq_true rfl⟩) hS (fun H locs hR hS hz => ?_)
    refine lv_aload_n hx hb dX9_minute_23 rfl (lv_at hl 1 rfl) ?_
    refine q_gR hx hb hT hown hK hR iqX9 vqX9 7 (by decide) (hT _ wfl_X9_43) hf dX9_minute_24 (fun v5 hf => ?_)
    refine lv_dup hx hb dX9_minute_27 rfl ?_
    refine q_gI hx hb hT hown hK hR iqX3 vqX3 0 (by decide) (hT _ wfl_X9_127) hf dX9_minute_28 (fun v6 hf => ?_)
    refine lv_iload_n hx hb dX9_minute_31 rfl (lv_at hl 2 rfl) ?_
    refine lv_iadd hx hb dX9_minute_32 ?_
    refine lv_topi (fun v7 ev7 => ?_)
    have hf := q_lt ev7 hf
    refine q_pI hx hb hT hown hK hR hS hz iqX3 vqX3 tyX3_ok nmX3 0 (by decide) (hT _ wfl_X9_127) rfl rfl hf dX9_minute_33 (fun X8 hf H locs hR hS hz => ?_)
    refine lv_aload_n hx hb dX9_minute_36 rfl (lv_at hl 1 rfl) ?_
    refine q_gR hx hb hT hown hK hR iqX9 vqX9 7 (by decide) (hT _ wfl_X9_43) hf dX9_minute_37 (fun v9 hf => ?_)
    refine q_gI hx hb hT hown hK hR iqX3 vqX3 0 (by decide) (hT _ wfl_X9_127) hf dX9_minute_40 (fun v10 hf => ?_)
    subst hQ
    obtain ⟨h8, h9⟩ := Prod.mk.inj (Option.some.inj hf)
    exact q_iret hx hb hr hlocks hR hS hz h8 h9 dX9_minute_43
  · have hf := q_f hf hc
    refine lv_iload_n hx hb dX9_minute_10 rfl (lv_at hl 0 rfl) ?_
    subst hQ
    obtain ⟨h8, h9⟩ := Prod.mk.inj (Option.some.inj hf)
    exact q_iret hx hb hr hlocks hR hS hz h8 h9 dX9_minute_11
/-! X9_fog -/
def fX9_fog (F : Nat) (X : qH) (a0 : Nat) (a1 : Int32) : Option (Int32 × qH) :=
qIs 8 X a0 <|
if a1 < (0 : Int32) then (some ((-1000000002 : Int32), X))
else (if a1 ≤ (20 : Int32) then ((qgR X 8 a0 3).bind fun v1 =>
(qgI X 0 v1 0).bind fun v2 =>
if v2 = (0 : Int32) then (some ((-1000000003 : Int32), X))
else ((qgR X 8 a0 8).bind fun v3 =>
(qgR X 8 a0 7).bind fun v4 =>
(fX5_push F X v3 v4).bind fun X5 =>
(qgR X5 8 a0 7).bind fun v6 =>
(qgI X5 3 v6 1).bind fun v7 =>
(qgR X5 8 a0 7).bind fun v8 =>
(qpI X5 3 v8 1 a1).bind fun X9 =>
some (v7, X9)))
else (some ((-1000000002 : Int32), X)))
abbrev rmX9_fog : Room := { frames := 3, cells := 0, slots := 0, locals := 65 }
theorem fX9_fog_is {F : Nat} {X : qH} {a0 : Nat} {a1 : Int32} {r9 : Int32 × qH} (h : fX9_fog F X a0 a1 = some r9) : ∃ fs, X a0 = some (.inr (8, fs)) := (qIs_spec h).1
theorem hdX9_fog : yX9_fog.cls = RX9 ∧ yX9_fog.cls ≠ "java/lang/invoke/MethodHandle" ∧ yX9_fog.cls ≠ "java/lang/invoke/VarHandle" ∧ (parseMethodDescriptor yX9_fog.desc).map (fun d => d.parameters.length) = some 1 := by decide +kernel
set_option maxHeartbeats 4000000 in
set_option maxRecDepth 100000 in
theorem mX9_fog (l : Launch) (D : va_G) (kz : Nat → Nat) (b0 sz F : Nat) (X : qH) (a0 : Nat) (a1 : Int32) (r : Int32) (Xr : qH) (hf : fX9_fog F X a0 a1 = some (r, Xr)) : Met l yX9_fog (qws yX9_fog cX9_fog 3 (some .int)) rmX9_fog (va_Pc [.ref a0, .int a1] (qU D kz b0 sz X)) (va_Qi (fun (r' : Int32) (u : qH) => r' = r ∧ u = Xr) (fun u t => qO D kz b0 sz u t) (qA b0)) 0 0 (qA b0) := by
  refine q_start (by decide) (Nat.le_of_ble_eq_true rfl) ?_
  intro p e s m args below meth c hx hb hr hlocks hnm hml hown hT hR hK hz ls hl
  have hown : s.vm.findClass RX9 = some m.cls := hown
  have hl : lv_has ls 3 [(0, .ref a0), (1, .int a1)] := hl
  have hS : va_S (qA b0) s.heap s.heap [] := va_S.rf
  obtain ⟨Q, hQ⟩ : ∃ Q, Q = MQ below (va_Qi (fun (r' : Int32) (u : qH) => r' = r ∧ u = Xr) (fun u t => qO D kz b0 sz u t) (qA b0)) args s 0 0 (qA b0) := ⟨_, rfl⟩
  rw [← hQ]
  unfold fX9_fog at hf
  obtain ⟨hthis, hf⟩ := qIs_spec hf
  refine lv_iload_n hx hb dX9_fog_0 rfl (lv_at hl 1 rfl) ?_
  refine lv_if_lt (tgt := 10) hx hb dX9_fog_1 (by decide) (fun hc => ?_) (fun hc => ?_)
  · have hf := q_t hf hc
    refine lv_ldc (v := (-1000000002 : Int32)) hx hb hown (hT _ wk_X9_97) dX9_fog_10 ?_
    subst hQ
    obtain ⟨h8, h9⟩ := Prod.mk.inj (Option.some.inj hf)
    exact q_iret hx hb hr hlocks hR hS hz h8 h9 dX9_fog_12
  · have hf := q_f hf hc
    refine lv_iload_n hx hb dX9_fog_4 rfl (lv_at hl 1 rfl) ?_
    refine lv_bipush (v := (20 : Int32)) hx hb dX9_fog_5 (by decide) ?_
    refine lv_icmp_le (tgt := 13) hx hb dX9_fog_7 (by decide) (fun hc => ?_) (fun hc => ?_)
    · have hf := q_t hf hc
      refine lv_aload_n hx hb dX9_fog_13 rfl (lv_at hl 0 rfl) ?_
      refine q_gR hx hb hT hown hK hR iqX9 vqX9 3 (by decide) (hT _ wfl_X9_23) hf dX9_fog_14 (fun v1 hf => ?_)
      refine q_gI hx hb hT hown hK hR iqX0 vqX0 0 (by decide) (hT _ wfl_X9_112) hf dX9_fog_17 (fun v2 hf => ?_)
      refine lv_if_ne (tgt := 26) hx hb dX9_fog_20 (by decide) (fun hc => ?_) (fun hc => ?_)
      · have hf := q_f hf hc
        refine lv_aload_n hx hb dX9_fog_26 rfl (lv_at hl 0 rfl) ?_
        refine q_gR hx hb hT hown hK hR iqX9 vqX9 8 (by decide) (hT _ wfl_X9_54) hf dX9_fog_27 (fun v3 hf => ?_)
        refine lv_aload_n hx hb dX9_fog_30 rfl (lv_at hl 0 rfl) ?_
        refine q_gR hx hb hT hown hK hR iqX9 vqX9 7 (by decide) (hT _ wfl_X9_43) hf dX9_fog_31 (fun v4 hf => ?_)
        obtain ⟨X5, hc, hf⟩ := q_b hf
        refine q_callv (va_runV (As := [.ref v4]) (rest := []) ⟨hx, hb, hml, hown, hT⟩ (mX5_push l D kz b0 sz F X v3 v4 X5 hc) (cwV 1 hT (q_gV wco_X5_push wml_X9_189 wim_X5_push wse_X5_push win_X5) rfl rfl rfl hdX5_push ⟨Nat.le_of_ble_eq_true rfl, Nat.le_of_ble_eq_true rfl⟩) (q_preV vqX5 (fX5_push_is hc) hR hK hz) rfl rfl hl.1 rfl (lv_room (Nat.le_of_ble_eq_true rfl)) dX9_fog_34 ⟨Nat.le_of_ble_eq_true rfl, Nat.le_of_ble_eq_true rfl⟩) hS (fun H locs hR hS hz => ?_)
        refine lv_aload_n hx hb dX9_fog_37 rfl (lv_at hl 0 rfl) ?_
        refine q_gR hx hb hT hown hK hR iqX9 vqX9 7 (by decide) (hT _ wfl_X9_43) hf dX9_fog_38 (fun v6 hf => ?_)
        refine q_gI hx hb hT hown hK hR iqX3 vqX3 1 (by decide) (hT _ wfl_X9_115) hf dX9_fog_41 (fun v7 hf => ?_)
        refine lv_istore_n (lv' := [(2, .int v7), (0, .ref a0), (1, .int a1)]) hx hb dX9_fog_44 rfl hl (by decide) rfl (fun ls hl => ?_)
        refine lv_aload_n hx hb dX9_fog_45 rfl (lv_at hl 1 rfl) ?_
        refine q_gR hx hb hT hown hK hR iqX9 vqX9 7 (by decide) (hT _ wfl_X9_43) hf dX9_fog_46 (fun v8 hf => ?_)
        refine lv_iload_n hx hb dX9_fog_49 rfl (lv_at hl 2 rfl) ?_
        refine q_pI hx hb hT hown hK hR hS hz iqX3 vqX3 tyX3_ok nmX3 1 (by decide) (hT _ wfl_X9_115) rfl rfl hf dX9_fog_50 (fun X9 hf H locs hR hS hz => ?_)
        refine lv_iload_n hx hb dX9_fog_53 rfl (lv_at hl 0 rfl) ?_
        subst hQ
        obtain ⟨h8, h9⟩ := Prod.mk.inj (Option.some.inj hf)
        exact q_iret hx hb hr hlocks hR hS hz h8 h9 dX9_fog_54
      · have hf := q_t hf hc
        refine lv_ldc (v := (-1000000003 : Int32)) hx hb hown (hT _ wk_X9_188) dX9_fog_23 ?_
        subst hQ
        obtain ⟨h8, h9⟩ := Prod.mk.inj (Option.some.inj hf)
        exact q_iret hx hb hr hlocks hR hS hz h8 h9 dX9_fog_25
    · have hf := q_f hf hc
      refine lv_ldc (v := (-1000000002 : Int32)) hx hb hown (hT _ wk_X9_97) dX9_fog_10 ?_
      subst hQ
      obtain ⟨h8, h9⟩ := Prod.mk.inj (Option.some.inj hf)
      exact q_iret hx hb hr hlocks hR hS hz h8 h9 dX9_fog_12
/-! X9_wind -/
def fX9_wind (F : Nat) (X : qH) (a0 : Nat) (a1 : Int32) : Option (Int32 × qH) :=
qIs 8 X a0 <|
if a1 < (-5 : Int32) then (some ((-1000000002 : Int32), X))
else (if a1 ≤ (5 : Int32) then ((qgR X 8 a0 3).bind fun v1 =>
(qgI X 0 v1 0).bind fun v2 =>
if v2 = (0 : Int32) then (some ((-1000000003 : Int32), X))
else ((qgR X 8 a0 8).bind fun v3 =>
(qgR X 8 a0 7).bind fun v4 =>
(fX5_push F X v3 v4).bind fun X5 =>
(qgR X5 8 a0 7).bind fun v6 =>
(qgI X5 3 v6 2).bind fun v7 =>
(qgR X5 8 a0 7).bind fun v8 =>
(qpI X5 3 v8 2 a1).bind fun X9 =>
some ((v7 + (5 : Int32)), X9)))
else (some ((-1000000002 : Int32), X)))
abbrev rmX9_wind : Room := { frames := 3, cells := 0, slots := 0, locals := 65 }
theorem fX9_wind_is {F : Nat} {X : qH} {a0 : Nat} {a1 : Int32} {r9 : Int32 × qH} (h : fX9_wind F X a0 a1 = some r9) : ∃ fs, X a0 = some (.inr (8, fs)) := (qIs_spec h).1
theorem hdX9_wind : yX9_wind.cls = RX9 ∧ yX9_wind.cls ≠ "java/lang/invoke/MethodHandle" ∧ yX9_wind.cls ≠ "java/lang/invoke/VarHandle" ∧ (parseMethodDescriptor yX9_wind.desc).map (fun d => d.parameters.length) = some 1 := by decide +kernel
set_option maxHeartbeats 4000000 in
set_option maxRecDepth 100000 in
theorem mX9_wind (l : Launch) (D : va_G) (kz : Nat → Nat) (b0 sz F : Nat) (X : qH) (a0 : Nat) (a1 : Int32) (r : Int32) (Xr : qH) (hf : fX9_wind F X a0 a1 = some (r, Xr)) : Met l yX9_wind (qws yX9_wind cX9_wind 3 (some .int)) rmX9_wind (va_Pc [.ref a0, .int a1] (qU D kz b0 sz X)) (va_Qi (fun (r' : Int32) (u : qH) => r' = r ∧ u = Xr) (fun u t => qO D kz b0 sz u t) (qA b0)) 0 0 (qA b0) := by
  refine q_start (by decide) (Nat.le_of_ble_eq_true rfl) ?_
  intro p e s m args below meth c hx hb hr hlocks hnm hml hown hT hR hK hz ls hl
  have hown : s.vm.findClass RX9 = some m.cls := hown
  have hl : lv_has ls 3 [(0, .ref a0), (1, .int a1)] := hl
  have hS : va_S (qA b0) s.heap s.heap [] := va_S.rf
  obtain ⟨Q, hQ⟩ : ∃ Q, Q = MQ below (va_Qi (fun (r' : Int32) (u : qH) => r' = r ∧ u = Xr) (fun u t => qO D kz b0 sz u t) (qA b0)) args s 0 0 (qA b0) := ⟨_, rfl⟩
  rw [← hQ]
  unfold fX9_wind at hf
  obtain ⟨hthis, hf⟩ := qIs_spec hf
  refine lv_iload_n hx hb dX9_wind_0 rfl (lv_at hl 1 rfl) ?_
  refine lv_bipush (v := (-5 : Int32)) hx hb dX9_wind_1 (by decide) ?_
  refine lv_icmp_lt (tgt := 11) hx hb dX9_wind_3 (by decide) (fun hc => ?_) (fun hc => ?_)
  · have hf := q_t hf hc
    refine lv_ldc (v := (-1000000002 : Int32)) hx hb hown (hT _ wk_X9_97) dX9_wind_11 ?_
    subst hQ
    obtain ⟨h8, h9⟩ := Prod.mk.inj (Option.some.inj hf)
    exact q_iret hx hb hr hlocks hR hS hz h8 h9 dX9_wind_13
  · have hf := q_f hf hc
    refine lv_iload_n hx hb dX9_wind_6 rfl (lv_at hl 1 rfl) ?_
    refine lv_iconst (v := (5 : Int32)) hx hb dX9_wind_7 (by decide) ?_
    refine lv_icmp_le (tgt := 14) hx hb dX9_wind_8 (by decide) (fun hc => ?_) (fun hc => ?_)
    · have hf := q_t hf hc
      refine lv_aload_n hx hb dX9_wind_14 rfl (lv_at hl 0 rfl) ?_
      refine q_gR hx hb hT hown hK hR iqX9 vqX9 3 (by decide) (hT _ wfl_X9_23) hf dX9_wind_15 (fun v1 hf => ?_)
      refine q_gI hx hb hT hown hK hR iqX0 vqX0 0 (by decide) (hT _ wfl_X9_112) hf dX9_wind_18 (fun v2 hf => ?_)
      refine lv_if_ne (tgt := 27) hx hb dX9_wind_21 (by decide) (fun hc => ?_) (fun hc => ?_)
      · have hf := q_f hf hc
        refine lv_aload_n hx hb dX9_wind_27 rfl (lv_at hl 0 rfl) ?_
        refine q_gR hx hb hT hown hK hR iqX9 vqX9 8 (by decide) (hT _ wfl_X9_54) hf dX9_wind_28 (fun v3 hf => ?_)
        refine lv_aload_n hx hb dX9_wind_31 rfl (lv_at hl 0 rfl) ?_
        refine q_gR hx hb hT hown hK hR iqX9 vqX9 7 (by decide) (hT _ wfl_X9_43) hf dX9_wind_32 (fun v4 hf => ?_)
        obtain ⟨X5, hc, hf⟩ := q_b hf
        refine q_callv (va_runV (As := [.ref v4]) (rest := []) ⟨hx, hb, hml, hown, hT⟩ (mX5_push l D kz b0 sz F X v3 v4 X5 hc) (cwV 1 hT (q_gV wco_X5_push wml_X9_189 wim_X5_push wse_X5_push win_X5) rfl rfl rfl hdX5_push ⟨Nat.le_of_ble_eq_true rfl, Nat.le_of_ble_eq_true rfl⟩) (q_preV vqX5 (fX5_push_is hc) hR hK hz) rfl rfl hl.1 rfl (lv_room (Nat.le_of_ble_eq_true rfl)) dX9_wind_35 ⟨Nat.le_of_ble_eq_true rfl, Nat.le_of_ble_eq_true rfl⟩) hS (fun H locs hR hS hz => ?_)
        refine lv_aload_n hx hb dX9_wind_38 rfl (lv_at hl 0 rfl) ?_
        refine q_gR hx hb hT hown hK hR iqX9 vqX9 7 (by decide) (hT _ wfl_X9_43) hf dX9_wind_39 (fun v6 hf => ?_)
        refine q_gI hx hb hT hown hK hR iqX3 vqX3 2 (by decide) (hT _ wfl_X9_118) hf dX9_wind_42 (fun v7 hf => ?_)
        refine lv_istore_n (lv' := [(2, .int v7), (0, .ref a0), (1, .int a1)]) hx hb dX9_wind_45 rfl hl (by decide) rfl (fun ls hl => ?_)
        refine lv_aload_n hx hb dX9_wind_46 rfl (lv_at hl 1 rfl) ?_
        refine q_gR hx hb hT hown hK hR iqX9 vqX9 7 (by decide) (hT _ wfl_X9_43) hf dX9_wind_47 (fun v8 hf => ?_)
        refine lv_iload_n hx hb dX9_wind_50 rfl (lv_at hl 2 rfl) ?_
        refine q_pI hx hb hT hown hK hR hS hz iqX3 vqX3 tyX3_ok nmX3 2 (by decide) (hT _ wfl_X9_118) rfl rfl hf dX9_wind_51 (fun X9 hf H locs hR hS hz => ?_)
        refine lv_iload_n hx hb dX9_wind_54 rfl (lv_at hl 0 rfl) ?_
        refine lv_iconst (v := (5 : Int32)) hx hb dX9_wind_55 (by decide) ?_
        refine lv_iadd hx hb dX9_wind_56 ?_
        subst hQ
        obtain ⟨h8, h9⟩ := Prod.mk.inj (Option.some.inj hf)
        exact q_iret hx hb hr hlocks hR hS hz h8 h9 dX9_wind_57
      · have hf := q_t hf hc
        refine lv_ldc (v := (-1000000003 : Int32)) hx hb hown (hT _ wk_X9_188) dX9_wind_24 ?_
        subst hQ
        obtain ⟨h8, h9⟩ := Prod.mk.inj (Option.some.inj hf)
        exact q_iret hx hb hr hlocks hR hS hz h8 h9 dX9_wind_26
    · have hf := q_f hf hc
      refine lv_ldc (v := (-1000000002 : Int32)) hx hb hown (hT _ wk_X9_97) dX9_wind_11 ?_
      subst hQ
      obtain ⟨h8, h9⟩ := Prod.mk.inj (Option.some.inj hf)
      exact q_iret hx hb hr hlocks hR hS hz h8 h9 dX9_wind_13
/-! X9_draw -/
def fX9_draw (F : Nat) (X : qH) (a0 : Nat) (a1 : Int32) : Option (Int32 × qH) :=
qIs 8 X a0 <|
(qgI X 8 a0 5).bind fun v1 =>
qlt (((((((v1).toInt64) * (1103515245 : Int64)) + (12345 : Int64)) &&& (2147483647 : Int64))).toInt32) fun v2 =>
(qpI X 8 a0 5 v2).bind fun X3 =>
(if (1 : Int32) ≤ a1 then ((qgI X3 8 a0 5).bind fun v5 =>
qnz a1 <|
some ((v5 / (65536 : Int32)) - (v5 / (65536 : Int32)) / a1 * a1))
else (some (0 : Int32)) : Option Int32).bind fun v4 =>
some (v4, X3)
abbrev rmX9_draw : Room := { frames := 0, cells := 0, slots := 0, locals := 0 }
theorem fX9_draw_is {F : Nat} {X : qH} {a0 : Nat} {a1 : Int32} {r9 : Int32 × qH} (h : fX9_draw F X a0 a1 = some r9) : ∃ fs, X a0 = some (.inr (8, fs)) := (qIs_spec h).1
theorem hdX9_draw : yX9_draw.cls = RX9 ∧ yX9_draw.cls ≠ "java/lang/invoke/MethodHandle" ∧ yX9_draw.cls ≠ "java/lang/invoke/VarHandle" ∧ (parseMethodDescriptor yX9_draw.desc).map (fun d => d.parameters.length) = some 1 := by decide +kernel
set_option maxHeartbeats 4000000 in
set_option maxRecDepth 100000 in
theorem mX9_draw (l : Launch) (D : va_G) (kz : Nat → Nat) (b0 sz F : Nat) (X : qH) (a0 : Nat) (a1 : Int32) (r : Int32) (Xr : qH) (hf : fX9_draw F X a0 a1 = some (r, Xr)) : Met l yX9_draw (qws yX9_draw cX9_draw 2 (some .int)) rmX9_draw (va_Pc [.ref a0, .int a1] (qU D kz b0 sz X)) (va_Qi (fun (r' : Int32) (u : qH) => r' = r ∧ u = Xr) (fun u t => qO D kz b0 sz u t) (qA b0)) 0 0 (qA b0) := by
  refine q_start (by decide) (Nat.le_of_ble_eq_true rfl) ?_
  intro p e s m args below meth c hx hb hr hlocks hnm hml hown hT hR hK hz ls hl
  have hown : s.vm.findClass RX9 = some m.cls := hown
  have hl : lv_has ls 2 [(0, .ref a0), (1, .int a1)] := hl
  have hS : va_S (qA b0) s.heap s.heap [] := va_S.rf
  obtain ⟨Q, hQ⟩ : ∃ Q, Q = MQ below (va_Qi (fun (r' : Int32) (u : qH) => r' = r ∧ u = Xr) (fun u t => qO D kz b0 sz u t) (qA b0)) args s 0 0 (qA b0) := ⟨_, rfl⟩
  rw [← hQ]
  unfold fX9_draw at hf
  obtain ⟨hthis, hf⟩ := qIs_spec hf
  refine lv_aload_n hx hb dX9_draw_0 rfl (lv_at hl 0 rfl) ?_
  refine lv_aload_n hx hb dX9_draw_1 rfl (lv_at hl 0 rfl) ?_
  refine q_gI hx hb hT hown hK hR iqX9 vqX9 5 (by decide) (hT _ wfl_X9_30) hf dX9_draw_2 (fun v1 hf => ?_)
  refine lv_i2l hx hb dX9_draw_5 rfl ?_
  refine lv_ldc2 (v := (1103515245 : Int64)) hx hb hown (hT _ wkl_X9_291) dX9_draw_6 ?_
  refine lv_lmul hx hb dX9_draw_9 ?_
  refine lv_ldc2 (v := (12345 : Int64)) hx hb hown (hT _ wkl_X9_293) dX9_draw_10 ?_
  refine lv_ladd hx hb dX9_draw_13 ?_
  refine lv_ldc2 (v := (2147483647 : Int64)) hx hb hown (hT _ wkl_X9_295) dX9_draw_14 ?_
  refine lv_land hx hb dX9_draw_17 ?_
  refine lv_l2i hx hb dX9_draw_18 rfl ?_
  refine lv_topi (fun v2 ev2 => ?_)
  have hf := q_lt ev2 hf
  refine q_pI hx hb hT hown hK hR hS hz iqX9 vqX9 tyX9_ok nmX9 5 (by decide) (hT _ wfl_X9_30) rfl rfl hf dX9_draw_19 (fun X3 hf H locs hR hS hz => ?_)
  refine lv_iload_n hx hb dX9_draw_22 rfl (lv_at hl 1 rfl) ?_
  refine lv_iconst (v := (1 : Int32)) hx hb dX9_draw_23 (by decide) ?_
  obtain ⟨v4, hp, hf⟩ := q_b hf
  have hJ : ∀ (H : Heap) (locs : List Loc) (ls : Array Slot), qR D kz b0 X3 H → va_S (qA b0) s.heap H locs → H.size = sz → lv_has ls 2 [] → W p l e rmX9_draw s m args below meth c H locs 0 0 Q (F0 m 41 ls [.int v4]) := by
    intro H locs ls hR hS hz hl
    subst hQ
    obtain ⟨h8, h9⟩ := Prod.mk.inj (Option.some.inj hf)
    exact q_iret hx hb hr hlocks hR hS hz h8 h9 dX9_draw_41
  have hf := hp
  refine lv_icmp_ge (tgt := 31) hx hb dX9_draw_24 (by decide) (fun hc => ?_) (fun hc => ?_)
  · have hf := q_t hf hc
    refine lv_aload_n hx hb dX9_draw_31 rfl (lv_at hl 0 rfl) ?_
    refine q_gI hx hb hT hown hK hR iqX9 vqX9 5 (by decide) (hT _ wfl_X9_30) hf dX9_draw_32 (fun v5 hf => ?_)
    refine lv_ldcw (v := (65536 : Int32)) hx hb hown (hT _ wk_X9_297) dX9_draw_35 ?_
    refine lv_idiv hx hb dX9_draw_38 (by decide) ?_
    refine lv_iload_n hx hb dX9_draw_39 rfl (lv_at hl 1 rfl) ?_
    obtain ⟨hn6, hf⟩ := qnz_spec hf
    refine lv_irem hx hb dX9_draw_40 hn6 ?_
    cases hf
    exact hJ _ _ _ hR hS hz (lv_sub hl [] rfl)
  · have hf := q_f hf hc
    refine lv_iconst (v := (0 : Int32)) hx hb dX9_draw_27 (by decide) ?_
    refine lv_goto (tgt := 41) hx hb dX9_draw_28 (by decide) ?_
    cases hf
    exact hJ _ _ _ hR hS hz (lv_sub hl [] rfl)
/-! X9_changeWeather -/
def fX9_changeWeather (F : Nat) (X : qH) (a0 : Nat) : Option (qH) :=
qIs 8 X a0 <|
qb2 (fX9_draw F X a0 (3 : Int32)) fun v1 X2 =>
(if v1 = (0 : Int32) then ((qgR X2 8 a0 7).bind fun v4 =>
qb2 (fX9_draw F X2 a0 (21 : Int32)) fun v5 X6 =>
(qpI X6 3 v4 1 v5).bind fun X7 =>
some X7)
else (if v1 = (1 : Int32) then ((qgR X2 8 a0 7).bind fun v8 =>
qb2 (fX9_draw F X2 a0 (11 : Int32)) fun v9 X10 =>
qlt (v9 - (5 : Int32)) fun v11 =>
(qpI X10 3 v8 2 v11).bind fun X12 =>
some X12)
else (some X2)) : Option qH).bind fun X3 =>
some X3
abbrev rmX9_changeWeather : Room := { frames := 1, cells := 0, slots := 0, locals := 21 }
theorem fX9_changeWeather_is {F : Nat} {X : qH} {a0 : Nat} {r9 : qH} (h : fX9_changeWeather F X a0 = some r9) : ∃ fs, X a0 = some (.inr (8, fs)) := (qIs_spec h).1
theorem hdX9_changeWeather : yX9_changeWeather.cls = RX9 ∧ yX9_changeWeather.cls ≠ "java/lang/invoke/MethodHandle" ∧ yX9_changeWeather.cls ≠ "java/lang/invoke/VarHandle" ∧ (parseMethodDescriptor yX9_changeWeather.desc).map (fun d => d.parameters.length) = some 0 := by decide +kernel
set_option maxHeartbeats 4000000 in
set_option maxRecDepth 100000 in
theorem mX9_changeWeather (l : Launch) (D : va_G) (kz : Nat → Nat) (b0 sz F : Nat) (X : qH) (a0 : Nat)  (Xr : qH) (hf : fX9_changeWeather F X a0 = some Xr) : Met l yX9_changeWeather (qws yX9_changeWeather cX9_changeWeather 2 none) rmX9_changeWeather (va_Pc [.ref a0] (qU D kz b0 sz X)) (va_Qv (fun (u : qH) => u = Xr) (fun u t => qO D kz b0 sz u t) (qA b0)) 0 0 (qA b0) := by
  refine q_start (by decide) (Nat.le_of_ble_eq_true rfl) ?_
  intro p e s m args below meth c hx hb hr hlocks hnm hml hown hT hR hK hz ls hl
  have hown : s.vm.findClass RX9 = some m.cls := hown
  have hl : lv_has ls 2 [(0, .ref a0)] := hl
  have hS : va_S (qA b0) s.heap s.heap [] := va_S.rf
  obtain ⟨Q, hQ⟩ : ∃ Q, Q = MQ below (va_Qv (fun (u : qH) => u = Xr) (fun u t => qO D kz b0 sz u t) (qA b0)) args s 0 0 (qA b0) := ⟨_, rfl⟩
  rw [← hQ]
  unfold fX9_changeWeather at hf
  obtain ⟨hthis, hf⟩ := qIs_spec hf
  refine lv_aload_n hx hb dX9_changeWeather_0 rfl (lv_at hl 0 rfl) ?_
  refine lv_iconst (v := (3 : Int32)) hx hb dX9_changeWeather_1 (by decide) ?_
  obtain ⟨v1, X2, hc, hf⟩ := q_b2 hf
  refine q_calli (va_runV (As := [.int (3 : Int32)]) (rest := []) ⟨hx, hb, hml, hown, hT⟩ (mX9_draw l D kz b0 sz F X a0 (3 : Int32) v1 X2 hc) (cwV 1 hT (q_gV wco_X9_draw wml_X9_288 wim_X9_draw wse_X9_draw win_X9) rfl rfl rfl hdX9_draw ⟨Nat.le_of_ble_eq_true rfl, Nat.le_of_ble_eq_true rfl⟩) (q_preV vqX9 (fX9_draw_is hc) hR hK hz) rfl rfl hl.1 rfl (lv_room (Nat.le_of_ble_eq_true rfl)) dX9_changeWeather_2 ⟨Nat.le_of_ble_eq_true rfl, Nat.le_of_ble_eq_true rfl⟩) hS (fun H locs hR hS hz => ?_)
  refine lv_istore_n (lv' := [(1, .int v1), (0, .ref a0)]) hx hb dX9_changeWeather_5 rfl hl (by decide) rfl (fun ls hl => ?_)
  refine lv_iload_n hx hb dX9_changeWeather_6 rfl (lv_at hl 0 rfl) ?_
  obtain ⟨X3, hp, hf⟩ := q_b hf
  have hJ : ∀ (H : Heap) (locs : List Loc) (ls : Array Slot), qR D kz b0 X3 H → va_S (qA b0) s.heap H locs → H.size = sz → lv_has ls 2 [] → W p l e rmX9_changeWeather s m args below meth c H locs 0 0 Q (F0 m 46 ls []) := by
    intro H locs ls hR hS hz hl
    subst hQ
    exact q_vret hx hb hr hlocks hR hS hz (Option.some.inj hf) dX9_changeWeather_46
  have hf := hp
  refine lv_if_ne (tgt := 26) hx hb dX9_changeWeather_7 (by decide) (fun hc => ?_) (fun hc => ?_)
  · have hf := q_f hf hc
    refine lv_iload_n hx hb dX9_changeWeather_26 rfl (lv_at hl 0 rfl) ?_
    refine lv_iconst (v := (1 : Int32)) hx hb dX9_changeWeather_27 (by decide) ?_
    refine lv_icmp_ne (tgt := 46) hx hb dX9_changeWeather_28 (by decide) (fun hc => ?_) (fun hc => ?_)
    · have hf := q_f hf hc
      cases hf
      exact hJ _ _ _ hR hS hz (lv_sub hl [] rfl)
    · have hf := q_t hf hc
      refine lv_aload_n hx hb dX9_changeWeather_31 rfl (lv_at hl 1 rfl) ?_
      refine q_gR hx hb hT hown hK hR iqX9 vqX9 7 (by decide) (hT _ wfl_X9_43) hf dX9_changeWeather_32 (fun v8 hf => ?_)
      refine lv_aload_n hx hb dX9_changeWeather_35 rfl (lv_at hl 1 rfl) ?_
      refine lv_bipush (v := (11 : Int32)) hx hb dX9_changeWeather_36 (by decide) ?_
      obtain ⟨v9, X10, hc, hf⟩ := q_b2 hf
      refine q_calli (va_runV (As := [.int (11 : Int32)]) (rest := [.ref v8]) ⟨hx, hb, hml, hown, hT⟩ (mX9_draw l D kz b0 sz F X2 a0 (11 : Int32) v9 X10 hc) (cwV 1 hT (q_gV wco_X9_draw wml_X9_288 wim_X9_draw wse_X9_draw win_X9) rfl rfl rfl hdX9_draw ⟨Nat.le_of_ble_eq_true rfl, Nat.le_of_ble_eq_true rfl⟩) (q_preV vqX9 (fX9_draw_is hc) hR hK hz) rfl rfl hl.1 rfl (lv_room (Nat.le_of_ble_eq_true rfl)) dX9_changeWeather_38 ⟨Nat.le_of_ble_eq_true rfl, Nat.le_of_ble_eq_true rfl⟩) hS (fun H locs hR hS hz => ?_)
      refine lv_iconst (v := (5 : Int32)) hx hb dX9_changeWeather_41 (by decide) ?_
      refine lv_isub hx hb dX9_changeWeather_42 ?_
      refine lv_topi (fun v11 ev11 => ?_)
      have hf := q_lt ev11 hf
      refine q_pI hx hb hT hown hK hR hS hz iqX3 vqX3 tyX3_ok nmX3 2 (by decide) (hT _ wfl_X9_118) rfl rfl hf dX9_changeWeather_43 (fun X12 hf H locs hR hS hz => ?_)
      cases hf
      exact hJ _ _ _ hR hS hz (lv_sub hl [] rfl)
  · have hf := q_t hf hc
    refine lv_aload_n hx hb dX9_changeWeather_10 rfl (lv_at hl 1 rfl) ?_
    refine q_gR hx hb hT hown hK hR iqX9 vqX9 7 (by decide) (hT _ wfl_X9_43) hf dX9_changeWeather_11 (fun v4 hf => ?_)
    refine lv_aload_n hx hb dX9_changeWeather_14 rfl (lv_at hl 1 rfl) ?_
    refine lv_bipush (v := (21 : Int32)) hx hb dX9_changeWeather_15 (by decide) ?_
    obtain ⟨v5, X6, hc, hf⟩ := q_b2 hf
    refine q_calli (va_runV (As := [.int (21 : Int32)]) (rest := [.ref v4]) ⟨hx, hb, hml, hown, hT⟩ (mX9_draw l D kz b0 sz F X2 a0 (21 : Int32) v5 X6 hc) (cwV 1 hT (q_gV wco_X9_draw wml_X9_288 wim_X9_draw wse_X9_draw win_X9) rfl rfl rfl hdX9_draw ⟨Nat.le_of_ble_eq_true rfl, Nat.le_of_ble_eq_true rfl⟩) (q_preV vqX9 (fX9_draw_is hc) hR hK hz) rfl rfl hl.1 rfl (lv_room (Nat.le_of_ble_eq_true rfl)) dX9_changeWeather_17 ⟨Nat.le_of_ble_eq_true rfl, Nat.le_of_ble_eq_true rfl⟩) hS (fun H locs hR hS hz => ?_)
    refine q_pI hx hb hT hown hK hR hS hz iqX3 vqX3 tyX3_ok nmX3 1 (by decide) (hT _ wfl_X9_115) rfl rfl hf dX9_changeWeather_20 (fun X7 hf H locs hR hS hz => ?_)
    refine lv_goto (tgt := 46) hx hb dX9_changeWeather_23 (by decide) ?_
    cases hf
    exact hJ _ _ _ hR hS hz (lv_sub hl [] rfl)
/-! X9_drift -/
def fX9_drift_L25_B (F : Nat) (a0 : Nat) (a1 : Int32) (self0 : Int32 → qH → Option (qH)) (v5 : Int32) (X6 : qH) : Option (qH) :=
if a1 ≤ v5 then (some X6)
else ((fX9_changeWeather F X6 a0).bind fun X7 =>
(qgR X7 8 a0 7).bind fun v8 =>
(qgI X7 3 v8 0).bind fun v9 =>
qlt (v9 + (1 : Int32)) fun v10 =>
(qpI X7 3 v8 0 v10).bind fun X11 =>
qlt (v5 + (1 : Int32)) fun v12 =>
self0 v12 X11)
def fX9_drift_L25 (F : Nat) (a0 : Nat) (a1 : Int32) : Nat → Int32 → qH → Option (qH)
  | 0, _, _ => none
  | n + 1, v5, X6 => fX9_drift_L25_B F a0 a1 (fX9_drift_L25 F a0 a1 n) v5 X6
def fX9_drift (F : Nat) (X : qH) (a0 : Nat) (a1 : Int32) : Option (Int32 × qH) :=
qIs 8 X a0 <|
(fX9_refusalOfMinutes F X a0 a1).bind fun v1 =>
if v1 = (0 : Int32) then ((qgR X 8 a0 8).bind fun v2 =>
(qgR X 8 a0 7).bind fun v3 =>
(fX5_push F X v2 v3).bind fun X4 =>
(fX9_drift_L25 F a0 a1 F (0 : Int32) X4).bind fun X13 =>
(qgR X13 8 a0 7).bind fun v14 =>
(qgI X13 3 v14 0).bind fun v15 =>
some (v15, X13))
else (some (v1, X))
abbrev rmX9_drift : Room := { frames := 3, cells := 0, slots := 0, locals := 65 }
theorem fX9_drift_is {F : Nat} {X : qH} {a0 : Nat} {a1 : Int32} {r9 : Int32 × qH} (h : fX9_drift F X a0 a1 = some r9) : ∃ fs, X a0 = some (.inr (8, fs)) := (qIs_spec h).1
theorem hdX9_drift : yX9_drift.cls = RX9 ∧ yX9_drift.cls ≠ "java/lang/invoke/MethodHandle" ∧ yX9_drift.cls ≠ "java/lang/invoke/VarHandle" ∧ (parseMethodDescriptor yX9_drift.desc).map (fun d => d.parameters.length) = some 1 := by decide +kernel
set_option maxHeartbeats 4000000 in
set_option maxRecDepth 100000 in
theorem mX9_drift (l : Launch) (D : va_G) (kz : Nat → Nat) (b0 sz F : Nat) (X : qH) (a0 : Nat) (a1 : Int32) (r : Int32) (Xr : qH) (hf : fX9_drift F X a0 a1 = some (r, Xr)) : Met l yX9_drift (qws yX9_drift cX9_drift 4 (some .int)) rmX9_drift (va_Pc [.ref a0, .int a1] (qU D kz b0 sz X)) (va_Qi (fun (r' : Int32) (u : qH) => r' = r ∧ u = Xr) (fun u t => qO D kz b0 sz u t) (qA b0)) 0 0 (qA b0) := by
  refine q_start (by decide) (Nat.le_of_ble_eq_true rfl) ?_
  intro p e s m args below meth c hx hb hr hlocks hnm hml hown hT hR hK hz ls hl
  have hown : s.vm.findClass RX9 = some m.cls := hown
  have hl : lv_has ls 4 [(0, .ref a0), (1, .int a1)] := hl
  have hS : va_S (qA b0) s.heap s.heap [] := va_S.rf
  obtain ⟨Q, hQ⟩ : ∃ Q, Q = MQ below (va_Qi (fun (r' : Int32) (u : qH) => r' = r ∧ u = Xr) (fun u t => qO D kz b0 sz u t) (qA b0)) args s 0 0 (qA b0) := ⟨_, rfl⟩
  rw [← hQ]
  unfold fX9_drift at hf
  obtain ⟨hthis, hf⟩ := qIs_spec hf
  refine lv_aload_n hx hb dX9_drift_0 rfl (lv_at hl 0 rfl) ?_
  refine lv_iload_n hx hb dX9_drift_1 rfl (lv_at hl 1 rfl) ?_
  obtain ⟨v1, hc, hf⟩ := q_b hf
  refine q_calli (va_runV (As := [.int a1]) (rest := []) ⟨hx, hb, hml, hown, hT⟩ (mX9_refusalOfMinutes l D kz b0 sz F X a0 a1 v1 hc) (cwV 1 hT (q_gV wco_X9_refusalOfMinutes wml_X9_200 wim_X9_refusalOfMinutes wse_X9_refusalOfMinutes win_X9) rfl rfl rfl hdX9_refusalOfMinutes ⟨Nat.le_of_ble_eq_true rfl, Nat.le_of_ble_eq_true rfl⟩) (q_preV vqX9 (fX9_refusalOfMinutes_is hc) hR hK hz) rfl rfl hl.1 rfl (lv_room (Nat.le_of_ble_eq_true rfl)) dX9_drift_2 ⟨Nat.le_of_ble_eq_true rfl, Nat.le_of_ble_eq_true rfl⟩) hS (fun H locs hR hS hz => ?_)
  refine lv_istore_n (lv' := [(2, .int v1), (0, .ref a0), (1, .int a1)]) hx hb dX9_drift_5 rfl hl (by decide) rfl (fun ls hl => ?_)
  refine lv_iload_n hx hb dX9_drift_6 rfl (lv_at hl 0 rfl) ?_
  refine lv_if_eq (tgt := 12) hx hb dX9_drift_7 (by decide) (fun hc => ?_) (fun hc => ?_)
  · have hf := q_t hf hc
    refine lv_aload_n hx hb dX9_drift_12 rfl (lv_at hl 1 rfl) ?_
    refine q_gR hx hb hT hown hK hR iqX9 vqX9 8 (by decide) (hT _ wfl_X9_54) hf dX9_drift_13 (fun v2 hf => ?_)
    refine lv_aload_n hx hb dX9_drift_16 rfl (lv_at hl 1 rfl) ?_
    refine q_gR hx hb hT hown hK hR iqX9 vqX9 7 (by decide) (hT _ wfl_X9_43) hf dX9_drift_17 (fun v3 hf => ?_)
    obtain ⟨X4, hc, hf⟩ := q_b hf
    refine q_callv (va_runV (As := [.ref v3]) (rest := []) ⟨hx, hb, hml, hown, hT⟩ (mX5_push l D kz b0 sz F X v2 v3 X4 hc) (cwV 1 hT (q_gV wco_X5_push wml_X9_189 wim_X5_push wse_X5_push win_X5) rfl rfl rfl hdX5_push ⟨Nat.le_of_ble_eq_true rfl, Nat.le_of_ble_eq_true rfl⟩) (q_preV vqX5 (fX5_push_is hc) hR hK hz) rfl rfl hl.1 rfl (lv_room (Nat.le_of_ble_eq_true rfl)) dX9_drift_20 ⟨Nat.le_of_ble_eq_true rfl, Nat.le_of_ble_eq_true rfl⟩) hS (fun H locs hR hS hz => ?_)
    refine lv_iconst (v := (0 : Int32)) hx hb dX9_drift_23 (by decide) ?_
    refine lv_istore_n (lv' := [(3, .int (0 : Int32)), (2, .int v1), (0, .ref a0), (1, .int a1)]) hx hb dX9_drift_24 rfl hl (by decide) rfl (fun ls hl => ?_)
    obtain ⟨X13, ho, hf⟩ := q_b hf
    have hL : ∀ (n : Nat) (v5 : Int32) (X6 : qH) (out : qH), fX9_drift_L25 F a0 a1 n v5 X6 = some out → (∀ (X13 : qH), out = X13 → ∀ (H : Heap) (locs : List Loc) (ls : Array Slot), qR D kz b0 X13 H → va_S (qA b0) s.heap H locs → H.size = sz → lv_has ls 4 [(0, .ref a0)] → W p l e rmX9_drift s m args below meth c H locs 0 0 Q (F0 m 53 ls [])) → ∀ (H : Heap) (locs : List Loc) (ls : Array Slot), qR D kz b0 X6 H → va_S (qA b0) s.heap H locs → H.size = sz → lv_has ls 4 [(0, .ref a0), (1, .int a1), (3, .int v5)] → W p l e rmX9_drift s m args below meth c H locs 0 0 Q (F0 m 25 ls []) := by
      intro n9
      induction n9 with
      | zero =>
        intro v5 X6 out hf
        exact absurd (show none = some out from hf) (by simp)
      | succ n9 ih0 =>
        intro v5 X6 out hf hex H locs ls hR hS hz hl
        have hf : fX9_drift_L25_B F a0 a1 (fX9_drift_L25 F a0 a1 n9) v5 X6 = some out := hf
        unfold fX9_drift_L25_B at hf
        refine lv_iload_n hx hb dX9_drift_25 rfl (lv_at hl 2 rfl) ?_
        refine lv_iload_n hx hb dX9_drift_26 rfl (lv_at hl 1 rfl) ?_
        refine lv_icmp_ge (tgt := 53) hx hb dX9_drift_27 (by decide) (fun hc => ?_) (fun hc => ?_)
        · have hf := q_t hf hc
          exact hex _ (Option.some.inj hf).symm _ _ _ hR hS hz (lv_sub hl [0] rfl)
        · have hf := q_f hf hc
          refine lv_aload_n hx hb dX9_drift_30 rfl (lv_at hl 0 rfl) ?_
          obtain ⟨X7, hc, hf⟩ := q_b hf
          refine q_callv (va_runV (As := []) (rest := []) ⟨hx, hb, hml, hown, hT⟩ (mX9_changeWeather l D kz b0 sz F X6 a0 X7 hc) (cwV 0 hT (q_gV wco_X9_changeWeather wml_X9_203 wim_X9_changeWeather wse_X9_changeWeather win_X9) rfl rfl rfl hdX9_changeWeather ⟨Nat.le_of_ble_eq_true rfl, Nat.le_of_ble_eq_true rfl⟩) (q_preV vqX9 (fX9_changeWeather_is hc) hR hK hz) rfl rfl hl.1 rfl (lv_room (Nat.le_of_ble_eq_true rfl)) dX9_drift_31 ⟨Nat.le_of_ble_eq_true rfl, Nat.le_of_ble_eq_true rfl⟩) hS (fun H locs hR hS hz => ?_)
          refine lv_aload_n hx hb dX9_drift_34 rfl (lv_at hl 0 rfl) ?_
          refine q_gR hx hb hT hown hK hR iqX9 vqX9 7 (by decide) (hT _ wfl_X9_43) hf dX9_drift_35 (fun v8 hf => ?_)
          refine lv_dup hx hb dX9_drift_38 rfl ?_
          refine q_gI hx hb hT hown hK hR iqX3 vqX3 0 (by decide) (hT _ wfl_X9_127) hf dX9_drift_39 (fun v9 hf => ?_)
          refine lv_iconst (v := (1 : Int32)) hx hb dX9_drift_42 (by decide) ?_
          refine lv_iadd hx hb dX9_drift_43 ?_
          refine lv_topi (fun v10 ev10 => ?_)
          have hf := q_lt ev10 hf
          refine q_pI hx hb hT hown hK hR hS hz iqX3 vqX3 tyX3_ok nmX3 0 (by decide) (hT _ wfl_X9_127) rfl rfl hf dX9_drift_44 (fun X11 hf H locs hR hS hz => ?_)
          obtain ⟨v12, ev12⟩ : ∃ y : Int32, y = (v5 + (1 : Int32)) := ⟨_, rfl⟩
          have hf := q_lt ev12 hf
          refine lv_iinc (v := v12) (lv' := [(3, .int v12), (0, .ref a0), (1, .int a1)]) hx hb dX9_drift_47 hl (k := 2) rfl (by rw [ev12]; rfl) (by decide) rfl (fun ls hl => ?_)
          refine lv_goto (tgt := 25) hx hb dX9_drift_50 (by decide) ?_
          exact ih0 _ _ out hf hex _ _ _ hR hS hz (lv_sub hl [1, 2, 0] rfl)
    refine hL F _ _ _ ho (fun z0 h9 => ?_) _ _ _ hR hS hz (lv_sub hl [2, 3, 0] rfl)
    cases h9
    intro H locs ls hR hS hz hl
    refine lv_aload_n hx hb dX9_drift_53 rfl (lv_at hl 0 rfl) ?_
    refine q_gR hx hb hT hown hK hR iqX9 vqX9 7 (by decide) (hT _ wfl_X9_43) hf dX9_drift_54 (fun v14 hf => ?_)
    refine q_gI hx hb hT hown hK hR iqX3 vqX3 0 (by decide) (hT _ wfl_X9_127) hf dX9_drift_57 (fun v15 hf => ?_)
    subst hQ
    obtain ⟨h8, h9⟩ := Prod.mk.inj (Option.some.inj hf)
    exact q_iret hx hb hr hlocks hR hS hz h8 h9 dX9_drift_60
  · have hf := q_f hf hc
    refine lv_iload_n hx hb dX9_drift_10 rfl (lv_at hl 0 rfl) ?_
    subst hQ
    obtain ⟨h8, h9⟩ := Prod.mk.inj (Option.some.inj hf)
    exact q_iret hx hb hr hlocks hR hS hz h8 h9 dX9_drift_11
/-! X9_undo -/
def fX9_undo (F : Nat) (X : qH) (a0 : Nat) : Option (Int32 × qH) :=
qIs 8 X a0 <|
(qgR X 8 a0 8).bind fun v1 =>
(qgI X 5 v1 2).bind fun v2 =>
if v2 = (0 : Int32) then (some ((-1000000003 : Int32), X))
else ((qgR X 8 a0 8).bind fun v3 =>
(qgR X 8 a0 7).bind fun v4 =>
(fX5_pop F X v3 v4).bind fun X5 =>
(qgR X5 8 a0 8).bind fun v6 =>
(qgI X5 5 v6 2).bind fun v7 =>
some (v7, X5))
abbrev rmX9_undo : Room := { frames := 3, cells := 0, slots := 0, locals := 65 }
theorem fX9_undo_is {F : Nat} {X : qH} {a0 : Nat} {r9 : Int32 × qH} (h : fX9_undo F X a0 = some r9) : ∃ fs, X a0 = some (.inr (8, fs)) := (qIs_spec h).1
theorem hdX9_undo : yX9_undo.cls = RX9 ∧ yX9_undo.cls ≠ "java/lang/invoke/MethodHandle" ∧ yX9_undo.cls ≠ "java/lang/invoke/VarHandle" ∧ (parseMethodDescriptor yX9_undo.desc).map (fun d => d.parameters.length) = some 0 := by decide +kernel
set_option maxHeartbeats 4000000 in
set_option maxRecDepth 100000 in
theorem mX9_undo (l : Launch) (D : va_G) (kz : Nat → Nat) (b0 sz F : Nat) (X : qH) (a0 : Nat) (r : Int32) (Xr : qH) (hf : fX9_undo F X a0 = some (r, Xr)) : Met l yX9_undo (qws yX9_undo cX9_undo 1 (some .int)) rmX9_undo (va_Pc [.ref a0] (qU D kz b0 sz X)) (va_Qi (fun (r' : Int32) (u : qH) => r' = r ∧ u = Xr) (fun u t => qO D kz b0 sz u t) (qA b0)) 0 0 (qA b0) := by
  refine q_start (by decide) (Nat.le_of_ble_eq_true rfl) ?_
  intro p e s m args below meth c hx hb hr hlocks hnm hml hown hT hR hK hz ls hl
  have hown : s.vm.findClass RX9 = some m.cls := hown
  have hl : lv_has ls 1 [(0, .ref a0)] := hl
  have hS : va_S (qA b0) s.heap s.heap [] := va_S.rf
  obtain ⟨Q, hQ⟩ : ∃ Q, Q = MQ below (va_Qi (fun (r' : Int32) (u : qH) => r' = r ∧ u = Xr) (fun u t => qO D kz b0 sz u t) (qA b0)) args s 0 0 (qA b0) := ⟨_, rfl⟩
  rw [← hQ]
  unfold fX9_undo at hf
  obtain ⟨hthis, hf⟩ := qIs_spec hf
  refine lv_aload_n hx hb dX9_undo_0 rfl (lv_at hl 0 rfl) ?_
  refine q_gR hx hb hT hown hK hR iqX9 vqX9 8 (by decide) (hT _ wfl_X9_54) hf dX9_undo_1 (fun v1 hf => ?_)
  refine q_gI hx hb hT hown hK hR iqX5 vqX5 2 (by decide) (hT _ wfl_X9_143) hf dX9_undo_4 (fun v2 hf => ?_)
  refine lv_if_ne (tgt := 13) hx hb dX9_undo_7 (by decide) (fun hc => ?_) (fun hc => ?_)
  · have hf := q_f hf hc
    refine lv_aload_n hx hb dX9_undo_13 rfl (lv_at hl 0 rfl) ?_
    refine q_gR hx hb hT hown hK hR iqX9 vqX9 8 (by decide) (hT _ wfl_X9_54) hf dX9_undo_14 (fun v3 hf => ?_)
    refine lv_aload_n hx hb dX9_undo_17 rfl (lv_at hl 0 rfl) ?_
    refine q_gR hx hb hT hown hK hR iqX9 vqX9 7 (by decide) (hT _ wfl_X9_43) hf dX9_undo_18 (fun v4 hf => ?_)
    obtain ⟨X5, hc, hf⟩ := q_b hf
    refine q_callv (va_runV (As := [.ref v4]) (rest := []) ⟨hx, hb, hml, hown, hT⟩ (mX5_pop l D kz b0 sz F X v3 v4 X5 hc) (cwV 1 hT (q_gV wco_X5_pop wml_X9_206 wim_X5_pop wse_X5_pop win_X5) rfl rfl rfl hdX5_pop ⟨Nat.le_of_ble_eq_true rfl, Nat.le_of_ble_eq_true rfl⟩) (q_preV vqX5 (fX5_pop_is hc) hR hK hz) rfl rfl hl.1 rfl (lv_room (Nat.le_of_ble_eq_true rfl)) dX9_undo_21 ⟨Nat.le_of_ble_eq_true rfl, Nat.le_of_ble_eq_true rfl⟩) hS (fun H locs hR hS hz => ?_)
    refine lv_aload_n hx hb dX9_undo_24 rfl (lv_at hl 0 rfl) ?_
    refine q_gR hx hb hT hown hK hR iqX9 vqX9 8 (by decide) (hT _ wfl_X9_54) hf dX9_undo_25 (fun v6 hf => ?_)
    refine q_gI hx hb hT hown hK hR iqX5 vqX5 2 (by decide) (hT _ wfl_X9_143) hf dX9_undo_28 (fun v7 hf => ?_)
    subst hQ
    obtain ⟨h8, h9⟩ := Prod.mk.inj (Option.some.inj hf)
    exact q_iret hx hb hr hlocks hR hS hz h8 h9 dX9_undo_31
  · have hf := q_t hf hc
    refine lv_ldc (v := (-1000000003 : Int32)) hx hb hown (hT _ wk_X9_188) dX9_undo_10 ?_
    subst hQ
    obtain ⟨h8, h9⟩ := Prod.mk.inj (Option.some.inj hf)
    exact q_iret hx hb hr hlocks hR hS hz h8 h9 dX9_undo_12
/-! X9_order -/
def fX9_order (F : Nat) (X : qH) (a0 : Nat) (a1 : Int32) (a2 : Int32) : Option (Int32 × qH) :=
qIs 8 X a0 <|
(qgR X 8 a0 3).bind fun v1 =>
(fX0_hasAll F X v1 a1).bind fun v2 =>
if v2 = (0 : Int32) then (some ((-1000000001 : Int32), X))
else ((fJ6_bitCount_0f7a4 F X a1).bind fun v3 =>
if v3 ≤ (6 : Int32) then (if a2 < (0 : Int32) then (some ((-1 : Int32), X))
else (if v3 ≤ a2 then (some ((-1 : Int32), X))
else ((qgR X 8 a0 12).bind fun v4 =>
(qgR X 8 a0 3).bind fun v5 =>
(qgR X 8 a0 7).bind fun v6 =>
qb2 (fX7_find F X v4 v5 v6 a1) fun v7 X8 =>
if v7 = (0 : Int32) then (some ((-1 : Int32), X8))
else ((qgR X8 8 a0 12).bind fun v9 =>
(qgR X8 7 v9 0).bind fun v10 =>
(qaI X8 0 v10 a2).bind fun v11 =>
some (v11, X8)))))
else (some ((-1000000002 : Int32), X)))
abbrev rmX9_order : Room := { frames := 15, cells := 0, slots := 0, locals := 362 }
theorem fX9_order_is {F : Nat} {X : qH} {a0 : Nat} {a1 : Int32} {a2 : Int32} {r9 : Int32 × qH} (h : fX9_order F X a0 a1 a2 = some r9) : ∃ fs, X a0 = some (.inr (8, fs)) := (qIs_spec h).1
theorem hdX9_order : yX9_order.cls = RX9 ∧ yX9_order.cls ≠ "java/lang/invoke/MethodHandle" ∧ yX9_order.cls ≠ "java/lang/invoke/VarHandle" ∧ (parseMethodDescriptor yX9_order.desc).map (fun d => d.parameters.length) = some 2 := by decide +kernel
set_option maxHeartbeats 4000000 in
set_option maxRecDepth 100000 in
theorem mX9_order (l : Launch) (D : va_G) (kz : Nat → Nat) (b0 sz F : Nat) (X : qH) (a0 : Nat) (a1 : Int32) (a2 : Int32) (r : Int32) (Xr : qH) (hf : fX9_order F X a0 a1 a2 = some (r, Xr)) : Met l yX9_order (qws yX9_order cX9_order 4 (some .int)) rmX9_order (va_Pc [.ref a0, .int a1, .int a2] (qU D kz b0 sz X)) (va_Qi (fun (r' : Int32) (u : qH) => r' = r ∧ u = Xr) (fun u t => qO D kz b0 sz u t) (qA b0)) 0 0 (qA b0) := by
  refine q_start (by decide) (Nat.le_of_ble_eq_true rfl) ?_
  intro p e s m args below meth c hx hb hr hlocks hnm hml hown hT hR hK hz ls hl
  have hown : s.vm.findClass RX9 = some m.cls := hown
  have hl : lv_has ls 4 [(0, .ref a0), (1, .int a1), (2, .int a2)] := hl
  have hS : va_S (qA b0) s.heap s.heap [] := va_S.rf
  obtain ⟨Q, hQ⟩ : ∃ Q, Q = MQ below (va_Qi (fun (r' : Int32) (u : qH) => r' = r ∧ u = Xr) (fun u t => qO D kz b0 sz u t) (qA b0)) args s 0 0 (qA b0) := ⟨_, rfl⟩
  rw [← hQ]
  unfold fX9_order at hf
  obtain ⟨hthis, hf⟩ := qIs_spec hf
  refine lv_aload_n hx hb dX9_order_0 rfl (lv_at hl 0 rfl) ?_
  refine q_gR hx hb hT hown hK hR iqX9 vqX9 3 (by decide) (hT _ wfl_X9_23) hf dX9_order_1 (fun v1 hf => ?_)
  refine lv_iload_n hx hb dX9_order_4 rfl (lv_at hl 1 rfl) ?_
  obtain ⟨v2, hc, hf⟩ := q_b hf
  refine q_calli (va_runV (As := [.int a1]) (rest := []) ⟨hx, hb, hml, hown, hT⟩ (mX0_hasAll l D kz b0 sz F X v1 a1 v2 hc) (cwV 1 hT (q_gV wco_X0_hasAll wml_X9_209 wim_X0_hasAll wse_X0_hasAll win_X0) rfl rfl rfl hdX0_hasAll ⟨Nat.le_of_ble_eq_true rfl, Nat.le_of_ble_eq_true rfl⟩) (q_preV vqX0 (fX0_hasAll_is hc) hR hK hz) rfl rfl hl.1 rfl (lv_room (Nat.le_of_ble_eq_true rfl)) dX9_order_5 ⟨Nat.le_of_ble_eq_true rfl, Nat.le_of_ble_eq_true rfl⟩) hS (fun H locs hR hS hz => ?_)
  refine lv_if_ne (tgt := 14) hx hb dX9_order_8 (by decide) (fun hc => ?_) (fun hc => ?_)
  · have hf := q_f hf hc
    refine lv_iload_n hx hb dX9_order_14 rfl (lv_at hl 1 rfl) ?_
    obtain ⟨v3, hc, hf⟩ := q_b hf
    refine q_calli (va_runS (As := [.int a1]) (rest := []) ⟨hx, hb, hml, hown, hT⟩ (mJ6_bitCount_0f7a4 l D kz b0 sz F X a1 v3 hc) (va_cwS 1 hT (q_gS wco_J6_bitCount_0f7a4 wml_X9_133 wst_J6_bitCount_0f7a4 win_J6) rfl rfl rfl hdJ6_bitCount_0f7a4 ⟨Nat.le_of_ble_eq_true rfl, Nat.le_of_ble_eq_true rfl⟩) (q_preS hR hK hz) rfl rfl hl.1 rfl (lv_room (Nat.le_of_ble_eq_true rfl)) dX9_order_15 ⟨Nat.le_of_ble_eq_true rfl, Nat.le_of_ble_eq_true rfl⟩) hS (fun H locs hR hS hz => ?_)
    refine lv_istore_n (lv' := [(3, .int v3), (0, .ref a0), (1, .int a1), (2, .int a2)]) hx hb dX9_order_18 rfl hl (by decide) rfl (fun ls hl => ?_)
    refine lv_iload_n hx hb dX9_order_19 rfl (lv_at hl 0 rfl) ?_
    refine lv_bipush (v := (6 : Int32)) hx hb dX9_order_20 (by decide) ?_
    refine lv_icmp_le (tgt := 28) hx hb dX9_order_22 (by decide) (fun hc => ?_) (fun hc => ?_)
    · have hf := q_t hf hc
      refine lv_iload_n hx hb dX9_order_28 rfl (lv_at hl 3 rfl) ?_
      refine lv_if_lt (tgt := 56) hx hb dX9_order_29 (by decide) (fun hc => ?_) (fun hc => ?_)
      · have hf := q_t hf hc
        refine lv_iconst (v := (-1 : Int32)) hx hb dX9_order_56 (by decide) ?_
        subst hQ
        obtain ⟨h8, h9⟩ := Prod.mk.inj (Option.some.inj hf)
        exact q_iret hx hb hr hlocks hR hS hz h8 h9 dX9_order_57
      · have hf := q_f hf hc
        refine lv_iload_n hx hb dX9_order_32 rfl (lv_at hl 3 rfl) ?_
        refine lv_iload_n hx hb dX9_order_33 rfl (lv_at hl 0 rfl) ?_
        refine lv_icmp_ge (tgt := 56) hx hb dX9_order_34 (by decide) (fun hc => ?_) (fun hc => ?_)
        · have hf := q_t hf hc
          refine lv_iconst (v := (-1 : Int32)) hx hb dX9_order_56 (by decide) ?_
          subst hQ
          obtain ⟨h8, h9⟩ := Prod.mk.inj (Option.some.inj hf)
          exact q_iret hx hb hr hlocks hR hS hz h8 h9 dX9_order_57
        · have hf := q_f hf hc
          refine lv_aload_n hx hb dX9_order_37 rfl (lv_at hl 1 rfl) ?_
          refine q_gR hx hb hT hown hK hR iqX9 vqX9 12 (by decide) (hT _ wfl_X9_72) hf dX9_order_38 (fun v4 hf => ?_)
          refine lv_aload_n hx hb dX9_order_41 rfl (lv_at hl 1 rfl) ?_
          refine q_gR hx hb hT hown hK hR iqX9 vqX9 3 (by decide) (hT _ wfl_X9_23) hf dX9_order_42 (fun v5 hf => ?_)
          refine lv_aload_n hx hb dX9_order_45 rfl (lv_at hl 1 rfl) ?_
          refine q_gR hx hb hT hown hK hR iqX9 vqX9 7 (by decide) (hT _ wfl_X9_43) hf dX9_order_46 (fun v6 hf => ?_)
          refine lv_iload_n hx hb dX9_order_49 rfl (lv_at hl 2 rfl) ?_
          obtain ⟨v7, X8, hc, hf⟩ := q_b2 hf
          refine q_calli (va_runV (As := [.ref v5, .ref v6, .int a1]) (rest := []) ⟨hx, hb, hml, hown, hT⟩ (mX7_find l D kz b0 sz F X v4 v5 v6 a1 v7 X8 hc) (cwV 3 hT (q_gV wco_X7_find wml_X9_212 wim_X7_find wse_X7_find win_X7) rfl rfl rfl hdX7_find ⟨Nat.le_of_ble_eq_true rfl, Nat.le_of_ble_eq_true rfl⟩) (q_preV vqX7 (fX7_find_is hc) hR hK hz) rfl rfl hl.1 rfl (lv_room (Nat.le_of_ble_eq_true rfl)) dX9_order_50 ⟨Nat.le_of_ble_eq_true rfl, Nat.le_of_ble_eq_true rfl⟩) hS (fun H locs hR hS hz => ?_)
          refine lv_if_ne (tgt := 58) hx hb dX9_order_53 (by decide) (fun hc => ?_) (fun hc => ?_)
          · have hf := q_f hf hc
            refine lv_aload_n hx hb dX9_order_58 rfl (lv_at hl 1 rfl) ?_
            refine q_gR hx hb hT hown hK hR iqX9 vqX9 12 (by decide) (hT _ wfl_X9_72) hf dX9_order_59 (fun v9 hf => ?_)
            refine q_gR hx hb hT hown hK hR iqX7 vqX7 0 (by decide) (hT _ wfl_X9_216) hf dX9_order_62 (fun v10 hf => ?_)
            refine lv_iload_n hx hb dX9_order_65 rfl (lv_at hl 3 rfl) ?_
            refine q_iald hx hb hK hR hf dX9_order_66 (fun v11 hf => ?_)
            subst hQ
            obtain ⟨h8, h9⟩ := Prod.mk.inj (Option.some.inj hf)
            exact q_iret hx hb hr hlocks hR hS hz h8 h9 dX9_order_67
          · have hf := q_t hf hc
            refine lv_iconst (v := (-1 : Int32)) hx hb dX9_order_56 (by decide) ?_
            subst hQ
            obtain ⟨h8, h9⟩ := Prod.mk.inj (Option.some.inj hf)
            exact q_iret hx hb hr hlocks hR hS hz h8 h9 dX9_order_57
    · have hf := q_f hf hc
      refine lv_ldc (v := (-1000000002 : Int32)) hx hb hown (hT _ wk_X9_97) dX9_order_25 ?_
      subst hQ
      obtain ⟨h8, h9⟩ := Prod.mk.inj (Option.some.inj hf)
      exact q_iret hx hb hr hlocks hR hS hz h8 h9 dX9_order_27
  · have hf := q_t hf hc
    refine lv_ldc (v := (-1000000001 : Int32)) hx hb hown (hT _ wk_X9_148) dX9_order_11 ?_
    subst hQ
    obtain ⟨h8, h9⟩ := Prod.mk.inj (Option.some.inj hf)
    exact q_iret hx hb hr hlocks hR hS hz h8 h9 dX9_order_13
/-! X9_signers -/
def fX9_signers_L18_B (F : Nat) (X : qH) (a0 : Nat) (a1 : Int32) (self0 : Int32 → Int32 → Option (Int32)) (v3 : Int32) (v4 : Int32) : Option (Int32) :=
(qgR X 8 a0 3).bind fun v5 =>
(qgI X 0 v5 5).bind fun v6 =>
if v6 ≤ v4 then (some v3)
else ((qgR X 8 a0 3).bind fun v7 =>
(fX0_readAs F X v7 v4).bind fun v8 =>
(if v8 = a1 then (qlt (v3 ||| ((1 : Int32) <<< (v4 &&& 31))) fun v11 =>
some v11)
else (some v3) : Option Int32).bind fun v9 =>
qlt (v4 + (1 : Int32)) fun v10 =>
self0 v9 v10)
def fX9_signers_L18 (F : Nat) (X : qH) (a0 : Nat) (a1 : Int32) : Nat → Int32 → Int32 → Option (Int32)
  | 0, _, _ => none
  | n + 1, v3, v4 => fX9_signers_L18_B F X a0 a1 (fX9_signers_L18 F X a0 a1 n) v3 v4
def fX9_signers (F : Nat) (X : qH) (a0 : Nat) (a1 : Int32) : Option (Int32) :=
qIs 8 X a0 <|
(qgR X 8 a0 3).bind fun v1 =>
(fX0_has F X v1 a1).bind fun v2 =>
if v2 = (0 : Int32) then (some (-1000000001 : Int32))
else ((fX9_signers_L18 F X a0 a1 F (0 : Int32) (0 : Int32)).bind fun v12 =>
some v12)
abbrev rmX9_signers : Room := { frames := 1, cells := 0, slots := 0, locals := 23 }
theorem fX9_signers_is {F : Nat} {X : qH} {a0 : Nat} {a1 : Int32} {r9 : Int32} (h : fX9_signers F X a0 a1 = some r9) : ∃ fs, X a0 = some (.inr (8, fs)) := (qIs_spec h).1
theorem hdX9_signers : yX9_signers.cls = RX9 ∧ yX9_signers.cls ≠ "java/lang/invoke/MethodHandle" ∧ yX9_signers.cls ≠ "java/lang/invoke/VarHandle" ∧ (parseMethodDescriptor yX9_signers.desc).map (fun d => d.parameters.length) = some 1 := by decide +kernel
set_option maxHeartbeats 4000000 in
set_option maxRecDepth 100000 in
theorem mX9_signers (l : Launch) (D : va_G) (kz : Nat → Nat) (b0 sz F : Nat) (X : qH) (a0 : Nat) (a1 : Int32) (r : Int32) (hf : fX9_signers F X a0 a1 = some r) : Met l yX9_signers (qws yX9_signers cX9_signers 4 (some .int)) rmX9_signers (va_Pc [.ref a0, .int a1] (qU D kz b0 sz X)) (va_Qi (fun (r' : Int32) (u : qH) => r' = r ∧ u = X) (fun u t => qO D kz b0 sz u t) (qA b0)) 0 0 (qA b0) := by
  refine q_start (by decide) (Nat.le_of_ble_eq_true rfl) ?_
  intro p e s m args below meth c hx hb hr hlocks hnm hml hown hT hR hK hz ls hl
  have hown : s.vm.findClass RX9 = some m.cls := hown
  have hl : lv_has ls 4 [(0, .ref a0), (1, .int a1)] := hl
  have hS : va_S (qA b0) s.heap s.heap [] := va_S.rf
  obtain ⟨Q, hQ⟩ : ∃ Q, Q = MQ below (va_Qi (fun (r' : Int32) (u : qH) => r' = r ∧ u = X) (fun u t => qO D kz b0 sz u t) (qA b0)) args s 0 0 (qA b0) := ⟨_, rfl⟩
  rw [← hQ]
  unfold fX9_signers at hf
  obtain ⟨hthis, hf⟩ := qIs_spec hf
  refine lv_aload_n hx hb dX9_signers_0 rfl (lv_at hl 0 rfl) ?_
  refine q_gR hx hb hT hown hK hR iqX9 vqX9 3 (by decide) (hT _ wfl_X9_23) hf dX9_signers_1 (fun v1 hf => ?_)
  refine lv_iload_n hx hb dX9_signers_4 rfl (lv_at hl 1 rfl) ?_
  obtain ⟨v2, hc, hf⟩ := q_b hf
  refine q_calli (va_runV (As := [.int a1]) (rest := []) ⟨hx, hb, hml, hown, hT⟩ (mX0_has l D kz b0 sz F X v1 a1 v2 hc) (cwV 1 hT (q_gV wco_X0_has wml_X9_144 wim_X0_has wse_X0_has win_X0) rfl rfl rfl hdX0_has ⟨Nat.le_of_ble_eq_true rfl, Nat.le_of_ble_eq_true rfl⟩) (q_preV vqX0 (fX0_has_is hc) hR hK hz) rfl rfl hl.1 rfl (lv_room (Nat.le_of_ble_eq_true rfl)) dX9_signers_5 ⟨Nat.le_of_ble_eq_true rfl, Nat.le_of_ble_eq_true rfl⟩) hS (fun H locs hR hS hz => ?_)
  refine lv_if_ne (tgt := 14) hx hb dX9_signers_8 (by decide) (fun hc => ?_) (fun hc => ?_)
  · have hf := q_f hf hc
    refine lv_iconst (v := (0 : Int32)) hx hb dX9_signers_14 (by decide) ?_
    refine lv_istore_n (lv' := [(2, .int (0 : Int32)), (0, .ref a0), (1, .int a1)]) hx hb dX9_signers_15 rfl hl (by decide) rfl (fun ls hl => ?_)
    refine lv_iconst (v := (0 : Int32)) hx hb dX9_signers_16 (by decide) ?_
    refine lv_istore_n (lv' := [(3, .int (0 : Int32)), (2, .int (0 : Int32)), (0, .ref a0), (1, .int a1)]) hx hb dX9_signers_17 rfl hl (by decide) rfl (fun ls hl => ?_)
    obtain ⟨v12, ho, hf⟩ := q_b hf
    have hL : ∀ (n : Nat) (v3 : Int32) (v4 : Int32) (out : Int32), fX9_signers_L18 F X a0 a1 n v3 v4 = some out → (∀ (v12 : Int32), out = v12 → ∀ (H : Heap) (locs : List Loc) (ls : Array Slot), qR D kz b0 X H → va_S (qA b0) s.heap H locs → H.size = sz → lv_has ls 4 [(2, .int v12)] → W p l e rmX9_signers s m args below meth c H locs 0 0 Q (F0 m 53 ls [])) → ∀ (H : Heap) (locs : List Loc) (ls : Array Slot), qR D kz b0 X H → va_S (qA b0) s.heap H locs → H.size = sz → lv_has ls 4 [(0, .ref a0), (1, .int a1), (2, .int v3), (3, .int v4)] → W p l e rmX9_signers s m args below meth c H locs 0 0 Q (F0 m 18 ls []) := by
      intro n9
      induction n9 with
      | zero =>
        intro v3 v4 out hf
        exact absurd (show none = some out from hf) (by simp)
      | succ n9 ih0 =>
        intro v3 v4 out hf hex H locs ls hR hS hz hl
        have hf : fX9_signers_L18_B F X a0 a1 (fX9_signers_L18 F X a0 a1 n9) v3 v4 = some out := hf
        unfold fX9_signers_L18_B at hf
        refine lv_iload_n hx hb dX9_signers_18 rfl (lv_at hl 3 rfl) ?_
        refine lv_aload_n hx hb dX9_signers_19 rfl (lv_at hl 0 rfl) ?_
        refine q_gR hx hb hT hown hK hR iqX9 vqX9 3 (by decide) (hT _ wfl_X9_23) hf dX9_signers_20 (fun v5 hf => ?_)
        refine q_gI hx hb hT hown hK hR iqX0 vqX0 5 (by decide) (hT _ wfl_X9_111) hf dX9_signers_23 (fun v6 hf => ?_)
        refine lv_icmp_ge (tgt := 53) hx hb dX9_signers_26 (by decide) (fun hc => ?_) (fun hc => ?_)
        · have hf := q_t hf hc
          exact hex _ (Option.some.inj hf).symm _ _ _ hR hS hz (lv_sub hl [2] rfl)
        · have hf := q_f hf hc
          refine lv_aload_n hx hb dX9_signers_29 rfl (lv_at hl 0 rfl) ?_
          refine q_gR hx hb hT hown hK hR iqX9 vqX9 3 (by decide) (hT _ wfl_X9_23) hf dX9_signers_30 (fun v7 hf => ?_)
          refine lv_iload_n hx hb dX9_signers_33 rfl (lv_at hl 3 rfl) ?_
          obtain ⟨v8, hc, hf⟩ := q_b hf
          refine q_calli (va_runV (As := [.int v4]) (rest := []) ⟨hx, hb, hml, hown, hT⟩ (mX0_readAs l D kz b0 sz F X v7 v4 v8 hc) (cwV 1 hT (q_gV wco_X0_readAs wml_X9_171 wim_X0_readAs wse_X0_readAs win_X0) rfl rfl rfl hdX0_readAs ⟨Nat.le_of_ble_eq_true rfl, Nat.le_of_ble_eq_true rfl⟩) (q_preV vqX0 (fX0_readAs_is hc) hR hK hz) rfl rfl hl.1 rfl (lv_room (Nat.le_of_ble_eq_true rfl)) dX9_signers_34 ⟨Nat.le_of_ble_eq_true rfl, Nat.le_of_ble_eq_true rfl⟩) hS (fun H locs hR hS hz => ?_)
          refine lv_iload_n hx hb dX9_signers_37 rfl (lv_at hl 1 rfl) ?_
          obtain ⟨v9, hp, hf⟩ := q_b hf
          have hJ : ∀ (H : Heap) (locs : List Loc) (ls : Array Slot), qR D kz b0 X H → va_S (qA b0) s.heap H locs → H.size = sz → lv_has ls 4 [(0, .ref a0), (1, .int a1), (2, .int v9), (3, .int v4)] → W p l e rmX9_signers s m args below meth c H locs 0 0 Q (F0 m 47 ls []) := by
            intro H locs ls hR hS hz hl
            obtain ⟨v10, ev10⟩ : ∃ y : Int32, y = (v4 + (1 : Int32)) := ⟨_, rfl⟩
            have hf := q_lt ev10 hf
            refine lv_iinc (v := v10) (lv' := [(3, .int v10), (0, .ref a0), (1, .int a1), (2, .int v9)]) hx hb dX9_signers_47 hl (k := 3) rfl (by rw [ev10]; rfl) (by decide) rfl (fun ls hl => ?_)
            refine lv_goto (tgt := 18) hx hb dX9_signers_50 (by decide) ?_
            exact ih0 _ _ out hf hex _ _ _ hR hS hz (lv_sub hl [1, 2, 3, 0] rfl)
          have hf := hp
          refine lv_icmp_ne (tgt := 47) hx hb dX9_signers_38 (by decide) (fun hc => ?_) (fun hc => ?_)
          · have hf := q_f hf hc
            cases hf
            exact hJ _ _ _ hR hS hz (lv_sub hl [0, 1, 2, 3] rfl)
          · have hf := q_t hf hc
            refine lv_iload_n hx hb dX9_signers_41 rfl (lv_at hl 2 rfl) ?_
            refine lv_iconst (v := (1 : Int32)) hx hb dX9_signers_42 (by decide) ?_
            refine lv_iload_n hx hb dX9_signers_43 rfl (lv_at hl 3 rfl) ?_
            refine lv_ishl hx hb dX9_signers_44 ?_
            refine lv_ior hx hb dX9_signers_45 ?_
            refine lv_topi (fun v11 ev11 => ?_)
            have hf := q_lt ev11 hf
            refine lv_istore_n (lv' := [(2, .int v11), (0, .ref a0), (1, .int a1), (3, .int v4)]) hx hb dX9_signers_46 rfl hl (by decide) rfl (fun ls hl => ?_)
            cases hf
            exact hJ _ _ _ hR hS hz (lv_sub hl [1, 2, 0, 3] rfl)
    refine hL F _ _ _ ho (fun z0 h9 => ?_) _ _ _ hR hS hz (lv_sub hl [2, 3, 1, 0] rfl)
    cases h9
    intro H locs ls hR hS hz hl
    refine lv_iload_n hx hb dX9_signers_53 rfl (lv_at hl 0 rfl) ?_
    subst hQ
    exact q_iret hx hb hr hlocks hR hS hz (Option.some.inj hf) rfl dX9_signers_54
  · have hf := q_t hf hc
    refine lv_ldc (v := (-1000000001 : Int32)) hx hb hown (hT _ wk_X9_148) dX9_signers_11 ?_
    subst hQ
    exact q_iret hx hb hr hlocks hR hS hz (Option.some.inj hf) rfl dX9_signers_13
