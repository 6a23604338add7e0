/-! the script, and the law -/
def qsc (L : Nat) (xs : Nat → Int32) (i : Int32) : Option Int32 := if ¬ i < 0 ∧ i.toNatClampNeg < L then some (xs i.toNatClampNeg) else none
theorem qsc_spec {L : Nat} {xs : Nat → Int32} {i v : Int32} (h : qsc L xs i = some v) : vp_in i L ∧ xs i.toNatClampNeg = v := by
  unfold qsc at h
  split at h
  · rename_i hc; exact ⟨q_vpin hc.1 hc.2, Option.some.inj h⟩
  · cases h
theorem q_sld {p : Program} {l : Launch} {e : Env} {R : Room} {s : State} {m : MethodId} {args : Array Value} {below : List Frame} {meth : Method} {c : Code} {H : Heap} {locs : List Loc} {cells slots : Nat} {Q : State → Prop} {cc : ByteArray} {pc : Nat} {ls : Array Slot} {rest : List Value} {A : Nat → Prop} {H0 : Heap} {b L : Nat} {xs : Nat → Int32} {ρ : Type} {res : ρ} (hx : p.tables.exec = Jvm.exec) (hb : c.code = cc) (hX : va_X b L xs s H0) (hbl : b < H0.size) (hbA : ¬ A b) (hS : va_S A H0 H locs) {i : Int32} {K : Int32 → Option ρ} (hf : (qsc L xs i).bind K = some res) (hdg : decode cc pc = .ok (.iaload, 1))
    (kk : ∀ v : Int32, K v = some res → W p l e R s m args below meth c H locs cells slots Q (F0 m (pc + 1) ls (.int v :: rest))) : W p l e R s m args below meth c H locs cells slots Q (F0 m pc ls (.int i :: .ref b :: rest)) := by
  obtain ⟨v, hv, hf⟩ := q_b hf
  obtain ⟨hin, rfl⟩ := qsc_spec hv
  exact va_sld hx hb hX hbl hbA hS hin hdg (kk _ hf)
def fL_law_L18_B (F L : Nat) (xs : Nat → Int32) (b sz : Nat) (self0 : Int32 → qH → Option ((Int32) ⊕ (qH))) (v5 : Int32) (X6 : qH) : Option ((Int32) ⊕ (qH)) :=
if ((Int32.ofNat L) - (4 : Int32)) < v5 then (some (.inr X6))
else ((qsc L xs v5).bind fun v7 =>
qlt (v7 &&& (31 : Int32)) fun v8 =>
if v8 = (0 : Int32) then ((qsc L xs (v5 + (1 : Int32))).bind fun v9 =>
qb2 (fX9_feed F X6 sz v9) fun v10 X11 =>
(qsc L xs (v5 + (1 : Int32))).bind fun v12 =>
qb2 (fX10_feed F X11 (sz + 151) v12) fun v13 X14 =>
if v10 = v13 then (qlt (v5 + (4 : Int32)) fun v15 =>
self0 v15 X14)
else (some (.inl (0 : Int32))))
else if v8 = (1 : Int32) then (qb2 (fX9_bay F X6 sz) fun v16 X17 =>
qb2 (fX10_bay F X17 (sz + 151)) fun v18 X19 =>
if v16 = v18 then (qlt (v5 + (4 : Int32)) fun v20 =>
self0 v20 X19)
else (some (.inl (0 : Int32))))
else if v8 = (2 : Int32) then ((fX9_fault F X6 sz).bind fun v21 =>
(fX10_fault F X6 (sz + 151)).bind fun v22 =>
if v21 = v22 then (qlt (v5 + (4 : Int32)) fun v23 =>
self0 v23 X6)
else (some (.inl (0 : Int32))))
else if v8 = (3 : Int32) then ((qsc L xs (v5 + (1 : Int32))).bind fun v24 =>
(fX9_told F X6 sz v24).bind fun v25 =>
(qsc L xs (v5 + (1 : Int32))).bind fun v26 =>
(fX10_told F X6 (sz + 151) v26).bind fun v27 =>
if v25 = v27 then (qlt (v5 + (4 : Int32)) fun v28 =>
self0 v28 X6)
else (some (.inl (0 : Int32))))
else if v8 = (4 : Int32) then ((qsc L xs (v5 + (1 : Int32))).bind fun v29 =>
(qsc L xs (v5 + (2 : Int32))).bind fun v30 =>
(fX9_house F X6 sz v29 v30).bind fun v31 =>
(qsc L xs (v5 + (1 : Int32))).bind fun v32 =>
(qsc L xs (v5 + (2 : Int32))).bind fun v33 =>
(fX10_house F X6 (sz + 151) v32 v33).bind fun v34 =>
if v31 = v34 then (qlt (v5 + (4 : Int32)) fun v35 =>
self0 v35 X6)
else (some (.inl (0 : Int32))))
else if v8 = (5 : Int32) then ((qsc L xs (v5 + (1 : Int32))).bind fun v36 =>
(qsc L xs (v5 + (2 : Int32))).bind fun v37 =>
(fX9_sees F X6 sz v36 v37).bind fun v38 =>
(qsc L xs (v5 + (1 : Int32))).bind fun v39 =>
(qsc L xs (v5 + (2 : Int32))).bind fun v40 =>
(fX10_sees F X6 (sz + 151) v39 v40).bind fun v41 =>
if v38 = v41 then (qlt (v5 + (4 : Int32)) fun v42 =>
self0 v42 X6)
else (some (.inl (0 : Int32))))
else if v8 = (6 : Int32) then ((qsc L xs (v5 + (1 : Int32))).bind fun v43 =>
(qsc L xs (v5 + (2 : Int32))).bind fun v44 =>
(fX9_contract F X6 sz v43 v44).bind fun v45 =>
(qsc L xs (v5 + (1 : Int32))).bind fun v46 =>
(qsc L xs (v5 + (2 : Int32))).bind fun v47 =>
(fX10_contract F X6 (sz + 151) v46 v47).bind fun v48 =>
if v45 = v48 then (qlt (v5 + (4 : Int32)) fun v49 =>
self0 v49 X6)
else (some (.inl (0 : Int32))))
else if v8 = (7 : Int32) then ((qsc L xs (v5 + (1 : Int32))).bind fun v50 =>
qb2 (fX9_light F X6 sz v50) fun v51 X52 =>
(qsc L xs (v5 + (1 : Int32))).bind fun v53 =>
qb2 (fX10_light F X52 (sz + 151) v53) fun v54 X55 =>
if v51 = v54 then (qlt (v5 + (4 : Int32)) fun v56 =>
self0 v56 X55)
else (some (.inl (0 : Int32))))
else if v8 = (8 : Int32) then ((qsc L xs (v5 + (1 : Int32))).bind fun v57 =>
qb2 (fX9_minute F X6 sz v57) fun v58 X59 =>
(qsc L xs (v5 + (1 : Int32))).bind fun v60 =>
qb2 (fX10_minute F X59 (sz + 151) v60) fun v61 X62 =>
if v58 = v61 then (qlt (v5 + (4 : Int32)) fun v63 =>
self0 v63 X62)
else (some (.inl (0 : Int32))))
else if v8 = (9 : Int32) then ((qsc L xs (v5 + (1 : Int32))).bind fun v64 =>
qb2 (fX9_fog F X6 sz v64) fun v65 X66 =>
(qsc L xs (v5 + (1 : Int32))).bind fun v67 =>
qb2 (fX10_fog F X66 (sz + 151) v67) fun v68 X69 =>
if v65 = v68 then (qlt (v5 + (4 : Int32)) fun v70 =>
self0 v70 X69)
else (some (.inl (0 : Int32))))
else if v8 = (10 : Int32) then ((qsc L xs (v5 + (1 : Int32))).bind fun v71 =>
qb2 (fX9_wind F X6 sz v71) fun v72 X73 =>
(qsc L xs (v5 + (1 : Int32))).bind fun v74 =>
qb2 (fX10_wind F X73 (sz + 151) v74) fun v75 X76 =>
if v72 = v75 then (qlt (v5 + (4 : Int32)) fun v77 =>
self0 v77 X76)
else (some (.inl (0 : Int32))))
else if v8 = (11 : Int32) then ((qsc L xs (v5 + (1 : Int32))).bind fun v78 =>
qb2 (fX9_drift F X6 sz v78) fun v79 X80 =>
(qsc L xs (v5 + (1 : Int32))).bind fun v81 =>
qb2 (fX10_drift F X80 (sz + 151) v81) fun v82 X83 =>
if v79 = v82 then (qlt (v5 + (4 : Int32)) fun v84 =>
self0 v84 X83)
else (some (.inl (0 : Int32))))
else if v8 = (12 : Int32) then (qb2 (fX9_undo F X6 sz) fun v85 X86 =>
qb2 (fX10_undo F X86 (sz + 151)) fun v87 X88 =>
if v85 = v87 then (qlt (v5 + (4 : Int32)) fun v89 =>
self0 v89 X88)
else (some (.inl (0 : Int32))))
else if v8 = (13 : Int32) then ((qsc L xs (v5 + (1 : Int32))).bind fun v90 =>
(qsc L xs (v5 + (2 : Int32))).bind fun v91 =>
qb2 (fX9_order F X6 sz v90 v91) fun v92 X93 =>
(qsc L xs (v5 + (1 : Int32))).bind fun v94 =>
(qsc L xs (v5 + (2 : Int32))).bind fun v95 =>
qb2 (fX10_order F X93 (sz + 151) v94 v95) fun v96 X97 =>
if v92 = v96 then (qlt (v5 + (4 : Int32)) fun v98 =>
self0 v98 X97)
else (some (.inl (0 : Int32))))
else if v8 = (14 : Int32) then ((qsc L xs (v5 + (1 : Int32))).bind fun v99 =>
(fX9_signers F X6 sz v99).bind fun v100 =>
(qsc L xs (v5 + (1 : Int32))).bind fun v101 =>
(fX10_signers F X6 (sz + 151) v101).bind fun v102 =>
if v100 = v102 then (qlt (v5 + (4 : Int32)) fun v103 =>
self0 v103 X6)
else (some (.inl (0 : Int32))))
else if v8 = (15 : Int32) then ((qsc L xs (v5 + (1 : Int32))).bind fun v104 =>
(fX9_farShore F X6 sz v104).bind fun v105 =>
(qsc L xs (v5 + (1 : Int32))).bind fun v106 =>
(fX10_farShore F X6 (sz + 151) v106).bind fun v107 =>
if v105 = v107 then (qlt (v5 + (4 : Int32)) fun v108 =>
self0 v108 X6)
else (some (.inl (0 : Int32))))
else if v8 = (16 : Int32) then ((qsc L xs (v5 + (1 : Int32))).bind fun v109 =>
(qsc L xs (v5 + (2 : Int32))).bind fun v110 =>
(fX9_cross F X6 sz v109 v110).bind fun v111 =>
(qsc L xs (v5 + (1 : Int32))).bind fun v112 =>
(qsc L xs (v5 + (2 : Int32))).bind fun v113 =>
(fX10_cross F X6 (sz + 151) v112 v113).bind fun v114 =>
if v111 = v114 then (qlt (v5 + (4 : Int32)) fun v115 =>
self0 v115 X6)
else (some (.inl (0 : Int32))))
else if v8 = (17 : Int32) then ((qsc L xs (v5 + (1 : Int32))).bind fun v116 =>
(fX9_treaty F X6 sz v116).bind fun v117 =>
(qsc L xs (v5 + (1 : Int32))).bind fun v118 =>
(fX10_treaty F X6 (sz + 151) v118).bind fun v119 =>
if v117 = v119 then (qlt (v5 + (4 : Int32)) fun v120 =>
self0 v120 X6)
else (some (.inl (0 : Int32))))
else if v8 = (18 : Int32) then ((qsc L xs (v5 + (1 : Int32))).bind fun v121 =>
(qsc L xs (v5 + (2 : Int32))).bind fun v122 =>
(qsc L xs (v5 + (3 : Int32))).bind fun v123 =>
(fX9_forged F X6 sz v121 v122 v123).bind fun v124 =>
(qsc L xs (v5 + (1 : Int32))).bind fun v125 =>
(qsc L xs (v5 + (2 : Int32))).bind fun v126 =>
(qsc L xs (v5 + (3 : Int32))).bind fun v127 =>
qb2 (fX10_forged F X6 (sz + 151) v125 v126 v127) fun v128 X129 =>
if v124 = v128 then (qlt (v5 + (4 : Int32)) fun v130 =>
self0 v130 X129)
else (some (.inl (0 : Int32))))
else if v8 = (19 : Int32) then ((qsc L xs (v5 + (1 : Int32))).bind fun v131 =>
(fX9_damp F X6 sz v131).bind fun v132 =>
(qsc L xs (v5 + (1 : Int32))).bind fun v133 =>
(fX10_damp F X6 (sz + 151) v133).bind fun v134 =>
if v132 = v134 then (qlt (v5 + (4 : Int32)) fun v135 =>
self0 v135 X6)
else (some (.inl (0 : Int32))))
else if v8 = (20 : Int32) then ((qsc L xs (v5 + (1 : Int32))).bind fun v136 =>
qb2 (fX9_partner F X6 sz v136) fun v137 X138 =>
(qsc L xs (v5 + (1 : Int32))).bind fun v139 =>
qb2 (fX10_partner F X138 (sz + 151) v139) fun v140 X141 =>
if v137 = v140 then (qlt (v5 + (4 : Int32)) fun v142 =>
self0 v142 X141)
else (some (.inl (0 : Int32))))
else if v8 = (21 : Int32) then ((qsc L xs (v5 + (1 : Int32))).bind fun v143 =>
(qsc L xs (v5 + (2 : Int32))).bind fun v144 =>
qb2 (fX9_duck F X6 sz v143 v144) fun v145 X146 =>
(qsc L xs (v5 + (1 : Int32))).bind fun v147 =>
(qsc L xs (v5 + (2 : Int32))).bind fun v148 =>
qb2 (fX10_duck F X146 (sz + 151) v147 v148) fun v149 X150 =>
if v145 = v149 then (qlt (v5 + (4 : Int32)) fun v151 =>
self0 v151 X150)
else (some (.inl (0 : Int32))))
else if v8 = (22 : Int32) then ((qsc L xs (v5 + (1 : Int32))).bind fun v152 =>
(fX9_lit F X6 sz v152).bind fun v153 =>
(qsc L xs (v5 + (1 : Int32))).bind fun v154 =>
(fX10_lit F X6 (sz + 151) v154).bind fun v155 =>
if v153 = v155 then (qlt (v5 + (4 : Int32)) fun v156 =>
self0 v156 X6)
else (some (.inl (0 : Int32))))
else if v8 = (23 : Int32) then ((qsc L xs (v5 + (1 : Int32))).bind fun v157 =>
(qsc L xs (v5 + (2 : Int32))).bind fun v158 =>
(qsc L xs (v5 + (3 : Int32))).bind fun v159 =>
(if v159 = (0 : Int32) then (some (0 : Int32))
else (some (1 : Int32)) : Option Int32).bind fun v160 =>
qb2 (fX9_write F X6 sz v157 v158 v160) fun v161 X162 =>
(qsc L xs (v5 + (1 : Int32))).bind fun v163 =>
(qsc L xs (v5 + (2 : Int32))).bind fun v164 =>
(qsc L xs (v5 + (3 : Int32))).bind fun v165 =>
(if v165 = (0 : Int32) then (some (0 : Int32))
else (some (1 : Int32)) : Option Int32).bind fun v166 =>
qb2 (fX10_write F X162 (sz + 151) v163 v164 v166) fun v167 X168 =>
if v161 = v167 then (qlt (v5 + (4 : Int32)) fun v169 =>
self0 v169 X168)
else (some (.inl (0 : Int32))))
else if v8 = (24 : Int32) then (qb2 (fX9_tear F X6 sz) fun v170 X171 =>
qb2 (fX10_tear F X171 (sz + 151)) fun v172 X173 =>
if v170 = v172 then (qlt (v5 + (4 : Int32)) fun v174 =>
self0 v174 X173)
else (some (.inl (0 : Int32))))
else if v8 = (25 : Int32) then ((fX9_judge F X6 sz).bind fun v175 =>
(fX10_judge F X6 (sz + 151)).bind fun v176 =>
if v175 = v176 then (qlt (v5 + (4 : Int32)) fun v177 =>
self0 v177 X6)
else (some (.inl (0 : Int32))))
else if v8 = (26 : Int32) then ((qsc L xs (v5 + (1 : Int32))).bind fun v178 =>
qb2 (fX9_seed F X6 sz v178) fun v179 X180 =>
(qsc L xs (v5 + (1 : Int32))).bind fun v181 =>
qb2 (fX10_seed F X180 (sz + 151) v181) fun v182 X183 =>
if v179 = v182 then (qlt (v5 + (4 : Int32)) fun v184 =>
self0 v184 X183)
else (some (.inl (0 : Int32))))
else if v8 = (27 : Int32) then ((qsc L xs (v5 + (1 : Int32))).bind fun v185 =>
qb2 (fX9_keep F X6 sz v185) fun v186 X187 =>
(qsc L xs (v5 + (1 : Int32))).bind fun v188 =>
qb2 (fX10_keep F X187 (sz + 151) v188) fun v189 X190 =>
if v186 = v189 then (qlt (v5 + (4 : Int32)) fun v191 =>
self0 v191 X190)
else (some (.inl (0 : Int32))))
else if v8 = (28 : Int32) then ((qsc L xs (v5 + (1 : Int32))).bind fun v192 =>
qb2 (fX9_goBack F X6 sz v192) fun v193 X194 =>
(qsc L xs (v5 + (1 : Int32))).bind fun v195 =>
qb2 (fX10_goBack F X194 (sz + 151) v195) fun v196 X197 =>
if v193 = v196 then (qlt (v5 + (4 : Int32)) fun v198 =>
self0 v198 X197)
else (some (.inl (0 : Int32))))
else (qlt (v5 + (4 : Int32)) fun v199 =>
self0 v199 X6))
def fL_law_L18 (F L : Nat) (xs : Nat → Int32) (b sz : Nat) : Nat → Int32 → qH → Option ((Int32) ⊕ (qH))
  | 0, _, _ => none
  | n + 1, v5, X6 => fL_law_L18_B F L xs b sz (fL_law_L18 F L xs b sz n) v5 X6
def fL_law (F L : Nat) (xs : Nat → Int32) (b : Nat) (X : qH) (sz : Nat) : Option Int32 :=
qlt (qnO X sz 8 [.null, .int 0, .int 0, .null, .null, .int 0, .null, .null, .null, .null, .null, .null, .null, .null, .null, .null]) fun X1 =>
(fX9_init F X1 (sz + 1) sz).bind fun X2 =>
qlt (qnO X2 (sz + 151) 9 [.int 0, .int 0, .null, .null, .null, .null, .int 0, .int 0, .null, .int 0, .null, .int 0, .int 0, .int 0, .int 0, .int 0, .null, .int 0, .null, .null, .null, .null, .null, .null, .null, .int 0, .int 0, .int 0, .null, .null, .null, .null, .null, .int 0, .null, .null, .int 0, .null, .null, .null, .null, .null]) fun X3 =>
(fX10_init F X3 (sz + 152) (sz + 151)).bind fun X4 =>
(fL_law_L18 F L xs b sz F (0 : Int32) X4).bind fun o201 => qsm1 o201 (fun z => some z) fun X200 =>
some (1 : Int32)
set_option maxHeartbeats 4000000 in
set_option maxRecDepth 100000 in
theorem mL_law {p : Program} {e : Env} {s : State} {m : MethodId} {args : Array Value} {below : List Frame} {meth : Method} {c : Code} {Q : State → Prop} {ls : Array Slot} (l : Launch) (D : va_G) (kz : Nat → Nat) (b0 sz F b L : Nat) (xs : Nat → Int32) (X : qH) (hx : p.tables.exec = Jvm.exec) (hb : c.code = cL_law) (hml : c.maxLocals = 4) (hown : s.vm.findClass RL = some m.cls) (hT : ∀ w ∈ qW, w.before args s = true) (hR : qR D kz b0 X s.heap) (hK : qV D kz s) (hz : s.heap.size = sz) (hb0 : b0 ≤ sz) (hXs : va_X b L xs s s.heap) (hbl : b < s.heap.size) (hbA : ¬ qA b0 b) (hS : va_S (qA b0) s.heap s.heap []) (hl : lv_has ls 4 [(0, .ref b)]) (hend : ∀ (H : Heap) (locs : List Loc) (ls : Array Slot), va_S (qA b0) s.heap H locs → ∀ pc : Nat, decode cL_law pc = .ok (.ireturn, 1) → W p l e room_1 s m args below meth c H locs 178 2944 Q (F0 m pc ls [.int (1 : Int32)])) (hf : fL_law F L xs b X sz = some (1 : Int32)) : W p l e room_1 s m args below meth c s.heap [] 0 0 Q (F0 m 0 ls []) := by
  have hown : s.vm.findClass RL = some m.cls := hown
  unfold fL_law at hf
  obtain ⟨X1, eX1⟩ : ∃ y : qH, y = (qnO X sz 8 [.null, .int 0, .int 0, .null, .null, .int 0, .null, .null, .null, .null, .null, .null, .null, .null, .null, .null]) := ⟨_, rfl⟩
  have hf := q_lt eX1 hf
  refine q_newO hx hb hT hown iqX9 vqX9 tyX9_ok (hT _ wcl_L_7) (hT _ wis_X9) (hT _ win_X9) hK hR hS hb0 hz [.null, .int 0, .int 0, .null, .null, .int 0, .null, .null, .null, .null, .null, .null, .null, .null, .null, .null] (by decide +kernel) (Nat.le_of_ble_eq_true rfl) (Nat.le_of_ble_eq_true rfl) dL_law_0 (fun H hR hS hz => ?_)
  rw [← eX1] at hR
  have hz : H.size = sz + 1 := hz
  refine W.cs (cells' := 1) (slots' := 16) rfl rfl ?_
  refine lv_dup hx hb dL_law_3 rfl ?_
  obtain ⟨X2, hc, hf⟩ := q_b hf
  refine q_callc (va_runI (As := []) (rest := [.ref sz]) ⟨hx, hb, hml, hown, hT⟩ (mX9_init l D kz b0 (sz + 1) F (Nat.le_trans hb0 (Nat.le_add_right _ _)) X1 sz X2 hc) (cwI 0 hT (q_gI0 wco_X9_init) rfl rfl rfl (hT _ win_X9) (hT _ wml_L_9) (hT _ wim_X9_init) rfl hdX9_init ⟨Nat.le_of_ble_eq_true rfl, Nat.le_of_ble_eq_true rfl⟩) (q_preS hR hK hz) rfl rfl hl.1 rfl (lv_room (Nat.le_of_ble_eq_true rfl)) dL_law_4 ⟨Nat.le_of_ble_eq_true rfl, Nat.le_of_ble_eq_true rfl⟩) hS (fun H locs hR hS hz => ?_)
  have hz : H.size = sz + 151 := hz
  refine W.cs (cells' := 151) (slots' := 1417) rfl rfl ?_
  refine lv_astore_n (lv' := [(1, .ref sz), (0, .ref b)]) hx hb dL_law_7 rfl hl (by decide) rfl (fun ls hl => ?_)
  obtain ⟨X3, eX3⟩ : ∃ y : qH, y = (qnO X2 (sz + 151) 9 [.int 0, .int 0, .null, .null, .null, .null, .int 0, .int 0, .null, .int 0, .null, .int 0, .int 0, .int 0, .int 0, .int 0, .null, .int 0, .null, .null, .null, .null, .null, .null, .null, .int 0, .int 0, .int 0, .null, .null, .null, .null, .null, .int 0, .null, .null, .int 0, .null, .null, .null, .null, .null]) := ⟨_, rfl⟩
  have hf := q_lt eX3 hf
  refine q_newO hx hb hT hown iqX10 vqX10 tyX10_ok (hT _ wcl_L_10) (hT _ wis_X10) (hT _ win_X10) hK hR hS (Nat.le_trans hb0 (Nat.le_add_right _ _)) hz [.int 0, .int 0, .null, .null, .null, .null, .int 0, .int 0, .null, .int 0, .null, .int 0, .int 0, .int 0, .int 0, .int 0, .null, .int 0, .null, .null, .null, .null, .null, .null, .null, .int 0, .int 0, .int 0, .null, .null, .null, .null, .null, .int 0, .null, .null, .int 0, .null, .null, .null, .null, .null] (by decide +kernel) (Nat.le_of_ble_eq_true rfl) (Nat.le_of_ble_eq_true rfl) dL_law_8 (fun H hR hS hz => ?_)
  rw [← eX3] at hR
  have hz : H.size = sz + 152 := hz
  refine W.cs (cells' := 152) (slots' := 1459) rfl rfl ?_
  refine lv_dup hx hb dL_law_11 rfl ?_
  obtain ⟨X4, hc, hf⟩ := q_b hf
  refine q_callc (va_runI (As := []) (rest := [.ref (sz + 151)]) ⟨hx, hb, hml, hown, hT⟩ (mX10_init l D kz b0 (sz + 152) F (Nat.le_trans hb0 (Nat.le_add_right _ _)) X3 (sz + 151) X4 hc) (cwI 0 hT (q_gI0 wco_X10_init) rfl rfl rfl (hT _ win_X10) (hT _ wml_L_12) (hT _ wim_X10_init) rfl hdX10_init ⟨Nat.le_of_ble_eq_true rfl, Nat.le_of_ble_eq_true rfl⟩) (q_preS hR hK hz) rfl rfl hl.1 rfl (lv_room (Nat.le_of_ble_eq_true rfl)) dL_law_12 ⟨Nat.le_of_ble_eq_true rfl, Nat.le_of_ble_eq_true rfl⟩) hS (fun H locs hR hS hz => ?_)
  have hz : H.size = sz + 178 := hz
  refine W.cs (cells' := 178) (slots' := 2944) rfl rfl ?_
  refine lv_astore_n (lv' := [(2, .ref (sz + 151)), (1, .ref sz), (0, .ref b)]) hx hb dL_law_15 rfl hl (by decide) rfl (fun ls hl => ?_)
  refine lv_iconst (v := (0 : Int32)) hx hb dL_law_16 (by decide) ?_
  refine lv_istore_n (lv' := [(3, .int (0 : Int32)), (2, .ref (sz + 151)), (1, .ref sz), (0, .ref b)]) hx hb dL_law_17 rfl hl (by decide) rfl (fun ls hl => ?_)
  obtain ⟨o201, ho, hf⟩ := q_b hf
  have hL : ∀ (n : Nat) (v5 : Int32) (X6 : qH) (out : (Int32) ⊕ (qH)), fL_law_L18 F L xs b sz n v5 X6 = some out → (∀ z, out = .inl z → z = (1 : Int32)) → (∀ (X200 : qH), out = .inr X200 → ∀ (H : Heap) (locs : List Loc) (ls : Array Slot), qR D kz b0 X200 H → va_S (qA b0) s.heap H locs → H.size = (sz + 178) → lv_has ls 4 [] → W p l e room_1 s m args below meth c H locs 178 2944 Q (F0 m 903 ls [])) → ∀ (H : Heap) (locs : List Loc) (ls : Array Slot), qR D kz b0 X6 H → va_S (qA b0) s.heap H locs → H.size = (sz + 178) → lv_has ls 4 [(0, .ref b), (1, .ref sz), (2, .ref (sz + 151)), (3, .int v5)] → W p l e room_1 s m args below meth c H locs 178 2944 Q (F0 m 18 ls []) := by
    intro n9
    induction n9 with
    | zero =>
      intro v5 X6 out hf
      exact absurd (show none = some out from hf) (by simp)
    | succ n9 ih0 =>
      intro v5 X6 out hf hret hex H locs ls hR hS hz hl
      have hf : fL_law_L18_B F L xs b sz (fL_law_L18 F L xs b sz n9) v5 X6 = some out := hf
      unfold fL_law_L18_B at hf
      refine lv_iload_n hx hb dL_law_18 rfl (lv_at hl 3 rfl) ?_
      refine lv_aload_n hx hb dL_law_19 rfl (lv_at hl 0 rfl) ?_
      refine va_slen hx hb hXs hbl hbA hS dL_law_20 ?_
      refine lv_iconst (v := (4 : Int32)) hx hb dL_law_21 (by decide) ?_
      refine lv_isub hx hb dL_law_22 ?_
      refine lv_icmp_gt (tgt := 903) hx hb dL_law_23 (by decide) (fun hc => ?_) (fun hc => ?_)
      · have hf := q_t hf hc
        exact hex _ (Option.some.inj hf).symm _ _ _ hR hS hz (lv_sub hl [] rfl)
      · have hf := q_f hf hc
        refine lv_aload_n hx hb dL_law_26 rfl (lv_at hl 0 rfl) ?_
        refine lv_iload_n hx hb dL_law_27 rfl (lv_at hl 3 rfl) ?_
        refine q_sld hx hb hXs hbl hbA hS hf dL_law_28 (fun v7 hf => ?_)
        refine lv_bipush (v := (31 : Int32)) hx hb dL_law_29 (by decide) ?_
        refine lv_iand hx hb dL_law_31 ?_
        refine lv_topi (fun v8 ev8 => ?_)
        have hf := q_lt ev8 hf
        by_cases hc0 : v8 = (0 : Int32)
        · have hf := q_t hf hc0
          refine lv_tableIn (off := 132) (tgt := 164) hx hb dL_law_32 (by rw [hc0]; decide) (by rw [hc0]; decide) (by rw [hc0]; decide +kernel) (by decide) ?_
          refine lv_aload_n hx hb dL_law_164 rfl (lv_at hl 1 rfl) ?_
          refine lv_aload_n hx hb dL_law_165 rfl (lv_at hl 0 rfl) ?_
          refine lv_iload_n hx hb dL_law_166 rfl (lv_at hl 3 rfl) ?_
          refine lv_iconst (v := (1 : Int32)) hx hb dL_law_167 (by decide) ?_
          refine lv_iadd hx hb dL_law_168 ?_
          refine q_sld hx hb hXs hbl hbA hS hf dL_law_169 (fun v9 hf => ?_)
          obtain ⟨v10, X11, hc, hf⟩ := q_b2 hf
          refine q_calli (va_runV (As := [.int v9]) (rest := []) ⟨hx, hb, hml, hown, hT⟩ (mX9_feed l D kz b0 (sz + 178) F X6 sz v9 v10 X11 hc) (cwV 1 hT (q_gV wco_X9_feed wml_L_13 wim_X9_feed wse_X9_feed win_X9) rfl rfl rfl hdX9_feed ⟨Nat.le_of_ble_eq_true rfl, Nat.le_of_ble_eq_true rfl⟩) (q_preV vqX9 (fX9_feed_is hc) hR hK hz) rfl rfl hl.1 rfl (lv_room (Nat.le_of_ble_eq_true rfl)) dL_law_170 ⟨Nat.le_of_ble_eq_true rfl, Nat.le_of_ble_eq_true rfl⟩) hS (fun H locs hR hS hz => ?_)
          refine lv_aload_n hx hb dL_law_173 rfl (lv_at hl 2 rfl) ?_
          refine lv_aload_n hx hb dL_law_174 rfl (lv_at hl 0 rfl) ?_
          refine lv_iload_n hx hb dL_law_175 rfl (lv_at hl 3 rfl) ?_
          refine lv_iconst (v := (1 : Int32)) hx hb dL_law_176 (by decide) ?_
          refine lv_iadd hx hb dL_law_177 ?_
          refine q_sld hx hb hXs hbl hbA hS hf dL_law_178 (fun v12 hf => ?_)
          obtain ⟨v13, X14, hc, hf⟩ := q_b2 hf
          refine q_calli (va_runV (As := [.int v12]) (rest := [.int v10]) ⟨hx, hb, hml, hown, hT⟩ (mX10_feed l D kz b0 (sz + 178) F X11 (sz + 151) v12 v13 X14 hc) (cwV 1 hT (q_gV wco_X10_feed wml_L_17 wim_X10_feed wse_X10_feed win_X10) rfl rfl rfl hdX10_feed ⟨Nat.le_of_ble_eq_true rfl, Nat.le_of_ble_eq_true rfl⟩) (q_preV vqX10 (fX10_feed_is hc) hR hK hz) rfl rfl hl.1 rfl (lv_room (Nat.le_of_ble_eq_true rfl)) dL_law_179 ⟨Nat.le_of_ble_eq_true rfl, Nat.le_of_ble_eq_true rfl⟩) hS (fun H locs hR hS hz => ?_)
          refine lv_icmp_eq (tgt := 897) hx hb dL_law_182 (by decide) (fun hc => ?_) (fun hc => ?_)
          · have hf := q_t hf hc
            obtain ⟨v15, ev15⟩ : ∃ y : Int32, y = (v5 + (4 : Int32)) := ⟨_, rfl⟩
            have hf := q_lt ev15 hf
            refine lv_iinc (v := v15) (lv' := [(3, .int v15), (0, .ref b), (1, .ref sz), (2, .ref (sz + 151))]) hx hb dL_law_897 hl (k := 3) rfl (by rw [ev15]; rfl) (by decide) rfl (fun ls hl => ?_)
            refine lv_goto (tgt := 18) hx hb dL_law_900 (by decide) ?_
            exact ih0 _ _ out hf hret hex _ _ _ hR hS hz (lv_sub hl [1, 2, 3, 0] rfl)
          · have hf := q_f hf hc
            refine lv_iconst (v := (0 : Int32)) hx hb dL_law_185 (by decide) ?_
            exact absurd (hret _ (Option.some.inj hf).symm) (by decide)
        have hf := q_f hf hc0
        by_cases hc1 : v8 = (1 : Int32)
        · have hf := q_t hf hc1
          refine lv_tableIn (off := 155) (tgt := 187) hx hb dL_law_32 (by rw [hc1]; decide) (by rw [hc1]; decide) (by rw [hc1]; decide +kernel) (by decide) ?_
          refine lv_aload_n hx hb dL_law_187 rfl (lv_at hl 1 rfl) ?_
          obtain ⟨v16, X17, hc, hf⟩ := q_b2 hf
          refine q_calli (va_runV (As := []) (rest := []) ⟨hx, hb, hml, hown, hT⟩ (mX9_bay l D kz b0 (sz + 178) F X6 sz v16 X17 hc) (cwV 0 hT (q_gV wco_X9_bay wml_L_18 wim_X9_bay wse_X9_bay win_X9) rfl rfl rfl hdX9_bay ⟨Nat.le_of_ble_eq_true rfl, Nat.le_of_ble_eq_true rfl⟩) (q_preV vqX9 (fX9_bay_is hc) hR hK hz) rfl rfl hl.1 rfl (lv_room (Nat.le_of_ble_eq_true rfl)) dL_law_188 ⟨Nat.le_of_ble_eq_true rfl, Nat.le_of_ble_eq_true rfl⟩) hS (fun H locs hR hS hz => ?_)
          refine lv_aload_n hx hb dL_law_191 rfl (lv_at hl 2 rfl) ?_
          obtain ⟨v18, X19, hc, hf⟩ := q_b2 hf
          refine q_calli (va_runV (As := []) (rest := [.int v16]) ⟨hx, hb, hml, hown, hT⟩ (mX10_bay l D kz b0 (sz + 178) F X17 (sz + 151) v18 X19 hc) (cwV 0 hT (q_gV wco_X10_bay wml_L_22 wim_X10_bay wse_X10_bay win_X10) rfl rfl rfl hdX10_bay ⟨Nat.le_of_ble_eq_true rfl, Nat.le_of_ble_eq_true rfl⟩) (q_preV vqX10 (fX10_bay_is hc) hR hK hz) rfl rfl hl.1 rfl (lv_room (Nat.le_of_ble_eq_true rfl)) dL_law_192 ⟨Nat.le_of_ble_eq_true rfl, Nat.le_of_ble_eq_true rfl⟩) hS (fun H locs hR hS hz => ?_)
          refine lv_icmp_eq (tgt := 897) hx hb dL_law_195 (by decide) (fun hc => ?_) (fun hc => ?_)
          · have hf := q_t hf hc
            obtain ⟨v20, ev20⟩ : ∃ y : Int32, y = (v5 + (4 : Int32)) := ⟨_, rfl⟩
            have hf := q_lt ev20 hf
            refine lv_iinc (v := v20) (lv' := [(3, .int v20), (0, .ref b), (1, .ref sz), (2, .ref (sz + 151))]) hx hb dL_law_897 hl (k := 3) rfl (by rw [ev20]; rfl) (by decide) rfl (fun ls hl => ?_)
            refine lv_goto (tgt := 18) hx hb dL_law_900 (by decide) ?_
            exact ih0 _ _ out hf hret hex _ _ _ hR hS hz (lv_sub hl [1, 2, 3, 0] rfl)
          · have hf := q_f hf hc
            refine lv_iconst (v := (0 : Int32)) hx hb dL_law_198 (by decide) ?_
            exact absurd (hret _ (Option.some.inj hf).symm) (by decide)
        have hf := q_f hf hc1
        by_cases hc2 : v8 = (2 : Int32)
        · have hf := q_t hf hc2
          refine lv_tableIn (off := 168) (tgt := 200) hx hb dL_law_32 (by rw [hc2]; decide) (by rw [hc2]; decide) (by rw [hc2]; decide +kernel) (by decide) ?_
          refine lv_aload_n hx hb dL_law_200 rfl (lv_at hl 1 rfl) ?_
          obtain ⟨v21, hc, hf⟩ := q_b hf
          refine q_calli (va_runV (As := []) (rest := []) ⟨hx, hb, hml, hown, hT⟩ (mX9_fault l D kz b0 (sz + 178) F X6 sz v21 hc) (cwV 0 hT (q_gV wco_X9_fault wml_L_23 wim_X9_fault wse_X9_fault win_X9) rfl rfl rfl hdX9_fault ⟨Nat.le_of_ble_eq_true rfl, Nat.le_of_ble_eq_true rfl⟩) (q_preV vqX9 (fX9_fault_is hc) hR hK hz) rfl rfl hl.1 rfl (lv_room (Nat.le_of_ble_eq_true rfl)) dL_law_201 ⟨Nat.le_of_ble_eq_true rfl, Nat.le_of_ble_eq_true rfl⟩) hS (fun H locs hR hS hz => ?_)
          refine lv_aload_n hx hb dL_law_204 rfl (lv_at hl 2 rfl) ?_
          obtain ⟨v22, hc, hf⟩ := q_b hf
          refine q_calli (va_runV (As := []) (rest := [.int v21]) ⟨hx, hb, hml, hown, hT⟩ (mX10_fault l D kz b0 (sz + 178) F X6 (sz + 151) v22 hc) (cwV 0 hT (q_gV wco_X10_fault wml_L_26 wim_X10_fault wse_X10_fault win_X10) rfl rfl rfl hdX10_fault ⟨Nat.le_of_ble_eq_true rfl, Nat.le_of_ble_eq_true rfl⟩) (q_preV vqX10 (fX10_fault_is hc) hR hK hz) rfl rfl hl.1 rfl (lv_room (Nat.le_of_ble_eq_true rfl)) dL_law_205 ⟨Nat.le_of_ble_eq_true rfl, Nat.le_of_ble_eq_true rfl⟩) hS (fun H locs hR hS hz => ?_)
          refine lv_icmp_eq (tgt := 897) hx hb dL_law_208 (by decide) (fun hc => ?_) (fun hc => ?_)
          · have hf := q_t hf hc
            obtain ⟨v23, ev23⟩ : ∃ y : Int32, y = (v5 + (4 : Int32)) := ⟨_, rfl⟩
            have hf := q_lt ev23 hf
            refine lv_iinc (v := v23) (lv' := [(3, .int v23), (0, .ref b), (1, .ref sz), (2, .ref (sz + 151))]) hx hb dL_law_897 hl (k := 3) rfl (by rw [ev23]; rfl) (by decide) rfl (fun ls hl => ?_)
            refine lv_goto (tgt := 18) hx hb dL_law_900 (by decide) ?_
            exact ih0 _ _ out hf hret hex _ _ _ hR hS hz (lv_sub hl [1, 2, 3, 0] rfl)
          · have hf := q_f hf hc
            refine lv_iconst (v := (0 : Int32)) hx hb dL_law_211 (by decide) ?_
            exact absurd (hret _ (Option.some.inj hf).symm) (by decide)
        have hf := q_f hf hc2
        by_cases hc3 : v8 = (3 : Int32)
        · have hf := q_t hf hc3
          refine lv_tableIn (off := 181) (tgt := 213) hx hb dL_law_32 (by rw [hc3]; decide) (by rw [hc3]; decide) (by rw [hc3]; decide +kernel) (by decide) ?_
          refine lv_aload_n hx hb dL_law_213 rfl (lv_at hl 1 rfl) ?_
          refine lv_aload_n hx hb dL_law_214 rfl (lv_at hl 0 rfl) ?_
          refine lv_iload_n hx hb dL_law_215 rfl (lv_at hl 3 rfl) ?_
          refine lv_iconst (v := (1 : Int32)) hx hb dL_law_216 (by decide) ?_
          refine lv_iadd hx hb dL_law_217 ?_
          refine q_sld hx hb hXs hbl hbA hS hf dL_law_218 (fun v24 hf => ?_)
          obtain ⟨v25, hc, hf⟩ := q_b hf
          refine q_calli (va_runV (As := [.int v24]) (rest := []) ⟨hx, hb, hml, hown, hT⟩ (mX9_told l D kz b0 (sz + 178) F X6 sz v24 v25 hc) (cwV 1 hT (q_gV wco_X9_told wml_L_27 wim_X9_told wse_X9_told win_X9) rfl rfl rfl hdX9_told ⟨Nat.le_of_ble_eq_true rfl, Nat.le_of_ble_eq_true rfl⟩) (q_preV vqX9 (fX9_told_is hc) hR hK hz) rfl rfl hl.1 rfl (lv_room (Nat.le_of_ble_eq_true rfl)) dL_law_219 ⟨Nat.le_of_ble_eq_true rfl, Nat.le_of_ble_eq_true rfl⟩) hS (fun H locs hR hS hz => ?_)
          refine lv_aload_n hx hb dL_law_222 rfl (lv_at hl 2 rfl) ?_
          refine lv_aload_n hx hb dL_law_223 rfl (lv_at hl 0 rfl) ?_
          refine lv_iload_n hx hb dL_law_224 rfl (lv_at hl 3 rfl) ?_
          refine lv_iconst (v := (1 : Int32)) hx hb dL_law_225 (by decide) ?_
          refine lv_iadd hx hb dL_law_226 ?_
          refine q_sld hx hb hXs hbl hbA hS hf dL_law_227 (fun v26 hf => ?_)
          obtain ⟨v27, hc, hf⟩ := q_b hf
          refine q_calli (va_runV (As := [.int v26]) (rest := [.int v25]) ⟨hx, hb, hml, hown, hT⟩ (mX10_told l D kz b0 (sz + 178) F X6 (sz + 151) v26 v27 hc) (cwV 1 hT (q_gV wco_X10_told wml_L_30 wim_X10_told wse_X10_told win_X10) rfl rfl rfl hdX10_told ⟨Nat.le_of_ble_eq_true rfl, Nat.le_of_ble_eq_true rfl⟩) (q_preV vqX10 (fX10_told_is hc) hR hK hz) rfl rfl hl.1 rfl (lv_room (Nat.le_of_ble_eq_true rfl)) dL_law_228 ⟨Nat.le_of_ble_eq_true rfl, Nat.le_of_ble_eq_true rfl⟩) hS (fun H locs hR hS hz => ?_)
          refine lv_icmp_eq (tgt := 897) hx hb dL_law_231 (by decide) (fun hc => ?_) (fun hc => ?_)
          · have hf := q_t hf hc
            obtain ⟨v28, ev28⟩ : ∃ y : Int32, y = (v5 + (4 : Int32)) := ⟨_, rfl⟩
            have hf := q_lt ev28 hf
            refine lv_iinc (v := v28) (lv' := [(3, .int v28), (0, .ref b), (1, .ref sz), (2, .ref (sz + 151))]) hx hb dL_law_897 hl (k := 3) rfl (by rw [ev28]; rfl) (by decide) rfl (fun ls hl => ?_)
            refine lv_goto (tgt := 18) hx hb dL_law_900 (by decide) ?_
            exact ih0 _ _ out hf hret hex _ _ _ hR hS hz (lv_sub hl [1, 2, 3, 0] rfl)
          · have hf := q_f hf hc
            refine lv_iconst (v := (0 : Int32)) hx hb dL_law_234 (by decide) ?_
            exact absurd (hret _ (Option.some.inj hf).symm) (by decide)
        have hf := q_f hf hc3
        by_cases hc4 : v8 = (4 : Int32)
        · have hf := q_t hf hc4
          refine lv_tableIn (off := 204) (tgt := 236) hx hb dL_law_32 (by rw [hc4]; decide) (by rw [hc4]; decide) (by rw [hc4]; decide +kernel) (by decide) ?_
          refine lv_aload_n hx hb dL_law_236 rfl (lv_at hl 1 rfl) ?_
          refine lv_aload_n hx hb dL_law_237 rfl (lv_at hl 0 rfl) ?_
          refine lv_iload_n hx hb dL_law_238 rfl (lv_at hl 3 rfl) ?_
          refine lv_iconst (v := (1 : Int32)) hx hb dL_law_239 (by decide) ?_
          refine lv_iadd hx hb dL_law_240 ?_
          refine q_sld hx hb hXs hbl hbA hS hf dL_law_241 (fun v29 hf => ?_)
          refine lv_aload_n hx hb dL_law_242 rfl (lv_at hl 0 rfl) ?_
          refine lv_iload_n hx hb dL_law_243 rfl (lv_at hl 3 rfl) ?_
          refine lv_iconst (v := (2 : Int32)) hx hb dL_law_244 (by decide) ?_
          refine lv_iadd hx hb dL_law_245 ?_
          refine q_sld hx hb hXs hbl hbA hS hf dL_law_246 (fun v30 hf => ?_)
          obtain ⟨v31, hc, hf⟩ := q_b hf
          refine q_calli (va_runV (As := [.int v29, .int v30]) (rest := []) ⟨hx, hb, hml, hown, hT⟩ (mX9_house l D kz b0 (sz + 178) F X6 sz v29 v30 v31 hc) (cwV 2 hT (q_gV wco_X9_house wml_L_31 wim_X9_house wse_X9_house win_X9) rfl rfl rfl hdX9_house ⟨Nat.le_of_ble_eq_true rfl, Nat.le_of_ble_eq_true rfl⟩) (q_preV vqX9 (fX9_house_is hc) hR hK hz) rfl rfl hl.1 rfl (lv_room (Nat.le_of_ble_eq_true rfl)) dL_law_247 ⟨Nat.le_of_ble_eq_true rfl, Nat.le_of_ble_eq_true rfl⟩) hS (fun H locs hR hS hz => ?_)
          refine lv_aload_n hx hb dL_law_250 rfl (lv_at hl 2 rfl) ?_
          refine lv_aload_n hx hb dL_law_251 rfl (lv_at hl 0 rfl) ?_
          refine lv_iload_n hx hb dL_law_252 rfl (lv_at hl 3 rfl) ?_
          refine lv_iconst (v := (1 : Int32)) hx hb dL_law_253 (by decide) ?_
          refine lv_iadd hx hb dL_law_254 ?_
          refine q_sld hx hb hXs hbl hbA hS hf dL_law_255 (fun v32 hf => ?_)
          refine lv_aload_n hx hb dL_law_256 rfl (lv_at hl 0 rfl) ?_
          refine lv_iload_n hx hb dL_law_257 rfl (lv_at hl 3 rfl) ?_
          refine lv_iconst (v := (2 : Int32)) hx hb dL_law_258 (by decide) ?_
          refine lv_iadd hx hb dL_law_259 ?_
          refine q_sld hx hb hXs hbl hbA hS hf dL_law_260 (fun v33 hf => ?_)
          obtain ⟨v34, hc, hf⟩ := q_b hf
          refine q_calli (va_runV (As := [.int v32, .int v33]) (rest := [.int v31]) ⟨hx, hb, hml, hown, hT⟩ (mX10_house l D kz b0 (sz + 178) F X6 (sz + 151) v32 v33 v34 hc) (cwV 2 hT (q_gV wco_X10_house wml_L_35 wim_X10_house wse_X10_house win_X10) rfl rfl rfl hdX10_house ⟨Nat.le_of_ble_eq_true rfl, Nat.le_of_ble_eq_true rfl⟩) (q_preV vqX10 (fX10_house_is hc) hR hK hz) rfl rfl hl.1 rfl (lv_room (Nat.le_of_ble_eq_true rfl)) dL_law_261 ⟨Nat.le_of_ble_eq_true rfl, Nat.le_of_ble_eq_true rfl⟩) hS (fun H locs hR hS hz => ?_)
          refine lv_icmp_eq (tgt := 897) hx hb dL_law_264 (by decide) (fun hc => ?_) (fun hc => ?_)
          · have hf := q_t hf hc
            obtain ⟨v35, ev35⟩ : ∃ y : Int32, y = (v5 + (4 : Int32)) := ⟨_, rfl⟩
            have hf := q_lt ev35 hf
            refine lv_iinc (v := v35) (lv' := [(3, .int v35), (0, .ref b), (1, .ref sz), (2, .ref (sz + 151))]) hx hb dL_law_897 hl (k := 3) rfl (by rw [ev35]; rfl) (by decide) rfl (fun ls hl => ?_)
            refine lv_goto (tgt := 18) hx hb dL_law_900 (by decide) ?_
            exact ih0 _ _ out hf hret hex _ _ _ hR hS hz (lv_sub hl [1, 2, 3, 0] rfl)
          · have hf := q_f hf hc
            refine lv_iconst (v := (0 : Int32)) hx hb dL_law_267 (by decide) ?_
            exact absurd (hret _ (Option.some.inj hf).symm) (by decide)
        have hf := q_f hf hc4
        by_cases hc5 : v8 = (5 : Int32)
        · have hf := q_t hf hc5
          refine lv_tableIn (off := 237) (tgt := 269) hx hb dL_law_32 (by rw [hc5]; decide) (by rw [hc5]; decide) (by rw [hc5]; decide +kernel) (by decide) ?_
          refine lv_aload_n hx hb dL_law_269 rfl (lv_at hl 1 rfl) ?_
          refine lv_aload_n hx hb dL_law_270 rfl (lv_at hl 0 rfl) ?_
          refine lv_iload_n hx hb dL_law_271 rfl (lv_at hl 3 rfl) ?_
          refine lv_iconst (v := (1 : Int32)) hx hb dL_law_272 (by decide) ?_
          refine lv_iadd hx hb dL_law_273 ?_
          refine q_sld hx hb hXs hbl hbA hS hf dL_law_274 (fun v36 hf => ?_)
          refine lv_aload_n hx hb dL_law_275 rfl (lv_at hl 0 rfl) ?_
          refine lv_iload_n hx hb dL_law_276 rfl (lv_at hl 3 rfl) ?_
          refine lv_iconst (v := (2 : Int32)) hx hb dL_law_277 (by decide) ?_
          refine lv_iadd hx hb dL_law_278 ?_
          refine q_sld hx hb hXs hbl hbA hS hf dL_law_279 (fun v37 hf => ?_)
          obtain ⟨v38, hc, hf⟩ := q_b hf
          refine q_calli (va_runV (As := [.int v36, .int v37]) (rest := []) ⟨hx, hb, hml, hown, hT⟩ (mX9_sees l D kz b0 (sz + 178) F X6 sz v36 v37 v38 hc) (cwV 2 hT (q_gV wco_X9_sees wml_L_36 wim_X9_sees wse_X9_sees win_X9) rfl rfl rfl hdX9_sees ⟨Nat.le_of_ble_eq_true rfl, Nat.le_of_ble_eq_true rfl⟩) (q_preV vqX9 (fX9_sees_is hc) hR hK hz) rfl rfl hl.1 rfl (lv_room (Nat.le_of_ble_eq_true rfl)) dL_law_280 ⟨Nat.le_of_ble_eq_true rfl, Nat.le_of_ble_eq_true rfl⟩) hS (fun H locs hR hS hz => ?_)
          refine lv_aload_n hx hb dL_law_283 rfl (lv_at hl 2 rfl) ?_
          refine lv_aload_n hx hb dL_law_284 rfl (lv_at hl 0 rfl) ?_
          refine lv_iload_n hx hb dL_law_285 rfl (lv_at hl 3 rfl) ?_
          refine lv_iconst (v := (1 : Int32)) hx hb dL_law_286 (by decide) ?_
          refine lv_iadd hx hb dL_law_287 ?_
          refine q_sld hx hb hXs hbl hbA hS hf dL_law_288 (fun v39 hf => ?_)
          refine lv_aload_n hx hb dL_law_289 rfl (lv_at hl 0 rfl) ?_
          refine lv_iload_n hx hb dL_law_290 rfl (lv_at hl 3 rfl) ?_
          refine lv_iconst (v := (2 : Int32)) hx hb dL_law_291 (by decide) ?_
          refine lv_iadd hx hb dL_law_292 ?_
          refine q_sld hx hb hXs hbl hbA hS hf dL_law_293 (fun v40 hf => ?_)
          obtain ⟨v41, hc, hf⟩ := q_b hf
          refine q_calli (va_runV (As := [.int v39, .int v40]) (rest := [.int v38]) ⟨hx, hb, hml, hown, hT⟩ (mX10_sees l D kz b0 (sz + 178) F X6 (sz + 151) v39 v40 v41 hc) (cwV 2 hT (q_gV wco_X10_sees wml_L_39 wim_X10_sees wse_X10_sees win_X10) rfl rfl rfl hdX10_sees ⟨Nat.le_of_ble_eq_true rfl, Nat.le_of_ble_eq_true rfl⟩) (q_preV vqX10 (fX10_sees_is hc) hR hK hz) rfl rfl hl.1 rfl (lv_room (Nat.le_of_ble_eq_true rfl)) dL_law_294 ⟨Nat.le_of_ble_eq_true rfl, Nat.le_of_ble_eq_true rfl⟩) hS (fun H locs hR hS hz => ?_)
          refine lv_icmp_eq (tgt := 897) hx hb dL_law_297 (by decide) (fun hc => ?_) (fun hc => ?_)
          · have hf := q_t hf hc
            obtain ⟨v42, ev42⟩ : ∃ y : Int32, y = (v5 + (4 : Int32)) := ⟨_, rfl⟩
            have hf := q_lt ev42 hf
            refine lv_iinc (v := v42) (lv' := [(3, .int v42), (0, .ref b), (1, .ref sz), (2, .ref (sz + 151))]) hx hb dL_law_897 hl (k := 3) rfl (by rw [ev42]; rfl) (by decide) rfl (fun ls hl => ?_)
            refine lv_goto (tgt := 18) hx hb dL_law_900 (by decide) ?_
            exact ih0 _ _ out hf hret hex _ _ _ hR hS hz (lv_sub hl [1, 2, 3, 0] rfl)
          · have hf := q_f hf hc
            refine lv_iconst (v := (0 : Int32)) hx hb dL_law_300 (by decide) ?_
            exact absurd (hret _ (Option.some.inj hf).symm) (by decide)
        have hf := q_f hf hc5
        by_cases hc6 : v8 = (6 : Int32)
        · have hf := q_t hf hc6
          refine lv_tableIn (off := 270) (tgt := 302) hx hb dL_law_32 (by rw [hc6]; decide) (by rw [hc6]; decide) (by rw [hc6]; decide +kernel) (by decide) ?_
          refine lv_aload_n hx hb dL_law_302 rfl (lv_at hl 1 rfl) ?_
          refine lv_aload_n hx hb dL_law_303 rfl (lv_at hl 0 rfl) ?_
          refine lv_iload_n hx hb dL_law_304 rfl (lv_at hl 3 rfl) ?_
          refine lv_iconst (v := (1 : Int32)) hx hb dL_law_305 (by decide) ?_
          refine lv_iadd hx hb dL_law_306 ?_
          refine q_sld hx hb hXs hbl hbA hS hf dL_law_307 (fun v43 hf => ?_)
          refine lv_aload_n hx hb dL_law_308 rfl (lv_at hl 0 rfl) ?_
          refine lv_iload_n hx hb dL_law_309 rfl (lv_at hl 3 rfl) ?_
          refine lv_iconst (v := (2 : Int32)) hx hb dL_law_310 (by decide) ?_
          refine lv_iadd hx hb dL_law_311 ?_
          refine q_sld hx hb hXs hbl hbA hS hf dL_law_312 (fun v44 hf => ?_)
          obtain ⟨v45, hc, hf⟩ := q_b hf
          refine q_calli (va_runV (As := [.int v43, .int v44]) (rest := []) ⟨hx, hb, hml, hown, hT⟩ (mX9_contract l D kz b0 (sz + 178) F X6 sz v43 v44 v45 hc) (cwV 2 hT (q_gV wco_X9_contract wml_L_40 wim_X9_contract wse_X9_contract win_X9) rfl rfl rfl hdX9_contract ⟨Nat.le_of_ble_eq_true rfl, Nat.le_of_ble_eq_true rfl⟩) (q_preV vqX9 (fX9_contract_is hc) hR hK hz) rfl rfl hl.1 rfl (lv_room (Nat.le_of_ble_eq_true rfl)) dL_law_313 ⟨Nat.le_of_ble_eq_true rfl, Nat.le_of_ble_eq_true rfl⟩) hS (fun H locs hR hS hz => ?_)
          refine lv_aload_n hx hb dL_law_316 rfl (lv_at hl 2 rfl) ?_
          refine lv_aload_n hx hb dL_law_317 rfl (lv_at hl 0 rfl) ?_
          refine lv_iload_n hx hb dL_law_318 rfl (lv_at hl 3 rfl) ?_
          refine lv_iconst (v := (1 : Int32)) hx hb dL_law_319 (by decide) ?_
          refine lv_iadd hx hb dL_law_320 ?_
          refine q_sld hx hb hXs hbl hbA hS hf dL_law_321 (fun v46 hf => ?_)
          refine lv_aload_n hx hb dL_law_322 rfl (lv_at hl 0 rfl) ?_
          refine lv_iload_n hx hb dL_law_323 rfl (lv_at hl 3 rfl) ?_
          refine lv_iconst (v := (2 : Int32)) hx hb dL_law_324 (by decide) ?_
          refine lv_iadd hx hb dL_law_325 ?_
          refine q_sld hx hb hXs hbl hbA hS hf dL_law_326 (fun v47 hf => ?_)
          obtain ⟨v48, hc, hf⟩ := q_b hf
          refine q_calli (va_runV (As := [.int v46, .int v47]) (rest := [.int v45]) ⟨hx, hb, hml, hown, hT⟩ (mX10_contract l D kz b0 (sz + 178) F X6 (sz + 151) v46 v47 v48 hc) (cwV 2 hT (q_gV wco_X10_contract wml_L_43 wim_X10_contract wse_X10_contract win_X10) rfl rfl rfl hdX10_contract ⟨Nat.le_of_ble_eq_true rfl, Nat.le_of_ble_eq_true rfl⟩) (q_preV vqX10 (fX10_contract_is hc) hR hK hz) rfl rfl hl.1 rfl (lv_room (Nat.le_of_ble_eq_true rfl)) dL_law_327 ⟨Nat.le_of_ble_eq_true rfl, Nat.le_of_ble_eq_true rfl⟩) hS (fun H locs hR hS hz => ?_)
          refine lv_icmp_eq (tgt := 897) hx hb dL_law_330 (by decide) (fun hc => ?_) (fun hc => ?_)
          · have hf := q_t hf hc
            obtain ⟨v49, ev49⟩ : ∃ y : Int32, y = (v5 + (4 : Int32)) := ⟨_, rfl⟩
            have hf := q_lt ev49 hf
            refine lv_iinc (v := v49) (lv' := [(3, .int v49), (0, .ref b), (1, .ref sz), (2, .ref (sz + 151))]) hx hb dL_law_897 hl (k := 3) rfl (by rw [ev49]; rfl) (by decide) rfl (fun ls hl => ?_)
            refine lv_goto (tgt := 18) hx hb dL_law_900 (by decide) ?_
            exact ih0 _ _ out hf hret hex _ _ _ hR hS hz (lv_sub hl [1, 2, 3, 0] rfl)
          · have hf := q_f hf hc
            refine lv_iconst (v := (0 : Int32)) hx hb dL_law_333 (by decide) ?_
            exact absurd (hret _ (Option.some.inj hf).symm) (by decide)
        have hf := q_f hf hc6
        by_cases hc7 : v8 = (7 : Int32)
        · have hf := q_t hf hc7
          refine lv_tableIn (off := 303) (tgt := 335) hx hb dL_law_32 (by rw [hc7]; decide) (by rw [hc7]; decide) (by rw [hc7]; decide +kernel) (by decide) ?_
          refine lv_aload_n hx hb dL_law_335 rfl (lv_at hl 1 rfl) ?_
          refine lv_aload_n hx hb dL_law_336 rfl (lv_at hl 0 rfl) ?_
          refine lv_iload_n hx hb dL_law_337 rfl (lv_at hl 3 rfl) ?_
          refine lv_iconst (v := (1 : Int32)) hx hb dL_law_338 (by decide) ?_
          refine lv_iadd hx hb dL_law_339 ?_
          refine q_sld hx hb hXs hbl hbA hS hf dL_law_340 (fun v50 hf => ?_)
          obtain ⟨v51, X52, hc, hf⟩ := q_b2 hf
          refine q_calli (va_runV (As := [.int v50]) (rest := []) ⟨hx, hb, hml, hown, hT⟩ (mX9_light l D kz b0 (sz + 178) F X6 sz v50 v51 X52 hc) (cwV 1 hT (q_gV wco_X9_light wml_L_44 wim_X9_light wse_X9_light win_X9) rfl rfl rfl hdX9_light ⟨Nat.le_of_ble_eq_true rfl, Nat.le_of_ble_eq_true rfl⟩) (q_preV vqX9 (fX9_light_is hc) hR hK hz) rfl rfl hl.1 rfl (lv_room (Nat.le_of_ble_eq_true rfl)) dL_law_341 ⟨Nat.le_of_ble_eq_true rfl, Nat.le_of_ble_eq_true rfl⟩) hS (fun H locs hR hS hz => ?_)
          refine lv_aload_n hx hb dL_law_344 rfl (lv_at hl 2 rfl) ?_
          refine lv_aload_n hx hb dL_law_345 rfl (lv_at hl 0 rfl) ?_
          refine lv_iload_n hx hb dL_law_346 rfl (lv_at hl 3 rfl) ?_
          refine lv_iconst (v := (1 : Int32)) hx hb dL_law_347 (by decide) ?_
          refine lv_iadd hx hb dL_law_348 ?_
          refine q_sld hx hb hXs hbl hbA hS hf dL_law_349 (fun v53 hf => ?_)
          obtain ⟨v54, X55, hc, hf⟩ := q_b2 hf
          refine q_calli (va_runV (As := [.int v53]) (rest := [.int v51]) ⟨hx, hb, hml, hown, hT⟩ (mX10_light l D kz b0 (sz + 178) F X52 (sz + 151) v53 v54 X55 hc) (cwV 1 hT (q_gV wco_X10_light wml_L_47 wim_X10_light wse_X10_light win_X10) rfl rfl rfl hdX10_light ⟨Nat.le_of_ble_eq_true rfl, Nat.le_of_ble_eq_true rfl⟩) (q_preV vqX10 (fX10_light_is hc) hR hK hz) rfl rfl hl.1 rfl (lv_room (Nat.le_of_ble_eq_true rfl)) dL_law_350 ⟨Nat.le_of_ble_eq_true rfl, Nat.le_of_ble_eq_true rfl⟩) hS (fun H locs hR hS hz => ?_)
          refine lv_icmp_eq (tgt := 897) hx hb dL_law_353 (by decide) (fun hc => ?_) (fun hc => ?_)
          · have hf := q_t hf hc
            obtain ⟨v56, ev56⟩ : ∃ y : Int32, y = (v5 + (4 : Int32)) := ⟨_, rfl⟩
            have hf := q_lt ev56 hf
            refine lv_iinc (v := v56) (lv' := [(3, .int v56), (0, .ref b), (1, .ref sz), (2, .ref (sz + 151))]) hx hb dL_law_897 hl (k := 3) rfl (by rw [ev56]; rfl) (by decide) rfl (fun ls hl => ?_)
            refine lv_goto (tgt := 18) hx hb dL_law_900 (by decide) ?_
            exact ih0 _ _ out hf hret hex _ _ _ hR hS hz (lv_sub hl [1, 2, 3, 0] rfl)
          · have hf := q_f hf hc
            refine lv_iconst (v := (0 : Int32)) hx hb dL_law_356 (by decide) ?_
            exact absurd (hret _ (Option.some.inj hf).symm) (by decide)
        have hf := q_f hf hc7
        by_cases hc8 : v8 = (8 : Int32)
        · have hf := q_t hf hc8
          refine lv_tableIn (off := 326) (tgt := 358) hx hb dL_law_32 (by rw [hc8]; decide) (by rw [hc8]; decide) (by rw [hc8]; decide +kernel) (by decide) ?_
          refine lv_aload_n hx hb dL_law_358 rfl (lv_at hl 1 rfl) ?_
          refine lv_aload_n hx hb dL_law_359 rfl (lv_at hl 0 rfl) ?_
          refine lv_iload_n hx hb dL_law_360 rfl (lv_at hl 3 rfl) ?_
          refine lv_iconst (v := (1 : Int32)) hx hb dL_law_361 (by decide) ?_
          refine lv_iadd hx hb dL_law_362 ?_
          refine q_sld hx hb hXs hbl hbA hS hf dL_law_363 (fun v57 hf => ?_)
          obtain ⟨v58, X59, hc, hf⟩ := q_b2 hf
          refine q_calli (va_runV (As := [.int v57]) (rest := []) ⟨hx, hb, hml, hown, hT⟩ (mX9_minute l D kz b0 (sz + 178) F X6 sz v57 v58 X59 hc) (cwV 1 hT (q_gV wco_X9_minute wml_L_48 wim_X9_minute wse_X9_minute win_X9) rfl rfl rfl hdX9_minute ⟨Nat.le_of_ble_eq_true rfl, Nat.le_of_ble_eq_true rfl⟩) (q_preV vqX9 (fX9_minute_is hc) hR hK hz) rfl rfl hl.1 rfl (lv_room (Nat.le_of_ble_eq_true rfl)) dL_law_364 ⟨Nat.le_of_ble_eq_true rfl, Nat.le_of_ble_eq_true rfl⟩) hS (fun H locs hR hS hz => ?_)
          refine lv_aload_n hx hb dL_law_367 rfl (lv_at hl 2 rfl) ?_
          refine lv_aload_n hx hb dL_law_368 rfl (lv_at hl 0 rfl) ?_
          refine lv_iload_n hx hb dL_law_369 rfl (lv_at hl 3 rfl) ?_
          refine lv_iconst (v := (1 : Int32)) hx hb dL_law_370 (by decide) ?_
          refine lv_iadd hx hb dL_law_371 ?_
          refine q_sld hx hb hXs hbl hbA hS hf dL_law_372 (fun v60 hf => ?_)
          obtain ⟨v61, X62, hc, hf⟩ := q_b2 hf
          refine q_calli (va_runV (As := [.int v60]) (rest := [.int v58]) ⟨hx, hb, hml, hown, hT⟩ (mX10_minute l D kz b0 (sz + 178) F X59 (sz + 151) v60 v61 X62 hc) (cwV 1 hT (q_gV wco_X10_minute wml_L_51 wim_X10_minute wse_X10_minute win_X10) rfl rfl rfl hdX10_minute ⟨Nat.le_of_ble_eq_true rfl, Nat.le_of_ble_eq_true rfl⟩) (q_preV vqX10 (fX10_minute_is hc) hR hK hz) rfl rfl hl.1 rfl (lv_room (Nat.le_of_ble_eq_true rfl)) dL_law_373 ⟨Nat.le_of_ble_eq_true rfl, Nat.le_of_ble_eq_true rfl⟩) hS (fun H locs hR hS hz => ?_)
          refine lv_icmp_eq (tgt := 897) hx hb dL_law_376 (by decide) (fun hc => ?_) (fun hc => ?_)
          · have hf := q_t hf hc
            obtain ⟨v63, ev63⟩ : ∃ y : Int32, y = (v5 + (4 : Int32)) := ⟨_, rfl⟩
            have hf := q_lt ev63 hf
            refine lv_iinc (v := v63) (lv' := [(3, .int v63), (0, .ref b), (1, .ref sz), (2, .ref (sz + 151))]) hx hb dL_law_897 hl (k := 3) rfl (by rw [ev63]; rfl) (by decide) rfl (fun ls hl => ?_)
            refine lv_goto (tgt := 18) hx hb dL_law_900 (by decide) ?_
            exact ih0 _ _ out hf hret hex _ _ _ hR hS hz (lv_sub hl [1, 2, 3, 0] rfl)
          · have hf := q_f hf hc
            refine lv_iconst (v := (0 : Int32)) hx hb dL_law_379 (by decide) ?_
            exact absurd (hret _ (Option.some.inj hf).symm) (by decide)
        have hf := q_f hf hc8
        by_cases hc9 : v8 = (9 : Int32)
        · have hf := q_t hf hc9
          refine lv_tableIn (off := 349) (tgt := 381) hx hb dL_law_32 (by rw [hc9]; decide) (by rw [hc9]; decide) (by rw [hc9]; decide +kernel) (by decide) ?_
          refine lv_aload_n hx hb dL_law_381 rfl (lv_at hl 1 rfl) ?_
          refine lv_aload_n hx hb dL_law_382 rfl (lv_at hl 0 rfl) ?_
          refine lv_iload_n hx hb dL_law_383 rfl (lv_at hl 3 rfl) ?_
          refine lv_iconst (v := (1 : Int32)) hx hb dL_law_384 (by decide) ?_
          refine lv_iadd hx hb dL_law_385 ?_
          refine q_sld hx hb hXs hbl hbA hS hf dL_law_386 (fun v64 hf => ?_)
          obtain ⟨v65, X66, hc, hf⟩ := q_b2 hf
          refine q_calli (va_runV (As := [.int v64]) (rest := []) ⟨hx, hb, hml, hown, hT⟩ (mX9_fog l D kz b0 (sz + 178) F X6 sz v64 v65 X66 hc) (cwV 1 hT (q_gV wco_X9_fog wml_L_52 wim_X9_fog wse_X9_fog win_X9) rfl rfl rfl hdX9_fog ⟨Nat.le_of_ble_eq_true rfl, Nat.le_of_ble_eq_true rfl⟩) (q_preV vqX9 (fX9_fog_is hc) hR hK hz) rfl rfl hl.1 rfl (lv_room (Nat.le_of_ble_eq_true rfl)) dL_law_387 ⟨Nat.le_of_ble_eq_true rfl, Nat.le_of_ble_eq_true rfl⟩) hS (fun H locs hR hS hz => ?_)
          refine lv_aload_n hx hb dL_law_390 rfl (lv_at hl 2 rfl) ?_
          refine lv_aload_n hx hb dL_law_391 rfl (lv_at hl 0 rfl) ?_
          refine lv_iload_n hx hb dL_law_392 rfl (lv_at hl 3 rfl) ?_
          refine lv_iconst (v := (1 : Int32)) hx hb dL_law_393 (by decide) ?_
          refine lv_iadd hx hb dL_law_394 ?_
          refine q_sld hx hb hXs hbl hbA hS hf dL_law_395 (fun v67 hf => ?_)
          obtain ⟨v68, X69, hc, hf⟩ := q_b2 hf
          refine q_calli (va_runV (As := [.int v67]) (rest := [.int v65]) ⟨hx, hb, hml, hown, hT⟩ (mX10_fog l D kz b0 (sz + 178) F X66 (sz + 151) v67 v68 X69 hc) (cwV 1 hT (q_gV wco_X10_fog wml_L_55 wim_X10_fog wse_X10_fog win_X10) rfl rfl rfl hdX10_fog ⟨Nat.le_of_ble_eq_true rfl, Nat.le_of_ble_eq_true rfl⟩) (q_preV vqX10 (fX10_fog_is hc) hR hK hz) rfl rfl hl.1 rfl (lv_room (Nat.le_of_ble_eq_true rfl)) dL_law_396 ⟨Nat.le_of_ble_eq_true rfl, Nat.le_of_ble_eq_true rfl⟩) hS (fun H locs hR hS hz => ?_)
          refine lv_icmp_eq (tgt := 897) hx hb dL_law_399 (by decide) (fun hc => ?_) (fun hc => ?_)
          · have hf := q_t hf hc
            obtain ⟨v70, ev70⟩ : ∃ y : Int32, y = (v5 + (4 : Int32)) := ⟨_, rfl⟩
            have hf := q_lt ev70 hf
            refine lv_iinc (v := v70) (lv' := [(3, .int v70), (0, .ref b), (1, .ref sz), (2, .ref (sz + 151))]) hx hb dL_law_897 hl (k := 3) rfl (by rw [ev70]; rfl) (by decide) rfl (fun ls hl => ?_)
            refine lv_goto (tgt := 18) hx hb dL_law_900 (by decide) ?_
            exact ih0 _ _ out hf hret hex _ _ _ hR hS hz (lv_sub hl [1, 2, 3, 0] rfl)
          · have hf := q_f hf hc
            refine lv_iconst (v := (0 : Int32)) hx hb dL_law_402 (by decide) ?_
            exact absurd (hret _ (Option.some.inj hf).symm) (by decide)
        have hf := q_f hf hc9
        by_cases hc10 : v8 = (10 : Int32)
        · have hf := q_t hf hc10
          refine lv_tableIn (off := 372) (tgt := 404) hx hb dL_law_32 (by rw [hc10]; decide) (by rw [hc10]; decide) (by rw [hc10]; decide +kernel) (by decide) ?_
          refine lv_aload_n hx hb dL_law_404 rfl (lv_at hl 1 rfl) ?_
          refine lv_aload_n hx hb dL_law_405 rfl (lv_at hl 0 rfl) ?_
          refine lv_iload_n hx hb dL_law_406 rfl (lv_at hl 3 rfl) ?_
          refine lv_iconst (v := (1 : Int32)) hx hb dL_law_407 (by decide) ?_
          refine lv_iadd hx hb dL_law_408 ?_
          refine q_sld hx hb hXs hbl hbA hS hf dL_law_409 (fun v71 hf => ?_)
          obtain ⟨v72, X73, hc, hf⟩ := q_b2 hf
          refine q_calli (va_runV (As := [.int v71]) (rest := []) ⟨hx, hb, hml, hown, hT⟩ (mX9_wind l D kz b0 (sz + 178) F X6 sz v71 v72 X73 hc) (cwV 1 hT (q_gV wco_X9_wind wml_L_56 wim_X9_wind wse_X9_wind win_X9) rfl rfl rfl hdX9_wind ⟨Nat.le_of_ble_eq_true rfl, Nat.le_of_ble_eq_true rfl⟩) (q_preV vqX9 (fX9_wind_is hc) hR hK hz) rfl rfl hl.1 rfl (lv_room (Nat.le_of_ble_eq_true rfl)) dL_law_410 ⟨Nat.le_of_ble_eq_true rfl, Nat.le_of_ble_eq_true rfl⟩) hS (fun H locs hR hS hz => ?_)
          refine lv_aload_n hx hb dL_law_413 rfl (lv_at hl 2 rfl) ?_
          refine lv_aload_n hx hb dL_law_414 rfl (lv_at hl 0 rfl) ?_
          refine lv_iload_n hx hb dL_law_415 rfl (lv_at hl 3 rfl) ?_
          refine lv_iconst (v := (1 : Int32)) hx hb dL_law_416 (by decide) ?_
          refine lv_iadd hx hb dL_law_417 ?_
          refine q_sld hx hb hXs hbl hbA hS hf dL_law_418 (fun v74 hf => ?_)
          obtain ⟨v75, X76, hc, hf⟩ := q_b2 hf
          refine q_calli (va_runV (As := [.int v74]) (rest := [.int v72]) ⟨hx, hb, hml, hown, hT⟩ (mX10_wind l D kz b0 (sz + 178) F X73 (sz + 151) v74 v75 X76 hc) (cwV 1 hT (q_gV wco_X10_wind wml_L_59 wim_X10_wind wse_X10_wind win_X10) rfl rfl rfl hdX10_wind ⟨Nat.le_of_ble_eq_true rfl, Nat.le_of_ble_eq_true rfl⟩) (q_preV vqX10 (fX10_wind_is hc) hR hK hz) rfl rfl hl.1 rfl (lv_room (Nat.le_of_ble_eq_true rfl)) dL_law_419 ⟨Nat.le_of_ble_eq_true rfl, Nat.le_of_ble_eq_true rfl⟩) hS (fun H locs hR hS hz => ?_)
          refine lv_icmp_eq (tgt := 897) hx hb dL_law_422 (by decide) (fun hc => ?_) (fun hc => ?_)
          · have hf := q_t hf hc
            obtain ⟨v77, ev77⟩ : ∃ y : Int32, y = (v5 + (4 : Int32)) := ⟨_, rfl⟩
            have hf := q_lt ev77 hf
            refine lv_iinc (v := v77) (lv' := [(3, .int v77), (0, .ref b), (1, .ref sz), (2, .ref (sz + 151))]) hx hb dL_law_897 hl (k := 3) rfl (by rw [ev77]; rfl) (by decide) rfl (fun ls hl => ?_)
            refine lv_goto (tgt := 18) hx hb dL_law_900 (by decide) ?_
            exact ih0 _ _ out hf hret hex _ _ _ hR hS hz (lv_sub hl [1, 2, 3, 0] rfl)
          · have hf := q_f hf hc
            refine lv_iconst (v := (0 : Int32)) hx hb dL_law_425 (by decide) ?_
            exact absurd (hret _ (Option.some.inj hf).symm) (by decide)
        have hf := q_f hf hc10
        by_cases hc11 : v8 = (11 : Int32)
        · have hf := q_t hf hc11
          refine lv_tableIn (off := 395) (tgt := 427) hx hb dL_law_32 (by rw [hc11]; decide) (by rw [hc11]; decide) (by rw [hc11]; decide +kernel) (by decide) ?_
          refine lv_aload_n hx hb dL_law_427 rfl (lv_at hl 1 rfl) ?_
          refine lv_aload_n hx hb dL_law_428 rfl (lv_at hl 0 rfl) ?_
          refine lv_iload_n hx hb dL_law_429 rfl (lv_at hl 3 rfl) ?_
          refine lv_iconst (v := (1 : Int32)) hx hb dL_law_430 (by decide) ?_
          refine lv_iadd hx hb dL_law_431 ?_
          refine q_sld hx hb hXs hbl hbA hS hf dL_law_432 (fun v78 hf => ?_)
          obtain ⟨v79, X80, hc, hf⟩ := q_b2 hf
          refine q_calli (va_runV (As := [.int v78]) (rest := []) ⟨hx, hb, hml, hown, hT⟩ (mX9_drift l D kz b0 (sz + 178) F X6 sz v78 v79 X80 hc) (cwV 1 hT (q_gV wco_X9_drift wml_L_60 wim_X9_drift wse_X9_drift win_X9) rfl rfl rfl hdX9_drift ⟨Nat.le_of_ble_eq_true rfl, Nat.le_of_ble_eq_true rfl⟩) (q_preV vqX9 (fX9_drift_is hc) hR hK hz) rfl rfl hl.1 rfl (lv_room (Nat.le_of_ble_eq_true rfl)) dL_law_433 ⟨Nat.le_of_ble_eq_true rfl, Nat.le_of_ble_eq_true rfl⟩) hS (fun H locs hR hS hz => ?_)
          refine lv_aload_n hx hb dL_law_436 rfl (lv_at hl 2 rfl) ?_
          refine lv_aload_n hx hb dL_law_437 rfl (lv_at hl 0 rfl) ?_
          refine lv_iload_n hx hb dL_law_438 rfl (lv_at hl 3 rfl) ?_
          refine lv_iconst (v := (1 : Int32)) hx hb dL_law_439 (by decide) ?_
          refine lv_iadd hx hb dL_law_440 ?_
          refine q_sld hx hb hXs hbl hbA hS hf dL_law_441 (fun v81 hf => ?_)
          obtain ⟨v82, X83, hc, hf⟩ := q_b2 hf
          refine q_calli (va_runV (As := [.int v81]) (rest := [.int v79]) ⟨hx, hb, hml, hown, hT⟩ (mX10_drift l D kz b0 (sz + 178) F X80 (sz + 151) v81 v82 X83 hc) (cwV 1 hT (q_gV wco_X10_drift wml_L_63 wim_X10_drift wse_X10_drift win_X10) rfl rfl rfl hdX10_drift ⟨Nat.le_of_ble_eq_true rfl, Nat.le_of_ble_eq_true rfl⟩) (q_preV vqX10 (fX10_drift_is hc) hR hK hz) rfl rfl hl.1 rfl (lv_room (Nat.le_of_ble_eq_true rfl)) dL_law_442 ⟨Nat.le_of_ble_eq_true rfl, Nat.le_of_ble_eq_true rfl⟩) hS (fun H locs hR hS hz => ?_)
          refine lv_icmp_eq (tgt := 897) hx hb dL_law_445 (by decide) (fun hc => ?_) (fun hc => ?_)
          · have hf := q_t hf hc
            obtain ⟨v84, ev84⟩ : ∃ y : Int32, y = (v5 + (4 : Int32)) := ⟨_, rfl⟩
            have hf := q_lt ev84 hf
            refine lv_iinc (v := v84) (lv' := [(3, .int v84), (0, .ref b), (1, .ref sz), (2, .ref (sz + 151))]) hx hb dL_law_897 hl (k := 3) rfl (by rw [ev84]; rfl) (by decide) rfl (fun ls hl => ?_)
            refine lv_goto (tgt := 18) hx hb dL_law_900 (by decide) ?_
            exact ih0 _ _ out hf hret hex _ _ _ hR hS hz (lv_sub hl [1, 2, 3, 0] rfl)
          · have hf := q_f hf hc
            refine lv_iconst (v := (0 : Int32)) hx hb dL_law_448 (by decide) ?_
            exact absurd (hret _ (Option.some.inj hf).symm) (by decide)
        have hf := q_f hf hc11
        by_cases hc12 : v8 = (12 : Int32)
        · have hf := q_t hf hc12
          refine lv_tableIn (off := 418) (tgt := 450) hx hb dL_law_32 (by rw [hc12]; decide) (by rw [hc12]; decide) (by rw [hc12]; decide +kernel) (by decide) ?_
          refine lv_aload_n hx hb dL_law_450 rfl (lv_at hl 1 rfl) ?_
          obtain ⟨v85, X86, hc, hf⟩ := q_b2 hf
          refine q_calli (va_runV (As := []) (rest := []) ⟨hx, hb, hml, hown, hT⟩ (mX9_undo l D kz b0 (sz + 178) F X6 sz v85 X86 hc) (cwV 0 hT (q_gV wco_X9_undo wml_L_64 wim_X9_undo wse_X9_undo win_X9) rfl rfl rfl hdX9_undo ⟨Nat.le_of_ble_eq_true rfl, Nat.le_of_ble_eq_true rfl⟩) (q_preV vqX9 (fX9_undo_is hc) hR hK hz) rfl rfl hl.1 rfl (lv_room (Nat.le_of_ble_eq_true rfl)) dL_law_451 ⟨Nat.le_of_ble_eq_true rfl, Nat.le_of_ble_eq_true rfl⟩) hS (fun H locs hR hS hz => ?_)
          refine lv_aload_n hx hb dL_law_454 rfl (lv_at hl 2 rfl) ?_
          obtain ⟨v87, X88, hc, hf⟩ := q_b2 hf
          refine q_calli (va_runV (As := []) (rest := [.int v85]) ⟨hx, hb, hml, hown, hT⟩ (mX10_undo l D kz b0 (sz + 178) F X86 (sz + 151) v87 X88 hc) (cwV 0 hT (q_gV wco_X10_undo wml_L_67 wim_X10_undo wse_X10_undo win_X10) rfl rfl rfl hdX10_undo ⟨Nat.le_of_ble_eq_true rfl, Nat.le_of_ble_eq_true rfl⟩) (q_preV vqX10 (fX10_undo_is hc) hR hK hz) rfl rfl hl.1 rfl (lv_room (Nat.le_of_ble_eq_true rfl)) dL_law_455 ⟨Nat.le_of_ble_eq_true rfl, Nat.le_of_ble_eq_true rfl⟩) hS (fun H locs hR hS hz => ?_)
          refine lv_icmp_eq (tgt := 897) hx hb dL_law_458 (by decide) (fun hc => ?_) (fun hc => ?_)
          · have hf := q_t hf hc
            obtain ⟨v89, ev89⟩ : ∃ y : Int32, y = (v5 + (4 : Int32)) := ⟨_, rfl⟩
            have hf := q_lt ev89 hf
            refine lv_iinc (v := v89) (lv' := [(3, .int v89), (0, .ref b), (1, .ref sz), (2, .ref (sz + 151))]) hx hb dL_law_897 hl (k := 3) rfl (by rw [ev89]; rfl) (by decide) rfl (fun ls hl => ?_)
            refine lv_goto (tgt := 18) hx hb dL_law_900 (by decide) ?_
            exact ih0 _ _ out hf hret hex _ _ _ hR hS hz (lv_sub hl [1, 2, 3, 0] rfl)
          · have hf := q_f hf hc
            refine lv_iconst (v := (0 : Int32)) hx hb dL_law_461 (by decide) ?_
            exact absurd (hret _ (Option.some.inj hf).symm) (by decide)
        have hf := q_f hf hc12
        by_cases hc13 : v8 = (13 : Int32)
        · have hf := q_t hf hc13
          refine lv_tableIn (off := 431) (tgt := 463) hx hb dL_law_32 (by rw [hc13]; decide) (by rw [hc13]; decide) (by rw [hc13]; decide +kernel) (by decide) ?_
          refine lv_aload_n hx hb dL_law_463 rfl (lv_at hl 1 rfl) ?_
          refine lv_aload_n hx hb dL_law_464 rfl (lv_at hl 0 rfl) ?_
          refine lv_iload_n hx hb dL_law_465 rfl (lv_at hl 3 rfl) ?_
          refine lv_iconst (v := (1 : Int32)) hx hb dL_law_466 (by decide) ?_
          refine lv_iadd hx hb dL_law_467 ?_
          refine q_sld hx hb hXs hbl hbA hS hf dL_law_468 (fun v90 hf => ?_)
          refine lv_aload_n hx hb dL_law_469 rfl (lv_at hl 0 rfl) ?_
          refine lv_iload_n hx hb dL_law_470 rfl (lv_at hl 3 rfl) ?_
          refine lv_iconst (v := (2 : Int32)) hx hb dL_law_471 (by decide) ?_
          refine lv_iadd hx hb dL_law_472 ?_
          refine q_sld hx hb hXs hbl hbA hS hf dL_law_473 (fun v91 hf => ?_)
          obtain ⟨v92, X93, hc, hf⟩ := q_b2 hf
          refine q_calli (va_runV (As := [.int v90, .int v91]) (rest := []) ⟨hx, hb, hml, hown, hT⟩ (mX9_order l D kz b0 (sz + 178) F X6 sz v90 v91 v92 X93 hc) (cwV 2 hT (q_gV wco_X9_order wml_L_68 wim_X9_order wse_X9_order win_X9) rfl rfl rfl hdX9_order ⟨Nat.le_of_ble_eq_true rfl, Nat.le_of_ble_eq_true rfl⟩) (q_preV vqX9 (fX9_order_is hc) hR hK hz) rfl rfl hl.1 rfl (lv_room (Nat.le_of_ble_eq_true rfl)) dL_law_474 ⟨Nat.le_of_ble_eq_true rfl, Nat.le_of_ble_eq_true rfl⟩) hS (fun H locs hR hS hz => ?_)
          refine lv_aload_n hx hb dL_law_477 rfl (lv_at hl 2 rfl) ?_
          refine lv_aload_n hx hb dL_law_478 rfl (lv_at hl 0 rfl) ?_
          refine lv_iload_n hx hb dL_law_479 rfl (lv_at hl 3 rfl) ?_
          refine lv_iconst (v := (1 : Int32)) hx hb dL_law_480 (by decide) ?_
          refine lv_iadd hx hb dL_law_481 ?_
          refine q_sld hx hb hXs hbl hbA hS hf dL_law_482 (fun v94 hf => ?_)
          refine lv_aload_n hx hb dL_law_483 rfl (lv_at hl 0 rfl) ?_
          refine lv_iload_n hx hb dL_law_484 rfl (lv_at hl 3 rfl) ?_
          refine lv_iconst (v := (2 : Int32)) hx hb dL_law_485 (by decide) ?_
          refine lv_iadd hx hb dL_law_486 ?_
          refine q_sld hx hb hXs hbl hbA hS hf dL_law_487 (fun v95 hf => ?_)
          obtain ⟨v96, X97, hc, hf⟩ := q_b2 hf
          refine q_calli (va_runV (As := [.int v94, .int v95]) (rest := [.int v92]) ⟨hx, hb, hml, hown, hT⟩ (mX10_order l D kz b0 (sz + 178) F X93 (sz + 151) v94 v95 v96 X97 hc) (cwV 2 hT (q_gV wco_X10_order wml_L_71 wim_X10_order wse_X10_order win_X10) rfl rfl rfl hdX10_order ⟨Nat.le_of_ble_eq_true rfl, Nat.le_of_ble_eq_true rfl⟩) (q_preV vqX10 (fX10_order_is hc) hR hK hz) rfl rfl hl.1 rfl (lv_room (Nat.le_of_ble_eq_true rfl)) dL_law_488 ⟨Nat.le_of_ble_eq_true rfl, Nat.le_of_ble_eq_true rfl⟩) hS (fun H locs hR hS hz => ?_)
          refine lv_icmp_eq (tgt := 897) hx hb dL_law_491 (by decide) (fun hc => ?_) (fun hc => ?_)
          · have hf := q_t hf hc
            obtain ⟨v98, ev98⟩ : ∃ y : Int32, y = (v5 + (4 : Int32)) := ⟨_, rfl⟩
            have hf := q_lt ev98 hf
            refine lv_iinc (v := v98) (lv' := [(3, .int v98), (0, .ref b), (1, .ref sz), (2, .ref (sz + 151))]) hx hb dL_law_897 hl (k := 3) rfl (by rw [ev98]; rfl) (by decide) rfl (fun ls hl => ?_)
            refine lv_goto (tgt := 18) hx hb dL_law_900 (by decide) ?_
            exact ih0 _ _ out hf hret hex _ _ _ hR hS hz (lv_sub hl [1, 2, 3, 0] rfl)
          · have hf := q_f hf hc
            refine lv_iconst (v := (0 : Int32)) hx hb dL_law_494 (by decide) ?_
            exact absurd (hret _ (Option.some.inj hf).symm) (by decide)
        have hf := q_f hf hc13
        by_cases hc14 : v8 = (14 : Int32)
        · have hf := q_t hf hc14
          refine lv_tableIn (off := 464) (tgt := 496) hx hb dL_law_32 (by rw [hc14]; decide) (by rw [hc14]; decide) (by rw [hc14]; decide +kernel) (by decide) ?_
          refine lv_aload_n hx hb dL_law_496 rfl (lv_at hl 1 rfl) ?_
          refine lv_aload_n hx hb dL_law_497 rfl (lv_at hl 0 rfl) ?_
          refine lv_iload_n hx hb dL_law_498 rfl (lv_at hl 3 rfl) ?_
          refine lv_iconst (v := (1 : Int32)) hx hb dL_law_499 (by decide) ?_
          refine lv_iadd hx hb dL_law_500 ?_
          refine q_sld hx hb hXs hbl hbA hS hf dL_law_501 (fun v99 hf => ?_)
          obtain ⟨v100, hc, hf⟩ := q_b hf
          refine q_calli (va_runV (As := [.int v99]) (rest := []) ⟨hx, hb, hml, hown, hT⟩ (mX9_signers l D kz b0 (sz + 178) F X6 sz v99 v100 hc) (cwV 1 hT (q_gV wco_X9_signers wml_L_72 wim_X9_signers wse_X9_signers win_X9) rfl rfl rfl hdX9_signers ⟨Nat.le_of_ble_eq_true rfl, Nat.le_of_ble_eq_true rfl⟩) (q_preV vqX9 (fX9_signers_is hc) hR hK hz) rfl rfl hl.1 rfl (lv_room (Nat.le_of_ble_eq_true rfl)) dL_law_502 ⟨Nat.le_of_ble_eq_true rfl, Nat.le_of_ble_eq_true rfl⟩) hS (fun H locs hR hS hz => ?_)
          refine lv_aload_n hx hb dL_law_505 rfl (lv_at hl 2 rfl) ?_
          refine lv_aload_n hx hb dL_law_506 rfl (lv_at hl 0 rfl) ?_
          refine lv_iload_n hx hb dL_law_507 rfl (lv_at hl 3 rfl) ?_
          refine lv_iconst (v := (1 : Int32)) hx hb dL_law_508 (by decide) ?_
          refine lv_iadd hx hb dL_law_509 ?_
          refine q_sld hx hb hXs hbl hbA hS hf dL_law_510 (fun v101 hf => ?_)
          obtain ⟨v102, hc, hf⟩ := q_b hf
          refine q_calli (va_runV (As := [.int v101]) (rest := [.int v100]) ⟨hx, hb, hml, hown, hT⟩ (mX10_signers l D kz b0 (sz + 178) F X6 (sz + 151) v101 v102 hc) (cwV 1 hT (q_gV wco_X10_signers wml_L_75 wim_X10_signers wse_X10_signers win_X10) rfl rfl rfl hdX10_signers ⟨Nat.le_of_ble_eq_true rfl, Nat.le_of_ble_eq_true rfl⟩) (q_preV vqX10 (fX10_signers_is hc) hR hK hz) rfl rfl hl.1 rfl (lv_room (Nat.le_of_ble_eq_true rfl)) dL_law_511 ⟨Nat.le_of_ble_eq_true rfl, Nat.le_of_ble_eq_true rfl⟩) hS (fun H locs hR hS hz => ?_)
          refine lv_icmp_eq (tgt := 897) hx hb dL_law_514 (by decide) (fun hc => ?_) (fun hc => ?_)
          · have hf := q_t hf hc
            obtain ⟨v103, ev103⟩ : ∃ y : Int32, y = (v5 + (4 : Int32)) := ⟨_, rfl⟩
            have hf := q_lt ev103 hf
            refine lv_iinc (v := v103) (lv' := [(3, .int v103), (0, .ref b), (1, .ref sz), (2, .ref (sz + 151))]) hx hb dL_law_897 hl (k := 3) rfl (by rw [ev103]; rfl) (by decide) rfl (fun ls hl => ?_)
            refine lv_goto (tgt := 18) hx hb dL_law_900 (by decide) ?_
            exact ih0 _ _ out hf hret hex _ _ _ hR hS hz (lv_sub hl [1, 2, 3, 0] rfl)
          · have hf := q_f hf hc
            refine lv_iconst (v := (0 : Int32)) hx hb dL_law_517 (by decide) ?_
            exact absurd (hret _ (Option.some.inj hf).symm) (by decide)
        have hf := q_f hf hc14
        by_cases hc15 : v8 = (15 : Int32)
        · have hf := q_t hf hc15
          refine lv_tableIn (off := 487) (tgt := 519) hx hb dL_law_32 (by rw [hc15]; decide) (by rw [hc15]; decide) (by rw [hc15]; decide +kernel) (by decide) ?_
          refine lv_aload_n hx hb dL_law_519 rfl (lv_at hl 1 rfl) ?_
          refine lv_aload_n hx hb dL_law_520 rfl (lv_at hl 0 rfl) ?_
          refine lv_iload_n hx hb dL_law_521 rfl (lv_at hl 3 rfl) ?_
          refine lv_iconst (v := (1 : Int32)) hx hb dL_law_522 (by decide) ?_
          refine lv_iadd hx hb dL_law_523 ?_
          refine q_sld hx hb hXs hbl hbA hS hf dL_law_524 (fun v104 hf => ?_)
          obtain ⟨v105, hc, hf⟩ := q_b hf
          refine q_calli (va_runV (As := [.int v104]) (rest := []) ⟨hx, hb, hml, hown, hT⟩ (mX9_farShore l D kz b0 (sz + 178) F X6 sz v104 v105 hc) (cwV 1 hT (q_gV wco_X9_farShore wml_L_76 wim_X9_farShore wse_X9_farShore win_X9) rfl rfl rfl hdX9_farShore ⟨Nat.le_of_ble_eq_true rfl, Nat.le_of_ble_eq_true rfl⟩) (q_preV vqX9 (fX9_farShore_is hc) hR hK hz) rfl rfl hl.1 rfl (lv_room (Nat.le_of_ble_eq_true rfl)) dL_law_525 ⟨Nat.le_of_ble_eq_true rfl, Nat.le_of_ble_eq_true rfl⟩) hS (fun H locs hR hS hz => ?_)
          refine lv_aload_n hx hb dL_law_528 rfl (lv_at hl 2 rfl) ?_
          refine lv_aload_n hx hb dL_law_529 rfl (lv_at hl 0 rfl) ?_
          refine lv_iload_n hx hb dL_law_530 rfl (lv_at hl 3 rfl) ?_
          refine lv_iconst (v := (1 : Int32)) hx hb dL_law_531 (by decide) ?_
          refine lv_iadd hx hb dL_law_532 ?_
          refine q_sld hx hb hXs hbl hbA hS hf dL_law_533 (fun v106 hf => ?_)
          obtain ⟨v107, hc, hf⟩ := q_b hf
          refine q_calli (va_runV (As := [.int v106]) (rest := [.int v105]) ⟨hx, hb, hml, hown, hT⟩ (mX10_farShore l D kz b0 (sz + 178) F X6 (sz + 151) v106 v107 hc) (cwV 1 hT (q_gV wco_X10_farShore wml_L_79 wim_X10_farShore wse_X10_farShore win_X10) rfl rfl rfl hdX10_farShore ⟨Nat.le_of_ble_eq_true rfl, Nat.le_of_ble_eq_true rfl⟩) (q_preV vqX10 (fX10_farShore_is hc) hR hK hz) rfl rfl hl.1 rfl (lv_room (Nat.le_of_ble_eq_true rfl)) dL_law_534 ⟨Nat.le_of_ble_eq_true rfl, Nat.le_of_ble_eq_true rfl⟩) hS (fun H locs hR hS hz => ?_)
          refine lv_icmp_eq (tgt := 897) hx hb dL_law_537 (by decide) (fun hc => ?_) (fun hc => ?_)
          · have hf := q_t hf hc
            obtain ⟨v108, ev108⟩ : ∃ y : Int32, y = (v5 + (4 : Int32)) := ⟨_, rfl⟩
            have hf := q_lt ev108 hf
            refine lv_iinc (v := v108) (lv' := [(3, .int v108), (0, .ref b), (1, .ref sz), (2, .ref (sz + 151))]) hx hb dL_law_897 hl (k := 3) rfl (by rw [ev108]; rfl) (by decide) rfl (fun ls hl => ?_)
            refine lv_goto (tgt := 18) hx hb dL_law_900 (by decide) ?_
            exact ih0 _ _ out hf hret hex _ _ _ hR hS hz (lv_sub hl [1, 2, 3, 0] rfl)
          · have hf := q_f hf hc
            refine lv_iconst (v := (0 : Int32)) hx hb dL_law_540 (by decide) ?_
            exact absurd (hret _ (Option.some.inj hf).symm) (by decide)
        have hf := q_f hf hc15
        by_cases hc16 : v8 = (16 : Int32)
        · have hf := q_t hf hc16
          refine lv_tableIn (off := 510) (tgt := 542) hx hb dL_law_32 (by rw [hc16]; decide) (by rw [hc16]; decide) (by rw [hc16]; decide +kernel) (by decide) ?_
          refine lv_aload_n hx hb dL_law_542 rfl (lv_at hl 1 rfl) ?_
          refine lv_aload_n hx hb dL_law_543 rfl (lv_at hl 0 rfl) ?_
          refine lv_iload_n hx hb dL_law_544 rfl (lv_at hl 3 rfl) ?_
          refine lv_iconst (v := (1 : Int32)) hx hb dL_law_545 (by decide) ?_
          refine lv_iadd hx hb dL_law_546 ?_
          refine q_sld hx hb hXs hbl hbA hS hf dL_law_547 (fun v109 hf => ?_)
          refine lv_aload_n hx hb dL_law_548 rfl (lv_at hl 0 rfl) ?_
          refine lv_iload_n hx hb dL_law_549 rfl (lv_at hl 3 rfl) ?_
          refine lv_iconst (v := (2 : Int32)) hx hb dL_law_550 (by decide) ?_
          refine lv_iadd hx hb dL_law_551 ?_
          refine q_sld hx hb hXs hbl hbA hS hf dL_law_552 (fun v110 hf => ?_)
          obtain ⟨v111, hc, hf⟩ := q_b hf
          refine q_calli (va_runV (As := [.int v109, .int v110]) (rest := []) ⟨hx, hb, hml, hown, hT⟩ (mX9_cross l D kz b0 (sz + 178) F X6 sz v109 v110 v111 hc) (cwV 2 hT (q_gV wco_X9_cross wml_L_80 wim_X9_cross wse_X9_cross win_X9) rfl rfl rfl hdX9_cross ⟨Nat.le_of_ble_eq_true rfl, Nat.le_of_ble_eq_true rfl⟩) (q_preV vqX9 (fX9_cross_is hc) hR hK hz) rfl rfl hl.1 rfl (lv_room (Nat.le_of_ble_eq_true rfl)) dL_law_553 ⟨Nat.le_of_ble_eq_true rfl, Nat.le_of_ble_eq_true rfl⟩) hS (fun H locs hR hS hz => ?_)
          refine lv_aload_n hx hb dL_law_556 rfl (lv_at hl 2 rfl) ?_
          refine lv_aload_n hx hb dL_law_557 rfl (lv_at hl 0 rfl) ?_
          refine lv_iload_n hx hb dL_law_558 rfl (lv_at hl 3 rfl) ?_
          refine lv_iconst (v := (1 : Int32)) hx hb dL_law_559 (by decide) ?_
          refine lv_iadd hx hb dL_law_560 ?_
          refine q_sld hx hb hXs hbl hbA hS hf dL_law_561 (fun v112 hf => ?_)
          refine lv_aload_n hx hb dL_law_562 rfl (lv_at hl 0 rfl) ?_
          refine lv_iload_n hx hb dL_law_563 rfl (lv_at hl 3 rfl) ?_
          refine lv_iconst (v := (2 : Int32)) hx hb dL_law_564 (by decide) ?_
          refine lv_iadd hx hb dL_law_565 ?_
          refine q_sld hx hb hXs hbl hbA hS hf dL_law_566 (fun v113 hf => ?_)
          obtain ⟨v114, hc, hf⟩ := q_b hf
          refine q_calli (va_runV (As := [.int v112, .int v113]) (rest := [.int v111]) ⟨hx, hb, hml, hown, hT⟩ (mX10_cross l D kz b0 (sz + 178) F X6 (sz + 151) v112 v113 v114 hc) (cwV 2 hT (q_gV wco_X10_cross wml_L_83 wim_X10_cross wse_X10_cross win_X10) rfl rfl rfl hdX10_cross ⟨Nat.le_of_ble_eq_true rfl, Nat.le_of_ble_eq_true rfl⟩) (q_preV vqX10 (fX10_cross_is hc) hR hK hz) rfl rfl hl.1 rfl (lv_room (Nat.le_of_ble_eq_true rfl)) dL_law_567 ⟨Nat.le_of_ble_eq_true rfl, Nat.le_of_ble_eq_true rfl⟩) hS (fun H locs hR hS hz => ?_)
          refine lv_icmp_eq (tgt := 897) hx hb dL_law_570 (by decide) (fun hc => ?_) (fun hc => ?_)
          · have hf := q_t hf hc
            obtain ⟨v115, ev115⟩ : ∃ y : Int32, y = (v5 + (4 : Int32)) := ⟨_, rfl⟩
            have hf := q_lt ev115 hf
            refine lv_iinc (v := v115) (lv' := [(3, .int v115), (0, .ref b), (1, .ref sz), (2, .ref (sz + 151))]) hx hb dL_law_897 hl (k := 3) rfl (by rw [ev115]; rfl) (by decide) rfl (fun ls hl => ?_)
            refine lv_goto (tgt := 18) hx hb dL_law_900 (by decide) ?_
            exact ih0 _ _ out hf hret hex _ _ _ hR hS hz (lv_sub hl [1, 2, 3, 0] rfl)
          · have hf := q_f hf hc
            refine lv_iconst (v := (0 : Int32)) hx hb dL_law_573 (by decide) ?_
            exact absurd (hret _ (Option.some.inj hf).symm) (by decide)
        have hf := q_f hf hc16
        by_cases hc17 : v8 = (17 : Int32)
        · have hf := q_t hf hc17
          refine lv_tableIn (off := 543) (tgt := 575) hx hb dL_law_32 (by rw [hc17]; decide) (by rw [hc17]; decide) (by rw [hc17]; decide +kernel) (by decide) ?_
          refine lv_aload_n hx hb dL_law_575 rfl (lv_at hl 1 rfl) ?_
          refine lv_aload_n hx hb dL_law_576 rfl (lv_at hl 0 rfl) ?_
          refine lv_iload_n hx hb dL_law_577 rfl (lv_at hl 3 rfl) ?_
          refine lv_iconst (v := (1 : Int32)) hx hb dL_law_578 (by decide) ?_
          refine lv_iadd hx hb dL_law_579 ?_
          refine q_sld hx hb hXs hbl hbA hS hf dL_law_580 (fun v116 hf => ?_)
          obtain ⟨v117, hc, hf⟩ := q_b hf
          refine q_calli (va_runV (As := [.int v116]) (rest := []) ⟨hx, hb, hml, hown, hT⟩ (mX9_treaty l D kz b0 (sz + 178) F X6 sz v116 v117 hc) (cwV 1 hT (q_gV wco_X9_treaty wml_L_84 wim_X9_treaty wse_X9_treaty win_X9) rfl rfl rfl hdX9_treaty ⟨Nat.le_of_ble_eq_true rfl, Nat.le_of_ble_eq_true rfl⟩) (q_preV vqX9 (fX9_treaty_is hc) hR hK hz) rfl rfl hl.1 rfl (lv_room (Nat.le_of_ble_eq_true rfl)) dL_law_581 ⟨Nat.le_of_ble_eq_true rfl, Nat.le_of_ble_eq_true rfl⟩) hS (fun H locs hR hS hz => ?_)
          refine lv_aload_n hx hb dL_law_584 rfl (lv_at hl 2 rfl) ?_
          refine lv_aload_n hx hb dL_law_585 rfl (lv_at hl 0 rfl) ?_
          refine lv_iload_n hx hb dL_law_586 rfl (lv_at hl 3 rfl) ?_
          refine lv_iconst (v := (1 : Int32)) hx hb dL_law_587 (by decide) ?_
          refine lv_iadd hx hb dL_law_588 ?_
          refine q_sld hx hb hXs hbl hbA hS hf dL_law_589 (fun v118 hf => ?_)
          obtain ⟨v119, hc, hf⟩ := q_b hf
          refine q_calli (va_runV (As := [.int v118]) (rest := [.int v117]) ⟨hx, hb, hml, hown, hT⟩ (mX10_treaty l D kz b0 (sz + 178) F X6 (sz + 151) v118 v119 hc) (cwV 1 hT (q_gV wco_X10_treaty wml_L_87 wim_X10_treaty wse_X10_treaty win_X10) rfl rfl rfl hdX10_treaty ⟨Nat.le_of_ble_eq_true rfl, Nat.le_of_ble_eq_true rfl⟩) (q_preV vqX10 (fX10_treaty_is hc) hR hK hz) rfl rfl hl.1 rfl (lv_room (Nat.le_of_ble_eq_true rfl)) dL_law_590 ⟨Nat.le_of_ble_eq_true rfl, Nat.le_of_ble_eq_true rfl⟩) hS (fun H locs hR hS hz => ?_)
          refine lv_icmp_eq (tgt := 897) hx hb dL_law_593 (by decide) (fun hc => ?_) (fun hc => ?_)
          · have hf := q_t hf hc
            obtain ⟨v120, ev120⟩ : ∃ y : Int32, y = (v5 + (4 : Int32)) := ⟨_, rfl⟩
            have hf := q_lt ev120 hf
            refine lv_iinc (v := v120) (lv' := [(3, .int v120), (0, .ref b), (1, .ref sz), (2, .ref (sz + 151))]) hx hb dL_law_897 hl (k := 3) rfl (by rw [ev120]; rfl) (by decide) rfl (fun ls hl => ?_)
            refine lv_goto (tgt := 18) hx hb dL_law_900 (by decide) ?_
            exact ih0 _ _ out hf hret hex _ _ _ hR hS hz (lv_sub hl [1, 2, 3, 0] rfl)
          · have hf := q_f hf hc
            refine lv_iconst (v := (0 : Int32)) hx hb dL_law_596 (by decide) ?_
            exact absurd (hret _ (Option.some.inj hf).symm) (by decide)
        have hf := q_f hf hc17
        by_cases hc18 : v8 = (18 : Int32)
        · have hf := q_t hf hc18
          refine lv_tableIn (off := 566) (tgt := 598) hx hb dL_law_32 (by rw [hc18]; decide) (by rw [hc18]; decide) (by rw [hc18]; decide +kernel) (by decide) ?_
          refine lv_aload_n hx hb dL_law_598 rfl (lv_at hl 1 rfl) ?_
          refine lv_aload_n hx hb dL_law_599 rfl (lv_at hl 0 rfl) ?_
          refine lv_iload_n hx hb dL_law_600 rfl (lv_at hl 3 rfl) ?_
          refine lv_iconst (v := (1 : Int32)) hx hb dL_law_601 (by decide) ?_
          refine lv_iadd hx hb dL_law_602 ?_
          refine q_sld hx hb hXs hbl hbA hS hf dL_law_603 (fun v121 hf => ?_)
          refine lv_aload_n hx hb dL_law_604 rfl (lv_at hl 0 rfl) ?_
          refine lv_iload_n hx hb dL_law_605 rfl (lv_at hl 3 rfl) ?_
          refine lv_iconst (v := (2 : Int32)) hx hb dL_law_606 (by decide) ?_
          refine lv_iadd hx hb dL_law_607 ?_
          refine q_sld hx hb hXs hbl hbA hS hf dL_law_608 (fun v122 hf => ?_)
          refine lv_aload_n hx hb dL_law_609 rfl (lv_at hl 0 rfl) ?_
          refine lv_iload_n hx hb dL_law_610 rfl (lv_at hl 3 rfl) ?_
          refine lv_iconst (v := (3 : Int32)) hx hb dL_law_611 (by decide) ?_
          refine lv_iadd hx hb dL_law_612 ?_
          refine q_sld hx hb hXs hbl hbA hS hf dL_law_613 (fun v123 hf => ?_)
          obtain ⟨v124, hc, hf⟩ := q_b hf
          refine q_calli (va_runV (As := [.int v121, .int v122, .int v123]) (rest := []) ⟨hx, hb, hml, hown, hT⟩ (mX9_forged l D kz b0 (sz + 178) F X6 sz v121 v122 v123 v124 hc) (cwV 3 hT (q_gV wco_X9_forged wml_L_88 wim_X9_forged wse_X9_forged win_X9) rfl rfl rfl hdX9_forged ⟨Nat.le_of_ble_eq_true rfl, Nat.le_of_ble_eq_true rfl⟩) (q_preV vqX9 (fX9_forged_is hc) hR hK hz) rfl rfl hl.1 rfl (lv_room (Nat.le_of_ble_eq_true rfl)) dL_law_614 ⟨Nat.le_of_ble_eq_true rfl, Nat.le_of_ble_eq_true rfl⟩) hS (fun H locs hR hS hz => ?_)
          refine lv_aload_n hx hb dL_law_617 rfl (lv_at hl 2 rfl) ?_
          refine lv_aload_n hx hb dL_law_618 rfl (lv_at hl 0 rfl) ?_
          refine lv_iload_n hx hb dL_law_619 rfl (lv_at hl 3 rfl) ?_
          refine lv_iconst (v := (1 : Int32)) hx hb dL_law_620 (by decide) ?_
          refine lv_iadd hx hb dL_law_621 ?_
          refine q_sld hx hb hXs hbl hbA hS hf dL_law_622 (fun v125 hf => ?_)
          refine lv_aload_n hx hb dL_law_623 rfl (lv_at hl 0 rfl) ?_
          refine lv_iload_n hx hb dL_law_624 rfl (lv_at hl 3 rfl) ?_
          refine lv_iconst (v := (2 : Int32)) hx hb dL_law_625 (by decide) ?_
          refine lv_iadd hx hb dL_law_626 ?_
          refine q_sld hx hb hXs hbl hbA hS hf dL_law_627 (fun v126 hf => ?_)
          refine lv_aload_n hx hb dL_law_628 rfl (lv_at hl 0 rfl) ?_
          refine lv_iload_n hx hb dL_law_629 rfl (lv_at hl 3 rfl) ?_
          refine lv_iconst (v := (3 : Int32)) hx hb dL_law_630 (by decide) ?_
          refine lv_iadd hx hb dL_law_631 ?_
          refine q_sld hx hb hXs hbl hbA hS hf dL_law_632 (fun v127 hf => ?_)
          obtain ⟨v128, X129, hc, hf⟩ := q_b2 hf
          refine q_calli (va_runV (As := [.int v125, .int v126, .int v127]) (rest := [.int v124]) ⟨hx, hb, hml, hown, hT⟩ (mX10_forged l D kz b0 (sz + 178) F X6 (sz + 151) v125 v126 v127 v128 X129 hc) (cwV 3 hT (q_gV wco_X10_forged wml_L_92 wim_X10_forged wse_X10_forged win_X10) rfl rfl rfl hdX10_forged ⟨Nat.le_of_ble_eq_true rfl, Nat.le_of_ble_eq_true rfl⟩) (q_preV vqX10 (fX10_forged_is hc) hR hK hz) rfl rfl hl.1 rfl (lv_room (Nat.le_of_ble_eq_true rfl)) dL_law_633 ⟨Nat.le_of_ble_eq_true rfl, Nat.le_of_ble_eq_true rfl⟩) hS (fun H locs hR hS hz => ?_)
          refine lv_icmp_eq (tgt := 897) hx hb dL_law_636 (by decide) (fun hc => ?_) (fun hc => ?_)
          · have hf := q_t hf hc
            obtain ⟨v130, ev130⟩ : ∃ y : Int32, y = (v5 + (4 : Int32)) := ⟨_, rfl⟩
            have hf := q_lt ev130 hf
            refine lv_iinc (v := v130) (lv' := [(3, .int v130), (0, .ref b), (1, .ref sz), (2, .ref (sz + 151))]) hx hb dL_law_897 hl (k := 3) rfl (by rw [ev130]; rfl) (by decide) rfl (fun ls hl => ?_)
            refine lv_goto (tgt := 18) hx hb dL_law_900 (by decide) ?_
            exact ih0 _ _ out hf hret hex _ _ _ hR hS hz (lv_sub hl [1, 2, 3, 0] rfl)
          · have hf := q_f hf hc
            refine lv_iconst (v := (0 : Int32)) hx hb dL_law_639 (by decide) ?_
            exact absurd (hret _ (Option.some.inj hf).symm) (by decide)
        have hf := q_f hf hc18
        by_cases hc19 : v8 = (19 : Int32)
        · have hf := q_t hf hc19
          refine lv_tableIn (off := 609) (tgt := 641) hx hb dL_law_32 (by rw [hc19]; decide) (by rw [hc19]; decide) (by rw [hc19]; decide +kernel) (by decide) ?_
          refine lv_aload_n hx hb dL_law_641 rfl (lv_at hl 1 rfl) ?_
          refine lv_aload_n hx hb dL_law_642 rfl (lv_at hl 0 rfl) ?_
          refine lv_iload_n hx hb dL_law_643 rfl (lv_at hl 3 rfl) ?_
          refine lv_iconst (v := (1 : Int32)) hx hb dL_law_644 (by decide) ?_
          refine lv_iadd hx hb dL_law_645 ?_
          refine q_sld hx hb hXs hbl hbA hS hf dL_law_646 (fun v131 hf => ?_)
          obtain ⟨v132, hc, hf⟩ := q_b hf
          refine q_calli (va_runV (As := [.int v131]) (rest := []) ⟨hx, hb, hml, hown, hT⟩ (mX9_damp l D kz b0 (sz + 178) F X6 sz v131 v132 hc) (cwV 1 hT (q_gV wco_X9_damp wml_L_93 wim_X9_damp wse_X9_damp win_X9) rfl rfl rfl hdX9_damp ⟨Nat.le_of_ble_eq_true rfl, Nat.le_of_ble_eq_true rfl⟩) (q_preV vqX9 (fX9_damp_is hc) hR hK hz) rfl rfl hl.1 rfl (lv_room (Nat.le_of_ble_eq_true rfl)) dL_law_647 ⟨Nat.le_of_ble_eq_true rfl, Nat.le_of_ble_eq_true rfl⟩) hS (fun H locs hR hS hz => ?_)
          refine lv_aload_n hx hb dL_law_650 rfl (lv_at hl 2 rfl) ?_
          refine lv_aload_n hx hb dL_law_651 rfl (lv_at hl 0 rfl) ?_
          refine lv_iload_n hx hb dL_law_652 rfl (lv_at hl 3 rfl) ?_
          refine lv_iconst (v := (1 : Int32)) hx hb dL_law_653 (by decide) ?_
          refine lv_iadd hx hb dL_law_654 ?_
          refine q_sld hx hb hXs hbl hbA hS hf dL_law_655 (fun v133 hf => ?_)
          obtain ⟨v134, hc, hf⟩ := q_b hf
          refine q_calli (va_runV (As := [.int v133]) (rest := [.int v132]) ⟨hx, hb, hml, hown, hT⟩ (mX10_damp l D kz b0 (sz + 178) F X6 (sz + 151) v133 v134 hc) (cwV 1 hT (q_gV wco_X10_damp wml_L_96 wim_X10_damp wse_X10_damp win_X10) rfl rfl rfl hdX10_damp ⟨Nat.le_of_ble_eq_true rfl, Nat.le_of_ble_eq_true rfl⟩) (q_preV vqX10 (fX10_damp_is hc) hR hK hz) rfl rfl hl.1 rfl (lv_room (Nat.le_of_ble_eq_true rfl)) dL_law_656 ⟨Nat.le_of_ble_eq_true rfl, Nat.le_of_ble_eq_true rfl⟩) hS (fun H locs hR hS hz => ?_)
          refine lv_icmp_eq (tgt := 897) hx hb dL_law_659 (by decide) (fun hc => ?_) (fun hc => ?_)
          · have hf := q_t hf hc
            obtain ⟨v135, ev135⟩ : ∃ y : Int32, y = (v5 + (4 : Int32)) := ⟨_, rfl⟩
            have hf := q_lt ev135 hf
            refine lv_iinc (v := v135) (lv' := [(3, .int v135), (0, .ref b), (1, .ref sz), (2, .ref (sz + 151))]) hx hb dL_law_897 hl (k := 3) rfl (by rw [ev135]; rfl) (by decide) rfl (fun ls hl => ?_)
            refine lv_goto (tgt := 18) hx hb dL_law_900 (by decide) ?_
            exact ih0 _ _ out hf hret hex _ _ _ hR hS hz (lv_sub hl [1, 2, 3, 0] rfl)
          · have hf := q_f hf hc
            refine lv_iconst (v := (0 : Int32)) hx hb dL_law_662 (by decide) ?_
            exact absurd (hret _ (Option.some.inj hf).symm) (by decide)
        have hf := q_f hf hc19
        by_cases hc20 : v8 = (20 : Int32)
        · have hf := q_t hf hc20
          refine lv_tableIn (off := 632) (tgt := 664) hx hb dL_law_32 (by rw [hc20]; decide) (by rw [hc20]; decide) (by rw [hc20]; decide +kernel) (by decide) ?_
          refine lv_aload_n hx hb dL_law_664 rfl (lv_at hl 1 rfl) ?_
          refine lv_aload_n hx hb dL_law_665 rfl (lv_at hl 0 rfl) ?_
          refine lv_iload_n hx hb dL_law_666 rfl (lv_at hl 3 rfl) ?_
          refine lv_iconst (v := (1 : Int32)) hx hb dL_law_667 (by decide) ?_
          refine lv_iadd hx hb dL_law_668 ?_
          refine q_sld hx hb hXs hbl hbA hS hf dL_law_669 (fun v136 hf => ?_)
          obtain ⟨v137, X138, hc, hf⟩ := q_b2 hf
          refine q_calli (va_runV (As := [.int v136]) (rest := []) ⟨hx, hb, hml, hown, hT⟩ (mX9_partner l D kz b0 (sz + 178) F X6 sz v136 v137 X138 hc) (cwV 1 hT (q_gV wco_X9_partner wml_L_97 wim_X9_partner wse_X9_partner win_X9) rfl rfl rfl hdX9_partner ⟨Nat.le_of_ble_eq_true rfl, Nat.le_of_ble_eq_true rfl⟩) (q_preV vqX9 (fX9_partner_is hc) hR hK hz) rfl rfl hl.1 rfl (lv_room (Nat.le_of_ble_eq_true rfl)) dL_law_670 ⟨Nat.le_of_ble_eq_true rfl, Nat.le_of_ble_eq_true rfl⟩) hS (fun H locs hR hS hz => ?_)
          refine lv_aload_n hx hb dL_law_673 rfl (lv_at hl 2 rfl) ?_
          refine lv_aload_n hx hb dL_law_674 rfl (lv_at hl 0 rfl) ?_
          refine lv_iload_n hx hb dL_law_675 rfl (lv_at hl 3 rfl) ?_
          refine lv_iconst (v := (1 : Int32)) hx hb dL_law_676 (by decide) ?_
          refine lv_iadd hx hb dL_law_677 ?_
          refine q_sld hx hb hXs hbl hbA hS hf dL_law_678 (fun v139 hf => ?_)
          obtain ⟨v140, X141, hc, hf⟩ := q_b2 hf
          refine q_calli (va_runV (As := [.int v139]) (rest := [.int v137]) ⟨hx, hb, hml, hown, hT⟩ (mX10_partner l D kz b0 (sz + 178) F X138 (sz + 151) v139 v140 X141 hc) (cwV 1 hT (q_gV wco_X10_partner wml_L_100 wim_X10_partner wse_X10_partner win_X10) rfl rfl rfl hdX10_partner ⟨Nat.le_of_ble_eq_true rfl, Nat.le_of_ble_eq_true rfl⟩) (q_preV vqX10 (fX10_partner_is hc) hR hK hz) rfl rfl hl.1 rfl (lv_room (Nat.le_of_ble_eq_true rfl)) dL_law_679 ⟨Nat.le_of_ble_eq_true rfl, Nat.le_of_ble_eq_true rfl⟩) hS (fun H locs hR hS hz => ?_)
          refine lv_icmp_eq (tgt := 897) hx hb dL_law_682 (by decide) (fun hc => ?_) (fun hc => ?_)
          · have hf := q_t hf hc
            obtain ⟨v142, ev142⟩ : ∃ y : Int32, y = (v5 + (4 : Int32)) := ⟨_, rfl⟩
            have hf := q_lt ev142 hf
            refine lv_iinc (v := v142) (lv' := [(3, .int v142), (0, .ref b), (1, .ref sz), (2, .ref (sz + 151))]) hx hb dL_law_897 hl (k := 3) rfl (by rw [ev142]; rfl) (by decide) rfl (fun ls hl => ?_)
            refine lv_goto (tgt := 18) hx hb dL_law_900 (by decide) ?_
            exact ih0 _ _ out hf hret hex _ _ _ hR hS hz (lv_sub hl [1, 2, 3, 0] rfl)
          · have hf := q_f hf hc
            refine lv_iconst (v := (0 : Int32)) hx hb dL_law_685 (by decide) ?_
            exact absurd (hret _ (Option.some.inj hf).symm) (by decide)
        have hf := q_f hf hc20
        by_cases hc21 : v8 = (21 : Int32)
        · have hf := q_t hf hc21
          refine lv_tableIn (off := 655) (tgt := 687) hx hb dL_law_32 (by rw [hc21]; decide) (by rw [hc21]; decide) (by rw [hc21]; decide +kernel) (by decide) ?_
          refine lv_aload_n hx hb dL_law_687 rfl (lv_at hl 1 rfl) ?_
          refine lv_aload_n hx hb dL_law_688 rfl (lv_at hl 0 rfl) ?_
          refine lv_iload_n hx hb dL_law_689 rfl (lv_at hl 3 rfl) ?_
          refine lv_iconst (v := (1 : Int32)) hx hb dL_law_690 (by decide) ?_
          refine lv_iadd hx hb dL_law_691 ?_
          refine q_sld hx hb hXs hbl hbA hS hf dL_law_692 (fun v143 hf => ?_)
          refine lv_aload_n hx hb dL_law_693 rfl (lv_at hl 0 rfl) ?_
          refine lv_iload_n hx hb dL_law_694 rfl (lv_at hl 3 rfl) ?_
          refine lv_iconst (v := (2 : Int32)) hx hb dL_law_695 (by decide) ?_
          refine lv_iadd hx hb dL_law_696 ?_
          refine q_sld hx hb hXs hbl hbA hS hf dL_law_697 (fun v144 hf => ?_)
          obtain ⟨v145, X146, hc, hf⟩ := q_b2 hf
          refine q_calli (va_runV (As := [.int v143, .int v144]) (rest := []) ⟨hx, hb, hml, hown, hT⟩ (mX9_duck l D kz b0 (sz + 178) F X6 sz v143 v144 v145 X146 hc) (cwV 2 hT (q_gV wco_X9_duck wml_L_101 wim_X9_duck wse_X9_duck win_X9) rfl rfl rfl hdX9_duck ⟨Nat.le_of_ble_eq_true rfl, Nat.le_of_ble_eq_true rfl⟩) (q_preV vqX9 (fX9_duck_is hc) hR hK hz) rfl rfl hl.1 rfl (lv_room (Nat.le_of_ble_eq_true rfl)) dL_law_698 ⟨Nat.le_of_ble_eq_true rfl, Nat.le_of_ble_eq_true rfl⟩) hS (fun H locs hR hS hz => ?_)
          refine lv_aload_n hx hb dL_law_701 rfl (lv_at hl 2 rfl) ?_
          refine lv_aload_n hx hb dL_law_702 rfl (lv_at hl 0 rfl) ?_
          refine lv_iload_n hx hb dL_law_703 rfl (lv_at hl 3 rfl) ?_
          refine lv_iconst (v := (1 : Int32)) hx hb dL_law_704 (by decide) ?_
          refine lv_iadd hx hb dL_law_705 ?_
          refine q_sld hx hb hXs hbl hbA hS hf dL_law_706 (fun v147 hf => ?_)
          refine lv_aload_n hx hb dL_law_707 rfl (lv_at hl 0 rfl) ?_
          refine lv_iload_n hx hb dL_law_708 rfl (lv_at hl 3 rfl) ?_
          refine lv_iconst (v := (2 : Int32)) hx hb dL_law_709 (by decide) ?_
          refine lv_iadd hx hb dL_law_710 ?_
          refine q_sld hx hb hXs hbl hbA hS hf dL_law_711 (fun v148 hf => ?_)
          obtain ⟨v149, X150, hc, hf⟩ := q_b2 hf
          refine q_calli (va_runV (As := [.int v147, .int v148]) (rest := [.int v145]) ⟨hx, hb, hml, hown, hT⟩ (mX10_duck l D kz b0 (sz + 178) F X146 (sz + 151) v147 v148 v149 X150 hc) (cwV 2 hT (q_gV wco_X10_duck wml_L_104 wim_X10_duck wse_X10_duck win_X10) rfl rfl rfl hdX10_duck ⟨Nat.le_of_ble_eq_true rfl, Nat.le_of_ble_eq_true rfl⟩) (q_preV vqX10 (fX10_duck_is hc) hR hK hz) rfl rfl hl.1 rfl (lv_room (Nat.le_of_ble_eq_true rfl)) dL_law_712 ⟨Nat.le_of_ble_eq_true rfl, Nat.le_of_ble_eq_true rfl⟩) hS (fun H locs hR hS hz => ?_)
          refine lv_icmp_eq (tgt := 897) hx hb dL_law_715 (by decide) (fun hc => ?_) (fun hc => ?_)
          · have hf := q_t hf hc
            obtain ⟨v151, ev151⟩ : ∃ y : Int32, y = (v5 + (4 : Int32)) := ⟨_, rfl⟩
            have hf := q_lt ev151 hf
            refine lv_iinc (v := v151) (lv' := [(3, .int v151), (0, .ref b), (1, .ref sz), (2, .ref (sz + 151))]) hx hb dL_law_897 hl (k := 3) rfl (by rw [ev151]; rfl) (by decide) rfl (fun ls hl => ?_)
            refine lv_goto (tgt := 18) hx hb dL_law_900 (by decide) ?_
            exact ih0 _ _ out hf hret hex _ _ _ hR hS hz (lv_sub hl [1, 2, 3, 0] rfl)
          · have hf := q_f hf hc
            refine lv_iconst (v := (0 : Int32)) hx hb dL_law_718 (by decide) ?_
            exact absurd (hret _ (Option.some.inj hf).symm) (by decide)
        have hf := q_f hf hc21
        by_cases hc22 : v8 = (22 : Int32)
        · have hf := q_t hf hc22
          refine lv_tableIn (off := 688) (tgt := 720) hx hb dL_law_32 (by rw [hc22]; decide) (by rw [hc22]; decide) (by rw [hc22]; decide +kernel) (by decide) ?_
          refine lv_aload_n hx hb dL_law_720 rfl (lv_at hl 1 rfl) ?_
          refine lv_aload_n hx hb dL_law_721 rfl (lv_at hl 0 rfl) ?_
          refine lv_iload_n hx hb dL_law_722 rfl (lv_at hl 3 rfl) ?_
          refine lv_iconst (v := (1 : Int32)) hx hb dL_law_723 (by decide) ?_
          refine lv_iadd hx hb dL_law_724 ?_
          refine q_sld hx hb hXs hbl hbA hS hf dL_law_725 (fun v152 hf => ?_)
          obtain ⟨v153, hc, hf⟩ := q_b hf
          refine q_calli (va_runV (As := [.int v152]) (rest := []) ⟨hx, hb, hml, hown, hT⟩ (mX9_lit l D kz b0 (sz + 178) F X6 sz v152 v153 hc) (cwV 1 hT (q_gV wco_X9_lit wml_L_105 wim_X9_lit wse_X9_lit win_X9) rfl rfl rfl hdX9_lit ⟨Nat.le_of_ble_eq_true rfl, Nat.le_of_ble_eq_true rfl⟩) (q_preV vqX9 (fX9_lit_is hc) hR hK hz) rfl rfl hl.1 rfl (lv_room (Nat.le_of_ble_eq_true rfl)) dL_law_726 ⟨Nat.le_of_ble_eq_true rfl, Nat.le_of_ble_eq_true rfl⟩) hS (fun H locs hR hS hz => ?_)
          refine lv_aload_n hx hb dL_law_729 rfl (lv_at hl 2 rfl) ?_
          refine lv_aload_n hx hb dL_law_730 rfl (lv_at hl 0 rfl) ?_
          refine lv_iload_n hx hb dL_law_731 rfl (lv_at hl 3 rfl) ?_
          refine lv_iconst (v := (1 : Int32)) hx hb dL_law_732 (by decide) ?_
          refine lv_iadd hx hb dL_law_733 ?_
          refine q_sld hx hb hXs hbl hbA hS hf dL_law_734 (fun v154 hf => ?_)
          obtain ⟨v155, hc, hf⟩ := q_b hf
          refine q_calli (va_runV (As := [.int v154]) (rest := [.int v153]) ⟨hx, hb, hml, hown, hT⟩ (mX10_lit l D kz b0 (sz + 178) F X6 (sz + 151) v154 v155 hc) (cwV 1 hT (q_gV wco_X10_lit wml_L_108 wim_X10_lit wse_X10_lit win_X10) rfl rfl rfl hdX10_lit ⟨Nat.le_of_ble_eq_true rfl, Nat.le_of_ble_eq_true rfl⟩) (q_preV vqX10 (fX10_lit_is hc) hR hK hz) rfl rfl hl.1 rfl (lv_room (Nat.le_of_ble_eq_true rfl)) dL_law_735 ⟨Nat.le_of_ble_eq_true rfl, Nat.le_of_ble_eq_true rfl⟩) hS (fun H locs hR hS hz => ?_)
          refine lv_icmp_eq (tgt := 897) hx hb dL_law_738 (by decide) (fun hc => ?_) (fun hc => ?_)
          · have hf := q_t hf hc
            obtain ⟨v156, ev156⟩ : ∃ y : Int32, y = (v5 + (4 : Int32)) := ⟨_, rfl⟩
            have hf := q_lt ev156 hf
            refine lv_iinc (v := v156) (lv' := [(3, .int v156), (0, .ref b), (1, .ref sz), (2, .ref (sz + 151))]) hx hb dL_law_897 hl (k := 3) rfl (by rw [ev156]; rfl) (by decide) rfl (fun ls hl => ?_)
            refine lv_goto (tgt := 18) hx hb dL_law_900 (by decide) ?_
            exact ih0 _ _ out hf hret hex _ _ _ hR hS hz (lv_sub hl [1, 2, 3, 0] rfl)
          · have hf := q_f hf hc
            refine lv_iconst (v := (0 : Int32)) hx hb dL_law_741 (by decide) ?_
            exact absurd (hret _ (Option.some.inj hf).symm) (by decide)
        have hf := q_f hf hc22
        by_cases hc23 : v8 = (23 : Int32)
        · have hf := q_t hf hc23
          refine lv_tableIn (off := 711) (tgt := 743) hx hb dL_law_32 (by rw [hc23]; decide) (by rw [hc23]; decide) (by rw [hc23]; decide +kernel) (by decide) ?_
          refine lv_aload_n hx hb dL_law_743 rfl (lv_at hl 1 rfl) ?_
          refine lv_aload_n hx hb dL_law_744 rfl (lv_at hl 0 rfl) ?_
          refine lv_iload_n hx hb dL_law_745 rfl (lv_at hl 3 rfl) ?_
          refine lv_iconst (v := (1 : Int32)) hx hb dL_law_746 (by decide) ?_
          refine lv_iadd hx hb dL_law_747 ?_
          refine q_sld hx hb hXs hbl hbA hS hf dL_law_748 (fun v157 hf => ?_)
          refine lv_aload_n hx hb dL_law_749 rfl (lv_at hl 0 rfl) ?_
          refine lv_iload_n hx hb dL_law_750 rfl (lv_at hl 3 rfl) ?_
          refine lv_iconst (v := (2 : Int32)) hx hb dL_law_751 (by decide) ?_
          refine lv_iadd hx hb dL_law_752 ?_
          refine q_sld hx hb hXs hbl hbA hS hf dL_law_753 (fun v158 hf => ?_)
          refine lv_aload_n hx hb dL_law_754 rfl (lv_at hl 0 rfl) ?_
          refine lv_iload_n hx hb dL_law_755 rfl (lv_at hl 3 rfl) ?_
          refine lv_iconst (v := (3 : Int32)) hx hb dL_law_756 (by decide) ?_
          refine lv_iadd hx hb dL_law_757 ?_
          refine q_sld hx hb hXs hbl hbA hS hf dL_law_758 (fun v159 hf => ?_)
          obtain ⟨v160, hp, hf⟩ := q_b hf
          have hJ : ∀ (H : Heap) (locs : List Loc) (ls : Array Slot), qR D kz b0 X6 H → va_S (qA b0) s.heap H locs → H.size = (sz + 178) → lv_has ls 4 [(0, .ref b), (1, .ref sz), (2, .ref (sz + 151)), (3, .int v5)] → W p l e room_1 s m args below meth c H locs 178 2944 Q (F0 m 767 ls [.int v160, .int v158, .int v157, .ref sz]) := by
            intro H locs ls hR hS hz hl
            obtain ⟨v161, X162, hc, hf⟩ := q_b2 hf
            refine q_calli (va_runV (As := [.int v157, .int v158, .int v160]) (rest := []) ⟨hx, hb, hml, hown, hT⟩ (mX9_write l D kz b0 (sz + 178) F X6 sz v157 v158 v160 v161 X162 hc) (cwV 3 hT (q_gV wco_X9_write wml_L_109 wim_X9_write wse_X9_write win_X9) rfl rfl rfl hdX9_write ⟨Nat.le_of_ble_eq_true rfl, Nat.le_of_ble_eq_true rfl⟩) (q_preV vqX9 (fX9_write_is hc) hR hK hz) rfl rfl hl.1 rfl (lv_room (Nat.le_of_ble_eq_true rfl)) dL_law_767 ⟨Nat.le_of_ble_eq_true rfl, Nat.le_of_ble_eq_true rfl⟩) hS (fun H locs hR hS hz => ?_)
            refine lv_aload_n hx hb dL_law_770 rfl (lv_at hl 2 rfl) ?_
            refine lv_aload_n hx hb dL_law_771 rfl (lv_at hl 0 rfl) ?_
            refine lv_iload_n hx hb dL_law_772 rfl (lv_at hl 3 rfl) ?_
            refine lv_iconst (v := (1 : Int32)) hx hb dL_law_773 (by decide) ?_
            refine lv_iadd hx hb dL_law_774 ?_
            refine q_sld hx hb hXs hbl hbA hS hf dL_law_775 (fun v163 hf => ?_)
            refine lv_aload_n hx hb dL_law_776 rfl (lv_at hl 0 rfl) ?_
            refine lv_iload_n hx hb dL_law_777 rfl (lv_at hl 3 rfl) ?_
            refine lv_iconst (v := (2 : Int32)) hx hb dL_law_778 (by decide) ?_
            refine lv_iadd hx hb dL_law_779 ?_
            refine q_sld hx hb hXs hbl hbA hS hf dL_law_780 (fun v164 hf => ?_)
            refine lv_aload_n hx hb dL_law_781 rfl (lv_at hl 0 rfl) ?_
            refine lv_iload_n hx hb dL_law_782 rfl (lv_at hl 3 rfl) ?_
            refine lv_iconst (v := (3 : Int32)) hx hb dL_law_783 (by decide) ?_
            refine lv_iadd hx hb dL_law_784 ?_
            refine q_sld hx hb hXs hbl hbA hS hf dL_law_785 (fun v165 hf => ?_)
            obtain ⟨v166, hp, hf⟩ := q_b hf
            have hJ : ∀ (H : Heap) (locs : List Loc) (ls : Array Slot), qR D kz b0 X162 H → va_S (qA b0) s.heap H locs → H.size = (sz + 178) → lv_has ls 4 [(0, .ref b), (1, .ref sz), (2, .ref (sz + 151)), (3, .int v5)] → W p l e room_1 s m args below meth c H locs 178 2944 Q (F0 m 794 ls [.int v166, .int v164, .int v163, .ref (sz + 151), .int v161]) := by
              intro H locs ls hR hS hz hl
              obtain ⟨v167, X168, hc, hf⟩ := q_b2 hf
              refine q_calli (va_runV (As := [.int v163, .int v164, .int v166]) (rest := [.int v161]) ⟨hx, hb, hml, hown, hT⟩ (mX10_write l D kz b0 (sz + 178) F X162 (sz + 151) v163 v164 v166 v167 X168 hc) (cwV 3 hT (q_gV wco_X10_write wml_L_113 wim_X10_write wse_X10_write win_X10) rfl rfl rfl hdX10_write ⟨Nat.le_of_ble_eq_true rfl, Nat.le_of_ble_eq_true rfl⟩) (q_preV vqX10 (fX10_write_is hc) hR hK hz) rfl rfl hl.1 rfl (lv_room (Nat.le_of_ble_eq_true rfl)) dL_law_794 ⟨Nat.le_of_ble_eq_true rfl, Nat.le_of_ble_eq_true rfl⟩) hS (fun H locs hR hS hz => ?_)
              refine lv_icmp_eq (tgt := 897) hx hb dL_law_797 (by decide) (fun hc => ?_) (fun hc => ?_)
              · have hf := q_t hf hc
                obtain ⟨v169, ev169⟩ : ∃ y : Int32, y = (v5 + (4 : Int32)) := ⟨_, rfl⟩
                have hf := q_lt ev169 hf
                refine lv_iinc (v := v169) (lv' := [(3, .int v169), (0, .ref b), (1, .ref sz), (2, .ref (sz + 151))]) hx hb dL_law_897 hl (k := 3) rfl (by rw [ev169]; rfl) (by decide) rfl (fun ls hl => ?_)
                refine lv_goto (tgt := 18) hx hb dL_law_900 (by decide) ?_
                exact ih0 _ _ out hf hret hex _ _ _ hR hS hz (lv_sub hl [1, 2, 3, 0] rfl)
              · have hf := q_f hf hc
                refine lv_iconst (v := (0 : Int32)) hx hb dL_law_800 (by decide) ?_
                exact absurd (hret _ (Option.some.inj hf).symm) (by decide)
            have hf := hp
            refine lv_if_eq (tgt := 793) hx hb dL_law_786 (by decide) (fun hc => ?_) (fun hc => ?_)
            · have hf := q_t hf hc
              refine lv_iconst (v := (0 : Int32)) hx hb dL_law_793 (by decide) ?_
              cases hf
              exact hJ _ _ _ hR hS hz (lv_sub hl [0, 1, 2, 3] rfl)
            · have hf := q_f hf hc
              refine lv_iconst (v := (1 : Int32)) hx hb dL_law_789 (by decide) ?_
              refine lv_goto (tgt := 794) hx hb dL_law_790 (by decide) ?_
              cases hf
              exact hJ _ _ _ hR hS hz (lv_sub hl [0, 1, 2, 3] rfl)
          have hf := hp
          refine lv_if_eq (tgt := 766) hx hb dL_law_759 (by decide) (fun hc => ?_) (fun hc => ?_)
          · have hf := q_t hf hc
            refine lv_iconst (v := (0 : Int32)) hx hb dL_law_766 (by decide) ?_
            cases hf
            exact hJ _ _ _ hR hS hz (lv_sub hl [0, 1, 2, 3] rfl)
          · have hf := q_f hf hc
            refine lv_iconst (v := (1 : Int32)) hx hb dL_law_762 (by decide) ?_
            refine lv_goto (tgt := 767) hx hb dL_law_763 (by decide) ?_
            cases hf
            exact hJ _ _ _ hR hS hz (lv_sub hl [0, 1, 2, 3] rfl)
        have hf := q_f hf hc23
        by_cases hc24 : v8 = (24 : Int32)
        · have hf := q_t hf hc24
          refine lv_tableIn (off := 770) (tgt := 802) hx hb dL_law_32 (by rw [hc24]; decide) (by rw [hc24]; decide) (by rw [hc24]; decide +kernel) (by decide) ?_
          refine lv_aload_n hx hb dL_law_802 rfl (lv_at hl 1 rfl) ?_
          obtain ⟨v170, X171, hc, hf⟩ := q_b2 hf
          refine q_calli (va_runV (As := []) (rest := []) ⟨hx, hb, hml, hown, hT⟩ (mX9_tear l D kz b0 (sz + 178) F X6 sz v170 X171 hc) (cwV 0 hT (q_gV wco_X9_tear wml_L_114 wim_X9_tear wse_X9_tear win_X9) rfl rfl rfl hdX9_tear ⟨Nat.le_of_ble_eq_true rfl, Nat.le_of_ble_eq_true rfl⟩) (q_preV vqX9 (fX9_tear_is hc) hR hK hz) rfl rfl hl.1 rfl (lv_room (Nat.le_of_ble_eq_true rfl)) dL_law_803 ⟨Nat.le_of_ble_eq_true rfl, Nat.le_of_ble_eq_true rfl⟩) hS (fun H locs hR hS hz => ?_)
          refine lv_aload_n hx hb dL_law_806 rfl (lv_at hl 2 rfl) ?_
          obtain ⟨v172, X173, hc, hf⟩ := q_b2 hf
          refine q_calli (va_runV (As := []) (rest := [.int v170]) ⟨hx, hb, hml, hown, hT⟩ (mX10_tear l D kz b0 (sz + 178) F X171 (sz + 151) v172 X173 hc) (cwV 0 hT (q_gV wco_X10_tear wml_L_117 wim_X10_tear wse_X10_tear win_X10) rfl rfl rfl hdX10_tear ⟨Nat.le_of_ble_eq_true rfl, Nat.le_of_ble_eq_true rfl⟩) (q_preV vqX10 (fX10_tear_is hc) hR hK hz) rfl rfl hl.1 rfl (lv_room (Nat.le_of_ble_eq_true rfl)) dL_law_807 ⟨Nat.le_of_ble_eq_true rfl, Nat.le_of_ble_eq_true rfl⟩) hS (fun H locs hR hS hz => ?_)
          refine lv_icmp_eq (tgt := 897) hx hb dL_law_810 (by decide) (fun hc => ?_) (fun hc => ?_)
          · have hf := q_t hf hc
            obtain ⟨v174, ev174⟩ : ∃ y : Int32, y = (v5 + (4 : Int32)) := ⟨_, rfl⟩
            have hf := q_lt ev174 hf
            refine lv_iinc (v := v174) (lv' := [(3, .int v174), (0, .ref b), (1, .ref sz), (2, .ref (sz + 151))]) hx hb dL_law_897 hl (k := 3) rfl (by rw [ev174]; rfl) (by decide) rfl (fun ls hl => ?_)
            refine lv_goto (tgt := 18) hx hb dL_law_900 (by decide) ?_
            exact ih0 _ _ out hf hret hex _ _ _ hR hS hz (lv_sub hl [1, 2, 3, 0] rfl)
          · have hf := q_f hf hc
            refine lv_iconst (v := (0 : Int32)) hx hb dL_law_813 (by decide) ?_
            exact absurd (hret _ (Option.some.inj hf).symm) (by decide)
        have hf := q_f hf hc24
        by_cases hc25 : v8 = (25 : Int32)
        · have hf := q_t hf hc25
          refine lv_tableIn (off := 783) (tgt := 815) hx hb dL_law_32 (by rw [hc25]; decide) (by rw [hc25]; decide) (by rw [hc25]; decide +kernel) (by decide) ?_
          refine lv_aload_n hx hb dL_law_815 rfl (lv_at hl 1 rfl) ?_
          obtain ⟨v175, hc, hf⟩ := q_b hf
          refine q_calli (va_runV (As := []) (rest := []) ⟨hx, hb, hml, hown, hT⟩ (mX9_judge l D kz b0 (sz + 178) F X6 sz v175 hc) (cwV 0 hT (q_gV wco_X9_judge wml_L_118 wim_X9_judge wse_X9_judge win_X9) rfl rfl rfl hdX9_judge ⟨Nat.le_of_ble_eq_true rfl, Nat.le_of_ble_eq_true rfl⟩) (q_preV vqX9 (fX9_judge_is hc) hR hK hz) rfl rfl hl.1 rfl (lv_room (Nat.le_of_ble_eq_true rfl)) dL_law_816 ⟨Nat.le_of_ble_eq_true rfl, Nat.le_of_ble_eq_true rfl⟩) hS (fun H locs hR hS hz => ?_)
          refine lv_aload_n hx hb dL_law_819 rfl (lv_at hl 2 rfl) ?_
          obtain ⟨v176, hc, hf⟩ := q_b hf
          refine q_calli (va_runV (As := []) (rest := [.int v175]) ⟨hx, hb, hml, hown, hT⟩ (mX10_judge l D kz b0 (sz + 178) F X6 (sz + 151) v176 hc) (cwV 0 hT (q_gV wco_X10_judge wml_L_121 wim_X10_judge wse_X10_judge win_X10) rfl rfl rfl hdX10_judge ⟨Nat.le_of_ble_eq_true rfl, Nat.le_of_ble_eq_true rfl⟩) (q_preV vqX10 (fX10_judge_is hc) hR hK hz) rfl rfl hl.1 rfl (lv_room (Nat.le_of_ble_eq_true rfl)) dL_law_820 ⟨Nat.le_of_ble_eq_true rfl, Nat.le_of_ble_eq_true rfl⟩) hS (fun H locs hR hS hz => ?_)
          refine lv_icmp_eq (tgt := 897) hx hb dL_law_823 (by decide) (fun hc => ?_) (fun hc => ?_)
          · have hf := q_t hf hc
            obtain ⟨v177, ev177⟩ : ∃ y : Int32, y = (v5 + (4 : Int32)) := ⟨_, rfl⟩
            have hf := q_lt ev177 hf
            refine lv_iinc (v := v177) (lv' := [(3, .int v177), (0, .ref b), (1, .ref sz), (2, .ref (sz + 151))]) hx hb dL_law_897 hl (k := 3) rfl (by rw [ev177]; rfl) (by decide) rfl (fun ls hl => ?_)
            refine lv_goto (tgt := 18) hx hb dL_law_900 (by decide) ?_
            exact ih0 _ _ out hf hret hex _ _ _ hR hS hz (lv_sub hl [1, 2, 3, 0] rfl)
          · have hf := q_f hf hc
            refine lv_iconst (v := (0 : Int32)) hx hb dL_law_826 (by decide) ?_
            exact absurd (hret _ (Option.some.inj hf).symm) (by decide)
        have hf := q_f hf hc25
        by_cases hc26 : v8 = (26 : Int32)
        · have hf := q_t hf hc26
          refine lv_tableIn (off := 796) (tgt := 828) hx hb dL_law_32 (by rw [hc26]; decide) (by rw [hc26]; decide) (by rw [hc26]; decide +kernel) (by decide) ?_
          refine lv_aload_n hx hb dL_law_828 rfl (lv_at hl 1 rfl) ?_
          refine lv_aload_n hx hb dL_law_829 rfl (lv_at hl 0 rfl) ?_
          refine lv_iload_n hx hb dL_law_830 rfl (lv_at hl 3 rfl) ?_
          refine lv_iconst (v := (1 : Int32)) hx hb dL_law_831 (by decide) ?_
          refine lv_iadd hx hb dL_law_832 ?_
          refine q_sld hx hb hXs hbl hbA hS hf dL_law_833 (fun v178 hf => ?_)
          obtain ⟨v179, X180, hc, hf⟩ := q_b2 hf
          refine q_calli (va_runV (As := [.int v178]) (rest := []) ⟨hx, hb, hml, hown, hT⟩ (mX9_seed l D kz b0 (sz + 178) F X6 sz v178 v179 X180 hc) (cwV 1 hT (q_gV wco_X9_seed wml_L_122 wim_X9_seed wse_X9_seed win_X9) rfl rfl rfl hdX9_seed ⟨Nat.le_of_ble_eq_true rfl, Nat.le_of_ble_eq_true rfl⟩) (q_preV vqX9 (fX9_seed_is hc) hR hK hz) rfl rfl hl.1 rfl (lv_room (Nat.le_of_ble_eq_true rfl)) dL_law_834 ⟨Nat.le_of_ble_eq_true rfl, Nat.le_of_ble_eq_true rfl⟩) hS (fun H locs hR hS hz => ?_)
          refine lv_aload_n hx hb dL_law_837 rfl (lv_at hl 2 rfl) ?_
          refine lv_aload_n hx hb dL_law_838 rfl (lv_at hl 0 rfl) ?_
          refine lv_iload_n hx hb dL_law_839 rfl (lv_at hl 3 rfl) ?_
          refine lv_iconst (v := (1 : Int32)) hx hb dL_law_840 (by decide) ?_
          refine lv_iadd hx hb dL_law_841 ?_
          refine q_sld hx hb hXs hbl hbA hS hf dL_law_842 (fun v181 hf => ?_)
          obtain ⟨v182, X183, hc, hf⟩ := q_b2 hf
          refine q_calli (va_runV (As := [.int v181]) (rest := [.int v179]) ⟨hx, hb, hml, hown, hT⟩ (mX10_seed l D kz b0 (sz + 178) F X180 (sz + 151) v181 v182 X183 hc) (cwV 1 hT (q_gV wco_X10_seed wml_L_125 wim_X10_seed wse_X10_seed win_X10) rfl rfl rfl hdX10_seed ⟨Nat.le_of_ble_eq_true rfl, Nat.le_of_ble_eq_true rfl⟩) (q_preV vqX10 (fX10_seed_is hc) hR hK hz) rfl rfl hl.1 rfl (lv_room (Nat.le_of_ble_eq_true rfl)) dL_law_843 ⟨Nat.le_of_ble_eq_true rfl, Nat.le_of_ble_eq_true rfl⟩) hS (fun H locs hR hS hz => ?_)
          refine lv_icmp_eq (tgt := 897) hx hb dL_law_846 (by decide) (fun hc => ?_) (fun hc => ?_)
          · have hf := q_t hf hc
            obtain ⟨v184, ev184⟩ : ∃ y : Int32, y = (v5 + (4 : Int32)) := ⟨_, rfl⟩
            have hf := q_lt ev184 hf
            refine lv_iinc (v := v184) (lv' := [(3, .int v184), (0, .ref b), (1, .ref sz), (2, .ref (sz + 151))]) hx hb dL_law_897 hl (k := 3) rfl (by rw [ev184]; rfl) (by decide) rfl (fun ls hl => ?_)
            refine lv_goto (tgt := 18) hx hb dL_law_900 (by decide) ?_
            exact ih0 _ _ out hf hret hex _ _ _ hR hS hz (lv_sub hl [1, 2, 3, 0] rfl)
          · have hf := q_f hf hc
            refine lv_iconst (v := (0 : Int32)) hx hb dL_law_849 (by decide) ?_
            exact absurd (hret _ (Option.some.inj hf).symm) (by decide)
        have hf := q_f hf hc26
        by_cases hc27 : v8 = (27 : Int32)
        · have hf := q_t hf hc27
          refine lv_tableIn (off := 819) (tgt := 851) hx hb dL_law_32 (by rw [hc27]; decide) (by rw [hc27]; decide) (by rw [hc27]; decide +kernel) (by decide) ?_
          refine lv_aload_n hx hb dL_law_851 rfl (lv_at hl 1 rfl) ?_
          refine lv_aload_n hx hb dL_law_852 rfl (lv_at hl 0 rfl) ?_
          refine lv_iload_n hx hb dL_law_853 rfl (lv_at hl 3 rfl) ?_
          refine lv_iconst (v := (1 : Int32)) hx hb dL_law_854 (by decide) ?_
          refine lv_iadd hx hb dL_law_855 ?_
          refine q_sld hx hb hXs hbl hbA hS hf dL_law_856 (fun v185 hf => ?_)
          obtain ⟨v186, X187, hc, hf⟩ := q_b2 hf
          refine q_calli (va_runV (As := [.int v185]) (rest := []) ⟨hx, hb, hml, hown, hT⟩ (mX9_keep l D kz b0 (sz + 178) F X6 sz v185 v186 X187 hc) (cwV 1 hT (q_gV wco_X9_keep wml_L_126 wim_X9_keep wse_X9_keep win_X9) rfl rfl rfl hdX9_keep ⟨Nat.le_of_ble_eq_true rfl, Nat.le_of_ble_eq_true rfl⟩) (q_preV vqX9 (fX9_keep_is hc) hR hK hz) rfl rfl hl.1 rfl (lv_room (Nat.le_of_ble_eq_true rfl)) dL_law_857 ⟨Nat.le_of_ble_eq_true rfl, Nat.le_of_ble_eq_true rfl⟩) hS (fun H locs hR hS hz => ?_)
          refine lv_aload_n hx hb dL_law_860 rfl (lv_at hl 2 rfl) ?_
          refine lv_aload_n hx hb dL_law_861 rfl (lv_at hl 0 rfl) ?_
          refine lv_iload_n hx hb dL_law_862 rfl (lv_at hl 3 rfl) ?_
          refine lv_iconst (v := (1 : Int32)) hx hb dL_law_863 (by decide) ?_
          refine lv_iadd hx hb dL_law_864 ?_
          refine q_sld hx hb hXs hbl hbA hS hf dL_law_865 (fun v188 hf => ?_)
          obtain ⟨v189, X190, hc, hf⟩ := q_b2 hf
          refine q_calli (va_runV (As := [.int v188]) (rest := [.int v186]) ⟨hx, hb, hml, hown, hT⟩ (mX10_keep l D kz b0 (sz + 178) F X187 (sz + 151) v188 v189 X190 hc) (cwV 1 hT (q_gV wco_X10_keep wml_L_129 wim_X10_keep wse_X10_keep win_X10) rfl rfl rfl hdX10_keep ⟨Nat.le_of_ble_eq_true rfl, Nat.le_of_ble_eq_true rfl⟩) (q_preV vqX10 (fX10_keep_is hc) hR hK hz) rfl rfl hl.1 rfl (lv_room (Nat.le_of_ble_eq_true rfl)) dL_law_866 ⟨Nat.le_of_ble_eq_true rfl, Nat.le_of_ble_eq_true rfl⟩) hS (fun H locs hR hS hz => ?_)
          refine lv_icmp_eq (tgt := 897) hx hb dL_law_869 (by decide) (fun hc => ?_) (fun hc => ?_)
          · have hf := q_t hf hc
            obtain ⟨v191, ev191⟩ : ∃ y : Int32, y = (v5 + (4 : Int32)) := ⟨_, rfl⟩
            have hf := q_lt ev191 hf
            refine lv_iinc (v := v191) (lv' := [(3, .int v191), (0, .ref b), (1, .ref sz), (2, .ref (sz + 151))]) hx hb dL_law_897 hl (k := 3) rfl (by rw [ev191]; rfl) (by decide) rfl (fun ls hl => ?_)
            refine lv_goto (tgt := 18) hx hb dL_law_900 (by decide) ?_
            exact ih0 _ _ out hf hret hex _ _ _ hR hS hz (lv_sub hl [1, 2, 3, 0] rfl)
          · have hf := q_f hf hc
            refine lv_iconst (v := (0 : Int32)) hx hb dL_law_872 (by decide) ?_
            exact absurd (hret _ (Option.some.inj hf).symm) (by decide)
        have hf := q_f hf hc27
        by_cases hc28 : v8 = (28 : Int32)
        · have hf := q_t hf hc28
          refine lv_tableIn (off := 842) (tgt := 874) hx hb dL_law_32 (by rw [hc28]; decide) (by rw [hc28]; decide) (by rw [hc28]; decide +kernel) (by decide) ?_
          refine lv_aload_n hx hb dL_law_874 rfl (lv_at hl 1 rfl) ?_
          refine lv_aload_n hx hb dL_law_875 rfl (lv_at hl 0 rfl) ?_
          refine lv_iload_n hx hb dL_law_876 rfl (lv_at hl 3 rfl) ?_
          refine lv_iconst (v := (1 : Int32)) hx hb dL_law_877 (by decide) ?_
          refine lv_iadd hx hb dL_law_878 ?_
          refine q_sld hx hb hXs hbl hbA hS hf dL_law_879 (fun v192 hf => ?_)
          obtain ⟨v193, X194, hc, hf⟩ := q_b2 hf
          refine q_calli (va_runV (As := [.int v192]) (rest := []) ⟨hx, hb, hml, hown, hT⟩ (mX9_goBack l D kz b0 (sz + 178) F X6 sz v192 v193 X194 hc) (cwV 1 hT (q_gV wco_X9_goBack wml_L_130 wim_X9_goBack wse_X9_goBack win_X9) rfl rfl rfl hdX9_goBack ⟨Nat.le_of_ble_eq_true rfl, Nat.le_of_ble_eq_true rfl⟩) (q_preV vqX9 (fX9_goBack_is hc) hR hK hz) rfl rfl hl.1 rfl (lv_room (Nat.le_of_ble_eq_true rfl)) dL_law_880 ⟨Nat.le_of_ble_eq_true rfl, Nat.le_of_ble_eq_true rfl⟩) hS (fun H locs hR hS hz => ?_)
          refine lv_aload_n hx hb dL_law_883 rfl (lv_at hl 2 rfl) ?_
          refine lv_aload_n hx hb dL_law_884 rfl (lv_at hl 0 rfl) ?_
          refine lv_iload_n hx hb dL_law_885 rfl (lv_at hl 3 rfl) ?_
          refine lv_iconst (v := (1 : Int32)) hx hb dL_law_886 (by decide) ?_
          refine lv_iadd hx hb dL_law_887 ?_
          refine q_sld hx hb hXs hbl hbA hS hf dL_law_888 (fun v195 hf => ?_)
          obtain ⟨v196, X197, hc, hf⟩ := q_b2 hf
          refine q_calli (va_runV (As := [.int v195]) (rest := [.int v193]) ⟨hx, hb, hml, hown, hT⟩ (mX10_goBack l D kz b0 (sz + 178) F X194 (sz + 151) v195 v196 X197 hc) (cwV 1 hT (q_gV wco_X10_goBack wml_L_133 wim_X10_goBack wse_X10_goBack win_X10) rfl rfl rfl hdX10_goBack ⟨Nat.le_of_ble_eq_true rfl, Nat.le_of_ble_eq_true rfl⟩) (q_preV vqX10 (fX10_goBack_is hc) hR hK hz) rfl rfl hl.1 rfl (lv_room (Nat.le_of_ble_eq_true rfl)) dL_law_889 ⟨Nat.le_of_ble_eq_true rfl, Nat.le_of_ble_eq_true rfl⟩) hS (fun H locs hR hS hz => ?_)
          refine lv_icmp_eq (tgt := 897) hx hb dL_law_892 (by decide) (fun hc => ?_) (fun hc => ?_)
          · have hf := q_t hf hc
            obtain ⟨v198, ev198⟩ : ∃ y : Int32, y = (v5 + (4 : Int32)) := ⟨_, rfl⟩
            have hf := q_lt ev198 hf
            refine lv_iinc (v := v198) (lv' := [(3, .int v198), (0, .ref b), (1, .ref sz), (2, .ref (sz + 151))]) hx hb dL_law_897 hl (k := 3) rfl (by rw [ev198]; rfl) (by decide) rfl (fun ls hl => ?_)
            refine lv_goto (tgt := 18) hx hb dL_law_900 (by decide) ?_
            exact ih0 _ _ out hf hret hex _ _ _ hR hS hz (lv_sub hl [1, 2, 3, 0] rfl)
          · have hf := q_f hf hc
            refine lv_iconst (v := (0 : Int32)) hx hb dL_law_895 (by decide) ?_
            exact absurd (hret _ (Option.some.inj hf).symm) (by decide)
        have hf := q_f hf hc28
        have hd0 := lv_neT hc0 (a := 0) (by decide)
        have hd1 := lv_neT hc1 (a := 1) (by decide)
        have hd2 := lv_neT hc2 (a := 2) (by decide)
        have hd3 := lv_neT hc3 (a := 3) (by decide)
        have hd4 := lv_neT hc4 (a := 4) (by decide)
        have hd5 := lv_neT hc5 (a := 5) (by decide)
        have hd6 := lv_neT hc6 (a := 6) (by decide)
        have hd7 := lv_neT hc7 (a := 7) (by decide)
        have hd8 := lv_neT hc8 (a := 8) (by decide)
        have hd9 := lv_neT hc9 (a := 9) (by decide)
        have hd10 := lv_neT hc10 (a := 10) (by decide)
        have hd11 := lv_neT hc11 (a := 11) (by decide)
        have hd12 := lv_neT hc12 (a := 12) (by decide)
        have hd13 := lv_neT hc13 (a := 13) (by decide)
        have hd14 := lv_neT hc14 (a := 14) (by decide)
        have hd15 := lv_neT hc15 (a := 15) (by decide)
        have hd16 := lv_neT hc16 (a := 16) (by decide)
        have hd17 := lv_neT hc17 (a := 17) (by decide)
        have hd18 := lv_neT hc18 (a := 18) (by decide)
        have hd19 := lv_neT hc19 (a := 19) (by decide)
        have hd20 := lv_neT hc20 (a := 20) (by decide)
        have hd21 := lv_neT hc21 (a := 21) (by decide)
        have hd22 := lv_neT hc22 (a := 22) (by decide)
        have hd23 := lv_neT hc23 (a := 23) (by decide)
        have hd24 := lv_neT hc24 (a := 24) (by decide)
        have hd25 := lv_neT hc25 (a := 25) (by decide)
        have hd26 := lv_neT hc26 (a := 26) (by decide)
        have hd27 := lv_neT hc27 (a := 27) (by decide)
        have hd28 := lv_neT hc28 (a := 28) (by decide)
        refine lv_tableOut (tgt := 897) hx hb dL_law_32 (by omega) (by decide) ?_
        obtain ⟨v199, ev199⟩ : ∃ y : Int32, y = (v5 + (4 : Int32)) := ⟨_, rfl⟩
        have hf := q_lt ev199 hf
        refine lv_iinc (v := v199) (lv' := [(3, .int v199), (0, .ref b), (1, .ref sz), (2, .ref (sz + 151))]) hx hb dL_law_897 hl (k := 3) rfl (by rw [ev199]; rfl) (by decide) rfl (fun ls hl => ?_)
        refine lv_goto (tgt := 18) hx hb dL_law_900 (by decide) ?_
        exact ih0 _ _ out hf hret hex _ _ _ hR hS hz (lv_sub hl [1, 2, 3, 0] rfl)
  refine hL F _ _ o201 ho (fun z hz9 => by subst hz9; exact Option.some.inj hf) (fun X200 h9 => ?_) _ _ _ hR hS hz (lv_sub hl [3, 2, 1, 0] rfl)
  subst h9
  intro H locs ls hR hS hz hl
  have hf := qsm1_r hf
  refine lv_iconst (v := (1 : Int32)) hx hb dL_law_903 (by decide) ?_
  exact hend _ _ _ hS _ dL_law_904
