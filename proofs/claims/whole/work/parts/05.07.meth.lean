/-! X10_takeClause -/
def fX10_takeClause (F : Nat) (X : qH) (a0 : Nat) : Option (Int32 × qH) :=
qIs 9 X a0 <|
qb2 (fX10_here F X a0) fun v1 X2 =>
(if v1 = (98 : Int32) then (some (0 : Int32))
else (if v1 = (104 : Int32) then (some (1 : Int32))
else (if v1 = (109 : Int32) then (some (2 : Int32))
else (if v1 = (103 : Int32) then (some (3 : Int32))
else (some (-1 : Int32))))) : Option Int32).bind fun v3 =>
qlab (fun (_ : Unit) =>
(qgI X2 9 a0 13).bind fun v4 =>
qb2 (fX10_fails F X2 a0 (1 : Int32) v4) fun v5 X6 =>
some (v5, X6)) fun J50 =>
if v3 < (0 : Int32) then (J50 ())
else (qlab (fun (_ : Unit) =>
(if v3 = (0 : Int32) then ((qgR X2 9 a0 16).bind fun v42 =>
(qaI X2 0 v42 (0 : Int32)).bind fun v43 =>
if v43 ≤ (0 : Int32) then (some (0 : Int32))
else (some (1 : Int32)))
else (if v3 = (1 : Int32) then ((qgI X2 9 a0 17).bind fun v44 =>
if v44 = (8 : Int32) then (some (1 : Int32))
else (some (0 : Int32)))
else (if v3 = (2 : Int32) then ((qgI X2 9 a0 25).bind fun v45 =>
some v45)
else ((qgI X2 9 a0 26).bind fun v46 =>
some v46))) : Option Int32).bind fun v7 =>
if v7 = (0 : Int32) then ((qgI X2 9 a0 13).bind fun v8 =>
qlt (v8 + (1 : Int32)) fun v9 =>
(qpI X2 9 a0 13 v9).bind fun X10 =>
(qgI X10 9 a0 25).bind fun v11 =>
(if v11 = (0 : Int32) then (if v3 = (2 : Int32) then (some (1 : Int32))
else (some (0 : Int32)))
else (some (1 : Int32)) : Option Int32).bind fun v12 =>
(qpZ X10 9 a0 25 v12).bind fun X13 =>
(qgI X13 9 a0 26).bind fun v14 =>
(if v14 = (0 : Int32) then (if v3 = (3 : Int32) then (some (1 : Int32))
else (some (0 : Int32)))
else (some (1 : Int32)) : Option Int32).bind fun v15 =>
(qpZ X13 9 a0 26 v15).bind fun X16 =>
qb2 (if v3 = (0 : Int32) then (qb2 (fX10_takeBay F X16 a0) fun v29 X30 =>
some (v29, X30))
else (if v3 = (1 : Int32) then (qb2 (fX10_takeHouse F X16 a0) fun v31 X32 =>
some (v31, X32))
else (if v3 = (2 : Int32) then ((qgR X16 9 a0 23).bind fun v33 =>
qb2 (fX10_into F X16 a0 v33 (0 : Int32) (0 : Int32) (9 : Int32)) fun v34 X35 =>
some (v34, X35))
else ((qgR X16 9 a0 24).bind fun v36 =>
qb2 (fX10_into F X16 a0 v36 (0 : Int32) (0 : Int32) (100 : Int32)) fun v37 X38 =>
some (v37, X38))))) fun v17 X18 =>
qlab (fun (X19 : qH) =>
(qgI X19 9 a0 13).bind fun v20 =>
qlt (v20 + (1 : Int32)) fun v21 =>
(qpI X19 9 a0 13 v21).bind fun X22 =>
some (v17, X22)) fun J28 =>
if v17 = (0 : Int32) then (qb2 (fX10_here F X18 a0) fun v23 X24 =>
if v23 = (59 : Int32) then (J28 X24)
else ((qgI X24 9 a0 13).bind fun v25 =>
qb2 (fX10_fails F X24 a0 (1 : Int32) v25) fun v26 X27 =>
some (v26, X27)))
else (J28 X18))
else ((qgI X2 9 a0 13).bind fun v39 =>
qb2 (fX10_fails F X2 a0 (3 : Int32) v39) fun v40 X41 =>
some (v40, X41))) fun J49 =>
if v3 ≤ (0 : Int32) then (J49 ())
else ((qgR X2 9 a0 16).bind fun v47 =>
(qaI X2 0 v47 (0 : Int32)).bind fun v48 =>
if v48 = (0 : Int32) then (J50 ())
else (J49 ())))
abbrev rmX10_takeClause : Room := { frames := 5, cells := 0, slots := 0, locals := 118 }
theorem fX10_takeClause_is {F : Nat} {X : qH} {a0 : Nat} {r9 : Int32 × qH} (h : fX10_takeClause F X a0 = some r9) : ∃ fs, X a0 = some (.inr (9, fs)) := (qIs_spec h).1
theorem hdX10_takeClause : yX10_takeClause.cls = RX10 ∧ yX10_takeClause.cls ≠ "java/lang/invoke/MethodHandle" ∧ yX10_takeClause.cls ≠ "java/lang/invoke/VarHandle" ∧ (parseMethodDescriptor yX10_takeClause.desc).map (fun d => d.parameters.length) = some 0 := by decide +kernel
set_option maxHeartbeats 4000000 in
set_option maxRecDepth 100000 in
theorem mX10_takeClause (l : Launch) (D : va_G) (kz : Nat → Nat) (b0 sz F : Nat) (X : qH) (a0 : Nat) (r : Int32) (Xr : qH) (hf : fX10_takeClause F X a0 = some (r, Xr)) : Met l yX10_takeClause (qws yX10_takeClause cX10_takeClause 5 (some .int)) rmX10_takeClause (va_Pc [.ref a0] (qU D kz b0 sz X)) (va_Qi (fun (r' : Int32) (u : qH) => r' = r ∧ u = Xr) (fun u t => qO D kz b0 sz u t) (qA b0)) 0 0 (qA b0) := by
  refine q_start (by decide) (Nat.le_of_ble_eq_true rfl) ?_
  intro p e s m args below meth c hx hb hr hlocks hnm hml hown hT hR hK hz ls hl
  have hown : s.vm.findClass RX10 = some m.cls := hown
  have hl : lv_has ls 5 [(0, .ref a0)] := hl
  have hS : va_S (qA b0) s.heap s.heap [] := va_S.rf
  obtain ⟨Q, hQ⟩ : ∃ Q, Q = MQ below (va_Qi (fun (r' : Int32) (u : qH) => r' = r ∧ u = Xr) (fun u t => qO D kz b0 sz u t) (qA b0)) args s 0 0 (qA b0) := ⟨_, rfl⟩
  rw [← hQ]
  unfold fX10_takeClause at hf
  obtain ⟨hthis, hf⟩ := qIs_spec hf
  refine lv_aload_n hx hb dX10_takeClause_0 rfl (lv_at hl 0 rfl) ?_
  obtain ⟨v1, X2, hc, hf⟩ := q_b2 hf
  refine q_calli (va_runV (As := []) (rest := []) ⟨hx, hb, hml, hown, hT⟩ (mX10_here l D kz b0 sz F X a0 v1 X2 hc) (cwV 0 hT (q_gV wco_X10_here wml_X10_119 wim_X10_here wse_X10_here win_X10) rfl rfl rfl hdX10_here ⟨Nat.le_of_ble_eq_true rfl, Nat.le_of_ble_eq_true rfl⟩) (q_preV vqX10 (fX10_here_is hc) hR hK hz) rfl rfl hl.1 rfl (lv_room (Nat.le_of_ble_eq_true rfl)) dX10_takeClause_1 ⟨Nat.le_of_ble_eq_true rfl, Nat.le_of_ble_eq_true rfl⟩) hS (fun H locs hR hS hz => ?_)
  refine lv_istore_n (lv' := [(1, .int v1), (0, .ref a0)]) hx hb dX10_takeClause_4 rfl hl (by decide) rfl (fun ls hl => ?_)
  refine lv_iload_n hx hb dX10_takeClause_5 rfl (lv_at hl 0 rfl) ?_
  refine lv_bipush (v := (98 : Int32)) hx hb dX10_takeClause_6 (by decide) ?_
  obtain ⟨v3, hp, hf⟩ := q_b hf
  have hJ : ∀ (H : Heap) (locs : List Loc) (ls : Array Slot), qR D kz b0 X2 H → va_S (qA b0) s.heap H locs → H.size = sz → lv_has ls 5 [(0, .ref a0)] → W p l e rmX10_takeClause s m args below meth c H locs 0 0 Q (F0 m 46 ls [.int v3]) := by
    intro H locs ls hR hS hz hl
    refine lv_istore_n (lv' := [(2, .int v3), (0, .ref a0)]) hx hb dX10_takeClause_46 rfl hl (by decide) rfl (fun ls hl => ?_)
    refine lv_iload_n hx hb dX10_takeClause_47 rfl (lv_at hl 0 rfl) ?_
    obtain ⟨J50, hJd, hf⟩ := q_lab hf
    have hJ64 : ∀ (_ : Unit), J50 () = some (r, Xr) → ∀ (H : Heap) (locs : List Loc) (ls : Array Slot), qR D kz b0 X2 H → va_S (qA b0) s.heap H locs → H.size = sz → lv_has ls 5 [(0, .ref a0)] → W p l e rmX10_takeClause s m args below meth c H locs 0 0 Q (F0 m 64 ls []) := by
      intro _ hf H locs ls hR hS hz hl
      rw [hJd] at hf
      refine lv_aload_n hx hb dX10_takeClause_64 rfl (lv_at hl 0 rfl) ?_
      refine lv_iconst (v := (1 : Int32)) hx hb dX10_takeClause_65 (by decide) ?_
      refine lv_aload_n hx hb dX10_takeClause_66 rfl (lv_at hl 0 rfl) ?_
      refine q_gI hx hb hT hown hK hR iqX10 vqX10 13 (by decide) (hT _ wfl_X10_116) hf dX10_takeClause_67 (fun v4 hf => ?_)
      obtain ⟨v5, X6, hc, hf⟩ := q_b2 hf
      refine q_calli (va_runV (As := [.int (1 : Int32), .int v4]) (rest := []) ⟨hx, hb, hml, hown, hT⟩ (mX10_fails l D kz b0 sz F X2 a0 (1 : Int32) v4 v5 X6 hc) (cwV 2 hT (q_gV wco_X10_fails wml_X10_127 wim_X10_fails wse_X10_fails win_X10) rfl rfl rfl hdX10_fails ⟨Nat.le_of_ble_eq_true rfl, Nat.le_of_ble_eq_true rfl⟩) (q_preV vqX10 (fX10_fails_is hc) hR hK hz) rfl rfl hl.1 rfl (lv_room (Nat.le_of_ble_eq_true rfl)) dX10_takeClause_70 ⟨Nat.le_of_ble_eq_true rfl, Nat.le_of_ble_eq_true rfl⟩) hS (fun H locs hR hS hz => ?_)
      subst hQ
      obtain ⟨h8, h9⟩ := Prod.mk.inj (Option.some.inj hf)
      exact q_iret hx hb hr hlocks hR hS hz h8 h9 dX10_takeClause_73
    clear hJd
    refine lv_if_lt (tgt := 64) hx hb dX10_takeClause_48 (by decide) (fun hc => ?_) (fun hc => ?_)
    · have hf := q_t hf hc
      exact hJ64 () hf _ _ _ hR hS hz (lv_sub hl [1] rfl)
    · have hf := q_f hf hc
      refine lv_iload_n hx hb dX10_takeClause_51 rfl (lv_at hl 0 rfl) ?_
      obtain ⟨J49, hJd, hf⟩ := q_lab hf
      have hJ74 : ∀ (_ : Unit), J49 () = some (r, Xr) → ∀ (H : Heap) (locs : List Loc) (ls : Array Slot), qR D kz b0 X2 H → va_S (qA b0) s.heap H locs → H.size = sz → lv_has ls 5 [(0, .ref a0), (2, .int v3)] → W p l e rmX10_takeClause s m args below meth c H locs 0 0 Q (F0 m 74 ls []) := by
        intro _ hf H locs ls hR hS hz hl
        rw [hJd] at hf
        refine lv_iload_n hx hb dX10_takeClause_74 rfl (lv_at hl 1 rfl) ?_
        obtain ⟨v7, hp, hf⟩ := q_b hf
        have hJ : ∀ (H : Heap) (locs : List Loc) (ls : Array Slot), qR D kz b0 X2 H → va_S (qA b0) s.heap H locs → H.size = sz → lv_has ls 5 [(0, .ref a0), (2, .int v3)] → W p l e rmX10_takeClause s m args below meth c H locs 0 0 Q (F0 m 133 ls [.int v7]) := by
          intro H locs ls hR hS hz hl
          refine lv_istore_n (lv' := [(3, .int v7), (0, .ref a0), (2, .int v3)]) hx hb dX10_takeClause_133 rfl hl (by decide) rfl (fun ls hl => ?_)
          refine lv_iload_n hx hb dX10_takeClause_134 rfl (lv_at hl 0 rfl) ?_
          refine lv_if_eq (tgt := 148) hx hb dX10_takeClause_135 (by decide) (fun hc => ?_) (fun hc => ?_)
          · have hf := q_t hf hc
            refine lv_aload_n hx hb dX10_takeClause_148 rfl (lv_at hl 1 rfl) ?_
            refine lv_dup hx hb dX10_takeClause_149 rfl ?_
            refine q_gI hx hb hT hown hK hR iqX10 vqX10 13 (by decide) (hT _ wfl_X10_116) hf dX10_takeClause_150 (fun v8 hf => ?_)
            refine lv_iconst (v := (1 : Int32)) hx hb dX10_takeClause_153 (by decide) ?_
            refine lv_iadd hx hb dX10_takeClause_154 ?_
            refine lv_topi (fun v9 ev9 => ?_)
            have hf := q_lt ev9 hf
            refine q_pI hx hb hT hown hK hR hS hz iqX10 vqX10 tyX10_ok nmX10 13 (by decide) (hT _ wfl_X10_116) rfl rfl hf dX10_takeClause_155 (fun X10 hf H locs hR hS hz => ?_)
            refine lv_aload_n hx hb dX10_takeClause_158 rfl (lv_at hl 1 rfl) ?_
            refine lv_aload_n hx hb dX10_takeClause_159 rfl (lv_at hl 1 rfl) ?_
            refine q_gI hx hb hT hown hK hR iqX10 vqX10 25 (by decide) (hT _ wfl_X10_166) hf dX10_takeClause_160 (fun v11 hf => ?_)
            obtain ⟨v12, hp, hf⟩ := q_b hf
            have hJ : ∀ (H : Heap) (locs : List Loc) (ls : Array Slot), qR D kz b0 X10 H → va_S (qA b0) s.heap H locs → H.size = sz → lv_has ls 5 [(0, .ref a0), (2, .int v3)] → W p l e rmX10_takeClause s m args below meth c H locs 0 0 Q (F0 m 176 ls [.int v12, .ref a0]) := by
              intro H locs ls hR hS hz hl
              refine q_pZ hx hb hT hown hK hR hS hz iqX10 vqX10 tyX10_ok nmX10 25 (by decide) (hT _ wfl_X10_166) rfl rfl hf dX10_takeClause_176 (fun X13 hf H locs hR hS hz => ?_)
              refine lv_aload_n hx hb dX10_takeClause_179 rfl (lv_at hl 0 rfl) ?_
              refine lv_aload_n hx hb dX10_takeClause_180 rfl (lv_at hl 0 rfl) ?_
              refine q_gI hx hb hT hown hK hR iqX10 vqX10 26 (by decide) (hT _ wfl_X10_170) hf dX10_takeClause_181 (fun v14 hf => ?_)
              obtain ⟨v15, hp, hf⟩ := q_b hf
              have hJ : ∀ (H : Heap) (locs : List Loc) (ls : Array Slot), qR D kz b0 X13 H → va_S (qA b0) s.heap H locs → H.size = sz → lv_has ls 5 [(0, .ref a0), (2, .int v3)] → W p l e rmX10_takeClause s m args below meth c H locs 0 0 Q (F0 m 197 ls [.int v15, .ref a0]) := by
                intro H locs ls hR hS hz hl
                refine q_pZ hx hb hT hown hK hR hS hz iqX10 vqX10 tyX10_ok nmX10 26 (by decide) (hT _ wfl_X10_170) rfl rfl hf dX10_takeClause_197 (fun X16 hf H locs hR hS hz => ?_)
                refine lv_iload_n hx hb dX10_takeClause_200 rfl (lv_at hl 1 rfl) ?_
                obtain ⟨v17, X18, hp, hf⟩ := q_b2 hf
                have hJ : ∀ (H : Heap) (locs : List Loc) (ls : Array Slot), qR D kz b0 X18 H → va_S (qA b0) s.heap H locs → H.size = sz → lv_has ls 5 [(0, .ref a0)] → W p l e rmX10_takeClause s m args below meth c H locs 0 0 Q (F0 m 255 ls [.int v17]) := by
                  intro H locs ls hR hS hz hl
                  refine lv_istore (lv' := [(4, .int v17), (0, .ref a0)]) hx hb dX10_takeClause_255 hl (by decide) rfl (fun ls hl => ?_)
                  refine lv_iload hx hb dX10_takeClause_257 (lv_at hl 0 rfl) ?_
                  obtain ⟨J28, hJd, hf⟩ := q_lab hf
                  have hJ281 : ∀ (X19 : qH), J28 X19 = some (r, Xr) → ∀ (H : Heap) (locs : List Loc) (ls : Array Slot), qR D kz b0 X19 H → va_S (qA b0) s.heap H locs → H.size = sz → lv_has ls 5 [(0, .ref a0), (4, .int v17)] → W p l e rmX10_takeClause s m args below meth c H locs 0 0 Q (F0 m 281 ls []) := by
                    intro X19 hf H locs ls hR hS hz hl
                    rw [hJd] at hf
                    refine lv_aload_n hx hb dX10_takeClause_281 rfl (lv_at hl 0 rfl) ?_
                    refine lv_dup hx hb dX10_takeClause_282 rfl ?_
                    refine q_gI hx hb hT hown hK hR iqX10 vqX10 13 (by decide) (hT _ wfl_X10_116) hf dX10_takeClause_283 (fun v20 hf => ?_)
                    refine lv_iconst (v := (1 : Int32)) hx hb dX10_takeClause_286 (by decide) ?_
                    refine lv_iadd hx hb dX10_takeClause_287 ?_
                    refine lv_topi (fun v21 ev21 => ?_)
                    have hf := q_lt ev21 hf
                    refine q_pI hx hb hT hown hK hR hS hz iqX10 vqX10 tyX10_ok nmX10 13 (by decide) (hT _ wfl_X10_116) rfl rfl hf dX10_takeClause_288 (fun X22 hf H locs hR hS hz => ?_)
                    refine lv_iload hx hb dX10_takeClause_291 (lv_at hl 1 rfl) ?_
                    subst hQ
                    obtain ⟨h8, h9⟩ := Prod.mk.inj (Option.some.inj hf)
                    exact q_iret hx hb hr hlocks hR hS hz h8 h9 dX10_takeClause_293
                  clear hJd
                  refine lv_if_ne (tgt := 281) hx hb dX10_takeClause_259 (by decide) (fun hc => ?_) (fun hc => ?_)
                  · have hf := q_f hf hc
                    exact hJ281 _ hf _ _ _ hR hS hz (lv_sub hl [1, 0] rfl)
                  · have hf := q_t hf hc
                    refine lv_aload_n hx hb dX10_takeClause_262 rfl (lv_at hl 1 rfl) ?_
                    obtain ⟨v23, X24, hc, hf⟩ := q_b2 hf
                    refine q_calli (va_runV (As := []) (rest := []) ⟨hx, hb, hml, hown, hT⟩ (mX10_here l D kz b0 sz F X18 a0 v23 X24 hc) (cwV 0 hT (q_gV wco_X10_here wml_X10_119 wim_X10_here wse_X10_here win_X10) rfl rfl rfl hdX10_here ⟨Nat.le_of_ble_eq_true rfl, Nat.le_of_ble_eq_true rfl⟩) (q_preV vqX10 (fX10_here_is hc) hR hK hz) rfl rfl hl.1 rfl (lv_room (Nat.le_of_ble_eq_true rfl)) dX10_takeClause_263 ⟨Nat.le_of_ble_eq_true rfl, Nat.le_of_ble_eq_true rfl⟩) hS (fun H locs hR hS hz => ?_)
                    refine lv_bipush (v := (59 : Int32)) hx hb dX10_takeClause_266 (by decide) ?_
                    refine lv_icmp_eq (tgt := 281) hx hb dX10_takeClause_268 (by decide) (fun hc => ?_) (fun hc => ?_)
                    · have hf := q_t hf hc
                      exact hJ281 _ hf _ _ _ hR hS hz (lv_sub hl [1, 0] rfl)
                    · have hf := q_f hf hc
                      refine lv_aload_n hx hb dX10_takeClause_271 rfl (lv_at hl 1 rfl) ?_
                      refine lv_iconst (v := (1 : Int32)) hx hb dX10_takeClause_272 (by decide) ?_
                      refine lv_aload_n hx hb dX10_takeClause_273 rfl (lv_at hl 1 rfl) ?_
                      refine q_gI hx hb hT hown hK hR iqX10 vqX10 13 (by decide) (hT _ wfl_X10_116) hf dX10_takeClause_274 (fun v25 hf => ?_)
                      obtain ⟨v26, X27, hc, hf⟩ := q_b2 hf
                      refine q_calli (va_runV (As := [.int (1 : Int32), .int v25]) (rest := []) ⟨hx, hb, hml, hown, hT⟩ (mX10_fails l D kz b0 sz F X24 a0 (1 : Int32) v25 v26 X27 hc) (cwV 2 hT (q_gV wco_X10_fails wml_X10_127 wim_X10_fails wse_X10_fails win_X10) rfl rfl rfl hdX10_fails ⟨Nat.le_of_ble_eq_true rfl, Nat.le_of_ble_eq_true rfl⟩) (q_preV vqX10 (fX10_fails_is hc) hR hK hz) rfl rfl hl.1 rfl (lv_room (Nat.le_of_ble_eq_true rfl)) dX10_takeClause_277 ⟨Nat.le_of_ble_eq_true rfl, Nat.le_of_ble_eq_true rfl⟩) hS (fun H locs hR hS hz => ?_)
                      subst hQ
                      obtain ⟨h8, h9⟩ := Prod.mk.inj (Option.some.inj hf)
                      exact q_iret hx hb hr hlocks hR hS hz h8 h9 dX10_takeClause_280
                have hf := hp
                refine lv_if_ne (tgt := 211) hx hb dX10_takeClause_201 (by decide) (fun hc => ?_) (fun hc => ?_)
                · have hf := q_f hf hc
                  refine lv_iload_n hx hb dX10_takeClause_211 rfl (lv_at hl 1 rfl) ?_
                  refine lv_iconst (v := (1 : Int32)) hx hb dX10_takeClause_212 (by decide) ?_
                  refine lv_icmp_ne (tgt := 223) hx hb dX10_takeClause_213 (by decide) (fun hc => ?_) (fun hc => ?_)
                  · have hf := q_f hf hc
                    refine lv_iload_n hx hb dX10_takeClause_223 rfl (lv_at hl 1 rfl) ?_
                    refine lv_iconst (v := (2 : Int32)) hx hb dX10_takeClause_224 (by decide) ?_
                    refine lv_icmp_ne (tgt := 243) hx hb dX10_takeClause_225 (by decide) (fun hc => ?_) (fun hc => ?_)
                    · have hf := q_f hf hc
                      refine lv_aload_n hx hb dX10_takeClause_243 rfl (lv_at hl 0 rfl) ?_
                      refine lv_aload_n hx hb dX10_takeClause_244 rfl (lv_at hl 0 rfl) ?_
                      refine q_gR hx hb hT hown hK hR iqX10 vqX10 24 (by decide) (hT _ wfl_X10_59) hf dX10_takeClause_245 (fun v36 hf => ?_)
                      refine lv_iconst (v := (0 : Int32)) hx hb dX10_takeClause_248 (by decide) ?_
                      refine lv_iconst (v := (0 : Int32)) hx hb dX10_takeClause_249 (by decide) ?_
                      refine lv_bipush (v := (100 : Int32)) hx hb dX10_takeClause_250 (by decide) ?_
                      obtain ⟨v37, X38, hc, hf⟩ := q_b2 hf
                      refine q_calli (va_runV (As := [.ref v36, .int (0 : Int32), .int (0 : Int32), .int (100 : Int32)]) (rest := []) ⟨hx, hb, hml, hown, hT⟩ (mX10_into l D kz b0 sz F X16 a0 v36 (0 : Int32) (0 : Int32) (100 : Int32) v37 X38 hc) (cwV 4 hT (q_gV wco_X10_into wml_X10_140 wim_X10_into wse_X10_into win_X10) rfl rfl rfl hdX10_into ⟨Nat.le_of_ble_eq_true rfl, Nat.le_of_ble_eq_true rfl⟩) (q_preV vqX10 (fX10_into_is hc) hR hK hz) rfl rfl hl.1 rfl (lv_room (Nat.le_of_ble_eq_true rfl)) dX10_takeClause_252 ⟨Nat.le_of_ble_eq_true rfl, Nat.le_of_ble_eq_true rfl⟩) hS (fun H locs hR hS hz => ?_)
                      cases hf
                      exact hJ _ _ _ hR hS hz (lv_sub hl [0] rfl)
                    · have hf := q_t hf hc
                      refine lv_aload_n hx hb dX10_takeClause_228 rfl (lv_at hl 0 rfl) ?_
                      refine lv_aload_n hx hb dX10_takeClause_229 rfl (lv_at hl 0 rfl) ?_
                      refine q_gR hx hb hT hown hK hR iqX10 vqX10 23 (by decide) (hT _ wfl_X10_56) hf dX10_takeClause_230 (fun v33 hf => ?_)
                      refine lv_iconst (v := (0 : Int32)) hx hb dX10_takeClause_233 (by decide) ?_
                      refine lv_iconst (v := (0 : Int32)) hx hb dX10_takeClause_234 (by decide) ?_
                      refine lv_bipush (v := (9 : Int32)) hx hb dX10_takeClause_235 (by decide) ?_
                      obtain ⟨v34, X35, hc, hf⟩ := q_b2 hf
                      refine q_calli (va_runV (As := [.ref v33, .int (0 : Int32), .int (0 : Int32), .int (9 : Int32)]) (rest := []) ⟨hx, hb, hml, hown, hT⟩ (mX10_into l D kz b0 sz F X16 a0 v33 (0 : Int32) (0 : Int32) (9 : Int32) v34 X35 hc) (cwV 4 hT (q_gV wco_X10_into wml_X10_140 wim_X10_into wse_X10_into win_X10) rfl rfl rfl hdX10_into ⟨Nat.le_of_ble_eq_true rfl, Nat.le_of_ble_eq_true rfl⟩) (q_preV vqX10 (fX10_into_is hc) hR hK hz) rfl rfl hl.1 rfl (lv_room (Nat.le_of_ble_eq_true rfl)) dX10_takeClause_237 ⟨Nat.le_of_ble_eq_true rfl, Nat.le_of_ble_eq_true rfl⟩) hS (fun H locs hR hS hz => ?_)
                      refine lv_goto (tgt := 255) hx hb dX10_takeClause_240 (by decide) ?_
                      cases hf
                      exact hJ _ _ _ hR hS hz (lv_sub hl [0] rfl)
                  · have hf := q_t hf hc
                    refine lv_aload_n hx hb dX10_takeClause_216 rfl (lv_at hl 0 rfl) ?_
                    obtain ⟨v31, X32, hc, hf⟩ := q_b2 hf
                    refine q_calli (va_runV (As := []) (rest := []) ⟨hx, hb, hml, hown, hT⟩ (mX10_takeHouse l D kz b0 sz F X16 a0 v31 X32 hc) (cwV 0 hT (q_gV wco_X10_takeHouse wml_X10_176 wim_X10_takeHouse wse_X10_takeHouse win_X10) rfl rfl rfl hdX10_takeHouse ⟨Nat.le_of_ble_eq_true rfl, Nat.le_of_ble_eq_true rfl⟩) (q_preV vqX10 (fX10_takeHouse_is hc) hR hK hz) rfl rfl hl.1 rfl (lv_room (Nat.le_of_ble_eq_true rfl)) dX10_takeClause_217 ⟨Nat.le_of_ble_eq_true rfl, Nat.le_of_ble_eq_true rfl⟩) hS (fun H locs hR hS hz => ?_)
                    refine lv_goto (tgt := 255) hx hb dX10_takeClause_220 (by decide) ?_
                    cases hf
                    exact hJ _ _ _ hR hS hz (lv_sub hl [0] rfl)
                · have hf := q_t hf hc
                  refine lv_aload_n hx hb dX10_takeClause_204 rfl (lv_at hl 0 rfl) ?_
                  obtain ⟨v29, X30, hc, hf⟩ := q_b2 hf
                  refine q_calli (va_runV (As := []) (rest := []) ⟨hx, hb, hml, hown, hT⟩ (mX10_takeBay l D kz b0 sz F X16 a0 v29 X30 hc) (cwV 0 hT (q_gV wco_X10_takeBay wml_X10_173 wim_X10_takeBay wse_X10_takeBay win_X10) rfl rfl rfl hdX10_takeBay ⟨Nat.le_of_ble_eq_true rfl, Nat.le_of_ble_eq_true rfl⟩) (q_preV vqX10 (fX10_takeBay_is hc) hR hK hz) rfl rfl hl.1 rfl (lv_room (Nat.le_of_ble_eq_true rfl)) dX10_takeClause_205 ⟨Nat.le_of_ble_eq_true rfl, Nat.le_of_ble_eq_true rfl⟩) hS (fun H locs hR hS hz => ?_)
                  refine lv_goto (tgt := 255) hx hb dX10_takeClause_208 (by decide) ?_
                  cases hf
                  exact hJ _ _ _ hR hS hz (lv_sub hl [0] rfl)
              have hf := hp
              refine lv_if_ne (tgt := 192) hx hb dX10_takeClause_184 (by decide) (fun hc => ?_) (fun hc => ?_)
              · have hf := q_f hf hc
                refine lv_iconst (v := (1 : Int32)) hx hb dX10_takeClause_192 (by decide) ?_
                refine lv_goto (tgt := 197) hx hb dX10_takeClause_193 (by decide) ?_
                cases hf
                exact hJ _ _ _ hR hS hz (lv_sub hl [0, 1] rfl)
              · have hf := q_t hf hc
                refine lv_iload_n hx hb dX10_takeClause_187 rfl (lv_at hl 1 rfl) ?_
                refine lv_iconst (v := (3 : Int32)) hx hb dX10_takeClause_188 (by decide) ?_
                refine lv_icmp_ne (tgt := 196) hx hb dX10_takeClause_189 (by decide) (fun hc => ?_) (fun hc => ?_)
                · have hf := q_f hf hc
                  refine lv_iconst (v := (0 : Int32)) hx hb dX10_takeClause_196 (by decide) ?_
                  cases hf
                  exact hJ _ _ _ hR hS hz (lv_sub hl [0, 1] rfl)
                · have hf := q_t hf hc
                  refine lv_iconst (v := (1 : Int32)) hx hb dX10_takeClause_192 (by decide) ?_
                  refine lv_goto (tgt := 197) hx hb dX10_takeClause_193 (by decide) ?_
                  cases hf
                  exact hJ _ _ _ hR hS hz (lv_sub hl [0, 1] rfl)
            have hf := hp
            refine lv_if_ne (tgt := 171) hx hb dX10_takeClause_163 (by decide) (fun hc => ?_) (fun hc => ?_)
            · have hf := q_f hf hc
              refine lv_iconst (v := (1 : Int32)) hx hb dX10_takeClause_171 (by decide) ?_
              refine lv_goto (tgt := 176) hx hb dX10_takeClause_172 (by decide) ?_
              cases hf
              exact hJ _ _ _ hR hS hz (lv_sub hl [1, 2] rfl)
            · have hf := q_t hf hc
              refine lv_iload_n hx hb dX10_takeClause_166 rfl (lv_at hl 2 rfl) ?_
              refine lv_iconst (v := (2 : Int32)) hx hb dX10_takeClause_167 (by decide) ?_
              refine lv_icmp_ne (tgt := 175) hx hb dX10_takeClause_168 (by decide) (fun hc => ?_) (fun hc => ?_)
              · have hf := q_f hf hc
                refine lv_iconst (v := (0 : Int32)) hx hb dX10_takeClause_175 (by decide) ?_
                cases hf
                exact hJ _ _ _ hR hS hz (lv_sub hl [1, 2] rfl)
              · have hf := q_t hf hc
                refine lv_iconst (v := (1 : Int32)) hx hb dX10_takeClause_171 (by decide) ?_
                refine lv_goto (tgt := 176) hx hb dX10_takeClause_172 (by decide) ?_
                cases hf
                exact hJ _ _ _ hR hS hz (lv_sub hl [1, 2] rfl)
          · have hf := q_f hf hc
            refine lv_aload_n hx hb dX10_takeClause_138 rfl (lv_at hl 1 rfl) ?_
            refine lv_iconst (v := (3 : Int32)) hx hb dX10_takeClause_139 (by decide) ?_
            refine lv_aload_n hx hb dX10_takeClause_140 rfl (lv_at hl 1 rfl) ?_
            refine q_gI hx hb hT hown hK hR iqX10 vqX10 13 (by decide) (hT _ wfl_X10_116) hf dX10_takeClause_141 (fun v39 hf => ?_)
            obtain ⟨v40, X41, hc, hf⟩ := q_b2 hf
            refine q_calli (va_runV (As := [.int (3 : Int32), .int v39]) (rest := []) ⟨hx, hb, hml, hown, hT⟩ (mX10_fails l D kz b0 sz F X2 a0 (3 : Int32) v39 v40 X41 hc) (cwV 2 hT (q_gV wco_X10_fails wml_X10_127 wim_X10_fails wse_X10_fails win_X10) rfl rfl rfl hdX10_fails ⟨Nat.le_of_ble_eq_true rfl, Nat.le_of_ble_eq_true rfl⟩) (q_preV vqX10 (fX10_fails_is hc) hR hK hz) rfl rfl hl.1 rfl (lv_room (Nat.le_of_ble_eq_true rfl)) dX10_takeClause_144 ⟨Nat.le_of_ble_eq_true rfl, Nat.le_of_ble_eq_true rfl⟩) hS (fun H locs hR hS hz => ?_)
            subst hQ
            obtain ⟨h8, h9⟩ := Prod.mk.inj (Option.some.inj hf)
            exact q_iret hx hb hr hlocks hR hS hz h8 h9 dX10_takeClause_147
        have hf := hp
        refine lv_if_ne (tgt := 95) hx hb dX10_takeClause_75 (by decide) (fun hc => ?_) (fun hc => ?_)
        · have hf := q_f hf hc
          refine lv_iload_n hx hb dX10_takeClause_95 rfl (lv_at hl 1 rfl) ?_
          refine lv_iconst (v := (1 : Int32)) hx hb dX10_takeClause_96 (by decide) ?_
          refine lv_icmp_ne (tgt := 117) hx hb dX10_takeClause_97 (by decide) (fun hc => ?_) (fun hc => ?_)
          · have hf := q_f hf hc
            refine lv_iload_n hx hb dX10_takeClause_117 rfl (lv_at hl 1 rfl) ?_
            refine lv_iconst (v := (2 : Int32)) hx hb dX10_takeClause_118 (by decide) ?_
            refine lv_icmp_ne (tgt := 129) hx hb dX10_takeClause_119 (by decide) (fun hc => ?_) (fun hc => ?_)
            · have hf := q_f hf hc
              refine lv_aload_n hx hb dX10_takeClause_129 rfl (lv_at hl 0 rfl) ?_
              refine q_gI hx hb hT hown hK hR iqX10 vqX10 26 (by decide) (hT _ wfl_X10_170) hf dX10_takeClause_130 (fun v46 hf => ?_)
              cases hf
              exact hJ _ _ _ hR hS hz (lv_sub hl [0, 1] rfl)
            · have hf := q_t hf hc
              refine lv_aload_n hx hb dX10_takeClause_122 rfl (lv_at hl 0 rfl) ?_
              refine q_gI hx hb hT hown hK hR iqX10 vqX10 25 (by decide) (hT _ wfl_X10_166) hf dX10_takeClause_123 (fun v45 hf => ?_)
              refine lv_goto (tgt := 133) hx hb dX10_takeClause_126 (by decide) ?_
              cases hf
              exact hJ _ _ _ hR hS hz (lv_sub hl [0, 1] rfl)
          · have hf := q_t hf hc
            refine lv_aload_n hx hb dX10_takeClause_100 rfl (lv_at hl 0 rfl) ?_
            refine q_gI hx hb hT hown hK hR iqX10 vqX10 17 (by decide) (hT _ wfl_X10_156) hf dX10_takeClause_101 (fun v44 hf => ?_)
            refine lv_bipush (v := (8 : Int32)) hx hb dX10_takeClause_104 (by decide) ?_
            refine lv_icmp_ne (tgt := 113) hx hb dX10_takeClause_106 (by decide) (fun hc => ?_) (fun hc => ?_)
            · have hf := q_f hf hc
              refine lv_iconst (v := (0 : Int32)) hx hb dX10_takeClause_113 (by decide) ?_
              refine lv_goto (tgt := 133) hx hb dX10_takeClause_114 (by decide) ?_
              cases hf
              exact hJ _ _ _ hR hS hz (lv_sub hl [0, 1] rfl)
            · have hf := q_t hf hc
              refine lv_iconst (v := (1 : Int32)) hx hb dX10_takeClause_109 (by decide) ?_
              refine lv_goto (tgt := 133) hx hb dX10_takeClause_110 (by decide) ?_
              cases hf
              exact hJ _ _ _ hR hS hz (lv_sub hl [0, 1] rfl)
        · have hf := q_t hf hc
          refine lv_aload_n hx hb dX10_takeClause_78 rfl (lv_at hl 0 rfl) ?_
          refine q_gR hx hb hT hown hK hR iqX10 vqX10 16 (by decide) (hT _ wfl_X10_38) hf dX10_takeClause_79 (fun v42 hf => ?_)
          refine lv_iconst (v := (0 : Int32)) hx hb dX10_takeClause_82 (by decide) ?_
          refine q_iald hx hb hK hR hf dX10_takeClause_83 (fun v43 hf => ?_)
          refine lv_if_le (tgt := 91) hx hb dX10_takeClause_84 (by decide) (fun hc => ?_) (fun hc => ?_)
          · have hf := q_t hf hc
            refine lv_iconst (v := (0 : Int32)) hx hb dX10_takeClause_91 (by decide) ?_
            refine lv_goto (tgt := 133) hx hb dX10_takeClause_92 (by decide) ?_
            cases hf
            exact hJ _ _ _ hR hS hz (lv_sub hl [0, 1] rfl)
          · have hf := q_f hf hc
            refine lv_iconst (v := (1 : Int32)) hx hb dX10_takeClause_87 (by decide) ?_
            refine lv_goto (tgt := 133) hx hb dX10_takeClause_88 (by decide) ?_
            cases hf
            exact hJ _ _ _ hR hS hz (lv_sub hl [0, 1] rfl)
      clear hJd
      refine lv_if_le (tgt := 74) hx hb dX10_takeClause_52 (by decide) (fun hc => ?_) (fun hc => ?_)
      · have hf := q_t hf hc
        exact hJ74 () hf _ _ _ hR hS hz (lv_sub hl [1, 0] rfl)
      · have hf := q_f hf hc
        refine lv_aload_n hx hb dX10_takeClause_55 rfl (lv_at hl 1 rfl) ?_
        refine q_gR hx hb hT hown hK hR iqX10 vqX10 16 (by decide) (hT _ wfl_X10_38) hf dX10_takeClause_56 (fun v47 hf => ?_)
        refine lv_iconst (v := (0 : Int32)) hx hb dX10_takeClause_59 (by decide) ?_
        refine q_iald hx hb hK hR hf dX10_takeClause_60 (fun v48 hf => ?_)
        refine lv_if_ne (tgt := 74) hx hb dX10_takeClause_61 (by decide) (fun hc => ?_) (fun hc => ?_)
        · have hf := q_f hf hc
          exact hJ74 () hf _ _ _ hR hS hz (lv_sub hl [1, 0] rfl)
        · have hf := q_t hf hc
          exact hJ64 () hf _ _ _ hR hS hz (lv_sub hl [1] rfl)
  have hf := hp
  refine lv_icmp_ne (tgt := 15) hx hb dX10_takeClause_8 (by decide) (fun hc => ?_) (fun hc => ?_)
  · have hf := q_f hf hc
    refine lv_iload_n hx hb dX10_takeClause_15 rfl (lv_at hl 0 rfl) ?_
    refine lv_bipush (v := (104 : Int32)) hx hb dX10_takeClause_16 (by decide) ?_
    refine lv_icmp_ne (tgt := 25) hx hb dX10_takeClause_18 (by decide) (fun hc => ?_) (fun hc => ?_)
    · have hf := q_f hf hc
      refine lv_iload_n hx hb dX10_takeClause_25 rfl (lv_at hl 0 rfl) ?_
      refine lv_bipush (v := (109 : Int32)) hx hb dX10_takeClause_26 (by decide) ?_
      refine lv_icmp_ne (tgt := 35) hx hb dX10_takeClause_28 (by decide) (fun hc => ?_) (fun hc => ?_)
      · have hf := q_f hf hc
        refine lv_iload_n hx hb dX10_takeClause_35 rfl (lv_at hl 0 rfl) ?_
        refine lv_bipush (v := (103 : Int32)) hx hb dX10_takeClause_36 (by decide) ?_
        refine lv_icmp_ne (tgt := 45) hx hb dX10_takeClause_38 (by decide) (fun hc => ?_) (fun hc => ?_)
        · have hf := q_f hf hc
          refine lv_iconst (v := (-1 : Int32)) hx hb dX10_takeClause_45 (by decide) ?_
          cases hf
          exact hJ _ _ _ hR hS hz (lv_sub hl [1] rfl)
        · have hf := q_t hf hc
          refine lv_iconst (v := (3 : Int32)) hx hb dX10_takeClause_41 (by decide) ?_
          refine lv_goto (tgt := 46) hx hb dX10_takeClause_42 (by decide) ?_
          cases hf
          exact hJ _ _ _ hR hS hz (lv_sub hl [1] rfl)
      · have hf := q_t hf hc
        refine lv_iconst (v := (2 : Int32)) hx hb dX10_takeClause_31 (by decide) ?_
        refine lv_goto (tgt := 46) hx hb dX10_takeClause_32 (by decide) ?_
        cases hf
        exact hJ _ _ _ hR hS hz (lv_sub hl [1] rfl)
    · have hf := q_t hf hc
      refine lv_iconst (v := (1 : Int32)) hx hb dX10_takeClause_21 (by decide) ?_
      refine lv_goto (tgt := 46) hx hb dX10_takeClause_22 (by decide) ?_
      cases hf
      exact hJ _ _ _ hR hS hz (lv_sub hl [1] rfl)
  · have hf := q_t hf hc
    refine lv_iconst (v := (0 : Int32)) hx hb dX10_takeClause_11 (by decide) ?_
    refine lv_goto (tgt := 46) hx hb dX10_takeClause_12 (by decide) ?_
    cases hf
    exact hJ _ _ _ hR hS hz (lv_sub hl [1] rfl)
/-! X10_takeRead -/
def fX10_takeRead_L63_B (F : Nat) (a0 : Nat) (self0 : Int32 → qH → Option (qH)) (v12 : Int32) (X13 : qH) : Option (qH) :=
if (43 : Int32) ≤ v12 then (some X13)
else ((qgR X13 9 a0 8).bind fun v14 =>
(qaS X13 0 v14 v12 (0 : Int32)).bind fun X15 =>
qlt (v12 + (1 : Int32)) fun v16 =>
self0 v16 X15)
def fX10_takeRead_L63 (F : Nat) (a0 : Nat) : Nat → Int32 → qH → Option (qH)
  | 0, _, _ => none
  | n + 1, v12, X13 => fX10_takeRead_L63_B F a0 (fX10_takeRead_L63 F a0 n) v12 X13
def fX10_takeRead_L121_B (F : Nat) (a0 : Nat) (self0 : Int32 → qH → Option (qH)) (v26 : Int32) (X27 : qH) : Option (qH) :=
if (8 : Int32) ≤ v26 then (some X27)
else ((qgR X27 9 a0 8).bind fun v28 =>
(qgI X27 9 a0 1).bind fun v29 =>
(if v29 ≤ v26 then (some (0 : Int32))
else ((qgR X27 9 a0 20).bind fun v37 =>
(qaI X27 0 v37 v26).bind fun v38 =>
some v38) : Option Int32).bind fun v30 =>
(qaS X27 0 v28 ((3 : Int32) + v26) v30).bind fun X31 =>
(qgR X31 9 a0 8).bind fun v32 =>
(qaS X31 0 v32 ((11 : Int32) + v26) (-1 : Int32)).bind fun X33 =>
(qgR X33 9 a0 8).bind fun v34 =>
(qaS X33 0 v34 ((19 : Int32) + v26) (-1 : Int32)).bind fun X35 =>
qlt (v26 + (1 : Int32)) fun v36 =>
self0 v36 X35)
def fX10_takeRead_L121 (F : Nat) (a0 : Nat) : Nat → Int32 → qH → Option (qH)
  | 0, _, _ => none
  | n + 1, v26, X27 => fX10_takeRead_L121_B F a0 (fX10_takeRead_L121 F a0 n) v26 X27
def fX10_takeRead_L227_B (F : Nat) (a0 : Nat) (v40 : Int32) (self0 : Int32 → qH → Option (qH)) (v55 : Int32) (X56 : qH) : Option (qH) :=
if (5 : Int32) ≤ v55 then (some X56)
else ((qgR X56 9 a0 5).bind fun v57 =>
(qgR X56 9 a0 22).bind fun v58 =>
(qaI X56 0 v58 (((5 : Int32) * v40) + v55)).bind fun v59 =>
(qaS X56 0 v57 (((5 : Int32) * v40) + v55) v59).bind fun X60 =>
qlt (v55 + (1 : Int32)) fun v61 =>
self0 v61 X60)
def fX10_takeRead_L227 (F : Nat) (a0 : Nat) (v40 : Int32) : Nat → Int32 → qH → Option (qH)
  | 0, _, _ => none
  | n + 1, v55, X56 => fX10_takeRead_L227_B F a0 v40 (fX10_takeRead_L227 F a0 v40 n) v55 X56
def fX10_takeRead_L181_B (F : Nat) (a0 : Nat) (self0 : Int32 → qH → Option (qH)) (v40 : Int32) (X41 : qH) : Option (qH) :=
(qgI X41 9 a0 1).bind fun v42 =>
if v42 ≤ v40 then (some X41)
else ((qgR X41 9 a0 2).bind fun v43 =>
(qgR X41 9 a0 18).bind fun v44 =>
(qaI X41 0 v44 v40).bind fun v45 =>
(qaS X41 0 v43 v40 v45).bind fun X46 =>
(qgR X46 9 a0 3).bind fun v47 =>
(qgR X46 9 a0 19).bind fun v48 =>
(qaI X46 0 v48 v40).bind fun v49 =>
(qaS X46 0 v47 v40 v49).bind fun X50 =>
(qgR X50 9 a0 4).bind fun v51 =>
(qgR X50 9 a0 21).bind fun v52 =>
(qaI X50 0 v52 v40).bind fun v53 =>
(qaS X50 0 v51 v40 v53).bind fun X54 =>
(fX10_takeRead_L227 F a0 v40 F (0 : Int32) X54).bind fun X62 =>
qlt (v40 + (1 : Int32)) fun v63 =>
self0 v63 X62)
def fX10_takeRead_L181 (F : Nat) (a0 : Nat) : Nat → Int32 → qH → Option (qH)
  | 0, _, _ => none
  | n + 1, v40, X41 => fX10_takeRead_L181_B F a0 (fX10_takeRead_L181 F a0 n) v40 X41
def fX10_takeRead (F : Nat) (X : qH) (a0 : Nat) : Option (qH) :=
qIs 9 X a0 <|
(qgR X 9 a0 16).bind fun v1 =>
(qaI X 0 v1 (0 : Int32)).bind fun v2 =>
(qpI X 9 a0 0 v2).bind fun X3 =>
(qgI X3 9 a0 17).bind fun v4 =>
(qpI X3 9 a0 1 v4).bind fun X5 =>
(qgI X5 9 a0 25).bind fun v6 =>
(if v6 = (0 : Int32) then (some (2 : Int32))
else ((qgR X5 9 a0 23).bind fun v69 =>
(qaI X5 0 v69 (0 : Int32)).bind fun v70 =>
some v70) : Option Int32).bind fun v7 =>
(qpI X5 9 a0 6 v7).bind fun X8 =>
(qgI X8 9 a0 26).bind fun v9 =>
(if v9 = (0 : Int32) then (some (10 : Int32))
else ((qgR X8 9 a0 24).bind fun v67 =>
(qaI X8 0 v67 (0 : Int32)).bind fun v68 =>
some v68) : Option Int32).bind fun v10 =>
(qpI X8 9 a0 7 v10).bind fun X11 =>
(fX10_takeRead_L63 F a0 F (0 : Int32) X11).bind fun X17 =>
(qgR X17 9 a0 8).bind fun v18 =>
(qgR X17 9 a0 16).bind fun v19 =>
(qaI X17 0 v19 (1 : Int32)).bind fun v20 =>
(qaS X17 0 v18 (0 : Int32) v20).bind fun X21 =>
(qgR X21 9 a0 8).bind fun v22 =>
(qgI X21 9 a0 0).bind fun v23 =>
(if v23 = (0 : Int32) then (some (0 : Int32))
else ((qgR X21 9 a0 16).bind fun v65 =>
(qaI X21 0 v65 (2 : Int32)).bind fun v66 =>
some (v66 - (5 : Int32))) : Option Int32).bind fun v24 =>
(qaS X21 0 v22 (1 : Int32) v24).bind fun X25 =>
(fX10_takeRead_L121 F a0 F (0 : Int32) X25).bind fun X39 =>
(fX10_takeRead_L181 F a0 F (0 : Int32) X39).bind fun X64 =>
some X64
abbrev rmX10_takeRead : Room := { frames := 0, cells := 0, slots := 0, locals := 0 }
theorem fX10_takeRead_is {F : Nat} {X : qH} {a0 : Nat} {r9 : qH} (h : fX10_takeRead F X a0 = some r9) : ∃ fs, X a0 = some (.inr (9, fs)) := (qIs_spec h).1
theorem hdX10_takeRead : yX10_takeRead.cls = RX10 ∧ yX10_takeRead.cls ≠ "java/lang/invoke/MethodHandle" ∧ yX10_takeRead.cls ≠ "java/lang/invoke/VarHandle" ∧ (parseMethodDescriptor yX10_takeRead.desc).map (fun d => d.parameters.length) = some 0 := by decide +kernel
set_option maxHeartbeats 4000000 in
set_option maxRecDepth 100000 in
theorem mX10_takeRead (l : Launch) (D : va_G) (kz : Nat → Nat) (b0 sz F : Nat) (X : qH) (a0 : Nat)  (Xr : qH) (hf : fX10_takeRead F X a0 = some Xr) : Met l yX10_takeRead (qws yX10_takeRead cX10_takeRead 3 none) rmX10_takeRead (va_Pc [.ref a0] (qU D kz b0 sz X)) (va_Qv (fun (u : qH) => u = Xr) (fun u t => qO D kz b0 sz u t) (qA b0)) 0 0 (qA b0) := by
  refine q_start (by decide) (Nat.le_of_ble_eq_true rfl) ?_
  intro p e s m args below meth c hx hb hr hlocks hnm hml hown hT hR hK hz ls hl
  have hown : s.vm.findClass RX10 = some m.cls := hown
  have hl : lv_has ls 3 [(0, .ref a0)] := hl
  have hS : va_S (qA b0) s.heap s.heap [] := va_S.rf
  obtain ⟨Q, hQ⟩ : ∃ Q, Q = MQ below (va_Qv (fun (u : qH) => u = Xr) (fun u t => qO D kz b0 sz u t) (qA b0)) args s 0 0 (qA b0) := ⟨_, rfl⟩
  rw [← hQ]
  unfold fX10_takeRead at hf
  obtain ⟨hthis, hf⟩ := qIs_spec hf
  refine lv_aload_n hx hb dX10_takeRead_0 rfl (lv_at hl 0 rfl) ?_
  refine lv_aload_n hx hb dX10_takeRead_1 rfl (lv_at hl 0 rfl) ?_
  refine q_gR hx hb hT hown hK hR iqX10 vqX10 16 (by decide) (hT _ wfl_X10_38) hf dX10_takeRead_2 (fun v1 hf => ?_)
  refine lv_iconst (v := (0 : Int32)) hx hb dX10_takeRead_5 (by decide) ?_
  refine q_iald hx hb hK hR hf dX10_takeRead_6 (fun v2 hf => ?_)
  refine q_pI hx hb hT hown hK hR hS hz iqX10 vqX10 tyX10_ok nmX10 0 (by decide) (hT _ wfl_X10_99) rfl rfl hf dX10_takeRead_7 (fun X3 hf H locs hR hS hz => ?_)
  refine lv_aload_n hx hb dX10_takeRead_10 rfl (lv_at hl 0 rfl) ?_
  refine lv_aload_n hx hb dX10_takeRead_11 rfl (lv_at hl 0 rfl) ?_
  refine q_gI hx hb hT hown hK hR iqX10 vqX10 17 (by decide) (hT _ wfl_X10_156) hf dX10_takeRead_12 (fun v4 hf => ?_)
  refine q_pI hx hb hT hown hK hR hS hz iqX10 vqX10 tyX10_ok nmX10 1 (by decide) (hT _ wfl_X10_102) rfl rfl hf dX10_takeRead_15 (fun X5 hf H locs hR hS hz => ?_)
  refine lv_aload_n hx hb dX10_takeRead_18 rfl (lv_at hl 0 rfl) ?_
  refine lv_aload_n hx hb dX10_takeRead_19 rfl (lv_at hl 0 rfl) ?_
  refine q_gI hx hb hT hown hK hR iqX10 vqX10 25 (by decide) (hT _ wfl_X10_166) hf dX10_takeRead_20 (fun v6 hf => ?_)
  obtain ⟨v7, hp, hf⟩ := q_b hf
  have hJ : ∀ (H : Heap) (locs : List Loc) (ls : Array Slot), qR D kz b0 X5 H → va_S (qA b0) s.heap H locs → H.size = sz → lv_has ls 3 [(0, .ref a0)] → W p l e rmX10_takeRead s m args below meth c H locs 0 0 Q (F0 m 36 ls [.int v7, .ref a0]) := by
    intro H locs ls hR hS hz hl
    refine q_pI hx hb hT hown hK hR hS hz iqX10 vqX10 tyX10_ok nmX10 6 (by decide) (hT _ wfl_X10_22) rfl rfl hf dX10_takeRead_36 (fun X8 hf H locs hR hS hz => ?_)
    refine lv_aload_n hx hb dX10_takeRead_39 rfl (lv_at hl 0 rfl) ?_
    refine lv_aload_n hx hb dX10_takeRead_40 rfl (lv_at hl 0 rfl) ?_
    refine q_gI hx hb hT hown hK hR iqX10 vqX10 26 (by decide) (hT _ wfl_X10_170) hf dX10_takeRead_41 (fun v9 hf => ?_)
    obtain ⟨v10, hp, hf⟩ := q_b hf
    have hJ : ∀ (H : Heap) (locs : List Loc) (ls : Array Slot), qR D kz b0 X8 H → va_S (qA b0) s.heap H locs → H.size = sz → lv_has ls 3 [(0, .ref a0)] → W p l e rmX10_takeRead s m args below meth c H locs 0 0 Q (F0 m 58 ls [.int v10, .ref a0]) := by
      intro H locs ls hR hS hz hl
      refine q_pI hx hb hT hown hK hR hS hz iqX10 vqX10 tyX10_ok nmX10 7 (by decide) (hT _ wfl_X10_26) rfl rfl hf dX10_takeRead_58 (fun X11 hf H locs hR hS hz => ?_)
      refine lv_iconst (v := (0 : Int32)) hx hb dX10_takeRead_61 (by decide) ?_
      refine lv_istore_n (lv' := [(1, .int (0 : Int32)), (0, .ref a0)]) hx hb dX10_takeRead_62 rfl hl (by decide) rfl (fun ls hl => ?_)
      obtain ⟨X17, ho, hf⟩ := q_b hf
      have hL : ∀ (n : Nat) (v12 : Int32) (X13 : qH) (out : qH), fX10_takeRead_L63 F a0 n v12 X13 = some out → (∀ (X17 : qH), out = X17 → ∀ (H : Heap) (locs : List Loc) (ls : Array Slot), qR D kz b0 X17 H → va_S (qA b0) s.heap H locs → H.size = sz → lv_has ls 3 [(0, .ref a0)] → W p l e rmX10_takeRead s m args below meth c H locs 0 0 Q (F0 m 82 ls [])) → ∀ (H : Heap) (locs : List Loc) (ls : Array Slot), qR D kz b0 X13 H → va_S (qA b0) s.heap H locs → H.size = sz → lv_has ls 3 [(0, .ref a0), (1, .int v12)] → W p l e rmX10_takeRead s m args below meth c H locs 0 0 Q (F0 m 63 ls []) := by
        intro n9
        induction n9 with
        | zero =>
          intro v12 X13 out hf
          exact absurd (show none = some out from hf) (by simp)
        | succ n9 ih0 =>
          intro v12 X13 out hf hex H locs ls hR hS hz hl
          have hf : fX10_takeRead_L63_B F a0 (fX10_takeRead_L63 F a0 n9) v12 X13 = some out := hf
          unfold fX10_takeRead_L63_B at hf
          refine lv_iload_n hx hb dX10_takeRead_63 rfl (lv_at hl 1 rfl) ?_
          refine lv_bipush (v := (43 : Int32)) hx hb dX10_takeRead_64 (by decide) ?_
          refine lv_icmp_ge (tgt := 82) hx hb dX10_takeRead_66 (by decide) (fun hc => ?_) (fun hc => ?_)
          · have hf := q_t hf hc
            exact hex _ (Option.some.inj hf).symm _ _ _ hR hS hz (lv_sub hl [0] rfl)
          · have hf := q_f hf hc
            refine lv_aload_n hx hb dX10_takeRead_69 rfl (lv_at hl 0 rfl) ?_
            refine q_gR hx hb hT hown hK hR iqX10 vqX10 8 (by decide) (hT _ wfl_X10_29) hf dX10_takeRead_70 (fun v14 hf => ?_)
            refine lv_iload_n hx hb dX10_takeRead_73 rfl (lv_at hl 1 rfl) ?_
            refine lv_iconst (v := (0 : Int32)) hx hb dX10_takeRead_74 (by decide) ?_
            refine q_iast hx hb hK hR hS hz hf dX10_takeRead_75 (fun X15 hf H locs hR hS hz => ?_)
            obtain ⟨v16, ev16⟩ : ∃ y : Int32, y = (v12 + (1 : Int32)) := ⟨_, rfl⟩
            have hf := q_lt ev16 hf
            refine lv_iinc (v := v16) (lv' := [(1, .int v16), (0, .ref a0)]) hx hb dX10_takeRead_76 hl (k := 1) rfl (by rw [ev16]; rfl) (by decide) rfl (fun ls hl => ?_)
            refine lv_goto (tgt := 63) hx hb dX10_takeRead_79 (by decide) ?_
            exact ih0 _ _ out hf hex _ _ _ hR hS hz (lv_sub hl [1, 0] rfl)
      refine hL F _ _ _ ho (fun z0 h9 => ?_) _ _ _ hR hS hz (lv_sub hl [1, 0] rfl)
      cases h9
      intro H locs ls hR hS hz hl
      refine lv_aload_n hx hb dX10_takeRead_82 rfl (lv_at hl 0 rfl) ?_
      refine q_gR hx hb hT hown hK hR iqX10 vqX10 8 (by decide) (hT _ wfl_X10_29) hf dX10_takeRead_83 (fun v18 hf => ?_)
      refine lv_iconst (v := (0 : Int32)) hx hb dX10_takeRead_86 (by decide) ?_
      refine lv_aload_n hx hb dX10_takeRead_87 rfl (lv_at hl 0 rfl) ?_
      refine q_gR hx hb hT hown hK hR iqX10 vqX10 16 (by decide) (hT _ wfl_X10_38) hf dX10_takeRead_88 (fun v19 hf => ?_)
      refine lv_iconst (v := (1 : Int32)) hx hb dX10_takeRead_91 (by decide) ?_
      refine q_iald hx hb hK hR hf dX10_takeRead_92 (fun v20 hf => ?_)
      refine q_iast hx hb hK hR hS hz hf dX10_takeRead_93 (fun X21 hf H locs hR hS hz => ?_)
      refine lv_aload_n hx hb dX10_takeRead_94 rfl (lv_at hl 0 rfl) ?_
      refine q_gR hx hb hT hown hK hR iqX10 vqX10 8 (by decide) (hT _ wfl_X10_29) hf dX10_takeRead_95 (fun v22 hf => ?_)
      refine lv_iconst (v := (1 : Int32)) hx hb dX10_takeRead_98 (by decide) ?_
      refine lv_aload_n hx hb dX10_takeRead_99 rfl (lv_at hl 0 rfl) ?_
      refine q_gI hx hb hT hown hK hR iqX10 vqX10 0 (by decide) (hT _ wfl_X10_99) hf dX10_takeRead_100 (fun v23 hf => ?_)
      obtain ⟨v24, hp, hf⟩ := q_b hf
      have hJ : ∀ (H : Heap) (locs : List Loc) (ls : Array Slot), qR D kz b0 X21 H → va_S (qA b0) s.heap H locs → H.size = sz → lv_has ls 3 [(0, .ref a0)] → W p l e rmX10_takeRead s m args below meth c H locs 0 0 Q (F0 m 118 ls [.int v24, .int (1 : Int32), .ref v22]) := by
        intro H locs ls hR hS hz hl
        refine q_iast hx hb hK hR hS hz hf dX10_takeRead_118 (fun X25 hf H locs hR hS hz => ?_)
        refine lv_iconst (v := (0 : Int32)) hx hb dX10_takeRead_119 (by decide) ?_
        refine lv_istore_n (lv' := [(1, .int (0 : Int32)), (0, .ref a0)]) hx hb dX10_takeRead_120 rfl hl (by decide) rfl (fun ls hl => ?_)
        obtain ⟨X39, ho, hf⟩ := q_b hf
        have hL : ∀ (n : Nat) (v26 : Int32) (X27 : qH) (out : qH), fX10_takeRead_L121 F a0 n v26 X27 = some out → (∀ (X39 : qH), out = X39 → ∀ (H : Heap) (locs : List Loc) (ls : Array Slot), qR D kz b0 X39 H → va_S (qA b0) s.heap H locs → H.size = sz → lv_has ls 3 [(0, .ref a0)] → W p l e rmX10_takeRead s m args below meth c H locs 0 0 Q (F0 m 179 ls [])) → ∀ (H : Heap) (locs : List Loc) (ls : Array Slot), qR D kz b0 X27 H → va_S (qA b0) s.heap H locs → H.size = sz → lv_has ls 3 [(0, .ref a0), (1, .int v26)] → W p l e rmX10_takeRead s m args below meth c H locs 0 0 Q (F0 m 121 ls []) := by
          intro n9
          induction n9 with
          | zero =>
            intro v26 X27 out hf
            exact absurd (show none = some out from hf) (by simp)
          | succ n9 ih0 =>
            intro v26 X27 out hf hex H locs ls hR hS hz hl
            have hf : fX10_takeRead_L121_B F a0 (fX10_takeRead_L121 F a0 n9) v26 X27 = some out := hf
            unfold fX10_takeRead_L121_B at hf
            refine lv_iload_n hx hb dX10_takeRead_121 rfl (lv_at hl 1 rfl) ?_
            refine lv_bipush (v := (8 : Int32)) hx hb dX10_takeRead_122 (by decide) ?_
            refine lv_icmp_ge (tgt := 179) hx hb dX10_takeRead_124 (by decide) (fun hc => ?_) (fun hc => ?_)
            · have hf := q_t hf hc
              exact hex _ (Option.some.inj hf).symm _ _ _ hR hS hz (lv_sub hl [0] rfl)
            · have hf := q_f hf hc
              refine lv_aload_n hx hb dX10_takeRead_127 rfl (lv_at hl 0 rfl) ?_
              refine q_gR hx hb hT hown hK hR iqX10 vqX10 8 (by decide) (hT _ wfl_X10_29) hf dX10_takeRead_128 (fun v28 hf => ?_)
              refine lv_iconst (v := (3 : Int32)) hx hb dX10_takeRead_131 (by decide) ?_
              refine lv_iload_n hx hb dX10_takeRead_132 rfl (lv_at hl 1 rfl) ?_
              refine lv_iadd hx hb dX10_takeRead_133 ?_
              refine lv_iload_n hx hb dX10_takeRead_134 rfl (lv_at hl 1 rfl) ?_
              refine lv_aload_n hx hb dX10_takeRead_135 rfl (lv_at hl 0 rfl) ?_
              refine q_gI hx hb hT hown hK hR iqX10 vqX10 1 (by decide) (hT _ wfl_X10_102) hf dX10_takeRead_136 (fun v29 hf => ?_)
              obtain ⟨v30, hp, hf⟩ := q_b hf
              have hJ : ∀ (H : Heap) (locs : List Loc) (ls : Array Slot), qR D kz b0 X27 H → va_S (qA b0) s.heap H locs → H.size = sz → lv_has ls 3 [(0, .ref a0), (1, .int v26)] → W p l e rmX10_takeRead s m args below meth c H locs 0 0 Q (F0 m 152 ls [.int v30, .int ((3 : Int32) + v26), .ref v28]) := by
                intro H locs ls hR hS hz hl
                refine q_iast hx hb hK hR hS hz hf dX10_takeRead_152 (fun X31 hf H locs hR hS hz => ?_)
                refine lv_aload_n hx hb dX10_takeRead_153 rfl (lv_at hl 0 rfl) ?_
                refine q_gR hx hb hT hown hK hR iqX10 vqX10 8 (by decide) (hT _ wfl_X10_29) hf dX10_takeRead_154 (fun v32 hf => ?_)
                refine lv_bipush (v := (11 : Int32)) hx hb dX10_takeRead_157 (by decide) ?_
                refine lv_iload_n hx hb dX10_takeRead_159 rfl (lv_at hl 1 rfl) ?_
                refine lv_iadd hx hb dX10_takeRead_160 ?_
                refine lv_iconst (v := (-1 : Int32)) hx hb dX10_takeRead_161 (by decide) ?_
                refine q_iast hx hb hK hR hS hz hf dX10_takeRead_162 (fun X33 hf H locs hR hS hz => ?_)
                refine lv_aload_n hx hb dX10_takeRead_163 rfl (lv_at hl 0 rfl) ?_
                refine q_gR hx hb hT hown hK hR iqX10 vqX10 8 (by decide) (hT _ wfl_X10_29) hf dX10_takeRead_164 (fun v34 hf => ?_)
                refine lv_bipush (v := (19 : Int32)) hx hb dX10_takeRead_167 (by decide) ?_
                refine lv_iload_n hx hb dX10_takeRead_169 rfl (lv_at hl 1 rfl) ?_
                refine lv_iadd hx hb dX10_takeRead_170 ?_
                refine lv_iconst (v := (-1 : Int32)) hx hb dX10_takeRead_171 (by decide) ?_
                refine q_iast hx hb hK hR hS hz hf dX10_takeRead_172 (fun X35 hf H locs hR hS hz => ?_)
                obtain ⟨v36, ev36⟩ : ∃ y : Int32, y = (v26 + (1 : Int32)) := ⟨_, rfl⟩
                have hf := q_lt ev36 hf
                refine lv_iinc (v := v36) (lv' := [(1, .int v36), (0, .ref a0)]) hx hb dX10_takeRead_173 hl (k := 1) rfl (by rw [ev36]; rfl) (by decide) rfl (fun ls hl => ?_)
                refine lv_goto (tgt := 121) hx hb dX10_takeRead_176 (by decide) ?_
                exact ih0 _ _ out hf hex _ _ _ hR hS hz (lv_sub hl [1, 0] rfl)
              have hf := hp
              refine lv_icmp_ge (tgt := 151) hx hb dX10_takeRead_139 (by decide) (fun hc => ?_) (fun hc => ?_)
              · have hf := q_t hf hc
                refine lv_iconst (v := (0 : Int32)) hx hb dX10_takeRead_151 (by decide) ?_
                cases hf
                exact hJ _ _ _ hR hS hz (lv_sub hl [0, 1] rfl)
              · have hf := q_f hf hc
                refine lv_aload_n hx hb dX10_takeRead_142 rfl (lv_at hl 0 rfl) ?_
                refine q_gR hx hb hT hown hK hR iqX10 vqX10 20 (by decide) (hT _ wfl_X10_47) hf dX10_takeRead_143 (fun v37 hf => ?_)
                refine lv_iload_n hx hb dX10_takeRead_146 rfl (lv_at hl 1 rfl) ?_
                refine q_iald hx hb hK hR hf dX10_takeRead_147 (fun v38 hf => ?_)
                refine lv_goto (tgt := 152) hx hb dX10_takeRead_148 (by decide) ?_
                cases hf
                exact hJ _ _ _ hR hS hz (lv_sub hl [0, 1] rfl)
        refine hL F _ _ _ ho (fun z0 h9 => ?_) _ _ _ hR hS hz (lv_sub hl [1, 0] rfl)
        cases h9
        intro H locs ls hR hS hz hl
        refine lv_iconst (v := (0 : Int32)) hx hb dX10_takeRead_179 (by decide) ?_
        refine lv_istore_n (lv' := [(1, .int (0 : Int32)), (0, .ref a0)]) hx hb dX10_takeRead_180 rfl hl (by decide) rfl (fun ls hl => ?_)
        obtain ⟨X64, ho, hf⟩ := q_b hf
        have hL : ∀ (n : Nat) (v40 : Int32) (X41 : qH) (out : qH), fX10_takeRead_L181 F a0 n v40 X41 = some out → (∀ (X64 : qH), out = X64 → ∀ (H : Heap) (locs : List Loc) (ls : Array Slot), qR D kz b0 X64 H → va_S (qA b0) s.heap H locs → H.size = sz → lv_has ls 3 [] → W p l e rmX10_takeRead s m args below meth c H locs 0 0 Q (F0 m 264 ls [])) → ∀ (H : Heap) (locs : List Loc) (ls : Array Slot), qR D kz b0 X41 H → va_S (qA b0) s.heap H locs → H.size = sz → lv_has ls 3 [(0, .ref a0), (1, .int v40)] → W p l e rmX10_takeRead s m args below meth c H locs 0 0 Q (F0 m 181 ls []) := by
          intro n9
          induction n9 with
          | zero =>
            intro v40 X41 out hf
            exact absurd (show none = some out from hf) (by simp)
          | succ n9 ih0 =>
            intro v40 X41 out hf hex H locs ls hR hS hz hl
            have hf : fX10_takeRead_L181_B F a0 (fX10_takeRead_L181 F a0 n9) v40 X41 = some out := hf
            unfold fX10_takeRead_L181_B at hf
            refine lv_iload_n hx hb dX10_takeRead_181 rfl (lv_at hl 1 rfl) ?_
            refine lv_aload_n hx hb dX10_takeRead_182 rfl (lv_at hl 0 rfl) ?_
            refine q_gI hx hb hT hown hK hR iqX10 vqX10 1 (by decide) (hT _ wfl_X10_102) hf dX10_takeRead_183 (fun v42 hf => ?_)
            refine lv_icmp_ge (tgt := 264) hx hb dX10_takeRead_186 (by decide) (fun hc => ?_) (fun hc => ?_)
            · have hf := q_t hf hc
              exact hex _ (Option.some.inj hf).symm _ _ _ hR hS hz (lv_sub hl [] rfl)
            · have hf := q_f hf hc
              refine lv_aload_n hx hb dX10_takeRead_189 rfl (lv_at hl 0 rfl) ?_
              refine q_gR hx hb hT hown hK hR iqX10 vqX10 2 (by decide) (hT _ wfl_X10_7) hf dX10_takeRead_190 (fun v43 hf => ?_)
              refine lv_iload_n hx hb dX10_takeRead_193 rfl (lv_at hl 1 rfl) ?_
              refine lv_aload_n hx hb dX10_takeRead_194 rfl (lv_at hl 0 rfl) ?_
              refine q_gR hx hb hT hown hK hR iqX10 vqX10 18 (by decide) (hT _ wfl_X10_41) hf dX10_takeRead_195 (fun v44 hf => ?_)
              refine lv_iload_n hx hb dX10_takeRead_198 rfl (lv_at hl 1 rfl) ?_
              refine q_iald hx hb hK hR hf dX10_takeRead_199 (fun v45 hf => ?_)
              refine q_iast hx hb hK hR hS hz hf dX10_takeRead_200 (fun X46 hf H locs hR hS hz => ?_)
              refine lv_aload_n hx hb dX10_takeRead_201 rfl (lv_at hl 0 rfl) ?_
              refine q_gR hx hb hT hown hK hR iqX10 vqX10 3 (by decide) (hT _ wfl_X10_13) hf dX10_takeRead_202 (fun v47 hf => ?_)
              refine lv_iload_n hx hb dX10_takeRead_205 rfl (lv_at hl 1 rfl) ?_
              refine lv_aload_n hx hb dX10_takeRead_206 rfl (lv_at hl 0 rfl) ?_
              refine q_gR hx hb hT hown hK hR iqX10 vqX10 19 (by decide) (hT _ wfl_X10_44) hf dX10_takeRead_207 (fun v48 hf => ?_)
              refine lv_iload_n hx hb dX10_takeRead_210 rfl (lv_at hl 1 rfl) ?_
              refine q_iald hx hb hK hR hf dX10_takeRead_211 (fun v49 hf => ?_)
              refine q_iast hx hb hK hR hS hz hf dX10_takeRead_212 (fun X50 hf H locs hR hS hz => ?_)
              refine lv_aload_n hx hb dX10_takeRead_213 rfl (lv_at hl 0 rfl) ?_
              refine q_gR hx hb hT hown hK hR iqX10 vqX10 4 (by decide) (hT _ wfl_X10_16) hf dX10_takeRead_214 (fun v51 hf => ?_)
              refine lv_iload_n hx hb dX10_takeRead_217 rfl (lv_at hl 1 rfl) ?_
              refine lv_aload_n hx hb dX10_takeRead_218 rfl (lv_at hl 0 rfl) ?_
              refine q_gR hx hb hT hown hK hR iqX10 vqX10 21 (by decide) (hT _ wfl_X10_50) hf dX10_takeRead_219 (fun v52 hf => ?_)
              refine lv_iload_n hx hb dX10_takeRead_222 rfl (lv_at hl 1 rfl) ?_
              refine q_iald hx hb hK hR hf dX10_takeRead_223 (fun v53 hf => ?_)
              refine q_iast hx hb hK hR hS hz hf dX10_takeRead_224 (fun X54 hf H locs hR hS hz => ?_)
              refine lv_iconst (v := (0 : Int32)) hx hb dX10_takeRead_225 (by decide) ?_
              refine lv_istore_n (lv' := [(2, .int (0 : Int32)), (0, .ref a0), (1, .int v40)]) hx hb dX10_takeRead_226 rfl hl (by decide) rfl (fun ls hl => ?_)
              obtain ⟨X62, ho, hf⟩ := q_b hf
              have hL : ∀ (n : Nat) (v55 : Int32) (X56 : qH) (out : qH), fX10_takeRead_L227 F a0 v40 n v55 X56 = some out → (∀ (X62 : qH), out = X62 → ∀ (H : Heap) (locs : List Loc) (ls : Array Slot), qR D kz b0 X62 H → va_S (qA b0) s.heap H locs → H.size = sz → lv_has ls 3 [(0, .ref a0), (1, .int v40)] → W p l e rmX10_takeRead s m args below meth c H locs 0 0 Q (F0 m 258 ls [])) → ∀ (H : Heap) (locs : List Loc) (ls : Array Slot), qR D kz b0 X56 H → va_S (qA b0) s.heap H locs → H.size = sz → lv_has ls 3 [(0, .ref a0), (1, .int v40), (2, .int v55)] → W p l e rmX10_takeRead s m args below meth c H locs 0 0 Q (F0 m 227 ls []) := by
                intro n9
                induction n9 with
                | zero =>
                  intro v55 X56 out hf
                  exact absurd (show none = some out from hf) (by simp)
                | succ n9 ih0 =>
                  intro v55 X56 out hf hex H locs ls hR hS hz hl
                  have hf : fX10_takeRead_L227_B F a0 v40 (fX10_takeRead_L227 F a0 v40 n9) v55 X56 = some out := hf
                  unfold fX10_takeRead_L227_B at hf
                  refine lv_iload_n hx hb dX10_takeRead_227 rfl (lv_at hl 2 rfl) ?_
                  refine lv_iconst (v := (5 : Int32)) hx hb dX10_takeRead_228 (by decide) ?_
                  refine lv_icmp_ge (tgt := 258) hx hb dX10_takeRead_229 (by decide) (fun hc => ?_) (fun hc => ?_)
                  · have hf := q_t hf hc
                    exact hex _ (Option.some.inj hf).symm _ _ _ hR hS hz (lv_sub hl [0, 1] rfl)
                  · have hf := q_f hf hc
                    refine lv_aload_n hx hb dX10_takeRead_232 rfl (lv_at hl 0 rfl) ?_
                    refine q_gR hx hb hT hown hK hR iqX10 vqX10 5 (by decide) (hT _ wfl_X10_19) hf dX10_takeRead_233 (fun v57 hf => ?_)
                    refine lv_iconst (v := (5 : Int32)) hx hb dX10_takeRead_236 (by decide) ?_
                    refine lv_iload_n hx hb dX10_takeRead_237 rfl (lv_at hl 1 rfl) ?_
                    refine lv_imul hx hb dX10_takeRead_238 ?_
                    refine lv_iload_n hx hb dX10_takeRead_239 rfl (lv_at hl 2 rfl) ?_
                    refine lv_iadd hx hb dX10_takeRead_240 ?_
                    refine lv_aload_n hx hb dX10_takeRead_241 rfl (lv_at hl 0 rfl) ?_
                    refine q_gR hx hb hT hown hK hR iqX10 vqX10 22 (by decide) (hT _ wfl_X10_53) hf dX10_takeRead_242 (fun v58 hf => ?_)
                    refine lv_iconst (v := (5 : Int32)) hx hb dX10_takeRead_245 (by decide) ?_
                    refine lv_iload_n hx hb dX10_takeRead_246 rfl (lv_at hl 1 rfl) ?_
                    refine lv_imul hx hb dX10_takeRead_247 ?_
                    refine lv_iload_n hx hb dX10_takeRead_248 rfl (lv_at hl 2 rfl) ?_
                    refine lv_iadd hx hb dX10_takeRead_249 ?_
                    refine q_iald hx hb hK hR hf dX10_takeRead_250 (fun v59 hf => ?_)
                    refine q_iast hx hb hK hR hS hz hf dX10_takeRead_251 (fun X60 hf H locs hR hS hz => ?_)
                    obtain ⟨v61, ev61⟩ : ∃ y : Int32, y = (v55 + (1 : Int32)) := ⟨_, rfl⟩
                    have hf := q_lt ev61 hf
                    refine lv_iinc (v := v61) (lv' := [(2, .int v61), (0, .ref a0), (1, .int v40)]) hx hb dX10_takeRead_252 hl (k := 2) rfl (by rw [ev61]; rfl) (by decide) rfl (fun ls hl => ?_)
                    refine lv_goto (tgt := 227) hx hb dX10_takeRead_255 (by decide) ?_
                    exact ih0 _ _ out hf hex _ _ _ hR hS hz (lv_sub hl [1, 2, 0] rfl)
              refine hL F _ _ _ ho (fun z0 h9 => ?_) _ _ _ hR hS hz (lv_sub hl [1, 2, 0] rfl)
              cases h9
              intro H locs ls hR hS hz hl
              obtain ⟨v63, ev63⟩ : ∃ y : Int32, y = (v40 + (1 : Int32)) := ⟨_, rfl⟩
              have hf := q_lt ev63 hf
              refine lv_iinc (v := v63) (lv' := [(1, .int v63), (0, .ref a0)]) hx hb dX10_takeRead_258 hl (k := 1) rfl (by rw [ev63]; rfl) (by decide) rfl (fun ls hl => ?_)
              refine lv_goto (tgt := 181) hx hb dX10_takeRead_261 (by decide) ?_
              exact ih0 _ _ out hf hex _ _ _ hR hS hz (lv_sub hl [1, 0] rfl)
        refine hL F _ _ _ ho (fun z0 h9 => ?_) _ _ _ hR hS hz (lv_sub hl [1, 0] rfl)
        cases h9
        intro H locs ls hR hS hz hl
        subst hQ
        exact q_vret hx hb hr hlocks hR hS hz (Option.some.inj hf) dX10_takeRead_264
      have hf := hp
      refine lv_if_ne (tgt := 110) hx hb dX10_takeRead_103 (by decide) (fun hc => ?_) (fun hc => ?_)
      · have hf := q_f hf hc
        refine lv_aload_n hx hb dX10_takeRead_110 rfl (lv_at hl 0 rfl) ?_
        refine q_gR hx hb hT hown hK hR iqX10 vqX10 16 (by decide) (hT _ wfl_X10_38) hf dX10_takeRead_111 (fun v65 hf => ?_)
        refine lv_iconst (v := (2 : Int32)) hx hb dX10_takeRead_114 (by decide) ?_
        refine q_iald hx hb hK hR hf dX10_takeRead_115 (fun v66 hf => ?_)
        refine lv_iconst (v := (5 : Int32)) hx hb dX10_takeRead_116 (by decide) ?_
        refine lv_isub hx hb dX10_takeRead_117 ?_
        cases hf
        exact hJ _ _ _ hR hS hz (lv_sub hl [0] rfl)
      · have hf := q_t hf hc
        refine lv_iconst (v := (0 : Int32)) hx hb dX10_takeRead_106 (by decide) ?_
        refine lv_goto (tgt := 118) hx hb dX10_takeRead_107 (by decide) ?_
        cases hf
        exact hJ _ _ _ hR hS hz (lv_sub hl [0] rfl)
    have hf := hp
    refine lv_if_eq (tgt := 56) hx hb dX10_takeRead_44 (by decide) (fun hc => ?_) (fun hc => ?_)
    · have hf := q_t hf hc
      refine lv_bipush (v := (10 : Int32)) hx hb dX10_takeRead_56 (by decide) ?_
      cases hf
      exact hJ _ _ _ hR hS hz (lv_sub hl [0] rfl)
    · have hf := q_f hf hc
      refine lv_aload_n hx hb dX10_takeRead_47 rfl (lv_at hl 0 rfl) ?_
      refine q_gR hx hb hT hown hK hR iqX10 vqX10 24 (by decide) (hT _ wfl_X10_59) hf dX10_takeRead_48 (fun v67 hf => ?_)
      refine lv_iconst (v := (0 : Int32)) hx hb dX10_takeRead_51 (by decide) ?_
      refine q_iald hx hb hK hR hf dX10_takeRead_52 (fun v68 hf => ?_)
      refine lv_goto (tgt := 58) hx hb dX10_takeRead_53 (by decide) ?_
      cases hf
      exact hJ _ _ _ hR hS hz (lv_sub hl [0] rfl)
  have hf := hp
  refine lv_if_eq (tgt := 35) hx hb dX10_takeRead_23 (by decide) (fun hc => ?_) (fun hc => ?_)
  · have hf := q_t hf hc
    refine lv_iconst (v := (2 : Int32)) hx hb dX10_takeRead_35 (by decide) ?_
    cases hf
    exact hJ _ _ _ hR hS hz (lv_sub hl [0] rfl)
  · have hf := q_f hf hc
    refine lv_aload_n hx hb dX10_takeRead_26 rfl (lv_at hl 0 rfl) ?_
    refine q_gR hx hb hT hown hK hR iqX10 vqX10 23 (by decide) (hT _ wfl_X10_56) hf dX10_takeRead_27 (fun v69 hf => ?_)
    refine lv_iconst (v := (0 : Int32)) hx hb dX10_takeRead_30 (by decide) ?_
    refine q_iald hx hb hK hR hf dX10_takeRead_31 (fun v70 hf => ?_)
    refine lv_goto (tgt := 36) hx hb dX10_takeRead_32 (by decide) ?_
    cases hf
    exact hJ _ _ _ hR hS hz (lv_sub hl [0] rfl)
/-! X10_bay -/
def fX10_bay_L12_B (F : Nat) (a0 : Nat) (self0 : Int32 → qH → Option (qH)) (v3 : Int32) (X4 : qH) : Option (qH) :=
if (3 : Int32) ≤ v3 then (some X4)
else ((qgR X4 9 a0 16).bind fun v5 =>
(qaS X4 0 v5 v3 (0 : Int32)).bind fun X6 =>
qlt (v3 + (1 : Int32)) fun v7 =>
self0 v7 X6)
def fX10_bay_L12 (F : Nat) (a0 : Nat) : Nat → Int32 → qH → Option (qH)
  | 0, _, _ => none
  | n + 1, v3, X4 => fX10_bay_L12_B F a0 (fX10_bay_L12 F a0 n) v3 X4
def fX10_bay_L47_B (F : Nat) (a0 : Nat) (self0 : Int32 → qH → Option (Int32 × qH)) (v12 : Int32) (X13 : qH) : Option (Int32 × qH) :=
if v12 = (0 : Int32) then (qb2 (fX10_here F X13 a0) fun v14 X15 =>
if v14 < (0 : Int32) then (some (v12, X15))
else (qb2 (fX10_takeClause F X15 a0) fun v16 X17 =>
self0 v16 X17))
else (some (v12, X13))
def fX10_bay_L47 (F : Nat) (a0 : Nat) : Nat → Int32 → qH → Option (Int32 × qH)
  | 0, _, _ => none
  | n + 1, v12, X13 => fX10_bay_L47_B F a0 (fX10_bay_L47 F a0 n) v12 X13
def fX10_bay (F : Nat) (X : qH) (a0 : Nat) : Option (Int32 × qH) :=
qIs 9 X a0 <|
(qpI X 9 a0 12 (-1 : Int32)).bind fun X1 =>
(qpI X1 9 a0 13 (0 : Int32)).bind fun X2 =>
(fX10_bay_L12 F a0 F (0 : Int32) X2).bind fun X8 =>
(qpI X8 9 a0 17 (0 : Int32)).bind fun X9 =>
(qpZ X9 9 a0 25 (0 : Int32)).bind fun X10 =>
(qpZ X10 9 a0 26 (0 : Int32)).bind fun X11 =>
qb2 (fX10_bay_L47 F a0 F (0 : Int32) X11) fun v18 X19 =>
(qpI X19 9 a0 11 (0 : Int32)).bind fun X20 =>
if v18 ≤ (0 : Int32) then ((fX10_takeRead F X20 a0).bind fun X21 =>
(qpI X21 9 a0 33 (0 : Int32)).bind fun X22 =>
(qpI X22 9 a0 36 (0 : Int32)).bind fun X23 =>
(qpI X23 9 a0 27 (0 : Int32)).bind fun X24 =>
(qgR X24 9 a0 41).bind fun v25 =>
(qaZ X24 v25 (0 : Int32) (0 : Int32)).bind fun X26 =>
(qgR X26 9 a0 41).bind fun v27 =>
(qaZ X26 v27 (1 : Int32) (0 : Int32)).bind fun X28 =>
(qgI X28 9 a0 1).bind fun v29 =>
some (v29, X28))
else (some (((-10 : Int32) - v18), X20))
abbrev rmX10_bay : Room := { frames := 6, cells := 0, slots := 0, locals := 142 }
theorem fX10_bay_is {F : Nat} {X : qH} {a0 : Nat} {r9 : Int32 × qH} (h : fX10_bay F X a0 = some r9) : ∃ fs, X a0 = some (.inr (9, fs)) := (qIs_spec h).1
theorem hdX10_bay : yX10_bay.cls = RX10 ∧ yX10_bay.cls ≠ "java/lang/invoke/MethodHandle" ∧ yX10_bay.cls ≠ "java/lang/invoke/VarHandle" ∧ (parseMethodDescriptor yX10_bay.desc).map (fun d => d.parameters.length) = some 0 := by decide +kernel
set_option maxHeartbeats 4000000 in
set_option maxRecDepth 100000 in
theorem mX10_bay (l : Launch) (D : va_G) (kz : Nat → Nat) (b0 sz F : Nat) (X : qH) (a0 : Nat) (r : Int32) (Xr : qH) (hf : fX10_bay F X a0 = some (r, Xr)) : Met l yX10_bay (qws yX10_bay cX10_bay 2 (some .int)) rmX10_bay (va_Pc [.ref a0] (qU D kz b0 sz X)) (va_Qi (fun (r' : Int32) (u : qH) => r' = r ∧ u = Xr) (fun u t => qO D kz b0 sz u t) (qA b0)) 0 0 (qA b0) := by
  refine q_start (by decide) (Nat.le_of_ble_eq_true rfl) ?_
  intro p e s m args below meth c hx hb hr hlocks hnm hml hown hT hR hK hz ls hl
  have hown : s.vm.findClass RX10 = some m.cls := hown
  have hl : lv_has ls 2 [(0, .ref a0)] := hl
  have hS : va_S (qA b0) s.heap s.heap [] := va_S.rf
  obtain ⟨Q, hQ⟩ : ∃ Q, Q = MQ below (va_Qi (fun (r' : Int32) (u : qH) => r' = r ∧ u = Xr) (fun u t => qO D kz b0 sz u t) (qA b0)) args s 0 0 (qA b0) := ⟨_, rfl⟩
  rw [← hQ]
  unfold fX10_bay at hf
  obtain ⟨hthis, hf⟩ := qIs_spec hf
  refine lv_aload_n hx hb dX10_bay_0 rfl (lv_at hl 0 rfl) ?_
  refine lv_iconst (v := (-1 : Int32)) hx hb dX10_bay_1 (by decide) ?_
  refine q_pI hx hb hT hown hK hR hS hz iqX10 vqX10 tyX10_ok nmX10 12 (by decide) (hT _ wfl_X10_35) rfl rfl hf dX10_bay_2 (fun X1 hf H locs hR hS hz => ?_)
  refine lv_aload_n hx hb dX10_bay_5 rfl (lv_at hl 0 rfl) ?_
  refine lv_iconst (v := (0 : Int32)) hx hb dX10_bay_6 (by decide) ?_
  refine q_pI hx hb hT hown hK hR hS hz iqX10 vqX10 tyX10_ok nmX10 13 (by decide) (hT _ wfl_X10_116) rfl rfl hf dX10_bay_7 (fun X2 hf H locs hR hS hz => ?_)
  refine lv_iconst (v := (0 : Int32)) hx hb dX10_bay_10 (by decide) ?_
  refine lv_istore_n (lv' := [(1, .int (0 : Int32)), (0, .ref a0)]) hx hb dX10_bay_11 rfl hl (by decide) rfl (fun ls hl => ?_)
  obtain ⟨X8, ho, hf⟩ := q_b hf
  have hL : ∀ (n : Nat) (v3 : Int32) (X4 : qH) (out : qH), fX10_bay_L12 F a0 n v3 X4 = some out → (∀ (X8 : qH), out = X8 → ∀ (H : Heap) (locs : List Loc) (ls : Array Slot), qR D kz b0 X8 H → va_S (qA b0) s.heap H locs → H.size = sz → lv_has ls 2 [(0, .ref a0)] → W p l e rmX10_bay s m args below meth c H locs 0 0 Q (F0 m 30 ls [])) → ∀ (H : Heap) (locs : List Loc) (ls : Array Slot), qR D kz b0 X4 H → va_S (qA b0) s.heap H locs → H.size = sz → lv_has ls 2 [(0, .ref a0), (1, .int v3)] → W p l e rmX10_bay s m args below meth c H locs 0 0 Q (F0 m 12 ls []) := by
    intro n9
    induction n9 with
    | zero =>
      intro v3 X4 out hf
      exact absurd (show none = some out from hf) (by simp)
    | succ n9 ih0 =>
      intro v3 X4 out hf hex H locs ls hR hS hz hl
      have hf : fX10_bay_L12_B F a0 (fX10_bay_L12 F a0 n9) v3 X4 = some out := hf
      unfold fX10_bay_L12_B at hf
      refine lv_iload_n hx hb dX10_bay_12 rfl (lv_at hl 1 rfl) ?_
      refine lv_iconst (v := (3 : Int32)) hx hb dX10_bay_13 (by decide) ?_
      refine lv_icmp_ge (tgt := 30) hx hb dX10_bay_14 (by decide) (fun hc => ?_) (fun hc => ?_)
      · have hf := q_t hf hc
        exact hex _ (Option.some.inj hf).symm _ _ _ hR hS hz (lv_sub hl [0] rfl)
      · have hf := q_f hf hc
        refine lv_aload_n hx hb dX10_bay_17 rfl (lv_at hl 0 rfl) ?_
        refine q_gR hx hb hT hown hK hR iqX10 vqX10 16 (by decide) (hT _ wfl_X10_38) hf dX10_bay_18 (fun v5 hf => ?_)
        refine lv_iload_n hx hb dX10_bay_21 rfl (lv_at hl 1 rfl) ?_
        refine lv_iconst (v := (0 : Int32)) hx hb dX10_bay_22 (by decide) ?_
        refine q_iast hx hb hK hR hS hz hf dX10_bay_23 (fun X6 hf H locs hR hS hz => ?_)
        obtain ⟨v7, ev7⟩ : ∃ y : Int32, y = (v3 + (1 : Int32)) := ⟨_, rfl⟩
        have hf := q_lt ev7 hf
        refine lv_iinc (v := v7) (lv' := [(1, .int v7), (0, .ref a0)]) hx hb dX10_bay_24 hl (k := 1) rfl (by rw [ev7]; rfl) (by decide) rfl (fun ls hl => ?_)
        refine lv_goto (tgt := 12) hx hb dX10_bay_27 (by decide) ?_
        exact ih0 _ _ out hf hex _ _ _ hR hS hz (lv_sub hl [1, 0] rfl)
  refine hL F _ _ _ ho (fun z0 h9 => ?_) _ _ _ hR hS hz (lv_sub hl [1, 0] rfl)
  cases h9
  intro H locs ls hR hS hz hl
  refine lv_aload_n hx hb dX10_bay_30 rfl (lv_at hl 0 rfl) ?_
  refine lv_iconst (v := (0 : Int32)) hx hb dX10_bay_31 (by decide) ?_
  refine q_pI hx hb hT hown hK hR hS hz iqX10 vqX10 tyX10_ok nmX10 17 (by decide) (hT _ wfl_X10_156) rfl rfl hf dX10_bay_32 (fun X9 hf H locs hR hS hz => ?_)
  refine lv_aload_n hx hb dX10_bay_35 rfl (lv_at hl 0 rfl) ?_
  refine lv_iconst (v := (0 : Int32)) hx hb dX10_bay_36 (by decide) ?_
  refine q_pZ hx hb hT hown hK hR hS hz iqX10 vqX10 tyX10_ok nmX10 25 (by decide) (hT _ wfl_X10_166) rfl rfl hf dX10_bay_37 (fun X10 hf H locs hR hS hz => ?_)
  refine lv_aload_n hx hb dX10_bay_40 rfl (lv_at hl 0 rfl) ?_
  refine lv_iconst (v := (0 : Int32)) hx hb dX10_bay_41 (by decide) ?_
  refine q_pZ hx hb hT hown hK hR hS hz iqX10 vqX10 tyX10_ok nmX10 26 (by decide) (hT _ wfl_X10_170) rfl rfl hf dX10_bay_42 (fun X11 hf H locs hR hS hz => ?_)
  refine lv_iconst (v := (0 : Int32)) hx hb dX10_bay_45 (by decide) ?_
  refine lv_istore_n (lv' := [(1, .int (0 : Int32)), (0, .ref a0)]) hx hb dX10_bay_46 rfl hl (by decide) rfl (fun ls hl => ?_)
  obtain ⟨v18, X19, ho, hf⟩ := q_b2 hf
  have hL : ∀ (n : Nat) (v12 : Int32) (X13 : qH) (out : Int32 × qH), fX10_bay_L47 F a0 n v12 X13 = some out → (∀ (v18 : Int32) (X19 : qH), out = (v18, X19) → ∀ (H : Heap) (locs : List Loc) (ls : Array Slot), qR D kz b0 X19 H → va_S (qA b0) s.heap H locs → H.size = sz → lv_has ls 2 [(0, .ref a0), (1, .int v18)] → W p l e rmX10_bay s m args below meth c H locs 0 0 Q (F0 m 66 ls [])) → ∀ (H : Heap) (locs : List Loc) (ls : Array Slot), qR D kz b0 X13 H → va_S (qA b0) s.heap H locs → H.size = sz → lv_has ls 2 [(0, .ref a0), (1, .int v12)] → W p l e rmX10_bay s m args below meth c H locs 0 0 Q (F0 m 47 ls []) := by
    intro n9
    induction n9 with
    | zero =>
      intro v12 X13 out hf
      exact absurd (show none = some out from hf) (by simp)
    | succ n9 ih0 =>
      intro v12 X13 out hf hex H locs ls hR hS hz hl
      have hf : fX10_bay_L47_B F a0 (fX10_bay_L47 F a0 n9) v12 X13 = some out := hf
      unfold fX10_bay_L47_B at hf
      refine lv_iload_n hx hb dX10_bay_47 rfl (lv_at hl 1 rfl) ?_
      refine lv_if_ne (tgt := 66) hx hb dX10_bay_48 (by decide) (fun hc => ?_) (fun hc => ?_)
      · have hf := q_f hf hc
        exact hex _ _ (Option.some.inj hf).symm _ _ _ hR hS hz (lv_sub hl [0, 1] rfl)
      · have hf := q_t hf hc
        refine lv_aload_n hx hb dX10_bay_51 rfl (lv_at hl 0 rfl) ?_
        obtain ⟨v14, X15, hc, hf⟩ := q_b2 hf
        refine q_calli (va_runV (As := []) (rest := []) ⟨hx, hb, hml, hown, hT⟩ (mX10_here l D kz b0 sz F X13 a0 v14 X15 hc) (cwV 0 hT (q_gV wco_X10_here wml_X10_119 wim_X10_here wse_X10_here win_X10) rfl rfl rfl hdX10_here ⟨Nat.le_of_ble_eq_true rfl, Nat.le_of_ble_eq_true rfl⟩) (q_preV vqX10 (fX10_here_is hc) hR hK hz) rfl rfl hl.1 rfl (lv_room (Nat.le_of_ble_eq_true rfl)) dX10_bay_52 ⟨Nat.le_of_ble_eq_true rfl, Nat.le_of_ble_eq_true rfl⟩) hS (fun H locs hR hS hz => ?_)
        refine lv_if_lt (tgt := 66) hx hb dX10_bay_55 (by decide) (fun hc => ?_) (fun hc => ?_)
        · have hf := q_t hf hc
          exact hex _ _ (Option.some.inj hf).symm _ _ _ hR hS hz (lv_sub hl [0, 1] rfl)
        · have hf := q_f hf hc
          refine lv_aload_n hx hb dX10_bay_58 rfl (lv_at hl 0 rfl) ?_
          obtain ⟨v16, X17, hc, hf⟩ := q_b2 hf
          refine q_calli (va_runV (As := []) (rest := []) ⟨hx, hb, hml, hown, hT⟩ (mX10_takeClause l D kz b0 sz F X15 a0 v16 X17 hc) (cwV 0 hT (q_gV wco_X10_takeClause wml_X10_179 wim_X10_takeClause wse_X10_takeClause win_X10) rfl rfl rfl hdX10_takeClause ⟨Nat.le_of_ble_eq_true rfl, Nat.le_of_ble_eq_true rfl⟩) (q_preV vqX10 (fX10_takeClause_is hc) hR hK hz) rfl rfl hl.1 rfl (lv_room (Nat.le_of_ble_eq_true rfl)) dX10_bay_59 ⟨Nat.le_of_ble_eq_true rfl, Nat.le_of_ble_eq_true rfl⟩) hS (fun H locs hR hS hz => ?_)
          refine lv_istore_n (lv' := [(1, .int v16), (0, .ref a0)]) hx hb dX10_bay_62 rfl hl (by decide) rfl (fun ls hl => ?_)
          refine lv_goto (tgt := 47) hx hb dX10_bay_63 (by decide) ?_
          exact ih0 _ _ out hf hex _ _ _ hR hS hz (lv_sub hl [1, 0] rfl)
  refine hL F _ _ _ ho (fun z0 z1 h9 => ?_) _ _ _ hR hS hz (lv_sub hl [1, 0] rfl)
  cases h9
  intro H locs ls hR hS hz hl
  refine lv_aload_n hx hb dX10_bay_66 rfl (lv_at hl 0 rfl) ?_
  refine lv_iconst (v := (0 : Int32)) hx hb dX10_bay_67 (by decide) ?_
  refine q_pI hx hb hT hown hK hR hS hz iqX10 vqX10 tyX10_ok nmX10 11 (by decide) (hT _ wfl_X10_112) rfl rfl hf dX10_bay_68 (fun X20 hf H locs hR hS hz => ?_)
  refine lv_iload_n hx hb dX10_bay_71 rfl (lv_at hl 1 rfl) ?_
  refine lv_if_le (tgt := 80) hx hb dX10_bay_72 (by decide) (fun hc => ?_) (fun hc => ?_)
  · have hf := q_t hf hc
    refine lv_aload_n hx hb dX10_bay_80 rfl (lv_at hl 0 rfl) ?_
    obtain ⟨X21, hc, hf⟩ := q_b hf
    refine q_callv (va_runV (As := []) (rest := []) ⟨hx, hb, hml, hown, hT⟩ (mX10_takeRead l D kz b0 sz F X20 a0 X21 hc) (cwV 0 hT (q_gV wco_X10_takeRead wml_X10_182 wim_X10_takeRead wse_X10_takeRead win_X10) rfl rfl rfl hdX10_takeRead ⟨Nat.le_of_ble_eq_true rfl, Nat.le_of_ble_eq_true rfl⟩) (q_preV vqX10 (fX10_takeRead_is hc) hR hK hz) rfl rfl hl.1 rfl (lv_room (Nat.le_of_ble_eq_true rfl)) dX10_bay_81 ⟨Nat.le_of_ble_eq_true rfl, Nat.le_of_ble_eq_true rfl⟩) hS (fun H locs hR hS hz => ?_)
    refine lv_aload_n hx hb dX10_bay_84 rfl (lv_at hl 0 rfl) ?_
    refine lv_iconst (v := (0 : Int32)) hx hb dX10_bay_85 (by decide) ?_
    refine q_pI hx hb hT hown hK hR hS hz iqX10 vqX10 tyX10_ok nmX10 33 (by decide) (hT _ wfl_X10_185) rfl rfl hf dX10_bay_86 (fun X22 hf H locs hR hS hz => ?_)
    refine lv_aload_n hx hb dX10_bay_89 rfl (lv_at hl 0 rfl) ?_
    refine lv_iconst (v := (0 : Int32)) hx hb dX10_bay_90 (by decide) ?_
    refine q_pI hx hb hT hown hK hR hS hz iqX10 vqX10 tyX10_ok nmX10 36 (by decide) (hT _ wfl_X10_188) rfl rfl hf dX10_bay_91 (fun X23 hf H locs hR hS hz => ?_)
    refine lv_aload_n hx hb dX10_bay_94 rfl (lv_at hl 0 rfl) ?_
    refine lv_iconst (v := (0 : Int32)) hx hb dX10_bay_95 (by decide) ?_
    refine q_pI hx hb hT hown hK hR hS hz iqX10 vqX10 tyX10_ok nmX10 27 (by decide) (hT _ wfl_X10_191) rfl rfl hf dX10_bay_96 (fun X24 hf H locs hR hS hz => ?_)
    refine lv_aload_n hx hb dX10_bay_99 rfl (lv_at hl 0 rfl) ?_
    refine q_gR hx hb hT hown hK hR iqX10 vqX10 41 (by decide) (hT _ wfl_X10_96) hf dX10_bay_100 (fun v25 hf => ?_)
    refine lv_iconst (v := (0 : Int32)) hx hb dX10_bay_103 (by decide) ?_
    refine lv_iconst (v := (0 : Int32)) hx hb dX10_bay_104 (by decide) ?_
    refine q_zast hx hb hK hR hS hz hf dX10_bay_105 (fun X26 hf H locs hR hS hz => ?_)
    refine lv_aload_n hx hb dX10_bay_106 rfl (lv_at hl 0 rfl) ?_
    refine q_gR hx hb hT hown hK hR iqX10 vqX10 41 (by decide) (hT _ wfl_X10_96) hf dX10_bay_107 (fun v27 hf => ?_)
    refine lv_iconst (v := (1 : Int32)) hx hb dX10_bay_110 (by decide) ?_
    refine lv_iconst (v := (0 : Int32)) hx hb dX10_bay_111 (by decide) ?_
    refine q_zast hx hb hK hR hS hz hf dX10_bay_112 (fun X28 hf H locs hR hS hz => ?_)
    refine lv_aload_n hx hb dX10_bay_113 rfl (lv_at hl 0 rfl) ?_
    refine q_gI hx hb hT hown hK hR iqX10 vqX10 1 (by decide) (hT _ wfl_X10_102) hf dX10_bay_114 (fun v29 hf => ?_)
    subst hQ
    obtain ⟨h8, h9⟩ := Prod.mk.inj (Option.some.inj hf)
    exact q_iret hx hb hr hlocks hR hS hz h8 h9 dX10_bay_117
  · have hf := q_f hf hc
    refine lv_bipush (v := (-10 : Int32)) hx hb dX10_bay_75 (by decide) ?_
    refine lv_iload_n hx hb dX10_bay_77 rfl (lv_at hl 1 rfl) ?_
    refine lv_isub hx hb dX10_bay_78 ?_
    subst hQ
    obtain ⟨h8, h9⟩ := Prod.mk.inj (Option.some.inj hf)
    exact q_iret hx hb hr hlocks hR hS hz h8 h9 dX10_bay_79
/-! X10_fault -/
def fX10_fault (F : Nat) (X : qH) (a0 : Nat) : Option (Int32) :=
qIs 9 X a0 <|
(qgI X 9 a0 12).bind fun v1 =>
some v1
abbrev rmX10_fault : Room := { frames := 0, cells := 0, slots := 0, locals := 0 }
theorem fX10_fault_is {F : Nat} {X : qH} {a0 : Nat} {r9 : Int32} (h : fX10_fault F X a0 = some r9) : ∃ fs, X a0 = some (.inr (9, fs)) := (qIs_spec h).1
theorem hdX10_fault : yX10_fault.cls = RX10 ∧ yX10_fault.cls ≠ "java/lang/invoke/MethodHandle" ∧ yX10_fault.cls ≠ "java/lang/invoke/VarHandle" ∧ (parseMethodDescriptor yX10_fault.desc).map (fun d => d.parameters.length) = some 0 := by decide +kernel
set_option maxHeartbeats 4000000 in
set_option maxRecDepth 100000 in
theorem mX10_fault (l : Launch) (D : va_G) (kz : Nat → Nat) (b0 sz F : Nat) (X : qH) (a0 : Nat) (r : Int32) (hf : fX10_fault F X a0 = some r) : Met l yX10_fault (qws yX10_fault cX10_fault 1 (some .int)) rmX10_fault (va_Pc [.ref a0] (qU D kz b0 sz X)) (va_Qi (fun (r' : Int32) (u : qH) => r' = r ∧ u = X) (fun u t => qO D kz b0 sz u t) (qA b0)) 0 0 (qA b0) := by
  refine q_start (by decide) (Nat.le_of_ble_eq_true rfl) ?_
  intro p e s m args below meth c hx hb hr hlocks hnm hml hown hT hR hK hz ls hl
  have hown : s.vm.findClass RX10 = some m.cls := hown
  have hl : lv_has ls 1 [(0, .ref a0)] := hl
  have hS : va_S (qA b0) s.heap s.heap [] := va_S.rf
  obtain ⟨Q, hQ⟩ : ∃ Q, Q = MQ below (va_Qi (fun (r' : Int32) (u : qH) => r' = r ∧ u = X) (fun u t => qO D kz b0 sz u t) (qA b0)) args s 0 0 (qA b0) := ⟨_, rfl⟩
  rw [← hQ]
  unfold fX10_fault at hf
  obtain ⟨hthis, hf⟩ := qIs_spec hf
  refine lv_aload_n hx hb dX10_fault_0 rfl (lv_at hl 0 rfl) ?_
  refine q_gI hx hb hT hown hK hR iqX10 vqX10 12 (by decide) (hT _ wfl_X10_35) hf dX10_fault_1 (fun v1 hf => ?_)
  subst hQ
  exact q_iret hx hb hr hlocks hR hS hz (Option.some.inj hf) rfl dX10_fault_4
/-! X10_isGreen -/
def fX10_isGreen_L4_B (F : Nat) (X : qH) (a0 : Nat) (a1 : Int32) (self0 : Int32 → Int32 → Option (Int32)) (v1 : Int32) (v2 : Int32) : Option (Int32) :=
(qgR X 9 a0 4).bind fun v3 =>
(qaI X 0 v3 a1).bind fun v4 =>
if v4 ≤ v2 then (some v1)
else ((if v1 = (0 : Int32) then ((qgR X 9 a0 5).bind fun v7 =>
(qaI X 0 v7 (((5 : Int32) * a1) + v2)).bind fun v8 =>
if v8 = (3 : Int32) then (some (1 : Int32))
else (some (0 : Int32)))
else (some (1 : Int32)) : Option Int32).bind fun v5 =>
qlt (v2 + (1 : Int32)) fun v6 =>
self0 v5 v6)
def fX10_isGreen_L4 (F : Nat) (X : qH) (a0 : Nat) (a1 : Int32) : Nat → Int32 → Int32 → Option (Int32)
  | 0, _, _ => none
  | n + 1, v1, v2 => fX10_isGreen_L4_B F X a0 a1 (fX10_isGreen_L4 F X a0 a1 n) v1 v2
def fX10_isGreen (F : Nat) (X : qH) (a0 : Nat) (a1 : Int32) : Option (Int32) :=
qIs 9 X a0 <|
(fX10_isGreen_L4 F X a0 a1 F (0 : Int32) (0 : Int32)).bind fun v9 =>
(qz v9).bind fun z =>
some z
abbrev rmX10_isGreen : Room := { frames := 0, cells := 0, slots := 0, locals := 0 }
theorem fX10_isGreen_is {F : Nat} {X : qH} {a0 : Nat} {a1 : Int32} {r9 : Int32} (h : fX10_isGreen F X a0 a1 = some r9) : ∃ fs, X a0 = some (.inr (9, fs)) := (qIs_spec h).1
theorem hdX10_isGreen : yX10_isGreen.cls = RX10 ∧ yX10_isGreen.cls ≠ "java/lang/invoke/MethodHandle" ∧ yX10_isGreen.cls ≠ "java/lang/invoke/VarHandle" ∧ (parseMethodDescriptor yX10_isGreen.desc).map (fun d => d.parameters.length) = some 1 := by decide +kernel
set_option maxHeartbeats 4000000 in
set_option maxRecDepth 100000 in
theorem mX10_isGreen (l : Launch) (D : va_G) (kz : Nat → Nat) (b0 sz F : Nat) (X : qH) (a0 : Nat) (a1 : Int32) (r : Int32) (hf : fX10_isGreen F X a0 a1 = some r) : Met l yX10_isGreen (qws yX10_isGreen cX10_isGreen 4 (some .boolean)) rmX10_isGreen (va_Pc [.ref a0, .int a1] (qU D kz b0 sz X)) (va_Qi (fun (r' : Int32) (u : qH) => r' = r ∧ u = X) (fun u t => qO D kz b0 sz u t) (qA b0)) 0 0 (qA b0) := by
  refine q_start (by decide) (Nat.le_of_ble_eq_true rfl) ?_
  intro p e s m args below meth c hx hb hr hlocks hnm hml hown hT hR hK hz ls hl
  have hown : s.vm.findClass RX10 = some m.cls := hown
  have hl : lv_has ls 4 [(0, .ref a0), (1, .int a1)] := hl
  have hS : va_S (qA b0) s.heap s.heap [] := va_S.rf
  obtain ⟨Q, hQ⟩ : ∃ Q, Q = MQ below (va_Qi (fun (r' : Int32) (u : qH) => r' = r ∧ u = X) (fun u t => qO D kz b0 sz u t) (qA b0)) args s 0 0 (qA b0) := ⟨_, rfl⟩
  rw [← hQ]
  unfold fX10_isGreen at hf
  obtain ⟨hthis, hf⟩ := qIs_spec hf
  refine lv_iconst (v := (0 : Int32)) hx hb dX10_isGreen_0 (by decide) ?_
  refine lv_istore_n (lv' := [(2, .int (0 : Int32)), (0, .ref a0), (1, .int a1)]) hx hb dX10_isGreen_1 rfl hl (by decide) rfl (fun ls hl => ?_)
  refine lv_iconst (v := (0 : Int32)) hx hb dX10_isGreen_2 (by decide) ?_
  refine lv_istore_n (lv' := [(3, .int (0 : Int32)), (2, .int (0 : Int32)), (0, .ref a0), (1, .int a1)]) hx hb dX10_isGreen_3 rfl hl (by decide) rfl (fun ls hl => ?_)
  obtain ⟨v9, ho, hf⟩ := q_b hf
  have hL : ∀ (n : Nat) (v1 : Int32) (v2 : Int32) (out : Int32), fX10_isGreen_L4 F X a0 a1 n v1 v2 = some out → (∀ (v9 : Int32), out = v9 → ∀ (H : Heap) (locs : List Loc) (ls : Array Slot), qR D kz b0 X H → va_S (qA b0) s.heap H locs → H.size = sz → lv_has ls 4 [(2, .int v9)] → W p l e rmX10_isGreen s m args below meth c H locs 0 0 Q (F0 m 44 ls [])) → ∀ (H : Heap) (locs : List Loc) (ls : Array Slot), qR D kz b0 X H → va_S (qA b0) s.heap H locs → H.size = sz → lv_has ls 4 [(0, .ref a0), (1, .int a1), (2, .int v1), (3, .int v2)] → W p l e rmX10_isGreen s m args below meth c H locs 0 0 Q (F0 m 4 ls []) := by
    intro n9
    induction n9 with
    | zero =>
      intro v1 v2 out hf
      exact absurd (show none = some out from hf) (by simp)
    | succ n9 ih0 =>
      intro v1 v2 out hf hex H locs ls hR hS hz hl
      have hf : fX10_isGreen_L4_B F X a0 a1 (fX10_isGreen_L4 F X a0 a1 n9) v1 v2 = some out := hf
      unfold fX10_isGreen_L4_B at hf
      refine lv_iload_n hx hb dX10_isGreen_4 rfl (lv_at hl 3 rfl) ?_
      refine lv_aload_n hx hb dX10_isGreen_5 rfl (lv_at hl 0 rfl) ?_
      refine q_gR hx hb hT hown hK hR iqX10 vqX10 4 (by decide) (hT _ wfl_X10_16) hf dX10_isGreen_6 (fun v3 hf => ?_)
      refine lv_iload_n hx hb dX10_isGreen_9 rfl (lv_at hl 1 rfl) ?_
      refine q_iald hx hb hK hR hf dX10_isGreen_10 (fun v4 hf => ?_)
      refine lv_icmp_ge (tgt := 44) hx hb dX10_isGreen_11 (by decide) (fun hc => ?_) (fun hc => ?_)
      · have hf := q_t hf hc
        exact hex _ (Option.some.inj hf).symm _ _ _ hR hS hz (lv_sub hl [2] rfl)
      · have hf := q_f hf hc
        refine lv_iload_n hx hb dX10_isGreen_14 rfl (lv_at hl 2 rfl) ?_
        obtain ⟨v5, hp, hf⟩ := q_b hf
        have hJ : ∀ (H : Heap) (locs : List Loc) (ls : Array Slot), qR D kz b0 X H → va_S (qA b0) s.heap H locs → H.size = sz → lv_has ls 4 [(0, .ref a0), (1, .int a1), (3, .int v2)] → W p l e rmX10_isGreen s m args below meth c H locs 0 0 Q (F0 m 37 ls [.int v5]) := by
          intro H locs ls hR hS hz hl
          refine lv_istore_n (lv' := [(2, .int v5), (0, .ref a0), (1, .int a1), (3, .int v2)]) hx hb dX10_isGreen_37 rfl hl (by decide) rfl (fun ls hl => ?_)
          obtain ⟨v6, ev6⟩ : ∃ y : Int32, y = (v2 + (1 : Int32)) := ⟨_, rfl⟩
          have hf := q_lt ev6 hf
          refine lv_iinc (v := v6) (lv' := [(3, .int v6), (2, .int v5), (0, .ref a0), (1, .int a1)]) hx hb dX10_isGreen_38 hl (k := 3) rfl (by rw [ev6]; rfl) (by decide) rfl (fun ls hl => ?_)
          refine lv_goto (tgt := 4) hx hb dX10_isGreen_41 (by decide) ?_
          exact ih0 _ _ out hf hex _ _ _ hR hS hz (lv_sub hl [2, 3, 1, 0] rfl)
        have hf := hp
        refine lv_if_ne (tgt := 32) hx hb dX10_isGreen_15 (by decide) (fun hc => ?_) (fun hc => ?_)
        · have hf := q_f hf hc
          refine lv_iconst (v := (1 : Int32)) hx hb dX10_isGreen_32 (by decide) ?_
          refine lv_goto (tgt := 37) hx hb dX10_isGreen_33 (by decide) ?_
          cases hf
          exact hJ _ _ _ hR hS hz (lv_sub hl [0, 1, 3] rfl)
        · have hf := q_t hf hc
          refine lv_aload_n hx hb dX10_isGreen_18 rfl (lv_at hl 0 rfl) ?_
          refine q_gR hx hb hT hown hK hR iqX10 vqX10 5 (by decide) (hT _ wfl_X10_19) hf dX10_isGreen_19 (fun v7 hf => ?_)
          refine lv_iconst (v := (5 : Int32)) hx hb dX10_isGreen_22 (by decide) ?_
          refine lv_iload_n hx hb dX10_isGreen_23 rfl (lv_at hl 1 rfl) ?_
          refine lv_imul hx hb dX10_isGreen_24 ?_
          refine lv_iload_n hx hb dX10_isGreen_25 rfl (lv_at hl 3 rfl) ?_
          refine lv_iadd hx hb dX10_isGreen_26 ?_
          refine q_iald hx hb hK hR hf dX10_isGreen_27 (fun v8 hf => ?_)
          refine lv_iconst (v := (3 : Int32)) hx hb dX10_isGreen_28 (by decide) ?_
          refine lv_icmp_ne (tgt := 36) hx hb dX10_isGreen_29 (by decide) (fun hc => ?_) (fun hc => ?_)
          · have hf := q_f hf hc
            refine lv_iconst (v := (0 : Int32)) hx hb dX10_isGreen_36 (by decide) ?_
            cases hf
            exact hJ _ _ _ hR hS hz (lv_sub hl [0, 1, 3] rfl)
          · have hf := q_t hf hc
            refine lv_iconst (v := (1 : Int32)) hx hb dX10_isGreen_32 (by decide) ?_
            refine lv_goto (tgt := 37) hx hb dX10_isGreen_33 (by decide) ?_
            cases hf
            exact hJ _ _ _ hR hS hz (lv_sub hl [0, 1, 3] rfl)
  refine hL F _ _ _ ho (fun z0 h9 => ?_) _ _ _ hR hS hz (lv_sub hl [2, 3, 1, 0] rfl)
  cases h9
  intro H locs ls hR hS hz hl
  refine lv_iload_n hx hb dX10_isGreen_44 rfl (lv_at hl 0 rfl) ?_
  subst hQ
  obtain ⟨z9, hz9, hf⟩ := q_b hf
  obtain ⟨rfl, h01⟩ := qz_spec hz9
  exact q_zret hx hb hr hlocks hR hS hz (Option.some.inj hf) h01 rfl dX10_isGreen_45
/-! X10_contracts -/
def fX10_contracts_L17_B (F : Nat) (X : qH) (a0 : Nat) (a1 : Int32) (v2 : Int32) (self0 : Int32 → Int32 → Option (Int32)) (v5 : Int32) (v6 : Int32) : Option (Int32) :=
(qgI X 9 a0 1).bind fun v7 =>
if v7 ≤ v6 then (some v5)
else ((qgR X 9 a0 8).bind fun v8 =>
(qaI X 0 v8 ((35 : Int32) + v2)).bind fun v9 =>
(fX10_has F X v9 v6).bind fun v10 =>
(if v10 = (0 : Int32) then (some (0 : Int32))
else (if a1 = (0 : Int32) then (some (1 : Int32))
else ((fX10_isGreen F X a0 v2).bind fun v14 =>
if v14 = (0 : Int32) then ((fX10_isGreen F X a0 v6).bind fun v15 =>
if v15 = (0 : Int32) then (some (0 : Int32))
else (some (1 : Int32)))
else (some (1 : Int32)))) : Option Int32).bind fun v11 =>
qlt (v5 + v11) fun v12 =>
qlt (v6 + (1 : Int32)) fun v13 =>
self0 v12 v13)
def fX10_contracts_L17 (F : Nat) (X : qH) (a0 : Nat) (a1 : Int32) (v2 : Int32) : Nat → Int32 → Int32 → Option (Int32)
  | 0, _, _ => none
  | n + 1, v5, v6 => fX10_contracts_L17_B F X a0 a1 v2 (fX10_contracts_L17 F X a0 a1 v2 n) v5 v6
def fX10_contracts_L4_B (F : Nat) (X : qH) (a0 : Nat) (a1 : Int32) (self0 : Int32 → Int32 → Option (Int32)) (v1 : Int32) (v2 : Int32) : Option (Int32) :=
(qgI X 9 a0 1).bind fun v3 =>
if v3 ≤ v2 then (some v1)
else (qlt (v2 + (1 : Int32)) fun v4 =>
(fX10_contracts_L17 F X a0 a1 v2 F v1 v4).bind fun v16 =>
qlt (v2 + (1 : Int32)) fun v17 =>
self0 v16 v17)
def fX10_contracts_L4 (F : Nat) (X : qH) (a0 : Nat) (a1 : Int32) : Nat → Int32 → Int32 → Option (Int32)
  | 0, _, _ => none
  | n + 1, v1, v2 => fX10_contracts_L4_B F X a0 a1 (fX10_contracts_L4 F X a0 a1 n) v1 v2
def fX10_contracts (F : Nat) (X : qH) (a0 : Nat) (a1 : Int32) : Option (Int32) :=
qIs 9 X a0 <|
(fX10_contracts_L4 F X a0 a1 F (0 : Int32) (0 : Int32)).bind fun v18 =>
some v18
abbrev rmX10_contracts : Room := { frames := 1, cells := 0, slots := 0, locals := 23 }
theorem fX10_contracts_is {F : Nat} {X : qH} {a0 : Nat} {a1 : Int32} {r9 : Int32} (h : fX10_contracts F X a0 a1 = some r9) : ∃ fs, X a0 = some (.inr (9, fs)) := (qIs_spec h).1
theorem hdX10_contracts : yX10_contracts.cls = RX10 ∧ yX10_contracts.cls ≠ "java/lang/invoke/MethodHandle" ∧ yX10_contracts.cls ≠ "java/lang/invoke/VarHandle" ∧ (parseMethodDescriptor yX10_contracts.desc).map (fun d => d.parameters.length) = some 1 := by decide +kernel
set_option maxHeartbeats 4000000 in
set_option maxRecDepth 100000 in
theorem mX10_contracts (l : Launch) (D : va_G) (kz : Nat → Nat) (b0 sz F : Nat) (X : qH) (a0 : Nat) (a1 : Int32) (r : Int32) (hf : fX10_contracts F X a0 a1 = some r) : Met l yX10_contracts (qws yX10_contracts cX10_contracts 5 (some .int)) rmX10_contracts (va_Pc [.ref a0, .int a1] (qU D kz b0 sz X)) (va_Qi (fun (r' : Int32) (u : qH) => r' = r ∧ u = X) (fun u t => qO D kz b0 sz u t) (qA b0)) 0 0 (qA b0) := by
  refine q_start (by decide) (Nat.le_of_ble_eq_true rfl) ?_
  intro p e s m args below meth c hx hb hr hlocks hnm hml hown hT hR hK hz ls hl
  have hown : s.vm.findClass RX10 = some m.cls := hown
  have hl : lv_has ls 5 [(0, .ref a0), (1, .int a1)] := hl
  have hS : va_S (qA b0) s.heap s.heap [] := va_S.rf
  obtain ⟨Q, hQ⟩ : ∃ Q, Q = MQ below (va_Qi (fun (r' : Int32) (u : qH) => r' = r ∧ u = X) (fun u t => qO D kz b0 sz u t) (qA b0)) args s 0 0 (qA b0) := ⟨_, rfl⟩
  rw [← hQ]
  unfold fX10_contracts at hf
  obtain ⟨hthis, hf⟩ := qIs_spec hf
  refine lv_iconst (v := (0 : Int32)) hx hb dX10_contracts_0 (by decide) ?_
  refine lv_istore_n (lv' := [(2, .int (0 : Int32)), (0, .ref a0), (1, .int a1)]) hx hb dX10_contracts_1 rfl hl (by decide) rfl (fun ls hl => ?_)
  refine lv_iconst (v := (0 : Int32)) hx hb dX10_contracts_2 (by decide) ?_
  refine lv_istore_n (lv' := [(3, .int (0 : Int32)), (2, .int (0 : Int32)), (0, .ref a0), (1, .int a1)]) hx hb dX10_contracts_3 rfl hl (by decide) rfl (fun ls hl => ?_)
  obtain ⟨v18, ho, hf⟩ := q_b hf
  have hL : ∀ (n : Nat) (v1 : Int32) (v2 : Int32) (out : Int32), fX10_contracts_L4 F X a0 a1 n v1 v2 = some out → (∀ (v18 : Int32), out = v18 → ∀ (H : Heap) (locs : List Loc) (ls : Array Slot), qR D kz b0 X H → va_S (qA b0) s.heap H locs → H.size = sz → lv_has ls 5 [(2, .int v18)] → W p l e rmX10_contracts s m args below meth c H locs 0 0 Q (F0 m 84 ls [])) → ∀ (H : Heap) (locs : List Loc) (ls : Array Slot), qR D kz b0 X H → va_S (qA b0) s.heap H locs → H.size = sz → lv_has ls 5 [(0, .ref a0), (1, .int a1), (2, .int v1), (3, .int v2)] → W p l e rmX10_contracts s m args below meth c H locs 0 0 Q (F0 m 4 ls []) := by
    intro n9
    induction n9 with
    | zero =>
      intro v1 v2 out hf
      exact absurd (show none = some out from hf) (by simp)
    | succ n9 ih0 =>
      intro v1 v2 out hf hex H locs ls hR hS hz hl
      have hf : fX10_contracts_L4_B F X a0 a1 (fX10_contracts_L4 F X a0 a1 n9) v1 v2 = some out := hf
      unfold fX10_contracts_L4_B at hf
      refine lv_iload_n hx hb dX10_contracts_4 rfl (lv_at hl 3 rfl) ?_
      refine lv_aload_n hx hb dX10_contracts_5 rfl (lv_at hl 0 rfl) ?_
      refine q_gI hx hb hT hown hK hR iqX10 vqX10 1 (by decide) (hT _ wfl_X10_102) hf dX10_contracts_6 (fun v3 hf => ?_)
      refine lv_icmp_ge (tgt := 84) hx hb dX10_contracts_9 (by decide) (fun hc => ?_) (fun hc => ?_)
      · have hf := q_t hf hc
        exact hex _ (Option.some.inj hf).symm _ _ _ hR hS hz (lv_sub hl [2] rfl)
      · have hf := q_f hf hc
        refine lv_iload_n hx hb dX10_contracts_12 rfl (lv_at hl 3 rfl) ?_
        refine lv_iconst (v := (1 : Int32)) hx hb dX10_contracts_13 (by decide) ?_
        refine lv_iadd hx hb dX10_contracts_14 ?_
        refine lv_topi (fun v4 ev4 => ?_)
        have hf := q_lt ev4 hf
        refine lv_istore (lv' := [(4, .int v4), (0, .ref a0), (1, .int a1), (2, .int v1), (3, .int v2)]) hx hb dX10_contracts_15 hl (by decide) rfl (fun ls hl => ?_)
        obtain ⟨v16, ho, hf⟩ := q_b hf
        have hL : ∀ (n : Nat) (v5 : Int32) (v6 : Int32) (out : Int32), fX10_contracts_L17 F X a0 a1 v2 n v5 v6 = some out → (∀ (v16 : Int32), out = v16 → ∀ (H : Heap) (locs : List Loc) (ls : Array Slot), qR D kz b0 X H → va_S (qA b0) s.heap H locs → H.size = sz → lv_has ls 5 [(0, .ref a0), (1, .int a1), (2, .int v16), (3, .int v2)] → W p l e rmX10_contracts s m args below meth c H locs 0 0 Q (F0 m 78 ls [])) → ∀ (H : Heap) (locs : List Loc) (ls : Array Slot), qR D kz b0 X H → va_S (qA b0) s.heap H locs → H.size = sz → lv_has ls 5 [(0, .ref a0), (1, .int a1), (2, .int v5), (3, .int v2), (4, .int v6)] → W p l e rmX10_contracts s m args below meth c H locs 0 0 Q (F0 m 17 ls []) := by
          intro n9
          induction n9 with
          | zero =>
            intro v5 v6 out hf
            exact absurd (show none = some out from hf) (by simp)
          | succ n9 ih0 =>
            intro v5 v6 out hf hex H locs ls hR hS hz hl
            have hf : fX10_contracts_L17_B F X a0 a1 v2 (fX10_contracts_L17 F X a0 a1 v2 n9) v5 v6 = some out := hf
            unfold fX10_contracts_L17_B at hf
            refine lv_iload hx hb dX10_contracts_17 (lv_at hl 4 rfl) ?_
            refine lv_aload_n hx hb dX10_contracts_19 rfl (lv_at hl 0 rfl) ?_
            refine q_gI hx hb hT hown hK hR iqX10 vqX10 1 (by decide) (hT _ wfl_X10_102) hf dX10_contracts_20 (fun v7 hf => ?_)
            refine lv_icmp_ge (tgt := 78) hx hb dX10_contracts_23 (by decide) (fun hc => ?_) (fun hc => ?_)
            · have hf := q_t hf hc
              exact hex _ (Option.some.inj hf).symm _ _ _ hR hS hz (lv_sub hl [0, 1, 2, 3] rfl)
            · have hf := q_f hf hc
              refine lv_iload_n hx hb dX10_contracts_26 rfl (lv_at hl 2 rfl) ?_
              refine lv_aload_n hx hb dX10_contracts_27 rfl (lv_at hl 0 rfl) ?_
              refine q_gR hx hb hT hown hK hR iqX10 vqX10 8 (by decide) (hT _ wfl_X10_29) hf dX10_contracts_28 (fun v8 hf => ?_)
              refine lv_bipush (v := (35 : Int32)) hx hb dX10_contracts_31 (by decide) ?_
              refine lv_iload_n hx hb dX10_contracts_33 rfl (lv_at hl 3 rfl) ?_
              refine lv_iadd hx hb dX10_contracts_34 ?_
              refine q_iald hx hb hK hR hf dX10_contracts_35 (fun v9 hf => ?_)
              refine lv_iload hx hb dX10_contracts_36 (lv_at hl 4 rfl) ?_
              obtain ⟨v10, hc, hf⟩ := q_b hf
              refine q_calli (va_runS (As := [.int v9, .int v6]) (rest := [.int v5]) ⟨hx, hb, hml, hown, hT⟩ (mX10_has l D kz b0 sz F X v9 v6 v10 hc) (va_cwS 2 hT (q_gS wco_X10_has wml_X10_194 wst_X10_has win_X10) rfl rfl rfl hdX10_has ⟨Nat.le_of_ble_eq_true rfl, Nat.le_of_ble_eq_true rfl⟩) (q_preS hR hK hz) rfl rfl hl.1 rfl (lv_room (Nat.le_of_ble_eq_true rfl)) dX10_contracts_38 ⟨Nat.le_of_ble_eq_true rfl, Nat.le_of_ble_eq_true rfl⟩) hS (fun H locs hR hS hz => ?_)
              obtain ⟨v11, hp, hf⟩ := q_b hf
              have hJ : ∀ (H : Heap) (locs : List Loc) (ls : Array Slot), qR D kz b0 X H → va_S (qA b0) s.heap H locs → H.size = sz → lv_has ls 5 [(0, .ref a0), (1, .int a1), (3, .int v2), (4, .int v6)] → W p l e rmX10_contracts s m args below meth c H locs 0 0 Q (F0 m 70 ls [.int v11, .int v5]) := by
                intro H locs ls hR hS hz hl
                refine lv_iadd hx hb dX10_contracts_70 ?_
                refine lv_topi (fun v12 ev12 => ?_)
                have hf := q_lt ev12 hf
                refine lv_istore_n (lv' := [(2, .int v12), (0, .ref a0), (1, .int a1), (3, .int v2), (4, .int v6)]) hx hb dX10_contracts_71 rfl hl (by decide) rfl (fun ls hl => ?_)
                obtain ⟨v13, ev13⟩ : ∃ y : Int32, y = (v6 + (1 : Int32)) := ⟨_, rfl⟩
                have hf := q_lt ev13 hf
                refine lv_iinc (v := v13) (lv' := [(4, .int v13), (2, .int v12), (0, .ref a0), (1, .int a1), (3, .int v2)]) hx hb dX10_contracts_72 hl (k := 4) rfl (by rw [ev13]; rfl) (by decide) rfl (fun ls hl => ?_)
                refine lv_goto (tgt := 17) hx hb dX10_contracts_75 (by decide) ?_
                exact ih0 _ _ out hf hex _ _ _ hR hS hz (lv_sub hl [2, 3, 1, 4, 0] rfl)
              have hf := hp
              refine lv_if_eq (tgt := 69) hx hb dX10_contracts_41 (by decide) (fun hc => ?_) (fun hc => ?_)
              · have hf := q_t hf hc
                refine lv_iconst (v := (0 : Int32)) hx hb dX10_contracts_69 (by decide) ?_
                cases hf
                exact hJ _ _ _ hR hS hz (lv_sub hl [0, 1, 3, 4] rfl)
              · have hf := q_f hf hc
                refine lv_iload_n hx hb dX10_contracts_44 rfl (lv_at hl 1 rfl) ?_
                refine lv_if_eq (tgt := 65) hx hb dX10_contracts_45 (by decide) (fun hc => ?_) (fun hc => ?_)
                · have hf := q_t hf hc
                  refine lv_iconst (v := (1 : Int32)) hx hb dX10_contracts_65 (by decide) ?_
                  refine lv_goto (tgt := 70) hx hb dX10_contracts_66 (by decide) ?_
                  cases hf
                  exact hJ _ _ _ hR hS hz (lv_sub hl [0, 1, 3, 4] rfl)
                · have hf := q_f hf hc
                  refine lv_aload_n hx hb dX10_contracts_48 rfl (lv_at hl 0 rfl) ?_
                  refine lv_iload_n hx hb dX10_contracts_49 rfl (lv_at hl 3 rfl) ?_
                  obtain ⟨v14, hc, hf⟩ := q_b hf
                  refine q_calli (va_runV (As := [.int v2]) (rest := [.int v5]) ⟨hx, hb, hml, hown, hT⟩ (mX10_isGreen l D kz b0 sz F X a0 v2 v14 hc) (cwV 1 hT (q_gV wco_X10_isGreen wml_X10_197 wim_X10_isGreen wse_X10_isGreen win_X10) rfl rfl rfl hdX10_isGreen ⟨Nat.le_of_ble_eq_true rfl, Nat.le_of_ble_eq_true rfl⟩) (q_preV vqX10 (fX10_isGreen_is hc) hR hK hz) rfl rfl hl.1 rfl (lv_room (Nat.le_of_ble_eq_true rfl)) dX10_contracts_50 ⟨Nat.le_of_ble_eq_true rfl, Nat.le_of_ble_eq_true rfl⟩) hS (fun H locs hR hS hz => ?_)
                  refine lv_if_ne (tgt := 65) hx hb dX10_contracts_53 (by decide) (fun hc => ?_) (fun hc => ?_)
                  · have hf := q_f hf hc
                    refine lv_iconst (v := (1 : Int32)) hx hb dX10_contracts_65 (by decide) ?_
                    refine lv_goto (tgt := 70) hx hb dX10_contracts_66 (by decide) ?_
                    cases hf
                    exact hJ _ _ _ hR hS hz (lv_sub hl [0, 1, 3, 4] rfl)
                  · have hf := q_t hf hc
                    refine lv_aload_n hx hb dX10_contracts_56 rfl (lv_at hl 0 rfl) ?_
                    refine lv_iload hx hb dX10_contracts_57 (lv_at hl 4 rfl) ?_
                    obtain ⟨v15, hc, hf⟩ := q_b hf
                    refine q_calli (va_runV (As := [.int v6]) (rest := [.int v5]) ⟨hx, hb, hml, hown, hT⟩ (mX10_isGreen l D kz b0 sz F X a0 v6 v15 hc) (cwV 1 hT (q_gV wco_X10_isGreen wml_X10_197 wim_X10_isGreen wse_X10_isGreen win_X10) rfl rfl rfl hdX10_isGreen ⟨Nat.le_of_ble_eq_true rfl, Nat.le_of_ble_eq_true rfl⟩) (q_preV vqX10 (fX10_isGreen_is hc) hR hK hz) rfl rfl hl.1 rfl (lv_room (Nat.le_of_ble_eq_true rfl)) dX10_contracts_59 ⟨Nat.le_of_ble_eq_true rfl, Nat.le_of_ble_eq_true rfl⟩) hS (fun H locs hR hS hz => ?_)
                    refine lv_if_eq (tgt := 69) hx hb dX10_contracts_62 (by decide) (fun hc => ?_) (fun hc => ?_)
                    · have hf := q_t hf hc
                      refine lv_iconst (v := (0 : Int32)) hx hb dX10_contracts_69 (by decide) ?_
                      cases hf
                      exact hJ _ _ _ hR hS hz (lv_sub hl [0, 1, 3, 4] rfl)
                    · have hf := q_f hf hc
                      refine lv_iconst (v := (1 : Int32)) hx hb dX10_contracts_65 (by decide) ?_
                      refine lv_goto (tgt := 70) hx hb dX10_contracts_66 (by decide) ?_
                      cases hf
                      exact hJ _ _ _ hR hS hz (lv_sub hl [0, 1, 3, 4] rfl)
        refine hL F _ _ _ ho (fun z0 h9 => ?_) _ _ _ hR hS hz (lv_sub hl [1, 2, 3, 4, 0] rfl)
        cases h9
        intro H locs ls hR hS hz hl
        obtain ⟨v17, ev17⟩ : ∃ y : Int32, y = (v2 + (1 : Int32)) := ⟨_, rfl⟩
        have hf := q_lt ev17 hf
        refine lv_iinc (v := v17) (lv' := [(3, .int v17), (0, .ref a0), (1, .int a1), (2, .int v16)]) hx hb dX10_contracts_78 hl (k := 3) rfl (by rw [ev17]; rfl) (by decide) rfl (fun ls hl => ?_)
        refine lv_goto (tgt := 4) hx hb dX10_contracts_81 (by decide) ?_
        exact ih0 _ _ out hf hex _ _ _ hR hS hz (lv_sub hl [1, 2, 3, 0] rfl)
  refine hL F _ _ _ ho (fun z0 h9 => ?_) _ _ _ hR hS hz (lv_sub hl [2, 3, 1, 0] rfl)
  cases h9
  intro H locs ls hR hS hz hl
  refine lv_iload_n hx hb dX10_contracts_84 rfl (lv_at hl 0 rfl) ?_
  subst hQ
  exact q_iret hx hb hr hlocks hR hS hz (Option.some.inj hf) rfl dX10_contracts_85
/-! X10_told -/
def fX10_told (F : Nat) (X : qH) (a0 : Nat) (a1 : Int32) : Option (Int32) :=
qIs 9 X a0 <|
if a1 = (0 : Int32) then ((qgI X 9 a0 0).bind fun v1 =>
some v1)
else if a1 = (1 : Int32) then ((qgR X 9 a0 8).bind fun v2 =>
(qaI X 0 v2 (0 : Int32)).bind fun v3 =>
some v3)
else if a1 = (2 : Int32) then ((qgR X 9 a0 8).bind fun v4 =>
(qaI X 0 v4 (1 : Int32)).bind fun v5 =>
some v5)
else if a1 = (3 : Int32) then ((qgI X 9 a0 1).bind fun v6 =>
some v6)
else if a1 = (4 : Int32) then ((qgI X 9 a0 6).bind fun v7 =>
some v7)
else if a1 = (5 : Int32) then ((qgI X 9 a0 7).bind fun v8 =>
some v8)
else if a1 = (6 : Int32) then ((qgI X 9 a0 11).bind fun v9 =>
some v9)
else if a1 = (7 : Int32) then ((qgR X 9 a0 8).bind fun v10 =>
(qaI X 0 v10 (2 : Int32)).bind fun v11 =>
some v11)
else if a1 = (8 : Int32) then ((fX10_contracts F X a0 (0 : Int32)).bind fun v12 =>
some v12)
else if a1 = (9 : Int32) then ((fX10_contracts F X a0 (1 : Int32)).bind fun v13 =>
some v13)
else if a1 = (10 : Int32) then ((qgI X 9 a0 33).bind fun v14 =>
some v14)
else if a1 = (11 : Int32) then ((qgI X 9 a0 36).bind fun v15 =>
some v15)
else if a1 = (12 : Int32) then ((qgI X 9 a0 27).bind fun v16 =>
some v16)
else (some (-1000000002 : Int32))
abbrev rmX10_told : Room := { frames := 2, cells := 0, slots := 0, locals := 47 }
theorem fX10_told_is {F : Nat} {X : qH} {a0 : Nat} {a1 : Int32} {r9 : Int32} (h : fX10_told F X a0 a1 = some r9) : ∃ fs, X a0 = some (.inr (9, fs)) := (qIs_spec h).1
theorem hdX10_told : yX10_told.cls = RX10 ∧ yX10_told.cls ≠ "java/lang/invoke/MethodHandle" ∧ yX10_told.cls ≠ "java/lang/invoke/VarHandle" ∧ (parseMethodDescriptor yX10_told.desc).map (fun d => d.parameters.length) = some 1 := by decide +kernel
set_option maxHeartbeats 4000000 in
set_option maxRecDepth 100000 in
theorem mX10_told (l : Launch) (D : va_G) (kz : Nat → Nat) (b0 sz F : Nat) (X : qH) (a0 : Nat) (a1 : Int32) (r : Int32) (hf : fX10_told F X a0 a1 = some r) : Met l yX10_told (qws yX10_told cX10_told 2 (some .int)) rmX10_told (va_Pc [.ref a0, .int a1] (qU D kz b0 sz X)) (va_Qi (fun (r' : Int32) (u : qH) => r' = r ∧ u = X) (fun u t => qO D kz b0 sz u t) (qA b0)) 0 0 (qA b0) := by
  refine q_start (by decide) (Nat.le_of_ble_eq_true rfl) ?_
  intro p e s m args below meth c hx hb hr hlocks hnm hml hown hT hR hK hz ls hl
  have hown : s.vm.findClass RX10 = some m.cls := hown
  have hl : lv_has ls 2 [(0, .ref a0), (1, .int a1)] := hl
  have hS : va_S (qA b0) s.heap s.heap [] := va_S.rf
  obtain ⟨Q, hQ⟩ : ∃ Q, Q = MQ below (va_Qi (fun (r' : Int32) (u : qH) => r' = r ∧ u = X) (fun u t => qO D kz b0 sz u t) (qA b0)) args s 0 0 (qA b0) := ⟨_, rfl⟩
  rw [← hQ]
  unfold fX10_told at hf
  obtain ⟨hthis, hf⟩ := qIs_spec hf
  refine lv_iload_n hx hb dX10_told_0 rfl (lv_at hl 1 rfl) ?_
  by_cases hc0 : a1 = (0 : Int32)
  · have hf := q_t hf hc0
    refine lv_tableIn (off := 67) (tgt := 68) hx hb dX10_told_1 (by rw [hc0]; decide) (by rw [hc0]; decide) (by rw [hc0]; decide +kernel) (by decide) ?_
    refine lv_aload_n hx hb dX10_told_68 rfl (lv_at hl 0 rfl) ?_
    refine q_gI hx hb hT hown hK hR iqX10 vqX10 0 (by decide) (hT _ wfl_X10_99) hf dX10_told_69 (fun v1 hf => ?_)
    subst hQ
    exact q_iret hx hb hr hlocks hR hS hz (Option.some.inj hf) rfl dX10_told_72
  have hf := q_f hf hc0
  by_cases hc1 : a1 = (1 : Int32)
  · have hf := q_t hf hc1
    refine lv_tableIn (off := 72) (tgt := 73) hx hb dX10_told_1 (by rw [hc1]; decide) (by rw [hc1]; decide) (by rw [hc1]; decide +kernel) (by decide) ?_
    refine lv_aload_n hx hb dX10_told_73 rfl (lv_at hl 0 rfl) ?_
    refine q_gR hx hb hT hown hK hR iqX10 vqX10 8 (by decide) (hT _ wfl_X10_29) hf dX10_told_74 (fun v2 hf => ?_)
    refine lv_iconst (v := (0 : Int32)) hx hb dX10_told_77 (by decide) ?_
    refine q_iald hx hb hK hR hf dX10_told_78 (fun v3 hf => ?_)
    subst hQ
    exact q_iret hx hb hr hlocks hR hS hz (Option.some.inj hf) rfl dX10_told_79
  have hf := q_f hf hc1
  by_cases hc2 : a1 = (2 : Int32)
  · have hf := q_t hf hc2
    refine lv_tableIn (off := 79) (tgt := 80) hx hb dX10_told_1 (by rw [hc2]; decide) (by rw [hc2]; decide) (by rw [hc2]; decide +kernel) (by decide) ?_
    refine lv_aload_n hx hb dX10_told_80 rfl (lv_at hl 0 rfl) ?_
    refine q_gR hx hb hT hown hK hR iqX10 vqX10 8 (by decide) (hT _ wfl_X10_29) hf dX10_told_81 (fun v4 hf => ?_)
    refine lv_iconst (v := (1 : Int32)) hx hb dX10_told_84 (by decide) ?_
    refine q_iald hx hb hK hR hf dX10_told_85 (fun v5 hf => ?_)
    subst hQ
    exact q_iret hx hb hr hlocks hR hS hz (Option.some.inj hf) rfl dX10_told_86
  have hf := q_f hf hc2
  by_cases hc3 : a1 = (3 : Int32)
  · have hf := q_t hf hc3
    refine lv_tableIn (off := 86) (tgt := 87) hx hb dX10_told_1 (by rw [hc3]; decide) (by rw [hc3]; decide) (by rw [hc3]; decide +kernel) (by decide) ?_
    refine lv_aload_n hx hb dX10_told_87 rfl (lv_at hl 0 rfl) ?_
    refine q_gI hx hb hT hown hK hR iqX10 vqX10 1 (by decide) (hT _ wfl_X10_102) hf dX10_told_88 (fun v6 hf => ?_)
    subst hQ
    exact q_iret hx hb hr hlocks hR hS hz (Option.some.inj hf) rfl dX10_told_91
  have hf := q_f hf hc3
  by_cases hc4 : a1 = (4 : Int32)
  · have hf := q_t hf hc4
    refine lv_tableIn (off := 91) (tgt := 92) hx hb dX10_told_1 (by rw [hc4]; decide) (by rw [hc4]; decide) (by rw [hc4]; decide +kernel) (by decide) ?_
    refine lv_aload_n hx hb dX10_told_92 rfl (lv_at hl 0 rfl) ?_
    refine q_gI hx hb hT hown hK hR iqX10 vqX10 6 (by decide) (hT _ wfl_X10_22) hf dX10_told_93 (fun v7 hf => ?_)
    subst hQ
    exact q_iret hx hb hr hlocks hR hS hz (Option.some.inj hf) rfl dX10_told_96
  have hf := q_f hf hc4
  by_cases hc5 : a1 = (5 : Int32)
  · have hf := q_t hf hc5
    refine lv_tableIn (off := 96) (tgt := 97) hx hb dX10_told_1 (by rw [hc5]; decide) (by rw [hc5]; decide) (by rw [hc5]; decide +kernel) (by decide) ?_
    refine lv_aload_n hx hb dX10_told_97 rfl (lv_at hl 0 rfl) ?_
    refine q_gI hx hb hT hown hK hR iqX10 vqX10 7 (by decide) (hT _ wfl_X10_26) hf dX10_told_98 (fun v8 hf => ?_)
    subst hQ
    exact q_iret hx hb hr hlocks hR hS hz (Option.some.inj hf) rfl dX10_told_101
  have hf := q_f hf hc5
  by_cases hc6 : a1 = (6 : Int32)
  · have hf := q_t hf hc6
    refine lv_tableIn (off := 101) (tgt := 102) hx hb dX10_told_1 (by rw [hc6]; decide) (by rw [hc6]; decide) (by rw [hc6]; decide +kernel) (by decide) ?_
    refine lv_aload_n hx hb dX10_told_102 rfl (lv_at hl 0 rfl) ?_
    refine q_gI hx hb hT hown hK hR iqX10 vqX10 11 (by decide) (hT _ wfl_X10_112) hf dX10_told_103 (fun v9 hf => ?_)
    subst hQ
    exact q_iret hx hb hr hlocks hR hS hz (Option.some.inj hf) rfl dX10_told_106
  have hf := q_f hf hc6
  by_cases hc7 : a1 = (7 : Int32)
  · have hf := q_t hf hc7
    refine lv_tableIn (off := 106) (tgt := 107) hx hb dX10_told_1 (by rw [hc7]; decide) (by rw [hc7]; decide) (by rw [hc7]; decide +kernel) (by decide) ?_
    refine lv_aload_n hx hb dX10_told_107 rfl (lv_at hl 0 rfl) ?_
    refine q_gR hx hb hT hown hK hR iqX10 vqX10 8 (by decide) (hT _ wfl_X10_29) hf dX10_told_108 (fun v10 hf => ?_)
    refine lv_iconst (v := (2 : Int32)) hx hb dX10_told_111 (by decide) ?_
    refine q_iald hx hb hK hR hf dX10_told_112 (fun v11 hf => ?_)
    subst hQ
    exact q_iret hx hb hr hlocks hR hS hz (Option.some.inj hf) rfl dX10_told_113
  have hf := q_f hf hc7
  by_cases hc8 : a1 = (8 : Int32)
  · have hf := q_t hf hc8
    refine lv_tableIn (off := 113) (tgt := 114) hx hb dX10_told_1 (by rw [hc8]; decide) (by rw [hc8]; decide) (by rw [hc8]; decide +kernel) (by decide) ?_
    refine lv_aload_n hx hb dX10_told_114 rfl (lv_at hl 0 rfl) ?_
    refine lv_iconst (v := (0 : Int32)) hx hb dX10_told_115 (by decide) ?_
    obtain ⟨v12, hc, hf⟩ := q_b hf
    refine q_calli (va_runV (As := [.int (0 : Int32)]) (rest := []) ⟨hx, hb, hml, hown, hT⟩ (mX10_contracts l D kz b0 sz F X a0 (0 : Int32) v12 hc) (cwV 1 hT (q_gV wco_X10_contracts wml_X10_200 wim_X10_contracts wse_X10_contracts win_X10) rfl rfl rfl hdX10_contracts ⟨Nat.le_of_ble_eq_true rfl, Nat.le_of_ble_eq_true rfl⟩) (q_preV vqX10 (fX10_contracts_is hc) hR hK hz) rfl rfl hl.1 rfl (lv_room (Nat.le_of_ble_eq_true rfl)) dX10_told_116 ⟨Nat.le_of_ble_eq_true rfl, Nat.le_of_ble_eq_true rfl⟩) hS (fun H locs hR hS hz => ?_)
    subst hQ
    exact q_iret hx hb hr hlocks hR hS hz (Option.some.inj hf) rfl dX10_told_119
  have hf := q_f hf hc8
  by_cases hc9 : a1 = (9 : Int32)
  · have hf := q_t hf hc9
    refine lv_tableIn (off := 119) (tgt := 120) hx hb dX10_told_1 (by rw [hc9]; decide) (by rw [hc9]; decide) (by rw [hc9]; decide +kernel) (by decide) ?_
    refine lv_aload_n hx hb dX10_told_120 rfl (lv_at hl 0 rfl) ?_
    refine lv_iconst (v := (1 : Int32)) hx hb dX10_told_121 (by decide) ?_
    obtain ⟨v13, hc, hf⟩ := q_b hf
    refine q_calli (va_runV (As := [.int (1 : Int32)]) (rest := []) ⟨hx, hb, hml, hown, hT⟩ (mX10_contracts l D kz b0 sz F X a0 (1 : Int32) v13 hc) (cwV 1 hT (q_gV wco_X10_contracts wml_X10_200 wim_X10_contracts wse_X10_contracts win_X10) rfl rfl rfl hdX10_contracts ⟨Nat.le_of_ble_eq_true rfl, Nat.le_of_ble_eq_true rfl⟩) (q_preV vqX10 (fX10_contracts_is hc) hR hK hz) rfl rfl hl.1 rfl (lv_room (Nat.le_of_ble_eq_true rfl)) dX10_told_122 ⟨Nat.le_of_ble_eq_true rfl, Nat.le_of_ble_eq_true rfl⟩) hS (fun H locs hR hS hz => ?_)
    subst hQ
    exact q_iret hx hb hr hlocks hR hS hz (Option.some.inj hf) rfl dX10_told_125
  have hf := q_f hf hc9
  by_cases hc10 : a1 = (10 : Int32)
  · have hf := q_t hf hc10
    refine lv_tableIn (off := 125) (tgt := 126) hx hb dX10_told_1 (by rw [hc10]; decide) (by rw [hc10]; decide) (by rw [hc10]; decide +kernel) (by decide) ?_
    refine lv_aload_n hx hb dX10_told_126 rfl (lv_at hl 0 rfl) ?_
    refine q_gI hx hb hT hown hK hR iqX10 vqX10 33 (by decide) (hT _ wfl_X10_185) hf dX10_told_127 (fun v14 hf => ?_)
    subst hQ
    exact q_iret hx hb hr hlocks hR hS hz (Option.some.inj hf) rfl dX10_told_130
  have hf := q_f hf hc10
  by_cases hc11 : a1 = (11 : Int32)
  · have hf := q_t hf hc11
    refine lv_tableIn (off := 130) (tgt := 131) hx hb dX10_told_1 (by rw [hc11]; decide) (by rw [hc11]; decide) (by rw [hc11]; decide +kernel) (by decide) ?_
    refine lv_aload_n hx hb dX10_told_131 rfl (lv_at hl 0 rfl) ?_
    refine q_gI hx hb hT hown hK hR iqX10 vqX10 36 (by decide) (hT _ wfl_X10_188) hf dX10_told_132 (fun v15 hf => ?_)
    subst hQ
    exact q_iret hx hb hr hlocks hR hS hz (Option.some.inj hf) rfl dX10_told_135
  have hf := q_f hf hc11
  by_cases hc12 : a1 = (12 : Int32)
  · have hf := q_t hf hc12
    refine lv_tableIn (off := 135) (tgt := 136) hx hb dX10_told_1 (by rw [hc12]; decide) (by rw [hc12]; decide) (by rw [hc12]; decide +kernel) (by decide) ?_
    refine lv_aload_n hx hb dX10_told_136 rfl (lv_at hl 0 rfl) ?_
    refine q_gI hx hb hT hown hK hR iqX10 vqX10 27 (by decide) (hT _ wfl_X10_191) hf dX10_told_137 (fun v16 hf => ?_)
    subst hQ
    exact q_iret hx hb hr hlocks hR hS hz (Option.some.inj hf) rfl dX10_told_140
  have hf := q_f hf hc12
  have hd0 := lv_neT hc0 (a := 0) (by decide)
  have hd1 := lv_neT hc1 (a := 1) (by decide)
  have hd2 := lv_neT hc2 (a := 2) (by decide)
  have hd3 := lv_neT hc3 (a := 3) (by decide)
  have hd4 := lv_neT hc4 (a := 4) (by decide)
  have hd5 := lv_neT hc5 (a := 5) (by decide)
  have hd6 := lv_neT hc6 (a := 6) (by decide)
  have hd7 := lv_neT hc7 (a := 7) (by decide)
  have hd8 := lv_neT hc8 (a := 8) (by decide)
  have hd9 := lv_neT hc9 (a := 9) (by decide)
  have hd10 := lv_neT hc10 (a := 10) (by decide)
  have hd11 := lv_neT hc11 (a := 11) (by decide)
  have hd12 := lv_neT hc12 (a := 12) (by decide)
  refine lv_tableOut (tgt := 141) hx hb dX10_told_1 (by omega) (by decide) ?_
  refine lv_ldc (v := (-1000000002 : Int32)) hx hb hown (hT _ wk_X10_111) dX10_told_141 ?_
  subst hQ
  exact q_iret hx hb hr hlocks hR hS hz (Option.some.inj hf) rfl dX10_told_143
