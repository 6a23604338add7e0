/-! X9_farShore -/
def fX9_farShore_L16_B (F : Nat) (X : qH) (a0 : Nat) (a1 : Int32) (self0 : Int32 → Int32 → Option (Int32)) (v1 : Int32) (v2 : Int32) : Option (Int32) :=
(qgR X 8 a0 3).bind fun v3 =>
(qgI X 0 v3 5).bind fun v4 =>
if v4 ≤ v2 then (some v1)
else ((qgR X 8 a0 3).bind fun v5 =>
(qgR X 8 a0 3).bind fun v6 =>
(qgR X 0 v6 9).bind fun v7 =>
(qaI X 0 v7 v2).bind fun v8 =>
(fX8_fromTheEnd F X v8).bind fun v9 =>
(fX0_houseOfStars F X v5 v9).bind fun v10 =>
(if a1 = (1 : Int32) then (if v10 = v2 then (some (1 : Int32))
else (some (0 : Int32)))
else (if v10 = (-1 : Int32) then (some (0 : Int32))
else (if v10 = v2 then (some (0 : Int32))
else (some (1 : Int32)))) : Option Int32).bind fun v11 =>
(if v11 = (0 : Int32) then (some v1)
else (qlt (v1 ||| ((1 : Int32) <<< (v2 &&& 31))) fun v14 =>
some v14) : Option Int32).bind fun v12 =>
qlt (v2 + (1 : Int32)) fun v13 =>
self0 v12 v13)
def fX9_farShore_L16 (F : Nat) (X : qH) (a0 : Nat) (a1 : Int32) : Nat → Int32 → Int32 → Option (Int32)
  | 0, _, _ => none
  | n + 1, v1, v2 => fX9_farShore_L16_B F X a0 a1 (fX9_farShore_L16 F X a0 a1 n) v1 v2
def fX9_farShore (F : Nat) (X : qH) (a0 : Nat) (a1 : Int32) : Option (Int32) :=
qIs 8 X a0 <|
qlab (fun (_ : Unit) =>
(fX9_farShore_L16 F X a0 a1 F (0 : Int32) (0 : Int32)).bind fun v15 =>
some v15) fun J16 =>
if a1 = (0 : Int32) then (J16 ())
else (if a1 = (1 : Int32) then (J16 ())
else (some (-1000000002 : Int32)))
abbrev rmX9_farShore : Room := { frames := 1, cells := 0, slots := 0, locals := 22 }
theorem fX9_farShore_is {F : Nat} {X : qH} {a0 : Nat} {a1 : Int32} {r9 : Int32} (h : fX9_farShore F X a0 a1 = some r9) : ∃ fs, X a0 = some (.inr (8, fs)) := (qIs_spec h).1
theorem hdX9_farShore : yX9_farShore.cls = RX9 ∧ yX9_farShore.cls ≠ "java/lang/invoke/MethodHandle" ∧ yX9_farShore.cls ≠ "java/lang/invoke/VarHandle" ∧ (parseMethodDescriptor yX9_farShore.desc).map (fun d => d.parameters.length) = some 1 := by decide +kernel
set_option maxHeartbeats 4000000 in
set_option maxRecDepth 100000 in
theorem mX9_farShore (l : Launch) (D : va_G) (kz : Nat → Nat) (b0 sz F : Nat) (X : qH) (a0 : Nat) (a1 : Int32) (r : Int32) (hf : fX9_farShore F X a0 a1 = some r) : Met l yX9_farShore (qws yX9_farShore cX9_farShore 6 (some .int)) rmX9_farShore (va_Pc [.ref a0, .int a1] (qU D kz b0 sz X)) (va_Qi (fun (r' : Int32) (u : qH) => r' = r ∧ u = X) (fun u t => qO D kz b0 sz u t) (qA b0)) 0 0 (qA b0) := by
  refine q_start (by decide) (Nat.le_of_ble_eq_true rfl) ?_
  intro p e s m args below meth c hx hb hr hlocks hnm hml hown hT hR hK hz ls hl
  have hown : s.vm.findClass RX9 = some m.cls := hown
  have hl : lv_has ls 6 [(0, .ref a0), (1, .int a1)] := hl
  have hS : va_S (qA b0) s.heap s.heap [] := va_S.rf
  obtain ⟨Q, hQ⟩ : ∃ Q, Q = MQ below (va_Qi (fun (r' : Int32) (u : qH) => r' = r ∧ u = X) (fun u t => qO D kz b0 sz u t) (qA b0)) args s 0 0 (qA b0) := ⟨_, rfl⟩
  rw [← hQ]
  unfold fX9_farShore at hf
  obtain ⟨hthis, hf⟩ := qIs_spec hf
  refine lv_iload_n hx hb dX9_farShore_0 rfl (lv_at hl 1 rfl) ?_
  obtain ⟨J16, hJd, hf⟩ := q_lab hf
  have hJ12 : ∀ (_ : Unit), J16 () = some r → ∀ (H : Heap) (locs : List Loc) (ls : Array Slot), qR D kz b0 X H → va_S (qA b0) s.heap H locs → H.size = sz → lv_has ls 6 [(0, .ref a0), (1, .int a1)] → W p l e rmX9_farShore s m args below meth c H locs 0 0 Q (F0 m 12 ls []) := by
    intro _ hf H locs ls hR hS hz hl
    rw [hJd] at hf
    refine lv_iconst (v := (0 : Int32)) hx hb dX9_farShore_12 (by decide) ?_
    refine lv_istore_n (lv' := [(2, .int (0 : Int32)), (0, .ref a0), (1, .int a1)]) hx hb dX9_farShore_13 rfl hl (by decide) rfl (fun ls hl => ?_)
    refine lv_iconst (v := (0 : Int32)) hx hb dX9_farShore_14 (by decide) ?_
    refine lv_istore_n (lv' := [(3, .int (0 : Int32)), (2, .int (0 : Int32)), (0, .ref a0), (1, .int a1)]) hx hb dX9_farShore_15 rfl hl (by decide) rfl (fun ls hl => ?_)
    obtain ⟨v15, ho, hf⟩ := q_b hf
    have hL : ∀ (n : Nat) (v1 : Int32) (v2 : Int32) (out : Int32), fX9_farShore_L16 F X a0 a1 n v1 v2 = some out → (∀ (v15 : Int32), out = v15 → ∀ (H : Heap) (locs : List Loc) (ls : Array Slot), qR D kz b0 X H → va_S (qA b0) s.heap H locs → H.size = sz → lv_has ls 6 [(2, .int v15)] → W p l e rmX9_farShore s m args below meth c H locs 0 0 Q (F0 m 103 ls [])) → ∀ (H : Heap) (locs : List Loc) (ls : Array Slot), qR D kz b0 X H → va_S (qA b0) s.heap H locs → H.size = sz → lv_has ls 6 [(0, .ref a0), (1, .int a1), (2, .int v1), (3, .int v2)] → W p l e rmX9_farShore s m args below meth c H locs 0 0 Q (F0 m 16 ls []) := by
      intro n9
      induction n9 with
      | zero =>
        intro v1 v2 out hf
        exact absurd (show none = some out from hf) (by simp)
      | succ n9 ih0 =>
        intro v1 v2 out hf hex H locs ls hR hS hz hl
        have hf : fX9_farShore_L16_B F X a0 a1 (fX9_farShore_L16 F X a0 a1 n9) v1 v2 = some out := hf
        unfold fX9_farShore_L16_B at hf
        refine lv_iload_n hx hb dX9_farShore_16 rfl (lv_at hl 3 rfl) ?_
        refine lv_aload_n hx hb dX9_farShore_17 rfl (lv_at hl 0 rfl) ?_
        refine q_gR hx hb hT hown hK hR iqX9 vqX9 3 (by decide) (hT _ wfl_X9_23) hf dX9_farShore_18 (fun v3 hf => ?_)
        refine q_gI hx hb hT hown hK hR iqX0 vqX0 5 (by decide) (hT _ wfl_X9_111) hf dX9_farShore_21 (fun v4 hf => ?_)
        refine lv_icmp_ge (tgt := 103) hx hb dX9_farShore_24 (by decide) (fun hc => ?_) (fun hc => ?_)
        · have hf := q_t hf hc
          exact hex _ (Option.some.inj hf).symm _ _ _ hR hS hz (lv_sub hl [2] rfl)
        · have hf := q_f hf hc
          refine lv_aload_n hx hb dX9_farShore_27 rfl (lv_at hl 0 rfl) ?_
          refine q_gR hx hb hT hown hK hR iqX9 vqX9 3 (by decide) (hT _ wfl_X9_23) hf dX9_farShore_28 (fun v5 hf => ?_)
          refine lv_aload_n hx hb dX9_farShore_31 rfl (lv_at hl 0 rfl) ?_
          refine q_gR hx hb hT hown hK hR iqX9 vqX9 3 (by decide) (hT _ wfl_X9_23) hf dX9_farShore_32 (fun v6 hf => ?_)
          refine q_gR hx hb hT hown hK hR iqX0 vqX0 9 (by decide) (hT _ wfl_X9_158) hf dX9_farShore_35 (fun v7 hf => ?_)
          refine lv_iload_n hx hb dX9_farShore_38 rfl (lv_at hl 3 rfl) ?_
          refine q_iald hx hb hK hR hf dX9_farShore_39 (fun v8 hf => ?_)
          obtain ⟨v9, hc, hf⟩ := q_b hf
          refine q_calli (va_runS (As := [.int v8]) (rest := [.ref v5]) ⟨hx, hb, hml, hown, hT⟩ (mX8_fromTheEnd l D kz b0 sz F X v8 v9 hc) (va_cwS 1 hT (q_gS wco_X8_fromTheEnd wml_X9_219 wst_X8_fromTheEnd win_X8) rfl rfl rfl hdX8_fromTheEnd ⟨Nat.le_of_ble_eq_true rfl, Nat.le_of_ble_eq_true rfl⟩) (q_preS hR hK hz) rfl rfl hl.1 rfl (lv_room (Nat.le_of_ble_eq_true rfl)) dX9_farShore_40 ⟨Nat.le_of_ble_eq_true rfl, Nat.le_of_ble_eq_true rfl⟩) hS (fun H locs hR hS hz => ?_)
          obtain ⟨v10, hc, hf⟩ := q_b hf
          refine q_calli (va_runV (As := [.int v9]) (rest := []) ⟨hx, hb, hml, hown, hT⟩ (mX0_houseOfStars l D kz b0 sz F X v5 v9 v10 hc) (cwV 1 hT (q_gV wco_X0_houseOfStars wml_X9_222 wim_X0_houseOfStars wse_X0_houseOfStars win_X0) rfl rfl rfl hdX0_houseOfStars ⟨Nat.le_of_ble_eq_true rfl, Nat.le_of_ble_eq_true rfl⟩) (q_preV vqX0 (fX0_houseOfStars_is hc) hR hK hz) rfl rfl hl.1 rfl (lv_room (Nat.le_of_ble_eq_true rfl)) dX9_farShore_43 ⟨Nat.le_of_ble_eq_true rfl, Nat.le_of_ble_eq_true rfl⟩) hS (fun H locs hR hS hz => ?_)
          refine lv_istore (lv' := [(4, .int v10), (0, .ref a0), (1, .int a1), (2, .int v1), (3, .int v2)]) hx hb dX9_farShore_46 hl (by decide) rfl (fun ls hl => ?_)
          refine lv_iload_n hx hb dX9_farShore_48 rfl (lv_at hl 2 rfl) ?_
          refine lv_iconst (v := (1 : Int32)) hx hb dX9_farShore_49 (by decide) ?_
          obtain ⟨v11, hp, hf⟩ := q_b hf
          have hJ : ∀ (H : Heap) (locs : List Loc) (ls : Array Slot), qR D kz b0 X H → va_S (qA b0) s.heap H locs → H.size = sz → lv_has ls 6 [(0, .ref a0), (1, .int a1), (2, .int v1), (3, .int v2)] → W p l e rmX9_farShore s m args below meth c H locs 0 0 Q (F0 m 84 ls [.int v11]) := by
            intro H locs ls hR hS hz hl
            refine lv_istore (lv' := [(5, .int v11), (0, .ref a0), (1, .int a1), (2, .int v1), (3, .int v2)]) hx hb dX9_farShore_84 hl (by decide) rfl (fun ls hl => ?_)
            refine lv_iload hx hb dX9_farShore_86 (lv_at hl 0 rfl) ?_
            obtain ⟨v12, hp, hf⟩ := q_b hf
            have hJ : ∀ (H : Heap) (locs : List Loc) (ls : Array Slot), qR D kz b0 X H → va_S (qA b0) s.heap H locs → H.size = sz → lv_has ls 6 [(0, .ref a0), (1, .int a1), (2, .int v12), (3, .int v2)] → W p l e rmX9_farShore s m args below meth c H locs 0 0 Q (F0 m 97 ls []) := by
              intro H locs ls hR hS hz hl
              obtain ⟨v13, ev13⟩ : ∃ y : Int32, y = (v2 + (1 : Int32)) := ⟨_, rfl⟩
              have hf := q_lt ev13 hf
              refine lv_iinc (v := v13) (lv' := [(3, .int v13), (0, .ref a0), (1, .int a1), (2, .int v12)]) hx hb dX9_farShore_97 hl (k := 3) rfl (by rw [ev13]; rfl) (by decide) rfl (fun ls hl => ?_)
              refine lv_goto (tgt := 16) hx hb dX9_farShore_100 (by decide) ?_
              exact ih0 _ _ out hf hex _ _ _ hR hS hz (lv_sub hl [1, 2, 3, 0] rfl)
            have hf := hp
            refine lv_if_eq (tgt := 97) hx hb dX9_farShore_88 (by decide) (fun hc => ?_) (fun hc => ?_)
            · have hf := q_t hf hc
              cases hf
              exact hJ _ _ _ hR hS hz (lv_sub hl [1, 2, 3, 4] rfl)
            · have hf := q_f hf hc
              refine lv_iload_n hx hb dX9_farShore_91 rfl (lv_at hl 3 rfl) ?_
              refine lv_iconst (v := (1 : Int32)) hx hb dX9_farShore_92 (by decide) ?_
              refine lv_iload_n hx hb dX9_farShore_93 rfl (lv_at hl 4 rfl) ?_
              refine lv_ishl hx hb dX9_farShore_94 ?_
              refine lv_ior hx hb dX9_farShore_95 ?_
              refine lv_topi (fun v14 ev14 => ?_)
              have hf := q_lt ev14 hf
              refine lv_istore_n (lv' := [(2, .int v14), (5, .int v11), (0, .ref a0), (1, .int a1), (3, .int v2)]) hx hb dX9_farShore_96 rfl hl (by decide) rfl (fun ls hl => ?_)
              cases hf
              exact hJ _ _ _ hR hS hz (lv_sub hl [2, 3, 0, 4] rfl)
          have hf := hp
          refine lv_icmp_ne (tgt := 67) hx hb dX9_farShore_50 (by decide) (fun hc => ?_) (fun hc => ?_)
          · have hf := q_f hf hc
            refine lv_iload hx hb dX9_farShore_67 (lv_at hl 0 rfl) ?_
            refine lv_iconst (v := (-1 : Int32)) hx hb dX9_farShore_69 (by decide) ?_
            refine lv_icmp_eq (tgt := 83) hx hb dX9_farShore_70 (by decide) (fun hc => ?_) (fun hc => ?_)
            · have hf := q_t hf hc
              refine lv_iconst (v := (0 : Int32)) hx hb dX9_farShore_83 (by decide) ?_
              cases hf
              exact hJ _ _ _ hR hS hz (lv_sub hl [1, 2, 3, 4] rfl)
            · have hf := q_f hf hc
              refine lv_iload hx hb dX9_farShore_73 (lv_at hl 0 rfl) ?_
              refine lv_iload_n hx hb dX9_farShore_75 rfl (lv_at hl 4 rfl) ?_
              refine lv_icmp_eq (tgt := 83) hx hb dX9_farShore_76 (by decide) (fun hc => ?_) (fun hc => ?_)
              · have hf := q_t hf hc
                refine lv_iconst (v := (0 : Int32)) hx hb dX9_farShore_83 (by decide) ?_
                cases hf
                exact hJ _ _ _ hR hS hz (lv_sub hl [1, 2, 3, 4] rfl)
              · have hf := q_f hf hc
                refine lv_iconst (v := (1 : Int32)) hx hb dX9_farShore_79 (by decide) ?_
                refine lv_goto (tgt := 84) hx hb dX9_farShore_80 (by decide) ?_
                cases hf
                exact hJ _ _ _ hR hS hz (lv_sub hl [1, 2, 3, 4] rfl)
          · have hf := q_t hf hc
            refine lv_iload hx hb dX9_farShore_53 (lv_at hl 0 rfl) ?_
            refine lv_iload_n hx hb dX9_farShore_55 rfl (lv_at hl 4 rfl) ?_
            refine lv_icmp_ne (tgt := 63) hx hb dX9_farShore_56 (by decide) (fun hc => ?_) (fun hc => ?_)
            · have hf := q_f hf hc
              refine lv_iconst (v := (0 : Int32)) hx hb dX9_farShore_63 (by decide) ?_
              refine lv_goto (tgt := 84) hx hb dX9_farShore_64 (by decide) ?_
              cases hf
              exact hJ _ _ _ hR hS hz (lv_sub hl [1, 2, 3, 4] rfl)
            · have hf := q_t hf hc
              refine lv_iconst (v := (1 : Int32)) hx hb dX9_farShore_59 (by decide) ?_
              refine lv_goto (tgt := 84) hx hb dX9_farShore_60 (by decide) ?_
              cases hf
              exact hJ _ _ _ hR hS hz (lv_sub hl [1, 2, 3, 4] rfl)
    refine hL F _ _ _ ho (fun z0 h9 => ?_) _ _ _ hR hS hz (lv_sub hl [2, 3, 1, 0] rfl)
    cases h9
    intro H locs ls hR hS hz hl
    refine lv_iload_n hx hb dX9_farShore_103 rfl (lv_at hl 0 rfl) ?_
    subst hQ
    exact q_iret hx hb hr hlocks hR hS hz (Option.some.inj hf) rfl dX9_farShore_104
  clear hJd
  refine lv_if_eq (tgt := 12) hx hb dX9_farShore_1 (by decide) (fun hc => ?_) (fun hc => ?_)
  · have hf := q_t hf hc
    exact hJ12 () hf _ _ _ hR hS hz (lv_sub hl [0, 1] rfl)
  · have hf := q_f hf hc
    refine lv_iload_n hx hb dX9_farShore_4 rfl (lv_at hl 1 rfl) ?_
    refine lv_iconst (v := (1 : Int32)) hx hb dX9_farShore_5 (by decide) ?_
    refine lv_icmp_eq (tgt := 12) hx hb dX9_farShore_6 (by decide) (fun hc => ?_) (fun hc => ?_)
    · have hf := q_t hf hc
      exact hJ12 () hf _ _ _ hR hS hz (lv_sub hl [0, 1] rfl)
    · have hf := q_f hf hc
      refine lv_ldc (v := (-1000000002 : Int32)) hx hb hown (hT _ wk_X9_97) dX9_farShore_9 ?_
      subst hQ
      exact q_iret hx hb hr hlocks hR hS hz (Option.some.inj hf) rfl dX9_farShore_11
/-! X9_cross -/
def fX9_cross (F : Nat) (X : qH) (a0 : Nat) (a1 : Int32) (a2 : Int32) : Option (Int32) :=
qIs 8 X a0 <|
(qgR X 8 a0 3).bind fun v1 =>
(fX0_hasTwo F X v1 a1 a2).bind fun v2 =>
if v2 = (0 : Int32) then (some (-1000000001 : Int32))
else ((qgR X 8 a0 3).bind fun v3 =>
(fX0_apart F X v3 a1 a2).bind fun v4 =>
if v4 = (2 : Int32) then ((qgR X 8 a0 3).bind fun v5 =>
(qgR X 8 a0 3).bind fun v6 =>
(qgR X 0 v6 6).bind fun v7 =>
(qaI X 0 v7 a1).bind fun v8 =>
(qgR X 8 a0 3).bind fun v9 =>
(qgR X 0 v9 6).bind fun v10 =>
(qaI X 0 v10 a2).bind fun v11 =>
qlt (if v11 < v8 then v11 else v8) fun v12 =>
(fX0_houseOn F X v5 (v12 + (1 : Int32))).bind fun v13 =>
some v13)
else (some (-1 : Int32)))
abbrev rmX9_cross : Room := { frames := 2, cells := 0, slots := 0, locals := 43 }
theorem fX9_cross_is {F : Nat} {X : qH} {a0 : Nat} {a1 : Int32} {a2 : Int32} {r9 : Int32} (h : fX9_cross F X a0 a1 a2 = some r9) : ∃ fs, X a0 = some (.inr (8, fs)) := (qIs_spec h).1
theorem hdX9_cross : yX9_cross.cls = RX9 ∧ yX9_cross.cls ≠ "java/lang/invoke/MethodHandle" ∧ yX9_cross.cls ≠ "java/lang/invoke/VarHandle" ∧ (parseMethodDescriptor yX9_cross.desc).map (fun d => d.parameters.length) = some 2 := by decide +kernel
set_option maxHeartbeats 4000000 in
set_option maxRecDepth 100000 in
theorem mX9_cross (l : Launch) (D : va_G) (kz : Nat → Nat) (b0 sz F : Nat) (X : qH) (a0 : Nat) (a1 : Int32) (a2 : Int32) (r : Int32) (hf : fX9_cross F X a0 a1 a2 = some r) : Met l yX9_cross (qws yX9_cross cX9_cross 3 (some .int)) rmX9_cross (va_Pc [.ref a0, .int a1, .int a2] (qU D kz b0 sz X)) (va_Qi (fun (r' : Int32) (u : qH) => r' = r ∧ u = X) (fun u t => qO D kz b0 sz u t) (qA b0)) 0 0 (qA b0) := by
  refine q_start (by decide) (Nat.le_of_ble_eq_true rfl) ?_
  intro p e s m args below meth c hx hb hr hlocks hnm hml hown hT hR hK hz ls hl
  have hown : s.vm.findClass RX9 = some m.cls := hown
  have hl : lv_has ls 3 [(0, .ref a0), (1, .int a1), (2, .int a2)] := hl
  have hS : va_S (qA b0) s.heap s.heap [] := va_S.rf
  obtain ⟨Q, hQ⟩ : ∃ Q, Q = MQ below (va_Qi (fun (r' : Int32) (u : qH) => r' = r ∧ u = X) (fun u t => qO D kz b0 sz u t) (qA b0)) args s 0 0 (qA b0) := ⟨_, rfl⟩
  rw [← hQ]
  unfold fX9_cross at hf
  obtain ⟨hthis, hf⟩ := qIs_spec hf
  refine lv_aload_n hx hb dX9_cross_0 rfl (lv_at hl 0 rfl) ?_
  refine q_gR hx hb hT hown hK hR iqX9 vqX9 3 (by decide) (hT _ wfl_X9_23) hf dX9_cross_1 (fun v1 hf => ?_)
  refine lv_iload_n hx hb dX9_cross_4 rfl (lv_at hl 1 rfl) ?_
  refine lv_iload_n hx hb dX9_cross_5 rfl (lv_at hl 2 rfl) ?_
  obtain ⟨v2, hc, hf⟩ := q_b hf
  refine q_calli (va_runV (As := [.int a1, .int a2]) (rest := []) ⟨hx, hb, hml, hown, hT⟩ (mX0_hasTwo l D kz b0 sz F X v1 a1 a2 v2 hc) (cwV 2 hT (q_gV wco_X0_hasTwo wml_X9_174 wim_X0_hasTwo wse_X0_hasTwo win_X0) rfl rfl rfl hdX0_hasTwo ⟨Nat.le_of_ble_eq_true rfl, Nat.le_of_ble_eq_true rfl⟩) (q_preV vqX0 (fX0_hasTwo_is hc) hR hK hz) rfl rfl hl.1 rfl (lv_room (Nat.le_of_ble_eq_true rfl)) dX9_cross_6 ⟨Nat.le_of_ble_eq_true rfl, Nat.le_of_ble_eq_true rfl⟩) hS (fun H locs hR hS hz => ?_)
  refine lv_if_ne (tgt := 15) hx hb dX9_cross_9 (by decide) (fun hc => ?_) (fun hc => ?_)
  · have hf := q_f hf hc
    refine lv_aload_n hx hb dX9_cross_15 rfl (lv_at hl 0 rfl) ?_
    refine q_gR hx hb hT hown hK hR iqX9 vqX9 3 (by decide) (hT _ wfl_X9_23) hf dX9_cross_16 (fun v3 hf => ?_)
    refine lv_iload_n hx hb dX9_cross_19 rfl (lv_at hl 1 rfl) ?_
    refine lv_iload_n hx hb dX9_cross_20 rfl (lv_at hl 2 rfl) ?_
    obtain ⟨v4, hc, hf⟩ := q_b hf
    refine q_calli (va_runV (As := [.int a1, .int a2]) (rest := []) ⟨hx, hb, hml, hown, hT⟩ (mX0_apart l D kz b0 sz F X v3 a1 a2 v4 hc) (cwV 2 hT (q_gV wco_X0_apart wml_X9_225 wim_X0_apart wse_X0_apart win_X0) rfl rfl rfl hdX0_apart ⟨Nat.le_of_ble_eq_true rfl, Nat.le_of_ble_eq_true rfl⟩) (q_preV vqX0 (fX0_apart_is hc) hR hK hz) rfl rfl hl.1 rfl (lv_room (Nat.le_of_ble_eq_true rfl)) dX9_cross_21 ⟨Nat.le_of_ble_eq_true rfl, Nat.le_of_ble_eq_true rfl⟩) hS (fun H locs hR hS hz => ?_)
    refine lv_iconst (v := (2 : Int32)) hx hb dX9_cross_24 (by decide) ?_
    refine lv_icmp_eq (tgt := 30) hx hb dX9_cross_25 (by decide) (fun hc => ?_) (fun hc => ?_)
    · have hf := q_t hf hc
      refine lv_aload_n hx hb dX9_cross_30 rfl (lv_at hl 0 rfl) ?_
      refine q_gR hx hb hT hown hK hR iqX9 vqX9 3 (by decide) (hT _ wfl_X9_23) hf dX9_cross_31 (fun v5 hf => ?_)
      refine lv_aload_n hx hb dX9_cross_34 rfl (lv_at hl 0 rfl) ?_
      refine q_gR hx hb hT hown hK hR iqX9 vqX9 3 (by decide) (hT _ wfl_X9_23) hf dX9_cross_35 (fun v6 hf => ?_)
      refine q_gR hx hb hT hown hK hR iqX0 vqX0 6 (by decide) (hT _ wfl_X9_149) hf dX9_cross_38 (fun v7 hf => ?_)
      refine lv_iload_n hx hb dX9_cross_41 rfl (lv_at hl 1 rfl) ?_
      refine q_iald hx hb hK hR hf dX9_cross_42 (fun v8 hf => ?_)
      refine lv_aload_n hx hb dX9_cross_43 rfl (lv_at hl 0 rfl) ?_
      refine q_gR hx hb hT hown hK hR iqX9 vqX9 3 (by decide) (hT _ wfl_X9_23) hf dX9_cross_44 (fun v9 hf => ?_)
      refine q_gR hx hb hT hown hK hR iqX0 vqX0 6 (by decide) (hT _ wfl_X9_149) hf dX9_cross_47 (fun v10 hf => ?_)
      refine lv_iload_n hx hb dX9_cross_50 rfl (lv_at hl 2 rfl) ?_
      refine q_iald hx hb hK hR hf dX9_cross_51 (fun v11 hf => ?_)
      refine va_mmin hx hb (hml.trans hl.1.symm) hown (hT _ wml_X9_229) (hT _ wst_Mmin) (hT _ win_Math) (hT _ wco_Mmin) (Nat.le_of_ble_eq_true rfl) (Nat.le_of_ble_eq_true rfl) (Nat.le_of_ble_eq_true rfl) (Nat.le_of_ble_eq_true rfl) dX9_cross_52 ?_
      refine lv_topi (fun v12 ev12 => ?_)
      have hf := q_lt ev12 hf
      refine lv_iconst (v := (1 : Int32)) hx hb dX9_cross_55 (by decide) ?_
      refine lv_iadd hx hb dX9_cross_56 ?_
      obtain ⟨v13, hc, hf⟩ := q_b hf
      refine q_calli (va_runV (As := [.int (v12 + (1 : Int32))]) (rest := []) ⟨hx, hb, hml, hown, hT⟩ (mX0_houseOn l D kz b0 sz F X v5 (v12 + (1 : Int32)) v13 hc) (cwV 1 hT (q_gV wco_X0_houseOn wml_X9_234 wim_X0_houseOn wse_X0_houseOn win_X0) rfl rfl rfl hdX0_houseOn ⟨Nat.le_of_ble_eq_true rfl, Nat.le_of_ble_eq_true rfl⟩) (q_preV vqX0 (fX0_houseOn_is hc) hR hK hz) rfl rfl hl.1 rfl (lv_room (Nat.le_of_ble_eq_true rfl)) dX9_cross_57 ⟨Nat.le_of_ble_eq_true rfl, Nat.le_of_ble_eq_true rfl⟩) hS (fun H locs hR hS hz => ?_)
      subst hQ
      exact q_iret hx hb hr hlocks hR hS hz (Option.some.inj hf) rfl dX9_cross_60
    · have hf := q_f hf hc
      refine lv_iconst (v := (-1 : Int32)) hx hb dX9_cross_28 (by decide) ?_
      subst hQ
      exact q_iret hx hb hr hlocks hR hS hz (Option.some.inj hf) rfl dX9_cross_29
  · have hf := q_t hf hc
    refine lv_ldc (v := (-1000000001 : Int32)) hx hb hown (hT _ wk_X9_148) dX9_cross_12 ?_
    subst hQ
    exact q_iret hx hb hr hlocks hR hS hz (Option.some.inj hf) rfl dX9_cross_14
/-! X9_treaty -/
def fX9_treaty_L18_B (F : Nat) (X : qH) (a0 : Nat) (a1 : Int32) (self0 : Int32 → Int32 → Option (Int32)) (v3 : Int32) (v4 : Int32) : Option (Int32) :=
(qgR X 8 a0 3).bind fun v5 =>
(qgI X 0 v5 5).bind fun v6 =>
if v6 ≤ v4 then (some v3)
else ((if ((a1 >>> (v4 &&& 31)) &&& (1 : Int32)) = (1 : Int32) then ((qgR X 8 a0 7).bind fun v9 =>
(qgR X 8 a0 3).bind fun v10 =>
(fX3_lackOfPowder F X v9 v10 v4 a1).bind fun v11 =>
qlt (v3 + v11) fun v12 =>
some v12)
else (some v3) : Option Int32).bind fun v7 =>
qlt (v4 + (1 : Int32)) fun v8 =>
self0 v7 v8)
def fX9_treaty_L18 (F : Nat) (X : qH) (a0 : Nat) (a1 : Int32) : Nat → Int32 → Int32 → Option (Int32)
  | 0, _, _ => none
  | n + 1, v3, v4 => fX9_treaty_L18_B F X a0 a1 (fX9_treaty_L18 F X a0 a1 n) v3 v4
def fX9_treaty (F : Nat) (X : qH) (a0 : Nat) (a1 : Int32) : Option (Int32) :=
qIs 8 X a0 <|
(qgR X 8 a0 3).bind fun v1 =>
(fX0_hasAll F X v1 a1).bind fun v2 =>
if v2 = (0 : Int32) then (some (-1000000001 : Int32))
else ((fX9_treaty_L18 F X a0 a1 F (0 : Int32) (0 : Int32)).bind fun v13 =>
some v13)
abbrev rmX9_treaty : Room := { frames := 3, cells := 0, slots := 0, locals := 69 }
theorem fX9_treaty_is {F : Nat} {X : qH} {a0 : Nat} {a1 : Int32} {r9 : Int32} (h : fX9_treaty F X a0 a1 = some r9) : ∃ fs, X a0 = some (.inr (8, fs)) := (qIs_spec h).1
theorem hdX9_treaty : yX9_treaty.cls = RX9 ∧ yX9_treaty.cls ≠ "java/lang/invoke/MethodHandle" ∧ yX9_treaty.cls ≠ "java/lang/invoke/VarHandle" ∧ (parseMethodDescriptor yX9_treaty.desc).map (fun d => d.parameters.length) = some 1 := by decide +kernel
set_option maxHeartbeats 4000000 in
set_option maxRecDepth 100000 in
theorem mX9_treaty (l : Launch) (D : va_G) (kz : Nat → Nat) (b0 sz F : Nat) (X : qH) (a0 : Nat) (a1 : Int32) (r : Int32) (hf : fX9_treaty F X a0 a1 = some r) : Met l yX9_treaty (qws yX9_treaty cX9_treaty 4 (some .int)) rmX9_treaty (va_Pc [.ref a0, .int a1] (qU D kz b0 sz X)) (va_Qi (fun (r' : Int32) (u : qH) => r' = r ∧ u = X) (fun u t => qO D kz b0 sz u t) (qA b0)) 0 0 (qA b0) := by
  refine q_start (by decide) (Nat.le_of_ble_eq_true rfl) ?_
  intro p e s m args below meth c hx hb hr hlocks hnm hml hown hT hR hK hz ls hl
  have hown : s.vm.findClass RX9 = some m.cls := hown
  have hl : lv_has ls 4 [(0, .ref a0), (1, .int a1)] := hl
  have hS : va_S (qA b0) s.heap s.heap [] := va_S.rf
  obtain ⟨Q, hQ⟩ : ∃ Q, Q = MQ below (va_Qi (fun (r' : Int32) (u : qH) => r' = r ∧ u = X) (fun u t => qO D kz b0 sz u t) (qA b0)) args s 0 0 (qA b0) := ⟨_, rfl⟩
  rw [← hQ]
  unfold fX9_treaty at hf
  obtain ⟨hthis, hf⟩ := qIs_spec hf
  refine lv_aload_n hx hb dX9_treaty_0 rfl (lv_at hl 0 rfl) ?_
  refine q_gR hx hb hT hown hK hR iqX9 vqX9 3 (by decide) (hT _ wfl_X9_23) hf dX9_treaty_1 (fun v1 hf => ?_)
  refine lv_iload_n hx hb dX9_treaty_4 rfl (lv_at hl 1 rfl) ?_
  obtain ⟨v2, hc, hf⟩ := q_b hf
  refine q_calli (va_runV (As := [.int a1]) (rest := []) ⟨hx, hb, hml, hown, hT⟩ (mX0_hasAll l D kz b0 sz F X v1 a1 v2 hc) (cwV 1 hT (q_gV wco_X0_hasAll wml_X9_209 wim_X0_hasAll wse_X0_hasAll win_X0) rfl rfl rfl hdX0_hasAll ⟨Nat.le_of_ble_eq_true rfl, Nat.le_of_ble_eq_true rfl⟩) (q_preV vqX0 (fX0_hasAll_is hc) hR hK hz) rfl rfl hl.1 rfl (lv_room (Nat.le_of_ble_eq_true rfl)) dX9_treaty_5 ⟨Nat.le_of_ble_eq_true rfl, Nat.le_of_ble_eq_true rfl⟩) hS (fun H locs hR hS hz => ?_)
  refine lv_if_ne (tgt := 14) hx hb dX9_treaty_8 (by decide) (fun hc => ?_) (fun hc => ?_)
  · have hf := q_f hf hc
    refine lv_iconst (v := (0 : Int32)) hx hb dX9_treaty_14 (by decide) ?_
    refine lv_istore_n (lv' := [(2, .int (0 : Int32)), (0, .ref a0), (1, .int a1)]) hx hb dX9_treaty_15 rfl hl (by decide) rfl (fun ls hl => ?_)
    refine lv_iconst (v := (0 : Int32)) hx hb dX9_treaty_16 (by decide) ?_
    refine lv_istore_n (lv' := [(3, .int (0 : Int32)), (2, .int (0 : Int32)), (0, .ref a0), (1, .int a1)]) hx hb dX9_treaty_17 rfl hl (by decide) rfl (fun ls hl => ?_)
    obtain ⟨v13, ho, hf⟩ := q_b hf
    have hL : ∀ (n : Nat) (v3 : Int32) (v4 : Int32) (out : Int32), fX9_treaty_L18 F X a0 a1 n v3 v4 = some out → (∀ (v13 : Int32), out = v13 → ∀ (H : Heap) (locs : List Loc) (ls : Array Slot), qR D kz b0 X H → va_S (qA b0) s.heap H locs → H.size = sz → lv_has ls 4 [(2, .int v13)] → W p l e rmX9_treaty s m args below meth c H locs 0 0 Q (F0 m 60 ls [])) → ∀ (H : Heap) (locs : List Loc) (ls : Array Slot), qR D kz b0 X H → va_S (qA b0) s.heap H locs → H.size = sz → lv_has ls 4 [(0, .ref a0), (1, .int a1), (2, .int v3), (3, .int v4)] → W p l e rmX9_treaty s m args below meth c H locs 0 0 Q (F0 m 18 ls []) := by
      intro n9
      induction n9 with
      | zero =>
        intro v3 v4 out hf
        exact absurd (show none = some out from hf) (by simp)
      | succ n9 ih0 =>
        intro v3 v4 out hf hex H locs ls hR hS hz hl
        have hf : fX9_treaty_L18_B F X a0 a1 (fX9_treaty_L18 F X a0 a1 n9) v3 v4 = some out := hf
        unfold fX9_treaty_L18_B at hf
        refine lv_iload_n hx hb dX9_treaty_18 rfl (lv_at hl 3 rfl) ?_
        refine lv_aload_n hx hb dX9_treaty_19 rfl (lv_at hl 0 rfl) ?_
        refine q_gR hx hb hT hown hK hR iqX9 vqX9 3 (by decide) (hT _ wfl_X9_23) hf dX9_treaty_20 (fun v5 hf => ?_)
        refine q_gI hx hb hT hown hK hR iqX0 vqX0 5 (by decide) (hT _ wfl_X9_111) hf dX9_treaty_23 (fun v6 hf => ?_)
        refine lv_icmp_ge (tgt := 60) hx hb dX9_treaty_26 (by decide) (fun hc => ?_) (fun hc => ?_)
        · have hf := q_t hf hc
          exact hex _ (Option.some.inj hf).symm _ _ _ hR hS hz (lv_sub hl [2] rfl)
        · have hf := q_f hf hc
          refine lv_iload_n hx hb dX9_treaty_29 rfl (lv_at hl 1 rfl) ?_
          refine lv_iload_n hx hb dX9_treaty_30 rfl (lv_at hl 3 rfl) ?_
          refine lv_ishr hx hb dX9_treaty_31 ?_
          refine lv_iconst (v := (1 : Int32)) hx hb dX9_treaty_32 (by decide) ?_
          refine lv_iand hx hb dX9_treaty_33 ?_
          refine lv_iconst (v := (1 : Int32)) hx hb dX9_treaty_34 (by decide) ?_
          obtain ⟨v7, hp, hf⟩ := q_b hf
          have hJ : ∀ (H : Heap) (locs : List Loc) (ls : Array Slot), qR D kz b0 X H → va_S (qA b0) s.heap H locs → H.size = sz → lv_has ls 4 [(0, .ref a0), (1, .int a1), (2, .int v7), (3, .int v4)] → W p l e rmX9_treaty s m args below meth c H locs 0 0 Q (F0 m 54 ls []) := by
            intro H locs ls hR hS hz hl
            obtain ⟨v8, ev8⟩ : ∃ y : Int32, y = (v4 + (1 : Int32)) := ⟨_, rfl⟩
            have hf := q_lt ev8 hf
            refine lv_iinc (v := v8) (lv' := [(3, .int v8), (0, .ref a0), (1, .int a1), (2, .int v7)]) hx hb dX9_treaty_54 hl (k := 3) rfl (by rw [ev8]; rfl) (by decide) rfl (fun ls hl => ?_)
            refine lv_goto (tgt := 18) hx hb dX9_treaty_57 (by decide) ?_
            exact ih0 _ _ out hf hex _ _ _ hR hS hz (lv_sub hl [1, 2, 3, 0] rfl)
          have hf := hp
          refine lv_icmp_ne (tgt := 54) hx hb dX9_treaty_35 (by decide) (fun hc => ?_) (fun hc => ?_)
          · have hf := q_f hf hc
            cases hf
            exact hJ _ _ _ hR hS hz (lv_sub hl [0, 1, 2, 3] rfl)
          · have hf := q_t hf hc
            refine lv_iload_n hx hb dX9_treaty_38 rfl (lv_at hl 2 rfl) ?_
            refine lv_aload_n hx hb dX9_treaty_39 rfl (lv_at hl 0 rfl) ?_
            refine q_gR hx hb hT hown hK hR iqX9 vqX9 7 (by decide) (hT _ wfl_X9_43) hf dX9_treaty_40 (fun v9 hf => ?_)
            refine lv_aload_n hx hb dX9_treaty_43 rfl (lv_at hl 0 rfl) ?_
            refine q_gR hx hb hT hown hK hR iqX9 vqX9 3 (by decide) (hT _ wfl_X9_23) hf dX9_treaty_44 (fun v10 hf => ?_)
            refine lv_iload_n hx hb dX9_treaty_47 rfl (lv_at hl 3 rfl) ?_
            refine lv_iload_n hx hb dX9_treaty_48 rfl (lv_at hl 1 rfl) ?_
            obtain ⟨v11, hc, hf⟩ := q_b hf
            refine q_calli (va_runV (As := [.ref v10, .int v4, .int a1]) (rest := [.int v3]) ⟨hx, hb, hml, hown, hT⟩ (mX3_lackOfPowder l D kz b0 sz F X v9 v10 v4 a1 v11 hc) (cwV 3 hT (q_gV wco_X3_lackOfPowder wml_X9_237 wim_X3_lackOfPowder wse_X3_lackOfPowder win_X3) rfl rfl rfl hdX3_lackOfPowder ⟨Nat.le_of_ble_eq_true rfl, Nat.le_of_ble_eq_true rfl⟩) (q_preV vqX3 (fX3_lackOfPowder_is hc) hR hK hz) rfl rfl hl.1 rfl (lv_room (Nat.le_of_ble_eq_true rfl)) dX9_treaty_49 ⟨Nat.le_of_ble_eq_true rfl, Nat.le_of_ble_eq_true rfl⟩) hS (fun H locs hR hS hz => ?_)
            refine lv_iadd hx hb dX9_treaty_52 ?_
            refine lv_topi (fun v12 ev12 => ?_)
            have hf := q_lt ev12 hf
            refine lv_istore_n (lv' := [(2, .int v12), (0, .ref a0), (1, .int a1), (3, .int v4)]) hx hb dX9_treaty_53 rfl hl (by decide) rfl (fun ls hl => ?_)
            cases hf
            exact hJ _ _ _ hR hS hz (lv_sub hl [1, 2, 0, 3] rfl)
    refine hL F _ _ _ ho (fun z0 h9 => ?_) _ _ _ hR hS hz (lv_sub hl [2, 3, 1, 0] rfl)
    cases h9
    intro H locs ls hR hS hz hl
    refine lv_iload_n hx hb dX9_treaty_60 rfl (lv_at hl 0 rfl) ?_
    subst hQ
    exact q_iret hx hb hr hlocks hR hS hz (Option.some.inj hf) rfl dX9_treaty_61
  · have hf := q_t hf hc
    refine lv_ldc (v := (-1000000001 : Int32)) hx hb hown (hT _ wk_X9_148) dX9_treaty_11 ?_
    subst hQ
    exact q_iret hx hb hr hlocks hR hS hz (Option.some.inj hf) rfl dX9_treaty_13
/-! X9_cutOdds -/
def fX9_cutOdds_L6_B (F : Nat) (X : qH) (a1 : Int32) (a2 : Int32) (self0 : Int64 → Int32 → Option (Int64)) (v2 : Int64) (v3 : Int32) : Option (Int64) :=
if a2 ≤ v3 then (some v2)
else (qlt ((v2 * ((a1).toInt64)) / (100 : Int64)) fun v4 =>
qlt (v3 + (1 : Int32)) fun v5 =>
self0 v4 v5)
def fX9_cutOdds_L6 (F : Nat) (X : qH) (a1 : Int32) (a2 : Int32) : Nat → Int64 → Int32 → Option (Int64)
  | 0, _, _ => none
  | n + 1, v2, v3 => fX9_cutOdds_L6_B F X a1 a2 (fX9_cutOdds_L6 F X a1 a2 n) v2 v3
def fX9_cutOdds (F : Nat) (X : qH) (a0 : Int32) (a1 : Int32) (a2 : Int32) : Option (Int32) :=
qlt ((a0).toInt64) fun v1 =>
(fX9_cutOdds_L6 F X a1 a2 F v1 (0 : Int32)).bind fun v6 =>
some ((v6).toInt32)
abbrev rmX9_cutOdds : Room := { frames := 0, cells := 0, slots := 0, locals := 0 }
theorem hdX9_cutOdds : yX9_cutOdds.cls ≠ "java/lang/invoke/MethodHandle" ∧ yX9_cutOdds.cls ≠ "java/lang/invoke/VarHandle" ∧ (parseMethodDescriptor yX9_cutOdds.desc).map (fun d => d.parameters.length) = some 3 := by decide +kernel
set_option maxHeartbeats 4000000 in
set_option maxRecDepth 100000 in
theorem mX9_cutOdds (l : Launch) (D : va_G) (kz : Nat → Nat) (b0 sz F : Nat) (X : qH) (a0 : Int32) (a1 : Int32) (a2 : Int32) (r : Int32) (hf : fX9_cutOdds F X a0 a1 a2 = some r) : Met l yX9_cutOdds (qws yX9_cutOdds cX9_cutOdds 6 (some .int)) rmX9_cutOdds (va_Pc [.int a0, .int a1, .int a2] (qU D kz b0 sz X)) (va_Qi (fun (r' : Int32) (u : qH) => r' = r ∧ u = X) (fun u t => qO D kz b0 sz u t) (qA b0)) 0 0 (qA b0) := by
  refine q_start (by decide) (Nat.le_of_ble_eq_true rfl) ?_
  intro p e s m args below meth c hx hb hr hlocks hnm hml hown hT hR hK hz ls hl
  have hown : s.vm.findClass RX9 = some m.cls := hown
  have hl : lv_has ls 6 [(0, .int a0), (1, .int a1), (2, .int a2)] := hl
  have hS : va_S (qA b0) s.heap s.heap [] := va_S.rf
  obtain ⟨Q, hQ⟩ : ∃ Q, Q = MQ below (va_Qi (fun (r' : Int32) (u : qH) => r' = r ∧ u = X) (fun u t => qO D kz b0 sz u t) (qA b0)) args s 0 0 (qA b0) := ⟨_, rfl⟩
  rw [← hQ]
  unfold fX9_cutOdds at hf
  refine lv_iload_n hx hb dX9_cutOdds_0 rfl (lv_at hl 0 rfl) ?_
  refine lv_i2l hx hb dX9_cutOdds_1 rfl ?_
  refine lv_topl (fun v1 ev1 => ?_)
  have hf := q_lt ev1 hf
  refine lv_lstore_n (lv' := [(3, .long v1), (0, .int a0), (1, .int a1), (2, .int a2)]) hx hb dX9_cutOdds_2 rfl hl (by decide) rfl (fun ls hl => ?_)
  refine lv_iconst (v := (0 : Int32)) hx hb dX9_cutOdds_3 (by decide) ?_
  refine lv_istore (lv' := [(5, .int (0 : Int32)), (3, .long v1), (0, .int a0), (1, .int a1), (2, .int a2)]) hx hb dX9_cutOdds_4 hl (by decide) rfl (fun ls hl => ?_)
  obtain ⟨v6, ho, hf⟩ := q_b hf
  have hL : ∀ (n : Nat) (v2 : Int64) (v3 : Int32) (out : Int64), fX9_cutOdds_L6 F X a1 a2 n v2 v3 = some out → (∀ (v6 : Int64), out = v6 → ∀ (H : Heap) (locs : List Loc) (ls : Array Slot), qR D kz b0 X H → va_S (qA b0) s.heap H locs → H.size = sz → lv_has ls 6 [(3, .long v6)] → W p l e rmX9_cutOdds s m args below meth c H locs 0 0 Q (F0 m 27 ls [])) → ∀ (H : Heap) (locs : List Loc) (ls : Array Slot), qR D kz b0 X H → va_S (qA b0) s.heap H locs → H.size = sz → lv_has ls 6 [(1, .int a1), (2, .int a2), (3, .long v2), (5, .int v3)] → W p l e rmX9_cutOdds s m args below meth c H locs 0 0 Q (F0 m 6 ls []) := by
    intro n9
    induction n9 with
    | zero =>
      intro v2 v3 out hf
      exact absurd (show none = some out from hf) (by simp)
    | succ n9 ih0 =>
      intro v2 v3 out hf hex H locs ls hR hS hz hl
      have hf : fX9_cutOdds_L6_B F X a1 a2 (fX9_cutOdds_L6 F X a1 a2 n9) v2 v3 = some out := hf
      unfold fX9_cutOdds_L6_B at hf
      refine lv_iload hx hb dX9_cutOdds_6 (lv_at hl 3 rfl) ?_
      refine lv_iload_n hx hb dX9_cutOdds_8 rfl (lv_at hl 1 rfl) ?_
      refine lv_icmp_ge (tgt := 27) hx hb dX9_cutOdds_9 (by decide) (fun hc => ?_) (fun hc => ?_)
      · have hf := q_t hf hc
        exact hex _ (Option.some.inj hf).symm _ _ _ hR hS hz (lv_sub hl [2] rfl)
      · have hf := q_f hf hc
        refine lv_lload_n hx hb dX9_cutOdds_12 rfl (lv_at hl 2 rfl) ?_
        refine lv_iload_n hx hb dX9_cutOdds_13 rfl (lv_at hl 0 rfl) ?_
        refine lv_i2l hx hb dX9_cutOdds_14 rfl ?_
        refine lv_lmul hx hb dX9_cutOdds_15 ?_
        refine lv_ldc2 (v := (100 : Int64)) hx hb hown (hT _ wkl_X9_298) dX9_cutOdds_16 ?_
        refine lv_ldiv hx hb dX9_cutOdds_19 (by decide) ?_
        refine lv_topl (fun v4 ev4 => ?_)
        have hf := q_lt ev4 hf
        refine lv_lstore_n (lv' := [(3, .long v4), (1, .int a1), (2, .int a2), (5, .int v3)]) hx hb dX9_cutOdds_20 rfl hl (by decide) rfl (fun ls hl => ?_)
        obtain ⟨v5, ev5⟩ : ∃ y : Int32, y = (v3 + (1 : Int32)) := ⟨_, rfl⟩
        have hf := q_lt ev5 hf
        refine lv_iinc (v := v5) (lv' := [(5, .int v5), (3, .long v4), (1, .int a1), (2, .int a2)]) hx hb dX9_cutOdds_21 hl (k := 3) rfl (by rw [ev5]; rfl) (by decide) rfl (fun ls hl => ?_)
        refine lv_goto (tgt := 6) hx hb dX9_cutOdds_24 (by decide) ?_
        exact ih0 _ _ out hf hex _ _ _ hR hS hz (lv_sub hl [2, 3, 1, 0] rfl)
  refine hL F _ _ _ ho (fun z0 h9 => ?_) _ _ _ hR hS hz (lv_sub hl [3, 4, 1, 0] rfl)
  cases h9
  intro H locs ls hR hS hz hl
  refine lv_lload_n hx hb dX9_cutOdds_27 rfl (lv_at hl 0 rfl) ?_
  refine lv_l2i hx hb dX9_cutOdds_28 rfl ?_
  subst hQ
  exact q_iret hx hb hr hlocks hR hS hz (Option.some.inj hf) rfl dX9_cutOdds_29
/-! X9_forged -/
def fX9_forged (F : Nat) (X : qH) (a0 : Nat) (a1 : Int32) (a2 : Int32) (a3 : Int32) : Option (Int32) :=
qIs 8 X a0 <|
(qgR X 8 a0 3).bind fun v1 =>
(fX0_has F X v1 a1).bind fun v2 =>
if v2 = (0 : Int32) then (some (-1000000001 : Int32))
else ((fX8_areStars F X a2).bind fun v3 =>
if v3 = (0 : Int32) then (some (-1000000002 : Int32))
else (if a3 < (0 : Int32) then (some (-1000000002 : Int32))
else (if a3 ≤ (1 : Int32) then ((qgR X 8 a0 3).bind fun v4 =>
(qgR X 0 v4 9).bind fun v5 =>
(qaI X 0 v5 a1).bind fun v6 =>
(fX8_unlike F X v6 a2).bind fun v7 =>
if a3 = (0 : Int32) then (some v7)
else ((qgR X 8 a0 3).bind fun v8 =>
(qgR X 0 v8 9).bind fun v9 =>
(qaI X 0 v9 a1).bind fun v10 =>
(fX8_count F X v10).bind fun v11 =>
(fX8_count F X a2).bind fun v12 =>
qlt (if v11 < v12 then v12 else v11) fun v13 =>
(fX9_cutOdds F X (1000000000 : Int32) (90 : Int32) (v13 - v7)).bind fun v14 =>
(fX9_cutOdds F X v14 (10 : Int32) v7).bind fun v15 =>
some v15))
else (some (-1000000002 : Int32)))))
abbrev rmX9_forged : Room := { frames := 2, cells := 0, slots := 0, locals := 47 }
theorem fX9_forged_is {F : Nat} {X : qH} {a0 : Nat} {a1 : Int32} {a2 : Int32} {a3 : Int32} {r9 : Int32} (h : fX9_forged F X a0 a1 a2 a3 = some r9) : ∃ fs, X a0 = some (.inr (8, fs)) := (qIs_spec h).1
theorem hdX9_forged : yX9_forged.cls = RX9 ∧ yX9_forged.cls ≠ "java/lang/invoke/MethodHandle" ∧ yX9_forged.cls ≠ "java/lang/invoke/VarHandle" ∧ (parseMethodDescriptor yX9_forged.desc).map (fun d => d.parameters.length) = some 3 := by decide +kernel
set_option maxHeartbeats 4000000 in
set_option maxRecDepth 100000 in
theorem mX9_forged (l : Launch) (D : va_G) (kz : Nat → Nat) (b0 sz F : Nat) (X : qH) (a0 : Nat) (a1 : Int32) (a2 : Int32) (a3 : Int32) (r : Int32) (hf : fX9_forged F X a0 a1 a2 a3 = some r) : Met l yX9_forged (qws yX9_forged cX9_forged 6 (some .int)) rmX9_forged (va_Pc [.ref a0, .int a1, .int a2, .int a3] (qU D kz b0 sz X)) (va_Qi (fun (r' : Int32) (u : qH) => r' = r ∧ u = X) (fun u t => qO D kz b0 sz u t) (qA b0)) 0 0 (qA b0) := by
  refine q_start (by decide) (Nat.le_of_ble_eq_true rfl) ?_
  intro p e s m args below meth c hx hb hr hlocks hnm hml hown hT hR hK hz ls hl
  have hown : s.vm.findClass RX9 = some m.cls := hown
  have hl : lv_has ls 6 [(0, .ref a0), (1, .int a1), (2, .int a2), (3, .int a3)] := hl
  have hS : va_S (qA b0) s.heap s.heap [] := va_S.rf
  obtain ⟨Q, hQ⟩ : ∃ Q, Q = MQ below (va_Qi (fun (r' : Int32) (u : qH) => r' = r ∧ u = X) (fun u t => qO D kz b0 sz u t) (qA b0)) args s 0 0 (qA b0) := ⟨_, rfl⟩
  rw [← hQ]
  unfold fX9_forged at hf
  obtain ⟨hthis, hf⟩ := qIs_spec hf
  refine lv_aload_n hx hb dX9_forged_0 rfl (lv_at hl 0 rfl) ?_
  refine q_gR hx hb hT hown hK hR iqX9 vqX9 3 (by decide) (hT _ wfl_X9_23) hf dX9_forged_1 (fun v1 hf => ?_)
  refine lv_iload_n hx hb dX9_forged_4 rfl (lv_at hl 1 rfl) ?_
  obtain ⟨v2, hc, hf⟩ := q_b hf
  refine q_calli (va_runV (As := [.int a1]) (rest := []) ⟨hx, hb, hml, hown, hT⟩ (mX0_has l D kz b0 sz F X v1 a1 v2 hc) (cwV 1 hT (q_gV wco_X0_has wml_X9_144 wim_X0_has wse_X0_has win_X0) rfl rfl rfl hdX0_has ⟨Nat.le_of_ble_eq_true rfl, Nat.le_of_ble_eq_true rfl⟩) (q_preV vqX0 (fX0_has_is hc) hR hK hz) rfl rfl hl.1 rfl (lv_room (Nat.le_of_ble_eq_true rfl)) dX9_forged_5 ⟨Nat.le_of_ble_eq_true rfl, Nat.le_of_ble_eq_true rfl⟩) hS (fun H locs hR hS hz => ?_)
  refine lv_if_ne (tgt := 14) hx hb dX9_forged_8 (by decide) (fun hc => ?_) (fun hc => ?_)
  · have hf := q_f hf hc
    refine lv_iload_n hx hb dX9_forged_14 rfl (lv_at hl 2 rfl) ?_
    obtain ⟨v3, hc, hf⟩ := q_b hf
    refine q_calli (va_runS (As := [.int a2]) (rest := []) ⟨hx, hb, hml, hown, hT⟩ (mX8_areStars l D kz b0 sz F X a2 v3 hc) (va_cwS 1 hT (q_gS wco_X8_areStars wml_X9_241 wst_X8_areStars win_X8) rfl rfl rfl hdX8_areStars ⟨Nat.le_of_ble_eq_true rfl, Nat.le_of_ble_eq_true rfl⟩) (q_preS hR hK hz) rfl rfl hl.1 rfl (lv_room (Nat.le_of_ble_eq_true rfl)) dX9_forged_15 ⟨Nat.le_of_ble_eq_true rfl, Nat.le_of_ble_eq_true rfl⟩) hS (fun H locs hR hS hz => ?_)
    refine lv_if_eq (tgt := 30) hx hb dX9_forged_18 (by decide) (fun hc => ?_) (fun hc => ?_)
    · have hf := q_t hf hc
      refine lv_ldc (v := (-1000000002 : Int32)) hx hb hown (hT _ wk_X9_97) dX9_forged_30 ?_
      subst hQ
      exact q_iret hx hb hr hlocks hR hS hz (Option.some.inj hf) rfl dX9_forged_32
    · have hf := q_f hf hc
      refine lv_iload_n hx hb dX9_forged_21 rfl (lv_at hl 3 rfl) ?_
      refine lv_if_lt (tgt := 30) hx hb dX9_forged_22 (by decide) (fun hc => ?_) (fun hc => ?_)
      · have hf := q_t hf hc
        refine lv_ldc (v := (-1000000002 : Int32)) hx hb hown (hT _ wk_X9_97) dX9_forged_30 ?_
        subst hQ
        exact q_iret hx hb hr hlocks hR hS hz (Option.some.inj hf) rfl dX9_forged_32
      · have hf := q_f hf hc
        refine lv_iload_n hx hb dX9_forged_25 rfl (lv_at hl 3 rfl) ?_
        refine lv_iconst (v := (1 : Int32)) hx hb dX9_forged_26 (by decide) ?_
        refine lv_icmp_le (tgt := 33) hx hb dX9_forged_27 (by decide) (fun hc => ?_) (fun hc => ?_)
        · have hf := q_t hf hc
          refine lv_aload_n hx hb dX9_forged_33 rfl (lv_at hl 0 rfl) ?_
          refine q_gR hx hb hT hown hK hR iqX9 vqX9 3 (by decide) (hT _ wfl_X9_23) hf dX9_forged_34 (fun v4 hf => ?_)
          refine q_gR hx hb hT hown hK hR iqX0 vqX0 9 (by decide) (hT _ wfl_X9_158) hf dX9_forged_37 (fun v5 hf => ?_)
          refine lv_iload_n hx hb dX9_forged_40 rfl (lv_at hl 1 rfl) ?_
          refine q_iald hx hb hK hR hf dX9_forged_41 (fun v6 hf => ?_)
          refine lv_iload_n hx hb dX9_forged_42 rfl (lv_at hl 2 rfl) ?_
          obtain ⟨v7, hc, hf⟩ := q_b hf
          refine q_calli (va_runS (As := [.int v6, .int a2]) (rest := []) ⟨hx, hb, hml, hown, hT⟩ (mX8_unlike l D kz b0 sz F X v6 a2 v7 hc) (va_cwS 2 hT (q_gS wco_X8_unlike wml_X9_244 wst_X8_unlike win_X8) rfl rfl rfl hdX8_unlike ⟨Nat.le_of_ble_eq_true rfl, Nat.le_of_ble_eq_true rfl⟩) (q_preS hR hK hz) rfl rfl hl.1 rfl (lv_room (Nat.le_of_ble_eq_true rfl)) dX9_forged_43 ⟨Nat.le_of_ble_eq_true rfl, Nat.le_of_ble_eq_true rfl⟩) hS (fun H locs hR hS hz => ?_)
          refine lv_istore (lv' := [(4, .int v7), (0, .ref a0), (1, .int a1), (2, .int a2), (3, .int a3)]) hx hb dX9_forged_46 hl (by decide) rfl (fun ls hl => ?_)
          refine lv_iload_n hx hb dX9_forged_48 rfl (lv_at hl 4 rfl) ?_
          refine lv_if_ne (tgt := 55) hx hb dX9_forged_49 (by decide) (fun hc => ?_) (fun hc => ?_)
          · have hf := q_f hf hc
            refine lv_aload_n hx hb dX9_forged_55 rfl (lv_at hl 1 rfl) ?_
            refine q_gR hx hb hT hown hK hR iqX9 vqX9 3 (by decide) (hT _ wfl_X9_23) hf dX9_forged_56 (fun v8 hf => ?_)
            refine q_gR hx hb hT hown hK hR iqX0 vqX0 9 (by decide) (hT _ wfl_X9_158) hf dX9_forged_59 (fun v9 hf => ?_)
            refine lv_iload_n hx hb dX9_forged_62 rfl (lv_at hl 2 rfl) ?_
            refine q_iald hx hb hK hR hf dX9_forged_63 (fun v10 hf => ?_)
            obtain ⟨v11, hc, hf⟩ := q_b hf
            refine q_calli (va_runS (As := [.int v10]) (rest := []) ⟨hx, hb, hml, hown, hT⟩ (mX8_count l D kz b0 sz F X v10 v11 hc) (va_cwS 1 hT (q_gS wco_X8_count wml_X9_161 wst_X8_count win_X8) rfl rfl rfl hdX8_count ⟨Nat.le_of_ble_eq_true rfl, Nat.le_of_ble_eq_true rfl⟩) (q_preS hR hK hz) rfl rfl hl.1 rfl (lv_room (Nat.le_of_ble_eq_true rfl)) dX9_forged_64 ⟨Nat.le_of_ble_eq_true rfl, Nat.le_of_ble_eq_true rfl⟩) hS (fun H locs hR hS hz => ?_)
            refine lv_iload_n hx hb dX9_forged_67 rfl (lv_at hl 3 rfl) ?_
            obtain ⟨v12, hc, hf⟩ := q_b hf
            refine q_calli (va_runS (As := [.int a2]) (rest := [.int v11]) ⟨hx, hb, hml, hown, hT⟩ (mX8_count l D kz b0 sz F X a2 v12 hc) (va_cwS 1 hT (q_gS wco_X8_count wml_X9_161 wst_X8_count win_X8) rfl rfl rfl hdX8_count ⟨Nat.le_of_ble_eq_true rfl, Nat.le_of_ble_eq_true rfl⟩) (q_preS hR hK hz) rfl rfl hl.1 rfl (lv_room (Nat.le_of_ble_eq_true rfl)) dX9_forged_68 ⟨Nat.le_of_ble_eq_true rfl, Nat.le_of_ble_eq_true rfl⟩) hS (fun H locs hR hS hz => ?_)
            refine va_mmax hx hb (hml.trans hl.1.symm) hown (hT _ wml_X9_247) (hT _ wst_Mmax) (hT _ win_Math) (hT _ wco_Mmax) (Nat.le_of_ble_eq_true rfl) (Nat.le_of_ble_eq_true rfl) (Nat.le_of_ble_eq_true rfl) (Nat.le_of_ble_eq_true rfl) dX9_forged_71 ?_
            refine lv_topi (fun v13 ev13 => ?_)
            have hf := q_lt ev13 hf
            refine lv_istore (lv' := [(5, .int v13), (4, .int v7), (0, .ref a0), (1, .int a1), (2, .int a2), (3, .int a3)]) hx hb dX9_forged_74 hl (by decide) rfl (fun ls hl => ?_)
            refine lv_ldc (v := (1000000000 : Int32)) hx hb hown (hT _ wk_X9_250) dX9_forged_76 ?_
            refine lv_bipush (v := (90 : Int32)) hx hb dX9_forged_78 (by decide) ?_
            refine lv_iload hx hb dX9_forged_80 (lv_at hl 0 rfl) ?_
            refine lv_iload hx hb dX9_forged_82 (lv_at hl 1 rfl) ?_
            refine lv_isub hx hb dX9_forged_84 ?_
            obtain ⟨v14, hc, hf⟩ := q_b hf
            refine q_calli (va_runS (As := [.int (1000000000 : Int32), .int (90 : Int32), .int (v13 - v7)]) (rest := []) ⟨hx, hb, hml, hown, hT⟩ (mX9_cutOdds l D kz b0 sz F X (1000000000 : Int32) (90 : Int32) (v13 - v7) v14 hc) (va_cwS 3 hT (q_gS wco_X9_cutOdds wml_X9_251 wst_X9_cutOdds win_X9) rfl rfl rfl hdX9_cutOdds ⟨Nat.le_of_ble_eq_true rfl, Nat.le_of_ble_eq_true rfl⟩) (q_preS hR hK hz) rfl rfl hl.1 rfl (lv_room (Nat.le_of_ble_eq_true rfl)) dX9_forged_85 ⟨Nat.le_of_ble_eq_true rfl, Nat.le_of_ble_eq_true rfl⟩) hS (fun H locs hR hS hz => ?_)
            refine lv_bipush (v := (10 : Int32)) hx hb dX9_forged_88 (by decide) ?_
            refine lv_iload hx hb dX9_forged_90 (lv_at hl 1 rfl) ?_
            obtain ⟨v15, hc, hf⟩ := q_b hf
            refine q_calli (va_runS (As := [.int v14, .int (10 : Int32), .int v7]) (rest := []) ⟨hx, hb, hml, hown, hT⟩ (mX9_cutOdds l D kz b0 sz F X v14 (10 : Int32) v7 v15 hc) (va_cwS 3 hT (q_gS wco_X9_cutOdds wml_X9_251 wst_X9_cutOdds win_X9) rfl rfl rfl hdX9_cutOdds ⟨Nat.le_of_ble_eq_true rfl, Nat.le_of_ble_eq_true rfl⟩) (q_preS hR hK hz) rfl rfl hl.1 rfl (lv_room (Nat.le_of_ble_eq_true rfl)) dX9_forged_92 ⟨Nat.le_of_ble_eq_true rfl, Nat.le_of_ble_eq_true rfl⟩) hS (fun H locs hR hS hz => ?_)
            subst hQ
            exact q_iret hx hb hr hlocks hR hS hz (Option.some.inj hf) rfl dX9_forged_95
          · have hf := q_t hf hc
            refine lv_iload hx hb dX9_forged_52 (lv_at hl 0 rfl) ?_
            subst hQ
            exact q_iret hx hb hr hlocks hR hS hz (Option.some.inj hf) rfl dX9_forged_54
        · have hf := q_f hf hc
          refine lv_ldc (v := (-1000000002 : Int32)) hx hb hown (hT _ wk_X9_97) dX9_forged_30 ?_
          subst hQ
          exact q_iret hx hb hr hlocks hR hS hz (Option.some.inj hf) rfl dX9_forged_32
  · have hf := q_t hf hc
    refine lv_ldc (v := (-1000000001 : Int32)) hx hb hown (hT _ wk_X9_148) dX9_forged_11 ?_
    subst hQ
    exact q_iret hx hb hr hlocks hR hS hz (Option.some.inj hf) rfl dX9_forged_13
/-! X9_damp -/
def fX9_damp_L19_B (F : Nat) (X : qH) (a0 : Nat) (a1 : Int32) (self0 : Int32 → Int32 → Option (Int32)) (v3 : Int32) (v4 : Int32) : Option (Int32) :=
(qgR X 8 a0 3).bind fun v5 =>
(qgI X 0 v5 5).bind fun v6 =>
if v6 ≤ v4 then (some v3)
else ((if ((a1 >>> (v4 &&& 31)) &&& (1 : Int32)) = (1 : Int32) then ((qgR X 8 a0 3).bind fun v9 =>
(qgI X 0 v9 4).bind fun v10 =>
(qgR X 8 a0 3).bind fun v11 =>
(qgR X 0 v11 9).bind fun v12 =>
(qaI X 0 v12 v4).bind fun v13 =>
(fX8_greens F X v13).bind fun v14 =>
(fX9_cutOdds F X v3 ((100 : Int32) - v10) v14).bind fun v15 =>
some v15)
else (some v3) : Option Int32).bind fun v7 =>
qlt (v4 + (1 : Int32)) fun v8 =>
self0 v7 v8)
def fX9_damp_L19 (F : Nat) (X : qH) (a0 : Nat) (a1 : Int32) : Nat → Int32 → Int32 → Option (Int32)
  | 0, _, _ => none
  | n + 1, v3, v4 => fX9_damp_L19_B F X a0 a1 (fX9_damp_L19 F X a0 a1 n) v3 v4
def fX9_damp (F : Nat) (X : qH) (a0 : Nat) (a1 : Int32) : Option (Int32) :=
qIs 8 X a0 <|
(qgR X 8 a0 3).bind fun v1 =>
(fX0_hasAll F X v1 a1).bind fun v2 =>
if v2 = (0 : Int32) then (some (-1000000001 : Int32))
else ((fX9_damp_L19 F X a0 a1 F (1000000000 : Int32) (0 : Int32)).bind fun v16 =>
some v16)
abbrev rmX9_damp : Room := { frames := 1, cells := 0, slots := 0, locals := 25 }
theorem fX9_damp_is {F : Nat} {X : qH} {a0 : Nat} {a1 : Int32} {r9 : Int32} (h : fX9_damp F X a0 a1 = some r9) : ∃ fs, X a0 = some (.inr (8, fs)) := (qIs_spec h).1
theorem hdX9_damp : yX9_damp.cls = RX9 ∧ yX9_damp.cls ≠ "java/lang/invoke/MethodHandle" ∧ yX9_damp.cls ≠ "java/lang/invoke/VarHandle" ∧ (parseMethodDescriptor yX9_damp.desc).map (fun d => d.parameters.length) = some 1 := by decide +kernel
set_option maxHeartbeats 4000000 in
set_option maxRecDepth 100000 in
theorem mX9_damp (l : Launch) (D : va_G) (kz : Nat → Nat) (b0 sz F : Nat) (X : qH) (a0 : Nat) (a1 : Int32) (r : Int32) (hf : fX9_damp F X a0 a1 = some r) : Met l yX9_damp (qws yX9_damp cX9_damp 4 (some .int)) rmX9_damp (va_Pc [.ref a0, .int a1] (qU D kz b0 sz X)) (va_Qi (fun (r' : Int32) (u : qH) => r' = r ∧ u = X) (fun u t => qO D kz b0 sz u t) (qA b0)) 0 0 (qA b0) := by
  refine q_start (by decide) (Nat.le_of_ble_eq_true rfl) ?_
  intro p e s m args below meth c hx hb hr hlocks hnm hml hown hT hR hK hz ls hl
  have hown : s.vm.findClass RX9 = some m.cls := hown
  have hl : lv_has ls 4 [(0, .ref a0), (1, .int a1)] := hl
  have hS : va_S (qA b0) s.heap s.heap [] := va_S.rf
  obtain ⟨Q, hQ⟩ : ∃ Q, Q = MQ below (va_Qi (fun (r' : Int32) (u : qH) => r' = r ∧ u = X) (fun u t => qO D kz b0 sz u t) (qA b0)) args s 0 0 (qA b0) := ⟨_, rfl⟩
  rw [← hQ]
  unfold fX9_damp at hf
  obtain ⟨hthis, hf⟩ := qIs_spec hf
  refine lv_aload_n hx hb dX9_damp_0 rfl (lv_at hl 0 rfl) ?_
  refine q_gR hx hb hT hown hK hR iqX9 vqX9 3 (by decide) (hT _ wfl_X9_23) hf dX9_damp_1 (fun v1 hf => ?_)
  refine lv_iload_n hx hb dX9_damp_4 rfl (lv_at hl 1 rfl) ?_
  obtain ⟨v2, hc, hf⟩ := q_b hf
  refine q_calli (va_runV (As := [.int a1]) (rest := []) ⟨hx, hb, hml, hown, hT⟩ (mX0_hasAll l D kz b0 sz F X v1 a1 v2 hc) (cwV 1 hT (q_gV wco_X0_hasAll wml_X9_209 wim_X0_hasAll wse_X0_hasAll win_X0) rfl rfl rfl hdX0_hasAll ⟨Nat.le_of_ble_eq_true rfl, Nat.le_of_ble_eq_true rfl⟩) (q_preV vqX0 (fX0_hasAll_is hc) hR hK hz) rfl rfl hl.1 rfl (lv_room (Nat.le_of_ble_eq_true rfl)) dX9_damp_5 ⟨Nat.le_of_ble_eq_true rfl, Nat.le_of_ble_eq_true rfl⟩) hS (fun H locs hR hS hz => ?_)
  refine lv_if_ne (tgt := 14) hx hb dX9_damp_8 (by decide) (fun hc => ?_) (fun hc => ?_)
  · have hf := q_f hf hc
    refine lv_ldc (v := (1000000000 : Int32)) hx hb hown (hT _ wk_X9_250) dX9_damp_14 ?_
    refine lv_istore_n (lv' := [(2, .int (1000000000 : Int32)), (0, .ref a0), (1, .int a1)]) hx hb dX9_damp_16 rfl hl (by decide) rfl (fun ls hl => ?_)
    refine lv_iconst (v := (0 : Int32)) hx hb dX9_damp_17 (by decide) ?_
    refine lv_istore_n (lv' := [(3, .int (0 : Int32)), (2, .int (1000000000 : Int32)), (0, .ref a0), (1, .int a1)]) hx hb dX9_damp_18 rfl hl (by decide) rfl (fun ls hl => ?_)
    obtain ⟨v16, ho, hf⟩ := q_b hf
    have hL : ∀ (n : Nat) (v3 : Int32) (v4 : Int32) (out : Int32), fX9_damp_L19 F X a0 a1 n v3 v4 = some out → (∀ (v16 : Int32), out = v16 → ∀ (H : Heap) (locs : List Loc) (ls : Array Slot), qR D kz b0 X H → va_S (qA b0) s.heap H locs → H.size = sz → lv_has ls 4 [(2, .int v16)] → W p l e rmX9_damp s m args below meth c H locs 0 0 Q (F0 m 72 ls [])) → ∀ (H : Heap) (locs : List Loc) (ls : Array Slot), qR D kz b0 X H → va_S (qA b0) s.heap H locs → H.size = sz → lv_has ls 4 [(0, .ref a0), (1, .int a1), (2, .int v3), (3, .int v4)] → W p l e rmX9_damp s m args below meth c H locs 0 0 Q (F0 m 19 ls []) := by
      intro n9
      induction n9 with
      | zero =>
        intro v3 v4 out hf
        exact absurd (show none = some out from hf) (by simp)
      | succ n9 ih0 =>
        intro v3 v4 out hf hex H locs ls hR hS hz hl
        have hf : fX9_damp_L19_B F X a0 a1 (fX9_damp_L19 F X a0 a1 n9) v3 v4 = some out := hf
        unfold fX9_damp_L19_B at hf
        refine lv_iload_n hx hb dX9_damp_19 rfl (lv_at hl 3 rfl) ?_
        refine lv_aload_n hx hb dX9_damp_20 rfl (lv_at hl 0 rfl) ?_
        refine q_gR hx hb hT hown hK hR iqX9 vqX9 3 (by decide) (hT _ wfl_X9_23) hf dX9_damp_21 (fun v5 hf => ?_)
        refine q_gI hx hb hT hown hK hR iqX0 vqX0 5 (by decide) (hT _ wfl_X9_111) hf dX9_damp_24 (fun v6 hf => ?_)
        refine lv_icmp_ge (tgt := 72) hx hb dX9_damp_27 (by decide) (fun hc => ?_) (fun hc => ?_)
        · have hf := q_t hf hc
          exact hex _ (Option.some.inj hf).symm _ _ _ hR hS hz (lv_sub hl [2] rfl)
        · have hf := q_f hf hc
          refine lv_iload_n hx hb dX9_damp_30 rfl (lv_at hl 1 rfl) ?_
          refine lv_iload_n hx hb dX9_damp_31 rfl (lv_at hl 3 rfl) ?_
          refine lv_ishr hx hb dX9_damp_32 ?_
          refine lv_iconst (v := (1 : Int32)) hx hb dX9_damp_33 (by decide) ?_
          refine lv_iand hx hb dX9_damp_34 ?_
          refine lv_iconst (v := (1 : Int32)) hx hb dX9_damp_35 (by decide) ?_
          obtain ⟨v7, hp, hf⟩ := q_b hf
          have hJ : ∀ (H : Heap) (locs : List Loc) (ls : Array Slot), qR D kz b0 X H → va_S (qA b0) s.heap H locs → H.size = sz → lv_has ls 4 [(0, .ref a0), (1, .int a1), (2, .int v7), (3, .int v4)] → W p l e rmX9_damp s m args below meth c H locs 0 0 Q (F0 m 66 ls []) := by
            intro H locs ls hR hS hz hl
            obtain ⟨v8, ev8⟩ : ∃ y : Int32, y = (v4 + (1 : Int32)) := ⟨_, rfl⟩
            have hf := q_lt ev8 hf
            refine lv_iinc (v := v8) (lv' := [(3, .int v8), (0, .ref a0), (1, .int a1), (2, .int v7)]) hx hb dX9_damp_66 hl (k := 3) rfl (by rw [ev8]; rfl) (by decide) rfl (fun ls hl => ?_)
            refine lv_goto (tgt := 19) hx hb dX9_damp_69 (by decide) ?_
            exact ih0 _ _ out hf hex _ _ _ hR hS hz (lv_sub hl [1, 2, 3, 0] rfl)
          have hf := hp
          refine lv_icmp_ne (tgt := 66) hx hb dX9_damp_36 (by decide) (fun hc => ?_) (fun hc => ?_)
          · have hf := q_f hf hc
            cases hf
            exact hJ _ _ _ hR hS hz (lv_sub hl [0, 1, 2, 3] rfl)
          · have hf := q_t hf hc
            refine lv_iload_n hx hb dX9_damp_39 rfl (lv_at hl 2 rfl) ?_
            refine lv_bipush (v := (100 : Int32)) hx hb dX9_damp_40 (by decide) ?_
            refine lv_aload_n hx hb dX9_damp_42 rfl (lv_at hl 0 rfl) ?_
            refine q_gR hx hb hT hown hK hR iqX9 vqX9 3 (by decide) (hT _ wfl_X9_23) hf dX9_damp_43 (fun v9 hf => ?_)
            refine q_gI hx hb hT hown hK hR iqX0 vqX0 4 (by decide) (hT _ wfl_X9_124) hf dX9_damp_46 (fun v10 hf => ?_)
            refine lv_isub hx hb dX9_damp_49 ?_
            refine lv_aload_n hx hb dX9_damp_50 rfl (lv_at hl 0 rfl) ?_
            refine q_gR hx hb hT hown hK hR iqX9 vqX9 3 (by decide) (hT _ wfl_X9_23) hf dX9_damp_51 (fun v11 hf => ?_)
            refine q_gR hx hb hT hown hK hR iqX0 vqX0 9 (by decide) (hT _ wfl_X9_158) hf dX9_damp_54 (fun v12 hf => ?_)
            refine lv_iload_n hx hb dX9_damp_57 rfl (lv_at hl 3 rfl) ?_
            refine q_iald hx hb hK hR hf dX9_damp_58 (fun v13 hf => ?_)
            obtain ⟨v14, hc, hf⟩ := q_b hf
            refine q_calli (va_runS (As := [.int v13]) (rest := [.int ((100 : Int32) - v10), .int v3]) ⟨hx, hb, hml, hown, hT⟩ (mX8_greens l D kz b0 sz F X v13 v14 hc) (va_cwS 1 hT (q_gS wco_X8_greens wml_X9_255 wst_X8_greens win_X8) rfl rfl rfl hdX8_greens ⟨Nat.le_of_ble_eq_true rfl, Nat.le_of_ble_eq_true rfl⟩) (q_preS hR hK hz) rfl rfl hl.1 rfl (lv_room (Nat.le_of_ble_eq_true rfl)) dX9_damp_59 ⟨Nat.le_of_ble_eq_true rfl, Nat.le_of_ble_eq_true rfl⟩) hS (fun H locs hR hS hz => ?_)
            obtain ⟨v15, hc, hf⟩ := q_b hf
            refine q_calli (va_runS (As := [.int v3, .int ((100 : Int32) - v10), .int v14]) (rest := []) ⟨hx, hb, hml, hown, hT⟩ (mX9_cutOdds l D kz b0 sz F X v3 ((100 : Int32) - v10) v14 v15 hc) (va_cwS 3 hT (q_gS wco_X9_cutOdds wml_X9_251 wst_X9_cutOdds win_X9) rfl rfl rfl hdX9_cutOdds ⟨Nat.le_of_ble_eq_true rfl, Nat.le_of_ble_eq_true rfl⟩) (q_preS hR hK hz) rfl rfl hl.1 rfl (lv_room (Nat.le_of_ble_eq_true rfl)) dX9_damp_62 ⟨Nat.le_of_ble_eq_true rfl, Nat.le_of_ble_eq_true rfl⟩) hS (fun H locs hR hS hz => ?_)
            refine lv_istore_n (lv' := [(2, .int v15), (0, .ref a0), (1, .int a1), (3, .int v4)]) hx hb dX9_damp_65 rfl hl (by decide) rfl (fun ls hl => ?_)
            cases hf
            exact hJ _ _ _ hR hS hz (lv_sub hl [1, 2, 0, 3] rfl)
    refine hL F _ _ _ ho (fun z0 h9 => ?_) _ _ _ hR hS hz (lv_sub hl [2, 3, 1, 0] rfl)
    cases h9
    intro H locs ls hR hS hz hl
    refine lv_iload_n hx hb dX9_damp_72 rfl (lv_at hl 0 rfl) ?_
    subst hQ
    exact q_iret hx hb hr hlocks hR hS hz (Option.some.inj hf) rfl dX9_damp_73
  · have hf := q_t hf hc
    refine lv_ldc (v := (-1000000001 : Int32)) hx hb hown (hT _ wk_X9_148) dX9_damp_11 ?_
    subst hQ
    exact q_iret hx hb hr hlocks hR hS hz (Option.some.inj hf) rfl dX9_damp_13
/-! X9_partner -/
def fX9_partner (F : Nat) (X : qH) (a0 : Nat) (a1 : Int32) : Option (Int32 × qH) :=
qIs 8 X a0 <|
(qgR X 8 a0 3).bind fun v1 =>
(fX0_has F X v1 a1).bind fun v2 =>
if v2 = (0 : Int32) then (some ((-1000000001 : Int32), X))
else ((qgR X 8 a0 13).bind fun v3 =>
(qgR X 8 a0 3).bind fun v4 =>
(qgR X 8 a0 7).bind fun v5 =>
(fX4_settle F X v3 v4 v5).bind fun X6 =>
(qgR X6 8 a0 13).bind fun v7 =>
(qgR X6 4 v7 0).bind fun v8 =>
(qaI X6 0 v8 a1).bind fun v9 =>
some (v9, X6))
abbrev rmX9_partner : Room := { frames := 6, cells := 0, slots := 0, locals := 141 }
theorem fX9_partner_is {F : Nat} {X : qH} {a0 : Nat} {a1 : Int32} {r9 : Int32 × qH} (h : fX9_partner F X a0 a1 = some r9) : ∃ fs, X a0 = some (.inr (8, fs)) := (qIs_spec h).1
theorem hdX9_partner : yX9_partner.cls = RX9 ∧ yX9_partner.cls ≠ "java/lang/invoke/MethodHandle" ∧ yX9_partner.cls ≠ "java/lang/invoke/VarHandle" ∧ (parseMethodDescriptor yX9_partner.desc).map (fun d => d.parameters.length) = some 1 := by decide +kernel
set_option maxHeartbeats 4000000 in
set_option maxRecDepth 100000 in
theorem mX9_partner (l : Launch) (D : va_G) (kz : Nat → Nat) (b0 sz F : Nat) (X : qH) (a0 : Nat) (a1 : Int32) (r : Int32) (Xr : qH) (hf : fX9_partner F X a0 a1 = some (r, Xr)) : Met l yX9_partner (qws yX9_partner cX9_partner 2 (some .int)) rmX9_partner (va_Pc [.ref a0, .int a1] (qU D kz b0 sz X)) (va_Qi (fun (r' : Int32) (u : qH) => r' = r ∧ u = Xr) (fun u t => qO D kz b0 sz u t) (qA b0)) 0 0 (qA b0) := by
  refine q_start (by decide) (Nat.le_of_ble_eq_true rfl) ?_
  intro p e s m args below meth c hx hb hr hlocks hnm hml hown hT hR hK hz ls hl
  have hown : s.vm.findClass RX9 = some m.cls := hown
  have hl : lv_has ls 2 [(0, .ref a0), (1, .int a1)] := hl
  have hS : va_S (qA b0) s.heap s.heap [] := va_S.rf
  obtain ⟨Q, hQ⟩ : ∃ Q, Q = MQ below (va_Qi (fun (r' : Int32) (u : qH) => r' = r ∧ u = Xr) (fun u t => qO D kz b0 sz u t) (qA b0)) args s 0 0 (qA b0) := ⟨_, rfl⟩
  rw [← hQ]
  unfold fX9_partner at hf
  obtain ⟨hthis, hf⟩ := qIs_spec hf
  refine lv_aload_n hx hb dX9_partner_0 rfl (lv_at hl 0 rfl) ?_
  refine q_gR hx hb hT hown hK hR iqX9 vqX9 3 (by decide) (hT _ wfl_X9_23) hf dX9_partner_1 (fun v1 hf => ?_)
  refine lv_iload_n hx hb dX9_partner_4 rfl (lv_at hl 1 rfl) ?_
  obtain ⟨v2, hc, hf⟩ := q_b hf
  refine q_calli (va_runV (As := [.int a1]) (rest := []) ⟨hx, hb, hml, hown, hT⟩ (mX0_has l D kz b0 sz F X v1 a1 v2 hc) (cwV 1 hT (q_gV wco_X0_has wml_X9_144 wim_X0_has wse_X0_has win_X0) rfl rfl rfl hdX0_has ⟨Nat.le_of_ble_eq_true rfl, Nat.le_of_ble_eq_true rfl⟩) (q_preV vqX0 (fX0_has_is hc) hR hK hz) rfl rfl hl.1 rfl (lv_room (Nat.le_of_ble_eq_true rfl)) dX9_partner_5 ⟨Nat.le_of_ble_eq_true rfl, Nat.le_of_ble_eq_true rfl⟩) hS (fun H locs hR hS hz => ?_)
  refine lv_if_ne (tgt := 14) hx hb dX9_partner_8 (by decide) (fun hc => ?_) (fun hc => ?_)
  · have hf := q_f hf hc
    refine lv_aload_n hx hb dX9_partner_14 rfl (lv_at hl 0 rfl) ?_
    refine q_gR hx hb hT hown hK hR iqX9 vqX9 13 (by decide) (hT _ wfl_X9_79) hf dX9_partner_15 (fun v3 hf => ?_)
    refine lv_aload_n hx hb dX9_partner_18 rfl (lv_at hl 0 rfl) ?_
    refine q_gR hx hb hT hown hK hR iqX9 vqX9 3 (by decide) (hT _ wfl_X9_23) hf dX9_partner_19 (fun v4 hf => ?_)
    refine lv_aload_n hx hb dX9_partner_22 rfl (lv_at hl 0 rfl) ?_
    refine q_gR hx hb hT hown hK hR iqX9 vqX9 7 (by decide) (hT _ wfl_X9_43) hf dX9_partner_23 (fun v5 hf => ?_)
    obtain ⟨X6, hc, hf⟩ := q_b hf
    refine q_callv (va_runV (As := [.ref v4, .ref v5]) (rest := []) ⟨hx, hb, hml, hown, hT⟩ (mX4_settle l D kz b0 sz F X v3 v4 v5 X6 hc) (cwV 2 hT (q_gV wco_X4_settle wml_X9_258 wim_X4_settle wse_X4_settle win_X4) rfl rfl rfl hdX4_settle ⟨Nat.le_of_ble_eq_true rfl, Nat.le_of_ble_eq_true rfl⟩) (q_preV vqX4 (fX4_settle_is hc) hR hK hz) rfl rfl hl.1 rfl (lv_room (Nat.le_of_ble_eq_true rfl)) dX9_partner_26 ⟨Nat.le_of_ble_eq_true rfl, Nat.le_of_ble_eq_true rfl⟩) hS (fun H locs hR hS hz => ?_)
    refine lv_aload_n hx hb dX9_partner_29 rfl (lv_at hl 0 rfl) ?_
    refine q_gR hx hb hT hown hK hR iqX9 vqX9 13 (by decide) (hT _ wfl_X9_79) hf dX9_partner_30 (fun v7 hf => ?_)
    refine q_gR hx hb hT hown hK hR iqX4 vqX4 0 (by decide) (hT _ wfl_X9_262) hf dX9_partner_33 (fun v8 hf => ?_)
    refine lv_iload_n hx hb dX9_partner_36 rfl (lv_at hl 1 rfl) ?_
    refine q_iald hx hb hK hR hf dX9_partner_37 (fun v9 hf => ?_)
    subst hQ
    obtain ⟨h8, h9⟩ := Prod.mk.inj (Option.some.inj hf)
    exact q_iret hx hb hr hlocks hR hS hz h8 h9 dX9_partner_38
  · have hf := q_t hf hc
    refine lv_ldc (v := (-1000000001 : Int32)) hx hb hown (hT _ wk_X9_148) dX9_partner_11 ?_
    subst hQ
    obtain ⟨h8, h9⟩ := Prod.mk.inj (Option.some.inj hf)
    exact q_iret hx hb hr hlocks hR hS hz h8 h9 dX9_partner_13
/-! X9_duck -/
def fX9_duck (F : Nat) (X : qH) (a0 : Nat) (a1 : Int32) (a2 : Int32) : Option (Int32 × qH) :=
qIs 8 X a0 <|
if a1 < (0 : Int32) then (some ((-1000000002 : Int32), X))
else (if (999 : Int32) < a1 then (some ((-1000000002 : Int32), X))
else (if a2 < (0 : Int32) then (some ((-1000000002 : Int32), X))
else ((qgR X 8 a0 3).bind fun v1 =>
(qgI X 0 v1 0).bind fun v2 =>
if a2 < v2 then ((qgR X 8 a0 14).bind fun v3 =>
(qgI X 2 v3 0).bind fun v4 =>
if v4 < (6 : Int32) then ((qgR X 8 a0 14).bind fun v5 =>
(fX2_add F X v5 a1 a2).bind fun X6 =>
(qgR X6 8 a0 14).bind fun v7 =>
(qgI X6 2 v7 0).bind fun v8 =>
some (v8, X6))
else (some ((-1000000004 : Int32), X)))
else (some ((-1000000002 : Int32), X)))))
abbrev rmX9_duck : Room := { frames := 1, cells := 0, slots := 0, locals := 22 }
theorem fX9_duck_is {F : Nat} {X : qH} {a0 : Nat} {a1 : Int32} {a2 : Int32} {r9 : Int32 × qH} (h : fX9_duck F X a0 a1 a2 = some r9) : ∃ fs, X a0 = some (.inr (8, fs)) := (qIs_spec h).1
theorem hdX9_duck : yX9_duck.cls = RX9 ∧ yX9_duck.cls ≠ "java/lang/invoke/MethodHandle" ∧ yX9_duck.cls ≠ "java/lang/invoke/VarHandle" ∧ (parseMethodDescriptor yX9_duck.desc).map (fun d => d.parameters.length) = some 2 := by decide +kernel
set_option maxHeartbeats 4000000 in
set_option maxRecDepth 100000 in
theorem mX9_duck (l : Launch) (D : va_G) (kz : Nat → Nat) (b0 sz F : Nat) (X : qH) (a0 : Nat) (a1 : Int32) (a2 : Int32) (r : Int32) (Xr : qH) (hf : fX9_duck F X a0 a1 a2 = some (r, Xr)) : Met l yX9_duck (qws yX9_duck cX9_duck 3 (some .int)) rmX9_duck (va_Pc [.ref a0, .int a1, .int a2] (qU D kz b0 sz X)) (va_Qi (fun (r' : Int32) (u : qH) => r' = r ∧ u = Xr) (fun u t => qO D kz b0 sz u t) (qA b0)) 0 0 (qA b0) := by
  refine q_start (by decide) (Nat.le_of_ble_eq_true rfl) ?_
  intro p e s m args below meth c hx hb hr hlocks hnm hml hown hT hR hK hz ls hl
  have hown : s.vm.findClass RX9 = some m.cls := hown
  have hl : lv_has ls 3 [(0, .ref a0), (1, .int a1), (2, .int a2)] := hl
  have hS : va_S (qA b0) s.heap s.heap [] := va_S.rf
  obtain ⟨Q, hQ⟩ : ∃ Q, Q = MQ below (va_Qi (fun (r' : Int32) (u : qH) => r' = r ∧ u = Xr) (fun u t => qO D kz b0 sz u t) (qA b0)) args s 0 0 (qA b0) := ⟨_, rfl⟩
  rw [← hQ]
  unfold fX9_duck at hf
  obtain ⟨hthis, hf⟩ := qIs_spec hf
  refine lv_iload_n hx hb dX9_duck_0 rfl (lv_at hl 1 rfl) ?_
  refine lv_if_lt (tgt := 26) hx hb dX9_duck_1 (by decide) (fun hc => ?_) (fun hc => ?_)
  · have hf := q_t hf hc
    refine lv_ldc (v := (-1000000002 : Int32)) hx hb hown (hT _ wk_X9_97) dX9_duck_26 ?_
    subst hQ
    obtain ⟨h8, h9⟩ := Prod.mk.inj (Option.some.inj hf)
    exact q_iret hx hb hr hlocks hR hS hz h8 h9 dX9_duck_28
  · have hf := q_f hf hc
    refine lv_iload_n hx hb dX9_duck_4 rfl (lv_at hl 1 rfl) ?_
    refine lv_sipush (v := (999 : Int32)) hx hb dX9_duck_5 (by decide) ?_
    refine lv_icmp_gt (tgt := 26) hx hb dX9_duck_8 (by decide) (fun hc => ?_) (fun hc => ?_)
    · have hf := q_t hf hc
      refine lv_ldc (v := (-1000000002 : Int32)) hx hb hown (hT _ wk_X9_97) dX9_duck_26 ?_
      subst hQ
      obtain ⟨h8, h9⟩ := Prod.mk.inj (Option.some.inj hf)
      exact q_iret hx hb hr hlocks hR hS hz h8 h9 dX9_duck_28
    · have hf := q_f hf hc
      refine lv_iload_n hx hb dX9_duck_11 rfl (lv_at hl 2 rfl) ?_
      refine lv_if_lt (tgt := 26) hx hb dX9_duck_12 (by decide) (fun hc => ?_) (fun hc => ?_)
      · have hf := q_t hf hc
        refine lv_ldc (v := (-1000000002 : Int32)) hx hb hown (hT _ wk_X9_97) dX9_duck_26 ?_
        subst hQ
        obtain ⟨h8, h9⟩ := Prod.mk.inj (Option.some.inj hf)
        exact q_iret hx hb hr hlocks hR hS hz h8 h9 dX9_duck_28
      · have hf := q_f hf hc
        refine lv_iload_n hx hb dX9_duck_15 rfl (lv_at hl 2 rfl) ?_
        refine lv_aload_n hx hb dX9_duck_16 rfl (lv_at hl 0 rfl) ?_
        refine q_gR hx hb hT hown hK hR iqX9 vqX9 3 (by decide) (hT _ wfl_X9_23) hf dX9_duck_17 (fun v1 hf => ?_)
        refine q_gI hx hb hT hown hK hR iqX0 vqX0 0 (by decide) (hT _ wfl_X9_112) hf dX9_duck_20 (fun v2 hf => ?_)
        refine lv_icmp_lt (tgt := 29) hx hb dX9_duck_23 (by decide) (fun hc => ?_) (fun hc => ?_)
        · have hf := q_t hf hc
          refine lv_aload_n hx hb dX9_duck_29 rfl (lv_at hl 0 rfl) ?_
          refine q_gR hx hb hT hown hK hR iqX9 vqX9 14 (by decide) (hT _ wfl_X9_86) hf dX9_duck_30 (fun v3 hf => ?_)
          refine q_gI hx hb hT hown hK hR iqX2 vqX2 0 (by decide) (hT _ wfl_X9_107) hf dX9_duck_33 (fun v4 hf => ?_)
          refine lv_bipush (v := (6 : Int32)) hx hb dX9_duck_36 (by decide) ?_
          refine lv_icmp_lt (tgt := 44) hx hb dX9_duck_38 (by decide) (fun hc => ?_) (fun hc => ?_)
          · have hf := q_t hf hc
            refine lv_aload_n hx hb dX9_duck_44 rfl (lv_at hl 0 rfl) ?_
            refine q_gR hx hb hT hown hK hR iqX9 vqX9 14 (by decide) (hT _ wfl_X9_86) hf dX9_duck_45 (fun v5 hf => ?_)
            refine lv_iload_n hx hb dX9_duck_48 rfl (lv_at hl 1 rfl) ?_
            refine lv_iload_n hx hb dX9_duck_49 rfl (lv_at hl 2 rfl) ?_
            obtain ⟨X6, hc, hf⟩ := q_b hf
            refine q_callv (va_runV (As := [.int a1, .int a2]) (rest := []) ⟨hx, hb, hml, hown, hT⟩ (mX2_add l D kz b0 sz F X v5 a1 a2 X6 hc) (cwV 2 hT (q_gV wco_X2_add wml_X9_265 wim_X2_add wse_X2_add win_X2) rfl rfl rfl hdX2_add ⟨Nat.le_of_ble_eq_true rfl, Nat.le_of_ble_eq_true rfl⟩) (q_preV vqX2 (fX2_add_is hc) hR hK hz) rfl rfl hl.1 rfl (lv_room (Nat.le_of_ble_eq_true rfl)) dX9_duck_50 ⟨Nat.le_of_ble_eq_true rfl, Nat.le_of_ble_eq_true rfl⟩) hS (fun H locs hR hS hz => ?_)
            refine lv_aload_n hx hb dX9_duck_53 rfl (lv_at hl 0 rfl) ?_
            refine q_gR hx hb hT hown hK hR iqX9 vqX9 14 (by decide) (hT _ wfl_X9_86) hf dX9_duck_54 (fun v7 hf => ?_)
            refine q_gI hx hb hT hown hK hR iqX2 vqX2 0 (by decide) (hT _ wfl_X9_107) hf dX9_duck_57 (fun v8 hf => ?_)
            subst hQ
            obtain ⟨h8, h9⟩ := Prod.mk.inj (Option.some.inj hf)
            exact q_iret hx hb hr hlocks hR hS hz h8 h9 dX9_duck_60
          · have hf := q_f hf hc
            refine lv_ldc (v := (-1000000004 : Int32)) hx hb hown (hT _ wk_X9_98) dX9_duck_41 ?_
            subst hQ
            obtain ⟨h8, h9⟩ := Prod.mk.inj (Option.some.inj hf)
            exact q_iret hx hb hr hlocks hR hS hz h8 h9 dX9_duck_43
        · have hf := q_f hf hc
          refine lv_ldc (v := (-1000000002 : Int32)) hx hb hown (hT _ wk_X9_97) dX9_duck_26 ?_
          subst hQ
          obtain ⟨h8, h9⟩ := Prod.mk.inj (Option.some.inj hf)
          exact q_iret hx hb hr hlocks hR hS hz h8 h9 dX9_duck_28
/-! X9_lit -/
def fX9_lit (F : Nat) (X : qH) (a0 : Nat) (a1 : Int32) : Option (Int32) :=
qIs 8 X a0 <|
if a1 = (-1 : Int32) then ((qgR X 8 a0 14).bind fun v1 =>
(qgR X 8 a0 3).bind fun v2 =>
(qgR X 8 a0 7).bind fun v3 =>
(fX2_ways F X v1 v2 v3).bind fun v4 =>
some v4)
else (if a1 < (0 : Int32) then (some (-1 : Int32))
else ((qgR X 8 a0 14).bind fun v5 =>
(qgI X 2 v5 0).bind fun v6 =>
if a1 < v6 then ((qgR X 8 a0 7).bind fun v7 =>
(qgR X 8 a0 3).bind fun v8 =>
(qgR X 8 a0 14).bind fun v9 =>
(qgR X 2 v9 2).bind fun v10 =>
(qaI X 0 v10 a1).bind fun v11 =>
(fX3_housesOver F X v7 v8 v11).bind fun v12 =>
some v12)
else (some (-1 : Int32))))
abbrev rmX9_lit : Room := { frames := 4, cells := 0, slots := 0, locals := 92 }
theorem fX9_lit_is {F : Nat} {X : qH} {a0 : Nat} {a1 : Int32} {r9 : Int32} (h : fX9_lit F X a0 a1 = some r9) : ∃ fs, X a0 = some (.inr (8, fs)) := (qIs_spec h).1
theorem hdX9_lit : yX9_lit.cls = RX9 ∧ yX9_lit.cls ≠ "java/lang/invoke/MethodHandle" ∧ yX9_lit.cls ≠ "java/lang/invoke/VarHandle" ∧ (parseMethodDescriptor yX9_lit.desc).map (fun d => d.parameters.length) = some 1 := by decide +kernel
set_option maxHeartbeats 4000000 in
set_option maxRecDepth 100000 in
theorem mX9_lit (l : Launch) (D : va_G) (kz : Nat → Nat) (b0 sz F : Nat) (X : qH) (a0 : Nat) (a1 : Int32) (r : Int32) (hf : fX9_lit F X a0 a1 = some r) : Met l yX9_lit (qws yX9_lit cX9_lit 2 (some .int)) rmX9_lit (va_Pc [.ref a0, .int a1] (qU D kz b0 sz X)) (va_Qi (fun (r' : Int32) (u : qH) => r' = r ∧ u = X) (fun u t => qO D kz b0 sz u t) (qA b0)) 0 0 (qA b0) := by
  refine q_start (by decide) (Nat.le_of_ble_eq_true rfl) ?_
  intro p e s m args below meth c hx hb hr hlocks hnm hml hown hT hR hK hz ls hl
  have hown : s.vm.findClass RX9 = some m.cls := hown
  have hl : lv_has ls 2 [(0, .ref a0), (1, .int a1)] := hl
  have hS : va_S (qA b0) s.heap s.heap [] := va_S.rf
  obtain ⟨Q, hQ⟩ : ∃ Q, Q = MQ below (va_Qi (fun (r' : Int32) (u : qH) => r' = r ∧ u = X) (fun u t => qO D kz b0 sz u t) (qA b0)) args s 0 0 (qA b0) := ⟨_, rfl⟩
  rw [← hQ]
  unfold fX9_lit at hf
  obtain ⟨hthis, hf⟩ := qIs_spec hf
  refine lv_iload_n hx hb dX9_lit_0 rfl (lv_at hl 1 rfl) ?_
  refine lv_iconst (v := (-1 : Int32)) hx hb dX9_lit_1 (by decide) ?_
  refine lv_icmp_ne (tgt := 21) hx hb dX9_lit_2 (by decide) (fun hc => ?_) (fun hc => ?_)
  · have hf := q_f hf hc
    refine lv_iload_n hx hb dX9_lit_21 rfl (lv_at hl 1 rfl) ?_
    refine lv_if_lt (tgt := 36) hx hb dX9_lit_22 (by decide) (fun hc => ?_) (fun hc => ?_)
    · have hf := q_t hf hc
      refine lv_iconst (v := (-1 : Int32)) hx hb dX9_lit_36 (by decide) ?_
      subst hQ
      exact q_iret hx hb hr hlocks hR hS hz (Option.some.inj hf) rfl dX9_lit_37
    · have hf := q_f hf hc
      refine lv_iload_n hx hb dX9_lit_25 rfl (lv_at hl 1 rfl) ?_
      refine lv_aload_n hx hb dX9_lit_26 rfl (lv_at hl 0 rfl) ?_
      refine q_gR hx hb hT hown hK hR iqX9 vqX9 14 (by decide) (hT _ wfl_X9_86) hf dX9_lit_27 (fun v5 hf => ?_)
      refine q_gI hx hb hT hown hK hR iqX2 vqX2 0 (by decide) (hT _ wfl_X9_107) hf dX9_lit_30 (fun v6 hf => ?_)
      refine lv_icmp_lt (tgt := 38) hx hb dX9_lit_33 (by decide) (fun hc => ?_) (fun hc => ?_)
      · have hf := q_t hf hc
        refine lv_aload_n hx hb dX9_lit_38 rfl (lv_at hl 0 rfl) ?_
        refine q_gR hx hb hT hown hK hR iqX9 vqX9 7 (by decide) (hT _ wfl_X9_43) hf dX9_lit_39 (fun v7 hf => ?_)
        refine lv_aload_n hx hb dX9_lit_42 rfl (lv_at hl 0 rfl) ?_
        refine q_gR hx hb hT hown hK hR iqX9 vqX9 3 (by decide) (hT _ wfl_X9_23) hf dX9_lit_43 (fun v8 hf => ?_)
        refine lv_aload_n hx hb dX9_lit_46 rfl (lv_at hl 0 rfl) ?_
        refine q_gR hx hb hT hown hK hR iqX9 vqX9 14 (by decide) (hT _ wfl_X9_86) hf dX9_lit_47 (fun v9 hf => ?_)
        refine q_gR hx hb hT hown hK hR iqX2 vqX2 2 (by decide) (hT _ wfl_X9_273) hf dX9_lit_50 (fun v10 hf => ?_)
        refine lv_iload_n hx hb dX9_lit_53 rfl (lv_at hl 1 rfl) ?_
        refine q_iald hx hb hK hR hf dX9_lit_54 (fun v11 hf => ?_)
        obtain ⟨v12, hc, hf⟩ := q_b hf
        refine q_calli (va_runV (As := [.ref v8, .int v11]) (rest := []) ⟨hx, hb, hml, hown, hT⟩ (mX3_housesOver l D kz b0 sz F X v7 v8 v11 v12 hc) (cwV 2 hT (q_gV wco_X3_housesOver wml_X9_274 wim_X3_housesOver wse_X3_housesOver win_X3) rfl rfl rfl hdX3_housesOver ⟨Nat.le_of_ble_eq_true rfl, Nat.le_of_ble_eq_true rfl⟩) (q_preV vqX3 (fX3_housesOver_is hc) hR hK hz) rfl rfl hl.1 rfl (lv_room (Nat.le_of_ble_eq_true rfl)) dX9_lit_55 ⟨Nat.le_of_ble_eq_true rfl, Nat.le_of_ble_eq_true rfl⟩) hS (fun H locs hR hS hz => ?_)
        subst hQ
        exact q_iret hx hb hr hlocks hR hS hz (Option.some.inj hf) rfl dX9_lit_58
      · have hf := q_f hf hc
        refine lv_iconst (v := (-1 : Int32)) hx hb dX9_lit_36 (by decide) ?_
        subst hQ
        exact q_iret hx hb hr hlocks hR hS hz (Option.some.inj hf) rfl dX9_lit_37
  · have hf := q_t hf hc
    refine lv_aload_n hx hb dX9_lit_5 rfl (lv_at hl 0 rfl) ?_
    refine q_gR hx hb hT hown hK hR iqX9 vqX9 14 (by decide) (hT _ wfl_X9_86) hf dX9_lit_6 (fun v1 hf => ?_)
    refine lv_aload_n hx hb dX9_lit_9 rfl (lv_at hl 0 rfl) ?_
    refine q_gR hx hb hT hown hK hR iqX9 vqX9 3 (by decide) (hT _ wfl_X9_23) hf dX9_lit_10 (fun v2 hf => ?_)
    refine lv_aload_n hx hb dX9_lit_13 rfl (lv_at hl 0 rfl) ?_
    refine q_gR hx hb hT hown hK hR iqX9 vqX9 7 (by decide) (hT _ wfl_X9_43) hf dX9_lit_14 (fun v3 hf => ?_)
    obtain ⟨v4, hc, hf⟩ := q_b hf
    refine q_calli (va_runV (As := [.ref v2, .ref v3]) (rest := []) ⟨hx, hb, hml, hown, hT⟩ (mX2_ways l D kz b0 sz F X v1 v2 v3 v4 hc) (cwV 2 hT (q_gV wco_X2_ways wml_X9_269 wim_X2_ways wse_X2_ways win_X2) rfl rfl rfl hdX2_ways ⟨Nat.le_of_ble_eq_true rfl, Nat.le_of_ble_eq_true rfl⟩) (q_preV vqX2 (fX2_ways_is hc) hR hK hz) rfl rfl hl.1 rfl (lv_room (Nat.le_of_ble_eq_true rfl)) dX9_lit_17 ⟨Nat.le_of_ble_eq_true rfl, Nat.le_of_ble_eq_true rfl⟩) hS (fun H locs hR hS hz => ?_)
    subst hQ
    exact q_iret hx hb hr hlocks hR hS hz (Option.some.inj hf) rfl dX9_lit_20
/-! X9_write -/
def fX9_write (F : Nat) (X : qH) (a0 : Nat) (a1 : Int32) (a2 : Int32) (a3 : Int32) : Option (Int32 × qH) :=
qIs 8 X a0 <|
(qgR X 8 a0 3).bind fun v1 =>
(fX0_hasTwo F X v1 a1 a2).bind fun v2 =>
if v2 = (0 : Int32) then (some ((-1000000001 : Int32), X))
else ((qgR X 8 a0 15).bind fun v3 =>
(qgI X 1 v3 0).bind fun v4 =>
if v4 < (15 : Int32) then ((qgR X 8 a0 15).bind fun v5 =>
(fX1_add F X v5 a1 a2 a3).bind fun X6 =>
(qgR X6 8 a0 15).bind fun v7 =>
(qgI X6 1 v7 0).bind fun v8 =>
some (v8, X6))
else (some ((-1000000004 : Int32), X)))
abbrev rmX9_write : Room := { frames := 2, cells := 0, slots := 0, locals := 43 }
theorem fX9_write_is {F : Nat} {X : qH} {a0 : Nat} {a1 : Int32} {a2 : Int32} {a3 : Int32} {r9 : Int32 × qH} (h : fX9_write F X a0 a1 a2 a3 = some r9) : ∃ fs, X a0 = some (.inr (8, fs)) := (qIs_spec h).1
theorem hdX9_write : yX9_write.cls = RX9 ∧ yX9_write.cls ≠ "java/lang/invoke/MethodHandle" ∧ yX9_write.cls ≠ "java/lang/invoke/VarHandle" ∧ (parseMethodDescriptor yX9_write.desc).map (fun d => d.parameters.length) = some 3 := by decide +kernel
set_option maxHeartbeats 4000000 in
set_option maxRecDepth 100000 in
theorem mX9_write (l : Launch) (D : va_G) (kz : Nat → Nat) (b0 sz F : Nat) (X : qH) (a0 : Nat) (a1 : Int32) (a2 : Int32) (a3 : Int32) (r : Int32) (Xr : qH) (hf : fX9_write F X a0 a1 a2 a3 = some (r, Xr)) : Met l yX9_write (qws yX9_write cX9_write 4 (some .int)) rmX9_write (va_Pc [.ref a0, .int a1, .int a2, .int a3] (qU D kz b0 sz X)) (va_Qi (fun (r' : Int32) (u : qH) => r' = r ∧ u = Xr) (fun u t => qO D kz b0 sz u t) (qA b0)) 0 0 (qA b0) := by
  refine q_start (by decide) (Nat.le_of_ble_eq_true rfl) ?_
  intro p e s m args below meth c hx hb hr hlocks hnm hml hown hT hR hK hz ls hl
  have hown : s.vm.findClass RX9 = some m.cls := hown
  have hl : lv_has ls 4 [(0, .ref a0), (1, .int a1), (2, .int a2), (3, .int a3)] := hl
  have hS : va_S (qA b0) s.heap s.heap [] := va_S.rf
  obtain ⟨Q, hQ⟩ : ∃ Q, Q = MQ below (va_Qi (fun (r' : Int32) (u : qH) => r' = r ∧ u = Xr) (fun u t => qO D kz b0 sz u t) (qA b0)) args s 0 0 (qA b0) := ⟨_, rfl⟩
  rw [← hQ]
  unfold fX9_write at hf
  obtain ⟨hthis, hf⟩ := qIs_spec hf
  refine lv_aload_n hx hb dX9_write_0 rfl (lv_at hl 0 rfl) ?_
  refine q_gR hx hb hT hown hK hR iqX9 vqX9 3 (by decide) (hT _ wfl_X9_23) hf dX9_write_1 (fun v1 hf => ?_)
  refine lv_iload_n hx hb dX9_write_4 rfl (lv_at hl 1 rfl) ?_
  refine lv_iload_n hx hb dX9_write_5 rfl (lv_at hl 2 rfl) ?_
  obtain ⟨v2, hc, hf⟩ := q_b hf
  refine q_calli (va_runV (As := [.int a1, .int a2]) (rest := []) ⟨hx, hb, hml, hown, hT⟩ (mX0_hasTwo l D kz b0 sz F X v1 a1 a2 v2 hc) (cwV 2 hT (q_gV wco_X0_hasTwo wml_X9_174 wim_X0_hasTwo wse_X0_hasTwo win_X0) rfl rfl rfl hdX0_hasTwo ⟨Nat.le_of_ble_eq_true rfl, Nat.le_of_ble_eq_true rfl⟩) (q_preV vqX0 (fX0_hasTwo_is hc) hR hK hz) rfl rfl hl.1 rfl (lv_room (Nat.le_of_ble_eq_true rfl)) dX9_write_6 ⟨Nat.le_of_ble_eq_true rfl, Nat.le_of_ble_eq_true rfl⟩) hS (fun H locs hR hS hz => ?_)
  refine lv_if_ne (tgt := 15) hx hb dX9_write_9 (by decide) (fun hc => ?_) (fun hc => ?_)
  · have hf := q_f hf hc
    refine lv_aload_n hx hb dX9_write_15 rfl (lv_at hl 0 rfl) ?_
    refine q_gR hx hb hT hown hK hR iqX9 vqX9 15 (by decide) (hT _ wfl_X9_93) hf dX9_write_16 (fun v3 hf => ?_)
    refine q_gI hx hb hT hown hK hR iqX1 vqX1 0 (by decide) (hT _ wfl_X9_110) hf dX9_write_19 (fun v4 hf => ?_)
    refine lv_bipush (v := (15 : Int32)) hx hb dX9_write_22 (by decide) ?_
    refine lv_icmp_lt (tgt := 30) hx hb dX9_write_24 (by decide) (fun hc => ?_) (fun hc => ?_)
    · have hf := q_t hf hc
      refine lv_aload_n hx hb dX9_write_30 rfl (lv_at hl 0 rfl) ?_
      refine q_gR hx hb hT hown hK hR iqX9 vqX9 15 (by decide) (hT _ wfl_X9_93) hf dX9_write_31 (fun v5 hf => ?_)
      refine lv_iload_n hx hb dX9_write_34 rfl (lv_at hl 1 rfl) ?_
      refine lv_iload_n hx hb dX9_write_35 rfl (lv_at hl 2 rfl) ?_
      refine lv_iload_n hx hb dX9_write_36 rfl (lv_at hl 3 rfl) ?_
      obtain ⟨X6, hc, hf⟩ := q_b hf
      refine q_callv (va_runV (As := [.int a1, .int a2, .int a3]) (rest := []) ⟨hx, hb, hml, hown, hT⟩ (mX1_add l D kz b0 sz F X v5 a1 a2 a3 X6 hc) (cwV 3 hT (q_gV wco_X1_add wml_X9_277 wim_X1_add wse_X1_add win_X1) rfl rfl rfl hdX1_add ⟨Nat.le_of_ble_eq_true rfl, Nat.le_of_ble_eq_true rfl⟩) (q_preV vqX1 (fX1_add_is hc) hR hK hz) rfl rfl hl.1 rfl (lv_room (Nat.le_of_ble_eq_true rfl)) dX9_write_37 ⟨Nat.le_of_ble_eq_true rfl, Nat.le_of_ble_eq_true rfl⟩) hS (fun H locs hR hS hz => ?_)
      refine lv_aload_n hx hb dX9_write_40 rfl (lv_at hl 0 rfl) ?_
      refine q_gR hx hb hT hown hK hR iqX9 vqX9 15 (by decide) (hT _ wfl_X9_93) hf dX9_write_41 (fun v7 hf => ?_)
      refine q_gI hx hb hT hown hK hR iqX1 vqX1 0 (by decide) (hT _ wfl_X9_110) hf dX9_write_44 (fun v8 hf => ?_)
      subst hQ
      obtain ⟨h8, h9⟩ := Prod.mk.inj (Option.some.inj hf)
      exact q_iret hx hb hr hlocks hR hS hz h8 h9 dX9_write_47
    · have hf := q_f hf hc
      refine lv_ldc (v := (-1000000004 : Int32)) hx hb hown (hT _ wk_X9_98) dX9_write_27 ?_
      subst hQ
      obtain ⟨h8, h9⟩ := Prod.mk.inj (Option.some.inj hf)
      exact q_iret hx hb hr hlocks hR hS hz h8 h9 dX9_write_29
  · have hf := q_t hf hc
    refine lv_ldc (v := (-1000000001 : Int32)) hx hb hown (hT _ wk_X9_148) dX9_write_12 ?_
    subst hQ
    obtain ⟨h8, h9⟩ := Prod.mk.inj (Option.some.inj hf)
    exact q_iret hx hb hr hlocks hR hS hz h8 h9 dX9_write_14
/-! X9_tear -/
def fX9_tear (F : Nat) (X : qH) (a0 : Nat) : Option (Int32 × qH) :=
qIs 8 X a0 <|
(qgR X 8 a0 14).bind fun v1 =>
(qgI X 2 v1 0).bind fun v2 =>
(qgR X 8 a0 15).bind fun v3 =>
(qgI X 1 v3 0).bind fun v4 =>
qlt (v2 + v4) fun v5 =>
(qgR X 8 a0 14).bind fun v6 =>
(qpI X 2 v6 0 (0 : Int32)).bind fun X7 =>
(qgR X7 8 a0 15).bind fun v8 =>
(qpI X7 1 v8 0 (0 : Int32)).bind fun X9 =>
some (v5, X9)
abbrev rmX9_tear : Room := { frames := 0, cells := 0, slots := 0, locals := 0 }
theorem fX9_tear_is {F : Nat} {X : qH} {a0 : Nat} {r9 : Int32 × qH} (h : fX9_tear F X a0 = some r9) : ∃ fs, X a0 = some (.inr (8, fs)) := (qIs_spec h).1
theorem hdX9_tear : yX9_tear.cls = RX9 ∧ yX9_tear.cls ≠ "java/lang/invoke/MethodHandle" ∧ yX9_tear.cls ≠ "java/lang/invoke/VarHandle" ∧ (parseMethodDescriptor yX9_tear.desc).map (fun d => d.parameters.length) = some 0 := by decide +kernel
set_option maxHeartbeats 4000000 in
set_option maxRecDepth 100000 in
theorem mX9_tear (l : Launch) (D : va_G) (kz : Nat → Nat) (b0 sz F : Nat) (X : qH) (a0 : Nat) (r : Int32) (Xr : qH) (hf : fX9_tear F X a0 = some (r, Xr)) : Met l yX9_tear (qws yX9_tear cX9_tear 2 (some .int)) rmX9_tear (va_Pc [.ref a0] (qU D kz b0 sz X)) (va_Qi (fun (r' : Int32) (u : qH) => r' = r ∧ u = Xr) (fun u t => qO D kz b0 sz u t) (qA b0)) 0 0 (qA b0) := by
  refine q_start (by decide) (Nat.le_of_ble_eq_true rfl) ?_
  intro p e s m args below meth c hx hb hr hlocks hnm hml hown hT hR hK hz ls hl
  have hown : s.vm.findClass RX9 = some m.cls := hown
  have hl : lv_has ls 2 [(0, .ref a0)] := hl
  have hS : va_S (qA b0) s.heap s.heap [] := va_S.rf
  obtain ⟨Q, hQ⟩ : ∃ Q, Q = MQ below (va_Qi (fun (r' : Int32) (u : qH) => r' = r ∧ u = Xr) (fun u t => qO D kz b0 sz u t) (qA b0)) args s 0 0 (qA b0) := ⟨_, rfl⟩
  rw [← hQ]
  unfold fX9_tear at hf
  obtain ⟨hthis, hf⟩ := qIs_spec hf
  refine lv_aload_n hx hb dX9_tear_0 rfl (lv_at hl 0 rfl) ?_
  refine q_gR hx hb hT hown hK hR iqX9 vqX9 14 (by decide) (hT _ wfl_X9_86) hf dX9_tear_1 (fun v1 hf => ?_)
  refine q_gI hx hb hT hown hK hR iqX2 vqX2 0 (by decide) (hT _ wfl_X9_107) hf dX9_tear_4 (fun v2 hf => ?_)
  refine lv_aload_n hx hb dX9_tear_7 rfl (lv_at hl 0 rfl) ?_
  refine q_gR hx hb hT hown hK hR iqX9 vqX9 15 (by decide) (hT _ wfl_X9_93) hf dX9_tear_8 (fun v3 hf => ?_)
  refine q_gI hx hb hT hown hK hR iqX1 vqX1 0 (by decide) (hT _ wfl_X9_110) hf dX9_tear_11 (fun v4 hf => ?_)
  refine lv_iadd hx hb dX9_tear_14 ?_
  refine lv_topi (fun v5 ev5 => ?_)
  have hf := q_lt ev5 hf
  refine lv_istore_n (lv' := [(1, .int v5), (0, .ref a0)]) hx hb dX9_tear_15 rfl hl (by decide) rfl (fun ls hl => ?_)
  refine lv_aload_n hx hb dX9_tear_16 rfl (lv_at hl 1 rfl) ?_
  refine q_gR hx hb hT hown hK hR iqX9 vqX9 14 (by decide) (hT _ wfl_X9_86) hf dX9_tear_17 (fun v6 hf => ?_)
  refine lv_iconst (v := (0 : Int32)) hx hb dX9_tear_20 (by decide) ?_
  refine q_pI hx hb hT hown hK hR hS hz iqX2 vqX2 tyX2_ok nmX2 0 (by decide) (hT _ wfl_X9_107) rfl rfl hf dX9_tear_21 (fun X7 hf H locs hR hS hz => ?_)
  refine lv_aload_n hx hb dX9_tear_24 rfl (lv_at hl 1 rfl) ?_
  refine q_gR hx hb hT hown hK hR iqX9 vqX9 15 (by decide) (hT _ wfl_X9_93) hf dX9_tear_25 (fun v8 hf => ?_)
  refine lv_iconst (v := (0 : Int32)) hx hb dX9_tear_28 (by decide) ?_
  refine q_pI hx hb hT hown hK hR hS hz iqX1 vqX1 tyX1_ok nmX1 0 (by decide) (hT _ wfl_X9_110) rfl rfl hf dX9_tear_29 (fun X9 hf H locs hR hS hz => ?_)
  refine lv_iload_n hx hb dX9_tear_32 rfl (lv_at hl 0 rfl) ?_
  subst hQ
  obtain ⟨h8, h9⟩ := Prod.mk.inj (Option.some.inj hf)
  exact q_iret hx hb hr hlocks hR hS hz h8 h9 dX9_tear_33
/-! X9_judge -/
def fX9_judge (F : Nat) (X : qH) (a0 : Nat) : Option (Int32) :=
qIs 8 X a0 <|
(qgR X 8 a0 15).bind fun v1 =>
(qgR X 8 a0 7).bind fun v2 =>
(fX1_firstWrong F X v1 v2).bind fun v3 =>
some v3
abbrev rmX9_judge : Room := { frames := 4, cells := 0, slots := 0, locals := 87 }
theorem fX9_judge_is {F : Nat} {X : qH} {a0 : Nat} {r9 : Int32} (h : fX9_judge F X a0 = some r9) : ∃ fs, X a0 = some (.inr (8, fs)) := (qIs_spec h).1
theorem hdX9_judge : yX9_judge.cls = RX9 ∧ yX9_judge.cls ≠ "java/lang/invoke/MethodHandle" ∧ yX9_judge.cls ≠ "java/lang/invoke/VarHandle" ∧ (parseMethodDescriptor yX9_judge.desc).map (fun d => d.parameters.length) = some 0 := by decide +kernel
set_option maxHeartbeats 4000000 in
set_option maxRecDepth 100000 in
theorem mX9_judge (l : Launch) (D : va_G) (kz : Nat → Nat) (b0 sz F : Nat) (X : qH) (a0 : Nat) (r : Int32) (hf : fX9_judge F X a0 = some r) : Met l yX9_judge (qws yX9_judge cX9_judge 1 (some .int)) rmX9_judge (va_Pc [.ref a0] (qU D kz b0 sz X)) (va_Qi (fun (r' : Int32) (u : qH) => r' = r ∧ u = X) (fun u t => qO D kz b0 sz u t) (qA b0)) 0 0 (qA b0) := by
  refine q_start (by decide) (Nat.le_of_ble_eq_true rfl) ?_
  intro p e s m args below meth c hx hb hr hlocks hnm hml hown hT hR hK hz ls hl
  have hown : s.vm.findClass RX9 = some m.cls := hown
  have hl : lv_has ls 1 [(0, .ref a0)] := hl
  have hS : va_S (qA b0) s.heap s.heap [] := va_S.rf
  obtain ⟨Q, hQ⟩ : ∃ Q, Q = MQ below (va_Qi (fun (r' : Int32) (u : qH) => r' = r ∧ u = X) (fun u t => qO D kz b0 sz u t) (qA b0)) args s 0 0 (qA b0) := ⟨_, rfl⟩
  rw [← hQ]
  unfold fX9_judge at hf
  obtain ⟨hthis, hf⟩ := qIs_spec hf
  refine lv_aload_n hx hb dX9_judge_0 rfl (lv_at hl 0 rfl) ?_
  refine q_gR hx hb hT hown hK hR iqX9 vqX9 15 (by decide) (hT _ wfl_X9_93) hf dX9_judge_1 (fun v1 hf => ?_)
  refine lv_aload_n hx hb dX9_judge_4 rfl (lv_at hl 0 rfl) ?_
  refine q_gR hx hb hT hown hK hR iqX9 vqX9 7 (by decide) (hT _ wfl_X9_43) hf dX9_judge_5 (fun v2 hf => ?_)
  obtain ⟨v3, hc, hf⟩ := q_b hf
  refine q_calli (va_runV (As := [.ref v2]) (rest := []) ⟨hx, hb, hml, hown, hT⟩ (mX1_firstWrong l D kz b0 sz F X v1 v2 v3 hc) (cwV 1 hT (q_gV wco_X1_firstWrong wml_X9_280 wim_X1_firstWrong wse_X1_firstWrong win_X1) rfl rfl rfl hdX1_firstWrong ⟨Nat.le_of_ble_eq_true rfl, Nat.le_of_ble_eq_true rfl⟩) (q_preV vqX1 (fX1_firstWrong_is hc) hR hK hz) rfl rfl hl.1 rfl (lv_room (Nat.le_of_ble_eq_true rfl)) dX9_judge_8 ⟨Nat.le_of_ble_eq_true rfl, Nat.le_of_ble_eq_true rfl⟩) hS (fun H locs hR hS hz => ?_)
  subst hQ
  exact q_iret hx hb hr hlocks hR hS hz (Option.some.inj hf) rfl dX9_judge_11
/-! X9_seed -/
def fX9_seed (F : Nat) (X : qH) (a0 : Nat) (a1 : Int32) : Option (Int32 × qH) :=
qIs 8 X a0 <|
if (0 : Int32) ≤ a1 then ((qgI X 8 a0 5).bind fun v1 =>
(qpI X 8 a0 5 a1).bind fun X2 =>
some (v1, X2))
else (some ((-1000000002 : Int32), X))
abbrev rmX9_seed : Room := { frames := 0, cells := 0, slots := 0, locals := 0 }
theorem fX9_seed_is {F : Nat} {X : qH} {a0 : Nat} {a1 : Int32} {r9 : Int32 × qH} (h : fX9_seed F X a0 a1 = some r9) : ∃ fs, X a0 = some (.inr (8, fs)) := (qIs_spec h).1
theorem hdX9_seed : yX9_seed.cls = RX9 ∧ yX9_seed.cls ≠ "java/lang/invoke/MethodHandle" ∧ yX9_seed.cls ≠ "java/lang/invoke/VarHandle" ∧ (parseMethodDescriptor yX9_seed.desc).map (fun d => d.parameters.length) = some 1 := by decide +kernel
set_option maxHeartbeats 4000000 in
set_option maxRecDepth 100000 in
theorem mX9_seed (l : Launch) (D : va_G) (kz : Nat → Nat) (b0 sz F : Nat) (X : qH) (a0 : Nat) (a1 : Int32) (r : Int32) (Xr : qH) (hf : fX9_seed F X a0 a1 = some (r, Xr)) : Met l yX9_seed (qws yX9_seed cX9_seed 3 (some .int)) rmX9_seed (va_Pc [.ref a0, .int a1] (qU D kz b0 sz X)) (va_Qi (fun (r' : Int32) (u : qH) => r' = r ∧ u = Xr) (fun u t => qO D kz b0 sz u t) (qA b0)) 0 0 (qA b0) := by
  refine q_start (by decide) (Nat.le_of_ble_eq_true rfl) ?_
  intro p e s m args below meth c hx hb hr hlocks hnm hml hown hT hR hK hz ls hl
  have hown : s.vm.findClass RX9 = some m.cls := hown
  have hl : lv_has ls 3 [(0, .ref a0), (1, .int a1)] := hl
  have hS : va_S (qA b0) s.heap s.heap [] := va_S.rf
  obtain ⟨Q, hQ⟩ : ∃ Q, Q = MQ below (va_Qi (fun (r' : Int32) (u : qH) => r' = r ∧ u = Xr) (fun u t => qO D kz b0 sz u t) (qA b0)) args s 0 0 (qA b0) := ⟨_, rfl⟩
  rw [← hQ]
  unfold fX9_seed at hf
  obtain ⟨hthis, hf⟩ := qIs_spec hf
  refine lv_iload_n hx hb dX9_seed_0 rfl (lv_at hl 1 rfl) ?_
  refine lv_if_ge (tgt := 7) hx hb dX9_seed_1 (by decide) (fun hc => ?_) (fun hc => ?_)
  · have hf := q_t hf hc
    refine lv_aload_n hx hb dX9_seed_7 rfl (lv_at hl 0 rfl) ?_
    refine q_gI hx hb hT hown hK hR iqX9 vqX9 5 (by decide) (hT _ wfl_X9_30) hf dX9_seed_8 (fun v1 hf => ?_)
    refine lv_istore_n (lv' := [(2, .int v1), (0, .ref a0), (1, .int a1)]) hx hb dX9_seed_11 rfl hl (by decide) rfl (fun ls hl => ?_)
    refine lv_aload_n hx hb dX9_seed_12 rfl (lv_at hl 1 rfl) ?_
    refine lv_iload_n hx hb dX9_seed_13 rfl (lv_at hl 2 rfl) ?_
    refine q_pI hx hb hT hown hK hR hS hz iqX9 vqX9 tyX9_ok nmX9 5 (by decide) (hT _ wfl_X9_30) rfl rfl hf dX9_seed_14 (fun X2 hf H locs hR hS hz => ?_)
    refine lv_iload_n hx hb dX9_seed_17 rfl (lv_at hl 0 rfl) ?_
    subst hQ
    obtain ⟨h8, h9⟩ := Prod.mk.inj (Option.some.inj hf)
    exact q_iret hx hb hr hlocks hR hS hz h8 h9 dX9_seed_18
  · have hf := q_f hf hc
    refine lv_ldc (v := (-1000000002 : Int32)) hx hb hown (hT _ wk_X9_97) dX9_seed_4 ?_
    subst hQ
    obtain ⟨h8, h9⟩ := Prod.mk.inj (Option.some.inj hf)
    exact q_iret hx hb hr hlocks hR hS hz h8 h9 dX9_seed_6
/-! X9_keep -/
def fX9_keep (F : Nat) (X : qH) (a0 : Nat) (a1 : Int32) : Option (Int32 × qH) :=
qIs 8 X a0 <|
if a1 < (0 : Int32) then (some ((-1000000001 : Int32), X))
else (if a1 < (2 : Int32) then ((qgR X 8 a0 9).bind fun v1 =>
(qaR X v1 a1).bind fun v2 =>
(qgR X 8 a0 7).bind fun v3 =>
(fX3_become F X v2 v3).bind fun X4 =>
(qgR X4 8 a0 11).bind fun v5 =>
(qgI X4 8 a0 5).bind fun v6 =>
(qaS X4 0 v5 a1 v6).bind fun X7 =>
(qgR X7 8 a0 10).bind fun v8 =>
(qaZ X7 v8 a1 (1 : Int32)).bind fun X9 =>
(qgR X9 8 a0 8).bind fun v10 =>
(fX5_clear F X9 v10).bind fun X11 =>
some ((1 : Int32), X11))
else (some ((-1000000001 : Int32), X)))
abbrev rmX9_keep : Room := { frames := 2, cells := 0, slots := 0, locals := 44 }
theorem fX9_keep_is {F : Nat} {X : qH} {a0 : Nat} {a1 : Int32} {r9 : Int32 × qH} (h : fX9_keep F X a0 a1 = some r9) : ∃ fs, X a0 = some (.inr (8, fs)) := (qIs_spec h).1
theorem hdX9_keep : yX9_keep.cls = RX9 ∧ yX9_keep.cls ≠ "java/lang/invoke/MethodHandle" ∧ yX9_keep.cls ≠ "java/lang/invoke/VarHandle" ∧ (parseMethodDescriptor yX9_keep.desc).map (fun d => d.parameters.length) = some 1 := by decide +kernel
set_option maxHeartbeats 4000000 in
set_option maxRecDepth 100000 in
theorem mX9_keep (l : Launch) (D : va_G) (kz : Nat → Nat) (b0 sz F : Nat) (X : qH) (a0 : Nat) (a1 : Int32) (r : Int32) (Xr : qH) (hf : fX9_keep F X a0 a1 = some (r, Xr)) : Met l yX9_keep (qws yX9_keep cX9_keep 2 (some .int)) rmX9_keep (va_Pc [.ref a0, .int a1] (qU D kz b0 sz X)) (va_Qi (fun (r' : Int32) (u : qH) => r' = r ∧ u = Xr) (fun u t => qO D kz b0 sz u t) (qA b0)) 0 0 (qA b0) := by
  refine q_start (by decide) (Nat.le_of_ble_eq_true rfl) ?_
  intro p e s m args below meth c hx hb hr hlocks hnm hml hown hT hR hK hz ls hl
  have hown : s.vm.findClass RX9 = some m.cls := hown
  have hl : lv_has ls 2 [(0, .ref a0), (1, .int a1)] := hl
  have hS : va_S (qA b0) s.heap s.heap [] := va_S.rf
  obtain ⟨Q, hQ⟩ : ∃ Q, Q = MQ below (va_Qi (fun (r' : Int32) (u : qH) => r' = r ∧ u = Xr) (fun u t => qO D kz b0 sz u t) (qA b0)) args s 0 0 (qA b0) := ⟨_, rfl⟩
  rw [← hQ]
  unfold fX9_keep at hf
  obtain ⟨hthis, hf⟩ := qIs_spec hf
  refine lv_iload_n hx hb dX9_keep_0 rfl (lv_at hl 1 rfl) ?_
  refine lv_if_lt (tgt := 9) hx hb dX9_keep_1 (by decide) (fun hc => ?_) (fun hc => ?_)
  · have hf := q_t hf hc
    refine lv_ldc (v := (-1000000001 : Int32)) hx hb hown (hT _ wk_X9_148) dX9_keep_9 ?_
    subst hQ
    obtain ⟨h8, h9⟩ := Prod.mk.inj (Option.some.inj hf)
    exact q_iret hx hb hr hlocks hR hS hz h8 h9 dX9_keep_11
  · have hf := q_f hf hc
    refine lv_iload_n hx hb dX9_keep_4 rfl (lv_at hl 1 rfl) ?_
    refine lv_iconst (v := (2 : Int32)) hx hb dX9_keep_5 (by decide) ?_
    refine lv_icmp_lt (tgt := 12) hx hb dX9_keep_6 (by decide) (fun hc => ?_) (fun hc => ?_)
    · have hf := q_t hf hc
      refine lv_aload_n hx hb dX9_keep_12 rfl (lv_at hl 0 rfl) ?_
      refine q_gR hx hb hT hown hK hR iqX9 vqX9 9 (by decide) (hT _ wfl_X9_58) hf dX9_keep_13 (fun v1 hf => ?_)
      refine lv_iload_n hx hb dX9_keep_16 rfl (lv_at hl 1 rfl) ?_
      refine q_aald hx hb hK hR hf dX9_keep_17 (fun v2 hf => ?_)
      refine lv_aload_n hx hb dX9_keep_18 rfl (lv_at hl 0 rfl) ?_
      refine q_gR hx hb hT hown hK hR iqX9 vqX9 7 (by decide) (hT _ wfl_X9_43) hf dX9_keep_19 (fun v3 hf => ?_)
      obtain ⟨X4, hc, hf⟩ := q_b hf
      refine q_callv (va_runV (As := [.ref v3]) (rest := []) ⟨hx, hb, hml, hown, hT⟩ (mX3_become l D kz b0 sz F X v2 v3 X4 hc) (cwV 1 hT (q_gV wco_X3_become wml_X9_284 wim_X3_become wse_X3_become win_X3) rfl rfl rfl hdX3_become ⟨Nat.le_of_ble_eq_true rfl, Nat.le_of_ble_eq_true rfl⟩) (q_preV vqX3 (fX3_become_is hc) hR hK hz) rfl rfl hl.1 rfl (lv_room (Nat.le_of_ble_eq_true rfl)) dX9_keep_22 ⟨Nat.le_of_ble_eq_true rfl, Nat.le_of_ble_eq_true rfl⟩) hS (fun H locs hR hS hz => ?_)
      refine lv_aload_n hx hb dX9_keep_25 rfl (lv_at hl 0 rfl) ?_
      refine q_gR hx hb hT hown hK hR iqX9 vqX9 11 (by decide) (hT _ wfl_X9_66) hf dX9_keep_26 (fun v5 hf => ?_)
      refine lv_iload_n hx hb dX9_keep_29 rfl (lv_at hl 1 rfl) ?_
      refine lv_aload_n hx hb dX9_keep_30 rfl (lv_at hl 0 rfl) ?_
      refine q_gI hx hb hT hown hK hR iqX9 vqX9 5 (by decide) (hT _ wfl_X9_30) hf dX9_keep_31 (fun v6 hf => ?_)
      refine q_iast hx hb hK hR hS hz hf dX9_keep_34 (fun X7 hf H locs hR hS hz => ?_)
      refine lv_aload_n hx hb dX9_keep_35 rfl (lv_at hl 0 rfl) ?_
      refine q_gR hx hb hT hown hK hR iqX9 vqX9 10 (by decide) (hT _ wfl_X9_62) hf dX9_keep_36 (fun v8 hf => ?_)
      refine lv_iload_n hx hb dX9_keep_39 rfl (lv_at hl 1 rfl) ?_
      refine lv_iconst (v := (1 : Int32)) hx hb dX9_keep_40 (by decide) ?_
      refine q_zast hx hb hK hR hS hz hf dX9_keep_41 (fun X9 hf H locs hR hS hz => ?_)
      refine lv_aload_n hx hb dX9_keep_42 rfl (lv_at hl 0 rfl) ?_
      refine q_gR hx hb hT hown hK hR iqX9 vqX9 8 (by decide) (hT _ wfl_X9_54) hf dX9_keep_43 (fun v10 hf => ?_)
      obtain ⟨X11, hc, hf⟩ := q_b hf
      refine q_callv (va_runV (As := []) (rest := []) ⟨hx, hb, hml, hown, hT⟩ (mX5_clear l D kz b0 sz F X9 v10 X11 hc) (cwV 0 hT (q_gV wco_X5_clear wml_X9_104 wim_X5_clear wse_X5_clear win_X5) rfl rfl rfl hdX5_clear ⟨Nat.le_of_ble_eq_true rfl, Nat.le_of_ble_eq_true rfl⟩) (q_preV vqX5 (fX5_clear_is hc) hR hK hz) rfl rfl hl.1 rfl (lv_room (Nat.le_of_ble_eq_true rfl)) dX9_keep_46 ⟨Nat.le_of_ble_eq_true rfl, Nat.le_of_ble_eq_true rfl⟩) hS (fun H locs hR hS hz => ?_)
      refine lv_iconst (v := (1 : Int32)) hx hb dX9_keep_49 (by decide) ?_
      subst hQ
      obtain ⟨h8, h9⟩ := Prod.mk.inj (Option.some.inj hf)
      exact q_iret hx hb hr hlocks hR hS hz h8 h9 dX9_keep_50
    · have hf := q_f hf hc
      refine lv_ldc (v := (-1000000001 : Int32)) hx hb hown (hT _ wk_X9_148) dX9_keep_9 ?_
      subst hQ
      obtain ⟨h8, h9⟩ := Prod.mk.inj (Option.some.inj hf)
      exact q_iret hx hb hr hlocks hR hS hz h8 h9 dX9_keep_11
/-! X9_goBack -/
def fX9_goBack (F : Nat) (X : qH) (a0 : Nat) (a1 : Int32) : Option (Int32 × qH) :=
qIs 8 X a0 <|
if a1 < (0 : Int32) then (some ((-1000000001 : Int32), X))
else (if a1 < (2 : Int32) then ((qgR X 8 a0 10).bind fun v1 =>
(qaI X 1 v1 a1).bind fun v2 =>
if v2 = (0 : Int32) then (some ((-1000000003 : Int32), X))
else ((qgR X 8 a0 7).bind fun v3 =>
(qgR X 8 a0 9).bind fun v4 =>
(qaR X v4 a1).bind fun v5 =>
(fX3_become F X v3 v5).bind fun X6 =>
(qgR X6 8 a0 11).bind fun v7 =>
(qaI X6 0 v7 a1).bind fun v8 =>
(qpI X6 8 a0 5 v8).bind fun X9 =>
(qgR X9 8 a0 8).bind fun v10 =>
(fX5_clear F X9 v10).bind fun X11 =>
some ((1 : Int32), X11)))
else (some ((-1000000001 : Int32), X)))
abbrev rmX9_goBack : Room := { frames := 2, cells := 0, slots := 0, locals := 44 }
theorem fX9_goBack_is {F : Nat} {X : qH} {a0 : Nat} {a1 : Int32} {r9 : Int32 × qH} (h : fX9_goBack F X a0 a1 = some r9) : ∃ fs, X a0 = some (.inr (8, fs)) := (qIs_spec h).1
theorem hdX9_goBack : yX9_goBack.cls = RX9 ∧ yX9_goBack.cls ≠ "java/lang/invoke/MethodHandle" ∧ yX9_goBack.cls ≠ "java/lang/invoke/VarHandle" ∧ (parseMethodDescriptor yX9_goBack.desc).map (fun d => d.parameters.length) = some 1 := by decide +kernel
set_option maxHeartbeats 4000000 in
set_option maxRecDepth 100000 in
theorem mX9_goBack (l : Launch) (D : va_G) (kz : Nat → Nat) (b0 sz F : Nat) (X : qH) (a0 : Nat) (a1 : Int32) (r : Int32) (Xr : qH) (hf : fX9_goBack F X a0 a1 = some (r, Xr)) : Met l yX9_goBack (qws yX9_goBack cX9_goBack 2 (some .int)) rmX9_goBack (va_Pc [.ref a0, .int a1] (qU D kz b0 sz X)) (va_Qi (fun (r' : Int32) (u : qH) => r' = r ∧ u = Xr) (fun u t => qO D kz b0 sz u t) (qA b0)) 0 0 (qA b0) := by
  refine q_start (by decide) (Nat.le_of_ble_eq_true rfl) ?_
  intro p e s m args below meth c hx hb hr hlocks hnm hml hown hT hR hK hz ls hl
  have hown : s.vm.findClass RX9 = some m.cls := hown
  have hl : lv_has ls 2 [(0, .ref a0), (1, .int a1)] := hl
  have hS : va_S (qA b0) s.heap s.heap [] := va_S.rf
  obtain ⟨Q, hQ⟩ : ∃ Q, Q = MQ below (va_Qi (fun (r' : Int32) (u : qH) => r' = r ∧ u = Xr) (fun u t => qO D kz b0 sz u t) (qA b0)) args s 0 0 (qA b0) := ⟨_, rfl⟩
  rw [← hQ]
  unfold fX9_goBack at hf
  obtain ⟨hthis, hf⟩ := qIs_spec hf
  refine lv_iload_n hx hb dX9_goBack_0 rfl (lv_at hl 1 rfl) ?_
  refine lv_if_lt (tgt := 9) hx hb dX9_goBack_1 (by decide) (fun hc => ?_) (fun hc => ?_)
  · have hf := q_t hf hc
    refine lv_ldc (v := (-1000000001 : Int32)) hx hb hown (hT _ wk_X9_148) dX9_goBack_9 ?_
    subst hQ
    obtain ⟨h8, h9⟩ := Prod.mk.inj (Option.some.inj hf)
    exact q_iret hx hb hr hlocks hR hS hz h8 h9 dX9_goBack_11
  · have hf := q_f hf hc
    refine lv_iload_n hx hb dX9_goBack_4 rfl (lv_at hl 1 rfl) ?_
    refine lv_iconst (v := (2 : Int32)) hx hb dX9_goBack_5 (by decide) ?_
    refine lv_icmp_lt (tgt := 12) hx hb dX9_goBack_6 (by decide) (fun hc => ?_) (fun hc => ?_)
    · have hf := q_t hf hc
      refine lv_aload_n hx hb dX9_goBack_12 rfl (lv_at hl 0 rfl) ?_
      refine q_gR hx hb hT hown hK hR iqX9 vqX9 10 (by decide) (hT _ wfl_X9_62) hf dX9_goBack_13 (fun v1 hf => ?_)
      refine lv_iload_n hx hb dX9_goBack_16 rfl (lv_at hl 1 rfl) ?_
      refine q_zald hx hb hK hR hf dX9_goBack_17 (fun v2 hf => ?_)
      refine lv_if_ne (tgt := 24) hx hb dX9_goBack_18 (by decide) (fun hc => ?_) (fun hc => ?_)
      · have hf := q_f hf hc
        refine lv_aload_n hx hb dX9_goBack_24 rfl (lv_at hl 0 rfl) ?_
        refine q_gR hx hb hT hown hK hR iqX9 vqX9 7 (by decide) (hT _ wfl_X9_43) hf dX9_goBack_25 (fun v3 hf => ?_)
        refine lv_aload_n hx hb dX9_goBack_28 rfl (lv_at hl 0 rfl) ?_
        refine q_gR hx hb hT hown hK hR iqX9 vqX9 9 (by decide) (hT _ wfl_X9_58) hf dX9_goBack_29 (fun v4 hf => ?_)
        refine lv_iload_n hx hb dX9_goBack_32 rfl (lv_at hl 1 rfl) ?_
        refine q_aald hx hb hK hR hf dX9_goBack_33 (fun v5 hf => ?_)
        obtain ⟨X6, hc, hf⟩ := q_b hf
        refine q_callv (va_runV (As := [.ref v5]) (rest := []) ⟨hx, hb, hml, hown, hT⟩ (mX3_become l D kz b0 sz F X v3 v5 X6 hc) (cwV 1 hT (q_gV wco_X3_become wml_X9_284 wim_X3_become wse_X3_become win_X3) rfl rfl rfl hdX3_become ⟨Nat.le_of_ble_eq_true rfl, Nat.le_of_ble_eq_true rfl⟩) (q_preV vqX3 (fX3_become_is hc) hR hK hz) rfl rfl hl.1 rfl (lv_room (Nat.le_of_ble_eq_true rfl)) dX9_goBack_34 ⟨Nat.le_of_ble_eq_true rfl, Nat.le_of_ble_eq_true rfl⟩) hS (fun H locs hR hS hz => ?_)
        refine lv_aload_n hx hb dX9_goBack_37 rfl (lv_at hl 0 rfl) ?_
        refine lv_aload_n hx hb dX9_goBack_38 rfl (lv_at hl 0 rfl) ?_
        refine q_gR hx hb hT hown hK hR iqX9 vqX9 11 (by decide) (hT _ wfl_X9_66) hf dX9_goBack_39 (fun v7 hf => ?_)
        refine lv_iload_n hx hb dX9_goBack_42 rfl (lv_at hl 1 rfl) ?_
        refine q_iald hx hb hK hR hf dX9_goBack_43 (fun v8 hf => ?_)
        refine q_pI hx hb hT hown hK hR hS hz iqX9 vqX9 tyX9_ok nmX9 5 (by decide) (hT _ wfl_X9_30) rfl rfl hf dX9_goBack_44 (fun X9 hf H locs hR hS hz => ?_)
        refine lv_aload_n hx hb dX9_goBack_47 rfl (lv_at hl 0 rfl) ?_
        refine q_gR hx hb hT hown hK hR iqX9 vqX9 8 (by decide) (hT _ wfl_X9_54) hf dX9_goBack_48 (fun v10 hf => ?_)
        obtain ⟨X11, hc, hf⟩ := q_b hf
        refine q_callv (va_runV (As := []) (rest := []) ⟨hx, hb, hml, hown, hT⟩ (mX5_clear l D kz b0 sz F X9 v10 X11 hc) (cwV 0 hT (q_gV wco_X5_clear wml_X9_104 wim_X5_clear wse_X5_clear win_X5) rfl rfl rfl hdX5_clear ⟨Nat.le_of_ble_eq_true rfl, Nat.le_of_ble_eq_true rfl⟩) (q_preV vqX5 (fX5_clear_is hc) hR hK hz) rfl rfl hl.1 rfl (lv_room (Nat.le_of_ble_eq_true rfl)) dX9_goBack_51 ⟨Nat.le_of_ble_eq_true rfl, Nat.le_of_ble_eq_true rfl⟩) hS (fun H locs hR hS hz => ?_)
        refine lv_iconst (v := (1 : Int32)) hx hb dX9_goBack_54 (by decide) ?_
        subst hQ
        obtain ⟨h8, h9⟩ := Prod.mk.inj (Option.some.inj hf)
        exact q_iret hx hb hr hlocks hR hS hz h8 h9 dX9_goBack_55
      · have hf := q_t hf hc
        refine lv_ldc (v := (-1000000003 : Int32)) hx hb hown (hT _ wk_X9_188) dX9_goBack_21 ?_
        subst hQ
        obtain ⟨h8, h9⟩ := Prod.mk.inj (Option.some.inj hf)
        exact q_iret hx hb hr hlocks hR hS hz h8 h9 dX9_goBack_23
    · have hf := q_f hf hc
      refine lv_ldc (v := (-1000000001 : Int32)) hx hb hown (hT _ wk_X9_148) dX9_goBack_9 ?_
      subst hQ
      obtain ⟨h8, h9⟩ := Prod.mk.inj (Option.some.inj hf)
      exact q_iret hx hb hr hlocks hR hS hz h8 h9 dX9_goBack_11
/-! X10_in -/
def fX10_in (F : Nat) (X : qH) (a0 : Int64) (a1 : Int64) (a2 : Int64) : Option (Int32) :=
(if (lg_cmp a0 a1) < (0 : Int32) then (some (0 : Int32))
else (if (0 : Int32) < (lg_cmp a0 a2) then (some (0 : Int32))
else (some (1 : Int32))) : Option Int32).bind fun v1 =>
(qz v1).bind fun z =>
some z
abbrev rmX10_in : Room := { frames := 0, cells := 0, slots := 0, locals := 0 }
theorem hdX10_in : yX10_in.cls ≠ "java/lang/invoke/MethodHandle" ∧ yX10_in.cls ≠ "java/lang/invoke/VarHandle" ∧ (parseMethodDescriptor yX10_in.desc).map (fun d => d.parameters.length) = some 3 := by decide +kernel
set_option maxHeartbeats 4000000 in
set_option maxRecDepth 100000 in
theorem mX10_in (l : Launch) (D : va_G) (kz : Nat → Nat) (b0 sz F : Nat) (X : qH) (a0 : Int64) (a1 : Int64) (a2 : Int64) (r : Int32) (hf : fX10_in F X a0 a1 a2 = some r) : Met l yX10_in (qws yX10_in cX10_in 6 (some .boolean)) rmX10_in (va_Pc [.long a0, .long a1, .long a2] (qU D kz b0 sz X)) (va_Qi (fun (r' : Int32) (u : qH) => r' = r ∧ u = X) (fun u t => qO D kz b0 sz u t) (qA b0)) 0 0 (qA b0) := by
  refine q_start (by decide) (Nat.le_of_ble_eq_true rfl) ?_
  intro p e s m args below meth c hx hb hr hlocks hnm hml hown hT hR hK hz ls hl
  have hown : s.vm.findClass RX10 = some m.cls := hown
  have hl : lv_has ls 6 [(0, .long a0), (2, .long a1), (4, .long a2)] := hl
  have hS : va_S (qA b0) s.heap s.heap [] := va_S.rf
  obtain ⟨Q, hQ⟩ : ∃ Q, Q = MQ below (va_Qi (fun (r' : Int32) (u : qH) => r' = r ∧ u = X) (fun u t => qO D kz b0 sz u t) (qA b0)) args s 0 0 (qA b0) := ⟨_, rfl⟩
  rw [← hQ]
  unfold fX10_in at hf
  refine lv_lload_n hx hb dX10_in_0 rfl (lv_at hl 0 rfl) ?_
  refine lv_lload_n hx hb dX10_in_1 rfl (lv_at hl 1 rfl) ?_
  refine W.lcmp hx hb dX10_in_2 ?_
  obtain ⟨v1, hp, hf⟩ := q_b hf
  have hJ : ∀ (H : Heap) (locs : List Loc) (ls : Array Slot), qR D kz b0 X H → va_S (qA b0) s.heap H locs → H.size = sz → lv_has ls 6 [] → W p l e rmX10_in s m args below meth c H locs 0 0 Q (F0 m 18 ls [.int v1]) := by
    intro H locs ls hR hS hz hl
    subst hQ
    obtain ⟨z9, hz9, hf⟩ := q_b hf
    obtain ⟨rfl, h01⟩ := qz_spec hz9
    exact q_zret hx hb hr hlocks hR hS hz (Option.some.inj hf) h01 rfl dX10_in_18
  have hf := hp
  refine lv_if_lt (tgt := 17) hx hb dX10_in_3 (by decide) (fun hc => ?_) (fun hc => ?_)
  · have hf := q_t hf hc
    refine lv_iconst (v := (0 : Int32)) hx hb dX10_in_17 (by decide) ?_
    cases hf
    exact hJ _ _ _ hR hS hz (lv_sub hl [] rfl)
  · have hf := q_f hf hc
    refine lv_lload_n hx hb dX10_in_6 rfl (lv_at hl 0 rfl) ?_
    refine lv_lload hx hb dX10_in_7 (lv_at hl 2 rfl) ?_
    refine W.lcmp hx hb dX10_in_9 ?_
    refine lv_if_gt (tgt := 17) hx hb dX10_in_10 (by decide) (fun hc => ?_) (fun hc => ?_)
    · have hf := q_t hf hc
      refine lv_iconst (v := (0 : Int32)) hx hb dX10_in_17 (by decide) ?_
      cases hf
      exact hJ _ _ _ hR hS hz (lv_sub hl [] rfl)
    · have hf := q_f hf hc
      refine lv_iconst (v := (1 : Int32)) hx hb dX10_in_13 (by decide) ?_
      refine lv_goto (tgt := 18) hx hb dX10_in_14 (by decide) ?_
      cases hf
      exact hJ _ _ _ hR hS hz (lv_sub hl [] rfl)
/-! X10_has -/
def fX10_has (F : Nat) (X : qH) (a0 : Int32) (a1 : Int32) : Option (Int32) :=
(if ((a0 >>> (a1 &&& 31)) &&& (1 : Int32)) = (1 : Int32) then (some (1 : Int32))
else (some (0 : Int32)) : Option Int32).bind fun v1 =>
(qz v1).bind fun z =>
some z
abbrev rmX10_has : Room := { frames := 0, cells := 0, slots := 0, locals := 0 }
theorem hdX10_has : yX10_has.cls ≠ "java/lang/invoke/MethodHandle" ∧ yX10_has.cls ≠ "java/lang/invoke/VarHandle" ∧ (parseMethodDescriptor yX10_has.desc).map (fun d => d.parameters.length) = some 2 := by decide +kernel
set_option maxHeartbeats 4000000 in
set_option maxRecDepth 100000 in
theorem mX10_has (l : Launch) (D : va_G) (kz : Nat → Nat) (b0 sz F : Nat) (X : qH) (a0 : Int32) (a1 : Int32) (r : Int32) (hf : fX10_has F X a0 a1 = some r) : Met l yX10_has (qws yX10_has cX10_has 2 (some .boolean)) rmX10_has (va_Pc [.int a0, .int a1] (qU D kz b0 sz X)) (va_Qi (fun (r' : Int32) (u : qH) => r' = r ∧ u = X) (fun u t => qO D kz b0 sz u t) (qA b0)) 0 0 (qA b0) := by
  refine q_start (by decide) (Nat.le_of_ble_eq_true rfl) ?_
  intro p e s m args below meth c hx hb hr hlocks hnm hml hown hT hR hK hz ls hl
  have hown : s.vm.findClass RX10 = some m.cls := hown
  have hl : lv_has ls 2 [(0, .int a0), (1, .int a1)] := hl
  have hS : va_S (qA b0) s.heap s.heap [] := va_S.rf
  obtain ⟨Q, hQ⟩ : ∃ Q, Q = MQ below (va_Qi (fun (r' : Int32) (u : qH) => r' = r ∧ u = X) (fun u t => qO D kz b0 sz u t) (qA b0)) args s 0 0 (qA b0) := ⟨_, rfl⟩
  rw [← hQ]
  unfold fX10_has at hf
  refine lv_iload_n hx hb dX10_has_0 rfl (lv_at hl 0 rfl) ?_
  refine lv_iload_n hx hb dX10_has_1 rfl (lv_at hl 1 rfl) ?_
  refine lv_ishr hx hb dX10_has_2 ?_
  refine lv_iconst (v := (1 : Int32)) hx hb dX10_has_3 (by decide) ?_
  refine lv_iand hx hb dX10_has_4 ?_
  refine lv_iconst (v := (1 : Int32)) hx hb dX10_has_5 (by decide) ?_
  obtain ⟨v1, hp, hf⟩ := q_b hf
  have hJ : ∀ (H : Heap) (locs : List Loc) (ls : Array Slot), qR D kz b0 X H → va_S (qA b0) s.heap H locs → H.size = sz → lv_has ls 2 [] → W p l e rmX10_has s m args below meth c H locs 0 0 Q (F0 m 14 ls [.int v1]) := by
    intro H locs ls hR hS hz hl
    subst hQ
    obtain ⟨z9, hz9, hf⟩ := q_b hf
    obtain ⟨rfl, h01⟩ := qz_spec hz9
    exact q_zret hx hb hr hlocks hR hS hz (Option.some.inj hf) h01 rfl dX10_has_14
  have hf := hp
  refine lv_icmp_ne (tgt := 13) hx hb dX10_has_6 (by decide) (fun hc => ?_) (fun hc => ?_)
  · have hf := q_f hf hc
    refine lv_iconst (v := (0 : Int32)) hx hb dX10_has_13 (by decide) ?_
    cases hf
    exact hJ _ _ _ hR hS hz (lv_sub hl [] rfl)
  · have hf := q_t hf hc
    refine lv_iconst (v := (1 : Int32)) hx hb dX10_has_9 (by decide) ?_
    refine lv_goto (tgt := 14) hx hb dX10_has_10 (by decide) ?_
    cases hf
    exact hJ _ _ _ hR hS hz (lv_sub hl [] rfl)
/-! X10_bits -/
def fX10_bits_L4_B (F : Nat) (X : qH) (a0 : Int32) (self0 : Int32 → Int32 → Option (Int32)) (v1 : Int32) (v2 : Int32) : Option (Int32) :=
if (8 : Int32) ≤ v2 then (some v1)
else (qlt (v1 + ((a0 >>> (v2 &&& 31)) &&& (1 : Int32))) fun v3 =>
qlt (v2 + (1 : Int32)) fun v4 =>
self0 v3 v4)
def fX10_bits_L4 (F : Nat) (X : qH) (a0 : Int32) : Nat → Int32 → Int32 → Option (Int32)
  | 0, _, _ => none
  | n + 1, v1, v2 => fX10_bits_L4_B F X a0 (fX10_bits_L4 F X a0 n) v1 v2
def fX10_bits (F : Nat) (X : qH) (a0 : Int32) : Option (Int32) :=
(fX10_bits_L4 F X a0 F (0 : Int32) (0 : Int32)).bind fun v5 =>
some v5
abbrev rmX10_bits : Room := { frames := 0, cells := 0, slots := 0, locals := 0 }
theorem hdX10_bits : yX10_bits.cls ≠ "java/lang/invoke/MethodHandle" ∧ yX10_bits.cls ≠ "java/lang/invoke/VarHandle" ∧ (parseMethodDescriptor yX10_bits.desc).map (fun d => d.parameters.length) = some 1 := by decide +kernel
set_option maxHeartbeats 4000000 in
set_option maxRecDepth 100000 in
theorem mX10_bits (l : Launch) (D : va_G) (kz : Nat → Nat) (b0 sz F : Nat) (X : qH) (a0 : Int32) (r : Int32) (hf : fX10_bits F X a0 = some r) : Met l yX10_bits (qws yX10_bits cX10_bits 3 (some .int)) rmX10_bits (va_Pc [.int a0] (qU D kz b0 sz X)) (va_Qi (fun (r' : Int32) (u : qH) => r' = r ∧ u = X) (fun u t => qO D kz b0 sz u t) (qA b0)) 0 0 (qA b0) := by
  refine q_start (by decide) (Nat.le_of_ble_eq_true rfl) ?_
  intro p e s m args below meth c hx hb hr hlocks hnm hml hown hT hR hK hz ls hl
  have hown : s.vm.findClass RX10 = some m.cls := hown
  have hl : lv_has ls 3 [(0, .int a0)] := hl
  have hS : va_S (qA b0) s.heap s.heap [] := va_S.rf
  obtain ⟨Q, hQ⟩ : ∃ Q, Q = MQ below (va_Qi (fun (r' : Int32) (u : qH) => r' = r ∧ u = X) (fun u t => qO D kz b0 sz u t) (qA b0)) args s 0 0 (qA b0) := ⟨_, rfl⟩
  rw [← hQ]
  unfold fX10_bits at hf
  refine lv_iconst (v := (0 : Int32)) hx hb dX10_bits_0 (by decide) ?_
  refine lv_istore_n (lv' := [(1, .int (0 : Int32)), (0, .int a0)]) hx hb dX10_bits_1 rfl hl (by decide) rfl (fun ls hl => ?_)
  refine lv_iconst (v := (0 : Int32)) hx hb dX10_bits_2 (by decide) ?_
  refine lv_istore_n (lv' := [(2, .int (0 : Int32)), (1, .int (0 : Int32)), (0, .int a0)]) hx hb dX10_bits_3 rfl hl (by decide) rfl (fun ls hl => ?_)
  obtain ⟨v5, ho, hf⟩ := q_b hf
  have hL : ∀ (n : Nat) (v1 : Int32) (v2 : Int32) (out : Int32), fX10_bits_L4 F X a0 n v1 v2 = some out → (∀ (v5 : Int32), out = v5 → ∀ (H : Heap) (locs : List Loc) (ls : Array Slot), qR D kz b0 X H → va_S (qA b0) s.heap H locs → H.size = sz → lv_has ls 3 [(1, .int v5)] → W p l e rmX10_bits s m args below meth c H locs 0 0 Q (F0 m 24 ls [])) → ∀ (H : Heap) (locs : List Loc) (ls : Array Slot), qR D kz b0 X H → va_S (qA b0) s.heap H locs → H.size = sz → lv_has ls 3 [(0, .int a0), (1, .int v1), (2, .int v2)] → W p l e rmX10_bits s m args below meth c H locs 0 0 Q (F0 m 4 ls []) := by
    intro n9
    induction n9 with
    | zero =>
      intro v1 v2 out hf
      exact absurd (show none = some out from hf) (by simp)
    | succ n9 ih0 =>
      intro v1 v2 out hf hex H locs ls hR hS hz hl
      have hf : fX10_bits_L4_B F X a0 (fX10_bits_L4 F X a0 n9) v1 v2 = some out := hf
      unfold fX10_bits_L4_B at hf
      refine lv_iload_n hx hb dX10_bits_4 rfl (lv_at hl 2 rfl) ?_
      refine lv_bipush (v := (8 : Int32)) hx hb dX10_bits_5 (by decide) ?_
      refine lv_icmp_ge (tgt := 24) hx hb dX10_bits_7 (by decide) (fun hc => ?_) (fun hc => ?_)
      · have hf := q_t hf hc
        exact hex _ (Option.some.inj hf).symm _ _ _ hR hS hz (lv_sub hl [1] rfl)
      · have hf := q_f hf hc
        refine lv_iload_n hx hb dX10_bits_10 rfl (lv_at hl 1 rfl) ?_
        refine lv_iload_n hx hb dX10_bits_11 rfl (lv_at hl 0 rfl) ?_
        refine lv_iload_n hx hb dX10_bits_12 rfl (lv_at hl 2 rfl) ?_
        refine lv_ishr hx hb dX10_bits_13 ?_
        refine lv_iconst (v := (1 : Int32)) hx hb dX10_bits_14 (by decide) ?_
        refine lv_iand hx hb dX10_bits_15 ?_
        refine lv_iadd hx hb dX10_bits_16 ?_
        refine lv_topi (fun v3 ev3 => ?_)
        have hf := q_lt ev3 hf
        refine lv_istore_n (lv' := [(1, .int v3), (0, .int a0), (2, .int v2)]) hx hb dX10_bits_17 rfl hl (by decide) rfl (fun ls hl => ?_)
        obtain ⟨v4, ev4⟩ : ∃ y : Int32, y = (v2 + (1 : Int32)) := ⟨_, rfl⟩
        have hf := q_lt ev4 hf
        refine lv_iinc (v := v4) (lv' := [(2, .int v4), (1, .int v3), (0, .int a0)]) hx hb dX10_bits_18 hl (k := 2) rfl (by rw [ev4]; rfl) (by decide) rfl (fun ls hl => ?_)
        refine lv_goto (tgt := 4) hx hb dX10_bits_21 (by decide) ?_
        exact ih0 _ _ out hf hex _ _ _ hR hS hz (lv_sub hl [2, 1, 0] rfl)
  refine hL F _ _ _ ho (fun z0 h9 => ?_) _ _ _ hR hS hz (lv_sub hl [2, 1, 0] rfl)
  cases h9
  intro H locs ls hR hS hz hl
  refine lv_iload_n hx hb dX10_bits_24 rfl (lv_at hl 0 rfl) ?_
  subst hQ
  exact q_iret hx hb hr hlocks hR hS hz (Option.some.inj hf) rfl dX10_bits_25
/-! X10_apart -/
def fX10_apart (F : Nat) (X : qH) (a0 : Int32) (a1 : Int32) : Option (Int32) :=
(if a0 ≤ a1 then (some (a1 - a0))
else (some (a0 - a1)) : Option Int32).bind fun v1 =>
some v1
abbrev rmX10_apart : Room := { frames := 0, cells := 0, slots := 0, locals := 0 }
theorem hdX10_apart : yX10_apart.cls ≠ "java/lang/invoke/MethodHandle" ∧ yX10_apart.cls ≠ "java/lang/invoke/VarHandle" ∧ (parseMethodDescriptor yX10_apart.desc).map (fun d => d.parameters.length) = some 2 := by decide +kernel
set_option maxHeartbeats 4000000 in
set_option maxRecDepth 100000 in
theorem mX10_apart (l : Launch) (D : va_G) (kz : Nat → Nat) (b0 sz F : Nat) (X : qH) (a0 : Int32) (a1 : Int32) (r : Int32) (hf : fX10_apart F X a0 a1 = some r) : Met l yX10_apart (qws yX10_apart cX10_apart 2 (some .int)) rmX10_apart (va_Pc [.int a0, .int a1] (qU D kz b0 sz X)) (va_Qi (fun (r' : Int32) (u : qH) => r' = r ∧ u = X) (fun u t => qO D kz b0 sz u t) (qA b0)) 0 0 (qA b0) := by
  refine q_start (by decide) (Nat.le_of_ble_eq_true rfl) ?_
  intro p e s m args below meth c hx hb hr hlocks hnm hml hown hT hR hK hz ls hl
  have hown : s.vm.findClass RX10 = some m.cls := hown
  have hl : lv_has ls 2 [(0, .int a0), (1, .int a1)] := hl
  have hS : va_S (qA b0) s.heap s.heap [] := va_S.rf
  obtain ⟨Q, hQ⟩ : ∃ Q, Q = MQ below (va_Qi (fun (r' : Int32) (u : qH) => r' = r ∧ u = X) (fun u t => qO D kz b0 sz u t) (qA b0)) args s 0 0 (qA b0) := ⟨_, rfl⟩
  rw [← hQ]
  unfold fX10_apart at hf
  refine lv_iload_n hx hb dX10_apart_0 rfl (lv_at hl 0 rfl) ?_
  refine lv_iload_n hx hb dX10_apart_1 rfl (lv_at hl 1 rfl) ?_
  obtain ⟨v1, hp, hf⟩ := q_b hf
  have hJ : ∀ (H : Heap) (locs : List Loc) (ls : Array Slot), qR D kz b0 X H → va_S (qA b0) s.heap H locs → H.size = sz → lv_has ls 2 [] → W p l e rmX10_apart s m args below meth c H locs 0 0 Q (F0 m 14 ls [.int v1]) := by
    intro H locs ls hR hS hz hl
    subst hQ
    exact q_iret hx hb hr hlocks hR hS hz (Option.some.inj hf) rfl dX10_apart_14
  have hf := hp
  refine lv_icmp_le (tgt := 11) hx hb dX10_apart_2 (by decide) (fun hc => ?_) (fun hc => ?_)
  · have hf := q_t hf hc
    refine lv_iload_n hx hb dX10_apart_11 rfl (lv_at hl 1 rfl) ?_
    refine lv_iload_n hx hb dX10_apart_12 rfl (lv_at hl 0 rfl) ?_
    refine lv_isub hx hb dX10_apart_13 ?_
    cases hf
    exact hJ _ _ _ hR hS hz (lv_sub hl [] rfl)
  · have hf := q_f hf hc
    refine lv_iload_n hx hb dX10_apart_5 rfl (lv_at hl 0 rfl) ?_
    refine lv_iload_n hx hb dX10_apart_6 rfl (lv_at hl 1 rfl) ?_
    refine lv_isub hx hb dX10_apart_7 ?_
    refine lv_goto (tgt := 14) hx hb dX10_apart_8 (by decide) ?_
    cases hf
    exact hJ _ _ _ hR hS hz (lv_sub hl [] rfl)
/-! X10_isHouse -/
def fX10_isHouse (F : Nat) (X : qH) (a0 : Nat) (a1 : Int32) : Option (Int32) :=
qIs 9 X a0 <|
(qgI X 9 a0 1).bind fun v1 =>
(fX10_in F X ((a1).toInt64) (0 : Int64) (((v1 - (1 : Int32))).toInt64)).bind fun v2 =>
(qz v2).bind fun z =>
some z
abbrev rmX10_isHouse : Room := { frames := 1, cells := 0, slots := 0, locals := 25 }
theorem fX10_isHouse_is {F : Nat} {X : qH} {a0 : Nat} {a1 : Int32} {r9 : Int32} (h : fX10_isHouse F X a0 a1 = some r9) : ∃ fs, X a0 = some (.inr (9, fs)) := (qIs_spec h).1
theorem hdX10_isHouse : yX10_isHouse.cls = RX10 ∧ yX10_isHouse.cls ≠ "java/lang/invoke/MethodHandle" ∧ yX10_isHouse.cls ≠ "java/lang/invoke/VarHandle" ∧ (parseMethodDescriptor yX10_isHouse.desc).map (fun d => d.parameters.length) = some 1 := by decide +kernel
set_option maxHeartbeats 4000000 in
set_option maxRecDepth 100000 in
theorem mX10_isHouse (l : Launch) (D : va_G) (kz : Nat → Nat) (b0 sz F : Nat) (X : qH) (a0 : Nat) (a1 : Int32) (r : Int32) (hf : fX10_isHouse F X a0 a1 = some r) : Met l yX10_isHouse (qws yX10_isHouse cX10_isHouse 2 (some .boolean)) rmX10_isHouse (va_Pc [.ref a0, .int a1] (qU D kz b0 sz X)) (va_Qi (fun (r' : Int32) (u : qH) => r' = r ∧ u = X) (fun u t => qO D kz b0 sz u t) (qA b0)) 0 0 (qA b0) := by
  refine q_start (by decide) (Nat.le_of_ble_eq_true rfl) ?_
  intro p e s m args below meth c hx hb hr hlocks hnm hml hown hT hR hK hz ls hl
  have hown : s.vm.findClass RX10 = some m.cls := hown
  have hl : lv_has ls 2 [(0, .ref a0), (1, .int a1)] := hl
  have hS : va_S (qA b0) s.heap s.heap [] := va_S.rf
  obtain ⟨Q, hQ⟩ : ∃ Q, Q = MQ below (va_Qi (fun (r' : Int32) (u : qH) => r' = r ∧ u = X) (fun u t => qO D kz b0 sz u t) (qA b0)) args s 0 0 (qA b0) := ⟨_, rfl⟩
  rw [← hQ]
  unfold fX10_isHouse at hf
  obtain ⟨hthis, hf⟩ := qIs_spec hf
  refine lv_iload_n hx hb dX10_isHouse_0 rfl (lv_at hl 1 rfl) ?_
  refine lv_i2l hx hb dX10_isHouse_1 rfl ?_
  refine lv_lconst (v := (0 : Int64)) hx hb dX10_isHouse_2 (by decide) ?_
  refine lv_aload_n hx hb dX10_isHouse_3 rfl (lv_at hl 0 rfl) ?_
  refine q_gI hx hb hT hown hK hR iqX10 vqX10 1 (by decide) (hT _ wfl_X10_102) hf dX10_isHouse_4 (fun v1 hf => ?_)
  refine lv_iconst (v := (1 : Int32)) hx hb dX10_isHouse_7 (by decide) ?_
  refine lv_isub hx hb dX10_isHouse_8 ?_
  refine lv_i2l hx hb dX10_isHouse_9 rfl ?_
  obtain ⟨v2, hc, hf⟩ := q_b hf
  refine q_calli (va_runS (As := [.long ((a1).toInt64), .long (0 : Int64), .long (((v1 - (1 : Int32))).toInt64)]) (rest := []) ⟨hx, hb, hml, hown, hT⟩ (mX10_in l D kz b0 sz F X ((a1).toInt64) (0 : Int64) (((v1 - (1 : Int32))).toInt64) v2 hc) (va_cwS 3 hT (q_gS wco_X10_in wml_X10_105 wst_X10_in win_X10) rfl rfl rfl hdX10_in ⟨Nat.le_of_ble_eq_true rfl, Nat.le_of_ble_eq_true rfl⟩) (q_preS hR hK hz) rfl rfl hl.1 rfl (lv_room (Nat.le_of_ble_eq_true rfl)) dX10_isHouse_10 ⟨Nat.le_of_ble_eq_true rfl, Nat.le_of_ble_eq_true rfl⟩) hS (fun H locs hR hS hz => ?_)
  subst hQ
  obtain ⟨z9, hz9, hf⟩ := q_b hf
  obtain ⟨rfl, h01⟩ := qz_spec hz9
  exact q_zret hx hb hr hlocks hR hS hz (Option.some.inj hf) h01 rfl dX10_isHouse_13
/-! X10_isSet -/
def fX10_isSet (F : Nat) (X : qH) (a0 : Nat) (a1 : Int32) : Option (Int32) :=
qIs 9 X a0 <|
(qgI X 9 a0 1).bind fun v1 =>
(fX10_in F X ((a1).toInt64) (0 : Int64) (((((1 : Int32) <<< (v1 &&& 31)) - (1 : Int32))).toInt64)).bind fun v2 =>
(qz v2).bind fun z =>
some z
abbrev rmX10_isSet : Room := { frames := 1, cells := 0, slots := 0, locals := 25 }
theorem fX10_isSet_is {F : Nat} {X : qH} {a0 : Nat} {a1 : Int32} {r9 : Int32} (h : fX10_isSet F X a0 a1 = some r9) : ∃ fs, X a0 = some (.inr (9, fs)) := (qIs_spec h).1
theorem hdX10_isSet : yX10_isSet.cls = RX10 ∧ yX10_isSet.cls ≠ "java/lang/invoke/MethodHandle" ∧ yX10_isSet.cls ≠ "java/lang/invoke/VarHandle" ∧ (parseMethodDescriptor yX10_isSet.desc).map (fun d => d.parameters.length) = some 1 := by decide +kernel
set_option maxHeartbeats 4000000 in
set_option maxRecDepth 100000 in
theorem mX10_isSet (l : Launch) (D : va_G) (kz : Nat → Nat) (b0 sz F : Nat) (X : qH) (a0 : Nat) (a1 : Int32) (r : Int32) (hf : fX10_isSet F X a0 a1 = some r) : Met l yX10_isSet (qws yX10_isSet cX10_isSet 2 (some .boolean)) rmX10_isSet (va_Pc [.ref a0, .int a1] (qU D kz b0 sz X)) (va_Qi (fun (r' : Int32) (u : qH) => r' = r ∧ u = X) (fun u t => qO D kz b0 sz u t) (qA b0)) 0 0 (qA b0) := by
  refine q_start (by decide) (Nat.le_of_ble_eq_true rfl) ?_
  intro p e s m args below meth c hx hb hr hlocks hnm hml hown hT hR hK hz ls hl
  have hown : s.vm.findClass RX10 = some m.cls := hown
  have hl : lv_has ls 2 [(0, .ref a0), (1, .int a1)] := hl
  have hS : va_S (qA b0) s.heap s.heap [] := va_S.rf
  obtain ⟨Q, hQ⟩ : ∃ Q, Q = MQ below (va_Qi (fun (r' : Int32) (u : qH) => r' = r ∧ u = X) (fun u t => qO D kz b0 sz u t) (qA b0)) args s 0 0 (qA b0) := ⟨_, rfl⟩
  rw [← hQ]
  unfold fX10_isSet at hf
  obtain ⟨hthis, hf⟩ := qIs_spec hf
  refine lv_iload_n hx hb dX10_isSet_0 rfl (lv_at hl 1 rfl) ?_
  refine lv_i2l hx hb dX10_isSet_1 rfl ?_
  refine lv_lconst (v := (0 : Int64)) hx hb dX10_isSet_2 (by decide) ?_
  refine lv_iconst (v := (1 : Int32)) hx hb dX10_isSet_3 (by decide) ?_
  refine lv_aload_n hx hb dX10_isSet_4 rfl (lv_at hl 0 rfl) ?_
  refine q_gI hx hb hT hown hK hR iqX10 vqX10 1 (by decide) (hT _ wfl_X10_102) hf dX10_isSet_5 (fun v1 hf => ?_)
  refine lv_ishl hx hb dX10_isSet_8 ?_
  refine lv_iconst (v := (1 : Int32)) hx hb dX10_isSet_9 (by decide) ?_
  refine lv_isub hx hb dX10_isSet_10 ?_
  refine lv_i2l hx hb dX10_isSet_11 rfl ?_
  obtain ⟨v2, hc, hf⟩ := q_b hf
  refine q_calli (va_runS (As := [.long ((a1).toInt64), .long (0 : Int64), .long (((((1 : Int32) <<< (v1 &&& 31)) - (1 : Int32))).toInt64)]) (rest := []) ⟨hx, hb, hml, hown, hT⟩ (mX10_in l D kz b0 sz F X ((a1).toInt64) (0 : Int64) (((((1 : Int32) <<< (v1 &&& 31)) - (1 : Int32))).toInt64) v2 hc) (va_cwS 3 hT (q_gS wco_X10_in wml_X10_105 wst_X10_in win_X10) rfl rfl rfl hdX10_in ⟨Nat.le_of_ble_eq_true rfl, Nat.le_of_ble_eq_true rfl⟩) (q_preS hR hK hz) rfl rfl hl.1 rfl (lv_room (Nat.le_of_ble_eq_true rfl)) dX10_isSet_12 ⟨Nat.le_of_ble_eq_true rfl, Nat.le_of_ble_eq_true rfl⟩) hS (fun H locs hR hS hz => ?_)
  subst hQ
  obtain ⟨z9, hz9, hf⟩ := q_b hf
  obtain ⟨rfl, h01⟩ := qz_spec hz9
  exact q_zret hx hb hr hlocks hR hS hz (Option.some.inj hf) h01 rfl dX10_isSet_15
