/-! X10_isFarOf -/
def fX10_isFarOf_L24_B (F : Nat) (X : qH) (a0 : Nat) (a1 : Int32) (a2 : Int32) (self0 : Int32 → Int32 → Option (Int32)) (v6 : Int32) (v7 : Int32) : Option (Int32) :=
(qgR X 9 a0 4).bind fun v8 =>
(qaI X 0 v8 a1).bind fun v9 =>
if v9 ≤ v7 then (some v6)
else (if v6 = (0 : Int32) then (some v6)
else ((qgR X 9 a0 5).bind fun v10 =>
(qgR X 9 a0 4).bind fun v11 =>
(qaI X 0 v11 a1).bind fun v12 =>
(qaI X 0 v10 (((((5 : Int32) * a1) + v12) - (1 : Int32)) - v7)).bind fun v13 =>
(qgR X 9 a0 5).bind fun v14 =>
(qaI X 0 v14 (((5 : Int32) * a2) + v7)).bind fun v15 =>
(if v13 = v15 then (some (1 : Int32))
else (some (0 : Int32)) : Option Int32).bind fun v16 =>
qlt (v7 + (1 : Int32)) fun v17 =>
self0 v16 v17))
def fX10_isFarOf_L24 (F : Nat) (X : qH) (a0 : Nat) (a1 : Int32) (a2 : Int32) : Nat → Int32 → Int32 → Option (Int32)
  | 0, _, _ => none
  | n + 1, v6, v7 => fX10_isFarOf_L24_B F X a0 a1 a2 (fX10_isFarOf_L24 F X a0 a1 a2 n) v6 v7
def fX10_isFarOf (F : Nat) (X : qH) (a0 : Nat) (a1 : Int32) (a2 : Int32) : Option (Int32) :=
qIs 9 X a0 <|
(qgR X 9 a0 4).bind fun v1 =>
(qaI X 0 v1 a1).bind fun v2 =>
(qgR X 9 a0 4).bind fun v3 =>
(qaI X 0 v3 a2).bind fun v4 =>
(if v2 = v4 then (some (1 : Int32))
else (some (0 : Int32)) : Option Int32).bind fun v5 =>
(fX10_isFarOf_L24 F X a0 a1 a2 F v5 (0 : Int32)).bind fun v18 =>
(qz v18).bind fun z =>
some z
abbrev rmX10_isFarOf : Room := { frames := 0, cells := 0, slots := 0, locals := 0 }
theorem fX10_isFarOf_is {F : Nat} {X : qH} {a0 : Nat} {a1 : Int32} {a2 : Int32} {r9 : Int32} (h : fX10_isFarOf F X a0 a1 a2 = some r9) : ∃ fs, X a0 = some (.inr (9, fs)) := (qIs_spec h).1
theorem hdX10_isFarOf : yX10_isFarOf.cls = RX10 ∧ yX10_isFarOf.cls ≠ "java/lang/invoke/MethodHandle" ∧ yX10_isFarOf.cls ≠ "java/lang/invoke/VarHandle" ∧ (parseMethodDescriptor yX10_isFarOf.desc).map (fun d => d.parameters.length) = some 2 := by decide +kernel
set_option maxHeartbeats 4000000 in
set_option maxRecDepth 100000 in
theorem mX10_isFarOf (l : Launch) (D : va_G) (kz : Nat → Nat) (b0 sz F : Nat) (X : qH) (a0 : Nat) (a1 : Int32) (a2 : Int32) (r : Int32) (hf : fX10_isFarOf F X a0 a1 a2 = some r) : Met l yX10_isFarOf (qws yX10_isFarOf cX10_isFarOf 5 (some .boolean)) rmX10_isFarOf (va_Pc [.ref a0, .int a1, .int a2] (qU D kz b0 sz X)) (va_Qi (fun (r' : Int32) (u : qH) => r' = r ∧ u = X) (fun u t => qO D kz b0 sz u t) (qA b0)) 0 0 (qA b0) := by
  refine q_start (by decide) (Nat.le_of_ble_eq_true rfl) ?_
  intro p e s m args below meth c hx hb hr hlocks hnm hml hown hT hR hK hz ls hl
  have hown : s.vm.findClass RX10 = some m.cls := hown
  have hl : lv_has ls 5 [(0, .ref a0), (1, .int a1), (2, .int a2)] := hl
  have hS : va_S (qA b0) s.heap s.heap [] := va_S.rf
  obtain ⟨Q, hQ⟩ : ∃ Q, Q = MQ below (va_Qi (fun (r' : Int32) (u : qH) => r' = r ∧ u = X) (fun u t => qO D kz b0 sz u t) (qA b0)) args s 0 0 (qA b0) := ⟨_, rfl⟩
  rw [← hQ]
  unfold fX10_isFarOf at hf
  obtain ⟨hthis, hf⟩ := qIs_spec hf
  refine lv_aload_n hx hb dX10_isFarOf_0 rfl (lv_at hl 0 rfl) ?_
  refine q_gR hx hb hT hown hK hR iqX10 vqX10 4 (by decide) (hT _ wfl_X10_16) hf dX10_isFarOf_1 (fun v1 hf => ?_)
  refine lv_iload_n hx hb dX10_isFarOf_4 rfl (lv_at hl 1 rfl) ?_
  refine q_iald hx hb hK hR hf dX10_isFarOf_5 (fun v2 hf => ?_)
  refine lv_aload_n hx hb dX10_isFarOf_6 rfl (lv_at hl 0 rfl) ?_
  refine q_gR hx hb hT hown hK hR iqX10 vqX10 4 (by decide) (hT _ wfl_X10_16) hf dX10_isFarOf_7 (fun v3 hf => ?_)
  refine lv_iload_n hx hb dX10_isFarOf_10 rfl (lv_at hl 2 rfl) ?_
  refine q_iald hx hb hK hR hf dX10_isFarOf_11 (fun v4 hf => ?_)
  obtain ⟨v5, hp, hf⟩ := q_b hf
  have hJ : ∀ (H : Heap) (locs : List Loc) (ls : Array Slot), qR D kz b0 X H → va_S (qA b0) s.heap H locs → H.size = sz → lv_has ls 5 [(0, .ref a0), (1, .int a1), (2, .int a2)] → W p l e rmX10_isFarOf s m args below meth c H locs 0 0 Q (F0 m 20 ls [.int v5]) := by
    intro H locs ls hR hS hz hl
    refine lv_istore_n (lv' := [(3, .int v5), (0, .ref a0), (1, .int a1), (2, .int a2)]) hx hb dX10_isFarOf_20 rfl hl (by decide) rfl (fun ls hl => ?_)
    refine lv_iconst (v := (0 : Int32)) hx hb dX10_isFarOf_21 (by decide) ?_
    refine lv_istore (lv' := [(4, .int (0 : Int32)), (3, .int v5), (0, .ref a0), (1, .int a1), (2, .int a2)]) hx hb dX10_isFarOf_22 hl (by decide) rfl (fun ls hl => ?_)
    obtain ⟨v18, ho, hf⟩ := q_b hf
    have hL : ∀ (n : Nat) (v6 : Int32) (v7 : Int32) (out : Int32), fX10_isFarOf_L24 F X a0 a1 a2 n v6 v7 = some out → (∀ (v18 : Int32), out = v18 → ∀ (H : Heap) (locs : List Loc) (ls : Array Slot), qR D kz b0 X H → va_S (qA b0) s.heap H locs → H.size = sz → lv_has ls 5 [(3, .int v18)] → W p l e rmX10_isFarOf s m args below meth c H locs 0 0 Q (F0 m 85 ls [])) → ∀ (H : Heap) (locs : List Loc) (ls : Array Slot), qR D kz b0 X H → va_S (qA b0) s.heap H locs → H.size = sz → lv_has ls 5 [(0, .ref a0), (1, .int a1), (2, .int a2), (3, .int v6), (4, .int v7)] → W p l e rmX10_isFarOf s m args below meth c H locs 0 0 Q (F0 m 24 ls []) := by
      intro n9
      induction n9 with
      | zero =>
        intro v6 v7 out hf
        exact absurd (show none = some out from hf) (by simp)
      | succ n9 ih0 =>
        intro v6 v7 out hf hex H locs ls hR hS hz hl
        have hf : fX10_isFarOf_L24_B F X a0 a1 a2 (fX10_isFarOf_L24 F X a0 a1 a2 n9) v6 v7 = some out := hf
        unfold fX10_isFarOf_L24_B at hf
        refine lv_iload hx hb dX10_isFarOf_24 (lv_at hl 4 rfl) ?_
        refine lv_aload_n hx hb dX10_isFarOf_26 rfl (lv_at hl 0 rfl) ?_
        refine q_gR hx hb hT hown hK hR iqX10 vqX10 4 (by decide) (hT _ wfl_X10_16) hf dX10_isFarOf_27 (fun v8 hf => ?_)
        refine lv_iload_n hx hb dX10_isFarOf_30 rfl (lv_at hl 1 rfl) ?_
        refine q_iald hx hb hK hR hf dX10_isFarOf_31 (fun v9 hf => ?_)
        refine lv_icmp_ge (tgt := 85) hx hb dX10_isFarOf_32 (by decide) (fun hc => ?_) (fun hc => ?_)
        · have hf := q_t hf hc
          exact hex _ (Option.some.inj hf).symm _ _ _ hR hS hz (lv_sub hl [3] rfl)
        · have hf := q_f hf hc
          refine lv_iload_n hx hb dX10_isFarOf_35 rfl (lv_at hl 3 rfl) ?_
          refine lv_if_eq (tgt := 85) hx hb dX10_isFarOf_36 (by decide) (fun hc => ?_) (fun hc => ?_)
          · have hf := q_t hf hc
            exact hex _ (Option.some.inj hf).symm _ _ _ hR hS hz (lv_sub hl [3] rfl)
          · have hf := q_f hf hc
            refine lv_aload_n hx hb dX10_isFarOf_39 rfl (lv_at hl 0 rfl) ?_
            refine q_gR hx hb hT hown hK hR iqX10 vqX10 5 (by decide) (hT _ wfl_X10_19) hf dX10_isFarOf_40 (fun v10 hf => ?_)
            refine lv_iconst (v := (5 : Int32)) hx hb dX10_isFarOf_43 (by decide) ?_
            refine lv_iload_n hx hb dX10_isFarOf_44 rfl (lv_at hl 1 rfl) ?_
            refine lv_imul hx hb dX10_isFarOf_45 ?_
            refine lv_aload_n hx hb dX10_isFarOf_46 rfl (lv_at hl 0 rfl) ?_
            refine q_gR hx hb hT hown hK hR iqX10 vqX10 4 (by decide) (hT _ wfl_X10_16) hf dX10_isFarOf_47 (fun v11 hf => ?_)
            refine lv_iload_n hx hb dX10_isFarOf_50 rfl (lv_at hl 1 rfl) ?_
            refine q_iald hx hb hK hR hf dX10_isFarOf_51 (fun v12 hf => ?_)
            refine lv_iadd hx hb dX10_isFarOf_52 ?_
            refine lv_iconst (v := (1 : Int32)) hx hb dX10_isFarOf_53 (by decide) ?_
            refine lv_isub hx hb dX10_isFarOf_54 ?_
            refine lv_iload hx hb dX10_isFarOf_55 (lv_at hl 4 rfl) ?_
            refine lv_isub hx hb dX10_isFarOf_57 ?_
            refine q_iald hx hb hK hR hf dX10_isFarOf_58 (fun v13 hf => ?_)
            refine lv_aload_n hx hb dX10_isFarOf_59 rfl (lv_at hl 0 rfl) ?_
            refine q_gR hx hb hT hown hK hR iqX10 vqX10 5 (by decide) (hT _ wfl_X10_19) hf dX10_isFarOf_60 (fun v14 hf => ?_)
            refine lv_iconst (v := (5 : Int32)) hx hb dX10_isFarOf_63 (by decide) ?_
            refine lv_iload_n hx hb dX10_isFarOf_64 rfl (lv_at hl 2 rfl) ?_
            refine lv_imul hx hb dX10_isFarOf_65 ?_
            refine lv_iload hx hb dX10_isFarOf_66 (lv_at hl 4 rfl) ?_
            refine lv_iadd hx hb dX10_isFarOf_68 ?_
            refine q_iald hx hb hK hR hf dX10_isFarOf_69 (fun v15 hf => ?_)
            obtain ⟨v16, hp, hf⟩ := q_b hf
            have hJ : ∀ (H : Heap) (locs : List Loc) (ls : Array Slot), qR D kz b0 X H → va_S (qA b0) s.heap H locs → H.size = sz → lv_has ls 5 [(0, .ref a0), (1, .int a1), (2, .int a2), (4, .int v7)] → W p l e rmX10_isFarOf s m args below meth c H locs 0 0 Q (F0 m 78 ls [.int v16]) := by
              intro H locs ls hR hS hz hl
              refine lv_istore_n (lv' := [(3, .int v16), (0, .ref a0), (1, .int a1), (2, .int a2), (4, .int v7)]) hx hb dX10_isFarOf_78 rfl hl (by decide) rfl (fun ls hl => ?_)
              obtain ⟨v17, ev17⟩ : ∃ y : Int32, y = (v7 + (1 : Int32)) := ⟨_, rfl⟩
              have hf := q_lt ev17 hf
              refine lv_iinc (v := v17) (lv' := [(4, .int v17), (3, .int v16), (0, .ref a0), (1, .int a1), (2, .int a2)]) hx hb dX10_isFarOf_79 hl (k := 4) rfl (by rw [ev17]; rfl) (by decide) rfl (fun ls hl => ?_)
              refine lv_goto (tgt := 24) hx hb dX10_isFarOf_82 (by decide) ?_
              exact ih0 _ _ out hf hex _ _ _ hR hS hz (lv_sub hl [2, 3, 4, 1, 0] rfl)
            have hf := hp
            refine lv_icmp_ne (tgt := 77) hx hb dX10_isFarOf_70 (by decide) (fun hc => ?_) (fun hc => ?_)
            · have hf := q_f hf hc
              refine lv_iconst (v := (0 : Int32)) hx hb dX10_isFarOf_77 (by decide) ?_
              cases hf
              exact hJ _ _ _ hR hS hz (lv_sub hl [0, 1, 2, 4] rfl)
            · have hf := q_t hf hc
              refine lv_iconst (v := (1 : Int32)) hx hb dX10_isFarOf_73 (by decide) ?_
              refine lv_goto (tgt := 78) hx hb dX10_isFarOf_74 (by decide) ?_
              cases hf
              exact hJ _ _ _ hR hS hz (lv_sub hl [0, 1, 2, 4] rfl)
    refine hL F _ _ _ ho (fun z0 h9 => ?_) _ _ _ hR hS hz (lv_sub hl [2, 3, 4, 1, 0] rfl)
    cases h9
    intro H locs ls hR hS hz hl
    refine lv_iload_n hx hb dX10_isFarOf_85 rfl (lv_at hl 0 rfl) ?_
    subst hQ
    obtain ⟨z9, hz9, hf⟩ := q_b hf
    obtain ⟨rfl, h01⟩ := qz_spec hz9
    exact q_zret hx hb hr hlocks hR hS hz (Option.some.inj hf) h01 rfl dX10_isFarOf_86
  have hf := hp
  refine lv_icmp_ne (tgt := 19) hx hb dX10_isFarOf_12 (by decide) (fun hc => ?_) (fun hc => ?_)
  · have hf := q_f hf hc
    refine lv_iconst (v := (0 : Int32)) hx hb dX10_isFarOf_19 (by decide) ?_
    cases hf
    exact hJ _ _ _ hR hS hz (lv_sub hl [0, 1, 2] rfl)
  · have hf := q_t hf hc
    refine lv_iconst (v := (1 : Int32)) hx hb dX10_isFarOf_15 (by decide) ?_
    refine lv_goto (tgt := 20) hx hb dX10_isFarOf_16 (by decide) ?_
    cases hf
    exact hJ _ _ _ hR hS hz (lv_sub hl [0, 1, 2] rfl)
/-! X10_farShore -/
def fX10_farShore_L28_B (F : Nat) (X : qH) (a0 : Nat) (a1 : Int32) (v3 : Int32) (self0 : Int32 → Int32 → Option (Int32)) (v5 : Int32) (v6 : Int32) : Option (Int32) :=
(qgI X 9 a0 1).bind fun v7 =>
if v7 ≤ v6 then (some v5)
else ((if a1 = (0 : Int32) then (some (1 : Int32))
else (some (0 : Int32)) : Option Int32).bind fun v8 =>
(if v6 = v3 then (some (0 : Int32))
else (some (1 : Int32)) : Option Int32).bind fun v9 =>
(if v8 = v9 then ((fX10_isFarOf F X a0 v3 v6).bind fun v13 =>
if v13 = (0 : Int32) then (some (0 : Int32))
else (some ((1 : Int32) <<< (v3 &&& 31))))
else (some (0 : Int32)) : Option Int32).bind fun v10 =>
qlt (v5 ||| v10) fun v11 =>
qlt (v6 + (1 : Int32)) fun v12 =>
self0 v11 v12)
def fX10_farShore_L28 (F : Nat) (X : qH) (a0 : Nat) (a1 : Int32) (v3 : Int32) : Nat → Int32 → Int32 → Option (Int32)
  | 0, _, _ => none
  | n + 1, v5, v6 => fX10_farShore_L28_B F X a0 a1 v3 (fX10_farShore_L28 F X a0 a1 v3 n) v5 v6
def fX10_farShore_L17_B (F : Nat) (X : qH) (a0 : Nat) (a1 : Int32) (self0 : Int32 → Int32 → Option (Int32)) (v2 : Int32) (v3 : Int32) : Option (Int32) :=
(qgI X 9 a0 1).bind fun v4 =>
if v4 ≤ v3 then (some v2)
else ((fX10_farShore_L28 F X a0 a1 v3 F v2 (0 : Int32)).bind fun v14 =>
qlt (v3 + (1 : Int32)) fun v15 =>
self0 v14 v15)
def fX10_farShore_L17 (F : Nat) (X : qH) (a0 : Nat) (a1 : Int32) : Nat → Int32 → Int32 → Option (Int32)
  | 0, _, _ => none
  | n + 1, v2, v3 => fX10_farShore_L17_B F X a0 a1 (fX10_farShore_L17 F X a0 a1 n) v2 v3
def fX10_farShore (F : Nat) (X : qH) (a0 : Nat) (a1 : Int32) : Option (Int32) :=
qIs 9 X a0 <|
(fX10_in F X ((a1).toInt64) (0 : Int64) (1 : Int64)).bind fun v1 =>
if v1 = (0 : Int32) then (some (-1000000002 : Int32))
else ((fX10_farShore_L17 F X a0 a1 F (0 : Int32) (0 : Int32)).bind fun v16 =>
some v16)
abbrev rmX10_farShore : Room := { frames := 1, cells := 0, slots := 0, locals := 25 }
theorem fX10_farShore_is {F : Nat} {X : qH} {a0 : Nat} {a1 : Int32} {r9 : Int32} (h : fX10_farShore F X a0 a1 = some r9) : ∃ fs, X a0 = some (.inr (9, fs)) := (qIs_spec h).1
theorem hdX10_farShore : yX10_farShore.cls = RX10 ∧ yX10_farShore.cls ≠ "java/lang/invoke/MethodHandle" ∧ yX10_farShore.cls ≠ "java/lang/invoke/VarHandle" ∧ (parseMethodDescriptor yX10_farShore.desc).map (fun d => d.parameters.length) = some 1 := by decide +kernel
set_option maxHeartbeats 4000000 in
set_option maxRecDepth 100000 in
theorem mX10_farShore (l : Launch) (D : va_G) (kz : Nat → Nat) (b0 sz F : Nat) (X : qH) (a0 : Nat) (a1 : Int32) (r : Int32) (hf : fX10_farShore F X a0 a1 = some r) : Met l yX10_farShore (qws yX10_farShore cX10_farShore 5 (some .int)) rmX10_farShore (va_Pc [.ref a0, .int a1] (qU D kz b0 sz X)) (va_Qi (fun (r' : Int32) (u : qH) => r' = r ∧ u = X) (fun u t => qO D kz b0 sz u t) (qA b0)) 0 0 (qA b0) := by
  refine q_start (by decide) (Nat.le_of_ble_eq_true rfl) ?_
  intro p e s m args below meth c hx hb hr hlocks hnm hml hown hT hR hK hz ls hl
  have hown : s.vm.findClass RX10 = some m.cls := hown
  have hl : lv_has ls 5 [(0, .ref a0), (1, .int a1)] := hl
  have hS : va_S (qA b0) s.heap s.heap [] := va_S.rf
  obtain ⟨Q, hQ⟩ : ∃ Q, Q = MQ below (va_Qi (fun (r' : Int32) (u : qH) => r' = r ∧ u = X) (fun u t => qO D kz b0 sz u t) (qA b0)) args s 0 0 (qA b0) := ⟨_, rfl⟩
  rw [← hQ]
  unfold fX10_farShore at hf
  obtain ⟨hthis, hf⟩ := qIs_spec hf
  refine lv_iload_n hx hb dX10_farShore_0 rfl (lv_at hl 1 rfl) ?_
  refine lv_i2l hx hb dX10_farShore_1 rfl ?_
  refine lv_lconst (v := (0 : Int64)) hx hb dX10_farShore_2 (by decide) ?_
  refine lv_lconst (v := (1 : Int64)) hx hb dX10_farShore_3 (by decide) ?_
  obtain ⟨v1, hc, hf⟩ := q_b hf
  refine q_calli (va_runS (As := [.long ((a1).toInt64), .long (0 : Int64), .long (1 : Int64)]) (rest := []) ⟨hx, hb, hml, hown, hT⟩ (mX10_in l D kz b0 sz F X ((a1).toInt64) (0 : Int64) (1 : Int64) v1 hc) (va_cwS 3 hT (q_gS wco_X10_in wml_X10_105 wst_X10_in win_X10) rfl rfl rfl hdX10_in ⟨Nat.le_of_ble_eq_true rfl, Nat.le_of_ble_eq_true rfl⟩) (q_preS hR hK hz) rfl rfl hl.1 rfl (lv_room (Nat.le_of_ble_eq_true rfl)) dX10_farShore_4 ⟨Nat.le_of_ble_eq_true rfl, Nat.le_of_ble_eq_true rfl⟩) hS (fun H locs hR hS hz => ?_)
  refine lv_if_ne (tgt := 13) hx hb dX10_farShore_7 (by decide) (fun hc => ?_) (fun hc => ?_)
  · have hf := q_f hf hc
    refine lv_iconst (v := (0 : Int32)) hx hb dX10_farShore_13 (by decide) ?_
    refine lv_istore_n (lv' := [(2, .int (0 : Int32)), (0, .ref a0), (1, .int a1)]) hx hb dX10_farShore_14 rfl hl (by decide) rfl (fun ls hl => ?_)
    refine lv_iconst (v := (0 : Int32)) hx hb dX10_farShore_15 (by decide) ?_
    refine lv_istore_n (lv' := [(3, .int (0 : Int32)), (2, .int (0 : Int32)), (0, .ref a0), (1, .int a1)]) hx hb dX10_farShore_16 rfl hl (by decide) rfl (fun ls hl => ?_)
    obtain ⟨v16, ho, hf⟩ := q_b hf
    have hL : ∀ (n : Nat) (v2 : Int32) (v3 : Int32) (out : Int32), fX10_farShore_L17 F X a0 a1 n v2 v3 = some out → (∀ (v16 : Int32), out = v16 → ∀ (H : Heap) (locs : List Loc) (ls : Array Slot), qR D kz b0 X H → va_S (qA b0) s.heap H locs → H.size = sz → lv_has ls 5 [(2, .int v16)] → W p l e rmX10_farShore s m args below meth c H locs 0 0 Q (F0 m 92 ls [])) → ∀ (H : Heap) (locs : List Loc) (ls : Array Slot), qR D kz b0 X H → va_S (qA b0) s.heap H locs → H.size = sz → lv_has ls 5 [(0, .ref a0), (1, .int a1), (2, .int v2), (3, .int v3)] → W p l e rmX10_farShore s m args below meth c H locs 0 0 Q (F0 m 17 ls []) := by
      intro n9
      induction n9 with
      | zero =>
        intro v2 v3 out hf
        exact absurd (show none = some out from hf) (by simp)
      | succ n9 ih0 =>
        intro v2 v3 out hf hex H locs ls hR hS hz hl
        have hf : fX10_farShore_L17_B F X a0 a1 (fX10_farShore_L17 F X a0 a1 n9) v2 v3 = some out := hf
        unfold fX10_farShore_L17_B at hf
        refine lv_iload_n hx hb dX10_farShore_17 rfl (lv_at hl 3 rfl) ?_
        refine lv_aload_n hx hb dX10_farShore_18 rfl (lv_at hl 0 rfl) ?_
        refine q_gI hx hb hT hown hK hR iqX10 vqX10 1 (by decide) (hT _ wfl_X10_102) hf dX10_farShore_19 (fun v4 hf => ?_)
        refine lv_icmp_ge (tgt := 92) hx hb dX10_farShore_22 (by decide) (fun hc => ?_) (fun hc => ?_)
        · have hf := q_t hf hc
          exact hex _ (Option.some.inj hf).symm _ _ _ hR hS hz (lv_sub hl [2] rfl)
        · have hf := q_f hf hc
          refine lv_iconst (v := (0 : Int32)) hx hb dX10_farShore_25 (by decide) ?_
          refine lv_istore (lv' := [(4, .int (0 : Int32)), (0, .ref a0), (1, .int a1), (2, .int v2), (3, .int v3)]) hx hb dX10_farShore_26 hl (by decide) rfl (fun ls hl => ?_)
          obtain ⟨v14, ho, hf⟩ := q_b hf
          have hL : ∀ (n : Nat) (v5 : Int32) (v6 : Int32) (out : Int32), fX10_farShore_L28 F X a0 a1 v3 n v5 v6 = some out → (∀ (v14 : Int32), out = v14 → ∀ (H : Heap) (locs : List Loc) (ls : Array Slot), qR D kz b0 X H → va_S (qA b0) s.heap H locs → H.size = sz → lv_has ls 5 [(0, .ref a0), (1, .int a1), (2, .int v14), (3, .int v3)] → W p l e rmX10_farShore s m args below meth c H locs 0 0 Q (F0 m 86 ls [])) → ∀ (H : Heap) (locs : List Loc) (ls : Array Slot), qR D kz b0 X H → va_S (qA b0) s.heap H locs → H.size = sz → lv_has ls 5 [(0, .ref a0), (1, .int a1), (2, .int v5), (3, .int v3), (4, .int v6)] → W p l e rmX10_farShore s m args below meth c H locs 0 0 Q (F0 m 28 ls []) := by
            intro n9
            induction n9 with
            | zero =>
              intro v5 v6 out hf
              exact absurd (show none = some out from hf) (by simp)
            | succ n9 ih0 =>
              intro v5 v6 out hf hex H locs ls hR hS hz hl
              have hf : fX10_farShore_L28_B F X a0 a1 v3 (fX10_farShore_L28 F X a0 a1 v3 n9) v5 v6 = some out := hf
              unfold fX10_farShore_L28_B at hf
              refine lv_iload hx hb dX10_farShore_28 (lv_at hl 4 rfl) ?_
              refine lv_aload_n hx hb dX10_farShore_30 rfl (lv_at hl 0 rfl) ?_
              refine q_gI hx hb hT hown hK hR iqX10 vqX10 1 (by decide) (hT _ wfl_X10_102) hf dX10_farShore_31 (fun v7 hf => ?_)
              refine lv_icmp_ge (tgt := 86) hx hb dX10_farShore_34 (by decide) (fun hc => ?_) (fun hc => ?_)
              · have hf := q_t hf hc
                exact hex _ (Option.some.inj hf).symm _ _ _ hR hS hz (lv_sub hl [0, 1, 2, 3] rfl)
              · have hf := q_f hf hc
                refine lv_iload_n hx hb dX10_farShore_37 rfl (lv_at hl 2 rfl) ?_
                refine lv_iload_n hx hb dX10_farShore_38 rfl (lv_at hl 1 rfl) ?_
                obtain ⟨v8, hp, hf⟩ := q_b hf
                have hJ : ∀ (H : Heap) (locs : List Loc) (ls : Array Slot), qR D kz b0 X H → va_S (qA b0) s.heap H locs → H.size = sz → lv_has ls 5 [(0, .ref a0), (1, .int a1), (3, .int v3), (4, .int v6)] → W p l e rmX10_farShore s m args below meth c H locs 0 0 Q (F0 m 47 ls [.int v8, .int v5]) := by
                  intro H locs ls hR hS hz hl
                  refine lv_iload hx hb dX10_farShore_47 (lv_at hl 3 rfl) ?_
                  refine lv_iload_n hx hb dX10_farShore_49 rfl (lv_at hl 2 rfl) ?_
                  obtain ⟨v9, hp, hf⟩ := q_b hf
                  have hJ : ∀ (H : Heap) (locs : List Loc) (ls : Array Slot), qR D kz b0 X H → va_S (qA b0) s.heap H locs → H.size = sz → lv_has ls 5 [(0, .ref a0), (1, .int a1), (3, .int v3), (4, .int v6)] → W p l e rmX10_farShore s m args below meth c H locs 0 0 Q (F0 m 58 ls [.int v9, .int v8, .int v5]) := by
                    intro H locs ls hR hS hz hl
                    obtain ⟨v10, hp, hf⟩ := q_b hf
                    have hJ : ∀ (H : Heap) (locs : List Loc) (ls : Array Slot), qR D kz b0 X H → va_S (qA b0) s.heap H locs → H.size = sz → lv_has ls 5 [(0, .ref a0), (1, .int a1), (3, .int v3), (4, .int v6)] → W p l e rmX10_farShore s m args below meth c H locs 0 0 Q (F0 m 78 ls [.int v10, .int v5]) := by
                      intro H locs ls hR hS hz hl
                      refine lv_ior hx hb dX10_farShore_78 ?_
                      refine lv_topi (fun v11 ev11 => ?_)
                      have hf := q_lt ev11 hf
                      refine lv_istore_n (lv' := [(2, .int v11), (0, .ref a0), (1, .int a1), (3, .int v3), (4, .int v6)]) hx hb dX10_farShore_79 rfl hl (by decide) rfl (fun ls hl => ?_)
                      obtain ⟨v12, ev12⟩ : ∃ y : Int32, y = (v6 + (1 : Int32)) := ⟨_, rfl⟩
                      have hf := q_lt ev12 hf
                      refine lv_iinc (v := v12) (lv' := [(4, .int v12), (2, .int v11), (0, .ref a0), (1, .int a1), (3, .int v3)]) hx hb dX10_farShore_80 hl (k := 4) rfl (by rw [ev12]; rfl) (by decide) rfl (fun ls hl => ?_)
                      refine lv_goto (tgt := 28) hx hb dX10_farShore_83 (by decide) ?_
                      exact ih0 _ _ out hf hex _ _ _ hR hS hz (lv_sub hl [2, 3, 1, 4, 0] rfl)
                    have hf := hp
                    refine lv_icmp_ne (tgt := 77) hx hb dX10_farShore_58 (by decide) (fun hc => ?_) (fun hc => ?_)
                    · have hf := q_f hf hc
                      refine lv_iconst (v := (0 : Int32)) hx hb dX10_farShore_77 (by decide) ?_
                      cases hf
                      exact hJ _ _ _ hR hS hz (lv_sub hl [0, 1, 2, 3] rfl)
                    · have hf := q_t hf hc
                      refine lv_aload_n hx hb dX10_farShore_61 rfl (lv_at hl 0 rfl) ?_
                      refine lv_iload_n hx hb dX10_farShore_62 rfl (lv_at hl 2 rfl) ?_
                      refine lv_iload hx hb dX10_farShore_63 (lv_at hl 3 rfl) ?_
                      obtain ⟨v13, hc, hf⟩ := q_b hf
                      refine q_calli (va_runV (As := [.int v3, .int v6]) (rest := [.int v5]) ⟨hx, hb, hml, hown, hT⟩ (mX10_isFarOf l D kz b0 sz F X a0 v3 v6 v13 hc) (cwV 2 hT (q_gV wco_X10_isFarOf wml_X10_282 wim_X10_isFarOf wse_X10_isFarOf win_X10) rfl rfl rfl hdX10_isFarOf ⟨Nat.le_of_ble_eq_true rfl, Nat.le_of_ble_eq_true rfl⟩) (q_preV vqX10 (fX10_isFarOf_is hc) hR hK hz) rfl rfl hl.1 rfl (lv_room (Nat.le_of_ble_eq_true rfl)) dX10_farShore_65 ⟨Nat.le_of_ble_eq_true rfl, Nat.le_of_ble_eq_true rfl⟩) hS (fun H locs hR hS hz => ?_)
                      refine lv_if_eq (tgt := 77) hx hb dX10_farShore_68 (by decide) (fun hc => ?_) (fun hc => ?_)
                      · have hf := q_t hf hc
                        refine lv_iconst (v := (0 : Int32)) hx hb dX10_farShore_77 (by decide) ?_
                        cases hf
                        exact hJ _ _ _ hR hS hz (lv_sub hl [0, 1, 2, 3] rfl)
                      · have hf := q_f hf hc
                        refine lv_iconst (v := (1 : Int32)) hx hb dX10_farShore_71 (by decide) ?_
                        refine lv_iload_n hx hb dX10_farShore_72 rfl (lv_at hl 2 rfl) ?_
                        refine lv_ishl hx hb dX10_farShore_73 ?_
                        refine lv_goto (tgt := 78) hx hb dX10_farShore_74 (by decide) ?_
                        cases hf
                        exact hJ _ _ _ hR hS hz (lv_sub hl [0, 1, 2, 3] rfl)
                  have hf := hp
                  refine lv_icmp_eq (tgt := 57) hx hb dX10_farShore_50 (by decide) (fun hc => ?_) (fun hc => ?_)
                  · have hf := q_t hf hc
                    refine lv_iconst (v := (0 : Int32)) hx hb dX10_farShore_57 (by decide) ?_
                    cases hf
                    exact hJ _ _ _ hR hS hz (lv_sub hl [0, 1, 2, 3] rfl)
                  · have hf := q_f hf hc
                    refine lv_iconst (v := (1 : Int32)) hx hb dX10_farShore_53 (by decide) ?_
                    refine lv_goto (tgt := 58) hx hb dX10_farShore_54 (by decide) ?_
                    cases hf
                    exact hJ _ _ _ hR hS hz (lv_sub hl [0, 1, 2, 3] rfl)
                have hf := hp
                refine lv_if_ne (tgt := 46) hx hb dX10_farShore_39 (by decide) (fun hc => ?_) (fun hc => ?_)
                · have hf := q_f hf hc
                  refine lv_iconst (v := (0 : Int32)) hx hb dX10_farShore_46 (by decide) ?_
                  cases hf
                  exact hJ _ _ _ hR hS hz (lv_sub hl [0, 1, 3, 4] rfl)
                · have hf := q_t hf hc
                  refine lv_iconst (v := (1 : Int32)) hx hb dX10_farShore_42 (by decide) ?_
                  refine lv_goto (tgt := 47) hx hb dX10_farShore_43 (by decide) ?_
                  cases hf
                  exact hJ _ _ _ hR hS hz (lv_sub hl [0, 1, 3, 4] rfl)
          refine hL F _ _ _ ho (fun z0 h9 => ?_) _ _ _ hR hS hz (lv_sub hl [1, 2, 3, 4, 0] rfl)
          cases h9
          intro H locs ls hR hS hz hl
          obtain ⟨v15, ev15⟩ : ∃ y : Int32, y = (v3 + (1 : Int32)) := ⟨_, rfl⟩
          have hf := q_lt ev15 hf
          refine lv_iinc (v := v15) (lv' := [(3, .int v15), (0, .ref a0), (1, .int a1), (2, .int v14)]) hx hb dX10_farShore_86 hl (k := 3) rfl (by rw [ev15]; rfl) (by decide) rfl (fun ls hl => ?_)
          refine lv_goto (tgt := 17) hx hb dX10_farShore_89 (by decide) ?_
          exact ih0 _ _ out hf hex _ _ _ hR hS hz (lv_sub hl [1, 2, 3, 0] rfl)
    refine hL F _ _ _ ho (fun z0 h9 => ?_) _ _ _ hR hS hz (lv_sub hl [2, 3, 1, 0] rfl)
    cases h9
    intro H locs ls hR hS hz hl
    refine lv_iload_n hx hb dX10_farShore_92 rfl (lv_at hl 0 rfl) ?_
    subst hQ
    exact q_iret hx hb hr hlocks hR hS hz (Option.some.inj hf) rfl dX10_farShore_93
  · have hf := q_t hf hc
    refine lv_ldc (v := (-1000000002 : Int32)) hx hb hown (hT _ wk_X10_111) dX10_farShore_10 ?_
    subst hQ
    exact q_iret hx hb hr hlocks hR hS hz (Option.some.inj hf) rfl dX10_farShore_12
/-! X10_cross -/
def fX10_cross_L17_B (F : Nat) (X : qH) (a0 : Nat) (a1 : Int32) (a2 : Int32) (self0 : Int32 → Int32 → Option (Int32)) (v2 : Int32) (v3 : Int32) : Option (Int32) :=
(qgI X 9 a0 1).bind fun v4 =>
if v4 ≤ v3 then (some v2)
else ((qgR X 9 a0 2).bind fun v5 =>
(qaI X 0 v5 a1).bind fun v6 =>
(qgR X 9 a0 2).bind fun v7 =>
(qaI X 0 v7 a2).bind fun v8 =>
(fX10_apart F X v6 v8).bind fun v9 =>
(if v9 = (2 : Int32) then ((qgR X 9 a0 2).bind fun v12 =>
(qaI X 0 v12 v3).bind fun v13 =>
(qgR X 9 a0 2).bind fun v14 =>
(qaI X 0 v14 a1).bind fun v15 =>
(qgR X 9 a0 2).bind fun v16 =>
(qaI X 0 v16 a2).bind fun v17 =>
if ((2 : Int32) * v13) = (v15 + v17) then (some v3)
else (some v2))
else (some v2) : Option Int32).bind fun v10 =>
qlt (v3 + (1 : Int32)) fun v11 =>
self0 v10 v11)
def fX10_cross_L17 (F : Nat) (X : qH) (a0 : Nat) (a1 : Int32) (a2 : Int32) : Nat → Int32 → Int32 → Option (Int32)
  | 0, _, _ => none
  | n + 1, v2, v3 => fX10_cross_L17_B F X a0 a1 a2 (fX10_cross_L17 F X a0 a1 a2 n) v2 v3
def fX10_cross (F : Nat) (X : qH) (a0 : Nat) (a1 : Int32) (a2 : Int32) : Option (Int32) :=
qIs 9 X a0 <|
(fX10_areTwo F X a0 a1 a2).bind fun v1 =>
if v1 = (0 : Int32) then (some (-1000000001 : Int32))
else ((fX10_cross_L17 F X a0 a1 a2 F (-1 : Int32) (0 : Int32)).bind fun v18 =>
some v18)
abbrev rmX10_cross : Room := { frames := 3, cells := 0, slots := 0, locals := 68 }
theorem fX10_cross_is {F : Nat} {X : qH} {a0 : Nat} {a1 : Int32} {a2 : Int32} {r9 : Int32} (h : fX10_cross F X a0 a1 a2 = some r9) : ∃ fs, X a0 = some (.inr (9, fs)) := (qIs_spec h).1
theorem hdX10_cross : yX10_cross.cls = RX10 ∧ yX10_cross.cls ≠ "java/lang/invoke/MethodHandle" ∧ yX10_cross.cls ≠ "java/lang/invoke/VarHandle" ∧ (parseMethodDescriptor yX10_cross.desc).map (fun d => d.parameters.length) = some 2 := by decide +kernel
set_option maxHeartbeats 4000000 in
set_option maxRecDepth 100000 in
theorem mX10_cross (l : Launch) (D : va_G) (kz : Nat → Nat) (b0 sz F : Nat) (X : qH) (a0 : Nat) (a1 : Int32) (a2 : Int32) (r : Int32) (hf : fX10_cross F X a0 a1 a2 = some r) : Met l yX10_cross (qws yX10_cross cX10_cross 5 (some .int)) rmX10_cross (va_Pc [.ref a0, .int a1, .int a2] (qU D kz b0 sz X)) (va_Qi (fun (r' : Int32) (u : qH) => r' = r ∧ u = X) (fun u t => qO D kz b0 sz u t) (qA b0)) 0 0 (qA b0) := by
  refine q_start (by decide) (Nat.le_of_ble_eq_true rfl) ?_
  intro p e s m args below meth c hx hb hr hlocks hnm hml hown hT hR hK hz ls hl
  have hown : s.vm.findClass RX10 = some m.cls := hown
  have hl : lv_has ls 5 [(0, .ref a0), (1, .int a1), (2, .int a2)] := hl
  have hS : va_S (qA b0) s.heap s.heap [] := va_S.rf
  obtain ⟨Q, hQ⟩ : ∃ Q, Q = MQ below (va_Qi (fun (r' : Int32) (u : qH) => r' = r ∧ u = X) (fun u t => qO D kz b0 sz u t) (qA b0)) args s 0 0 (qA b0) := ⟨_, rfl⟩
  rw [← hQ]
  unfold fX10_cross at hf
  obtain ⟨hthis, hf⟩ := qIs_spec hf
  refine lv_aload_n hx hb dX10_cross_0 rfl (lv_at hl 0 rfl) ?_
  refine lv_iload_n hx hb dX10_cross_1 rfl (lv_at hl 1 rfl) ?_
  refine lv_iload_n hx hb dX10_cross_2 rfl (lv_at hl 2 rfl) ?_
  obtain ⟨v1, hc, hf⟩ := q_b hf
  refine q_calli (va_runV (As := [.int a1, .int a2]) (rest := []) ⟨hx, hb, hml, hown, hT⟩ (mX10_areTwo l D kz b0 sz F X a0 a1 a2 v1 hc) (cwV 2 hT (q_gV wco_X10_areTwo wml_X10_226 wim_X10_areTwo wse_X10_areTwo win_X10) rfl rfl rfl hdX10_areTwo ⟨Nat.le_of_ble_eq_true rfl, Nat.le_of_ble_eq_true rfl⟩) (q_preV vqX10 (fX10_areTwo_is hc) hR hK hz) rfl rfl hl.1 rfl (lv_room (Nat.le_of_ble_eq_true rfl)) dX10_cross_3 ⟨Nat.le_of_ble_eq_true rfl, Nat.le_of_ble_eq_true rfl⟩) hS (fun H locs hR hS hz => ?_)
  refine lv_if_ne (tgt := 12) hx hb dX10_cross_6 (by decide) (fun hc => ?_) (fun hc => ?_)
  · have hf := q_f hf hc
    refine lv_iconst (v := (-1 : Int32)) hx hb dX10_cross_12 (by decide) ?_
    refine lv_istore_n (lv' := [(3, .int (-1 : Int32)), (0, .ref a0), (1, .int a1), (2, .int a2)]) hx hb dX10_cross_13 rfl hl (by decide) rfl (fun ls hl => ?_)
    refine lv_iconst (v := (0 : Int32)) hx hb dX10_cross_14 (by decide) ?_
    refine lv_istore (lv' := [(4, .int (0 : Int32)), (3, .int (-1 : Int32)), (0, .ref a0), (1, .int a1), (2, .int a2)]) hx hb dX10_cross_15 hl (by decide) rfl (fun ls hl => ?_)
    obtain ⟨v18, ho, hf⟩ := q_b hf
    have hL : ∀ (n : Nat) (v2 : Int32) (v3 : Int32) (out : Int32), fX10_cross_L17 F X a0 a1 a2 n v2 v3 = some out → (∀ (v18 : Int32), out = v18 → ∀ (H : Heap) (locs : List Loc) (ls : Array Slot), qR D kz b0 X H → va_S (qA b0) s.heap H locs → H.size = sz → lv_has ls 5 [(3, .int v18)] → W p l e rmX10_cross s m args below meth c H locs 0 0 Q (F0 m 83 ls [])) → ∀ (H : Heap) (locs : List Loc) (ls : Array Slot), qR D kz b0 X H → va_S (qA b0) s.heap H locs → H.size = sz → lv_has ls 5 [(0, .ref a0), (1, .int a1), (2, .int a2), (3, .int v2), (4, .int v3)] → W p l e rmX10_cross s m args below meth c H locs 0 0 Q (F0 m 17 ls []) := by
      intro n9
      induction n9 with
      | zero =>
        intro v2 v3 out hf
        exact absurd (show none = some out from hf) (by simp)
      | succ n9 ih0 =>
        intro v2 v3 out hf hex H locs ls hR hS hz hl
        have hf : fX10_cross_L17_B F X a0 a1 a2 (fX10_cross_L17 F X a0 a1 a2 n9) v2 v3 = some out := hf
        unfold fX10_cross_L17_B at hf
        refine lv_iload hx hb dX10_cross_17 (lv_at hl 4 rfl) ?_
        refine lv_aload_n hx hb dX10_cross_19 rfl (lv_at hl 0 rfl) ?_
        refine q_gI hx hb hT hown hK hR iqX10 vqX10 1 (by decide) (hT _ wfl_X10_102) hf dX10_cross_20 (fun v4 hf => ?_)
        refine lv_icmp_ge (tgt := 83) hx hb dX10_cross_23 (by decide) (fun hc => ?_) (fun hc => ?_)
        · have hf := q_t hf hc
          exact hex _ (Option.some.inj hf).symm _ _ _ hR hS hz (lv_sub hl [3] rfl)
        · have hf := q_f hf hc
          refine lv_aload_n hx hb dX10_cross_26 rfl (lv_at hl 0 rfl) ?_
          refine q_gR hx hb hT hown hK hR iqX10 vqX10 2 (by decide) (hT _ wfl_X10_7) hf dX10_cross_27 (fun v5 hf => ?_)
          refine lv_iload_n hx hb dX10_cross_30 rfl (lv_at hl 1 rfl) ?_
          refine q_iald hx hb hK hR hf dX10_cross_31 (fun v6 hf => ?_)
          refine lv_aload_n hx hb dX10_cross_32 rfl (lv_at hl 0 rfl) ?_
          refine q_gR hx hb hT hown hK hR iqX10 vqX10 2 (by decide) (hT _ wfl_X10_7) hf dX10_cross_33 (fun v7 hf => ?_)
          refine lv_iload_n hx hb dX10_cross_36 rfl (lv_at hl 2 rfl) ?_
          refine q_iald hx hb hK hR hf dX10_cross_37 (fun v8 hf => ?_)
          obtain ⟨v9, hc, hf⟩ := q_b hf
          refine q_calli (va_runS (As := [.int v6, .int v8]) (rest := []) ⟨hx, hb, hml, hown, hT⟩ (mX10_apart l D kz b0 sz F X v6 v8 v9 hc) (va_cwS 2 hT (q_gS wco_X10_apart wml_X10_217 wst_X10_apart win_X10) rfl rfl rfl hdX10_apart ⟨Nat.le_of_ble_eq_true rfl, Nat.le_of_ble_eq_true rfl⟩) (q_preS hR hK hz) rfl rfl hl.1 rfl (lv_room (Nat.le_of_ble_eq_true rfl)) dX10_cross_38 ⟨Nat.le_of_ble_eq_true rfl, Nat.le_of_ble_eq_true rfl⟩) hS (fun H locs hR hS hz => ?_)
          refine lv_iconst (v := (2 : Int32)) hx hb dX10_cross_41 (by decide) ?_
          obtain ⟨v10, hp, hf⟩ := q_b hf
          have hJ : ∀ (H : Heap) (locs : List Loc) (ls : Array Slot), qR D kz b0 X H → va_S (qA b0) s.heap H locs → H.size = sz → lv_has ls 5 [(0, .ref a0), (1, .int a1), (2, .int a2), (4, .int v3)] → W p l e rmX10_cross s m args below meth c H locs 0 0 Q (F0 m 76 ls [.int v10]) := by
            intro H locs ls hR hS hz hl
            refine lv_istore_n (lv' := [(3, .int v10), (0, .ref a0), (1, .int a1), (2, .int a2), (4, .int v3)]) hx hb dX10_cross_76 rfl hl (by decide) rfl (fun ls hl => ?_)
            obtain ⟨v11, ev11⟩ : ∃ y : Int32, y = (v3 + (1 : Int32)) := ⟨_, rfl⟩
            have hf := q_lt ev11 hf
            refine lv_iinc (v := v11) (lv' := [(4, .int v11), (3, .int v10), (0, .ref a0), (1, .int a1), (2, .int a2)]) hx hb dX10_cross_77 hl (k := 4) rfl (by rw [ev11]; rfl) (by decide) rfl (fun ls hl => ?_)
            refine lv_goto (tgt := 17) hx hb dX10_cross_80 (by decide) ?_
            exact ih0 _ _ out hf hex _ _ _ hR hS hz (lv_sub hl [2, 3, 4, 1, 0] rfl)
          have hf := hp
          refine lv_icmp_ne (tgt := 75) hx hb dX10_cross_42 (by decide) (fun hc => ?_) (fun hc => ?_)
          · have hf := q_f hf hc
            refine lv_iload_n hx hb dX10_cross_75 rfl (lv_at hl 3 rfl) ?_
            cases hf
            exact hJ _ _ _ hR hS hz (lv_sub hl [0, 1, 2, 4] rfl)
          · have hf := q_t hf hc
            refine lv_iconst (v := (2 : Int32)) hx hb dX10_cross_45 (by decide) ?_
            refine lv_aload_n hx hb dX10_cross_46 rfl (lv_at hl 0 rfl) ?_
            refine q_gR hx hb hT hown hK hR iqX10 vqX10 2 (by decide) (hT _ wfl_X10_7) hf dX10_cross_47 (fun v12 hf => ?_)
            refine lv_iload hx hb dX10_cross_50 (lv_at hl 4 rfl) ?_
            refine q_iald hx hb hK hR hf dX10_cross_52 (fun v13 hf => ?_)
            refine lv_imul hx hb dX10_cross_53 ?_
            refine lv_aload_n hx hb dX10_cross_54 rfl (lv_at hl 0 rfl) ?_
            refine q_gR hx hb hT hown hK hR iqX10 vqX10 2 (by decide) (hT _ wfl_X10_7) hf dX10_cross_55 (fun v14 hf => ?_)
            refine lv_iload_n hx hb dX10_cross_58 rfl (lv_at hl 1 rfl) ?_
            refine q_iald hx hb hK hR hf dX10_cross_59 (fun v15 hf => ?_)
            refine lv_aload_n hx hb dX10_cross_60 rfl (lv_at hl 0 rfl) ?_
            refine q_gR hx hb hT hown hK hR iqX10 vqX10 2 (by decide) (hT _ wfl_X10_7) hf dX10_cross_61 (fun v16 hf => ?_)
            refine lv_iload_n hx hb dX10_cross_64 rfl (lv_at hl 2 rfl) ?_
            refine q_iald hx hb hK hR hf dX10_cross_65 (fun v17 hf => ?_)
            refine lv_iadd hx hb dX10_cross_66 ?_
            refine lv_icmp_ne (tgt := 75) hx hb dX10_cross_67 (by decide) (fun hc => ?_) (fun hc => ?_)
            · have hf := q_f hf hc
              refine lv_iload_n hx hb dX10_cross_75 rfl (lv_at hl 3 rfl) ?_
              cases hf
              exact hJ _ _ _ hR hS hz (lv_sub hl [0, 1, 2, 4] rfl)
            · have hf := q_t hf hc
              refine lv_iload hx hb dX10_cross_70 (lv_at hl 4 rfl) ?_
              refine lv_goto (tgt := 76) hx hb dX10_cross_72 (by decide) ?_
              cases hf
              exact hJ _ _ _ hR hS hz (lv_sub hl [0, 1, 2, 4] rfl)
    refine hL F _ _ _ ho (fun z0 h9 => ?_) _ _ _ hR hS hz (lv_sub hl [2, 3, 4, 1, 0] rfl)
    cases h9
    intro H locs ls hR hS hz hl
    refine lv_iload_n hx hb dX10_cross_83 rfl (lv_at hl 0 rfl) ?_
    subst hQ
    exact q_iret hx hb hr hlocks hR hS hz (Option.some.inj hf) rfl dX10_cross_84
  · have hf := q_t hf hc
    refine lv_ldc (v := (-1000000001 : Int32)) hx hb hown (hT _ wk_X10_207) dX10_cross_9 ?_
    subst hQ
    exact q_iret hx hb hr hlocks hR hS hz (Option.some.inj hf) rfl dX10_cross_11
/-! X10_treaty -/
def fX10_treaty_L29_B (F : Nat) (X : qH) (a0 : Nat) (a1 : Int32) (v2 : Int32) (v3 : Int32) (self0 : Int32 → Int32 → Option (Int32)) (v5 : Int32) (v6 : Int32) : Option (Int32) :=
(qgI X 9 a0 1).bind fun v7 =>
if v7 ≤ v6 then (some v5)
else ((if v6 = v3 then (some (0 : Int32))
else ((fX10_has F X a1 v6).bind fun v11 =>
if v11 = (0 : Int32) then (some (0 : Int32))
else ((fX10_overOf F X a0 v3).bind fun v12 =>
(qgR X 9 a0 2).bind fun v13 =>
(qaI X 0 v13 v6).bind fun v14 =>
(fX10_apart F X v12 v14).bind fun v15 =>
(fX10_reach F X a0 v3).bind fun v16 =>
some (v15 - v16))) : Option Int32).bind fun v8 =>
(if v8 ≤ v5 then (some v5)
else (some v8) : Option Int32).bind fun v9 =>
qlt (v6 + (1 : Int32)) fun v10 =>
self0 v9 v10)
def fX10_treaty_L29 (F : Nat) (X : qH) (a0 : Nat) (a1 : Int32) (v2 : Int32) (v3 : Int32) : Nat → Int32 → Int32 → Option (Int32)
  | 0, _, _ => none
  | n + 1, v5, v6 => fX10_treaty_L29_B F X a0 a1 v2 v3 (fX10_treaty_L29 F X a0 a1 v2 v3 n) v5 v6
def fX10_treaty_L15_B (F : Nat) (X : qH) (a0 : Nat) (a1 : Int32) (self0 : Int32 → Int32 → Option (Int32)) (v2 : Int32) (v3 : Int32) : Option (Int32) :=
(qgI X 9 a0 1).bind fun v4 =>
if v4 ≤ v3 then (some v2)
else ((fX10_treaty_L29 F X a0 a1 v2 v3 F (0 : Int32) (0 : Int32)).bind fun v17 =>
(fX10_has F X a1 v3).bind fun v18 =>
(if v18 = (0 : Int32) then (some (0 : Int32))
else (some v17) : Option Int32).bind fun v19 =>
qlt (v2 + v19) fun v20 =>
qlt (v3 + (1 : Int32)) fun v21 =>
self0 v20 v21)
def fX10_treaty_L15 (F : Nat) (X : qH) (a0 : Nat) (a1 : Int32) : Nat → Int32 → Int32 → Option (Int32)
  | 0, _, _ => none
  | n + 1, v2, v3 => fX10_treaty_L15_B F X a0 a1 (fX10_treaty_L15 F X a0 a1 n) v2 v3
def fX10_treaty (F : Nat) (X : qH) (a0 : Nat) (a1 : Int32) : Option (Int32) :=
qIs 9 X a0 <|
(fX10_isSet F X a0 a1).bind fun v1 =>
if v1 = (0 : Int32) then (some (-1000000001 : Int32))
else ((fX10_treaty_L15 F X a0 a1 F (0 : Int32) (0 : Int32)).bind fun v22 =>
some v22)
abbrev rmX10_treaty : Room := { frames := 2, cells := 0, slots := 0, locals := 46 }
theorem fX10_treaty_is {F : Nat} {X : qH} {a0 : Nat} {a1 : Int32} {r9 : Int32} (h : fX10_treaty F X a0 a1 = some r9) : ∃ fs, X a0 = some (.inr (9, fs)) := (qIs_spec h).1
theorem hdX10_treaty : yX10_treaty.cls = RX10 ∧ yX10_treaty.cls ≠ "java/lang/invoke/MethodHandle" ∧ yX10_treaty.cls ≠ "java/lang/invoke/VarHandle" ∧ (parseMethodDescriptor yX10_treaty.desc).map (fun d => d.parameters.length) = some 1 := by decide +kernel
set_option maxHeartbeats 4000000 in
set_option maxRecDepth 100000 in
theorem mX10_treaty (l : Launch) (D : va_G) (kz : Nat → Nat) (b0 sz F : Nat) (X : qH) (a0 : Nat) (a1 : Int32) (r : Int32) (hf : fX10_treaty F X a0 a1 = some r) : Met l yX10_treaty (qws yX10_treaty cX10_treaty 7 (some .int)) rmX10_treaty (va_Pc [.ref a0, .int a1] (qU D kz b0 sz X)) (va_Qi (fun (r' : Int32) (u : qH) => r' = r ∧ u = X) (fun u t => qO D kz b0 sz u t) (qA b0)) 0 0 (qA b0) := by
  refine q_start (by decide) (Nat.le_of_ble_eq_true rfl) ?_
  intro p e s m args below meth c hx hb hr hlocks hnm hml hown hT hR hK hz ls hl
  have hown : s.vm.findClass RX10 = some m.cls := hown
  have hl : lv_has ls 7 [(0, .ref a0), (1, .int a1)] := hl
  have hS : va_S (qA b0) s.heap s.heap [] := va_S.rf
  obtain ⟨Q, hQ⟩ : ∃ Q, Q = MQ below (va_Qi (fun (r' : Int32) (u : qH) => r' = r ∧ u = X) (fun u t => qO D kz b0 sz u t) (qA b0)) args s 0 0 (qA b0) := ⟨_, rfl⟩
  rw [← hQ]
  unfold fX10_treaty at hf
  obtain ⟨hthis, hf⟩ := qIs_spec hf
  refine lv_aload_n hx hb dX10_treaty_0 rfl (lv_at hl 0 rfl) ?_
  refine lv_iload_n hx hb dX10_treaty_1 rfl (lv_at hl 1 rfl) ?_
  obtain ⟨v1, hc, hf⟩ := q_b hf
  refine q_calli (va_runV (As := [.int a1]) (rest := []) ⟨hx, hb, hml, hown, hT⟩ (mX10_isSet l D kz b0 sz F X a0 a1 v1 hc) (cwV 1 hT (q_gV wco_X10_isSet wml_X10_275 wim_X10_isSet wse_X10_isSet win_X10) rfl rfl rfl hdX10_isSet ⟨Nat.le_of_ble_eq_true rfl, Nat.le_of_ble_eq_true rfl⟩) (q_preV vqX10 (fX10_isSet_is hc) hR hK hz) rfl rfl hl.1 rfl (lv_room (Nat.le_of_ble_eq_true rfl)) dX10_treaty_2 ⟨Nat.le_of_ble_eq_true rfl, Nat.le_of_ble_eq_true rfl⟩) hS (fun H locs hR hS hz => ?_)
  refine lv_if_ne (tgt := 11) hx hb dX10_treaty_5 (by decide) (fun hc => ?_) (fun hc => ?_)
  · have hf := q_f hf hc
    refine lv_iconst (v := (0 : Int32)) hx hb dX10_treaty_11 (by decide) ?_
    refine lv_istore_n (lv' := [(2, .int (0 : Int32)), (0, .ref a0), (1, .int a1)]) hx hb dX10_treaty_12 rfl hl (by decide) rfl (fun ls hl => ?_)
    refine lv_iconst (v := (0 : Int32)) hx hb dX10_treaty_13 (by decide) ?_
    refine lv_istore_n (lv' := [(3, .int (0 : Int32)), (2, .int (0 : Int32)), (0, .ref a0), (1, .int a1)]) hx hb dX10_treaty_14 rfl hl (by decide) rfl (fun ls hl => ?_)
    obtain ⟨v22, ho, hf⟩ := q_b hf
    have hL : ∀ (n : Nat) (v2 : Int32) (v3 : Int32) (out : Int32), fX10_treaty_L15 F X a0 a1 n v2 v3 = some out → (∀ (v22 : Int32), out = v22 → ∀ (H : Heap) (locs : List Loc) (ls : Array Slot), qR D kz b0 X H → va_S (qA b0) s.heap H locs → H.size = sz → lv_has ls 7 [(2, .int v22)] → W p l e rmX10_treaty s m args below meth c H locs 0 0 Q (F0 m 125 ls [])) → ∀ (H : Heap) (locs : List Loc) (ls : Array Slot), qR D kz b0 X H → va_S (qA b0) s.heap H locs → H.size = sz → lv_has ls 7 [(0, .ref a0), (1, .int a1), (2, .int v2), (3, .int v3)] → W p l e rmX10_treaty s m args below meth c H locs 0 0 Q (F0 m 15 ls []) := by
      intro n9
      induction n9 with
      | zero =>
        intro v2 v3 out hf
        exact absurd (show none = some out from hf) (by simp)
      | succ n9 ih0 =>
        intro v2 v3 out hf hex H locs ls hR hS hz hl
        have hf : fX10_treaty_L15_B F X a0 a1 (fX10_treaty_L15 F X a0 a1 n9) v2 v3 = some out := hf
        unfold fX10_treaty_L15_B at hf
        refine lv_iload_n hx hb dX10_treaty_15 rfl (lv_at hl 3 rfl) ?_
        refine lv_aload_n hx hb dX10_treaty_16 rfl (lv_at hl 0 rfl) ?_
        refine q_gI hx hb hT hown hK hR iqX10 vqX10 1 (by decide) (hT _ wfl_X10_102) hf dX10_treaty_17 (fun v4 hf => ?_)
        refine lv_icmp_ge (tgt := 125) hx hb dX10_treaty_20 (by decide) (fun hc => ?_) (fun hc => ?_)
        · have hf := q_t hf hc
          exact hex _ (Option.some.inj hf).symm _ _ _ hR hS hz (lv_sub hl [2] rfl)
        · have hf := q_f hf hc
          refine lv_iconst (v := (0 : Int32)) hx hb dX10_treaty_23 (by decide) ?_
          refine lv_istore (lv' := [(4, .int (0 : Int32)), (0, .ref a0), (1, .int a1), (2, .int v2), (3, .int v3)]) hx hb dX10_treaty_24 hl (by decide) rfl (fun ls hl => ?_)
          refine lv_iconst (v := (0 : Int32)) hx hb dX10_treaty_26 (by decide) ?_
          refine lv_istore (lv' := [(5, .int (0 : Int32)), (4, .int (0 : Int32)), (0, .ref a0), (1, .int a1), (2, .int v2), (3, .int v3)]) hx hb dX10_treaty_27 hl (by decide) rfl (fun ls hl => ?_)
          obtain ⟨v17, ho, hf⟩ := q_b hf
          have hL : ∀ (n : Nat) (v5 : Int32) (v6 : Int32) (out : Int32), fX10_treaty_L29 F X a0 a1 v2 v3 n v5 v6 = some out → (∀ (v17 : Int32), out = v17 → ∀ (H : Heap) (locs : List Loc) (ls : Array Slot), qR D kz b0 X H → va_S (qA b0) s.heap H locs → H.size = sz → lv_has ls 7 [(0, .ref a0), (1, .int a1), (2, .int v2), (3, .int v3), (4, .int v17)] → W p l e rmX10_treaty s m args below meth c H locs 0 0 Q (F0 m 102 ls [])) → ∀ (H : Heap) (locs : List Loc) (ls : Array Slot), qR D kz b0 X H → va_S (qA b0) s.heap H locs → H.size = sz → lv_has ls 7 [(0, .ref a0), (1, .int a1), (2, .int v2), (3, .int v3), (4, .int v5), (5, .int v6)] → W p l e rmX10_treaty s m args below meth c H locs 0 0 Q (F0 m 29 ls []) := by
            intro n9
            induction n9 with
            | zero =>
              intro v5 v6 out hf
              exact absurd (show none = some out from hf) (by simp)
            | succ n9 ih0 =>
              intro v5 v6 out hf hex H locs ls hR hS hz hl
              have hf : fX10_treaty_L29_B F X a0 a1 v2 v3 (fX10_treaty_L29 F X a0 a1 v2 v3 n9) v5 v6 = some out := hf
              unfold fX10_treaty_L29_B at hf
              refine lv_iload hx hb dX10_treaty_29 (lv_at hl 5 rfl) ?_
              refine lv_aload_n hx hb dX10_treaty_31 rfl (lv_at hl 0 rfl) ?_
              refine q_gI hx hb hT hown hK hR iqX10 vqX10 1 (by decide) (hT _ wfl_X10_102) hf dX10_treaty_32 (fun v7 hf => ?_)
              refine lv_icmp_ge (tgt := 102) hx hb dX10_treaty_35 (by decide) (fun hc => ?_) (fun hc => ?_)
              · have hf := q_t hf hc
                exact hex _ (Option.some.inj hf).symm _ _ _ hR hS hz (lv_sub hl [0, 1, 2, 3, 4] rfl)
              · have hf := q_f hf hc
                refine lv_iload hx hb dX10_treaty_38 (lv_at hl 5 rfl) ?_
                refine lv_iload_n hx hb dX10_treaty_40 rfl (lv_at hl 3 rfl) ?_
                obtain ⟨v8, hp, hf⟩ := q_b hf
                have hJ : ∀ (H : Heap) (locs : List Loc) (ls : Array Slot), qR D kz b0 X H → va_S (qA b0) s.heap H locs → H.size = sz → lv_has ls 7 [(0, .ref a0), (1, .int a1), (2, .int v2), (3, .int v3), (4, .int v5), (5, .int v6)] → W p l e rmX10_treaty s m args below meth c H locs 0 0 Q (F0 m 78 ls [.int v8]) := by
                  intro H locs ls hR hS hz hl
                  refine lv_istore (lv' := [(6, .int v8), (0, .ref a0), (1, .int a1), (2, .int v2), (3, .int v3), (4, .int v5), (5, .int v6)]) hx hb dX10_treaty_78 hl (by decide) rfl (fun ls hl => ?_)
                  refine lv_iload hx hb dX10_treaty_80 (lv_at hl 0 rfl) ?_
                  refine lv_iload hx hb dX10_treaty_82 (lv_at hl 5 rfl) ?_
                  obtain ⟨v9, hp, hf⟩ := q_b hf
                  have hJ : ∀ (H : Heap) (locs : List Loc) (ls : Array Slot), qR D kz b0 X H → va_S (qA b0) s.heap H locs → H.size = sz → lv_has ls 7 [(0, .ref a0), (1, .int a1), (2, .int v2), (3, .int v3), (5, .int v6)] → W p l e rmX10_treaty s m args below meth c H locs 0 0 Q (F0 m 94 ls [.int v9]) := by
                    intro H locs ls hR hS hz hl
                    refine lv_istore (lv' := [(4, .int v9), (0, .ref a0), (1, .int a1), (2, .int v2), (3, .int v3), (5, .int v6)]) hx hb dX10_treaty_94 hl (by decide) rfl (fun ls hl => ?_)
                    obtain ⟨v10, ev10⟩ : ∃ y : Int32, y = (v6 + (1 : Int32)) := ⟨_, rfl⟩
                    have hf := q_lt ev10 hf
                    refine lv_iinc (v := v10) (lv' := [(5, .int v10), (4, .int v9), (0, .ref a0), (1, .int a1), (2, .int v2), (3, .int v3)]) hx hb dX10_treaty_96 hl (k := 5) rfl (by rw [ev10]; rfl) (by decide) rfl (fun ls hl => ?_)
                    refine lv_goto (tgt := 29) hx hb dX10_treaty_99 (by decide) ?_
                    exact ih0 _ _ out hf hex _ _ _ hR hS hz (lv_sub hl [2, 3, 4, 5, 1, 0] rfl)
                  have hf := hp
                  refine lv_icmp_le (tgt := 92) hx hb dX10_treaty_84 (by decide) (fun hc => ?_) (fun hc => ?_)
                  · have hf := q_t hf hc
                    refine lv_iload hx hb dX10_treaty_92 (lv_at hl 5 rfl) ?_
                    cases hf
                    exact hJ _ _ _ hR hS hz (lv_sub hl [1, 2, 3, 4, 6] rfl)
                  · have hf := q_f hf hc
                    refine lv_iload hx hb dX10_treaty_87 (lv_at hl 0 rfl) ?_
                    refine lv_goto (tgt := 94) hx hb dX10_treaty_89 (by decide) ?_
                    cases hf
                    exact hJ _ _ _ hR hS hz (lv_sub hl [1, 2, 3, 4, 6] rfl)
                have hf := hp
                refine lv_icmp_eq (tgt := 77) hx hb dX10_treaty_41 (by decide) (fun hc => ?_) (fun hc => ?_)
                · have hf := q_t hf hc
                  refine lv_iconst (v := (0 : Int32)) hx hb dX10_treaty_77 (by decide) ?_
                  cases hf
                  exact hJ _ _ _ hR hS hz (lv_sub hl [0, 1, 2, 3, 4, 5] rfl)
                · have hf := q_f hf hc
                  refine lv_iload_n hx hb dX10_treaty_44 rfl (lv_at hl 1 rfl) ?_
                  refine lv_iload hx hb dX10_treaty_45 (lv_at hl 5 rfl) ?_
                  obtain ⟨v11, hc, hf⟩ := q_b hf
                  refine q_calli (va_runS (As := [.int a1, .int v6]) (rest := []) ⟨hx, hb, hml, hown, hT⟩ (mX10_has l D kz b0 sz F X a1 v6 v11 hc) (va_cwS 2 hT (q_gS wco_X10_has wml_X10_194 wst_X10_has win_X10) rfl rfl rfl hdX10_has ⟨Nat.le_of_ble_eq_true rfl, Nat.le_of_ble_eq_true rfl⟩) (q_preS hR hK hz) rfl rfl hl.1 rfl (lv_room (Nat.le_of_ble_eq_true rfl)) dX10_treaty_47 ⟨Nat.le_of_ble_eq_true rfl, Nat.le_of_ble_eq_true rfl⟩) hS (fun H locs hR hS hz => ?_)
                  refine lv_if_eq (tgt := 77) hx hb dX10_treaty_50 (by decide) (fun hc => ?_) (fun hc => ?_)
                  · have hf := q_t hf hc
                    refine lv_iconst (v := (0 : Int32)) hx hb dX10_treaty_77 (by decide) ?_
                    cases hf
                    exact hJ _ _ _ hR hS hz (lv_sub hl [0, 1, 2, 3, 4, 5] rfl)
                  · have hf := q_f hf hc
                    refine lv_aload_n hx hb dX10_treaty_53 rfl (lv_at hl 0 rfl) ?_
                    refine lv_iload_n hx hb dX10_treaty_54 rfl (lv_at hl 3 rfl) ?_
                    obtain ⟨v12, hc, hf⟩ := q_b hf
                    refine q_calli (va_runV (As := [.int v3]) (rest := []) ⟨hx, hb, hml, hown, hT⟩ (mX10_overOf l D kz b0 sz F X a0 v3 v12 hc) (cwV 1 hT (q_gV wco_X10_overOf wml_X10_214 wim_X10_overOf wse_X10_overOf win_X10) rfl rfl rfl hdX10_overOf ⟨Nat.le_of_ble_eq_true rfl, Nat.le_of_ble_eq_true rfl⟩) (q_preV vqX10 (fX10_overOf_is hc) hR hK hz) rfl rfl hl.1 rfl (lv_room (Nat.le_of_ble_eq_true rfl)) dX10_treaty_55 ⟨Nat.le_of_ble_eq_true rfl, Nat.le_of_ble_eq_true rfl⟩) hS (fun H locs hR hS hz => ?_)
                    refine lv_aload_n hx hb dX10_treaty_58 rfl (lv_at hl 0 rfl) ?_
                    refine q_gR hx hb hT hown hK hR iqX10 vqX10 2 (by decide) (hT _ wfl_X10_7) hf dX10_treaty_59 (fun v13 hf => ?_)
                    refine lv_iload hx hb dX10_treaty_62 (lv_at hl 5 rfl) ?_
                    refine q_iald hx hb hK hR hf dX10_treaty_64 (fun v14 hf => ?_)
                    obtain ⟨v15, hc, hf⟩ := q_b hf
                    refine q_calli (va_runS (As := [.int v12, .int v14]) (rest := []) ⟨hx, hb, hml, hown, hT⟩ (mX10_apart l D kz b0 sz F X v12 v14 v15 hc) (va_cwS 2 hT (q_gS wco_X10_apart wml_X10_217 wst_X10_apart win_X10) rfl rfl rfl hdX10_apart ⟨Nat.le_of_ble_eq_true rfl, Nat.le_of_ble_eq_true rfl⟩) (q_preS hR hK hz) rfl rfl hl.1 rfl (lv_room (Nat.le_of_ble_eq_true rfl)) dX10_treaty_65 ⟨Nat.le_of_ble_eq_true rfl, Nat.le_of_ble_eq_true rfl⟩) hS (fun H locs hR hS hz => ?_)
                    refine lv_aload_n hx hb dX10_treaty_68 rfl (lv_at hl 0 rfl) ?_
                    refine lv_iload_n hx hb dX10_treaty_69 rfl (lv_at hl 3 rfl) ?_
                    obtain ⟨v16, hc, hf⟩ := q_b hf
                    refine q_calli (va_runV (As := [.int v3]) (rest := [.int v15]) ⟨hx, hb, hml, hown, hT⟩ (mX10_reach l D kz b0 sz F X a0 v3 v16 hc) (cwV 1 hT (q_gV wco_X10_reach wml_X10_220 wim_X10_reach wse_X10_reach win_X10) rfl rfl rfl hdX10_reach ⟨Nat.le_of_ble_eq_true rfl, Nat.le_of_ble_eq_true rfl⟩) (q_preV vqX10 (fX10_reach_is hc) hR hK hz) rfl rfl hl.1 rfl (lv_room (Nat.le_of_ble_eq_true rfl)) dX10_treaty_70 ⟨Nat.le_of_ble_eq_true rfl, Nat.le_of_ble_eq_true rfl⟩) hS (fun H locs hR hS hz => ?_)
                    refine lv_isub hx hb dX10_treaty_73 ?_
                    refine lv_goto (tgt := 78) hx hb dX10_treaty_74 (by decide) ?_
                    cases hf
                    exact hJ _ _ _ hR hS hz (lv_sub hl [0, 1, 2, 3, 4, 5] rfl)
          refine hL F _ _ _ ho (fun z0 h9 => ?_) _ _ _ hR hS hz (lv_sub hl [2, 3, 4, 5, 1, 0] rfl)
          cases h9
          intro H locs ls hR hS hz hl
          refine lv_iload_n hx hb dX10_treaty_102 rfl (lv_at hl 2 rfl) ?_
          refine lv_iload_n hx hb dX10_treaty_103 rfl (lv_at hl 1 rfl) ?_
          refine lv_iload_n hx hb dX10_treaty_104 rfl (lv_at hl 3 rfl) ?_
          obtain ⟨v18, hc, hf⟩ := q_b hf
          refine q_calli (va_runS (As := [.int a1, .int v3]) (rest := [.int v2]) ⟨hx, hb, hml, hown, hT⟩ (mX10_has l D kz b0 sz F X a1 v3 v18 hc) (va_cwS 2 hT (q_gS wco_X10_has wml_X10_194 wst_X10_has win_X10) rfl rfl rfl hdX10_has ⟨Nat.le_of_ble_eq_true rfl, Nat.le_of_ble_eq_true rfl⟩) (q_preS hR hK hz) rfl rfl hl.1 rfl (lv_room (Nat.le_of_ble_eq_true rfl)) dX10_treaty_105 ⟨Nat.le_of_ble_eq_true rfl, Nat.le_of_ble_eq_true rfl⟩) hS (fun H locs hR hS hz => ?_)
          obtain ⟨v19, hp, hf⟩ := q_b hf
          have hJ : ∀ (H : Heap) (locs : List Loc) (ls : Array Slot), qR D kz b0 X H → va_S (qA b0) s.heap H locs → H.size = sz → lv_has ls 7 [(0, .ref a0), (1, .int a1), (3, .int v3)] → W p l e rmX10_treaty s m args below meth c H locs 0 0 Q (F0 m 117 ls [.int v19, .int v2]) := by
            intro H locs ls hR hS hz hl
            refine lv_iadd hx hb dX10_treaty_117 ?_
            refine lv_topi (fun v20 ev20 => ?_)
            have hf := q_lt ev20 hf
            refine lv_istore_n (lv' := [(2, .int v20), (0, .ref a0), (1, .int a1), (3, .int v3)]) hx hb dX10_treaty_118 rfl hl (by decide) rfl (fun ls hl => ?_)
            obtain ⟨v21, ev21⟩ : ∃ y : Int32, y = (v3 + (1 : Int32)) := ⟨_, rfl⟩
            have hf := q_lt ev21 hf
            refine lv_iinc (v := v21) (lv' := [(3, .int v21), (2, .int v20), (0, .ref a0), (1, .int a1)]) hx hb dX10_treaty_119 hl (k := 3) rfl (by rw [ev21]; rfl) (by decide) rfl (fun ls hl => ?_)
            refine lv_goto (tgt := 15) hx hb dX10_treaty_122 (by decide) ?_
            exact ih0 _ _ out hf hex _ _ _ hR hS hz (lv_sub hl [2, 3, 1, 0] rfl)
          have hf := hp
          refine lv_if_eq (tgt := 116) hx hb dX10_treaty_108 (by decide) (fun hc => ?_) (fun hc => ?_)
          · have hf := q_t hf hc
            refine lv_iconst (v := (0 : Int32)) hx hb dX10_treaty_116 (by decide) ?_
            cases hf
            exact hJ _ _ _ hR hS hz (lv_sub hl [0, 1, 3] rfl)
          · have hf := q_f hf hc
            refine lv_iload hx hb dX10_treaty_111 (lv_at hl 4 rfl) ?_
            refine lv_goto (tgt := 117) hx hb dX10_treaty_113 (by decide) ?_
            cases hf
            exact hJ _ _ _ hR hS hz (lv_sub hl [0, 1, 3] rfl)
    refine hL F _ _ _ ho (fun z0 h9 => ?_) _ _ _ hR hS hz (lv_sub hl [2, 3, 1, 0] rfl)
    cases h9
    intro H locs ls hR hS hz hl
    refine lv_iload_n hx hb dX10_treaty_125 rfl (lv_at hl 0 rfl) ?_
    subst hQ
    exact q_iret hx hb hr hlocks hR hS hz (Option.some.inj hf) rfl dX10_treaty_126
  · have hf := q_t hf hc
    refine lv_ldc (v := (-1000000001 : Int32)) hx hb hown (hT _ wk_X10_207) dX10_treaty_8 ?_
    subst hQ
    exact q_iret hx hb hr hlocks hR hS hz (Option.some.inj hf) rfl dX10_treaty_10
/-! X10_figuresOf -/
def fX10_figuresOf_L4_B (F : Nat) (X : qH) (a0 : Nat) (a1 : Int32) (self0 : Int32 → Int32 → Option (Int32)) (v1 : Int32) (v2 : Int32) : Option (Int32) :=
if v2 ≤ (0 : Int32) then (some v1)
else (qlt (v1 + (1 : Int32)) fun v3 =>
qlt (v2 / (10 : Int32)) fun v4 =>
self0 v3 v4)
def fX10_figuresOf_L4 (F : Nat) (X : qH) (a0 : Nat) (a1 : Int32) : Nat → Int32 → Int32 → Option (Int32)
  | 0, _, _ => none
  | n + 1, v1, v2 => fX10_figuresOf_L4_B F X a0 a1 (fX10_figuresOf_L4 F X a0 a1 n) v1 v2
def fX10_figuresOf_L38_B (F : Nat) (a0 : Nat) (v5 : Int32) (self0 : Int32 → Int32 → qH → Option ((Int32 × qH) ⊕ (qH))) (v7 : Int32) (v8 : Int32) (X9 : qH) : Option ((Int32 × qH) ⊕ (qH)) :=
if v8 < (0 : Int32) then (some (.inr X9))
else ((qgR X9 9 a0 30).bind fun v10 =>
qlt (v7 - v7 / (10 : Int32) * (10 : Int32)) fun v11 =>
(qaS X9 0 v10 v8 v11).bind fun X12 =>
qlt (v7 / (10 : Int32)) fun v13 =>
(qgR X12 9 a0 30).bind fun v14 =>
(qaI X12 0 v14 v8).bind fun v15 =>
(fX10_in F X12 ((v15).toInt64) (1 : Int64) (5 : Int64)).bind fun v16 =>
if v16 = (0 : Int32) then (some (.inl ((-1 : Int32), X12)))
else (qlt (v8 + (-1 : Int32)) fun v17 =>
self0 v13 v17 X12))
def fX10_figuresOf_L38 (F : Nat) (a0 : Nat) (v5 : Int32) : Nat → Int32 → Int32 → qH → Option ((Int32 × qH) ⊕ (qH))
  | 0, _, _, _ => none
  | n + 1, v7, v8, X9 => fX10_figuresOf_L38_B F a0 v5 (fX10_figuresOf_L38 F a0 v5 n) v7 v8 X9
def fX10_figuresOf (F : Nat) (X : qH) (a0 : Nat) (a1 : Int32) : Option (Int32 × qH) :=
qIs 9 X a0 <|
(fX10_figuresOf_L4 F X a0 a1 F (0 : Int32) a1).bind fun v5 =>
if a1 < (1 : Int32) then (some ((-1 : Int32), X))
else (if v5 ≤ (5 : Int32) then (qlt (v5 - (1 : Int32)) fun v6 =>
(fX10_figuresOf_L38 F a0 v5 F a1 v6 X).bind fun o19 => qsm1 o19 (fun z => some z) fun X18 =>
some (v5, X18))
else (some ((-1 : Int32), X)))
abbrev rmX10_figuresOf : Room := { frames := 1, cells := 0, slots := 0, locals := 25 }
theorem fX10_figuresOf_is {F : Nat} {X : qH} {a0 : Nat} {a1 : Int32} {r9 : Int32 × qH} (h : fX10_figuresOf F X a0 a1 = some r9) : ∃ fs, X a0 = some (.inr (9, fs)) := (qIs_spec h).1
theorem hdX10_figuresOf : yX10_figuresOf.cls = RX10 ∧ yX10_figuresOf.cls ≠ "java/lang/invoke/MethodHandle" ∧ yX10_figuresOf.cls ≠ "java/lang/invoke/VarHandle" ∧ (parseMethodDescriptor yX10_figuresOf.desc).map (fun d => d.parameters.length) = some 1 := by decide +kernel
set_option maxHeartbeats 4000000 in
set_option maxRecDepth 100000 in
theorem mX10_figuresOf (l : Launch) (D : va_G) (kz : Nat → Nat) (b0 sz F : Nat) (X : qH) (a0 : Nat) (a1 : Int32) (r : Int32) (Xr : qH) (hf : fX10_figuresOf F X a0 a1 = some (r, Xr)) : Met l yX10_figuresOf (qws yX10_figuresOf cX10_figuresOf 5 (some .int)) rmX10_figuresOf (va_Pc [.ref a0, .int a1] (qU D kz b0 sz X)) (va_Qi (fun (r' : Int32) (u : qH) => r' = r ∧ u = Xr) (fun u t => qO D kz b0 sz u t) (qA b0)) 0 0 (qA b0) := by
  refine q_start (by decide) (Nat.le_of_ble_eq_true rfl) ?_
  intro p e s m args below meth c hx hb hr hlocks hnm hml hown hT hR hK hz ls hl
  have hown : s.vm.findClass RX10 = some m.cls := hown
  have hl : lv_has ls 5 [(0, .ref a0), (1, .int a1)] := hl
  have hS : va_S (qA b0) s.heap s.heap [] := va_S.rf
  obtain ⟨Q, hQ⟩ : ∃ Q, Q = MQ below (va_Qi (fun (r' : Int32) (u : qH) => r' = r ∧ u = Xr) (fun u t => qO D kz b0 sz u t) (qA b0)) args s 0 0 (qA b0) := ⟨_, rfl⟩
  rw [← hQ]
  unfold fX10_figuresOf at hf
  obtain ⟨hthis, hf⟩ := qIs_spec hf
  refine lv_iconst (v := (0 : Int32)) hx hb dX10_figuresOf_0 (by decide) ?_
  refine lv_istore_n (lv' := [(2, .int (0 : Int32)), (0, .ref a0), (1, .int a1)]) hx hb dX10_figuresOf_1 rfl hl (by decide) rfl (fun ls hl => ?_)
  refine lv_iload_n hx hb dX10_figuresOf_2 rfl (lv_at hl 2 rfl) ?_
  refine lv_istore_n (lv' := [(3, .int a1), (2, .int (0 : Int32)), (0, .ref a0), (1, .int a1)]) hx hb dX10_figuresOf_3 rfl hl (by decide) rfl (fun ls hl => ?_)
  obtain ⟨v5, ho, hf⟩ := q_b hf
  have hL : ∀ (n : Nat) (v1 : Int32) (v2 : Int32) (out : Int32), fX10_figuresOf_L4 F X a0 a1 n v1 v2 = some out → (∀ (v5 : Int32), out = v5 → ∀ (H : Heap) (locs : List Loc) (ls : Array Slot), qR D kz b0 X H → va_S (qA b0) s.heap H locs → H.size = sz → lv_has ls 5 [(0, .ref a0), (1, .int a1), (2, .int v5)] → W p l e rmX10_figuresOf s m args below meth c H locs 0 0 Q (F0 m 19 ls [])) → ∀ (H : Heap) (locs : List Loc) (ls : Array Slot), qR D kz b0 X H → va_S (qA b0) s.heap H locs → H.size = sz → lv_has ls 5 [(0, .ref a0), (1, .int a1), (2, .int v1), (3, .int v2)] → W p l e rmX10_figuresOf s m args below meth c H locs 0 0 Q (F0 m 4 ls []) := by
    intro n9
    induction n9 with
    | zero =>
      intro v1 v2 out hf
      exact absurd (show none = some out from hf) (by simp)
    | succ n9 ih0 =>
      intro v1 v2 out hf hex H locs ls hR hS hz hl
      have hf : fX10_figuresOf_L4_B F X a0 a1 (fX10_figuresOf_L4 F X a0 a1 n9) v1 v2 = some out := hf
      unfold fX10_figuresOf_L4_B at hf
      refine lv_iload_n hx hb dX10_figuresOf_4 rfl (lv_at hl 3 rfl) ?_
      refine lv_if_le (tgt := 19) hx hb dX10_figuresOf_5 (by decide) (fun hc => ?_) (fun hc => ?_)
      · have hf := q_t hf hc
        exact hex _ (Option.some.inj hf).symm _ _ _ hR hS hz (lv_sub hl [0, 1, 2] rfl)
      · have hf := q_f hf hc
        obtain ⟨v3, ev3⟩ : ∃ y : Int32, y = (v1 + (1 : Int32)) := ⟨_, rfl⟩
        have hf := q_lt ev3 hf
        refine lv_iinc (v := v3) (lv' := [(2, .int v3), (0, .ref a0), (1, .int a1), (3, .int v2)]) hx hb dX10_figuresOf_8 hl (k := 2) rfl (by rw [ev3]; rfl) (by decide) rfl (fun ls hl => ?_)
        refine lv_iload_n hx hb dX10_figuresOf_11 rfl (lv_at hl 3 rfl) ?_
        refine lv_bipush (v := (10 : Int32)) hx hb dX10_figuresOf_12 (by decide) ?_
        refine lv_idiv hx hb dX10_figuresOf_14 (by decide) ?_
        refine lv_topi (fun v4 ev4 => ?_)
        have hf := q_lt ev4 hf
        refine lv_istore_n (lv' := [(3, .int v4), (2, .int v3), (0, .ref a0), (1, .int a1)]) hx hb dX10_figuresOf_15 rfl hl (by decide) rfl (fun ls hl => ?_)
        refine lv_goto (tgt := 4) hx hb dX10_figuresOf_16 (by decide) ?_
        exact ih0 _ _ out hf hex _ _ _ hR hS hz (lv_sub hl [2, 3, 1, 0] rfl)
  refine hL F _ _ _ ho (fun z0 h9 => ?_) _ _ _ hR hS hz (lv_sub hl [2, 3, 1, 0] rfl)
  cases h9
  intro H locs ls hR hS hz hl
  refine lv_iload_n hx hb dX10_figuresOf_19 rfl (lv_at hl 1 rfl) ?_
  refine lv_iconst (v := (1 : Int32)) hx hb dX10_figuresOf_20 (by decide) ?_
  refine lv_icmp_lt (tgt := 29) hx hb dX10_figuresOf_21 (by decide) (fun hc => ?_) (fun hc => ?_)
  · have hf := q_t hf hc
    refine lv_iconst (v := (-1 : Int32)) hx hb dX10_figuresOf_29 (by decide) ?_
    subst hQ
    obtain ⟨h8, h9⟩ := Prod.mk.inj (Option.some.inj hf)
    exact q_iret hx hb hr hlocks hR hS hz h8 h9 dX10_figuresOf_30
  · have hf := q_f hf hc
    refine lv_iload_n hx hb dX10_figuresOf_24 rfl (lv_at hl 2 rfl) ?_
    refine lv_iconst (v := (5 : Int32)) hx hb dX10_figuresOf_25 (by decide) ?_
    refine lv_icmp_le (tgt := 31) hx hb dX10_figuresOf_26 (by decide) (fun hc => ?_) (fun hc => ?_)
    · have hf := q_t hf hc
      refine lv_iload_n hx hb dX10_figuresOf_31 rfl (lv_at hl 1 rfl) ?_
      refine lv_istore_n (lv' := [(3, .int a1), (0, .ref a0), (1, .int a1), (2, .int v5)]) hx hb dX10_figuresOf_32 rfl hl (by decide) rfl (fun ls hl => ?_)
      refine lv_iload_n hx hb dX10_figuresOf_33 rfl (lv_at hl 3 rfl) ?_
      refine lv_iconst (v := (1 : Int32)) hx hb dX10_figuresOf_34 (by decide) ?_
      refine lv_isub hx hb dX10_figuresOf_35 ?_
      refine lv_topi (fun v6 ev6 => ?_)
      have hf := q_lt ev6 hf
      refine lv_istore (lv' := [(4, .int v6), (3, .int a1), (0, .ref a0), (1, .int a1), (2, .int v5)]) hx hb dX10_figuresOf_36 hl (by decide) rfl (fun ls hl => ?_)
      obtain ⟨o19, ho, hf⟩ := q_b hf
      have hL : ∀ (n : Nat) (v7 : Int32) (v8 : Int32) (X9 : qH) (out : (Int32 × qH) ⊕ (qH)), fX10_figuresOf_L38 F a0 v5 n v7 v8 X9 = some out → (∀ z, out = .inl z → z = (r, Xr)) → (∀ (X18 : qH), out = .inr X18 → ∀ (H : Heap) (locs : List Loc) (ls : Array Slot), qR D kz b0 X18 H → va_S (qA b0) s.heap H locs → H.size = sz → lv_has ls 5 [(2, .int v5)] → W p l e rmX10_figuresOf s m args below meth c H locs 0 0 Q (F0 m 85 ls [])) → ∀ (H : Heap) (locs : List Loc) (ls : Array Slot), qR D kz b0 X9 H → va_S (qA b0) s.heap H locs → H.size = sz → lv_has ls 5 [(0, .ref a0), (2, .int v5), (3, .int v7), (4, .int v8)] → W p l e rmX10_figuresOf s m args below meth c H locs 0 0 Q (F0 m 38 ls []) := by
        intro n9
        induction n9 with
        | zero =>
          intro v7 v8 X9 out hf
          exact absurd (show none = some out from hf) (by simp)
        | succ n9 ih0 =>
          intro v7 v8 X9 out hf hret hex H locs ls hR hS hz hl
          have hf : fX10_figuresOf_L38_B F a0 v5 (fX10_figuresOf_L38 F a0 v5 n9) v7 v8 X9 = some out := hf
          unfold fX10_figuresOf_L38_B at hf
          refine lv_iload hx hb dX10_figuresOf_38 (lv_at hl 3 rfl) ?_
          refine lv_if_lt (tgt := 85) hx hb dX10_figuresOf_40 (by decide) (fun hc => ?_) (fun hc => ?_)
          · have hf := q_t hf hc
            exact hex _ (Option.some.inj hf).symm _ _ _ hR hS hz (lv_sub hl [1] rfl)
          · have hf := q_f hf hc
            refine lv_aload_n hx hb dX10_figuresOf_43 rfl (lv_at hl 0 rfl) ?_
            refine q_gR hx hb hT hown hK hR iqX10 vqX10 30 (by decide) (hT _ wfl_X10_68) hf dX10_figuresOf_44 (fun v10 hf => ?_)
            refine lv_iload hx hb dX10_figuresOf_47 (lv_at hl 3 rfl) ?_
            refine lv_iload_n hx hb dX10_figuresOf_49 rfl (lv_at hl 2 rfl) ?_
            refine lv_bipush (v := (10 : Int32)) hx hb dX10_figuresOf_50 (by decide) ?_
            refine lv_irem hx hb dX10_figuresOf_52 (by decide) ?_
            refine lv_topi (fun v11 ev11 => ?_)
            have hf := q_lt ev11 hf
            refine q_iast hx hb hK hR hS hz hf dX10_figuresOf_53 (fun X12 hf H locs hR hS hz => ?_)
            refine lv_iload_n hx hb dX10_figuresOf_54 rfl (lv_at hl 2 rfl) ?_
            refine lv_bipush (v := (10 : Int32)) hx hb dX10_figuresOf_55 (by decide) ?_
            refine lv_idiv hx hb dX10_figuresOf_57 (by decide) ?_
            refine lv_topi (fun v13 ev13 => ?_)
            have hf := q_lt ev13 hf
            refine lv_istore_n (lv' := [(3, .int v13), (0, .ref a0), (2, .int v5), (4, .int v8)]) hx hb dX10_figuresOf_58 rfl hl (by decide) rfl (fun ls hl => ?_)
            refine lv_aload_n hx hb dX10_figuresOf_59 rfl (lv_at hl 1 rfl) ?_
            refine q_gR hx hb hT hown hK hR iqX10 vqX10 30 (by decide) (hT _ wfl_X10_68) hf dX10_figuresOf_60 (fun v14 hf => ?_)
            refine lv_iload hx hb dX10_figuresOf_63 (lv_at hl 3 rfl) ?_
            refine q_iald hx hb hK hR hf dX10_figuresOf_65 (fun v15 hf => ?_)
            refine lv_i2l hx hb dX10_figuresOf_66 rfl ?_
            refine lv_lconst (v := (1 : Int64)) hx hb dX10_figuresOf_67 (by decide) ?_
            refine lv_ldc2 (v := (5 : Int64)) hx hb hown (hT _ wkl_X10_253) dX10_figuresOf_68 ?_
            obtain ⟨v16, hc, hf⟩ := q_b hf
            refine q_calli (va_runS (As := [.long ((v15).toInt64), .long (1 : Int64), .long (5 : Int64)]) (rest := []) ⟨hx, hb, hml, hown, hT⟩ (mX10_in l D kz b0 sz F X12 ((v15).toInt64) (1 : Int64) (5 : Int64) v16 hc) (va_cwS 3 hT (q_gS wco_X10_in wml_X10_105 wst_X10_in win_X10) rfl rfl rfl hdX10_in ⟨Nat.le_of_ble_eq_true rfl, Nat.le_of_ble_eq_true rfl⟩) (q_preS hR hK hz) rfl rfl hl.1 rfl (lv_room (Nat.le_of_ble_eq_true rfl)) dX10_figuresOf_71 ⟨Nat.le_of_ble_eq_true rfl, Nat.le_of_ble_eq_true rfl⟩) hS (fun H locs hR hS hz => ?_)
            refine lv_if_ne (tgt := 79) hx hb dX10_figuresOf_74 (by decide) (fun hc => ?_) (fun hc => ?_)
            · have hf := q_f hf hc
              obtain ⟨v17, ev17⟩ : ∃ y : Int32, y = (v8 + (-1 : Int32)) := ⟨_, rfl⟩
              have hf := q_lt ev17 hf
              refine lv_iinc (v := v17) (lv' := [(4, .int v17), (3, .int v13), (0, .ref a0), (2, .int v5)]) hx hb dX10_figuresOf_79 hl (k := 3) rfl (by rw [ev17]; rfl) (by decide) rfl (fun ls hl => ?_)
              refine lv_goto (tgt := 38) hx hb dX10_figuresOf_82 (by decide) ?_
              exact ih0 _ _ _ out hf hret hex _ _ _ hR hS hz (lv_sub hl [2, 3, 1, 0] rfl)
            · have hf := q_t hf hc
              refine lv_iconst (v := (-1 : Int32)) hx hb dX10_figuresOf_77 (by decide) ?_
              subst hQ
              obtain ⟨h8, h9⟩ := Prod.mk.inj (hret _ (Option.some.inj hf).symm)
              exact q_iret hx hb hr hlocks hR hS hz h8 h9 dX10_figuresOf_78
      refine hL F _ _ _ o19 ho (fun z hz9 => by subst hz9; exact Option.some.inj hf) (fun X18 h9 => ?_) _ _ _ hR hS hz (lv_sub hl [2, 4, 1, 0] rfl)
      subst h9
      intro H locs ls hR hS hz hl
      have hf := qsm1_r hf
      refine lv_iload_n hx hb dX10_figuresOf_85 rfl (lv_at hl 0 rfl) ?_
      subst hQ
      obtain ⟨h8, h9⟩ := Prod.mk.inj (Option.some.inj hf)
      exact q_iret hx hb hr hlocks hR hS hz h8 h9 dX10_figuresOf_86
    · have hf := q_f hf hc
      refine lv_iconst (v := (-1 : Int32)) hx hb dX10_figuresOf_29 (by decide) ?_
      subst hQ
      obtain ⟨h8, h9⟩ := Prod.mk.inj (Option.some.inj hf)
      exact q_iret hx hb hr hlocks hR hS hz h8 h9 dX10_figuresOf_30
/-! X10_forged -/
def fX10_forged_L71_B (F : Nat) (X3 : qH) (a0 : Nat) (a1 : Int32) (a3 : Int32) (v2 : Int32) (v7 : Int32) (self0 : Int32 → Int64 → Int32 → Option (Int32 × Int64)) (v8 : Int32) (v9 : Int64) (v10 : Int32) : Option (Int32 × Int64) :=
if v7 ≤ v10 then (some (v8, v9))
else ((if v2 ≤ v10 then (some (0 : Int32))
else ((qgR X3 9 a0 4).bind fun v17 =>
(qaI X3 0 v17 a1).bind fun v18 =>
if v18 ≤ v10 then (some (0 : Int32))
else ((qgR X3 9 a0 30).bind fun v19 =>
(qaI X3 0 v19 v10).bind fun v20 =>
(qgR X3 9 a0 5).bind fun v21 =>
(qaI X3 0 v21 (((5 : Int32) * a1) + v10)).bind fun v22 =>
if v20 = v22 then (some (1 : Int32))
else (some (0 : Int32)))) : Option Int32).bind fun v11 =>
(if v11 = (0 : Int32) then (some (1 : Int32))
else (some (0 : Int32)) : Option Int32).bind fun v12 =>
qlt (v8 + v12) fun v13 =>
(if v11 = (0 : Int32) then (some (10 : Int32))
else (some (90 : Int32)) : Option Int32).bind fun v14 =>
qlt ((v9 * ((v14).toInt64)) / (100 : Int64)) fun v15 =>
qlt (v10 + (1 : Int32)) fun v16 =>
self0 v13 v15 v16)
def fX10_forged_L71 (F : Nat) (X3 : qH) (a0 : Nat) (a1 : Int32) (a3 : Int32) (v2 : Int32) (v7 : Int32) : Nat → Int32 → Int64 → Int32 → Option (Int32 × Int64)
  | 0, _, _, _ => none
  | n + 1, v8, v9, v10 => fX10_forged_L71_B F X3 a0 a1 a3 v2 v7 (fX10_forged_L71 F X3 a0 a1 a3 v2 v7 n) v8 v9 v10
def fX10_forged (F : Nat) (X : qH) (a0 : Nat) (a1 : Int32) (a2 : Int32) (a3 : Int32) : Option (Int32 × qH) :=
qIs 9 X a0 <|
(fX10_isHouse F X a0 a1).bind fun v1 =>
if v1 = (0 : Int32) then (some ((-1000000001 : Int32), X))
else (qb2 (fX10_figuresOf F X a0 a2) fun v2 X3 =>
if v2 < (0 : Int32) then (some ((-1000000002 : Int32), X3))
else ((fX10_in F X3 ((a3).toInt64) (0 : Int64) (1 : Int64)).bind fun v4 =>
if v4 = (0 : Int32) then (some ((-1000000002 : Int32), X3))
else ((qgR X3 9 a0 4).bind fun v5 =>
(qaI X3 0 v5 a1).bind fun v6 =>
(if v2 ≤ v6 then ((qgR X3 9 a0 4).bind fun v26 =>
(qaI X3 0 v26 a1).bind fun v27 =>
some v27)
else (some v2) : Option Int32).bind fun v7 =>
qb2 (fX10_forged_L71 F X3 a0 a1 a3 v2 v7 F (0 : Int32) (1000000000 : Int64) (0 : Int32)) fun v23 v24 =>
(if a3 = (0 : Int32) then (some v23)
else (some ((v24).toInt32)) : Option Int32).bind fun v25 =>
some (v25, X3))))
abbrev rmX10_forged : Room := { frames := 2, cells := 0, slots := 0, locals := 49 }
theorem fX10_forged_is {F : Nat} {X : qH} {a0 : Nat} {a1 : Int32} {a2 : Int32} {a3 : Int32} {r9 : Int32 × qH} (h : fX10_forged F X a0 a1 a2 a3 = some r9) : ∃ fs, X a0 = some (.inr (9, fs)) := (qIs_spec h).1
theorem hdX10_forged : yX10_forged.cls = RX10 ∧ yX10_forged.cls ≠ "java/lang/invoke/MethodHandle" ∧ yX10_forged.cls ≠ "java/lang/invoke/VarHandle" ∧ (parseMethodDescriptor yX10_forged.desc).map (fun d => d.parameters.length) = some 3 := by decide +kernel
set_option maxHeartbeats 4000000 in
set_option maxRecDepth 100000 in
theorem mX10_forged (l : Launch) (D : va_G) (kz : Nat → Nat) (b0 sz F : Nat) (X : qH) (a0 : Nat) (a1 : Int32) (a2 : Int32) (a3 : Int32) (r : Int32) (Xr : qH) (hf : fX10_forged F X a0 a1 a2 a3 = some (r, Xr)) : Met l yX10_forged (qws yX10_forged cX10_forged 11 (some .int)) rmX10_forged (va_Pc [.ref a0, .int a1, .int a2, .int a3] (qU D kz b0 sz X)) (va_Qi (fun (r' : Int32) (u : qH) => r' = r ∧ u = Xr) (fun u t => qO D kz b0 sz u t) (qA b0)) 0 0 (qA b0) := by
  refine q_start (by decide) (Nat.le_of_ble_eq_true rfl) ?_
  intro p e s m args below meth c hx hb hr hlocks hnm hml hown hT hR hK hz ls hl
  have hown : s.vm.findClass RX10 = some m.cls := hown
  have hl : lv_has ls 11 [(0, .ref a0), (1, .int a1), (2, .int a2), (3, .int a3)] := hl
  have hS : va_S (qA b0) s.heap s.heap [] := va_S.rf
  obtain ⟨Q, hQ⟩ : ∃ Q, Q = MQ below (va_Qi (fun (r' : Int32) (u : qH) => r' = r ∧ u = Xr) (fun u t => qO D kz b0 sz u t) (qA b0)) args s 0 0 (qA b0) := ⟨_, rfl⟩
  rw [← hQ]
  unfold fX10_forged at hf
  obtain ⟨hthis, hf⟩ := qIs_spec hf
  refine lv_aload_n hx hb dX10_forged_0 rfl (lv_at hl 0 rfl) ?_
  refine lv_iload_n hx hb dX10_forged_1 rfl (lv_at hl 1 rfl) ?_
  obtain ⟨v1, hc, hf⟩ := q_b hf
  refine q_calli (va_runV (As := [.int a1]) (rest := []) ⟨hx, hb, hml, hown, hT⟩ (mX10_isHouse l D kz b0 sz F X a0 a1 v1 hc) (cwV 1 hT (q_gV wco_X10_isHouse wml_X10_204 wim_X10_isHouse wse_X10_isHouse win_X10) rfl rfl rfl hdX10_isHouse ⟨Nat.le_of_ble_eq_true rfl, Nat.le_of_ble_eq_true rfl⟩) (q_preV vqX10 (fX10_isHouse_is hc) hR hK hz) rfl rfl hl.1 rfl (lv_room (Nat.le_of_ble_eq_true rfl)) dX10_forged_2 ⟨Nat.le_of_ble_eq_true rfl, Nat.le_of_ble_eq_true rfl⟩) hS (fun H locs hR hS hz => ?_)
  refine lv_if_ne (tgt := 11) hx hb dX10_forged_5 (by decide) (fun hc => ?_) (fun hc => ?_)
  · have hf := q_f hf hc
    refine lv_aload_n hx hb dX10_forged_11 rfl (lv_at hl 0 rfl) ?_
    refine lv_iload_n hx hb dX10_forged_12 rfl (lv_at hl 2 rfl) ?_
    obtain ⟨v2, X3, hc, hf⟩ := q_b2 hf
    refine q_calli (va_runV (As := [.int a2]) (rest := []) ⟨hx, hb, hml, hown, hT⟩ (mX10_figuresOf l D kz b0 sz F X a0 a2 v2 X3 hc) (cwV 1 hT (q_gV wco_X10_figuresOf wml_X10_285 wim_X10_figuresOf wse_X10_figuresOf win_X10) rfl rfl rfl hdX10_figuresOf ⟨Nat.le_of_ble_eq_true rfl, Nat.le_of_ble_eq_true rfl⟩) (q_preV vqX10 (fX10_figuresOf_is hc) hR hK hz) rfl rfl hl.1 rfl (lv_room (Nat.le_of_ble_eq_true rfl)) dX10_forged_13 ⟨Nat.le_of_ble_eq_true rfl, Nat.le_of_ble_eq_true rfl⟩) hS (fun H locs hR hS hz => ?_)
    refine lv_istore (lv' := [(4, .int v2), (0, .ref a0), (1, .int a1), (2, .int a2), (3, .int a3)]) hx hb dX10_forged_16 hl (by decide) rfl (fun ls hl => ?_)
    refine lv_iload hx hb dX10_forged_18 (lv_at hl 0 rfl) ?_
    refine lv_if_lt (tgt := 33) hx hb dX10_forged_20 (by decide) (fun hc => ?_) (fun hc => ?_)
    · have hf := q_t hf hc
      refine lv_ldc (v := (-1000000002 : Int32)) hx hb hown (hT _ wk_X10_111) dX10_forged_33 ?_
      subst hQ
      obtain ⟨h8, h9⟩ := Prod.mk.inj (Option.some.inj hf)
      exact q_iret hx hb hr hlocks hR hS hz h8 h9 dX10_forged_35
    · have hf := q_f hf hc
      refine lv_iload_n hx hb dX10_forged_23 rfl (lv_at hl 4 rfl) ?_
      refine lv_i2l hx hb dX10_forged_24 rfl ?_
      refine lv_lconst (v := (0 : Int64)) hx hb dX10_forged_25 (by decide) ?_
      refine lv_lconst (v := (1 : Int64)) hx hb dX10_forged_26 (by decide) ?_
      obtain ⟨v4, hc, hf⟩ := q_b hf
      refine q_calli (va_runS (As := [.long ((a3).toInt64), .long (0 : Int64), .long (1 : Int64)]) (rest := []) ⟨hx, hb, hml, hown, hT⟩ (mX10_in l D kz b0 sz F X3 ((a3).toInt64) (0 : Int64) (1 : Int64) v4 hc) (va_cwS 3 hT (q_gS wco_X10_in wml_X10_105 wst_X10_in win_X10) rfl rfl rfl hdX10_in ⟨Nat.le_of_ble_eq_true rfl, Nat.le_of_ble_eq_true rfl⟩) (q_preS hR hK hz) rfl rfl hl.1 rfl (lv_room (Nat.le_of_ble_eq_true rfl)) dX10_forged_27 ⟨Nat.le_of_ble_eq_true rfl, Nat.le_of_ble_eq_true rfl⟩) hS (fun H locs hR hS hz => ?_)
      refine lv_if_ne (tgt := 36) hx hb dX10_forged_30 (by decide) (fun hc => ?_) (fun hc => ?_)
      · have hf := q_f hf hc
        refine lv_iload hx hb dX10_forged_36 (lv_at hl 0 rfl) ?_
        refine lv_aload_n hx hb dX10_forged_38 rfl (lv_at hl 1 rfl) ?_
        refine q_gR hx hb hT hown hK hR iqX10 vqX10 4 (by decide) (hT _ wfl_X10_16) hf dX10_forged_39 (fun v5 hf => ?_)
        refine lv_iload_n hx hb dX10_forged_42 rfl (lv_at hl 2 rfl) ?_
        refine q_iald hx hb hK hR hf dX10_forged_43 (fun v6 hf => ?_)
        obtain ⟨v7, hp, hf⟩ := q_b hf
        have hJ : ∀ (H : Heap) (locs : List Loc) (ls : Array Slot), qR D kz b0 X3 H → va_S (qA b0) s.heap H locs → H.size = sz → lv_has ls 11 [(0, .ref a0), (1, .int a1), (3, .int a3), (4, .int v2)] → W p l e rmX10_forged s m args below meth c H locs 0 0 Q (F0 m 58 ls [.int v7]) := by
          intro H locs ls hR hS hz hl
          refine lv_istore (lv' := [(5, .int v7), (0, .ref a0), (1, .int a1), (3, .int a3), (4, .int v2)]) hx hb dX10_forged_58 hl (by decide) rfl (fun ls hl => ?_)
          refine lv_iconst (v := (0 : Int32)) hx hb dX10_forged_60 (by decide) ?_
          refine lv_istore (lv' := [(6, .int (0 : Int32)), (5, .int v7), (0, .ref a0), (1, .int a1), (3, .int a3), (4, .int v2)]) hx hb dX10_forged_61 hl (by decide) rfl (fun ls hl => ?_)
          refine lv_ldc2 (v := (1000000000 : Int64)) hx hb hown (hT _ wkl_X10_288) dX10_forged_63 ?_
          refine lv_lstore (lv' := [(7, .long (1000000000 : Int64)), (6, .int (0 : Int32)), (5, .int v7), (0, .ref a0), (1, .int a1), (3, .int a3), (4, .int v2)]) hx hb dX10_forged_66 hl (by decide) rfl (fun ls hl => ?_)
          refine lv_iconst (v := (0 : Int32)) hx hb dX10_forged_68 (by decide) ?_
          refine lv_istore (lv' := [(9, .int (0 : Int32)), (7, .long (1000000000 : Int64)), (6, .int (0 : Int32)), (5, .int v7), (0, .ref a0), (1, .int a1), (3, .int a3), (4, .int v2)]) hx hb dX10_forged_69 hl (by decide) rfl (fun ls hl => ?_)
          obtain ⟨v23, v24, ho, hf⟩ := q_b2 hf
          have hL : ∀ (n : Nat) (v8 : Int32) (v9 : Int64) (v10 : Int32) (out : Int32 × Int64), fX10_forged_L71 F X3 a0 a1 a3 v2 v7 n v8 v9 v10 = some out → (∀ (v23 : Int32) (v24 : Int64), out = (v23, v24) → ∀ (H : Heap) (locs : List Loc) (ls : Array Slot), qR D kz b0 X3 H → va_S (qA b0) s.heap H locs → H.size = sz → lv_has ls 11 [(3, .int a3), (6, .int v23), (7, .long v24)] → W p l e rmX10_forged s m args below meth c H locs 0 0 Q (F0 m 167 ls [])) → ∀ (H : Heap) (locs : List Loc) (ls : Array Slot), qR D kz b0 X3 H → va_S (qA b0) s.heap H locs → H.size = sz → lv_has ls 11 [(0, .ref a0), (1, .int a1), (3, .int a3), (4, .int v2), (5, .int v7), (6, .int v8), (7, .long v9), (9, .int v10)] → W p l e rmX10_forged s m args below meth c H locs 0 0 Q (F0 m 71 ls []) := by
            intro n9
            induction n9 with
            | zero =>
              intro v8 v9 v10 out hf
              exact absurd (show none = some out from hf) (by simp)
            | succ n9 ih0 =>
              intro v8 v9 v10 out hf hex H locs ls hR hS hz hl
              have hf : fX10_forged_L71_B F X3 a0 a1 a3 v2 v7 (fX10_forged_L71 F X3 a0 a1 a3 v2 v7 n9) v8 v9 v10 = some out := hf
              unfold fX10_forged_L71_B at hf
              refine lv_iload hx hb dX10_forged_71 (lv_at hl 7 rfl) ?_
              refine lv_iload hx hb dX10_forged_73 (lv_at hl 4 rfl) ?_
              refine lv_icmp_ge (tgt := 167) hx hb dX10_forged_75 (by decide) (fun hc => ?_) (fun hc => ?_)
              · have hf := q_t hf hc
                exact hex _ _ (Option.some.inj hf).symm _ _ _ hR hS hz (lv_sub hl [2, 5, 6] rfl)
              · have hf := q_f hf hc
                refine lv_iload hx hb dX10_forged_78 (lv_at hl 7 rfl) ?_
                refine lv_iload hx hb dX10_forged_80 (lv_at hl 3 rfl) ?_
                obtain ⟨v11, hp, hf⟩ := q_b hf
                have hJ : ∀ (H : Heap) (locs : List Loc) (ls : Array Slot), qR D kz b0 X3 H → va_S (qA b0) s.heap H locs → H.size = sz → lv_has ls 11 [(0, .ref a0), (1, .int a1), (3, .int a3), (4, .int v2), (5, .int v7), (6, .int v8), (7, .long v9), (9, .int v10)] → W p l e rmX10_forged s m args below meth c H locs 0 0 Q (F0 m 122 ls [.int v11]) := by
                  intro H locs ls hR hS hz hl
                  refine lv_istore (lv' := [(10, .int v11), (0, .ref a0), (1, .int a1), (3, .int a3), (4, .int v2), (5, .int v7), (6, .int v8), (7, .long v9), (9, .int v10)]) hx hb dX10_forged_122 hl (by decide) rfl (fun ls hl => ?_)
                  refine lv_iload hx hb dX10_forged_124 (lv_at hl 6 rfl) ?_
                  refine lv_iload hx hb dX10_forged_126 (lv_at hl 0 rfl) ?_
                  obtain ⟨v12, hp, hf⟩ := q_b hf
                  have hJ : ∀ (H : Heap) (locs : List Loc) (ls : Array Slot), qR D kz b0 X3 H → va_S (qA b0) s.heap H locs → H.size = sz → lv_has ls 11 [(0, .ref a0), (1, .int a1), (3, .int a3), (4, .int v2), (5, .int v7), (7, .long v9), (9, .int v10), (10, .int v11)] → W p l e rmX10_forged s m args below meth c H locs 0 0 Q (F0 m 136 ls [.int v12, .int v8]) := by
                    intro H locs ls hR hS hz hl
                    refine lv_iadd hx hb dX10_forged_136 ?_
                    refine lv_topi (fun v13 ev13 => ?_)
                    have hf := q_lt ev13 hf
                    refine lv_istore (lv' := [(6, .int v13), (0, .ref a0), (1, .int a1), (3, .int a3), (4, .int v2), (5, .int v7), (7, .long v9), (9, .int v10), (10, .int v11)]) hx hb dX10_forged_137 hl (by decide) rfl (fun ls hl => ?_)
                    refine lv_lload hx hb dX10_forged_139 (lv_at hl 6 rfl) ?_
                    refine lv_iload hx hb dX10_forged_141 (lv_at hl 8 rfl) ?_
                    obtain ⟨v14, hp, hf⟩ := q_b hf
                    have hJ : ∀ (H : Heap) (locs : List Loc) (ls : Array Slot), qR D kz b0 X3 H → va_S (qA b0) s.heap H locs → H.size = sz → lv_has ls 11 [(0, .ref a0), (1, .int a1), (3, .int a3), (4, .int v2), (5, .int v7), (6, .int v13), (9, .int v10)] → W p l e rmX10_forged s m args below meth c H locs 0 0 Q (F0 m 153 ls [.int v14, .long v9]) := by
                      intro H locs ls hR hS hz hl
                      refine lv_i2l hx hb dX10_forged_153 rfl ?_
                      refine lv_lmul hx hb dX10_forged_154 ?_
                      refine lv_ldc2 (v := (100 : Int64)) hx hb hown (hT _ wkl_X10_290) dX10_forged_155 ?_
                      refine lv_ldiv hx hb dX10_forged_158 (by decide) ?_
                      refine lv_topl (fun v15 ev15 => ?_)
                      have hf := q_lt ev15 hf
                      refine lv_lstore (lv' := [(7, .long v15), (0, .ref a0), (1, .int a1), (3, .int a3), (4, .int v2), (5, .int v7), (6, .int v13), (9, .int v10)]) hx hb dX10_forged_159 hl (by decide) rfl (fun ls hl => ?_)
                      obtain ⟨v16, ev16⟩ : ∃ y : Int32, y = (v10 + (1 : Int32)) := ⟨_, rfl⟩
                      have hf := q_lt ev16 hf
                      refine lv_iinc (v := v16) (lv' := [(9, .int v16), (7, .long v15), (0, .ref a0), (1, .int a1), (3, .int a3), (4, .int v2), (5, .int v7), (6, .int v13)]) hx hb dX10_forged_161 hl (k := 7) rfl (by rw [ev16]; rfl) (by decide) rfl (fun ls hl => ?_)
                      refine lv_goto (tgt := 71) hx hb dX10_forged_164 (by decide) ?_
                      exact ih0 _ _ _ out hf hex _ _ _ hR hS hz (lv_sub hl [2, 3, 4, 5, 6, 7, 1, 0] rfl)
                    have hf := hp
                    refine lv_if_eq (tgt := 151) hx hb dX10_forged_143 (by decide) (fun hc => ?_) (fun hc => ?_)
                    · have hf := q_t hf hc
                      refine lv_bipush (v := (10 : Int32)) hx hb dX10_forged_151 (by decide) ?_
                      cases hf
                      exact hJ _ _ _ hR hS hz (lv_sub hl [1, 2, 3, 4, 5, 0, 7] rfl)
                    · have hf := q_f hf hc
                      refine lv_bipush (v := (90 : Int32)) hx hb dX10_forged_146 (by decide) ?_
                      refine lv_goto (tgt := 153) hx hb dX10_forged_148 (by decide) ?_
                      cases hf
                      exact hJ _ _ _ hR hS hz (lv_sub hl [1, 2, 3, 4, 5, 0, 7] rfl)
                  have hf := hp
                  refine lv_if_eq (tgt := 135) hx hb dX10_forged_128 (by decide) (fun hc => ?_) (fun hc => ?_)
                  · have hf := q_t hf hc
                    refine lv_iconst (v := (1 : Int32)) hx hb dX10_forged_135 (by decide) ?_
                    cases hf
                    exact hJ _ _ _ hR hS hz (lv_sub hl [1, 2, 3, 4, 5, 7, 8, 0] rfl)
                  · have hf := q_f hf hc
                    refine lv_iconst (v := (0 : Int32)) hx hb dX10_forged_131 (by decide) ?_
                    refine lv_goto (tgt := 136) hx hb dX10_forged_132 (by decide) ?_
                    cases hf
                    exact hJ _ _ _ hR hS hz (lv_sub hl [1, 2, 3, 4, 5, 7, 8, 0] rfl)
                have hf := hp
                refine lv_icmp_ge (tgt := 121) hx hb dX10_forged_82 (by decide) (fun hc => ?_) (fun hc => ?_)
                · have hf := q_t hf hc
                  refine lv_iconst (v := (0 : Int32)) hx hb dX10_forged_121 (by decide) ?_
                  cases hf
                  exact hJ _ _ _ hR hS hz (lv_sub hl [0, 1, 2, 3, 4, 5, 6, 7] rfl)
                · have hf := q_f hf hc
                  refine lv_iload hx hb dX10_forged_85 (lv_at hl 7 rfl) ?_
                  refine lv_aload_n hx hb dX10_forged_87 rfl (lv_at hl 0 rfl) ?_
                  refine q_gR hx hb hT hown hK hR iqX10 vqX10 4 (by decide) (hT _ wfl_X10_16) hf dX10_forged_88 (fun v17 hf => ?_)
                  refine lv_iload_n hx hb dX10_forged_91 rfl (lv_at hl 1 rfl) ?_
                  refine q_iald hx hb hK hR hf dX10_forged_92 (fun v18 hf => ?_)
                  refine lv_icmp_ge (tgt := 121) hx hb dX10_forged_93 (by decide) (fun hc => ?_) (fun hc => ?_)
                  · have hf := q_t hf hc
                    refine lv_iconst (v := (0 : Int32)) hx hb dX10_forged_121 (by decide) ?_
                    cases hf
                    exact hJ _ _ _ hR hS hz (lv_sub hl [0, 1, 2, 3, 4, 5, 6, 7] rfl)
                  · have hf := q_f hf hc
                    refine lv_aload_n hx hb dX10_forged_96 rfl (lv_at hl 0 rfl) ?_
                    refine q_gR hx hb hT hown hK hR iqX10 vqX10 30 (by decide) (hT _ wfl_X10_68) hf dX10_forged_97 (fun v19 hf => ?_)
                    refine lv_iload hx hb dX10_forged_100 (lv_at hl 7 rfl) ?_
                    refine q_iald hx hb hK hR hf dX10_forged_102 (fun v20 hf => ?_)
                    refine lv_aload_n hx hb dX10_forged_103 rfl (lv_at hl 0 rfl) ?_
                    refine q_gR hx hb hT hown hK hR iqX10 vqX10 5 (by decide) (hT _ wfl_X10_19) hf dX10_forged_104 (fun v21 hf => ?_)
                    refine lv_iconst (v := (5 : Int32)) hx hb dX10_forged_107 (by decide) ?_
                    refine lv_iload_n hx hb dX10_forged_108 rfl (lv_at hl 1 rfl) ?_
                    refine lv_imul hx hb dX10_forged_109 ?_
                    refine lv_iload hx hb dX10_forged_110 (lv_at hl 7 rfl) ?_
                    refine lv_iadd hx hb dX10_forged_112 ?_
                    refine q_iald hx hb hK hR hf dX10_forged_113 (fun v22 hf => ?_)
                    refine lv_icmp_ne (tgt := 121) hx hb dX10_forged_114 (by decide) (fun hc => ?_) (fun hc => ?_)
                    · have hf := q_f hf hc
                      refine lv_iconst (v := (0 : Int32)) hx hb dX10_forged_121 (by decide) ?_
                      cases hf
                      exact hJ _ _ _ hR hS hz (lv_sub hl [0, 1, 2, 3, 4, 5, 6, 7] rfl)
                    · have hf := q_t hf hc
                      refine lv_iconst (v := (1 : Int32)) hx hb dX10_forged_117 (by decide) ?_
                      refine lv_goto (tgt := 122) hx hb dX10_forged_118 (by decide) ?_
                      cases hf
                      exact hJ _ _ _ hR hS hz (lv_sub hl [0, 1, 2, 3, 4, 5, 6, 7] rfl)
          refine hL F _ _ _ _ ho (fun z0 z1 h9 => ?_) _ _ _ hR hS hz (lv_sub hl [4, 5, 6, 7, 3, 2, 1, 0] rfl)
          cases h9
          intro H locs ls hR hS hz hl
          refine lv_iload_n hx hb dX10_forged_167 rfl (lv_at hl 0 rfl) ?_
          obtain ⟨v25, hp, hf⟩ := q_b hf
          have hJ : ∀ (H : Heap) (locs : List Loc) (ls : Array Slot), qR D kz b0 X3 H → va_S (qA b0) s.heap H locs → H.size = sz → lv_has ls 11 [] → W p l e rmX10_forged s m args below meth c H locs 0 0 Q (F0 m 179 ls [.int v25]) := by
            intro H locs ls hR hS hz hl
            subst hQ
            obtain ⟨h8, h9⟩ := Prod.mk.inj (Option.some.inj hf)
            exact q_iret hx hb hr hlocks hR hS hz h8 h9 dX10_forged_179
          have hf := hp
          refine lv_if_ne (tgt := 176) hx hb dX10_forged_168 (by decide) (fun hc => ?_) (fun hc => ?_)
          · have hf := q_f hf hc
            refine lv_lload hx hb dX10_forged_176 (lv_at hl 2 rfl) ?_
            refine lv_l2i hx hb dX10_forged_178 rfl ?_
            cases hf
            exact hJ _ _ _ hR hS hz (lv_sub hl [] rfl)
          · have hf := q_t hf hc
            refine lv_iload hx hb dX10_forged_171 (lv_at hl 1 rfl) ?_
            refine lv_goto (tgt := 179) hx hb dX10_forged_173 (by decide) ?_
            cases hf
            exact hJ _ _ _ hR hS hz (lv_sub hl [] rfl)
        have hf := hp
        refine lv_icmp_le (tgt := 52) hx hb dX10_forged_44 (by decide) (fun hc => ?_) (fun hc => ?_)
        · have hf := q_t hf hc
          refine lv_aload_n hx hb dX10_forged_52 rfl (lv_at hl 1 rfl) ?_
          refine q_gR hx hb hT hown hK hR iqX10 vqX10 4 (by decide) (hT _ wfl_X10_16) hf dX10_forged_53 (fun v26 hf => ?_)
          refine lv_iload_n hx hb dX10_forged_56 rfl (lv_at hl 2 rfl) ?_
          refine q_iald hx hb hK hR hf dX10_forged_57 (fun v27 hf => ?_)
          cases hf
          exact hJ _ _ _ hR hS hz (lv_sub hl [1, 2, 4, 0] rfl)
        · have hf := q_f hf hc
          refine lv_iload hx hb dX10_forged_47 (lv_at hl 0 rfl) ?_
          refine lv_goto (tgt := 58) hx hb dX10_forged_49 (by decide) ?_
          cases hf
          exact hJ _ _ _ hR hS hz (lv_sub hl [1, 2, 4, 0] rfl)
      · have hf := q_t hf hc
        refine lv_ldc (v := (-1000000002 : Int32)) hx hb hown (hT _ wk_X10_111) dX10_forged_33 ?_
        subst hQ
        obtain ⟨h8, h9⟩ := Prod.mk.inj (Option.some.inj hf)
        exact q_iret hx hb hr hlocks hR hS hz h8 h9 dX10_forged_35
  · have hf := q_t hf hc
    refine lv_ldc (v := (-1000000001 : Int32)) hx hb hown (hT _ wk_X10_207) dX10_forged_8 ?_
    subst hQ
    obtain ⟨h8, h9⟩ := Prod.mk.inj (Option.some.inj hf)
    exact q_iret hx hb hr hlocks hR hS hz h8 h9 dX10_forged_10
/-! X10_damp -/
def fX10_damp_L18_B (F : Nat) (X : qH) (a0 : Nat) (a1 : Int32) (self0 : Int64 → Int32 → Option (Int64)) (v2 : Int64) (v3 : Int32) : Option (Int64) :=
(qgI X 9 a0 1).bind fun v4 =>
if ((5 : Int32) * v4) ≤ v3 then (some v2)
else ((fX10_has F X a1 (v3 / (5 : Int32))).bind fun v5 =>
(if v5 = (0 : Int32) then (some (0 : Int32))
else ((qgR X 9 a0 4).bind fun v10 =>
(qaI X 0 v10 (v3 / (5 : Int32))).bind fun v11 =>
if v11 ≤ (v3 - v3 / (5 : Int32) * (5 : Int32)) then (some (0 : Int32))
else ((qgR X 9 a0 5).bind fun v12 =>
(qaI X 0 v12 v3).bind fun v13 =>
if v13 = (3 : Int32) then (some (1 : Int32))
else (some (0 : Int32)))) : Option Int32).bind fun v6 =>
(if v6 = (0 : Int32) then (some v2)
else ((qgI X 9 a0 7).bind fun v9 =>
some ((v2 * ((((100 : Int32) - v9)).toInt64)) / (100 : Int64))) : Option Int64).bind fun v7 =>
qlt (v3 + (1 : Int32)) fun v8 =>
self0 v7 v8)
def fX10_damp_L18 (F : Nat) (X : qH) (a0 : Nat) (a1 : Int32) : Nat → Int64 → Int32 → Option (Int64)
  | 0, _, _ => none
  | n + 1, v2, v3 => fX10_damp_L18_B F X a0 a1 (fX10_damp_L18 F X a0 a1 n) v2 v3
def fX10_damp (F : Nat) (X : qH) (a0 : Nat) (a1 : Int32) : Option (Int32) :=
qIs 9 X a0 <|
(fX10_isSet F X a0 a1).bind fun v1 =>
if v1 = (0 : Int32) then (some (-1000000001 : Int32))
else ((fX10_damp_L18 F X a0 a1 F (1000000000 : Int64) (0 : Int32)).bind fun v14 =>
some ((v14).toInt32))
abbrev rmX10_damp : Room := { frames := 2, cells := 0, slots := 0, locals := 46 }
theorem fX10_damp_is {F : Nat} {X : qH} {a0 : Nat} {a1 : Int32} {r9 : Int32} (h : fX10_damp F X a0 a1 = some r9) : ∃ fs, X a0 = some (.inr (9, fs)) := (qIs_spec h).1
theorem hdX10_damp : yX10_damp.cls = RX10 ∧ yX10_damp.cls ≠ "java/lang/invoke/MethodHandle" ∧ yX10_damp.cls ≠ "java/lang/invoke/VarHandle" ∧ (parseMethodDescriptor yX10_damp.desc).map (fun d => d.parameters.length) = some 1 := by decide +kernel
set_option maxHeartbeats 4000000 in
set_option maxRecDepth 100000 in
theorem mX10_damp (l : Launch) (D : va_G) (kz : Nat → Nat) (b0 sz F : Nat) (X : qH) (a0 : Nat) (a1 : Int32) (r : Int32) (hf : fX10_damp F X a0 a1 = some r) : Met l yX10_damp (qws yX10_damp cX10_damp 6 (some .int)) rmX10_damp (va_Pc [.ref a0, .int a1] (qU D kz b0 sz X)) (va_Qi (fun (r' : Int32) (u : qH) => r' = r ∧ u = X) (fun u t => qO D kz b0 sz u t) (qA b0)) 0 0 (qA b0) := by
  refine q_start (by decide) (Nat.le_of_ble_eq_true rfl) ?_
  intro p e s m args below meth c hx hb hr hlocks hnm hml hown hT hR hK hz ls hl
  have hown : s.vm.findClass RX10 = some m.cls := hown
  have hl : lv_has ls 6 [(0, .ref a0), (1, .int a1)] := hl
  have hS : va_S (qA b0) s.heap s.heap [] := va_S.rf
  obtain ⟨Q, hQ⟩ : ∃ Q, Q = MQ below (va_Qi (fun (r' : Int32) (u : qH) => r' = r ∧ u = X) (fun u t => qO D kz b0 sz u t) (qA b0)) args s 0 0 (qA b0) := ⟨_, rfl⟩
  rw [← hQ]
  unfold fX10_damp at hf
  obtain ⟨hthis, hf⟩ := qIs_spec hf
  refine lv_aload_n hx hb dX10_damp_0 rfl (lv_at hl 0 rfl) ?_
  refine lv_iload_n hx hb dX10_damp_1 rfl (lv_at hl 1 rfl) ?_
  obtain ⟨v1, hc, hf⟩ := q_b hf
  refine q_calli (va_runV (As := [.int a1]) (rest := []) ⟨hx, hb, hml, hown, hT⟩ (mX10_isSet l D kz b0 sz F X a0 a1 v1 hc) (cwV 1 hT (q_gV wco_X10_isSet wml_X10_275 wim_X10_isSet wse_X10_isSet win_X10) rfl rfl rfl hdX10_isSet ⟨Nat.le_of_ble_eq_true rfl, Nat.le_of_ble_eq_true rfl⟩) (q_preV vqX10 (fX10_isSet_is hc) hR hK hz) rfl rfl hl.1 rfl (lv_room (Nat.le_of_ble_eq_true rfl)) dX10_damp_2 ⟨Nat.le_of_ble_eq_true rfl, Nat.le_of_ble_eq_true rfl⟩) hS (fun H locs hR hS hz => ?_)
  refine lv_if_ne (tgt := 11) hx hb dX10_damp_5 (by decide) (fun hc => ?_) (fun hc => ?_)
  · have hf := q_f hf hc
    refine lv_ldc2 (v := (1000000000 : Int64)) hx hb hown (hT _ wkl_X10_288) dX10_damp_11 ?_
    refine lv_lstore_n (lv' := [(2, .long (1000000000 : Int64)), (0, .ref a0), (1, .int a1)]) hx hb dX10_damp_14 rfl hl (by decide) rfl (fun ls hl => ?_)
    refine lv_iconst (v := (0 : Int32)) hx hb dX10_damp_15 (by decide) ?_
    refine lv_istore (lv' := [(4, .int (0 : Int32)), (2, .long (1000000000 : Int64)), (0, .ref a0), (1, .int a1)]) hx hb dX10_damp_16 hl (by decide) rfl (fun ls hl => ?_)
    obtain ⟨v14, ho, hf⟩ := q_b hf
    have hL : ∀ (n : Nat) (v2 : Int64) (v3 : Int32) (out : Int64), fX10_damp_L18 F X a0 a1 n v2 v3 = some out → (∀ (v14 : Int64), out = v14 → ∀ (H : Heap) (locs : List Loc) (ls : Array Slot), qR D kz b0 X H → va_S (qA b0) s.heap H locs → H.size = sz → lv_has ls 6 [(2, .long v14)] → W p l e rmX10_damp s m args below meth c H locs 0 0 Q (F0 m 104 ls [])) → ∀ (H : Heap) (locs : List Loc) (ls : Array Slot), qR D kz b0 X H → va_S (qA b0) s.heap H locs → H.size = sz → lv_has ls 6 [(0, .ref a0), (1, .int a1), (2, .long v2), (4, .int v3)] → W p l e rmX10_damp s m args below meth c H locs 0 0 Q (F0 m 18 ls []) := by
      intro n9
      induction n9 with
      | zero =>
        intro v2 v3 out hf
        exact absurd (show none = some out from hf) (by simp)
      | succ n9 ih0 =>
        intro v2 v3 out hf hex H locs ls hR hS hz hl
        have hf : fX10_damp_L18_B F X a0 a1 (fX10_damp_L18 F X a0 a1 n9) v2 v3 = some out := hf
        unfold fX10_damp_L18_B at hf
        refine lv_iload hx hb dX10_damp_18 (lv_at hl 3 rfl) ?_
        refine lv_iconst (v := (5 : Int32)) hx hb dX10_damp_20 (by decide) ?_
        refine lv_aload_n hx hb dX10_damp_21 rfl (lv_at hl 0 rfl) ?_
        refine q_gI hx hb hT hown hK hR iqX10 vqX10 1 (by decide) (hT _ wfl_X10_102) hf dX10_damp_22 (fun v4 hf => ?_)
        refine lv_imul hx hb dX10_damp_25 ?_
        refine lv_icmp_ge (tgt := 104) hx hb dX10_damp_26 (by decide) (fun hc => ?_) (fun hc => ?_)
        · have hf := q_t hf hc
          exact hex _ (Option.some.inj hf).symm _ _ _ hR hS hz (lv_sub hl [2] rfl)
        · have hf := q_f hf hc
          refine lv_iload_n hx hb dX10_damp_29 rfl (lv_at hl 1 rfl) ?_
          refine lv_iload hx hb dX10_damp_30 (lv_at hl 3 rfl) ?_
          refine lv_iconst (v := (5 : Int32)) hx hb dX10_damp_32 (by decide) ?_
          refine lv_idiv hx hb dX10_damp_33 (by decide) ?_
          obtain ⟨v5, hc, hf⟩ := q_b hf
          refine q_calli (va_runS (As := [.int a1, .int (v3 / (5 : Int32))]) (rest := []) ⟨hx, hb, hml, hown, hT⟩ (mX10_has l D kz b0 sz F X a1 (v3 / (5 : Int32)) v5 hc) (va_cwS 2 hT (q_gS wco_X10_has wml_X10_194 wst_X10_has win_X10) rfl rfl rfl hdX10_has ⟨Nat.le_of_ble_eq_true rfl, Nat.le_of_ble_eq_true rfl⟩) (q_preS hR hK hz) rfl rfl hl.1 rfl (lv_room (Nat.le_of_ble_eq_true rfl)) dX10_damp_34 ⟨Nat.le_of_ble_eq_true rfl, Nat.le_of_ble_eq_true rfl⟩) hS (fun H locs hR hS hz => ?_)
          obtain ⟨v6, hp, hf⟩ := q_b hf
          have hJ : ∀ (H : Heap) (locs : List Loc) (ls : Array Slot), qR D kz b0 X H → va_S (qA b0) s.heap H locs → H.size = sz → lv_has ls 6 [(0, .ref a0), (1, .int a1), (2, .long v2), (4, .int v3)] → W p l e rmX10_damp s m args below meth c H locs 0 0 Q (F0 m 72 ls [.int v6]) := by
            intro H locs ls hR hS hz hl
            refine lv_istore (lv' := [(5, .int v6), (0, .ref a0), (1, .int a1), (2, .long v2), (4, .int v3)]) hx hb dX10_damp_72 hl (by decide) rfl (fun ls hl => ?_)
            refine lv_iload hx hb dX10_damp_74 (lv_at hl 0 rfl) ?_
            obtain ⟨v7, hp, hf⟩ := q_b hf
            have hJ : ∀ (H : Heap) (locs : List Loc) (ls : Array Slot), qR D kz b0 X H → va_S (qA b0) s.heap H locs → H.size = sz → lv_has ls 6 [(0, .ref a0), (1, .int a1), (4, .int v3)] → W p l e rmX10_damp s m args below meth c H locs 0 0 Q (F0 m 97 ls [.long v7]) := by
              intro H locs ls hR hS hz hl
              refine lv_lstore_n (lv' := [(2, .long v7), (0, .ref a0), (1, .int a1), (4, .int v3)]) hx hb dX10_damp_97 rfl hl (by decide) rfl (fun ls hl => ?_)
              obtain ⟨v8, ev8⟩ : ∃ y : Int32, y = (v3 + (1 : Int32)) := ⟨_, rfl⟩
              have hf := q_lt ev8 hf
              refine lv_iinc (v := v8) (lv' := [(4, .int v8), (2, .long v7), (0, .ref a0), (1, .int a1)]) hx hb dX10_damp_98 hl (k := 3) rfl (by rw [ev8]; rfl) (by decide) rfl (fun ls hl => ?_)
              refine lv_goto (tgt := 18) hx hb dX10_damp_101 (by decide) ?_
              exact ih0 _ _ out hf hex _ _ _ hR hS hz (lv_sub hl [2, 3, 1, 0] rfl)
            have hf := hp
            refine lv_if_eq (tgt := 96) hx hb dX10_damp_76 (by decide) (fun hc => ?_) (fun hc => ?_)
            · have hf := q_t hf hc
              refine lv_lload_n hx hb dX10_damp_96 rfl (lv_at hl 3 rfl) ?_
              cases hf
              exact hJ _ _ _ hR hS hz (lv_sub hl [1, 2, 4] rfl)
            · have hf := q_f hf hc
              refine lv_lload_n hx hb dX10_damp_79 rfl (lv_at hl 3 rfl) ?_
              refine lv_bipush (v := (100 : Int32)) hx hb dX10_damp_80 (by decide) ?_
              refine lv_aload_n hx hb dX10_damp_82 rfl (lv_at hl 1 rfl) ?_
              refine q_gI hx hb hT hown hK hR iqX10 vqX10 7 (by decide) (hT _ wfl_X10_26) hf dX10_damp_83 (fun v9 hf => ?_)
              refine lv_isub hx hb dX10_damp_86 ?_
              refine lv_i2l hx hb dX10_damp_87 rfl ?_
              refine lv_lmul hx hb dX10_damp_88 ?_
              refine lv_ldc2 (v := (100 : Int64)) hx hb hown (hT _ wkl_X10_290) dX10_damp_89 ?_
              refine lv_ldiv hx hb dX10_damp_92 (by decide) ?_
              refine lv_goto (tgt := 97) hx hb dX10_damp_93 (by decide) ?_
              cases hf
              exact hJ _ _ _ hR hS hz (lv_sub hl [1, 2, 4] rfl)
          have hf := hp
          refine lv_if_eq (tgt := 71) hx hb dX10_damp_37 (by decide) (fun hc => ?_) (fun hc => ?_)
          · have hf := q_t hf hc
            refine lv_iconst (v := (0 : Int32)) hx hb dX10_damp_71 (by decide) ?_
            cases hf
            exact hJ _ _ _ hR hS hz (lv_sub hl [0, 1, 2, 3] rfl)
          · have hf := q_f hf hc
            refine lv_iload hx hb dX10_damp_40 (lv_at hl 3 rfl) ?_
            refine lv_iconst (v := (5 : Int32)) hx hb dX10_damp_42 (by decide) ?_
            refine lv_irem hx hb dX10_damp_43 (by decide) ?_
            refine lv_aload_n hx hb dX10_damp_44 rfl (lv_at hl 0 rfl) ?_
            refine q_gR hx hb hT hown hK hR iqX10 vqX10 4 (by decide) (hT _ wfl_X10_16) hf dX10_damp_45 (fun v10 hf => ?_)
            refine lv_iload hx hb dX10_damp_48 (lv_at hl 3 rfl) ?_
            refine lv_iconst (v := (5 : Int32)) hx hb dX10_damp_50 (by decide) ?_
            refine lv_idiv hx hb dX10_damp_51 (by decide) ?_
            refine q_iald hx hb hK hR hf dX10_damp_52 (fun v11 hf => ?_)
            refine lv_icmp_ge (tgt := 71) hx hb dX10_damp_53 (by decide) (fun hc => ?_) (fun hc => ?_)
            · have hf := q_t hf hc
              refine lv_iconst (v := (0 : Int32)) hx hb dX10_damp_71 (by decide) ?_
              cases hf
              exact hJ _ _ _ hR hS hz (lv_sub hl [0, 1, 2, 3] rfl)
            · have hf := q_f hf hc
              refine lv_aload_n hx hb dX10_damp_56 rfl (lv_at hl 0 rfl) ?_
              refine q_gR hx hb hT hown hK hR iqX10 vqX10 5 (by decide) (hT _ wfl_X10_19) hf dX10_damp_57 (fun v12 hf => ?_)
              refine lv_iload hx hb dX10_damp_60 (lv_at hl 3 rfl) ?_
              refine q_iald hx hb hK hR hf dX10_damp_62 (fun v13 hf => ?_)
              refine lv_iconst (v := (3 : Int32)) hx hb dX10_damp_63 (by decide) ?_
              refine lv_icmp_ne (tgt := 71) hx hb dX10_damp_64 (by decide) (fun hc => ?_) (fun hc => ?_)
              · have hf := q_f hf hc
                refine lv_iconst (v := (0 : Int32)) hx hb dX10_damp_71 (by decide) ?_
                cases hf
                exact hJ _ _ _ hR hS hz (lv_sub hl [0, 1, 2, 3] rfl)
              · have hf := q_t hf hc
                refine lv_iconst (v := (1 : Int32)) hx hb dX10_damp_67 (by decide) ?_
                refine lv_goto (tgt := 72) hx hb dX10_damp_68 (by decide) ?_
                cases hf
                exact hJ _ _ _ hR hS hz (lv_sub hl [0, 1, 2, 3] rfl)
    refine hL F _ _ _ ho (fun z0 h9 => ?_) _ _ _ hR hS hz (lv_sub hl [2, 3, 1, 0] rfl)
    cases h9
    intro H locs ls hR hS hz hl
    refine lv_lload_n hx hb dX10_damp_104 rfl (lv_at hl 0 rfl) ?_
    refine lv_l2i hx hb dX10_damp_105 rfl ?_
    subst hQ
    exact q_iret hx hb hr hlocks hR hS hz (Option.some.inj hf) rfl dX10_damp_106
  · have hf := q_t hf hc
    refine lv_ldc (v := (-1000000001 : Int32)) hx hb hown (hT _ wk_X10_207) dX10_damp_8 ?_
    subst hQ
    exact q_iret hx hb hr hlocks hR hS hz (Option.some.inj hf) rfl dX10_damp_10
/-! X10_nearest -/
def fX10_nearest_L4_B (F : Nat) (X : qH) (a0 : Nat) (a1 : Int32) (self0 : Int32 → Int32 → Option (Int32)) (v1 : Int32) (v2 : Int32) : Option (Int32) :=
(qgI X 9 a0 1).bind fun v3 =>
if v3 ≤ v2 then (some v1)
else ((qgR X 9 a0 8).bind fun v4 =>
(qaI X 0 v4 ((3 : Int32) + v2)).bind fun v5 =>
(if v5 ≤ (0 : Int32) then (some (0 : Int32))
else ((qgR X 9 a0 31).bind fun v19 =>
(qaI X 0 v19 a1).bind fun v20 =>
(fX10_has F X v20 v2).bind fun v21 =>
if v21 = (0 : Int32) then (some (1 : Int32))
else (some (0 : Int32))) : Option Int32).bind fun v6 =>
(if v6 = (0 : Int32) then (some v1)
else (if v1 < (0 : Int32) then (some v2)
else ((qgR X 9 a0 2).bind fun v9 =>
(qaI X 0 v9 a1).bind fun v10 =>
(qgR X 9 a0 2).bind fun v11 =>
(qaI X 0 v11 v2).bind fun v12 =>
(fX10_apart F X v10 v12).bind fun v13 =>
(qgR X 9 a0 2).bind fun v14 =>
(qaI X 0 v14 a1).bind fun v15 =>
(qgR X 9 a0 2).bind fun v16 =>
(qaI X 0 v16 v1).bind fun v17 =>
(fX10_apart F X v15 v17).bind fun v18 =>
if v18 ≤ v13 then (some v1)
else (some v2))) : Option Int32).bind fun v7 =>
qlt (v2 + (2 : Int32)) fun v8 =>
self0 v7 v8)
def fX10_nearest_L4 (F : Nat) (X : qH) (a0 : Nat) (a1 : Int32) : Nat → Int32 → Int32 → Option (Int32)
  | 0, _, _ => none
  | n + 1, v1, v2 => fX10_nearest_L4_B F X a0 a1 (fX10_nearest_L4 F X a0 a1 n) v1 v2
def fX10_nearest (F : Nat) (X : qH) (a0 : Nat) (a1 : Int32) : Option (Int32) :=
qIs 9 X a0 <|
(fX10_nearest_L4 F X a0 a1 F (-1 : Int32) (1 : Int32)).bind fun v22 =>
some v22
abbrev rmX10_nearest : Room := { frames := 1, cells := 0, slots := 0, locals := 21 }
theorem fX10_nearest_is {F : Nat} {X : qH} {a0 : Nat} {a1 : Int32} {r9 : Int32} (h : fX10_nearest F X a0 a1 = some r9) : ∃ fs, X a0 = some (.inr (9, fs)) := (qIs_spec h).1
theorem hdX10_nearest : yX10_nearest.cls = RX10 ∧ yX10_nearest.cls ≠ "java/lang/invoke/MethodHandle" ∧ yX10_nearest.cls ≠ "java/lang/invoke/VarHandle" ∧ (parseMethodDescriptor yX10_nearest.desc).map (fun d => d.parameters.length) = some 1 := by decide +kernel
set_option maxHeartbeats 4000000 in
set_option maxRecDepth 100000 in
theorem mX10_nearest (l : Launch) (D : va_G) (kz : Nat → Nat) (b0 sz F : Nat) (X : qH) (a0 : Nat) (a1 : Int32) (r : Int32) (hf : fX10_nearest F X a0 a1 = some r) : Met l yX10_nearest (qws yX10_nearest cX10_nearest 5 (some .int)) rmX10_nearest (va_Pc [.ref a0, .int a1] (qU D kz b0 sz X)) (va_Qi (fun (r' : Int32) (u : qH) => r' = r ∧ u = X) (fun u t => qO D kz b0 sz u t) (qA b0)) 0 0 (qA b0) := by
  refine q_start (by decide) (Nat.le_of_ble_eq_true rfl) ?_
  intro p e s m args below meth c hx hb hr hlocks hnm hml hown hT hR hK hz ls hl
  have hown : s.vm.findClass RX10 = some m.cls := hown
  have hl : lv_has ls 5 [(0, .ref a0), (1, .int a1)] := hl
  have hS : va_S (qA b0) s.heap s.heap [] := va_S.rf
  obtain ⟨Q, hQ⟩ : ∃ Q, Q = MQ below (va_Qi (fun (r' : Int32) (u : qH) => r' = r ∧ u = X) (fun u t => qO D kz b0 sz u t) (qA b0)) args s 0 0 (qA b0) := ⟨_, rfl⟩
  rw [← hQ]
  unfold fX10_nearest at hf
  obtain ⟨hthis, hf⟩ := qIs_spec hf
  refine lv_iconst (v := (-1 : Int32)) hx hb dX10_nearest_0 (by decide) ?_
  refine lv_istore_n (lv' := [(2, .int (-1 : Int32)), (0, .ref a0), (1, .int a1)]) hx hb dX10_nearest_1 rfl hl (by decide) rfl (fun ls hl => ?_)
  refine lv_iconst (v := (1 : Int32)) hx hb dX10_nearest_2 (by decide) ?_
  refine lv_istore_n (lv' := [(3, .int (1 : Int32)), (2, .int (-1 : Int32)), (0, .ref a0), (1, .int a1)]) hx hb dX10_nearest_3 rfl hl (by decide) rfl (fun ls hl => ?_)
  obtain ⟨v22, ho, hf⟩ := q_b hf
  have hL : ∀ (n : Nat) (v1 : Int32) (v2 : Int32) (out : Int32), fX10_nearest_L4 F X a0 a1 n v1 v2 = some out → (∀ (v22 : Int32), out = v22 → ∀ (H : Heap) (locs : List Loc) (ls : Array Slot), qR D kz b0 X H → va_S (qA b0) s.heap H locs → H.size = sz → lv_has ls 5 [(2, .int v22)] → W p l e rmX10_nearest s m args below meth c H locs 0 0 Q (F0 m 97 ls [])) → ∀ (H : Heap) (locs : List Loc) (ls : Array Slot), qR D kz b0 X H → va_S (qA b0) s.heap H locs → H.size = sz → lv_has ls 5 [(0, .ref a0), (1, .int a1), (2, .int v1), (3, .int v2)] → W p l e rmX10_nearest s m args below meth c H locs 0 0 Q (F0 m 4 ls []) := by
    intro n9
    induction n9 with
    | zero =>
      intro v1 v2 out hf
      exact absurd (show none = some out from hf) (by simp)
    | succ n9 ih0 =>
      intro v1 v2 out hf hex H locs ls hR hS hz hl
      have hf : fX10_nearest_L4_B F X a0 a1 (fX10_nearest_L4 F X a0 a1 n9) v1 v2 = some out := hf
      unfold fX10_nearest_L4_B at hf
      refine lv_iload_n hx hb dX10_nearest_4 rfl (lv_at hl 3 rfl) ?_
      refine lv_aload_n hx hb dX10_nearest_5 rfl (lv_at hl 0 rfl) ?_
      refine q_gI hx hb hT hown hK hR iqX10 vqX10 1 (by decide) (hT _ wfl_X10_102) hf dX10_nearest_6 (fun v3 hf => ?_)
      refine lv_icmp_ge (tgt := 97) hx hb dX10_nearest_9 (by decide) (fun hc => ?_) (fun hc => ?_)
      · have hf := q_t hf hc
        exact hex _ (Option.some.inj hf).symm _ _ _ hR hS hz (lv_sub hl [2] rfl)
      · have hf := q_f hf hc
        refine lv_aload_n hx hb dX10_nearest_12 rfl (lv_at hl 0 rfl) ?_
        refine q_gR hx hb hT hown hK hR iqX10 vqX10 8 (by decide) (hT _ wfl_X10_29) hf dX10_nearest_13 (fun v4 hf => ?_)
        refine lv_iconst (v := (3 : Int32)) hx hb dX10_nearest_16 (by decide) ?_
        refine lv_iload_n hx hb dX10_nearest_17 rfl (lv_at hl 3 rfl) ?_
        refine lv_iadd hx hb dX10_nearest_18 ?_
        refine q_iald hx hb hK hR hf dX10_nearest_19 (fun v5 hf => ?_)
        obtain ⟨v6, hp, hf⟩ := q_b hf
        have hJ : ∀ (H : Heap) (locs : List Loc) (ls : Array Slot), qR D kz b0 X H → va_S (qA b0) s.heap H locs → H.size = sz → lv_has ls 5 [(0, .ref a0), (1, .int a1), (2, .int v1), (3, .int v2)] → W p l e rmX10_nearest s m args below meth c H locs 0 0 Q (F0 m 41 ls [.int v6]) := by
          intro H locs ls hR hS hz hl
          refine lv_istore (lv' := [(4, .int v6), (0, .ref a0), (1, .int a1), (2, .int v1), (3, .int v2)]) hx hb dX10_nearest_41 hl (by decide) rfl (fun ls hl => ?_)
          refine lv_iload hx hb dX10_nearest_43 (lv_at hl 0 rfl) ?_
          obtain ⟨v7, hp, hf⟩ := q_b hf
          have hJ : ∀ (H : Heap) (locs : List Loc) (ls : Array Slot), qR D kz b0 X H → va_S (qA b0) s.heap H locs → H.size = sz → lv_has ls 5 [(0, .ref a0), (1, .int a1), (3, .int v2)] → W p l e rmX10_nearest s m args below meth c H locs 0 0 Q (F0 m 90 ls [.int v7]) := by
            intro H locs ls hR hS hz hl
            refine lv_istore_n (lv' := [(2, .int v7), (0, .ref a0), (1, .int a1), (3, .int v2)]) hx hb dX10_nearest_90 rfl hl (by decide) rfl (fun ls hl => ?_)
            obtain ⟨v8, ev8⟩ : ∃ y : Int32, y = (v2 + (2 : Int32)) := ⟨_, rfl⟩
            have hf := q_lt ev8 hf
            refine lv_iinc (v := v8) (lv' := [(3, .int v8), (2, .int v7), (0, .ref a0), (1, .int a1)]) hx hb dX10_nearest_91 hl (k := 3) rfl (by rw [ev8]; rfl) (by decide) rfl (fun ls hl => ?_)
            refine lv_goto (tgt := 4) hx hb dX10_nearest_94 (by decide) ?_
            exact ih0 _ _ out hf hex _ _ _ hR hS hz (lv_sub hl [2, 3, 1, 0] rfl)
          have hf := hp
          refine lv_if_eq (tgt := 89) hx hb dX10_nearest_45 (by decide) (fun hc => ?_) (fun hc => ?_)
          · have hf := q_t hf hc
            refine lv_iload_n hx hb dX10_nearest_89 rfl (lv_at hl 3 rfl) ?_
            cases hf
            exact hJ _ _ _ hR hS hz (lv_sub hl [1, 2, 4] rfl)
          · have hf := q_f hf hc
            refine lv_iload_n hx hb dX10_nearest_48 rfl (lv_at hl 3 rfl) ?_
            refine lv_if_lt (tgt := 85) hx hb dX10_nearest_49 (by decide) (fun hc => ?_) (fun hc => ?_)
            · have hf := q_t hf hc
              refine lv_iload_n hx hb dX10_nearest_85 rfl (lv_at hl 4 rfl) ?_
              refine lv_goto (tgt := 90) hx hb dX10_nearest_86 (by decide) ?_
              cases hf
              exact hJ _ _ _ hR hS hz (lv_sub hl [1, 2, 4] rfl)
            · have hf := q_f hf hc
              refine lv_aload_n hx hb dX10_nearest_52 rfl (lv_at hl 1 rfl) ?_
              refine q_gR hx hb hT hown hK hR iqX10 vqX10 2 (by decide) (hT _ wfl_X10_7) hf dX10_nearest_53 (fun v9 hf => ?_)
              refine lv_iload_n hx hb dX10_nearest_56 rfl (lv_at hl 2 rfl) ?_
              refine q_iald hx hb hK hR hf dX10_nearest_57 (fun v10 hf => ?_)
              refine lv_aload_n hx hb dX10_nearest_58 rfl (lv_at hl 1 rfl) ?_
              refine q_gR hx hb hT hown hK hR iqX10 vqX10 2 (by decide) (hT _ wfl_X10_7) hf dX10_nearest_59 (fun v11 hf => ?_)
              refine lv_iload_n hx hb dX10_nearest_62 rfl (lv_at hl 4 rfl) ?_
              refine q_iald hx hb hK hR hf dX10_nearest_63 (fun v12 hf => ?_)
              obtain ⟨v13, hc, hf⟩ := q_b hf
              refine q_calli (va_runS (As := [.int v10, .int v12]) (rest := []) ⟨hx, hb, hml, hown, hT⟩ (mX10_apart l D kz b0 sz F X v10 v12 v13 hc) (va_cwS 2 hT (q_gS wco_X10_apart wml_X10_217 wst_X10_apart win_X10) rfl rfl rfl hdX10_apart ⟨Nat.le_of_ble_eq_true rfl, Nat.le_of_ble_eq_true rfl⟩) (q_preS hR hK hz) rfl rfl hl.1 rfl (lv_room (Nat.le_of_ble_eq_true rfl)) dX10_nearest_64 ⟨Nat.le_of_ble_eq_true rfl, Nat.le_of_ble_eq_true rfl⟩) hS (fun H locs hR hS hz => ?_)
              refine lv_aload_n hx hb dX10_nearest_67 rfl (lv_at hl 1 rfl) ?_
              refine q_gR hx hb hT hown hK hR iqX10 vqX10 2 (by decide) (hT _ wfl_X10_7) hf dX10_nearest_68 (fun v14 hf => ?_)
              refine lv_iload_n hx hb dX10_nearest_71 rfl (lv_at hl 2 rfl) ?_
              refine q_iald hx hb hK hR hf dX10_nearest_72 (fun v15 hf => ?_)
              refine lv_aload_n hx hb dX10_nearest_73 rfl (lv_at hl 1 rfl) ?_
              refine q_gR hx hb hT hown hK hR iqX10 vqX10 2 (by decide) (hT _ wfl_X10_7) hf dX10_nearest_74 (fun v16 hf => ?_)
              refine lv_iload_n hx hb dX10_nearest_77 rfl (lv_at hl 3 rfl) ?_
              refine q_iald hx hb hK hR hf dX10_nearest_78 (fun v17 hf => ?_)
              obtain ⟨v18, hc, hf⟩ := q_b hf
              refine q_calli (va_runS (As := [.int v15, .int v17]) (rest := [.int v13]) ⟨hx, hb, hml, hown, hT⟩ (mX10_apart l D kz b0 sz F X v15 v17 v18 hc) (va_cwS 2 hT (q_gS wco_X10_apart wml_X10_217 wst_X10_apart win_X10) rfl rfl rfl hdX10_apart ⟨Nat.le_of_ble_eq_true rfl, Nat.le_of_ble_eq_true rfl⟩) (q_preS hR hK hz) rfl rfl hl.1 rfl (lv_room (Nat.le_of_ble_eq_true rfl)) dX10_nearest_79 ⟨Nat.le_of_ble_eq_true rfl, Nat.le_of_ble_eq_true rfl⟩) hS (fun H locs hR hS hz => ?_)
              refine lv_icmp_ge (tgt := 89) hx hb dX10_nearest_82 (by decide) (fun hc => ?_) (fun hc => ?_)
              · have hf := q_t hf hc
                refine lv_iload_n hx hb dX10_nearest_89 rfl (lv_at hl 3 rfl) ?_
                cases hf
                exact hJ _ _ _ hR hS hz (lv_sub hl [1, 2, 4] rfl)
              · have hf := q_f hf hc
                refine lv_iload_n hx hb dX10_nearest_85 rfl (lv_at hl 4 rfl) ?_
                refine lv_goto (tgt := 90) hx hb dX10_nearest_86 (by decide) ?_
                cases hf
                exact hJ _ _ _ hR hS hz (lv_sub hl [1, 2, 4] rfl)
        have hf := hp
        refine lv_if_le (tgt := 40) hx hb dX10_nearest_20 (by decide) (fun hc => ?_) (fun hc => ?_)
        · have hf := q_t hf hc
          refine lv_iconst (v := (0 : Int32)) hx hb dX10_nearest_40 (by decide) ?_
          cases hf
          exact hJ _ _ _ hR hS hz (lv_sub hl [0, 1, 2, 3] rfl)
        · have hf := q_f hf hc
          refine lv_aload_n hx hb dX10_nearest_23 rfl (lv_at hl 0 rfl) ?_
          refine q_gR hx hb hT hown hK hR iqX10 vqX10 31 (by decide) (hT _ wfl_X10_71) hf dX10_nearest_24 (fun v19 hf => ?_)
          refine lv_iload_n hx hb dX10_nearest_27 rfl (lv_at hl 1 rfl) ?_
          refine q_iald hx hb hK hR hf dX10_nearest_28 (fun v20 hf => ?_)
          refine lv_iload_n hx hb dX10_nearest_29 rfl (lv_at hl 3 rfl) ?_
          obtain ⟨v21, hc, hf⟩ := q_b hf
          refine q_calli (va_runS (As := [.int v20, .int v2]) (rest := []) ⟨hx, hb, hml, hown, hT⟩ (mX10_has l D kz b0 sz F X v20 v2 v21 hc) (va_cwS 2 hT (q_gS wco_X10_has wml_X10_194 wst_X10_has win_X10) rfl rfl rfl hdX10_has ⟨Nat.le_of_ble_eq_true rfl, Nat.le_of_ble_eq_true rfl⟩) (q_preS hR hK hz) rfl rfl hl.1 rfl (lv_room (Nat.le_of_ble_eq_true rfl)) dX10_nearest_30 ⟨Nat.le_of_ble_eq_true rfl, Nat.le_of_ble_eq_true rfl⟩) hS (fun H locs hR hS hz => ?_)
          refine lv_if_ne (tgt := 40) hx hb dX10_nearest_33 (by decide) (fun hc => ?_) (fun hc => ?_)
          · have hf := q_f hf hc
            refine lv_iconst (v := (0 : Int32)) hx hb dX10_nearest_40 (by decide) ?_
            cases hf
            exact hJ _ _ _ hR hS hz (lv_sub hl [0, 1, 2, 3] rfl)
          · have hf := q_t hf hc
            refine lv_iconst (v := (1 : Int32)) hx hb dX10_nearest_36 (by decide) ?_
            refine lv_goto (tgt := 41) hx hb dX10_nearest_37 (by decide) ?_
            cases hf
            exact hJ _ _ _ hR hS hz (lv_sub hl [0, 1, 2, 3] rfl)
  refine hL F _ _ _ ho (fun z0 h9 => ?_) _ _ _ hR hS hz (lv_sub hl [2, 3, 1, 0] rfl)
  cases h9
  intro H locs ls hR hS hz hl
  refine lv_iload_n hx hb dX10_nearest_97 rfl (lv_at hl 0 rfl) ?_
  subst hQ
  exact q_iret hx hb hr hlocks hR hS hz (Option.some.inj hf) rfl dX10_nearest_98
/-! X10_isKeptOf -/
def fX10_isKeptOf (F : Nat) (X : qH) (a0 : Nat) (a1 : Int32) (a2 : Int32) (a3 : Int32) : Option (Int32) :=
qIs 9 X a0 <|
(qgR X 9 a0 2).bind fun v1 =>
(qaI X 0 v1 a1).bind fun v2 =>
(qgR X 9 a0 2).bind fun v3 =>
(qaI X 0 v3 a2).bind fun v4 =>
(fX10_apart F X v2 v4).bind fun v5 =>
(qgR X 9 a0 2).bind fun v6 =>
(qaI X 0 v6 a1).bind fun v7 =>
(qgR X 9 a0 2).bind fun v8 =>
(qaI X 0 v8 a3).bind fun v9 =>
(fX10_apart F X v7 v9).bind fun v10 =>
(if v5 = v10 then (if a3 ≤ a2 then (some (0 : Int32))
else (some (1 : Int32)))
else (if v10 ≤ v5 then (some (0 : Int32))
else (some (1 : Int32))) : Option Int32).bind fun v11 =>
(qz v11).bind fun z =>
some z
abbrev rmX10_isKeptOf : Room := { frames := 1, cells := 0, slots := 0, locals := 21 }
theorem fX10_isKeptOf_is {F : Nat} {X : qH} {a0 : Nat} {a1 : Int32} {a2 : Int32} {a3 : Int32} {r9 : Int32} (h : fX10_isKeptOf F X a0 a1 a2 a3 = some r9) : ∃ fs, X a0 = some (.inr (9, fs)) := (qIs_spec h).1
theorem hdX10_isKeptOf : yX10_isKeptOf.cls = RX10 ∧ yX10_isKeptOf.cls ≠ "java/lang/invoke/MethodHandle" ∧ yX10_isKeptOf.cls ≠ "java/lang/invoke/VarHandle" ∧ (parseMethodDescriptor yX10_isKeptOf.desc).map (fun d => d.parameters.length) = some 3 := by decide +kernel
set_option maxHeartbeats 4000000 in
set_option maxRecDepth 100000 in
theorem mX10_isKeptOf (l : Launch) (D : va_G) (kz : Nat → Nat) (b0 sz F : Nat) (X : qH) (a0 : Nat) (a1 : Int32) (a2 : Int32) (a3 : Int32) (r : Int32) (hf : fX10_isKeptOf F X a0 a1 a2 a3 = some r) : Met l yX10_isKeptOf (qws yX10_isKeptOf cX10_isKeptOf 6 (some .boolean)) rmX10_isKeptOf (va_Pc [.ref a0, .int a1, .int a2, .int a3] (qU D kz b0 sz X)) (va_Qi (fun (r' : Int32) (u : qH) => r' = r ∧ u = X) (fun u t => qO D kz b0 sz u t) (qA b0)) 0 0 (qA b0) := by
  refine q_start (by decide) (Nat.le_of_ble_eq_true rfl) ?_
  intro p e s m args below meth c hx hb hr hlocks hnm hml hown hT hR hK hz ls hl
  have hown : s.vm.findClass RX10 = some m.cls := hown
  have hl : lv_has ls 6 [(0, .ref a0), (1, .int a1), (2, .int a2), (3, .int a3)] := hl
  have hS : va_S (qA b0) s.heap s.heap [] := va_S.rf
  obtain ⟨Q, hQ⟩ : ∃ Q, Q = MQ below (va_Qi (fun (r' : Int32) (u : qH) => r' = r ∧ u = X) (fun u t => qO D kz b0 sz u t) (qA b0)) args s 0 0 (qA b0) := ⟨_, rfl⟩
  rw [← hQ]
  unfold fX10_isKeptOf at hf
  obtain ⟨hthis, hf⟩ := qIs_spec hf
  refine lv_aload_n hx hb dX10_isKeptOf_0 rfl (lv_at hl 0 rfl) ?_
  refine q_gR hx hb hT hown hK hR iqX10 vqX10 2 (by decide) (hT _ wfl_X10_7) hf dX10_isKeptOf_1 (fun v1 hf => ?_)
  refine lv_iload_n hx hb dX10_isKeptOf_4 rfl (lv_at hl 1 rfl) ?_
  refine q_iald hx hb hK hR hf dX10_isKeptOf_5 (fun v2 hf => ?_)
  refine lv_aload_n hx hb dX10_isKeptOf_6 rfl (lv_at hl 0 rfl) ?_
  refine q_gR hx hb hT hown hK hR iqX10 vqX10 2 (by decide) (hT _ wfl_X10_7) hf dX10_isKeptOf_7 (fun v3 hf => ?_)
  refine lv_iload_n hx hb dX10_isKeptOf_10 rfl (lv_at hl 2 rfl) ?_
  refine q_iald hx hb hK hR hf dX10_isKeptOf_11 (fun v4 hf => ?_)
  obtain ⟨v5, hc, hf⟩ := q_b hf
  refine q_calli (va_runS (As := [.int v2, .int v4]) (rest := []) ⟨hx, hb, hml, hown, hT⟩ (mX10_apart l D kz b0 sz F X v2 v4 v5 hc) (va_cwS 2 hT (q_gS wco_X10_apart wml_X10_217 wst_X10_apart win_X10) rfl rfl rfl hdX10_apart ⟨Nat.le_of_ble_eq_true rfl, Nat.le_of_ble_eq_true rfl⟩) (q_preS hR hK hz) rfl rfl hl.1 rfl (lv_room (Nat.le_of_ble_eq_true rfl)) dX10_isKeptOf_12 ⟨Nat.le_of_ble_eq_true rfl, Nat.le_of_ble_eq_true rfl⟩) hS (fun H locs hR hS hz => ?_)
  refine lv_istore (lv' := [(4, .int v5), (0, .ref a0), (1, .int a1), (2, .int a2), (3, .int a3)]) hx hb dX10_isKeptOf_15 hl (by decide) rfl (fun ls hl => ?_)
  refine lv_aload_n hx hb dX10_isKeptOf_17 rfl (lv_at hl 1 rfl) ?_
  refine q_gR hx hb hT hown hK hR iqX10 vqX10 2 (by decide) (hT _ wfl_X10_7) hf dX10_isKeptOf_18 (fun v6 hf => ?_)
  refine lv_iload_n hx hb dX10_isKeptOf_21 rfl (lv_at hl 2 rfl) ?_
  refine q_iald hx hb hK hR hf dX10_isKeptOf_22 (fun v7 hf => ?_)
  refine lv_aload_n hx hb dX10_isKeptOf_23 rfl (lv_at hl 1 rfl) ?_
  refine q_gR hx hb hT hown hK hR iqX10 vqX10 2 (by decide) (hT _ wfl_X10_7) hf dX10_isKeptOf_24 (fun v8 hf => ?_)
  refine lv_iload_n hx hb dX10_isKeptOf_27 rfl (lv_at hl 4 rfl) ?_
  refine q_iald hx hb hK hR hf dX10_isKeptOf_28 (fun v9 hf => ?_)
  obtain ⟨v10, hc, hf⟩ := q_b hf
  refine q_calli (va_runS (As := [.int v7, .int v9]) (rest := []) ⟨hx, hb, hml, hown, hT⟩ (mX10_apart l D kz b0 sz F X v7 v9 v10 hc) (va_cwS 2 hT (q_gS wco_X10_apart wml_X10_217 wst_X10_apart win_X10) rfl rfl rfl hdX10_apart ⟨Nat.le_of_ble_eq_true rfl, Nat.le_of_ble_eq_true rfl⟩) (q_preS hR hK hz) rfl rfl hl.1 rfl (lv_room (Nat.le_of_ble_eq_true rfl)) dX10_isKeptOf_29 ⟨Nat.le_of_ble_eq_true rfl, Nat.le_of_ble_eq_true rfl⟩) hS (fun H locs hR hS hz => ?_)
  refine lv_istore (lv' := [(5, .int v10), (4, .int v5), (0, .ref a0), (1, .int a1), (2, .int a2), (3, .int a3)]) hx hb dX10_isKeptOf_32 hl (by decide) rfl (fun ls hl => ?_)
  refine lv_iload hx hb dX10_isKeptOf_34 (lv_at hl 1 rfl) ?_
  refine lv_iload hx hb dX10_isKeptOf_36 (lv_at hl 0 rfl) ?_
  obtain ⟨v11, hp, hf⟩ := q_b hf
  have hJ : ∀ (H : Heap) (locs : List Loc) (ls : Array Slot), qR D kz b0 X H → va_S (qA b0) s.heap H locs → H.size = sz → lv_has ls 6 [] → W p l e rmX10_isKeptOf s m args below meth c H locs 0 0 Q (F0 m 66 ls [.int v11]) := by
    intro H locs ls hR hS hz hl
    subst hQ
    obtain ⟨z9, hz9, hf⟩ := q_b hf
    obtain ⟨rfl, h01⟩ := qz_spec hz9
    exact q_zret hx hb hr hlocks hR hS hz (Option.some.inj hf) h01 rfl dX10_isKeptOf_66
  have hf := hp
  refine lv_icmp_eq (tgt := 56) hx hb dX10_isKeptOf_38 (by decide) (fun hc => ?_) (fun hc => ?_)
  · have hf := q_t hf hc
    refine lv_iload_n hx hb dX10_isKeptOf_56 rfl (lv_at hl 4 rfl) ?_
    refine lv_iload_n hx hb dX10_isKeptOf_57 rfl (lv_at hl 5 rfl) ?_
    refine lv_icmp_ge (tgt := 65) hx hb dX10_isKeptOf_58 (by decide) (fun hc => ?_) (fun hc => ?_)
    · have hf := q_t hf hc
      refine lv_iconst (v := (0 : Int32)) hx hb dX10_isKeptOf_65 (by decide) ?_
      cases hf
      exact hJ _ _ _ hR hS hz (lv_sub hl [] rfl)
    · have hf := q_f hf hc
      refine lv_iconst (v := (1 : Int32)) hx hb dX10_isKeptOf_61 (by decide) ?_
      refine lv_goto (tgt := 66) hx hb dX10_isKeptOf_62 (by decide) ?_
      cases hf
      exact hJ _ _ _ hR hS hz (lv_sub hl [] rfl)
  · have hf := q_f hf hc
    refine lv_iload hx hb dX10_isKeptOf_41 (lv_at hl 1 rfl) ?_
    refine lv_iload hx hb dX10_isKeptOf_43 (lv_at hl 0 rfl) ?_
    refine lv_icmp_ge (tgt := 52) hx hb dX10_isKeptOf_45 (by decide) (fun hc => ?_) (fun hc => ?_)
    · have hf := q_t hf hc
      refine lv_iconst (v := (0 : Int32)) hx hb dX10_isKeptOf_52 (by decide) ?_
      refine lv_goto (tgt := 66) hx hb dX10_isKeptOf_53 (by decide) ?_
      cases hf
      exact hJ _ _ _ hR hS hz (lv_sub hl [] rfl)
    · have hf := q_f hf hc
      refine lv_iconst (v := (1 : Int32)) hx hb dX10_isKeptOf_48 (by decide) ?_
      refine lv_goto (tgt := 66) hx hb dX10_isKeptOf_49 (by decide) ?_
      cases hf
      exact hJ _ _ _ hR hS hz (lv_sub hl [] rfl)
