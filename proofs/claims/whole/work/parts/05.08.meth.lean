/-! X10_starNumber -/
def fX10_starNumber_L4_B (F : Nat) (X : qH) (a0 : Nat) (a1 : Int32) (self0 : Int32 → Int32 → Option (Int32)) (v1 : Int32) (v2 : Int32) : Option (Int32) :=
(qgR X 9 a0 4).bind fun v3 =>
(qaI X 0 v3 a1).bind fun v4 =>
if v4 ≤ v2 then (some v1)
else ((qgR X 9 a0 5).bind fun v5 =>
(qaI X 0 v5 (((5 : Int32) * a1) + v2)).bind fun v6 =>
qlt (((10 : Int32) * v1) + v6) fun v7 =>
qlt (v2 + (1 : Int32)) fun v8 =>
self0 v7 v8)
def fX10_starNumber_L4 (F : Nat) (X : qH) (a0 : Nat) (a1 : Int32) : Nat → Int32 → Int32 → Option (Int32)
  | 0, _, _ => none
  | n + 1, v1, v2 => fX10_starNumber_L4_B F X a0 a1 (fX10_starNumber_L4 F X a0 a1 n) v1 v2
def fX10_starNumber (F : Nat) (X : qH) (a0 : Nat) (a1 : Int32) : Option (Int32) :=
qIs 9 X a0 <|
(fX10_starNumber_L4 F X a0 a1 F (0 : Int32) (0 : Int32)).bind fun v9 =>
some v9
abbrev rmX10_starNumber : Room := { frames := 0, cells := 0, slots := 0, locals := 0 }
theorem fX10_starNumber_is {F : Nat} {X : qH} {a0 : Nat} {a1 : Int32} {r9 : Int32} (h : fX10_starNumber F X a0 a1 = some r9) : ∃ fs, X a0 = some (.inr (9, fs)) := (qIs_spec h).1
theorem hdX10_starNumber : yX10_starNumber.cls = RX10 ∧ yX10_starNumber.cls ≠ "java/lang/invoke/MethodHandle" ∧ yX10_starNumber.cls ≠ "java/lang/invoke/VarHandle" ∧ (parseMethodDescriptor yX10_starNumber.desc).map (fun d => d.parameters.length) = some 1 := by decide +kernel
set_option maxHeartbeats 4000000 in
set_option maxRecDepth 100000 in
theorem mX10_starNumber (l : Launch) (D : va_G) (kz : Nat → Nat) (b0 sz F : Nat) (X : qH) (a0 : Nat) (a1 : Int32) (r : Int32) (hf : fX10_starNumber F X a0 a1 = some r) : Met l yX10_starNumber (qws yX10_starNumber cX10_starNumber 4 (some .int)) rmX10_starNumber (va_Pc [.ref a0, .int a1] (qU D kz b0 sz X)) (va_Qi (fun (r' : Int32) (u : qH) => r' = r ∧ u = X) (fun u t => qO D kz b0 sz u t) (qA b0)) 0 0 (qA b0) := by
  refine q_start (by decide) (Nat.le_of_ble_eq_true rfl) ?_
  intro p e s m args below meth c hx hb hr hlocks hnm hml hown hT hR hK hz ls hl
  have hown : s.vm.findClass RX10 = some m.cls := hown
  have hl : lv_has ls 4 [(0, .ref a0), (1, .int a1)] := hl
  have hS : va_S (qA b0) s.heap s.heap [] := va_S.rf
  obtain ⟨Q, hQ⟩ : ∃ Q, Q = MQ below (va_Qi (fun (r' : Int32) (u : qH) => r' = r ∧ u = X) (fun u t => qO D kz b0 sz u t) (qA b0)) args s 0 0 (qA b0) := ⟨_, rfl⟩
  rw [← hQ]
  unfold fX10_starNumber at hf
  obtain ⟨hthis, hf⟩ := qIs_spec hf
  refine lv_iconst (v := (0 : Int32)) hx hb dX10_starNumber_0 (by decide) ?_
  refine lv_istore_n (lv' := [(2, .int (0 : Int32)), (0, .ref a0), (1, .int a1)]) hx hb dX10_starNumber_1 rfl hl (by decide) rfl (fun ls hl => ?_)
  refine lv_iconst (v := (0 : Int32)) hx hb dX10_starNumber_2 (by decide) ?_
  refine lv_istore_n (lv' := [(3, .int (0 : Int32)), (2, .int (0 : Int32)), (0, .ref a0), (1, .int a1)]) hx hb dX10_starNumber_3 rfl hl (by decide) rfl (fun ls hl => ?_)
  obtain ⟨v9, ho, hf⟩ := q_b hf
  have hL : ∀ (n : Nat) (v1 : Int32) (v2 : Int32) (out : Int32), fX10_starNumber_L4 F X a0 a1 n v1 v2 = some out → (∀ (v9 : Int32), out = v9 → ∀ (H : Heap) (locs : List Loc) (ls : Array Slot), qR D kz b0 X H → va_S (qA b0) s.heap H locs → H.size = sz → lv_has ls 4 [(2, .int v9)] → W p l e rmX10_starNumber s m args below meth c H locs 0 0 Q (F0 m 36 ls [])) → ∀ (H : Heap) (locs : List Loc) (ls : Array Slot), qR D kz b0 X H → va_S (qA b0) s.heap H locs → H.size = sz → lv_has ls 4 [(0, .ref a0), (1, .int a1), (2, .int v1), (3, .int v2)] → W p l e rmX10_starNumber s m args below meth c H locs 0 0 Q (F0 m 4 ls []) := by
    intro n9
    induction n9 with
    | zero =>
      intro v1 v2 out hf
      exact absurd (show none = some out from hf) (by simp)
    | succ n9 ih0 =>
      intro v1 v2 out hf hex H locs ls hR hS hz hl
      have hf : fX10_starNumber_L4_B F X a0 a1 (fX10_starNumber_L4 F X a0 a1 n9) v1 v2 = some out := hf
      unfold fX10_starNumber_L4_B at hf
      refine lv_iload_n hx hb dX10_starNumber_4 rfl (lv_at hl 3 rfl) ?_
      refine lv_aload_n hx hb dX10_starNumber_5 rfl (lv_at hl 0 rfl) ?_
      refine q_gR hx hb hT hown hK hR iqX10 vqX10 4 (by decide) (hT _ wfl_X10_16) hf dX10_starNumber_6 (fun v3 hf => ?_)
      refine lv_iload_n hx hb dX10_starNumber_9 rfl (lv_at hl 1 rfl) ?_
      refine q_iald hx hb hK hR hf dX10_starNumber_10 (fun v4 hf => ?_)
      refine lv_icmp_ge (tgt := 36) hx hb dX10_starNumber_11 (by decide) (fun hc => ?_) (fun hc => ?_)
      · have hf := q_t hf hc
        exact hex _ (Option.some.inj hf).symm _ _ _ hR hS hz (lv_sub hl [2] rfl)
      · have hf := q_f hf hc
        refine lv_bipush (v := (10 : Int32)) hx hb dX10_starNumber_14 (by decide) ?_
        refine lv_iload_n hx hb dX10_starNumber_16 rfl (lv_at hl 2 rfl) ?_
        refine lv_imul hx hb dX10_starNumber_17 ?_
        refine lv_aload_n hx hb dX10_starNumber_18 rfl (lv_at hl 0 rfl) ?_
        refine q_gR hx hb hT hown hK hR iqX10 vqX10 5 (by decide) (hT _ wfl_X10_19) hf dX10_starNumber_19 (fun v5 hf => ?_)
        refine lv_iconst (v := (5 : Int32)) hx hb dX10_starNumber_22 (by decide) ?_
        refine lv_iload_n hx hb dX10_starNumber_23 rfl (lv_at hl 1 rfl) ?_
        refine lv_imul hx hb dX10_starNumber_24 ?_
        refine lv_iload_n hx hb dX10_starNumber_25 rfl (lv_at hl 3 rfl) ?_
        refine lv_iadd hx hb dX10_starNumber_26 ?_
        refine q_iald hx hb hK hR hf dX10_starNumber_27 (fun v6 hf => ?_)
        refine lv_iadd hx hb dX10_starNumber_28 ?_
        refine lv_topi (fun v7 ev7 => ?_)
        have hf := q_lt ev7 hf
        refine lv_istore_n (lv' := [(2, .int v7), (0, .ref a0), (1, .int a1), (3, .int v2)]) hx hb dX10_starNumber_29 rfl hl (by decide) rfl (fun ls hl => ?_)
        obtain ⟨v8, ev8⟩ : ∃ y : Int32, y = (v2 + (1 : Int32)) := ⟨_, rfl⟩
        have hf := q_lt ev8 hf
        refine lv_iinc (v := v8) (lv' := [(3, .int v8), (2, .int v7), (0, .ref a0), (1, .int a1)]) hx hb dX10_starNumber_30 hl (k := 3) rfl (by rw [ev8]; rfl) (by decide) rfl (fun ls hl => ?_)
        refine lv_goto (tgt := 4) hx hb dX10_starNumber_33 (by decide) ?_
        exact ih0 _ _ out hf hex _ _ _ hR hS hz (lv_sub hl [2, 3, 1, 0] rfl)
  refine hL F _ _ _ ho (fun z0 h9 => ?_) _ _ _ hR hS hz (lv_sub hl [2, 3, 1, 0] rfl)
  cases h9
  intro H locs ls hR hS hz hl
  refine lv_iload_n hx hb dX10_starNumber_36 rfl (lv_at hl 0 rfl) ?_
  subst hQ
  exact q_iret hx hb hr hlocks hR hS hz (Option.some.inj hf) rfl dX10_starNumber_37
/-! X10_readAs -/
def fX10_readAs_L4_B (F : Nat) (X : qH) (a0 : Nat) (a1 : Int32) (self0 : Int32 → Int32 → Option (Int32)) (v1 : Int32) (v2 : Int32) : Option (Int32) :=
(qgI X 9 a0 1).bind fun v3 =>
if v3 ≤ v2 then (some v1)
else ((qgR X 9 a0 3).bind fun v4 =>
(qaI X 0 v4 a1).bind fun v5 =>
if (3 : Int32) ≤ v5 then (some v1)
else ((qgR X 9 a0 2).bind fun v6 =>
(qaI X 0 v6 v2).bind fun v7 =>
(qgR X 9 a0 2).bind fun v8 =>
(qaI X 0 v8 a1).bind fun v9 =>
(if v7 ≤ v9 then (some (0 : Int32))
else (if v1 = a1 then (some (1 : Int32))
else ((qgR X 9 a0 2).bind fun v13 =>
(qaI X 0 v13 v2).bind fun v14 =>
(qgR X 9 a0 2).bind fun v15 =>
(qaI X 0 v15 v1).bind fun v16 =>
if v16 ≤ v14 then (some (0 : Int32))
else (some (1 : Int32)))) : Option Int32).bind fun v10 =>
(if v10 = (0 : Int32) then (some v1)
else (some v2) : Option Int32).bind fun v11 =>
qlt (v2 + (1 : Int32)) fun v12 =>
self0 v11 v12))
def fX10_readAs_L4 (F : Nat) (X : qH) (a0 : Nat) (a1 : Int32) : Nat → Int32 → Int32 → Option (Int32)
  | 0, _, _ => none
  | n + 1, v1, v2 => fX10_readAs_L4_B F X a0 a1 (fX10_readAs_L4 F X a0 a1 n) v1 v2
def fX10_readAs (F : Nat) (X : qH) (a0 : Nat) (a1 : Int32) : Option (Int32) :=
qIs 9 X a0 <|
(fX10_readAs_L4 F X a0 a1 F a1 (0 : Int32)).bind fun v17 =>
some v17
abbrev rmX10_readAs : Room := { frames := 0, cells := 0, slots := 0, locals := 0 }
theorem fX10_readAs_is {F : Nat} {X : qH} {a0 : Nat} {a1 : Int32} {r9 : Int32} (h : fX10_readAs F X a0 a1 = some r9) : ∃ fs, X a0 = some (.inr (9, fs)) := (qIs_spec h).1
theorem hdX10_readAs : yX10_readAs.cls = RX10 ∧ yX10_readAs.cls ≠ "java/lang/invoke/MethodHandle" ∧ yX10_readAs.cls ≠ "java/lang/invoke/VarHandle" ∧ (parseMethodDescriptor yX10_readAs.desc).map (fun d => d.parameters.length) = some 1 := by decide +kernel
set_option maxHeartbeats 4000000 in
set_option maxRecDepth 100000 in
theorem mX10_readAs (l : Launch) (D : va_G) (kz : Nat → Nat) (b0 sz F : Nat) (X : qH) (a0 : Nat) (a1 : Int32) (r : Int32) (hf : fX10_readAs F X a0 a1 = some r) : Met l yX10_readAs (qws yX10_readAs cX10_readAs 5 (some .int)) rmX10_readAs (va_Pc [.ref a0, .int a1] (qU D kz b0 sz X)) (va_Qi (fun (r' : Int32) (u : qH) => r' = r ∧ u = X) (fun u t => qO D kz b0 sz u t) (qA b0)) 0 0 (qA b0) := by
  refine q_start (by decide) (Nat.le_of_ble_eq_true rfl) ?_
  intro p e s m args below meth c hx hb hr hlocks hnm hml hown hT hR hK hz ls hl
  have hown : s.vm.findClass RX10 = some m.cls := hown
  have hl : lv_has ls 5 [(0, .ref a0), (1, .int a1)] := hl
  have hS : va_S (qA b0) s.heap s.heap [] := va_S.rf
  obtain ⟨Q, hQ⟩ : ∃ Q, Q = MQ below (va_Qi (fun (r' : Int32) (u : qH) => r' = r ∧ u = X) (fun u t => qO D kz b0 sz u t) (qA b0)) args s 0 0 (qA b0) := ⟨_, rfl⟩
  rw [← hQ]
  unfold fX10_readAs at hf
  obtain ⟨hthis, hf⟩ := qIs_spec hf
  refine lv_iload_n hx hb dX10_readAs_0 rfl (lv_at hl 1 rfl) ?_
  refine lv_istore_n (lv' := [(2, .int a1), (0, .ref a0), (1, .int a1)]) hx hb dX10_readAs_1 rfl hl (by decide) rfl (fun ls hl => ?_)
  refine lv_iconst (v := (0 : Int32)) hx hb dX10_readAs_2 (by decide) ?_
  refine lv_istore_n (lv' := [(3, .int (0 : Int32)), (2, .int a1), (0, .ref a0), (1, .int a1)]) hx hb dX10_readAs_3 rfl hl (by decide) rfl (fun ls hl => ?_)
  obtain ⟨v17, ho, hf⟩ := q_b hf
  have hL : ∀ (n : Nat) (v1 : Int32) (v2 : Int32) (out : Int32), fX10_readAs_L4 F X a0 a1 n v1 v2 = some out → (∀ (v17 : Int32), out = v17 → ∀ (H : Heap) (locs : List Loc) (ls : Array Slot), qR D kz b0 X H → va_S (qA b0) s.heap H locs → H.size = sz → lv_has ls 5 [(2, .int v17)] → W p l e rmX10_readAs s m args below meth c H locs 0 0 Q (F0 m 81 ls [])) → ∀ (H : Heap) (locs : List Loc) (ls : Array Slot), qR D kz b0 X H → va_S (qA b0) s.heap H locs → H.size = sz → lv_has ls 5 [(0, .ref a0), (1, .int a1), (2, .int v1), (3, .int v2)] → W p l e rmX10_readAs s m args below meth c H locs 0 0 Q (F0 m 4 ls []) := by
    intro n9
    induction n9 with
    | zero =>
      intro v1 v2 out hf
      exact absurd (show none = some out from hf) (by simp)
    | succ n9 ih0 =>
      intro v1 v2 out hf hex H locs ls hR hS hz hl
      have hf : fX10_readAs_L4_B F X a0 a1 (fX10_readAs_L4 F X a0 a1 n9) v1 v2 = some out := hf
      unfold fX10_readAs_L4_B at hf
      refine lv_iload_n hx hb dX10_readAs_4 rfl (lv_at hl 3 rfl) ?_
      refine lv_aload_n hx hb dX10_readAs_5 rfl (lv_at hl 0 rfl) ?_
      refine q_gI hx hb hT hown hK hR iqX10 vqX10 1 (by decide) (hT _ wfl_X10_102) hf dX10_readAs_6 (fun v3 hf => ?_)
      refine lv_icmp_ge (tgt := 81) hx hb dX10_readAs_9 (by decide) (fun hc => ?_) (fun hc => ?_)
      · have hf := q_t hf hc
        exact hex _ (Option.some.inj hf).symm _ _ _ hR hS hz (lv_sub hl [2] rfl)
      · have hf := q_f hf hc
        refine lv_aload_n hx hb dX10_readAs_12 rfl (lv_at hl 0 rfl) ?_
        refine q_gR hx hb hT hown hK hR iqX10 vqX10 3 (by decide) (hT _ wfl_X10_13) hf dX10_readAs_13 (fun v4 hf => ?_)
        refine lv_iload_n hx hb dX10_readAs_16 rfl (lv_at hl 1 rfl) ?_
        refine q_iald hx hb hK hR hf dX10_readAs_17 (fun v5 hf => ?_)
        refine lv_iconst (v := (3 : Int32)) hx hb dX10_readAs_18 (by decide) ?_
        refine lv_icmp_ge (tgt := 81) hx hb dX10_readAs_19 (by decide) (fun hc => ?_) (fun hc => ?_)
        · have hf := q_t hf hc
          exact hex _ (Option.some.inj hf).symm _ _ _ hR hS hz (lv_sub hl [2] rfl)
        · have hf := q_f hf hc
          refine lv_aload_n hx hb dX10_readAs_22 rfl (lv_at hl 0 rfl) ?_
          refine q_gR hx hb hT hown hK hR iqX10 vqX10 2 (by decide) (hT _ wfl_X10_7) hf dX10_readAs_23 (fun v6 hf => ?_)
          refine lv_iload_n hx hb dX10_readAs_26 rfl (lv_at hl 3 rfl) ?_
          refine q_iald hx hb hK hR hf dX10_readAs_27 (fun v7 hf => ?_)
          refine lv_aload_n hx hb dX10_readAs_28 rfl (lv_at hl 0 rfl) ?_
          refine q_gR hx hb hT hown hK hR iqX10 vqX10 2 (by decide) (hT _ wfl_X10_7) hf dX10_readAs_29 (fun v8 hf => ?_)
          refine lv_iload_n hx hb dX10_readAs_32 rfl (lv_at hl 1 rfl) ?_
          refine q_iald hx hb hK hR hf dX10_readAs_33 (fun v9 hf => ?_)
          obtain ⟨v10, hp, hf⟩ := q_b hf
          have hJ : ∀ (H : Heap) (locs : List Loc) (ls : Array Slot), qR D kz b0 X H → va_S (qA b0) s.heap H locs → H.size = sz → lv_has ls 5 [(0, .ref a0), (1, .int a1), (2, .int v1), (3, .int v2)] → W p l e rmX10_readAs s m args below meth c H locs 0 0 Q (F0 m 62 ls [.int v10]) := by
            intro H locs ls hR hS hz hl
            refine lv_istore (lv' := [(4, .int v10), (0, .ref a0), (1, .int a1), (2, .int v1), (3, .int v2)]) hx hb dX10_readAs_62 hl (by decide) rfl (fun ls hl => ?_)
            refine lv_iload hx hb dX10_readAs_64 (lv_at hl 0 rfl) ?_
            obtain ⟨v11, hp, hf⟩ := q_b hf
            have hJ : ∀ (H : Heap) (locs : List Loc) (ls : Array Slot), qR D kz b0 X H → va_S (qA b0) s.heap H locs → H.size = sz → lv_has ls 5 [(0, .ref a0), (1, .int a1), (3, .int v2)] → W p l e rmX10_readAs s m args below meth c H locs 0 0 Q (F0 m 74 ls [.int v11]) := by
              intro H locs ls hR hS hz hl
              refine lv_istore_n (lv' := [(2, .int v11), (0, .ref a0), (1, .int a1), (3, .int v2)]) hx hb dX10_readAs_74 rfl hl (by decide) rfl (fun ls hl => ?_)
              obtain ⟨v12, ev12⟩ : ∃ y : Int32, y = (v2 + (1 : Int32)) := ⟨_, rfl⟩
              have hf := q_lt ev12 hf
              refine lv_iinc (v := v12) (lv' := [(3, .int v12), (2, .int v11), (0, .ref a0), (1, .int a1)]) hx hb dX10_readAs_75 hl (k := 3) rfl (by rw [ev12]; rfl) (by decide) rfl (fun ls hl => ?_)
              refine lv_goto (tgt := 4) hx hb dX10_readAs_78 (by decide) ?_
              exact ih0 _ _ out hf hex _ _ _ hR hS hz (lv_sub hl [2, 3, 1, 0] rfl)
            have hf := hp
            refine lv_if_eq (tgt := 73) hx hb dX10_readAs_66 (by decide) (fun hc => ?_) (fun hc => ?_)
            · have hf := q_t hf hc
              refine lv_iload_n hx hb dX10_readAs_73 rfl (lv_at hl 3 rfl) ?_
              cases hf
              exact hJ _ _ _ hR hS hz (lv_sub hl [1, 2, 4] rfl)
            · have hf := q_f hf hc
              refine lv_iload_n hx hb dX10_readAs_69 rfl (lv_at hl 4 rfl) ?_
              refine lv_goto (tgt := 74) hx hb dX10_readAs_70 (by decide) ?_
              cases hf
              exact hJ _ _ _ hR hS hz (lv_sub hl [1, 2, 4] rfl)
          have hf := hp
          refine lv_icmp_le (tgt := 61) hx hb dX10_readAs_34 (by decide) (fun hc => ?_) (fun hc => ?_)
          · have hf := q_t hf hc
            refine lv_iconst (v := (0 : Int32)) hx hb dX10_readAs_61 (by decide) ?_
            cases hf
            exact hJ _ _ _ hR hS hz (lv_sub hl [0, 1, 2, 3] rfl)
          · have hf := q_f hf hc
            refine lv_iload_n hx hb dX10_readAs_37 rfl (lv_at hl 2 rfl) ?_
            refine lv_iload_n hx hb dX10_readAs_38 rfl (lv_at hl 1 rfl) ?_
            refine lv_icmp_eq (tgt := 57) hx hb dX10_readAs_39 (by decide) (fun hc => ?_) (fun hc => ?_)
            · have hf := q_t hf hc
              refine lv_iconst (v := (1 : Int32)) hx hb dX10_readAs_57 (by decide) ?_
              refine lv_goto (tgt := 62) hx hb dX10_readAs_58 (by decide) ?_
              cases hf
              exact hJ _ _ _ hR hS hz (lv_sub hl [0, 1, 2, 3] rfl)
            · have hf := q_f hf hc
              refine lv_aload_n hx hb dX10_readAs_42 rfl (lv_at hl 0 rfl) ?_
              refine q_gR hx hb hT hown hK hR iqX10 vqX10 2 (by decide) (hT _ wfl_X10_7) hf dX10_readAs_43 (fun v13 hf => ?_)
              refine lv_iload_n hx hb dX10_readAs_46 rfl (lv_at hl 3 rfl) ?_
              refine q_iald hx hb hK hR hf dX10_readAs_47 (fun v14 hf => ?_)
              refine lv_aload_n hx hb dX10_readAs_48 rfl (lv_at hl 0 rfl) ?_
              refine q_gR hx hb hT hown hK hR iqX10 vqX10 2 (by decide) (hT _ wfl_X10_7) hf dX10_readAs_49 (fun v15 hf => ?_)
              refine lv_iload_n hx hb dX10_readAs_52 rfl (lv_at hl 2 rfl) ?_
              refine q_iald hx hb hK hR hf dX10_readAs_53 (fun v16 hf => ?_)
              refine lv_icmp_ge (tgt := 61) hx hb dX10_readAs_54 (by decide) (fun hc => ?_) (fun hc => ?_)
              · have hf := q_t hf hc
                refine lv_iconst (v := (0 : Int32)) hx hb dX10_readAs_61 (by decide) ?_
                cases hf
                exact hJ _ _ _ hR hS hz (lv_sub hl [0, 1, 2, 3] rfl)
              · have hf := q_f hf hc
                refine lv_iconst (v := (1 : Int32)) hx hb dX10_readAs_57 (by decide) ?_
                refine lv_goto (tgt := 62) hx hb dX10_readAs_58 (by decide) ?_
                cases hf
                exact hJ _ _ _ hR hS hz (lv_sub hl [0, 1, 2, 3] rfl)
  refine hL F _ _ _ ho (fun z0 h9 => ?_) _ _ _ hR hS hz (lv_sub hl [2, 3, 1, 0] rfl)
  cases h9
  intro H locs ls hR hS hz hl
  refine lv_iload_n hx hb dX10_readAs_81 rfl (lv_at hl 0 rfl) ?_
  subst hQ
  exact q_iret hx hb hr hlocks hR hS hz (Option.some.inj hf) rfl dX10_readAs_82
/-! X10_house -/
def fX10_house (F : Nat) (X : qH) (a0 : Nat) (a1 : Int32) (a2 : Int32) : Option (Int32) :=
qIs 9 X a0 <|
(fX10_isHouse F X a0 a1).bind fun v1 =>
if v1 = (0 : Int32) then (some (-1000000001 : Int32))
else (if a2 = (0 : Int32) then ((qgR X 9 a0 2).bind fun v2 =>
(qaI X 0 v2 a1).bind fun v3 =>
some v3)
else if a2 = (1 : Int32) then ((qgR X 9 a0 3).bind fun v4 =>
(qaI X 0 v4 a1).bind fun v5 =>
some v5)
else if a2 = (2 : Int32) then ((qgR X 9 a0 8).bind fun v6 =>
(qaI X 0 v6 ((3 : Int32) + a1)).bind fun v7 =>
some v7)
else if a2 = (3 : Int32) then ((qgR X 9 a0 4).bind fun v8 =>
(qaI X 0 v8 a1).bind fun v9 =>
some v9)
else if a2 = (4 : Int32) then ((fX10_starNumber F X a0 a1).bind fun v10 =>
some v10)
else if a2 = (5 : Int32) then ((qgR X 9 a0 8).bind fun v11 =>
(qaI X 0 v11 ((11 : Int32) + a1)).bind fun v12 =>
some v12)
else if a2 = (6 : Int32) then ((qgR X 9 a0 8).bind fun v13 =>
(qaI X 0 v13 ((19 : Int32) + a1)).bind fun v14 =>
some v14)
else if a2 = (7 : Int32) then ((fX10_readAs F X a0 a1).bind fun v15 =>
some v15)
else (some (-1000000002 : Int32)))
abbrev rmX10_house : Room := { frames := 2, cells := 0, slots := 0, locals := 46 }
theorem fX10_house_is {F : Nat} {X : qH} {a0 : Nat} {a1 : Int32} {a2 : Int32} {r9 : Int32} (h : fX10_house F X a0 a1 a2 = some r9) : ∃ fs, X a0 = some (.inr (9, fs)) := (qIs_spec h).1
theorem hdX10_house : yX10_house.cls = RX10 ∧ yX10_house.cls ≠ "java/lang/invoke/MethodHandle" ∧ yX10_house.cls ≠ "java/lang/invoke/VarHandle" ∧ (parseMethodDescriptor yX10_house.desc).map (fun d => d.parameters.length) = some 2 := by decide +kernel
set_option maxHeartbeats 4000000 in
set_option maxRecDepth 100000 in
theorem mX10_house (l : Launch) (D : va_G) (kz : Nat → Nat) (b0 sz F : Nat) (X : qH) (a0 : Nat) (a1 : Int32) (a2 : Int32) (r : Int32) (hf : fX10_house F X a0 a1 a2 = some r) : Met l yX10_house (qws yX10_house cX10_house 3 (some .int)) rmX10_house (va_Pc [.ref a0, .int a1, .int a2] (qU D kz b0 sz X)) (va_Qi (fun (r' : Int32) (u : qH) => r' = r ∧ u = X) (fun u t => qO D kz b0 sz u t) (qA b0)) 0 0 (qA b0) := by
  refine q_start (by decide) (Nat.le_of_ble_eq_true rfl) ?_
  intro p e s m args below meth c hx hb hr hlocks hnm hml hown hT hR hK hz ls hl
  have hown : s.vm.findClass RX10 = some m.cls := hown
  have hl : lv_has ls 3 [(0, .ref a0), (1, .int a1), (2, .int a2)] := hl
  have hS : va_S (qA b0) s.heap s.heap [] := va_S.rf
  obtain ⟨Q, hQ⟩ : ∃ Q, Q = MQ below (va_Qi (fun (r' : Int32) (u : qH) => r' = r ∧ u = X) (fun u t => qO D kz b0 sz u t) (qA b0)) args s 0 0 (qA b0) := ⟨_, rfl⟩
  rw [← hQ]
  unfold fX10_house at hf
  obtain ⟨hthis, hf⟩ := qIs_spec hf
  refine lv_aload_n hx hb dX10_house_0 rfl (lv_at hl 0 rfl) ?_
  refine lv_iload_n hx hb dX10_house_1 rfl (lv_at hl 1 rfl) ?_
  obtain ⟨v1, hc, hf⟩ := q_b hf
  refine q_calli (va_runV (As := [.int a1]) (rest := []) ⟨hx, hb, hml, hown, hT⟩ (mX10_isHouse l D kz b0 sz F X a0 a1 v1 hc) (cwV 1 hT (q_gV wco_X10_isHouse wml_X10_204 wim_X10_isHouse wse_X10_isHouse win_X10) rfl rfl rfl hdX10_isHouse ⟨Nat.le_of_ble_eq_true rfl, Nat.le_of_ble_eq_true rfl⟩) (q_preV vqX10 (fX10_isHouse_is hc) hR hK hz) rfl rfl hl.1 rfl (lv_room (Nat.le_of_ble_eq_true rfl)) dX10_house_2 ⟨Nat.le_of_ble_eq_true rfl, Nat.le_of_ble_eq_true rfl⟩) hS (fun H locs hR hS hz => ?_)
  refine lv_if_ne (tgt := 11) hx hb dX10_house_5 (by decide) (fun hc => ?_) (fun hc => ?_)
  · have hf := q_f hf hc
    refine lv_iload_n hx hb dX10_house_11 rfl (lv_at hl 2 rfl) ?_
    by_cases hc0 : a2 = (0 : Int32)
    · have hf := q_t hf hc0
      refine lv_tableIn (off := 48) (tgt := 60) hx hb dX10_house_12 (by rw [hc0]; decide) (by rw [hc0]; decide) (by rw [hc0]; decide +kernel) (by decide) ?_
      refine lv_aload_n hx hb dX10_house_60 rfl (lv_at hl 0 rfl) ?_
      refine q_gR hx hb hT hown hK hR iqX10 vqX10 2 (by decide) (hT _ wfl_X10_7) hf dX10_house_61 (fun v2 hf => ?_)
      refine lv_iload_n hx hb dX10_house_64 rfl (lv_at hl 1 rfl) ?_
      refine q_iald hx hb hK hR hf dX10_house_65 (fun v3 hf => ?_)
      subst hQ
      exact q_iret hx hb hr hlocks hR hS hz (Option.some.inj hf) rfl dX10_house_66
    have hf := q_f hf hc0
    by_cases hc1 : a2 = (1 : Int32)
    · have hf := q_t hf hc1
      refine lv_tableIn (off := 55) (tgt := 67) hx hb dX10_house_12 (by rw [hc1]; decide) (by rw [hc1]; decide) (by rw [hc1]; decide +kernel) (by decide) ?_
      refine lv_aload_n hx hb dX10_house_67 rfl (lv_at hl 0 rfl) ?_
      refine q_gR hx hb hT hown hK hR iqX10 vqX10 3 (by decide) (hT _ wfl_X10_13) hf dX10_house_68 (fun v4 hf => ?_)
      refine lv_iload_n hx hb dX10_house_71 rfl (lv_at hl 1 rfl) ?_
      refine q_iald hx hb hK hR hf dX10_house_72 (fun v5 hf => ?_)
      subst hQ
      exact q_iret hx hb hr hlocks hR hS hz (Option.some.inj hf) rfl dX10_house_73
    have hf := q_f hf hc1
    by_cases hc2 : a2 = (2 : Int32)
    · have hf := q_t hf hc2
      refine lv_tableIn (off := 62) (tgt := 74) hx hb dX10_house_12 (by rw [hc2]; decide) (by rw [hc2]; decide) (by rw [hc2]; decide +kernel) (by decide) ?_
      refine lv_aload_n hx hb dX10_house_74 rfl (lv_at hl 0 rfl) ?_
      refine q_gR hx hb hT hown hK hR iqX10 vqX10 8 (by decide) (hT _ wfl_X10_29) hf dX10_house_75 (fun v6 hf => ?_)
      refine lv_iconst (v := (3 : Int32)) hx hb dX10_house_78 (by decide) ?_
      refine lv_iload_n hx hb dX10_house_79 rfl (lv_at hl 1 rfl) ?_
      refine lv_iadd hx hb dX10_house_80 ?_
      refine q_iald hx hb hK hR hf dX10_house_81 (fun v7 hf => ?_)
      subst hQ
      exact q_iret hx hb hr hlocks hR hS hz (Option.some.inj hf) rfl dX10_house_82
    have hf := q_f hf hc2
    by_cases hc3 : a2 = (3 : Int32)
    · have hf := q_t hf hc3
      refine lv_tableIn (off := 71) (tgt := 83) hx hb dX10_house_12 (by rw [hc3]; decide) (by rw [hc3]; decide) (by rw [hc3]; decide +kernel) (by decide) ?_
      refine lv_aload_n hx hb dX10_house_83 rfl (lv_at hl 0 rfl) ?_
      refine q_gR hx hb hT hown hK hR iqX10 vqX10 4 (by decide) (hT _ wfl_X10_16) hf dX10_house_84 (fun v8 hf => ?_)
      refine lv_iload_n hx hb dX10_house_87 rfl (lv_at hl 1 rfl) ?_
      refine q_iald hx hb hK hR hf dX10_house_88 (fun v9 hf => ?_)
      subst hQ
      exact q_iret hx hb hr hlocks hR hS hz (Option.some.inj hf) rfl dX10_house_89
    have hf := q_f hf hc3
    by_cases hc4 : a2 = (4 : Int32)
    · have hf := q_t hf hc4
      refine lv_tableIn (off := 78) (tgt := 90) hx hb dX10_house_12 (by rw [hc4]; decide) (by rw [hc4]; decide) (by rw [hc4]; decide +kernel) (by decide) ?_
      refine lv_aload_n hx hb dX10_house_90 rfl (lv_at hl 0 rfl) ?_
      refine lv_iload_n hx hb dX10_house_91 rfl (lv_at hl 1 rfl) ?_
      obtain ⟨v10, hc, hf⟩ := q_b hf
      refine q_calli (va_runV (As := [.int a1]) (rest := []) ⟨hx, hb, hml, hown, hT⟩ (mX10_starNumber l D kz b0 sz F X a0 a1 v10 hc) (cwV 1 hT (q_gV wco_X10_starNumber wml_X10_208 wim_X10_starNumber wse_X10_starNumber win_X10) rfl rfl rfl hdX10_starNumber ⟨Nat.le_of_ble_eq_true rfl, Nat.le_of_ble_eq_true rfl⟩) (q_preV vqX10 (fX10_starNumber_is hc) hR hK hz) rfl rfl hl.1 rfl (lv_room (Nat.le_of_ble_eq_true rfl)) dX10_house_92 ⟨Nat.le_of_ble_eq_true rfl, Nat.le_of_ble_eq_true rfl⟩) hS (fun H locs hR hS hz => ?_)
      subst hQ
      exact q_iret hx hb hr hlocks hR hS hz (Option.some.inj hf) rfl dX10_house_95
    have hf := q_f hf hc4
    by_cases hc5 : a2 = (5 : Int32)
    · have hf := q_t hf hc5
      refine lv_tableIn (off := 84) (tgt := 96) hx hb dX10_house_12 (by rw [hc5]; decide) (by rw [hc5]; decide) (by rw [hc5]; decide +kernel) (by decide) ?_
      refine lv_aload_n hx hb dX10_house_96 rfl (lv_at hl 0 rfl) ?_
      refine q_gR hx hb hT hown hK hR iqX10 vqX10 8 (by decide) (hT _ wfl_X10_29) hf dX10_house_97 (fun v11 hf => ?_)
      refine lv_bipush (v := (11 : Int32)) hx hb dX10_house_100 (by decide) ?_
      refine lv_iload_n hx hb dX10_house_102 rfl (lv_at hl 1 rfl) ?_
      refine lv_iadd hx hb dX10_house_103 ?_
      refine q_iald hx hb hK hR hf dX10_house_104 (fun v12 hf => ?_)
      subst hQ
      exact q_iret hx hb hr hlocks hR hS hz (Option.some.inj hf) rfl dX10_house_105
    have hf := q_f hf hc5
    by_cases hc6 : a2 = (6 : Int32)
    · have hf := q_t hf hc6
      refine lv_tableIn (off := 94) (tgt := 106) hx hb dX10_house_12 (by rw [hc6]; decide) (by rw [hc6]; decide) (by rw [hc6]; decide +kernel) (by decide) ?_
      refine lv_aload_n hx hb dX10_house_106 rfl (lv_at hl 0 rfl) ?_
      refine q_gR hx hb hT hown hK hR iqX10 vqX10 8 (by decide) (hT _ wfl_X10_29) hf dX10_house_107 (fun v13 hf => ?_)
      refine lv_bipush (v := (19 : Int32)) hx hb dX10_house_110 (by decide) ?_
      refine lv_iload_n hx hb dX10_house_112 rfl (lv_at hl 1 rfl) ?_
      refine lv_iadd hx hb dX10_house_113 ?_
      refine q_iald hx hb hK hR hf dX10_house_114 (fun v14 hf => ?_)
      subst hQ
      exact q_iret hx hb hr hlocks hR hS hz (Option.some.inj hf) rfl dX10_house_115
    have hf := q_f hf hc6
    by_cases hc7 : a2 = (7 : Int32)
    · have hf := q_t hf hc7
      refine lv_tableIn (off := 104) (tgt := 116) hx hb dX10_house_12 (by rw [hc7]; decide) (by rw [hc7]; decide) (by rw [hc7]; decide +kernel) (by decide) ?_
      refine lv_aload_n hx hb dX10_house_116 rfl (lv_at hl 0 rfl) ?_
      refine lv_iload_n hx hb dX10_house_117 rfl (lv_at hl 1 rfl) ?_
      obtain ⟨v15, hc, hf⟩ := q_b hf
      refine q_calli (va_runV (As := [.int a1]) (rest := []) ⟨hx, hb, hml, hown, hT⟩ (mX10_readAs l D kz b0 sz F X a0 a1 v15 hc) (cwV 1 hT (q_gV wco_X10_readAs wml_X10_211 wim_X10_readAs wse_X10_readAs win_X10) rfl rfl rfl hdX10_readAs ⟨Nat.le_of_ble_eq_true rfl, Nat.le_of_ble_eq_true rfl⟩) (q_preV vqX10 (fX10_readAs_is hc) hR hK hz) rfl rfl hl.1 rfl (lv_room (Nat.le_of_ble_eq_true rfl)) dX10_house_118 ⟨Nat.le_of_ble_eq_true rfl, Nat.le_of_ble_eq_true rfl⟩) hS (fun H locs hR hS hz => ?_)
      subst hQ
      exact q_iret hx hb hr hlocks hR hS hz (Option.some.inj hf) rfl dX10_house_121
    have hf := q_f hf hc7
    have hd0 := lv_neT hc0 (a := 0) (by decide)
    have hd1 := lv_neT hc1 (a := 1) (by decide)
    have hd2 := lv_neT hc2 (a := 2) (by decide)
    have hd3 := lv_neT hc3 (a := 3) (by decide)
    have hd4 := lv_neT hc4 (a := 4) (by decide)
    have hd5 := lv_neT hc5 (a := 5) (by decide)
    have hd6 := lv_neT hc6 (a := 6) (by decide)
    have hd7 := lv_neT hc7 (a := 7) (by decide)
    refine lv_tableOut (tgt := 122) hx hb dX10_house_12 (by omega) (by decide) ?_
    refine lv_ldc (v := (-1000000002 : Int32)) hx hb hown (hT _ wk_X10_111) dX10_house_122 ?_
    subst hQ
    exact q_iret hx hb hr hlocks hR hS hz (Option.some.inj hf) rfl dX10_house_124
  · have hf := q_t hf hc
    refine lv_ldc (v := (-1000000001 : Int32)) hx hb hown (hT _ wk_X10_207) dX10_house_8 ?_
    subst hQ
    exact q_iret hx hb hr hlocks hR hS hz (Option.some.inj hf) rfl dX10_house_10
/-! X10_overOf -/
def fX10_overOf (F : Nat) (X : qH) (a0 : Nat) (a1 : Int32) : Option (Int32) :=
qIs 9 X a0 <|
(qgR X 9 a0 2).bind fun v1 =>
(qaI X 0 v1 a1).bind fun v2 =>
(qgR X 9 a0 8).bind fun v3 =>
(qaI X 0 v3 (1 : Int32)).bind fun v4 =>
qlt (v2 + v4) fun v5 =>
(if (0 : Int32) ≤ v5 then ((qgI X 9 a0 0).bind fun v7 =>
if v5 < v7 then (some v5)
else ((qgI X 9 a0 0).bind fun v8 =>
some (v8 - (1 : Int32))))
else (some (0 : Int32)) : Option Int32).bind fun v6 =>
some v6
abbrev rmX10_overOf : Room := { frames := 0, cells := 0, slots := 0, locals := 0 }
theorem fX10_overOf_is {F : Nat} {X : qH} {a0 : Nat} {a1 : Int32} {r9 : Int32} (h : fX10_overOf F X a0 a1 = some r9) : ∃ fs, X a0 = some (.inr (9, fs)) := (qIs_spec h).1
theorem hdX10_overOf : yX10_overOf.cls = RX10 ∧ yX10_overOf.cls ≠ "java/lang/invoke/MethodHandle" ∧ yX10_overOf.cls ≠ "java/lang/invoke/VarHandle" ∧ (parseMethodDescriptor yX10_overOf.desc).map (fun d => d.parameters.length) = some 1 := by decide +kernel
set_option maxHeartbeats 4000000 in
set_option maxRecDepth 100000 in
theorem mX10_overOf (l : Launch) (D : va_G) (kz : Nat → Nat) (b0 sz F : Nat) (X : qH) (a0 : Nat) (a1 : Int32) (r : Int32) (hf : fX10_overOf F X a0 a1 = some r) : Met l yX10_overOf (qws yX10_overOf cX10_overOf 3 (some .int)) rmX10_overOf (va_Pc [.ref a0, .int a1] (qU D kz b0 sz X)) (va_Qi (fun (r' : Int32) (u : qH) => r' = r ∧ u = X) (fun u t => qO D kz b0 sz u t) (qA b0)) 0 0 (qA b0) := by
  refine q_start (by decide) (Nat.le_of_ble_eq_true rfl) ?_
  intro p e s m args below meth c hx hb hr hlocks hnm hml hown hT hR hK hz ls hl
  have hown : s.vm.findClass RX10 = some m.cls := hown
  have hl : lv_has ls 3 [(0, .ref a0), (1, .int a1)] := hl
  have hS : va_S (qA b0) s.heap s.heap [] := va_S.rf
  obtain ⟨Q, hQ⟩ : ∃ Q, Q = MQ below (va_Qi (fun (r' : Int32) (u : qH) => r' = r ∧ u = X) (fun u t => qO D kz b0 sz u t) (qA b0)) args s 0 0 (qA b0) := ⟨_, rfl⟩
  rw [← hQ]
  unfold fX10_overOf at hf
  obtain ⟨hthis, hf⟩ := qIs_spec hf
  refine lv_aload_n hx hb dX10_overOf_0 rfl (lv_at hl 0 rfl) ?_
  refine q_gR hx hb hT hown hK hR iqX10 vqX10 2 (by decide) (hT _ wfl_X10_7) hf dX10_overOf_1 (fun v1 hf => ?_)
  refine lv_iload_n hx hb dX10_overOf_4 rfl (lv_at hl 1 rfl) ?_
  refine q_iald hx hb hK hR hf dX10_overOf_5 (fun v2 hf => ?_)
  refine lv_aload_n hx hb dX10_overOf_6 rfl (lv_at hl 0 rfl) ?_
  refine q_gR hx hb hT hown hK hR iqX10 vqX10 8 (by decide) (hT _ wfl_X10_29) hf dX10_overOf_7 (fun v3 hf => ?_)
  refine lv_iconst (v := (1 : Int32)) hx hb dX10_overOf_10 (by decide) ?_
  refine q_iald hx hb hK hR hf dX10_overOf_11 (fun v4 hf => ?_)
  refine lv_iadd hx hb dX10_overOf_12 ?_
  refine lv_topi (fun v5 ev5 => ?_)
  have hf := q_lt ev5 hf
  refine lv_istore_n (lv' := [(2, .int v5), (0, .ref a0), (1, .int a1)]) hx hb dX10_overOf_13 rfl hl (by decide) rfl (fun ls hl => ?_)
  refine lv_iload_n hx hb dX10_overOf_14 rfl (lv_at hl 0 rfl) ?_
  obtain ⟨v6, hp, hf⟩ := q_b hf
  have hJ : ∀ (H : Heap) (locs : List Loc) (ls : Array Slot), qR D kz b0 X H → va_S (qA b0) s.heap H locs → H.size = sz → lv_has ls 3 [] → W p l e rmX10_overOf s m args below meth c H locs 0 0 Q (F0 m 40 ls [.int v6]) := by
    intro H locs ls hR hS hz hl
    subst hQ
    exact q_iret hx hb hr hlocks hR hS hz (Option.some.inj hf) rfl dX10_overOf_40
  have hf := hp
  refine lv_if_ge (tgt := 22) hx hb dX10_overOf_15 (by decide) (fun hc => ?_) (fun hc => ?_)
  · have hf := q_t hf hc
    refine lv_iload_n hx hb dX10_overOf_22 rfl (lv_at hl 0 rfl) ?_
    refine lv_aload_n hx hb dX10_overOf_23 rfl (lv_at hl 1 rfl) ?_
    refine q_gI hx hb hT hown hK hR iqX10 vqX10 0 (by decide) (hT _ wfl_X10_99) hf dX10_overOf_24 (fun v7 hf => ?_)
    refine lv_icmp_lt (tgt := 39) hx hb dX10_overOf_27 (by decide) (fun hc => ?_) (fun hc => ?_)
    · have hf := q_t hf hc
      refine lv_iload_n hx hb dX10_overOf_39 rfl (lv_at hl 0 rfl) ?_
      cases hf
      exact hJ _ _ _ hR hS hz (lv_sub hl [] rfl)
    · have hf := q_f hf hc
      refine lv_aload_n hx hb dX10_overOf_30 rfl (lv_at hl 1 rfl) ?_
      refine q_gI hx hb hT hown hK hR iqX10 vqX10 0 (by decide) (hT _ wfl_X10_99) hf dX10_overOf_31 (fun v8 hf => ?_)
      refine lv_iconst (v := (1 : Int32)) hx hb dX10_overOf_34 (by decide) ?_
      refine lv_isub hx hb dX10_overOf_35 ?_
      refine lv_goto (tgt := 40) hx hb dX10_overOf_36 (by decide) ?_
      cases hf
      exact hJ _ _ _ hR hS hz (lv_sub hl [] rfl)
  · have hf := q_f hf hc
    refine lv_iconst (v := (0 : Int32)) hx hb dX10_overOf_18 (by decide) ?_
    refine lv_goto (tgt := 40) hx hb dX10_overOf_19 (by decide) ?_
    cases hf
    exact hJ _ _ _ hR hS hz (lv_sub hl [] rfl)
/-! X10_isHidden -/
def fX10_isHidden_L5_B (F : Nat) (X : qH) (a0 : Nat) (a1 : Int32) (a2 : Int32) (self0 : Int32 → Int32 → Option (Int32)) (v1 : Int32) (v2 : Int32) : Option (Int32) :=
(qgI X 9 a0 1).bind fun v3 =>
if v3 ≤ v2 then (some v1)
else ((if v1 = (0 : Int32) then (if v2 = a1 then (some (0 : Int32))
else ((qgR X 9 a0 8).bind fun v6 =>
(qaI X 0 v6 ((19 : Int32) + v2)).bind fun v7 =>
if v7 = a2 then ((qgR X 9 a0 8).bind fun v8 =>
(qaI X 0 v8 ((11 : Int32) + v2)).bind fun v9 =>
if v9 < (0 : Int32) then (some (0 : Int32))
else ((qgR X 9 a0 8).bind fun v10 =>
(qaI X 0 v10 (2 : Int32)).bind fun v11 =>
(qgR X 9 a0 8).bind fun v12 =>
(qaI X 0 v12 ((11 : Int32) + v2)).bind fun v13 =>
(qgI X 9 a0 6).bind fun v14 =>
if v14 < (v11 - v13) then (some (0 : Int32))
else (some (1 : Int32))))
else (some (0 : Int32))))
else (some (1 : Int32)) : Option Int32).bind fun v4 =>
qlt (v2 + (1 : Int32)) fun v5 =>
self0 v4 v5)
def fX10_isHidden_L5 (F : Nat) (X : qH) (a0 : Nat) (a1 : Int32) (a2 : Int32) : Nat → Int32 → Int32 → Option (Int32)
  | 0, _, _ => none
  | n + 1, v1, v2 => fX10_isHidden_L5_B F X a0 a1 a2 (fX10_isHidden_L5 F X a0 a1 a2 n) v1 v2
def fX10_isHidden (F : Nat) (X : qH) (a0 : Nat) (a1 : Int32) (a2 : Int32) : Option (Int32) :=
qIs 9 X a0 <|
(fX10_isHidden_L5 F X a0 a1 a2 F (0 : Int32) (0 : Int32)).bind fun v15 =>
(qz v15).bind fun z =>
some z
abbrev rmX10_isHidden : Room := { frames := 0, cells := 0, slots := 0, locals := 0 }
theorem fX10_isHidden_is {F : Nat} {X : qH} {a0 : Nat} {a1 : Int32} {a2 : Int32} {r9 : Int32} (h : fX10_isHidden F X a0 a1 a2 = some r9) : ∃ fs, X a0 = some (.inr (9, fs)) := (qIs_spec h).1
theorem hdX10_isHidden : yX10_isHidden.cls = RX10 ∧ yX10_isHidden.cls ≠ "java/lang/invoke/MethodHandle" ∧ yX10_isHidden.cls ≠ "java/lang/invoke/VarHandle" ∧ (parseMethodDescriptor yX10_isHidden.desc).map (fun d => d.parameters.length) = some 2 := by decide +kernel
set_option maxHeartbeats 4000000 in
set_option maxRecDepth 100000 in
theorem mX10_isHidden (l : Launch) (D : va_G) (kz : Nat → Nat) (b0 sz F : Nat) (X : qH) (a0 : Nat) (a1 : Int32) (a2 : Int32) (r : Int32) (hf : fX10_isHidden F X a0 a1 a2 = some r) : Met l yX10_isHidden (qws yX10_isHidden cX10_isHidden 5 (some .boolean)) rmX10_isHidden (va_Pc [.ref a0, .int a1, .int a2] (qU D kz b0 sz X)) (va_Qi (fun (r' : Int32) (u : qH) => r' = r ∧ u = X) (fun u t => qO D kz b0 sz u t) (qA b0)) 0 0 (qA b0) := by
  refine q_start (by decide) (Nat.le_of_ble_eq_true rfl) ?_
  intro p e s m args below meth c hx hb hr hlocks hnm hml hown hT hR hK hz ls hl
  have hown : s.vm.findClass RX10 = some m.cls := hown
  have hl : lv_has ls 5 [(0, .ref a0), (1, .int a1), (2, .int a2)] := hl
  have hS : va_S (qA b0) s.heap s.heap [] := va_S.rf
  obtain ⟨Q, hQ⟩ : ∃ Q, Q = MQ below (va_Qi (fun (r' : Int32) (u : qH) => r' = r ∧ u = X) (fun u t => qO D kz b0 sz u t) (qA b0)) args s 0 0 (qA b0) := ⟨_, rfl⟩
  rw [← hQ]
  unfold fX10_isHidden at hf
  obtain ⟨hthis, hf⟩ := qIs_spec hf
  refine lv_iconst (v := (0 : Int32)) hx hb dX10_isHidden_0 (by decide) ?_
  refine lv_istore_n (lv' := [(3, .int (0 : Int32)), (0, .ref a0), (1, .int a1), (2, .int a2)]) hx hb dX10_isHidden_1 rfl hl (by decide) rfl (fun ls hl => ?_)
  refine lv_iconst (v := (0 : Int32)) hx hb dX10_isHidden_2 (by decide) ?_
  refine lv_istore (lv' := [(4, .int (0 : Int32)), (3, .int (0 : Int32)), (0, .ref a0), (1, .int a1), (2, .int a2)]) hx hb dX10_isHidden_3 hl (by decide) rfl (fun ls hl => ?_)
  obtain ⟨v15, ho, hf⟩ := q_b hf
  have hL : ∀ (n : Nat) (v1 : Int32) (v2 : Int32) (out : Int32), fX10_isHidden_L5 F X a0 a1 a2 n v1 v2 = some out → (∀ (v15 : Int32), out = v15 → ∀ (H : Heap) (locs : List Loc) (ls : Array Slot), qR D kz b0 X H → va_S (qA b0) s.heap H locs → H.size = sz → lv_has ls 5 [(3, .int v15)] → W p l e rmX10_isHidden s m args below meth c H locs 0 0 Q (F0 m 87 ls [])) → ∀ (H : Heap) (locs : List Loc) (ls : Array Slot), qR D kz b0 X H → va_S (qA b0) s.heap H locs → H.size = sz → lv_has ls 5 [(0, .ref a0), (1, .int a1), (2, .int a2), (3, .int v1), (4, .int v2)] → W p l e rmX10_isHidden s m args below meth c H locs 0 0 Q (F0 m 5 ls []) := by
    intro n9
    induction n9 with
    | zero =>
      intro v1 v2 out hf
      exact absurd (show none = some out from hf) (by simp)
    | succ n9 ih0 =>
      intro v1 v2 out hf hex H locs ls hR hS hz hl
      have hf : fX10_isHidden_L5_B F X a0 a1 a2 (fX10_isHidden_L5 F X a0 a1 a2 n9) v1 v2 = some out := hf
      unfold fX10_isHidden_L5_B at hf
      refine lv_iload hx hb dX10_isHidden_5 (lv_at hl 4 rfl) ?_
      refine lv_aload_n hx hb dX10_isHidden_7 rfl (lv_at hl 0 rfl) ?_
      refine q_gI hx hb hT hown hK hR iqX10 vqX10 1 (by decide) (hT _ wfl_X10_102) hf dX10_isHidden_8 (fun v3 hf => ?_)
      refine lv_icmp_ge (tgt := 87) hx hb dX10_isHidden_11 (by decide) (fun hc => ?_) (fun hc => ?_)
      · have hf := q_t hf hc
        exact hex _ (Option.some.inj hf).symm _ _ _ hR hS hz (lv_sub hl [3] rfl)
      · have hf := q_f hf hc
        refine lv_iload_n hx hb dX10_isHidden_14 rfl (lv_at hl 3 rfl) ?_
        obtain ⟨v4, hp, hf⟩ := q_b hf
        have hJ : ∀ (H : Heap) (locs : List Loc) (ls : Array Slot), qR D kz b0 X H → va_S (qA b0) s.heap H locs → H.size = sz → lv_has ls 5 [(0, .ref a0), (1, .int a1), (2, .int a2), (4, .int v2)] → W p l e rmX10_isHidden s m args below meth c H locs 0 0 Q (F0 m 80 ls [.int v4]) := by
          intro H locs ls hR hS hz hl
          refine lv_istore_n (lv' := [(3, .int v4), (0, .ref a0), (1, .int a1), (2, .int a2), (4, .int v2)]) hx hb dX10_isHidden_80 rfl hl (by decide) rfl (fun ls hl => ?_)
          obtain ⟨v5, ev5⟩ : ∃ y : Int32, y = (v2 + (1 : Int32)) := ⟨_, rfl⟩
          have hf := q_lt ev5 hf
          refine lv_iinc (v := v5) (lv' := [(4, .int v5), (3, .int v4), (0, .ref a0), (1, .int a1), (2, .int a2)]) hx hb dX10_isHidden_81 hl (k := 4) rfl (by rw [ev5]; rfl) (by decide) rfl (fun ls hl => ?_)
          refine lv_goto (tgt := 5) hx hb dX10_isHidden_84 (by decide) ?_
          exact ih0 _ _ out hf hex _ _ _ hR hS hz (lv_sub hl [2, 3, 4, 1, 0] rfl)
        have hf := hp
        refine lv_if_ne (tgt := 75) hx hb dX10_isHidden_15 (by decide) (fun hc => ?_) (fun hc => ?_)
        · have hf := q_f hf hc
          refine lv_iconst (v := (1 : Int32)) hx hb dX10_isHidden_75 (by decide) ?_
          refine lv_goto (tgt := 80) hx hb dX10_isHidden_76 (by decide) ?_
          cases hf
          exact hJ _ _ _ hR hS hz (lv_sub hl [0, 1, 2, 4] rfl)
        · have hf := q_t hf hc
          refine lv_iload hx hb dX10_isHidden_18 (lv_at hl 4 rfl) ?_
          refine lv_iload_n hx hb dX10_isHidden_20 rfl (lv_at hl 1 rfl) ?_
          refine lv_icmp_eq (tgt := 79) hx hb dX10_isHidden_21 (by decide) (fun hc => ?_) (fun hc => ?_)
          · have hf := q_t hf hc
            refine lv_iconst (v := (0 : Int32)) hx hb dX10_isHidden_79 (by decide) ?_
            cases hf
            exact hJ _ _ _ hR hS hz (lv_sub hl [0, 1, 2, 4] rfl)
          · have hf := q_f hf hc
            refine lv_aload_n hx hb dX10_isHidden_24 rfl (lv_at hl 0 rfl) ?_
            refine q_gR hx hb hT hown hK hR iqX10 vqX10 8 (by decide) (hT _ wfl_X10_29) hf dX10_isHidden_25 (fun v6 hf => ?_)
            refine lv_bipush (v := (19 : Int32)) hx hb dX10_isHidden_28 (by decide) ?_
            refine lv_iload hx hb dX10_isHidden_30 (lv_at hl 4 rfl) ?_
            refine lv_iadd hx hb dX10_isHidden_32 ?_
            refine q_iald hx hb hK hR hf dX10_isHidden_33 (fun v7 hf => ?_)
            refine lv_iload_n hx hb dX10_isHidden_34 rfl (lv_at hl 2 rfl) ?_
            refine lv_icmp_ne (tgt := 79) hx hb dX10_isHidden_35 (by decide) (fun hc => ?_) (fun hc => ?_)
            · have hf := q_f hf hc
              refine lv_iconst (v := (0 : Int32)) hx hb dX10_isHidden_79 (by decide) ?_
              cases hf
              exact hJ _ _ _ hR hS hz (lv_sub hl [0, 1, 2, 4] rfl)
            · have hf := q_t hf hc
              refine lv_aload_n hx hb dX10_isHidden_38 rfl (lv_at hl 0 rfl) ?_
              refine q_gR hx hb hT hown hK hR iqX10 vqX10 8 (by decide) (hT _ wfl_X10_29) hf dX10_isHidden_39 (fun v8 hf => ?_)
              refine lv_bipush (v := (11 : Int32)) hx hb dX10_isHidden_42 (by decide) ?_
              refine lv_iload hx hb dX10_isHidden_44 (lv_at hl 4 rfl) ?_
              refine lv_iadd hx hb dX10_isHidden_46 ?_
              refine q_iald hx hb hK hR hf dX10_isHidden_47 (fun v9 hf => ?_)
              refine lv_if_lt (tgt := 79) hx hb dX10_isHidden_48 (by decide) (fun hc => ?_) (fun hc => ?_)
              · have hf := q_t hf hc
                refine lv_iconst (v := (0 : Int32)) hx hb dX10_isHidden_79 (by decide) ?_
                cases hf
                exact hJ _ _ _ hR hS hz (lv_sub hl [0, 1, 2, 4] rfl)
              · have hf := q_f hf hc
                refine lv_aload_n hx hb dX10_isHidden_51 rfl (lv_at hl 0 rfl) ?_
                refine q_gR hx hb hT hown hK hR iqX10 vqX10 8 (by decide) (hT _ wfl_X10_29) hf dX10_isHidden_52 (fun v10 hf => ?_)
                refine lv_iconst (v := (2 : Int32)) hx hb dX10_isHidden_55 (by decide) ?_
                refine q_iald hx hb hK hR hf dX10_isHidden_56 (fun v11 hf => ?_)
                refine lv_aload_n hx hb dX10_isHidden_57 rfl (lv_at hl 0 rfl) ?_
                refine q_gR hx hb hT hown hK hR iqX10 vqX10 8 (by decide) (hT _ wfl_X10_29) hf dX10_isHidden_58 (fun v12 hf => ?_)
                refine lv_bipush (v := (11 : Int32)) hx hb dX10_isHidden_61 (by decide) ?_
                refine lv_iload hx hb dX10_isHidden_63 (lv_at hl 4 rfl) ?_
                refine lv_iadd hx hb dX10_isHidden_65 ?_
                refine q_iald hx hb hK hR hf dX10_isHidden_66 (fun v13 hf => ?_)
                refine lv_isub hx hb dX10_isHidden_67 ?_
                refine lv_aload_n hx hb dX10_isHidden_68 rfl (lv_at hl 0 rfl) ?_
                refine q_gI hx hb hT hown hK hR iqX10 vqX10 6 (by decide) (hT _ wfl_X10_22) hf dX10_isHidden_69 (fun v14 hf => ?_)
                refine lv_icmp_gt (tgt := 79) hx hb dX10_isHidden_72 (by decide) (fun hc => ?_) (fun hc => ?_)
                · have hf := q_t hf hc
                  refine lv_iconst (v := (0 : Int32)) hx hb dX10_isHidden_79 (by decide) ?_
                  cases hf
                  exact hJ _ _ _ hR hS hz (lv_sub hl [0, 1, 2, 4] rfl)
                · have hf := q_f hf hc
                  refine lv_iconst (v := (1 : Int32)) hx hb dX10_isHidden_75 (by decide) ?_
                  refine lv_goto (tgt := 80) hx hb dX10_isHidden_76 (by decide) ?_
                  cases hf
                  exact hJ _ _ _ hR hS hz (lv_sub hl [0, 1, 2, 4] rfl)
  refine hL F _ _ _ ho (fun z0 h9 => ?_) _ _ _ hR hS hz (lv_sub hl [2, 3, 4, 1, 0] rfl)
  cases h9
  intro H locs ls hR hS hz hl
  refine lv_iload_n hx hb dX10_isHidden_87 rfl (lv_at hl 0 rfl) ?_
  subst hQ
  obtain ⟨z9, hz9, hf⟩ := q_b hf
  obtain ⟨rfl, h01⟩ := qz_spec hz9
  exact q_zret hx hb hr hlocks hR hS hz (Option.some.inj hf) h01 rfl dX10_isHidden_88
/-! X10_reach -/
def fX10_reach (F : Nat) (X : qH) (a0 : Nat) (a1 : Int32) : Option (Int32) :=
qIs 9 X a0 <|
(qgR X 9 a0 3).bind fun v1 =>
(qaI X 0 v1 a1).bind fun v2 =>
(qgR X 9 a0 8).bind fun v3 =>
(qaI X 0 v3 (0 : Int32)).bind fun v4 =>
some ((v2 + (3 : Int32)) - (v4 / (2 : Int32)))
abbrev rmX10_reach : Room := { frames := 0, cells := 0, slots := 0, locals := 0 }
theorem fX10_reach_is {F : Nat} {X : qH} {a0 : Nat} {a1 : Int32} {r9 : Int32} (h : fX10_reach F X a0 a1 = some r9) : ∃ fs, X a0 = some (.inr (9, fs)) := (qIs_spec h).1
theorem hdX10_reach : yX10_reach.cls = RX10 ∧ yX10_reach.cls ≠ "java/lang/invoke/MethodHandle" ∧ yX10_reach.cls ≠ "java/lang/invoke/VarHandle" ∧ (parseMethodDescriptor yX10_reach.desc).map (fun d => d.parameters.length) = some 1 := by decide +kernel
set_option maxHeartbeats 4000000 in
set_option maxRecDepth 100000 in
theorem mX10_reach (l : Launch) (D : va_G) (kz : Nat → Nat) (b0 sz F : Nat) (X : qH) (a0 : Nat) (a1 : Int32) (r : Int32) (hf : fX10_reach F X a0 a1 = some r) : Met l yX10_reach (qws yX10_reach cX10_reach 2 (some .int)) rmX10_reach (va_Pc [.ref a0, .int a1] (qU D kz b0 sz X)) (va_Qi (fun (r' : Int32) (u : qH) => r' = r ∧ u = X) (fun u t => qO D kz b0 sz u t) (qA b0)) 0 0 (qA b0) := by
  refine q_start (by decide) (Nat.le_of_ble_eq_true rfl) ?_
  intro p e s m args below meth c hx hb hr hlocks hnm hml hown hT hR hK hz ls hl
  have hown : s.vm.findClass RX10 = some m.cls := hown
  have hl : lv_has ls 2 [(0, .ref a0), (1, .int a1)] := hl
  have hS : va_S (qA b0) s.heap s.heap [] := va_S.rf
  obtain ⟨Q, hQ⟩ : ∃ Q, Q = MQ below (va_Qi (fun (r' : Int32) (u : qH) => r' = r ∧ u = X) (fun u t => qO D kz b0 sz u t) (qA b0)) args s 0 0 (qA b0) := ⟨_, rfl⟩
  rw [← hQ]
  unfold fX10_reach at hf
  obtain ⟨hthis, hf⟩ := qIs_spec hf
  refine lv_aload_n hx hb dX10_reach_0 rfl (lv_at hl 0 rfl) ?_
  refine q_gR hx hb hT hown hK hR iqX10 vqX10 3 (by decide) (hT _ wfl_X10_13) hf dX10_reach_1 (fun v1 hf => ?_)
  refine lv_iload_n hx hb dX10_reach_4 rfl (lv_at hl 1 rfl) ?_
  refine q_iald hx hb hK hR hf dX10_reach_5 (fun v2 hf => ?_)
  refine lv_iconst (v := (3 : Int32)) hx hb dX10_reach_6 (by decide) ?_
  refine lv_iadd hx hb dX10_reach_7 ?_
  refine lv_aload_n hx hb dX10_reach_8 rfl (lv_at hl 0 rfl) ?_
  refine q_gR hx hb hT hown hK hR iqX10 vqX10 8 (by decide) (hT _ wfl_X10_29) hf dX10_reach_9 (fun v3 hf => ?_)
  refine lv_iconst (v := (0 : Int32)) hx hb dX10_reach_12 (by decide) ?_
  refine q_iald hx hb hK hR hf dX10_reach_13 (fun v4 hf => ?_)
  refine lv_iconst (v := (2 : Int32)) hx hb dX10_reach_14 (by decide) ?_
  refine lv_idiv hx hb dX10_reach_15 (by decide) ?_
  refine lv_isub hx hb dX10_reach_16 ?_
  subst hQ
  exact q_iret hx hb hr hlocks hR hS hz (Option.some.inj hf) rfl dX10_reach_17
/-! X10_seers -/
def fX10_seers_L11_B (F : Nat) (X : qH) (a0 : Nat) (a1 : Int32) (v1 : Int32) (self0 : Int32 → Int32 → Option (Int32)) (v2 : Int32) (v3 : Int32) : Option (Int32) :=
(qgI X 9 a0 1).bind fun v4 =>
if v4 ≤ v3 then (some v2)
else ((if v3 = a1 then (some (0 : Int32))
else ((qgR X 9 a0 2).bind fun v8 =>
(qaI X 0 v8 v3).bind fun v9 =>
(fX10_apart F X v1 v9).bind fun v10 =>
(fX10_reach F X a0 a1).bind fun v11 =>
if v11 < v10 then (some (0 : Int32))
else (some ((1 : Int32) <<< (v3 &&& 31)))) : Option Int32).bind fun v5 =>
qlt (v2 ||| v5) fun v6 =>
qlt (v3 + (1 : Int32)) fun v7 =>
self0 v6 v7)
def fX10_seers_L11 (F : Nat) (X : qH) (a0 : Nat) (a1 : Int32) (v1 : Int32) : Nat → Int32 → Int32 → Option (Int32)
  | 0, _, _ => none
  | n + 1, v2, v3 => fX10_seers_L11_B F X a0 a1 v1 (fX10_seers_L11 F X a0 a1 v1 n) v2 v3
def fX10_seers (F : Nat) (X : qH) (a0 : Nat) (a1 : Int32) : Option (Int32) :=
qIs 9 X a0 <|
(fX10_overOf F X a0 a1).bind fun v1 =>
(fX10_seers_L11 F X a0 a1 v1 F (0 : Int32) (0 : Int32)).bind fun v12 =>
(fX10_isHidden F X a0 a1 v1).bind fun v13 =>
(if v13 = (0 : Int32) then (some v12)
else (some (0 : Int32)) : Option Int32).bind fun v14 =>
some v14
abbrev rmX10_seers : Room := { frames := 1, cells := 0, slots := 0, locals := 24 }
theorem fX10_seers_is {F : Nat} {X : qH} {a0 : Nat} {a1 : Int32} {r9 : Int32} (h : fX10_seers F X a0 a1 = some r9) : ∃ fs, X a0 = some (.inr (9, fs)) := (qIs_spec h).1
theorem hdX10_seers : yX10_seers.cls = RX10 ∧ yX10_seers.cls ≠ "java/lang/invoke/MethodHandle" ∧ yX10_seers.cls ≠ "java/lang/invoke/VarHandle" ∧ (parseMethodDescriptor yX10_seers.desc).map (fun d => d.parameters.length) = some 1 := by decide +kernel
set_option maxHeartbeats 4000000 in
set_option maxRecDepth 100000 in
theorem mX10_seers (l : Launch) (D : va_G) (kz : Nat → Nat) (b0 sz F : Nat) (X : qH) (a0 : Nat) (a1 : Int32) (r : Int32) (hf : fX10_seers F X a0 a1 = some r) : Met l yX10_seers (qws yX10_seers cX10_seers 5 (some .int)) rmX10_seers (va_Pc [.ref a0, .int a1] (qU D kz b0 sz X)) (va_Qi (fun (r' : Int32) (u : qH) => r' = r ∧ u = X) (fun u t => qO D kz b0 sz u t) (qA b0)) 0 0 (qA b0) := by
  refine q_start (by decide) (Nat.le_of_ble_eq_true rfl) ?_
  intro p e s m args below meth c hx hb hr hlocks hnm hml hown hT hR hK hz ls hl
  have hown : s.vm.findClass RX10 = some m.cls := hown
  have hl : lv_has ls 5 [(0, .ref a0), (1, .int a1)] := hl
  have hS : va_S (qA b0) s.heap s.heap [] := va_S.rf
  obtain ⟨Q, hQ⟩ : ∃ Q, Q = MQ below (va_Qi (fun (r' : Int32) (u : qH) => r' = r ∧ u = X) (fun u t => qO D kz b0 sz u t) (qA b0)) args s 0 0 (qA b0) := ⟨_, rfl⟩
  rw [← hQ]
  unfold fX10_seers at hf
  obtain ⟨hthis, hf⟩ := qIs_spec hf
  refine lv_aload_n hx hb dX10_seers_0 rfl (lv_at hl 0 rfl) ?_
  refine lv_iload_n hx hb dX10_seers_1 rfl (lv_at hl 1 rfl) ?_
  obtain ⟨v1, hc, hf⟩ := q_b hf
  refine q_calli (va_runV (As := [.int a1]) (rest := []) ⟨hx, hb, hml, hown, hT⟩ (mX10_overOf l D kz b0 sz F X a0 a1 v1 hc) (cwV 1 hT (q_gV wco_X10_overOf wml_X10_214 wim_X10_overOf wse_X10_overOf win_X10) rfl rfl rfl hdX10_overOf ⟨Nat.le_of_ble_eq_true rfl, Nat.le_of_ble_eq_true rfl⟩) (q_preV vqX10 (fX10_overOf_is hc) hR hK hz) rfl rfl hl.1 rfl (lv_room (Nat.le_of_ble_eq_true rfl)) dX10_seers_2 ⟨Nat.le_of_ble_eq_true rfl, Nat.le_of_ble_eq_true rfl⟩) hS (fun H locs hR hS hz => ?_)
  refine lv_istore_n (lv' := [(2, .int v1), (0, .ref a0), (1, .int a1)]) hx hb dX10_seers_5 rfl hl (by decide) rfl (fun ls hl => ?_)
  refine lv_iconst (v := (0 : Int32)) hx hb dX10_seers_6 (by decide) ?_
  refine lv_istore_n (lv' := [(3, .int (0 : Int32)), (2, .int v1), (0, .ref a0), (1, .int a1)]) hx hb dX10_seers_7 rfl hl (by decide) rfl (fun ls hl => ?_)
  refine lv_iconst (v := (0 : Int32)) hx hb dX10_seers_8 (by decide) ?_
  refine lv_istore (lv' := [(4, .int (0 : Int32)), (3, .int (0 : Int32)), (2, .int v1), (0, .ref a0), (1, .int a1)]) hx hb dX10_seers_9 hl (by decide) rfl (fun ls hl => ?_)
  obtain ⟨v12, ho, hf⟩ := q_b hf
  have hL : ∀ (n : Nat) (v2 : Int32) (v3 : Int32) (out : Int32), fX10_seers_L11 F X a0 a1 v1 n v2 v3 = some out → (∀ (v12 : Int32), out = v12 → ∀ (H : Heap) (locs : List Loc) (ls : Array Slot), qR D kz b0 X H → va_S (qA b0) s.heap H locs → H.size = sz → lv_has ls 5 [(0, .ref a0), (1, .int a1), (2, .int v1), (3, .int v12)] → W p l e rmX10_seers s m args below meth c H locs 0 0 Q (F0 m 62 ls [])) → ∀ (H : Heap) (locs : List Loc) (ls : Array Slot), qR D kz b0 X H → va_S (qA b0) s.heap H locs → H.size = sz → lv_has ls 5 [(0, .ref a0), (1, .int a1), (2, .int v1), (3, .int v2), (4, .int v3)] → W p l e rmX10_seers s m args below meth c H locs 0 0 Q (F0 m 11 ls []) := by
    intro n9
    induction n9 with
    | zero =>
      intro v2 v3 out hf
      exact absurd (show none = some out from hf) (by simp)
    | succ n9 ih0 =>
      intro v2 v3 out hf hex H locs ls hR hS hz hl
      have hf : fX10_seers_L11_B F X a0 a1 v1 (fX10_seers_L11 F X a0 a1 v1 n9) v2 v3 = some out := hf
      unfold fX10_seers_L11_B at hf
      refine lv_iload hx hb dX10_seers_11 (lv_at hl 4 rfl) ?_
      refine lv_aload_n hx hb dX10_seers_13 rfl (lv_at hl 0 rfl) ?_
      refine q_gI hx hb hT hown hK hR iqX10 vqX10 1 (by decide) (hT _ wfl_X10_102) hf dX10_seers_14 (fun v4 hf => ?_)
      refine lv_icmp_ge (tgt := 62) hx hb dX10_seers_17 (by decide) (fun hc => ?_) (fun hc => ?_)
      · have hf := q_t hf hc
        exact hex _ (Option.some.inj hf).symm _ _ _ hR hS hz (lv_sub hl [0, 1, 2, 3] rfl)
      · have hf := q_f hf hc
        refine lv_iload_n hx hb dX10_seers_20 rfl (lv_at hl 3 rfl) ?_
        refine lv_iload hx hb dX10_seers_21 (lv_at hl 4 rfl) ?_
        refine lv_iload_n hx hb dX10_seers_23 rfl (lv_at hl 1 rfl) ?_
        obtain ⟨v5, hp, hf⟩ := q_b hf
        have hJ : ∀ (H : Heap) (locs : List Loc) (ls : Array Slot), qR D kz b0 X H → va_S (qA b0) s.heap H locs → H.size = sz → lv_has ls 5 [(0, .ref a0), (1, .int a1), (2, .int v1), (4, .int v3)] → W p l e rmX10_seers s m args below meth c H locs 0 0 Q (F0 m 54 ls [.int v5, .int v2]) := by
          intro H locs ls hR hS hz hl
          refine lv_ior hx hb dX10_seers_54 ?_
          refine lv_topi (fun v6 ev6 => ?_)
          have hf := q_lt ev6 hf
          refine lv_istore_n (lv' := [(3, .int v6), (0, .ref a0), (1, .int a1), (2, .int v1), (4, .int v3)]) hx hb dX10_seers_55 rfl hl (by decide) rfl (fun ls hl => ?_)
          obtain ⟨v7, ev7⟩ : ∃ y : Int32, y = (v3 + (1 : Int32)) := ⟨_, rfl⟩
          have hf := q_lt ev7 hf
          refine lv_iinc (v := v7) (lv' := [(4, .int v7), (3, .int v6), (0, .ref a0), (1, .int a1), (2, .int v1)]) hx hb dX10_seers_56 hl (k := 4) rfl (by rw [ev7]; rfl) (by decide) rfl (fun ls hl => ?_)
          refine lv_goto (tgt := 11) hx hb dX10_seers_59 (by decide) ?_
          exact ih0 _ _ out hf hex _ _ _ hR hS hz (lv_sub hl [2, 3, 4, 1, 0] rfl)
        have hf := hp
        refine lv_icmp_eq (tgt := 53) hx hb dX10_seers_24 (by decide) (fun hc => ?_) (fun hc => ?_)
        · have hf := q_t hf hc
          refine lv_iconst (v := (0 : Int32)) hx hb dX10_seers_53 (by decide) ?_
          cases hf
          exact hJ _ _ _ hR hS hz (lv_sub hl [0, 1, 2, 4] rfl)
        · have hf := q_f hf hc
          refine lv_iload_n hx hb dX10_seers_27 rfl (lv_at hl 2 rfl) ?_
          refine lv_aload_n hx hb dX10_seers_28 rfl (lv_at hl 0 rfl) ?_
          refine q_gR hx hb hT hown hK hR iqX10 vqX10 2 (by decide) (hT _ wfl_X10_7) hf dX10_seers_29 (fun v8 hf => ?_)
          refine lv_iload hx hb dX10_seers_32 (lv_at hl 4 rfl) ?_
          refine q_iald hx hb hK hR hf dX10_seers_34 (fun v9 hf => ?_)
          obtain ⟨v10, hc, hf⟩ := q_b hf
          refine q_calli (va_runS (As := [.int v1, .int v9]) (rest := [.int v2]) ⟨hx, hb, hml, hown, hT⟩ (mX10_apart l D kz b0 sz F X v1 v9 v10 hc) (va_cwS 2 hT (q_gS wco_X10_apart wml_X10_217 wst_X10_apart win_X10) rfl rfl rfl hdX10_apart ⟨Nat.le_of_ble_eq_true rfl, Nat.le_of_ble_eq_true rfl⟩) (q_preS hR hK hz) rfl rfl hl.1 rfl (lv_room (Nat.le_of_ble_eq_true rfl)) dX10_seers_35 ⟨Nat.le_of_ble_eq_true rfl, Nat.le_of_ble_eq_true rfl⟩) hS (fun H locs hR hS hz => ?_)
          refine lv_aload_n hx hb dX10_seers_38 rfl (lv_at hl 0 rfl) ?_
          refine lv_iload_n hx hb dX10_seers_39 rfl (lv_at hl 1 rfl) ?_
          obtain ⟨v11, hc, hf⟩ := q_b hf
          refine q_calli (va_runV (As := [.int a1]) (rest := [.int v10, .int v2]) ⟨hx, hb, hml, hown, hT⟩ (mX10_reach l D kz b0 sz F X a0 a1 v11 hc) (cwV 1 hT (q_gV wco_X10_reach wml_X10_220 wim_X10_reach wse_X10_reach win_X10) rfl rfl rfl hdX10_reach ⟨Nat.le_of_ble_eq_true rfl, Nat.le_of_ble_eq_true rfl⟩) (q_preV vqX10 (fX10_reach_is hc) hR hK hz) rfl rfl hl.1 rfl (lv_room (Nat.le_of_ble_eq_true rfl)) dX10_seers_40 ⟨Nat.le_of_ble_eq_true rfl, Nat.le_of_ble_eq_true rfl⟩) hS (fun H locs hR hS hz => ?_)
          refine lv_icmp_gt (tgt := 53) hx hb dX10_seers_43 (by decide) (fun hc => ?_) (fun hc => ?_)
          · have hf := q_t hf hc
            refine lv_iconst (v := (0 : Int32)) hx hb dX10_seers_53 (by decide) ?_
            cases hf
            exact hJ _ _ _ hR hS hz (lv_sub hl [0, 1, 2, 4] rfl)
          · have hf := q_f hf hc
            refine lv_iconst (v := (1 : Int32)) hx hb dX10_seers_46 (by decide) ?_
            refine lv_iload hx hb dX10_seers_47 (lv_at hl 4 rfl) ?_
            refine lv_ishl hx hb dX10_seers_49 ?_
            refine lv_goto (tgt := 54) hx hb dX10_seers_50 (by decide) ?_
            cases hf
            exact hJ _ _ _ hR hS hz (lv_sub hl [0, 1, 2, 4] rfl)
  refine hL F _ _ _ ho (fun z0 h9 => ?_) _ _ _ hR hS hz (lv_sub hl [3, 4, 2, 1, 0] rfl)
  cases h9
  intro H locs ls hR hS hz hl
  refine lv_aload_n hx hb dX10_seers_62 rfl (lv_at hl 0 rfl) ?_
  refine lv_iload_n hx hb dX10_seers_63 rfl (lv_at hl 1 rfl) ?_
  refine lv_iload_n hx hb dX10_seers_64 rfl (lv_at hl 2 rfl) ?_
  obtain ⟨v13, hc, hf⟩ := q_b hf
  refine q_calli (va_runV (As := [.int a1, .int v1]) (rest := []) ⟨hx, hb, hml, hown, hT⟩ (mX10_isHidden l D kz b0 sz F X a0 a1 v1 v13 hc) (cwV 2 hT (q_gV wco_X10_isHidden wml_X10_223 wim_X10_isHidden wse_X10_isHidden win_X10) rfl rfl rfl hdX10_isHidden ⟨Nat.le_of_ble_eq_true rfl, Nat.le_of_ble_eq_true rfl⟩) (q_preV vqX10 (fX10_isHidden_is hc) hR hK hz) rfl rfl hl.1 rfl (lv_room (Nat.le_of_ble_eq_true rfl)) dX10_seers_65 ⟨Nat.le_of_ble_eq_true rfl, Nat.le_of_ble_eq_true rfl⟩) hS (fun H locs hR hS hz => ?_)
  obtain ⟨v14, hp, hf⟩ := q_b hf
  have hJ : ∀ (H : Heap) (locs : List Loc) (ls : Array Slot), qR D kz b0 X H → va_S (qA b0) s.heap H locs → H.size = sz → lv_has ls 5 [] → W p l e rmX10_seers s m args below meth c H locs 0 0 Q (F0 m 76 ls [.int v14]) := by
    intro H locs ls hR hS hz hl
    subst hQ
    exact q_iret hx hb hr hlocks hR hS hz (Option.some.inj hf) rfl dX10_seers_76
  have hf := hp
  refine lv_if_eq (tgt := 75) hx hb dX10_seers_68 (by decide) (fun hc => ?_) (fun hc => ?_)
  · have hf := q_t hf hc
    refine lv_iload_n hx hb dX10_seers_75 rfl (lv_at hl 3 rfl) ?_
    cases hf
    exact hJ _ _ _ hR hS hz (lv_sub hl [] rfl)
  · have hf := q_f hf hc
    refine lv_iconst (v := (0 : Int32)) hx hb dX10_seers_71 (by decide) ?_
    refine lv_goto (tgt := 76) hx hb dX10_seers_72 (by decide) ?_
    cases hf
    exact hJ _ _ _ hR hS hz (lv_sub hl [] rfl)
/-! X10_areTwo -/
def fX10_areTwo (F : Nat) (X : qH) (a0 : Nat) (a1 : Int32) (a2 : Int32) : Option (Int32) :=
qIs 9 X a0 <|
(fX10_isHouse F X a0 a1).bind fun v1 =>
(if v1 = (0 : Int32) then (some (0 : Int32))
else ((fX10_isHouse F X a0 a2).bind fun v3 =>
if v3 = (0 : Int32) then (some (0 : Int32))
else (if a1 = a2 then (some (0 : Int32))
else (some (1 : Int32)))) : Option Int32).bind fun v2 =>
(qz v2).bind fun z =>
some z
abbrev rmX10_areTwo : Room := { frames := 2, cells := 0, slots := 0, locals := 46 }
theorem fX10_areTwo_is {F : Nat} {X : qH} {a0 : Nat} {a1 : Int32} {a2 : Int32} {r9 : Int32} (h : fX10_areTwo F X a0 a1 a2 = some r9) : ∃ fs, X a0 = some (.inr (9, fs)) := (qIs_spec h).1
theorem hdX10_areTwo : yX10_areTwo.cls = RX10 ∧ yX10_areTwo.cls ≠ "java/lang/invoke/MethodHandle" ∧ yX10_areTwo.cls ≠ "java/lang/invoke/VarHandle" ∧ (parseMethodDescriptor yX10_areTwo.desc).map (fun d => d.parameters.length) = some 2 := by decide +kernel
set_option maxHeartbeats 4000000 in
set_option maxRecDepth 100000 in
theorem mX10_areTwo (l : Launch) (D : va_G) (kz : Nat → Nat) (b0 sz F : Nat) (X : qH) (a0 : Nat) (a1 : Int32) (a2 : Int32) (r : Int32) (hf : fX10_areTwo F X a0 a1 a2 = some r) : Met l yX10_areTwo (qws yX10_areTwo cX10_areTwo 3 (some .boolean)) rmX10_areTwo (va_Pc [.ref a0, .int a1, .int a2] (qU D kz b0 sz X)) (va_Qi (fun (r' : Int32) (u : qH) => r' = r ∧ u = X) (fun u t => qO D kz b0 sz u t) (qA b0)) 0 0 (qA b0) := by
  refine q_start (by decide) (Nat.le_of_ble_eq_true rfl) ?_
  intro p e s m args below meth c hx hb hr hlocks hnm hml hown hT hR hK hz ls hl
  have hown : s.vm.findClass RX10 = some m.cls := hown
  have hl : lv_has ls 3 [(0, .ref a0), (1, .int a1), (2, .int a2)] := hl
  have hS : va_S (qA b0) s.heap s.heap [] := va_S.rf
  obtain ⟨Q, hQ⟩ : ∃ Q, Q = MQ below (va_Qi (fun (r' : Int32) (u : qH) => r' = r ∧ u = X) (fun u t => qO D kz b0 sz u t) (qA b0)) args s 0 0 (qA b0) := ⟨_, rfl⟩
  rw [← hQ]
  unfold fX10_areTwo at hf
  obtain ⟨hthis, hf⟩ := qIs_spec hf
  refine lv_aload_n hx hb dX10_areTwo_0 rfl (lv_at hl 0 rfl) ?_
  refine lv_iload_n hx hb dX10_areTwo_1 rfl (lv_at hl 1 rfl) ?_
  obtain ⟨v1, hc, hf⟩ := q_b hf
  refine q_calli (va_runV (As := [.int a1]) (rest := []) ⟨hx, hb, hml, hown, hT⟩ (mX10_isHouse l D kz b0 sz F X a0 a1 v1 hc) (cwV 1 hT (q_gV wco_X10_isHouse wml_X10_204 wim_X10_isHouse wse_X10_isHouse win_X10) rfl rfl rfl hdX10_isHouse ⟨Nat.le_of_ble_eq_true rfl, Nat.le_of_ble_eq_true rfl⟩) (q_preV vqX10 (fX10_isHouse_is hc) hR hK hz) rfl rfl hl.1 rfl (lv_room (Nat.le_of_ble_eq_true rfl)) dX10_areTwo_2 ⟨Nat.le_of_ble_eq_true rfl, Nat.le_of_ble_eq_true rfl⟩) hS (fun H locs hR hS hz => ?_)
  obtain ⟨v2, hp, hf⟩ := q_b hf
  have hJ : ∀ (H : Heap) (locs : List Loc) (ls : Array Slot), qR D kz b0 X H → va_S (qA b0) s.heap H locs → H.size = sz → lv_has ls 3 [] → W p l e rmX10_areTwo s m args below meth c H locs 0 0 Q (F0 m 26 ls [.int v2]) := by
    intro H locs ls hR hS hz hl
    subst hQ
    obtain ⟨z9, hz9, hf⟩ := q_b hf
    obtain ⟨rfl, h01⟩ := qz_spec hz9
    exact q_zret hx hb hr hlocks hR hS hz (Option.some.inj hf) h01 rfl dX10_areTwo_26
  have hf := hp
  refine lv_if_eq (tgt := 25) hx hb dX10_areTwo_5 (by decide) (fun hc => ?_) (fun hc => ?_)
  · have hf := q_t hf hc
    refine lv_iconst (v := (0 : Int32)) hx hb dX10_areTwo_25 (by decide) ?_
    cases hf
    exact hJ _ _ _ hR hS hz (lv_sub hl [] rfl)
  · have hf := q_f hf hc
    refine lv_aload_n hx hb dX10_areTwo_8 rfl (lv_at hl 0 rfl) ?_
    refine lv_iload_n hx hb dX10_areTwo_9 rfl (lv_at hl 2 rfl) ?_
    obtain ⟨v3, hc, hf⟩ := q_b hf
    refine q_calli (va_runV (As := [.int a2]) (rest := []) ⟨hx, hb, hml, hown, hT⟩ (mX10_isHouse l D kz b0 sz F X a0 a2 v3 hc) (cwV 1 hT (q_gV wco_X10_isHouse wml_X10_204 wim_X10_isHouse wse_X10_isHouse win_X10) rfl rfl rfl hdX10_isHouse ⟨Nat.le_of_ble_eq_true rfl, Nat.le_of_ble_eq_true rfl⟩) (q_preV vqX10 (fX10_isHouse_is hc) hR hK hz) rfl rfl hl.1 rfl (lv_room (Nat.le_of_ble_eq_true rfl)) dX10_areTwo_10 ⟨Nat.le_of_ble_eq_true rfl, Nat.le_of_ble_eq_true rfl⟩) hS (fun H locs hR hS hz => ?_)
    refine lv_if_eq (tgt := 25) hx hb dX10_areTwo_13 (by decide) (fun hc => ?_) (fun hc => ?_)
    · have hf := q_t hf hc
      refine lv_iconst (v := (0 : Int32)) hx hb dX10_areTwo_25 (by decide) ?_
      cases hf
      exact hJ _ _ _ hR hS hz (lv_sub hl [] rfl)
    · have hf := q_f hf hc
      refine lv_iload_n hx hb dX10_areTwo_16 rfl (lv_at hl 1 rfl) ?_
      refine lv_iload_n hx hb dX10_areTwo_17 rfl (lv_at hl 2 rfl) ?_
      refine lv_icmp_eq (tgt := 25) hx hb dX10_areTwo_18 (by decide) (fun hc => ?_) (fun hc => ?_)
      · have hf := q_t hf hc
        refine lv_iconst (v := (0 : Int32)) hx hb dX10_areTwo_25 (by decide) ?_
        cases hf
        exact hJ _ _ _ hR hS hz (lv_sub hl [] rfl)
      · have hf := q_f hf hc
        refine lv_iconst (v := (1 : Int32)) hx hb dX10_areTwo_21 (by decide) ?_
        refine lv_goto (tgt := 26) hx hb dX10_areTwo_22 (by decide) ?_
        cases hf
        exact hJ _ _ _ hR hS hz (lv_sub hl [] rfl)
/-! X10_sees -/
def fX10_sees (F : Nat) (X : qH) (a0 : Nat) (a1 : Int32) (a2 : Int32) : Option (Int32) :=
qIs 9 X a0 <|
(fX10_areTwo F X a0 a1 a2).bind fun v1 =>
(if v1 = (0 : Int32) then (some (-1000000001 : Int32))
else ((fX10_seers F X a0 a2).bind fun v3 =>
some ((v3 >>> (a1 &&& 31)) &&& (1 : Int32))) : Option Int32).bind fun v2 =>
some v2
abbrev rmX10_sees : Room := { frames := 3, cells := 0, slots := 0, locals := 68 }
theorem fX10_sees_is {F : Nat} {X : qH} {a0 : Nat} {a1 : Int32} {a2 : Int32} {r9 : Int32} (h : fX10_sees F X a0 a1 a2 = some r9) : ∃ fs, X a0 = some (.inr (9, fs)) := (qIs_spec h).1
theorem hdX10_sees : yX10_sees.cls = RX10 ∧ yX10_sees.cls ≠ "java/lang/invoke/MethodHandle" ∧ yX10_sees.cls ≠ "java/lang/invoke/VarHandle" ∧ (parseMethodDescriptor yX10_sees.desc).map (fun d => d.parameters.length) = some 2 := by decide +kernel
set_option maxHeartbeats 4000000 in
set_option maxRecDepth 100000 in
theorem mX10_sees (l : Launch) (D : va_G) (kz : Nat → Nat) (b0 sz F : Nat) (X : qH) (a0 : Nat) (a1 : Int32) (a2 : Int32) (r : Int32) (hf : fX10_sees F X a0 a1 a2 = some r) : Met l yX10_sees (qws yX10_sees cX10_sees 3 (some .int)) rmX10_sees (va_Pc [.ref a0, .int a1, .int a2] (qU D kz b0 sz X)) (va_Qi (fun (r' : Int32) (u : qH) => r' = r ∧ u = X) (fun u t => qO D kz b0 sz u t) (qA b0)) 0 0 (qA b0) := by
  refine q_start (by decide) (Nat.le_of_ble_eq_true rfl) ?_
  intro p e s m args below meth c hx hb hr hlocks hnm hml hown hT hR hK hz ls hl
  have hown : s.vm.findClass RX10 = some m.cls := hown
  have hl : lv_has ls 3 [(0, .ref a0), (1, .int a1), (2, .int a2)] := hl
  have hS : va_S (qA b0) s.heap s.heap [] := va_S.rf
  obtain ⟨Q, hQ⟩ : ∃ Q, Q = MQ below (va_Qi (fun (r' : Int32) (u : qH) => r' = r ∧ u = X) (fun u t => qO D kz b0 sz u t) (qA b0)) args s 0 0 (qA b0) := ⟨_, rfl⟩
  rw [← hQ]
  unfold fX10_sees at hf
  obtain ⟨hthis, hf⟩ := qIs_spec hf
  refine lv_aload_n hx hb dX10_sees_0 rfl (lv_at hl 0 rfl) ?_
  refine lv_iload_n hx hb dX10_sees_1 rfl (lv_at hl 1 rfl) ?_
  refine lv_iload_n hx hb dX10_sees_2 rfl (lv_at hl 2 rfl) ?_
  obtain ⟨v1, hc, hf⟩ := q_b hf
  refine q_calli (va_runV (As := [.int a1, .int a2]) (rest := []) ⟨hx, hb, hml, hown, hT⟩ (mX10_areTwo l D kz b0 sz F X a0 a1 a2 v1 hc) (cwV 2 hT (q_gV wco_X10_areTwo wml_X10_226 wim_X10_areTwo wse_X10_areTwo win_X10) rfl rfl rfl hdX10_areTwo ⟨Nat.le_of_ble_eq_true rfl, Nat.le_of_ble_eq_true rfl⟩) (q_preV vqX10 (fX10_areTwo_is hc) hR hK hz) rfl rfl hl.1 rfl (lv_room (Nat.le_of_ble_eq_true rfl)) dX10_sees_3 ⟨Nat.le_of_ble_eq_true rfl, Nat.le_of_ble_eq_true rfl⟩) hS (fun H locs hR hS hz => ?_)
  obtain ⟨v2, hp, hf⟩ := q_b hf
  have hJ : ∀ (H : Heap) (locs : List Loc) (ls : Array Slot), qR D kz b0 X H → va_S (qA b0) s.heap H locs → H.size = sz → lv_has ls 3 [] → W p l e rmX10_sees s m args below meth c H locs 0 0 Q (F0 m 23 ls [.int v2]) := by
    intro H locs ls hR hS hz hl
    subst hQ
    exact q_iret hx hb hr hlocks hR hS hz (Option.some.inj hf) rfl dX10_sees_23
  have hf := hp
  refine lv_if_eq (tgt := 21) hx hb dX10_sees_6 (by decide) (fun hc => ?_) (fun hc => ?_)
  · have hf := q_t hf hc
    refine lv_ldc (v := (-1000000001 : Int32)) hx hb hown (hT _ wk_X10_207) dX10_sees_21 ?_
    cases hf
    exact hJ _ _ _ hR hS hz (lv_sub hl [] rfl)
  · have hf := q_f hf hc
    refine lv_aload_n hx hb dX10_sees_9 rfl (lv_at hl 0 rfl) ?_
    refine lv_iload_n hx hb dX10_sees_10 rfl (lv_at hl 2 rfl) ?_
    obtain ⟨v3, hc, hf⟩ := q_b hf
    refine q_calli (va_runV (As := [.int a2]) (rest := []) ⟨hx, hb, hml, hown, hT⟩ (mX10_seers l D kz b0 sz F X a0 a2 v3 hc) (cwV 1 hT (q_gV wco_X10_seers wml_X10_229 wim_X10_seers wse_X10_seers win_X10) rfl rfl rfl hdX10_seers ⟨Nat.le_of_ble_eq_true rfl, Nat.le_of_ble_eq_true rfl⟩) (q_preV vqX10 (fX10_seers_is hc) hR hK hz) rfl rfl hl.1 rfl (lv_room (Nat.le_of_ble_eq_true rfl)) dX10_sees_11 ⟨Nat.le_of_ble_eq_true rfl, Nat.le_of_ble_eq_true rfl⟩) hS (fun H locs hR hS hz => ?_)
    refine lv_iload_n hx hb dX10_sees_14 rfl (lv_at hl 1 rfl) ?_
    refine lv_ishr hx hb dX10_sees_15 ?_
    refine lv_iconst (v := (1 : Int32)) hx hb dX10_sees_16 (by decide) ?_
    refine lv_iand hx hb dX10_sees_17 ?_
    refine lv_goto (tgt := 23) hx hb dX10_sees_18 (by decide) ?_
    cases hf
    exact hJ _ _ _ hR hS hz (lv_sub hl [] rfl)
/-! X10_contract -/
def fX10_contract (F : Nat) (X : qH) (a0 : Nat) (a1 : Int32) (a2 : Int32) : Option (Int32) :=
qIs 9 X a0 <|
(fX10_areTwo F X a0 a1 a2).bind fun v1 =>
if v1 = (0 : Int32) then (some (-1000000001 : Int32))
else ((qgR X 9 a0 8).bind fun v2 =>
(qaI X 0 v2 ((35 : Int32) + a1)).bind fun v3 =>
(fX10_has F X v3 a2).bind fun v4 =>
(if v4 = (0 : Int32) then (some (0 : Int32))
else ((fX10_isGreen F X a0 a1).bind fun v6 =>
if v6 = (0 : Int32) then ((fX10_isGreen F X a0 a2).bind fun v7 =>
if v7 = (0 : Int32) then (some (1 : Int32))
else (some (2 : Int32)))
else (some (2 : Int32))) : Option Int32).bind fun v5 =>
some v5)
abbrev rmX10_contract : Room := { frames := 3, cells := 0, slots := 0, locals := 68 }
theorem fX10_contract_is {F : Nat} {X : qH} {a0 : Nat} {a1 : Int32} {a2 : Int32} {r9 : Int32} (h : fX10_contract F X a0 a1 a2 = some r9) : ∃ fs, X a0 = some (.inr (9, fs)) := (qIs_spec h).1
theorem hdX10_contract : yX10_contract.cls = RX10 ∧ yX10_contract.cls ≠ "java/lang/invoke/MethodHandle" ∧ yX10_contract.cls ≠ "java/lang/invoke/VarHandle" ∧ (parseMethodDescriptor yX10_contract.desc).map (fun d => d.parameters.length) = some 2 := by decide +kernel
set_option maxHeartbeats 4000000 in
set_option maxRecDepth 100000 in
theorem mX10_contract (l : Launch) (D : va_G) (kz : Nat → Nat) (b0 sz F : Nat) (X : qH) (a0 : Nat) (a1 : Int32) (a2 : Int32) (r : Int32) (hf : fX10_contract F X a0 a1 a2 = some r) : Met l yX10_contract (qws yX10_contract cX10_contract 3 (some .int)) rmX10_contract (va_Pc [.ref a0, .int a1, .int a2] (qU D kz b0 sz X)) (va_Qi (fun (r' : Int32) (u : qH) => r' = r ∧ u = X) (fun u t => qO D kz b0 sz u t) (qA b0)) 0 0 (qA b0) := by
  refine q_start (by decide) (Nat.le_of_ble_eq_true rfl) ?_
  intro p e s m args below meth c hx hb hr hlocks hnm hml hown hT hR hK hz ls hl
  have hown : s.vm.findClass RX10 = some m.cls := hown
  have hl : lv_has ls 3 [(0, .ref a0), (1, .int a1), (2, .int a2)] := hl
  have hS : va_S (qA b0) s.heap s.heap [] := va_S.rf
  obtain ⟨Q, hQ⟩ : ∃ Q, Q = MQ below (va_Qi (fun (r' : Int32) (u : qH) => r' = r ∧ u = X) (fun u t => qO D kz b0 sz u t) (qA b0)) args s 0 0 (qA b0) := ⟨_, rfl⟩
  rw [← hQ]
  unfold fX10_contract at hf
  obtain ⟨hthis, hf⟩ := qIs_spec hf
  refine lv_aload_n hx hb dX10_contract_0 rfl (lv_at hl 0 rfl) ?_
  refine lv_iload_n hx hb dX10_contract_1 rfl (lv_at hl 1 rfl) ?_
  refine lv_iload_n hx hb dX10_contract_2 rfl (lv_at hl 2 rfl) ?_
  obtain ⟨v1, hc, hf⟩ := q_b hf
  refine q_calli (va_runV (As := [.int a1, .int a2]) (rest := []) ⟨hx, hb, hml, hown, hT⟩ (mX10_areTwo l D kz b0 sz F X a0 a1 a2 v1 hc) (cwV 2 hT (q_gV wco_X10_areTwo wml_X10_226 wim_X10_areTwo wse_X10_areTwo win_X10) rfl rfl rfl hdX10_areTwo ⟨Nat.le_of_ble_eq_true rfl, Nat.le_of_ble_eq_true rfl⟩) (q_preV vqX10 (fX10_areTwo_is hc) hR hK hz) rfl rfl hl.1 rfl (lv_room (Nat.le_of_ble_eq_true rfl)) dX10_contract_3 ⟨Nat.le_of_ble_eq_true rfl, Nat.le_of_ble_eq_true rfl⟩) hS (fun H locs hR hS hz => ?_)
  refine lv_if_ne (tgt := 12) hx hb dX10_contract_6 (by decide) (fun hc => ?_) (fun hc => ?_)
  · have hf := q_f hf hc
    refine lv_aload_n hx hb dX10_contract_12 rfl (lv_at hl 0 rfl) ?_
    refine q_gR hx hb hT hown hK hR iqX10 vqX10 8 (by decide) (hT _ wfl_X10_29) hf dX10_contract_13 (fun v2 hf => ?_)
    refine lv_bipush (v := (35 : Int32)) hx hb dX10_contract_16 (by decide) ?_
    refine lv_iload_n hx hb dX10_contract_18 rfl (lv_at hl 1 rfl) ?_
    refine lv_iadd hx hb dX10_contract_19 ?_
    refine q_iald hx hb hK hR hf dX10_contract_20 (fun v3 hf => ?_)
    refine lv_iload_n hx hb dX10_contract_21 rfl (lv_at hl 2 rfl) ?_
    obtain ⟨v4, hc, hf⟩ := q_b hf
    refine q_calli (va_runS (As := [.int v3, .int a2]) (rest := []) ⟨hx, hb, hml, hown, hT⟩ (mX10_has l D kz b0 sz F X v3 a2 v4 hc) (va_cwS 2 hT (q_gS wco_X10_has wml_X10_194 wst_X10_has win_X10) rfl rfl rfl hdX10_has ⟨Nat.le_of_ble_eq_true rfl, Nat.le_of_ble_eq_true rfl⟩) (q_preS hR hK hz) rfl rfl hl.1 rfl (lv_room (Nat.le_of_ble_eq_true rfl)) dX10_contract_22 ⟨Nat.le_of_ble_eq_true rfl, Nat.le_of_ble_eq_true rfl⟩) hS (fun H locs hR hS hz => ?_)
    obtain ⟨v5, hp, hf⟩ := q_b hf
    have hJ : ∀ (H : Heap) (locs : List Loc) (ls : Array Slot), qR D kz b0 X H → va_S (qA b0) s.heap H locs → H.size = sz → lv_has ls 3 [] → W p l e rmX10_contract s m args below meth c H locs 0 0 Q (F0 m 53 ls [.int v5]) := by
      intro H locs ls hR hS hz hl
      subst hQ
      exact q_iret hx hb hr hlocks hR hS hz (Option.some.inj hf) rfl dX10_contract_53
    have hf := hp
    refine lv_if_ne (tgt := 32) hx hb dX10_contract_25 (by decide) (fun hc => ?_) (fun hc => ?_)
    · have hf := q_f hf hc
      refine lv_aload_n hx hb dX10_contract_32 rfl (lv_at hl 0 rfl) ?_
      refine lv_iload_n hx hb dX10_contract_33 rfl (lv_at hl 1 rfl) ?_
      obtain ⟨v6, hc, hf⟩ := q_b hf
      refine q_calli (va_runV (As := [.int a1]) (rest := []) ⟨hx, hb, hml, hown, hT⟩ (mX10_isGreen l D kz b0 sz F X a0 a1 v6 hc) (cwV 1 hT (q_gV wco_X10_isGreen wml_X10_197 wim_X10_isGreen wse_X10_isGreen win_X10) rfl rfl rfl hdX10_isGreen ⟨Nat.le_of_ble_eq_true rfl, Nat.le_of_ble_eq_true rfl⟩) (q_preV vqX10 (fX10_isGreen_is hc) hR hK hz) rfl rfl hl.1 rfl (lv_room (Nat.le_of_ble_eq_true rfl)) dX10_contract_34 ⟨Nat.le_of_ble_eq_true rfl, Nat.le_of_ble_eq_true rfl⟩) hS (fun H locs hR hS hz => ?_)
      refine lv_if_ne (tgt := 48) hx hb dX10_contract_37 (by decide) (fun hc => ?_) (fun hc => ?_)
      · have hf := q_f hf hc
        refine lv_iconst (v := (2 : Int32)) hx hb dX10_contract_48 (by decide) ?_
        refine lv_goto (tgt := 53) hx hb dX10_contract_49 (by decide) ?_
        cases hf
        exact hJ _ _ _ hR hS hz (lv_sub hl [] rfl)
      · have hf := q_t hf hc
        refine lv_aload_n hx hb dX10_contract_40 rfl (lv_at hl 0 rfl) ?_
        refine lv_iload_n hx hb dX10_contract_41 rfl (lv_at hl 2 rfl) ?_
        obtain ⟨v7, hc, hf⟩ := q_b hf
        refine q_calli (va_runV (As := [.int a2]) (rest := []) ⟨hx, hb, hml, hown, hT⟩ (mX10_isGreen l D kz b0 sz F X a0 a2 v7 hc) (cwV 1 hT (q_gV wco_X10_isGreen wml_X10_197 wim_X10_isGreen wse_X10_isGreen win_X10) rfl rfl rfl hdX10_isGreen ⟨Nat.le_of_ble_eq_true rfl, Nat.le_of_ble_eq_true rfl⟩) (q_preV vqX10 (fX10_isGreen_is hc) hR hK hz) rfl rfl hl.1 rfl (lv_room (Nat.le_of_ble_eq_true rfl)) dX10_contract_42 ⟨Nat.le_of_ble_eq_true rfl, Nat.le_of_ble_eq_true rfl⟩) hS (fun H locs hR hS hz => ?_)
        refine lv_if_eq (tgt := 52) hx hb dX10_contract_45 (by decide) (fun hc => ?_) (fun hc => ?_)
        · have hf := q_t hf hc
          refine lv_iconst (v := (1 : Int32)) hx hb dX10_contract_52 (by decide) ?_
          cases hf
          exact hJ _ _ _ hR hS hz (lv_sub hl [] rfl)
        · have hf := q_f hf hc
          refine lv_iconst (v := (2 : Int32)) hx hb dX10_contract_48 (by decide) ?_
          refine lv_goto (tgt := 53) hx hb dX10_contract_49 (by decide) ?_
          cases hf
          exact hJ _ _ _ hR hS hz (lv_sub hl [] rfl)
    · have hf := q_t hf hc
      refine lv_iconst (v := (0 : Int32)) hx hb dX10_contract_28 (by decide) ?_
      refine lv_goto (tgt := 53) hx hb dX10_contract_29 (by decide) ?_
      cases hf
      exact hJ _ _ _ hR hS hz (lv_sub hl [] rfl)
  · have hf := q_t hf hc
    refine lv_ldc (v := (-1000000001 : Int32)) hx hb hown (hT _ wk_X10_207) dX10_contract_9 ?_
    subst hQ
    exact q_iret hx hb hr hlocks hR hS hz (Option.some.inj hf) rfl dX10_contract_11
/-! X10_remember -/
def fX10_remember_L52_B (F : Nat) (a0 : Nat) (self0 : Int32 → qH → Option (qH)) (v3 : Int32) (X4 : qH) : Option (qH) :=
if (43 : Int32) ≤ v3 then (some X4)
else ((qgR X4 9 a0 28).bind fun v5 =>
(qgI X4 9 a0 27).bind fun v6 =>
(qgR X4 9 a0 8).bind fun v7 =>
(qaI X4 0 v7 v3).bind fun v8 =>
(qaS X4 0 v5 (((43 : Int32) * v6) + v3) v8).bind fun X9 =>
qlt (v3 + (1 : Int32)) fun v10 =>
self0 v10 X9)
def fX10_remember_L52 (F : Nat) (a0 : Nat) : Nat → Int32 → qH → Option (qH)
  | 0, _, _ => none
  | n + 1, v3, X4 => fX10_remember_L52_B F a0 (fX10_remember_L52 F a0 n) v3 X4
def fX10_remember_L12_B (F : Nat) (a0 : Nat) (self0 : Int32 → qH → Option (qH)) (v15 : Int32) (X16 : qH) : Option (qH) :=
if (860 : Int32) ≤ v15 then (some X16)
else ((qgR X16 9 a0 28).bind fun v17 =>
(qgR X16 9 a0 28).bind fun v18 =>
(qaI X16 0 v18 v15).bind fun v19 =>
(qaS X16 0 v17 (v15 - (43 : Int32)) v19).bind fun X20 =>
qlt (v15 + (1 : Int32)) fun v21 =>
self0 v21 X20)
def fX10_remember_L12 (F : Nat) (a0 : Nat) : Nat → Int32 → qH → Option (qH)
  | 0, _, _ => none
  | n + 1, v15, X16 => fX10_remember_L12_B F a0 (fX10_remember_L12 F a0 n) v15 X16
def fX10_remember (F : Nat) (X : qH) (a0 : Nat) : Option (qH) :=
qIs 9 X a0 <|
(qgI X 9 a0 27).bind fun v1 =>
(if v1 = (20 : Int32) then ((fX10_remember_L12 F a0 F (43 : Int32) X).bind fun X22 =>
(qgI X22 9 a0 27).bind fun v23 =>
qlt (v23 - (1 : Int32)) fun v24 =>
(qpI X22 9 a0 27 v24).bind fun X25 =>
some X25)
else (some X) : Option qH).bind fun X2 =>
(fX10_remember_L52 F a0 F (0 : Int32) X2).bind fun X11 =>
(qgI X11 9 a0 27).bind fun v12 =>
qlt (v12 + (1 : Int32)) fun v13 =>
(qpI X11 9 a0 27 v13).bind fun X14 =>
some X14
abbrev rmX10_remember : Room := { frames := 0, cells := 0, slots := 0, locals := 0 }
theorem fX10_remember_is {F : Nat} {X : qH} {a0 : Nat} {r9 : qH} (h : fX10_remember F X a0 = some r9) : ∃ fs, X a0 = some (.inr (9, fs)) := (qIs_spec h).1
theorem hdX10_remember : yX10_remember.cls = RX10 ∧ yX10_remember.cls ≠ "java/lang/invoke/MethodHandle" ∧ yX10_remember.cls ≠ "java/lang/invoke/VarHandle" ∧ (parseMethodDescriptor yX10_remember.desc).map (fun d => d.parameters.length) = some 0 := by decide +kernel
set_option maxHeartbeats 4000000 in
set_option maxRecDepth 100000 in
theorem mX10_remember (l : Launch) (D : va_G) (kz : Nat → Nat) (b0 sz F : Nat) (X : qH) (a0 : Nat)  (Xr : qH) (hf : fX10_remember F X a0 = some Xr) : Met l yX10_remember (qws yX10_remember cX10_remember 2 none) rmX10_remember (va_Pc [.ref a0] (qU D kz b0 sz X)) (va_Qv (fun (u : qH) => u = Xr) (fun u t => qO D kz b0 sz u t) (qA b0)) 0 0 (qA b0) := by
  refine q_start (by decide) (Nat.le_of_ble_eq_true rfl) ?_
  intro p e s m args below meth c hx hb hr hlocks hnm hml hown hT hR hK hz ls hl
  have hown : s.vm.findClass RX10 = some m.cls := hown
  have hl : lv_has ls 2 [(0, .ref a0)] := hl
  have hS : va_S (qA b0) s.heap s.heap [] := va_S.rf
  obtain ⟨Q, hQ⟩ : ∃ Q, Q = MQ below (va_Qv (fun (u : qH) => u = Xr) (fun u t => qO D kz b0 sz u t) (qA b0)) args s 0 0 (qA b0) := ⟨_, rfl⟩
  rw [← hQ]
  unfold fX10_remember at hf
  obtain ⟨hthis, hf⟩ := qIs_spec hf
  refine lv_aload_n hx hb dX10_remember_0 rfl (lv_at hl 0 rfl) ?_
  refine q_gI hx hb hT hown hK hR iqX10 vqX10 27 (by decide) (hT _ wfl_X10_191) hf dX10_remember_1 (fun v1 hf => ?_)
  refine lv_bipush (v := (20 : Int32)) hx hb dX10_remember_4 (by decide) ?_
  obtain ⟨X2, hp, hf⟩ := q_b hf
  have hJ : ∀ (H : Heap) (locs : List Loc) (ls : Array Slot), qR D kz b0 X2 H → va_S (qA b0) s.heap H locs → H.size = sz → lv_has ls 2 [(0, .ref a0)] → W p l e rmX10_remember s m args below meth c H locs 0 0 Q (F0 m 50 ls []) := by
    intro H locs ls hR hS hz hl
    refine lv_iconst (v := (0 : Int32)) hx hb dX10_remember_50 (by decide) ?_
    refine lv_istore_n (lv' := [(1, .int (0 : Int32)), (0, .ref a0)]) hx hb dX10_remember_51 rfl hl (by decide) rfl (fun ls hl => ?_)
    obtain ⟨X11, ho, hf⟩ := q_b hf
    have hL : ∀ (n : Nat) (v3 : Int32) (X4 : qH) (out : qH), fX10_remember_L52 F a0 n v3 X4 = some out → (∀ (X11 : qH), out = X11 → ∀ (H : Heap) (locs : List Loc) (ls : Array Slot), qR D kz b0 X11 H → va_S (qA b0) s.heap H locs → H.size = sz → lv_has ls 2 [(0, .ref a0)] → W p l e rmX10_remember s m args below meth c H locs 0 0 Q (F0 m 84 ls [])) → ∀ (H : Heap) (locs : List Loc) (ls : Array Slot), qR D kz b0 X4 H → va_S (qA b0) s.heap H locs → H.size = sz → lv_has ls 2 [(0, .ref a0), (1, .int v3)] → W p l e rmX10_remember s m args below meth c H locs 0 0 Q (F0 m 52 ls []) := by
      intro n9
      induction n9 with
      | zero =>
        intro v3 X4 out hf
        exact absurd (show none = some out from hf) (by simp)
      | succ n9 ih0 =>
        intro v3 X4 out hf hex H locs ls hR hS hz hl
        have hf : fX10_remember_L52_B F a0 (fX10_remember_L52 F a0 n9) v3 X4 = some out := hf
        unfold fX10_remember_L52_B at hf
        refine lv_iload_n hx hb dX10_remember_52 rfl (lv_at hl 1 rfl) ?_
        refine lv_bipush (v := (43 : Int32)) hx hb dX10_remember_53 (by decide) ?_
        refine lv_icmp_ge (tgt := 84) hx hb dX10_remember_55 (by decide) (fun hc => ?_) (fun hc => ?_)
        · have hf := q_t hf hc
          exact hex _ (Option.some.inj hf).symm _ _ _ hR hS hz (lv_sub hl [0] rfl)
        · have hf := q_f hf hc
          refine lv_aload_n hx hb dX10_remember_58 rfl (lv_at hl 0 rfl) ?_
          refine q_gR hx hb hT hown hK hR iqX10 vqX10 28 (by decide) (hT _ wfl_X10_62) hf dX10_remember_59 (fun v5 hf => ?_)
          refine lv_bipush (v := (43 : Int32)) hx hb dX10_remember_62 (by decide) ?_
          refine lv_aload_n hx hb dX10_remember_64 rfl (lv_at hl 0 rfl) ?_
          refine q_gI hx hb hT hown hK hR iqX10 vqX10 27 (by decide) (hT _ wfl_X10_191) hf dX10_remember_65 (fun v6 hf => ?_)
          refine lv_imul hx hb dX10_remember_68 ?_
          refine lv_iload_n hx hb dX10_remember_69 rfl (lv_at hl 1 rfl) ?_
          refine lv_iadd hx hb dX10_remember_70 ?_
          refine lv_aload_n hx hb dX10_remember_71 rfl (lv_at hl 0 rfl) ?_
          refine q_gR hx hb hT hown hK hR iqX10 vqX10 8 (by decide) (hT _ wfl_X10_29) hf dX10_remember_72 (fun v7 hf => ?_)
          refine lv_iload_n hx hb dX10_remember_75 rfl (lv_at hl 1 rfl) ?_
          refine q_iald hx hb hK hR hf dX10_remember_76 (fun v8 hf => ?_)
          refine q_iast hx hb hK hR hS hz hf dX10_remember_77 (fun X9 hf H locs hR hS hz => ?_)
          obtain ⟨v10, ev10⟩ : ∃ y : Int32, y = (v3 + (1 : Int32)) := ⟨_, rfl⟩
          have hf := q_lt ev10 hf
          refine lv_iinc (v := v10) (lv' := [(1, .int v10), (0, .ref a0)]) hx hb dX10_remember_78 hl (k := 1) rfl (by rw [ev10]; rfl) (by decide) rfl (fun ls hl => ?_)
          refine lv_goto (tgt := 52) hx hb dX10_remember_81 (by decide) ?_
          exact ih0 _ _ out hf hex _ _ _ hR hS hz (lv_sub hl [1, 0] rfl)
    refine hL F _ _ _ ho (fun z0 h9 => ?_) _ _ _ hR hS hz (lv_sub hl [1, 0] rfl)
    cases h9
    intro H locs ls hR hS hz hl
    refine lv_aload_n hx hb dX10_remember_84 rfl (lv_at hl 0 rfl) ?_
    refine lv_dup hx hb dX10_remember_85 rfl ?_
    refine q_gI hx hb hT hown hK hR iqX10 vqX10 27 (by decide) (hT _ wfl_X10_191) hf dX10_remember_86 (fun v12 hf => ?_)
    refine lv_iconst (v := (1 : Int32)) hx hb dX10_remember_89 (by decide) ?_
    refine lv_iadd hx hb dX10_remember_90 ?_
    refine lv_topi (fun v13 ev13 => ?_)
    have hf := q_lt ev13 hf
    refine q_pI hx hb hT hown hK hR hS hz iqX10 vqX10 tyX10_ok nmX10 27 (by decide) (hT _ wfl_X10_191) rfl rfl hf dX10_remember_91 (fun X14 hf H locs hR hS hz => ?_)
    subst hQ
    exact q_vret hx hb hr hlocks hR hS hz (Option.some.inj hf) dX10_remember_94
  have hf := hp
  refine lv_icmp_ne (tgt := 50) hx hb dX10_remember_6 (by decide) (fun hc => ?_) (fun hc => ?_)
  · have hf := q_f hf hc
    cases hf
    exact hJ _ _ _ hR hS hz (lv_sub hl [0] rfl)
  · have hf := q_t hf hc
    refine lv_bipush (v := (43 : Int32)) hx hb dX10_remember_9 (by decide) ?_
    refine lv_istore_n (lv' := [(1, .int (43 : Int32)), (0, .ref a0)]) hx hb dX10_remember_11 rfl hl (by decide) rfl (fun ls hl => ?_)
    obtain ⟨X22, ho, hf⟩ := q_b hf
    have hL : ∀ (n : Nat) (v15 : Int32) (X16 : qH) (out : qH), fX10_remember_L12 F a0 n v15 X16 = some out → (∀ (X22 : qH), out = X22 → ∀ (H : Heap) (locs : List Loc) (ls : Array Slot), qR D kz b0 X22 H → va_S (qA b0) s.heap H locs → H.size = sz → lv_has ls 2 [(0, .ref a0)] → W p l e rmX10_remember s m args below meth c H locs 0 0 Q (F0 m 40 ls [])) → ∀ (H : Heap) (locs : List Loc) (ls : Array Slot), qR D kz b0 X16 H → va_S (qA b0) s.heap H locs → H.size = sz → lv_has ls 2 [(0, .ref a0), (1, .int v15)] → W p l e rmX10_remember s m args below meth c H locs 0 0 Q (F0 m 12 ls []) := by
      intro n9
      induction n9 with
      | zero =>
        intro v15 X16 out hf
        exact absurd (show none = some out from hf) (by simp)
      | succ n9 ih0 =>
        intro v15 X16 out hf hex H locs ls hR hS hz hl
        have hf : fX10_remember_L12_B F a0 (fX10_remember_L12 F a0 n9) v15 X16 = some out := hf
        unfold fX10_remember_L12_B at hf
        refine lv_iload_n hx hb dX10_remember_12 rfl (lv_at hl 1 rfl) ?_
        refine lv_sipush (v := (860 : Int32)) hx hb dX10_remember_13 (by decide) ?_
        refine lv_icmp_ge (tgt := 40) hx hb dX10_remember_16 (by decide) (fun hc => ?_) (fun hc => ?_)
        · have hf := q_t hf hc
          exact hex _ (Option.some.inj hf).symm _ _ _ hR hS hz (lv_sub hl [0] rfl)
        · have hf := q_f hf hc
          refine lv_aload_n hx hb dX10_remember_19 rfl (lv_at hl 0 rfl) ?_
          refine q_gR hx hb hT hown hK hR iqX10 vqX10 28 (by decide) (hT _ wfl_X10_62) hf dX10_remember_20 (fun v17 hf => ?_)
          refine lv_iload_n hx hb dX10_remember_23 rfl (lv_at hl 1 rfl) ?_
          refine lv_bipush (v := (43 : Int32)) hx hb dX10_remember_24 (by decide) ?_
          refine lv_isub hx hb dX10_remember_26 ?_
          refine lv_aload_n hx hb dX10_remember_27 rfl (lv_at hl 0 rfl) ?_
          refine q_gR hx hb hT hown hK hR iqX10 vqX10 28 (by decide) (hT _ wfl_X10_62) hf dX10_remember_28 (fun v18 hf => ?_)
          refine lv_iload_n hx hb dX10_remember_31 rfl (lv_at hl 1 rfl) ?_
          refine q_iald hx hb hK hR hf dX10_remember_32 (fun v19 hf => ?_)
          refine q_iast hx hb hK hR hS hz hf dX10_remember_33 (fun X20 hf H locs hR hS hz => ?_)
          obtain ⟨v21, ev21⟩ : ∃ y : Int32, y = (v15 + (1 : Int32)) := ⟨_, rfl⟩
          have hf := q_lt ev21 hf
          refine lv_iinc (v := v21) (lv' := [(1, .int v21), (0, .ref a0)]) hx hb dX10_remember_34 hl (k := 1) rfl (by rw [ev21]; rfl) (by decide) rfl (fun ls hl => ?_)
          refine lv_goto (tgt := 12) hx hb dX10_remember_37 (by decide) ?_
          exact ih0 _ _ out hf hex _ _ _ hR hS hz (lv_sub hl [1, 0] rfl)
    refine hL F _ _ _ ho (fun z0 h9 => ?_) _ _ _ hR hS hz (lv_sub hl [1, 0] rfl)
    cases h9
    intro H locs ls hR hS hz hl
    refine lv_aload_n hx hb dX10_remember_40 rfl (lv_at hl 0 rfl) ?_
    refine lv_dup hx hb dX10_remember_41 rfl ?_
    refine q_gI hx hb hT hown hK hR iqX10 vqX10 27 (by decide) (hT _ wfl_X10_191) hf dX10_remember_42 (fun v23 hf => ?_)
    refine lv_iconst (v := (1 : Int32)) hx hb dX10_remember_45 (by decide) ?_
    refine lv_isub hx hb dX10_remember_46 ?_
    refine lv_topi (fun v24 ev24 => ?_)
    have hf := q_lt ev24 hf
    refine q_pI hx hb hT hown hK hR hS hz iqX10 vqX10 tyX10_ok nmX10 27 (by decide) (hT _ wfl_X10_191) rfl rfl hf dX10_remember_47 (fun X25 hf H locs hR hS hz => ?_)
    cases hf
    exact hJ _ _ _ hR hS hz (lv_sub hl [0] rfl)
/-! X10_holds -/
def fX10_holds (F : Nat) (X : qH) (a0 : Nat) (a1 : Int32) (a2 : Int32) : Option (Int32 × qH) :=
qIs 9 X a0 <|
(fX10_readAs F X a0 a1).bind fun v1 =>
(fX10_readAs F X a0 a2).bind fun v2 =>
(qgR X 9 a0 8).bind fun v3 =>
(qaI X 0 v3 ((27 : Int32) + a1)).bind fun v4 =>
(qgR X 9 a0 8).bind fun v5 =>
(qaI X 0 v5 ((27 : Int32) + a2)).bind fun v6 =>
qlt ((v4 &&& v6) &&& ((((((1 : Int32) <<< (a1 &&& 31)) ||| ((1 : Int32) <<< (a2 &&& 31))) ||| ((1 : Int32) <<< (v1 &&& 31))) ||| ((1 : Int32) <<< (v2 &&& 31))) ^^^ (-1 : Int32))) fun v7 =>
if v7 = (0 : Int32) then (some ((0 : Int32), X))
else (if v1 = v2 then (some ((0 : Int32), X))
else ((qgR X 9 a0 8).bind fun v8 =>
(qaI X 0 v8 ((35 : Int32) + v1)).bind fun v9 =>
(fX10_has F X v9 v2).bind fun v10 =>
if v10 = (0 : Int32) then ((qgR X 9 a0 8).bind fun v11 =>
qlt ((35 : Int32) + v1) fun v12 =>
(qaI X 0 v11 v12).bind fun v13 =>
qlt (v13 ||| ((1 : Int32) <<< (v2 &&& 31))) fun v14 =>
(qaS X 0 v11 v12 v14).bind fun X15 =>
(qgR X15 9 a0 8).bind fun v16 =>
qlt ((35 : Int32) + v2) fun v17 =>
(qaI X15 0 v16 v17).bind fun v18 =>
qlt (v18 ||| ((1 : Int32) <<< (v1 &&& 31))) fun v19 =>
(qaS X15 0 v16 v17 v19).bind fun X20 =>
some ((1 : Int32), X20))
else (some ((0 : Int32), X))))
abbrev rmX10_holds : Room := { frames := 1, cells := 0, slots := 0, locals := 24 }
theorem fX10_holds_is {F : Nat} {X : qH} {a0 : Nat} {a1 : Int32} {a2 : Int32} {r9 : Int32 × qH} (h : fX10_holds F X a0 a1 a2 = some r9) : ∃ fs, X a0 = some (.inr (9, fs)) := (qIs_spec h).1
theorem hdX10_holds : yX10_holds.cls = RX10 ∧ yX10_holds.cls ≠ "java/lang/invoke/MethodHandle" ∧ yX10_holds.cls ≠ "java/lang/invoke/VarHandle" ∧ (parseMethodDescriptor yX10_holds.desc).map (fun d => d.parameters.length) = some 2 := by decide +kernel
set_option maxHeartbeats 4000000 in
set_option maxRecDepth 100000 in
theorem mX10_holds (l : Launch) (D : va_G) (kz : Nat → Nat) (b0 sz F : Nat) (X : qH) (a0 : Nat) (a1 : Int32) (a2 : Int32) (r : Int32) (Xr : qH) (hf : fX10_holds F X a0 a1 a2 = some (r, Xr)) : Met l yX10_holds (qws yX10_holds cX10_holds 6 (some .boolean)) rmX10_holds (va_Pc [.ref a0, .int a1, .int a2] (qU D kz b0 sz X)) (va_Qi (fun (r' : Int32) (u : qH) => r' = r ∧ u = Xr) (fun u t => qO D kz b0 sz u t) (qA b0)) 0 0 (qA b0) := by
  refine q_start (by decide) (Nat.le_of_ble_eq_true rfl) ?_
  intro p e s m args below meth c hx hb hr hlocks hnm hml hown hT hR hK hz ls hl
  have hown : s.vm.findClass RX10 = some m.cls := hown
  have hl : lv_has ls 6 [(0, .ref a0), (1, .int a1), (2, .int a2)] := hl
  have hS : va_S (qA b0) s.heap s.heap [] := va_S.rf
  obtain ⟨Q, hQ⟩ : ∃ Q, Q = MQ below (va_Qi (fun (r' : Int32) (u : qH) => r' = r ∧ u = Xr) (fun u t => qO D kz b0 sz u t) (qA b0)) args s 0 0 (qA b0) := ⟨_, rfl⟩
  rw [← hQ]
  unfold fX10_holds at hf
  obtain ⟨hthis, hf⟩ := qIs_spec hf
  refine lv_aload_n hx hb dX10_holds_0 rfl (lv_at hl 0 rfl) ?_
  refine lv_iload_n hx hb dX10_holds_1 rfl (lv_at hl 1 rfl) ?_
  obtain ⟨v1, hc, hf⟩ := q_b hf
  refine q_calli (va_runV (As := [.int a1]) (rest := []) ⟨hx, hb, hml, hown, hT⟩ (mX10_readAs l D kz b0 sz F X a0 a1 v1 hc) (cwV 1 hT (q_gV wco_X10_readAs wml_X10_211 wim_X10_readAs wse_X10_readAs win_X10) rfl rfl rfl hdX10_readAs ⟨Nat.le_of_ble_eq_true rfl, Nat.le_of_ble_eq_true rfl⟩) (q_preV vqX10 (fX10_readAs_is hc) hR hK hz) rfl rfl hl.1 rfl (lv_room (Nat.le_of_ble_eq_true rfl)) dX10_holds_2 ⟨Nat.le_of_ble_eq_true rfl, Nat.le_of_ble_eq_true rfl⟩) hS (fun H locs hR hS hz => ?_)
  refine lv_istore_n (lv' := [(3, .int v1), (0, .ref a0), (1, .int a1), (2, .int a2)]) hx hb dX10_holds_5 rfl hl (by decide) rfl (fun ls hl => ?_)
  refine lv_aload_n hx hb dX10_holds_6 rfl (lv_at hl 1 rfl) ?_
  refine lv_iload_n hx hb dX10_holds_7 rfl (lv_at hl 3 rfl) ?_
  obtain ⟨v2, hc, hf⟩ := q_b hf
  refine q_calli (va_runV (As := [.int a2]) (rest := []) ⟨hx, hb, hml, hown, hT⟩ (mX10_readAs l D kz b0 sz F X a0 a2 v2 hc) (cwV 1 hT (q_gV wco_X10_readAs wml_X10_211 wim_X10_readAs wse_X10_readAs win_X10) rfl rfl rfl hdX10_readAs ⟨Nat.le_of_ble_eq_true rfl, Nat.le_of_ble_eq_true rfl⟩) (q_preV vqX10 (fX10_readAs_is hc) hR hK hz) rfl rfl hl.1 rfl (lv_room (Nat.le_of_ble_eq_true rfl)) dX10_holds_8 ⟨Nat.le_of_ble_eq_true rfl, Nat.le_of_ble_eq_true rfl⟩) hS (fun H locs hR hS hz => ?_)
  refine lv_istore (lv' := [(4, .int v2), (3, .int v1), (0, .ref a0), (1, .int a1), (2, .int a2)]) hx hb dX10_holds_11 hl (by decide) rfl (fun ls hl => ?_)
  refine lv_aload_n hx hb dX10_holds_13 rfl (lv_at hl 2 rfl) ?_
  refine q_gR hx hb hT hown hK hR iqX10 vqX10 8 (by decide) (hT _ wfl_X10_29) hf dX10_holds_14 (fun v3 hf => ?_)
  refine lv_bipush (v := (27 : Int32)) hx hb dX10_holds_17 (by decide) ?_
  refine lv_iload_n hx hb dX10_holds_19 rfl (lv_at hl 3 rfl) ?_
  refine lv_iadd hx hb dX10_holds_20 ?_
  refine q_iald hx hb hK hR hf dX10_holds_21 (fun v4 hf => ?_)
  refine lv_aload_n hx hb dX10_holds_22 rfl (lv_at hl 2 rfl) ?_
  refine q_gR hx hb hT hown hK hR iqX10 vqX10 8 (by decide) (hT _ wfl_X10_29) hf dX10_holds_23 (fun v5 hf => ?_)
  refine lv_bipush (v := (27 : Int32)) hx hb dX10_holds_26 (by decide) ?_
  refine lv_iload_n hx hb dX10_holds_28 rfl (lv_at hl 4 rfl) ?_
  refine lv_iadd hx hb dX10_holds_29 ?_
  refine q_iald hx hb hK hR hf dX10_holds_30 (fun v6 hf => ?_)
  refine lv_iand hx hb dX10_holds_31 ?_
  refine lv_iconst (v := (1 : Int32)) hx hb dX10_holds_32 (by decide) ?_
  refine lv_iload_n hx hb dX10_holds_33 rfl (lv_at hl 3 rfl) ?_
  refine lv_ishl hx hb dX10_holds_34 ?_
  refine lv_iconst (v := (1 : Int32)) hx hb dX10_holds_35 (by decide) ?_
  refine lv_iload_n hx hb dX10_holds_36 rfl (lv_at hl 4 rfl) ?_
  refine lv_ishl hx hb dX10_holds_37 ?_
  refine lv_ior hx hb dX10_holds_38 ?_
  refine lv_iconst (v := (1 : Int32)) hx hb dX10_holds_39 (by decide) ?_
  refine lv_iload_n hx hb dX10_holds_40 rfl (lv_at hl 1 rfl) ?_
  refine lv_ishl hx hb dX10_holds_41 ?_
  refine lv_ior hx hb dX10_holds_42 ?_
  refine lv_iconst (v := (1 : Int32)) hx hb dX10_holds_43 (by decide) ?_
  refine lv_iload hx hb dX10_holds_44 (lv_at hl 0 rfl) ?_
  refine lv_ishl hx hb dX10_holds_46 ?_
  refine lv_ior hx hb dX10_holds_47 ?_
  refine lv_iconst (v := (-1 : Int32)) hx hb dX10_holds_48 (by decide) ?_
  refine lv_ixor hx hb dX10_holds_49 ?_
  refine lv_iand hx hb dX10_holds_50 ?_
  refine lv_topi (fun v7 ev7 => ?_)
  have hf := q_lt ev7 hf
  refine lv_istore (lv' := [(5, .int v7), (4, .int v2), (3, .int v1), (0, .ref a0), (1, .int a1), (2, .int a2)]) hx hb dX10_holds_51 hl (by decide) rfl (fun ls hl => ?_)
  refine lv_iload hx hb dX10_holds_53 (lv_at hl 0 rfl) ?_
  refine lv_if_eq (tgt := 81) hx hb dX10_holds_55 (by decide) (fun hc => ?_) (fun hc => ?_)
  · have hf := q_t hf hc
    refine lv_iconst (v := (0 : Int32)) hx hb dX10_holds_81 (by decide) ?_
    subst hQ
    obtain ⟨h8, h9⟩ := Prod.mk.inj (Option.some.inj hf)
    exact q_zret hx hb hr hlocks hR hS hz h8 (by decide) h9 dX10_holds_82
  · have hf := q_f hf hc
    refine lv_iload_n hx hb dX10_holds_58 rfl (lv_at hl 2 rfl) ?_
    refine lv_iload hx hb dX10_holds_59 (lv_at hl 1 rfl) ?_
    refine lv_icmp_eq (tgt := 81) hx hb dX10_holds_61 (by decide) (fun hc => ?_) (fun hc => ?_)
    · have hf := q_t hf hc
      refine lv_iconst (v := (0 : Int32)) hx hb dX10_holds_81 (by decide) ?_
      subst hQ
      obtain ⟨h8, h9⟩ := Prod.mk.inj (Option.some.inj hf)
      exact q_zret hx hb hr hlocks hR hS hz h8 (by decide) h9 dX10_holds_82
    · have hf := q_f hf hc
      refine lv_aload_n hx hb dX10_holds_64 rfl (lv_at hl 3 rfl) ?_
      refine q_gR hx hb hT hown hK hR iqX10 vqX10 8 (by decide) (hT _ wfl_X10_29) hf dX10_holds_65 (fun v8 hf => ?_)
      refine lv_bipush (v := (35 : Int32)) hx hb dX10_holds_68 (by decide) ?_
      refine lv_iload_n hx hb dX10_holds_70 rfl (lv_at hl 2 rfl) ?_
      refine lv_iadd hx hb dX10_holds_71 ?_
      refine q_iald hx hb hK hR hf dX10_holds_72 (fun v9 hf => ?_)
      refine lv_iload hx hb dX10_holds_73 (lv_at hl 1 rfl) ?_
      obtain ⟨v10, hc, hf⟩ := q_b hf
      refine q_calli (va_runS (As := [.int v9, .int v2]) (rest := []) ⟨hx, hb, hml, hown, hT⟩ (mX10_has l D kz b0 sz F X v9 v2 v10 hc) (va_cwS 2 hT (q_gS wco_X10_has wml_X10_194 wst_X10_has win_X10) rfl rfl rfl hdX10_has ⟨Nat.le_of_ble_eq_true rfl, Nat.le_of_ble_eq_true rfl⟩) (q_preS hR hK hz) rfl rfl hl.1 rfl (lv_room (Nat.le_of_ble_eq_true rfl)) dX10_holds_75 ⟨Nat.le_of_ble_eq_true rfl, Nat.le_of_ble_eq_true rfl⟩) hS (fun H locs hR hS hz => ?_)
      refine lv_if_eq (tgt := 83) hx hb dX10_holds_78 (by decide) (fun hc => ?_) (fun hc => ?_)
      · have hf := q_t hf hc
        refine lv_aload_n hx hb dX10_holds_83 rfl (lv_at hl 3 rfl) ?_
        refine q_gR hx hb hT hown hK hR iqX10 vqX10 8 (by decide) (hT _ wfl_X10_29) hf dX10_holds_84 (fun v11 hf => ?_)
        refine lv_bipush (v := (35 : Int32)) hx hb dX10_holds_87 (by decide) ?_
        refine lv_iload_n hx hb dX10_holds_89 rfl (lv_at hl 2 rfl) ?_
        refine lv_iadd hx hb dX10_holds_90 ?_
        refine lv_topi (fun v12 ev12 => ?_)
        have hf := q_lt ev12 hf
        refine lv_dup2_11 hx hb dX10_holds_91 rfl rfl ?_
        refine q_iald hx hb hK hR hf dX10_holds_92 (fun v13 hf => ?_)
        refine lv_iconst (v := (1 : Int32)) hx hb dX10_holds_93 (by decide) ?_
        refine lv_iload hx hb dX10_holds_94 (lv_at hl 1 rfl) ?_
        refine lv_ishl hx hb dX10_holds_96 ?_
        refine lv_ior hx hb dX10_holds_97 ?_
        refine lv_topi (fun v14 ev14 => ?_)
        have hf := q_lt ev14 hf
        refine q_iast hx hb hK hR hS hz hf dX10_holds_98 (fun X15 hf H locs hR hS hz => ?_)
        refine lv_aload_n hx hb dX10_holds_99 rfl (lv_at hl 3 rfl) ?_
        refine q_gR hx hb hT hown hK hR iqX10 vqX10 8 (by decide) (hT _ wfl_X10_29) hf dX10_holds_100 (fun v16 hf => ?_)
        refine lv_bipush (v := (35 : Int32)) hx hb dX10_holds_103 (by decide) ?_
        refine lv_iload hx hb dX10_holds_105 (lv_at hl 1 rfl) ?_
        refine lv_iadd hx hb dX10_holds_107 ?_
        refine lv_topi (fun v17 ev17 => ?_)
        have hf := q_lt ev17 hf
        refine lv_dup2_11 hx hb dX10_holds_108 rfl rfl ?_
        refine q_iald hx hb hK hR hf dX10_holds_109 (fun v18 hf => ?_)
        refine lv_iconst (v := (1 : Int32)) hx hb dX10_holds_110 (by decide) ?_
        refine lv_iload_n hx hb dX10_holds_111 rfl (lv_at hl 2 rfl) ?_
        refine lv_ishl hx hb dX10_holds_112 ?_
        refine lv_ior hx hb dX10_holds_113 ?_
        refine lv_topi (fun v19 ev19 => ?_)
        have hf := q_lt ev19 hf
        refine q_iast hx hb hK hR hS hz hf dX10_holds_114 (fun X20 hf H locs hR hS hz => ?_)
        refine lv_iconst (v := (1 : Int32)) hx hb dX10_holds_115 (by decide) ?_
        subst hQ
        obtain ⟨h8, h9⟩ := Prod.mk.inj (Option.some.inj hf)
        exact q_zret hx hb hr hlocks hR hS hz h8 (by decide) h9 dX10_holds_116
      · have hf := q_f hf hc
        refine lv_iconst (v := (0 : Int32)) hx hb dX10_holds_81 (by decide) ?_
        subst hQ
        obtain ⟨h8, h9⟩ := Prod.mk.inj (Option.some.inj hf)
        exact q_zret hx hb hr hlocks hR hS hz h8 (by decide) h9 dX10_holds_82
/-! X10_lightNow -/
def fX10_lightNow (F : Nat) (X : qH) (a0 : Nat) (a1 : Int32) : Option (qH) :=
qIs 9 X a0 <|
(fX10_seers F X a0 a1).bind fun v1 =>
(qgR X 9 a0 8).bind fun v2 =>
(fX10_overOf F X a0 a1).bind fun v3 =>
(qaS X 0 v2 ((19 : Int32) + a1) v3).bind fun X4 =>
(qgR X4 9 a0 8).bind fun v5 =>
(qgR X4 9 a0 8).bind fun v6 =>
(qaI X4 0 v6 (2 : Int32)).bind fun v7 =>
(qaS X4 0 v5 ((11 : Int32) + a1) v7).bind fun X8 =>
(qgR X8 9 a0 8).bind fun v9 =>
(qaS X8 0 v9 ((27 : Int32) + a1) v1).bind fun X10 =>
some X10
abbrev rmX10_lightNow : Room := { frames := 2, cells := 0, slots := 0, locals := 48 }
theorem fX10_lightNow_is {F : Nat} {X : qH} {a0 : Nat} {a1 : Int32} {r9 : qH} (h : fX10_lightNow F X a0 a1 = some r9) : ∃ fs, X a0 = some (.inr (9, fs)) := (qIs_spec h).1
theorem hdX10_lightNow : yX10_lightNow.cls = RX10 ∧ yX10_lightNow.cls ≠ "java/lang/invoke/MethodHandle" ∧ yX10_lightNow.cls ≠ "java/lang/invoke/VarHandle" ∧ (parseMethodDescriptor yX10_lightNow.desc).map (fun d => d.parameters.length) = some 1 := by decide +kernel
set_option maxHeartbeats 4000000 in
set_option maxRecDepth 100000 in
theorem mX10_lightNow (l : Launch) (D : va_G) (kz : Nat → Nat) (b0 sz F : Nat) (X : qH) (a0 : Nat) (a1 : Int32)  (Xr : qH) (hf : fX10_lightNow F X a0 a1 = some Xr) : Met l yX10_lightNow (qws yX10_lightNow cX10_lightNow 3 none) rmX10_lightNow (va_Pc [.ref a0, .int a1] (qU D kz b0 sz X)) (va_Qv (fun (u : qH) => u = Xr) (fun u t => qO D kz b0 sz u t) (qA b0)) 0 0 (qA b0) := by
  refine q_start (by decide) (Nat.le_of_ble_eq_true rfl) ?_
  intro p e s m args below meth c hx hb hr hlocks hnm hml hown hT hR hK hz ls hl
  have hown : s.vm.findClass RX10 = some m.cls := hown
  have hl : lv_has ls 3 [(0, .ref a0), (1, .int a1)] := hl
  have hS : va_S (qA b0) s.heap s.heap [] := va_S.rf
  obtain ⟨Q, hQ⟩ : ∃ Q, Q = MQ below (va_Qv (fun (u : qH) => u = Xr) (fun u t => qO D kz b0 sz u t) (qA b0)) args s 0 0 (qA b0) := ⟨_, rfl⟩
  rw [← hQ]
  unfold fX10_lightNow at hf
  obtain ⟨hthis, hf⟩ := qIs_spec hf
  refine lv_aload_n hx hb dX10_lightNow_0 rfl (lv_at hl 0 rfl) ?_
  refine lv_iload_n hx hb dX10_lightNow_1 rfl (lv_at hl 1 rfl) ?_
  obtain ⟨v1, hc, hf⟩ := q_b hf
  refine q_calli (va_runV (As := [.int a1]) (rest := []) ⟨hx, hb, hml, hown, hT⟩ (mX10_seers l D kz b0 sz F X a0 a1 v1 hc) (cwV 1 hT (q_gV wco_X10_seers wml_X10_229 wim_X10_seers wse_X10_seers win_X10) rfl rfl rfl hdX10_seers ⟨Nat.le_of_ble_eq_true rfl, Nat.le_of_ble_eq_true rfl⟩) (q_preV vqX10 (fX10_seers_is hc) hR hK hz) rfl rfl hl.1 rfl (lv_room (Nat.le_of_ble_eq_true rfl)) dX10_lightNow_2 ⟨Nat.le_of_ble_eq_true rfl, Nat.le_of_ble_eq_true rfl⟩) hS (fun H locs hR hS hz => ?_)
  refine lv_istore_n (lv' := [(2, .int v1), (0, .ref a0), (1, .int a1)]) hx hb dX10_lightNow_5 rfl hl (by decide) rfl (fun ls hl => ?_)
  refine lv_aload_n hx hb dX10_lightNow_6 rfl (lv_at hl 1 rfl) ?_
  refine q_gR hx hb hT hown hK hR iqX10 vqX10 8 (by decide) (hT _ wfl_X10_29) hf dX10_lightNow_7 (fun v2 hf => ?_)
  refine lv_bipush (v := (19 : Int32)) hx hb dX10_lightNow_10 (by decide) ?_
  refine lv_iload_n hx hb dX10_lightNow_12 rfl (lv_at hl 2 rfl) ?_
  refine lv_iadd hx hb dX10_lightNow_13 ?_
  refine lv_aload_n hx hb dX10_lightNow_14 rfl (lv_at hl 1 rfl) ?_
  refine lv_iload_n hx hb dX10_lightNow_15 rfl (lv_at hl 2 rfl) ?_
  obtain ⟨v3, hc, hf⟩ := q_b hf
  refine q_calli (va_runV (As := [.int a1]) (rest := [.int ((19 : Int32) + a1), .ref v2]) ⟨hx, hb, hml, hown, hT⟩ (mX10_overOf l D kz b0 sz F X a0 a1 v3 hc) (cwV 1 hT (q_gV wco_X10_overOf wml_X10_214 wim_X10_overOf wse_X10_overOf win_X10) rfl rfl rfl hdX10_overOf ⟨Nat.le_of_ble_eq_true rfl, Nat.le_of_ble_eq_true rfl⟩) (q_preV vqX10 (fX10_overOf_is hc) hR hK hz) rfl rfl hl.1 rfl (lv_room (Nat.le_of_ble_eq_true rfl)) dX10_lightNow_16 ⟨Nat.le_of_ble_eq_true rfl, Nat.le_of_ble_eq_true rfl⟩) hS (fun H locs hR hS hz => ?_)
  refine q_iast hx hb hK hR hS hz hf dX10_lightNow_19 (fun X4 hf H locs hR hS hz => ?_)
  refine lv_aload_n hx hb dX10_lightNow_20 rfl (lv_at hl 1 rfl) ?_
  refine q_gR hx hb hT hown hK hR iqX10 vqX10 8 (by decide) (hT _ wfl_X10_29) hf dX10_lightNow_21 (fun v5 hf => ?_)
  refine lv_bipush (v := (11 : Int32)) hx hb dX10_lightNow_24 (by decide) ?_
  refine lv_iload_n hx hb dX10_lightNow_26 rfl (lv_at hl 2 rfl) ?_
  refine lv_iadd hx hb dX10_lightNow_27 ?_
  refine lv_aload_n hx hb dX10_lightNow_28 rfl (lv_at hl 1 rfl) ?_
  refine q_gR hx hb hT hown hK hR iqX10 vqX10 8 (by decide) (hT _ wfl_X10_29) hf dX10_lightNow_29 (fun v6 hf => ?_)
  refine lv_iconst (v := (2 : Int32)) hx hb dX10_lightNow_32 (by decide) ?_
  refine q_iald hx hb hK hR hf dX10_lightNow_33 (fun v7 hf => ?_)
  refine q_iast hx hb hK hR hS hz hf dX10_lightNow_34 (fun X8 hf H locs hR hS hz => ?_)
  refine lv_aload_n hx hb dX10_lightNow_35 rfl (lv_at hl 1 rfl) ?_
  refine q_gR hx hb hT hown hK hR iqX10 vqX10 8 (by decide) (hT _ wfl_X10_29) hf dX10_lightNow_36 (fun v9 hf => ?_)
  refine lv_bipush (v := (27 : Int32)) hx hb dX10_lightNow_39 (by decide) ?_
  refine lv_iload_n hx hb dX10_lightNow_41 rfl (lv_at hl 2 rfl) ?_
  refine lv_iadd hx hb dX10_lightNow_42 ?_
  refine lv_iload_n hx hb dX10_lightNow_43 rfl (lv_at hl 0 rfl) ?_
  refine q_iast hx hb hK hR hS hz hf dX10_lightNow_44 (fun X10 hf H locs hR hS hz => ?_)
  subst hQ
  exact q_vret hx hb hr hlocks hR hS hz (Option.some.inj hf) dX10_lightNow_45
