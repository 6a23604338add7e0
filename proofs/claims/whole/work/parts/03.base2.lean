section QW2
variable {p : Program} {l : Launch} {e : Env} {R : Room} {s : State} {m : MethodId} {args : Array Value} {below : List Frame} {meth : Method} {c : Code} {H : Heap} {locs : List Loc} {cells slots : Nat} {Q : State → Prop}
variable {cc : ByteArray} {pc : Nat} {ls : Array Slot} {rest st0 : List Value} {D : va_G} {kz : Nat → Nat} {b0 a sz : Nat} {X : qH} {H0 : Heap} {own : String} {T : u_T} {N ci index : Nat} {C : String} {Ts : List Cond} {ρ : Type} {res : ρ}
/-- putfield, a field that isn't final -/
theorem q_put0 (hx : p.tables.exec = Jvm.exec) (hb : c.code = cc) (hts : ∀ w ∈ Ts, w.before args s = true) (hown : s.vm.findClass own = some m.cls) (hK : qV D kz s) (hR : qR D kz b0 X H) (hS0 : va_S (qA b0) H0 H locs) (hz : H.size = sz) (hin : ∀ w ∈ u_ws C T N, w ∈ Ts) (hc : vwCl[ci]? = some (C, T, N)) (ty0 : Nat → FieldType) (hty : ∀ k, k < N → parseFieldDescriptor (T k).2.2.1 = some (ty0 k)) (hnm : ∀ a, a < N → ∀ b, b < N → a ≠ b → (T a).2.1 ≠ (T b).2.1) (k : Nat) (hk : k < N) (hlink : (Cond.fieldLink own index (T k).1 (T k).2.1 (T k).2.2.1).before args s = true) (hfin : (T k).2.2.2 = false) {v : Value} (hn : narrow (ty0 k) v = v) (hfit : fits (ty0 k) v = true) {X2 : qH} (hf : qp X ci a k v = some X2) (hdg : decode cc pc = .ok (.putfield index, 3))
    (kk : ∀ (H : Heap) (locs : List Loc), qR D kz b0 X2 H → va_S (qA b0) H0 H locs → H.size = sz → W p l e R s m args below meth c H locs cells slots Q (F0 m (pc + 3) ls rest)) : W p l e R s m args below meth c H locs cells slots Q (F0 m pc ls (v :: .ref a :: rest)) := by
  obtain ⟨fs, hX, hl, rfl⟩ := qp_spec hf
  have hap := va_apart (own := own) hts hin ty0 hty hnm hK.1 hc
  obtain ⟨hba, r, h1, cell, q1, q2, q3, q4⟩ := hR a _ hX
  have hr : r = (C, T, N) := Option.some.inj (h1.symm.trans hc)
  subst hr
  obtain ⟨hS, hfc, kC, hkC, hkind⟩ := hK.1.1 ci _ hc
  obtain ⟨cf, kf, fi, f, hi, hsl⟩ := hS k hk
  have hlay := hts _ (hin _ (u_in_lay hk))
  unfold u_lay at hlay
  rw [if_neg (by rw [hfin]; decide)] at hlay
  have hst := (u_facts hfc hkC (u_lays hts hin hk) hi).1
  have h6 := u_store hfc hkC hkind hlay hi (hty k hk) hn hfit
  refine W.putK hx hb (f := f) ⟨hown, hlink, ⟨_, _, _, hi⟩, hst⟩ (by rw [q2]; exact h6) q1 q3 (by rw [hsl]; exact k2_hasslot (q4 k hk)) rfl rfl hdg fun H' e1 e2 e3 => ?_
  rw [hsl] at e1 ⊢
  exact kk H' _ (hR.set hba ⟨_, hc, t_OB.to (V := updV (vp_V fs) k v) ⟨_, e1, q2, q3, t_set q4 hap hk v⟩ (fun j _ => vp_updV_set hl v j)⟩ e3) (hS0.put e2 e3 hba) (by rw [e2]; exact hz)
/-- putfield, a final field in its constructor -/
theorem q_putF (hx : p.tables.exec = Jvm.exec) (hb : c.code = cc) (hts : ∀ w ∈ Ts, w.before args s = true) (hown : s.vm.findClass own = some m.cls) (hK : qV D kz s) (hR : qR D kz b0 X H) (hS0 : va_S (qA b0) H0 H locs) (hz : H.size = sz) (hin : ∀ w ∈ u_ws C T N, w ∈ Ts) (hc : vwCl[ci]? = some (C, T, N)) (ty0 : Nat → FieldType) (hty : ∀ k, k < N → parseFieldDescriptor (T k).2.2.1 = some (ty0 k)) (hnm : ∀ a, a < N → ∀ b, b < N → a ≠ b → (T a).2.1 ≠ (T b).2.1) (k : Nat) (hk : k < N) (hlink : (Cond.fieldLink own index (T k).1 (T k).2.1 (T k).2.2.1).before args s = true) (hfin : (T k).2.2.2 = true) (hin2 : meth.name = "<init>") (hdecl : (T k).1 = own) {v : Value} (hn : narrow (ty0 k) v = v) (hfit : fits (ty0 k) v = true) {X2 : qH} (hf : qp X ci a k v = some X2) (hdg : decode cc pc = .ok (.putfield index, 3))
    (kk : ∀ (H1 : Heap) (locs : List Loc), qR D kz b0 X2 H1 → va_S (qA b0) H0 H1 locs → H1.size = sz → W p l e R s m args below meth c H1 locs cells slots Q (F0 m (pc + 3) ls rest)) : W p l e R s m args below meth c H locs cells slots Q (F0 m pc ls (v :: .ref a :: rest)) := by
  obtain ⟨fs, hX, hl, rfl⟩ := qp_spec hf
  have hap := va_apart (own := own) hts hin ty0 hty hnm hK.1 hc
  obtain ⟨hba, r, h1, cell, q1, q2, q3, q4⟩ := hR a _ hX
  have hr : r = (C, T, N) := Option.some.inj (h1.symm.trans hc)
  subst hr
  obtain ⟨hS, hfc, kC, hkC, hkind⟩ := hK.1.1 ci _ hc
  obtain ⟨cf, kf, fi, f, hi, hsl⟩ := hS k hk
  have hlay := hts _ (hin _ (u_in_lay hk))
  unfold u_lay at hlay
  rw [if_pos hfin] at hlay
  have hst := (u_facts hfc hkC (u_lays hts hin hk) hi).1
  have hcf : m.cls = cf := by
    obtain ⟨_, _, c', _, _, _, -, -, hf', -, -, -, hown2, -⟩ := Cond.laysFinal_spec hlay
    have e1 : c' = cf := by have := hi.symm.trans hf'; simp at this; exact this.1.symm
    rw [hdecl] at hown2
    rw [← e1]; exact Option.some.inj (hown.symm.trans hown2)
  have h6 := u_fits hfc hkC hkind (Or.inr hlay) hi (hty k hk) hn hfit
  refine W.putFinK hx hb hown hlink hi hst hcf hin2 (by rw [q2]; exact h6) q1 q3 (by rw [hsl]; exact k2_hasslot (q4 k hk)) rfl rfl hdg fun H' e1 e2 e3 => ?_
  rw [hsl] at e1 ⊢
  exact kk H' _ (hR.set hba ⟨_, hc, t_OB.to (V := updV (vp_V fs) k v) ⟨_, e1, q2, q3, t_set q4 hap hk v⟩ (fun j _ => vp_updV_set hl v j)⟩ e3) (hS0.put e2 e3 hba) (by rw [e2]; exact hz)
/-- a field of a new object in its constructor that isn't final: the size is told -/
theorem q_iast (hx : p.tables.exec = Jvm.exec) (hb : c.code = cc) (hK : qV D kz s) (hR : qR D kz b0 X H) (hS : va_S (qA b0) H0 H locs) (hz : H.size = sz) {i x : Int32} {K : qH → Option ρ} (hf : (qaS X 0 a i x).bind K = some res) (hdg : decode cc pc = .ok (.iastore, 1))
    (kk : ∀ (X : qH), K X = some res → ∀ (H : Heap) (locs : List Loc), qR D kz b0 X H → va_S (qA b0) H0 H locs → H.size = sz → W p l e R s m args below meth c H locs cells slots Q (F0 m (pc + 1) ls rest)) : W p l e R s m args below meth c H locs cells slots Q (F0 m pc ls (.int x :: .int i :: .ref a :: rest)) := by
  obtain ⟨X2, hv, hf⟩ := q_b hf
  obtain ⟨n, f, hX, hin, rfl⟩ := qaS_spec hv
  obtain ⟨hba, hat⟩ := hR a _ hX
  refine W.iast hx hb hat ((hK.1.2 0 _ rfl).1 n (fun j => .int (f j))) (fun q => by cases q) (by show ¬ (i < 0 ∨ (arrV _ _ _).slots.size ≤ _); rw [arrV_size]; exact hin) rfl rfl hdg fun H1 e z oq => ?_
  refine kk _ hf H1 _ (hR.set hba ?_ oq) (hS.put z oq hba) (by rw [z]; exact hz)
  show H1[a]? = some (vp_cell _ _)
  rw [e]
  show some (Cell.setSlot (vp_cell _ _) _ _) = _
  rw [vp_cell_i, vp_cell_i, arrV_store]
  congr 2
  funext q
  by_cases hq : q = i.toNatClampNeg
  · subst hq
    simp [updV, upd]
  · simp [updV, upd, hq]
theorem q_zast (hx : p.tables.exec = Jvm.exec) (hb : c.code = cc) (hK : qV D kz s) (hR : qR D kz b0 X H) (hS : va_S (qA b0) H0 H locs) (hz : H.size = sz) {i x : Int32} {K : qH → Option ρ} (hf : (qaZ X a i x).bind K = some res) (hdg : decode cc pc = .ok (.bastore, 1))
    (kk : ∀ (X : qH), K X = some res → ∀ (H : Heap) (locs : List Loc), qR D kz b0 X H → va_S (qA b0) H0 H locs → H.size = sz → W p l e R s m args below meth c H locs cells slots Q (F0 m (pc + 1) ls rest)) : W p l e R s m args below meth c H locs cells slots Q (F0 m pc ls (.int x :: .int i :: .ref a :: rest)) := by
  obtain ⟨X2, hv, hf⟩ := q_b hf
  obtain ⟨hx01, hv⟩ := qaZ_spec hv
  obtain ⟨n, f, hX, hin, rfl⟩ := qaS_spec hv
  obtain ⟨hba, hat⟩ := hR a _ hX
  refine W.zast hx hb hat ((hK.1.2 1 _ rfl).1 n (fun j => .int (f j))) (fun q => by cases q) (by show ¬ (i < 0 ∨ (arrV _ _ _).slots.size ≤ _); rw [arrV_size]; exact hin) rfl rfl hdg fun H1 e z oq => ?_
  refine kk _ hf H1 _ (hR.set hba ?_ oq) (hS.put z oq hba) (by rw [z]; exact hz)
  show H1[a]? = some (vp_cell _ _)
  rw [e]
  show some (Cell.setSlot (vp_cell _ _) _ _) = _
  rw [vp_cell_i, vp_cell_i, arrV_store, q_nar hx01]
  congr 2
  funext q
  by_cases hq : q = i.toNatClampNeg
  · subst hq
    simp [updV, upd]
  · simp [updV, upd, hq]
/-- calls -/
theorem q_calli {a9 : Array Value} {r : Int32} {X2 : qH} (hr : va_Run p l e R s m args below meth c H locs cells slots 0 0 (F0 m pc ls st0) rest (va_Qi (fun (r' : Int32) (u : qH) => r' = r ∧ u = X2) (fun u t => qO D kz b0 sz u t) (qA b0) a9) (qA b0)) (hS : va_S (qA b0) H0 H locs)
    (kk : ∀ (H1 : Heap) (locs1 : List Loc), qR D kz b0 X2 H1 → va_S (qA b0) H0 H1 locs1 → H1.size = sz → W p l e R s m args below meth c H1 locs1 cells slots Q (F0 m (pc + 3) ls (.int r :: rest))) : W p l e R s m args below meth c H locs cells slots Q (F0 m pc ls st0) := by
  refine va_calli hr hS (fun _ _ h => h) (fun _ h => h) (fun r1 u t H1 locs1 ht hvm hp hB _ _ hS1 => ?_)
  obtain ⟨rfl, rfl⟩ := hp
  exact kk H1 locs1 (by rw [← ht]; exact hB.1) hS1 (by rw [← ht]; exact hB.2)
theorem q_callv {a9 : Array Value} {X2 : qH} (hr : va_Run p l e R s m args below meth c H locs cells slots 0 0 (F0 m pc ls st0) rest (va_Qv (fun (u : qH) => u = X2) (fun u t => qO D kz b0 sz u t) (qA b0) a9) (qA b0)) (hS : va_S (qA b0) H0 H locs)
    (kk : ∀ (H1 : Heap) (locs1 : List Loc), qR D kz b0 X2 H1 → va_S (qA b0) H0 H1 locs1 → H1.size = sz → W p l e R s m args below meth c H1 locs1 cells slots Q (F0 m (pc + 3) ls rest)) : W p l e R s m args below meth c H locs cells slots Q (F0 m pc ls st0) := by
  refine va_callv hr hS (fun _ _ h => h) (fun _ h => h) (fun u t H1 locs1 ht hvm hp hB _ _ hS1 => ?_)
  subst hp
  exact kk H1 locs1 (by rw [← ht]; exact hB.1) hS1 (by rw [← ht]; exact hB.2)
/-- returns -/
theorem q_iret {r v : Int32} {X2 : qH} (hx : p.tables.exec = Jvm.exec) (hb : c.code = cc) (hr : meth.sig.returnType = some .int) (hlocks : meth.locks = false) (hR : qR D kz b0 X H) (hS : va_S (qA b0) s.heap H locs) (hz : H.size = sz) (h1 : v = r) (h2 : X = X2) (hdg : decode cc pc = .ok (.ireturn, 1)) :
    W p l e R s m args below meth c H locs cells slots (MQ below (va_Qi (fun (r' : Int32) (u : qH) => r' = r ∧ u = X2) (fun u t => qO D kz b0 sz u t) (qA b0)) args s cells slots (qA b0)) (F0 m pc ls [.int v]) := by
  subst h1; subst h2
  exact W.iret hx hb hr (fun t ht hW => ⟨⟨v, X, rfl, ⟨rfl, rfl⟩, by rw [← ht] at hR; exact hR, by rw [ht]; exact hz⟩, hS.F ht⟩) hS.2.2 hdg
theorem q_zret {r v : Int32} {X2 : qH} (hx : p.tables.exec = Jvm.exec) (hb : c.code = cc) (hr : meth.sig.returnType = some .boolean) (hlocks : meth.locks = false) (hR : qR D kz b0 X H) (hS : va_S (qA b0) s.heap H locs) (hz : H.size = sz) (h1 : v = r) (h01 : v = 0 ∨ v = 1) (h2 : X = X2) (hdg : decode cc pc = .ok (.ireturn, 1)) :
    W p l e R s m args below meth c H locs cells slots (MQ below (va_Qi (fun (r' : Int32) (u : qH) => r' = r ∧ u = X2) (fun u t => qO D kz b0 sz u t) (qA b0)) args s cells slots (qA b0)) (F0 m pc ls [.int v]) := by
  subst h1; subst h2
  exact W.zret hx hb hr (q_nar h01) (fun t ht hW => ⟨⟨v, X, rfl, ⟨rfl, rfl⟩, by rw [← ht] at hR; exact hR, by rw [ht]; exact hz⟩, hS.F ht⟩) hS.2.2 hdg
theorem q_vret {X2 : qH} (hx : p.tables.exec = Jvm.exec) (hb : c.code = cc) (hr : meth.sig.returnType = none) (hlocks : meth.locks = false) (hR : qR D kz b0 X H) (hS : va_S (qA b0) s.heap H locs) (hz : H.size = sz) (h2 : X = X2) (hdg : decode cc pc = .ok (.return_, 1)) :
    W p l e R s m args below meth c H locs cells slots (MQ below (va_Qv (fun (u : qH) => u = X2) (fun u t => qO D kz b0 sz u t) (qA b0)) args s cells slots (qA b0)) (F0 m pc ls []) := by
  subst h2
  exact W.vret hx hb hr (fun t ht hW => ⟨⟨X, rfl, rfl, by rw [← ht] at hR; exact hR, by rw [ht]; exact hz⟩, hS.F ht⟩) hS.2.2 hdg
end QW2
/-- the words of a method: its code, and all good words of the tables -/
abbrev qws (y : MethodName) (b : ByteArray) (n : Nat) (ret : Option FieldType) : List Cond := .code y b n ret :: qW
theorem q_gI0 {y2 : MethodName} {b2 : ByteArray} {n2 : Nat} {ret2 : Option FieldType} (h : Cond.code y2 b2 n2 ret2 ∈ qW) : GoodIn qW (qws y2 b2 n2 ret2) := fun w hw => by
  have hm : w ∈ qW := (List.mem_cons.mp hw).elim (fun e => by rw [e]; exact h) id
  exact ⟨hm, good_of_word (qW_good hm)⟩
theorem q_gV {y2 : MethodName} {b2 : ByteArray} {n2 : Nat} {ret2 : Option FieldType} {own C : String} {idx : Nat} (h : Cond.code y2 b2 n2 ret2 ∈ qW) (h1 : Cond.methodLink own idx y2 ∈ qW) (h2 : Cond.instanceMethod y2 ∈ qW) (h3 : Cond.selects C y2 y2 ∈ qW) (h4 : Cond.initialized C ∈ qW) : GoodIn qW (wsV own idx C y2 (qws y2 b2 n2 ret2)) := fun w hw => by
  have hm : w ∈ qW := by
    simp only [wsV, List.mem_append, List.mem_cons, List.not_mem_nil, or_false] at hw
    rcases hw with (rfl | rfl | rfl | rfl) | rfl | hw
    · exact h1
    · exact h2
    · exact h3
    · exact h4
    · exact h
    · exact hw
  exact ⟨hm, good_of_word (qW_good hm)⟩
theorem q_gS {y2 : MethodName} {b2 : ByteArray} {n2 : Nat} {ret2 : Option FieldType} {own : String} {idx : Nat} (h : Cond.code y2 b2 n2 ret2 ∈ qW) (h1 : Cond.methodLink own idx y2 ∈ qW) (h2 : Cond.static y2 ∈ qW) (h4 : Cond.initialized y2.cls ∈ qW) : GoodIn qW (va_wsS own idx y2 (qws y2 b2 n2 ret2)) := fun w hw => by
  have hm : w ∈ qW := by
    simp only [va_wsS, List.mem_append, List.mem_cons, List.not_mem_nil, or_false] at hw
    rcases hw with (rfl | rfl | rfl) | rfl | hw
    · exact h1
    · exact h2
    · exact h4
    · exact h
    · exact hw
  exact ⟨hm, good_of_word (qW_good hm)⟩
section QW3
variable {p : Program} {l : Launch} {e : Env} {R : Room} {s : State} {m : MethodId} {args : Array Value} {below : List Frame} {meth : Method} {c : Code} {H : Heap} {locs : List Loc} {cells slots : Nat} {Q : State → Prop}
variable {cc : ByteArray} {pc : Nat} {ls : Array Slot} {rest st0 : List Value} {D : va_G} {kz : Nat → Nat} {b0 a sz : Nat} {X : qH} {H0 : Heap} {own : String} {T : u_T} {N ci index : Nat} {C : String} {Ts : List Cond} {ρ : Type} {res : ρ}
theorem q_pI (hx : p.tables.exec = Jvm.exec) (hb : c.code = cc) (hts : ∀ w ∈ Ts, w.before args s = true) (hown : s.vm.findClass own = some m.cls) (hK : qV D kz s) (hR : qR D kz b0 X H) (hS0 : va_S (qA b0) H0 H locs) (hz : H.size = sz) (hin : ∀ w ∈ u_ws C T N, w ∈ Ts) (hc : vwCl[ci]? = some (C, T, N)) {ty0 : Nat → FieldType} (hty : ∀ k, k < N → parseFieldDescriptor (T k).2.2.1 = some (ty0 k)) (hnm : ∀ a, a < N → ∀ b, b < N → a ≠ b → (T a).2.1 ≠ (T b).2.1) (k : Nat) (hk : k < N) (hlink : (Cond.fieldLink own index (T k).1 (T k).2.1 (T k).2.2.1).before args s = true) (hfin : (T k).2.2.2 = false) {v : Int32} (ht0 : ty0 k = .int) {K : qH → Option ρ} (hf : (qpI X ci a k v).bind K = some res) (hdg : decode cc pc = .ok (.putfield index, 3))
    (kk : ∀ (X : qH), K X = some res → ∀ (H : Heap) (locs : List Loc), qR D kz b0 X H → va_S (qA b0) H0 H locs → H.size = sz → W p l e R s m args below meth c H locs cells slots Q (F0 m (pc + 3) ls rest)) : W p l e R s m args below meth c H locs cells slots Q (F0 m pc ls (.int v :: .ref a :: rest)) := by
  obtain ⟨X2, hv, hf⟩ := q_b hf
  exact q_put0 hx hb hts hown hK hR hS0 hz hin hc ty0 hty hnm k hk hlink hfin (by rw [ht0]; rfl) (by rw [ht0]; rfl) hv hdg (kk X2 hf)
theorem q_pZ (hx : p.tables.exec = Jvm.exec) (hb : c.code = cc) (hts : ∀ w ∈ Ts, w.before args s = true) (hown : s.vm.findClass own = some m.cls) (hK : qV D kz s) (hR : qR D kz b0 X H) (hS0 : va_S (qA b0) H0 H locs) (hz : H.size = sz) (hin : ∀ w ∈ u_ws C T N, w ∈ Ts) (hc : vwCl[ci]? = some (C, T, N)) {ty0 : Nat → FieldType} (hty : ∀ k, k < N → parseFieldDescriptor (T k).2.2.1 = some (ty0 k)) (hnm : ∀ a, a < N → ∀ b, b < N → a ≠ b → (T a).2.1 ≠ (T b).2.1) (k : Nat) (hk : k < N) (hlink : (Cond.fieldLink own index (T k).1 (T k).2.1 (T k).2.2.1).before args s = true) (hfin : (T k).2.2.2 = false) {v : Int32} (ht0 : ty0 k = .boolean) {K : qH → Option ρ} (hf : (qpZ X ci a k v).bind K = some res) (hdg : decode cc pc = .ok (.putfield index, 3))
    (kk : ∀ (X : qH), K X = some res → ∀ (H : Heap) (locs : List Loc), qR D kz b0 X H → va_S (qA b0) H0 H locs → H.size = sz → W p l e R s m args below meth c H locs cells slots Q (F0 m (pc + 3) ls rest)) : W p l e R s m args below meth c H locs cells slots Q (F0 m pc ls (.int v :: .ref a :: rest)) := by
  obtain ⟨X2, hv, hf⟩ := q_b hf
  obtain ⟨h01, hv⟩ := qpZ_spec hv
  exact q_put0 hx hb hts hown hK hR hS0 hz hin hc ty0 hty hnm k hk hlink hfin (by rw [ht0]; exact q_nar h01) (by rw [ht0]; exact q_fit h01) hv hdg (kk X2 hf)
theorem q_pR (hx : p.tables.exec = Jvm.exec) (hb : c.code = cc) (hts : ∀ w ∈ Ts, w.before args s = true) (hown : s.vm.findClass own = some m.cls) (hK : qV D kz s) (hR : qR D kz b0 X H) (hS0 : va_S (qA b0) H0 H locs) (hz : H.size = sz) (hin : ∀ w ∈ u_ws C T N, w ∈ Ts) (hc : vwCl[ci]? = some (C, T, N)) {ty0 : Nat → FieldType} (hty : ∀ k, k < N → parseFieldDescriptor (T k).2.2.1 = some (ty0 k)) (hnm : ∀ a, a < N → ∀ b, b < N → a ≠ b → (T a).2.1 ≠ (T b).2.1) (k : Nat) (hk : k < N) (hlink : (Cond.fieldLink own index (T k).1 (T k).2.1 (T k).2.2.1).before args s = true) (hfin : (T k).2.2.2 = false) {v : Nat} (hn : narrow (ty0 k) (.ref v) = .ref v) (hfit : fits (ty0 k) (.ref v) = true) {K : qH → Option ρ} (hf : (qpR X ci a k v).bind K = some res) (hdg : decode cc pc = .ok (.putfield index, 3))
    (kk : ∀ (X : qH), K X = some res → ∀ (H : Heap) (locs : List Loc), qR D kz b0 X H → va_S (qA b0) H0 H locs → H.size = sz → W p l e R s m args below meth c H locs cells slots Q (F0 m (pc + 3) ls rest)) : W p l e R s m args below meth c H locs cells slots Q (F0 m pc ls (.ref v :: .ref a :: rest)) := by
  obtain ⟨X2, hv, hf⟩ := q_b hf
  exact q_put0 hx hb hts hown hK hR hS0 hz hin hc ty0 hty hnm k hk hlink hfin hn hfit hv hdg (kk X2 hf)
end QW3
/-- the head of every method -/
theorem q_start {l : Launch} {y : MethodName} {cc : ByteArray} {maxL mc ms : Nat} {ret : Option FieldType} {rm : Room} {av : List Value} {D : va_G} {kz : Nat → Nat} {b0 sz : Nat} {X : qH} {Qc : Array Value → State → Outcome → State → Prop} (hy : plainName y.cls = true) (hlen : (lg_sl av).length ≤ maxL)
    (body : ∀ (p : Program) (e : Env) (s : State) (m : MethodId) (args : Array Value) (below : List Frame) (meth : Method) (c : Code), p.tables.exec = Jvm.exec → c.code = cc → meth.sig.returnType = ret → meth.locks = false → meth.name = y.name → c.maxLocals = maxL → s.vm.findClass y.cls = some m.cls → (∀ w ∈ qW, w.before args s = true) → qR D kz b0 X s.heap → qV D kz s → s.heap.size = sz → ∀ ls : Array Slot, lv_has ls maxL (lv_args 0 av) → W p l e rm s m args below meth c s.heap [] 0 0 (MQ below Qc args s mc ms (qA b0)) (F0 m 0 ls [])) :
    Met l y (qws y cc maxL ret) rm (va_Pc av (qU D kz b0 sz X)) Qc mc ms (qA b0) := by
  refine Met.ofW (cc := cc) (maxL := maxL) (ret := ret) hy rfl ?_
  intro p e s m args below meth c s₁ B hml hv
  obtain ⟨rfl, hR, hK, hz⟩ := hv
  have hts := atoms_spec (ws := qws y cc maxL ret) B.pre
  have hl := lv_entry av hlen
  have h := body p e s m av.toArray below meth c B.exec B.bytes B.returns B.notSynchronized (name_of_methodNamed B.named B.method).1 hml (findClass_of_methodNamed B.named) (fun w hw => hts w (List.mem_cons_of_mem _ hw)) hR hK hz _ hl
  rw [lg_entry_eq]
  exact h
theorem q_lt {α β : Type} {v t : α} {K : α → Option β} {r : β} (e : v = t) (h : qlt t K = some r) : K v = some r := by rw [e]; exact h
def qlab {τ ρ : Type} (k : τ) (b : τ → Option ρ) : Option ρ := b k
theorem q_lab {τ ρ : Type} {k : τ} {b : τ → Option ρ} {r : ρ} (h : qlab k b = some r) : ∃ J, J = k ∧ b J = some r := ⟨k, rfl, h⟩
def qb0 {γ : Type} (x : Option Unit) (k : Option γ) : Option γ := x.bind fun _ => k
def qb2 {α β γ : Type} (x : Option (α × β)) (k : α → β → Option γ) : Option γ := x.bind fun p => k p.1 p.2
def qb3 {α β δ γ : Type} (x : Option (α × β × δ)) (k : α → β → δ → Option γ) : Option γ := x.bind fun p => k p.1 p.2.1 p.2.2
def qb4 {α β δ ε γ : Type} (x : Option (α × β × δ × ε)) (k : α → β → δ → ε → Option γ) : Option γ := x.bind fun p => k p.1 p.2.1 p.2.2.1 p.2.2.2
theorem q_b0 {γ : Type} {x : Option Unit} {k : Option γ} {r : γ} (h : qb0 x k = some r) : x = some () ∧ k = some r := by
  obtain ⟨v, h1, h2⟩ := Option.bind_eq_some_iff.mp h
  exact ⟨h1, h2⟩
theorem q_b2 {α β γ : Type} {x : Option (α × β)} {k : α → β → Option γ} {r : γ} (h : qb2 x k = some r) : ∃ a b, x = some (a, b) ∧ k a b = some r := by
  obtain ⟨⟨a, b⟩, h1, h2⟩ := Option.bind_eq_some_iff.mp h
  exact ⟨a, b, h1, h2⟩
theorem q_b3 {α β δ γ : Type} {x : Option (α × β × δ)} {k : α → β → δ → Option γ} {r : γ} (h : qb3 x k = some r) : ∃ a b d, x = some (a, b, d) ∧ k a b d = some r := by
  obtain ⟨⟨a, b, d⟩, h1, h2⟩ := Option.bind_eq_some_iff.mp h
  exact ⟨a, b, d, h1, h2⟩
theorem q_b4 {α β δ ε γ : Type} {x : Option (α × β × δ × ε)} {k : α → β → δ → ε → Option γ} {r : γ} (h : qb4 x k = some r) : ∃ a b d e, x = some (a, b, d, e) ∧ k a b d e = some r := by
  obtain ⟨⟨a, b, d, e⟩, h1, h2⟩ := Option.bind_eq_some_iff.mp h
  exact ⟨a, b, d, e, h1, h2⟩
/-- an end of a loop that may be the method's end, with 0 to 4 values -/
def qsm0 {ρ γ : Type} (o : ρ ⊕ Unit) (k1 : ρ → γ) (k2 : γ) : γ := match o with | .inl z => k1 z | .inr _ => k2
def qsm1 {ρ α γ : Type} (o : ρ ⊕ α) (k1 : ρ → γ) (k2 : α → γ) : γ := match o with | .inl z => k1 z | .inr a => k2 a
def qsm2 {ρ α β γ : Type} (o : ρ ⊕ (α × β)) (k1 : ρ → γ) (k2 : α → β → γ) : γ := match o with | .inl z => k1 z | .inr a => k2 a.1 a.2
def qsm3 {ρ α β δ γ : Type} (o : ρ ⊕ (α × β × δ)) (k1 : ρ → γ) (k2 : α → β → δ → γ) : γ := match o with | .inl z => k1 z | .inr a => k2 a.1 a.2.1 a.2.2
theorem qsm0_r {ρ γ : Type} {k1 : ρ → Option γ} {k2 : Option γ} {r : γ} (h : qsm0 (.inr ()) k1 k2 = some r) : k2 = some r := h
theorem qsm1_r {ρ α γ : Type} {a : α} {k1 : ρ → Option γ} {k2 : α → Option γ} {r : γ} (h : qsm1 (.inr a) k1 k2 = some r) : k2 a = some r := h
theorem qsm2_r {ρ α β γ : Type} {a : α} {b : β} {k1 : ρ → Option γ} {k2 : α → β → Option γ} {r : γ} (h : qsm2 (.inr (a, b)) k1 k2 = some r) : k2 a b = some r := h
theorem qsm3_r {ρ α β δ γ : Type} {a : α} {b : β} {d : δ} {k1 : ρ → Option γ} {k2 : α → β → δ → Option γ} {r : γ} (h : qsm3 (.inr (a, b, d)) k1 k2 = some r) : k2 a b d = some r := h
/-! making cells: at the heap's size -/
def qnI (X : qH) (a n : Nat) : qH := va_up X a (some (.inl (0, n, .inl (fun _ => 0))))
def qnZ (X : qH) (a n : Nat) : qH := va_up X a (some (.inl (1, n, .inl (fun _ => 0))))
def qnR (X : qH) (a n : Nat) : qH := va_up X a (some (.inl (2, n, .inr (.inr (.inr (.inr (fun _ => none)))))))
def qnO (X : qH) (a ci : Nat) (fs : List Value) : qH := va_up X a (some (.inr (ci, fs)))
theorem qR.push {D : va_G} {kz : Nat → Nat} {b0 : Nat} {X : qH} {H H1 : Heap} {a : Nat} {c : va_E} (h : qR D kz b0 X H) (hb : b0 ≤ a) (ha : H.size = a) (hc : va_at D vwCl (a, qE kz c) H1) (oq : ∀ q : Nat, q < a → H1[q]? = H[q]?) : qR D kz b0 (va_up X a (some c)) H1 := by
  intro x d hx
  by_cases he : x = a
  · subst he
    simp only [va_up, if_true] at hx
    cases hx
    exact ⟨hb, hc⟩
  · simp only [va_up, if_neg he] at hx
    exact ⟨(h x d hx).1, (h x d hx).2.kept (oq x (by rw [← ha]; exact (h x d hx).2.lt))⟩
section QWN
variable {p : Program} {l : Launch} {e : Env} {R : Room} {s : State} {m : MethodId} {args : Array Value} {below : List Frame} {meth : Method} {c : Code} {H : Heap} {locs : List Loc} {cells slots : Nat} {Q : State → Prop}
variable {cc : ByteArray} {pc : Nat} {ls : Array Slot} {rest st0 : List Value} {D : va_G} {kz : Nat → Nat} {b0 a sz : Nat} {X : qH} {H0 : Heap} {own : String} {T : u_T} {N ci index : Nat} {C : String} {Ts : List Cond} {ρ : Type} {res : ρ}
theorem q_newI {n : Int32} (hx : p.tables.exec = Jvm.exec) (hb : c.code = cc) (harr : (Cond.arrayClass (newarray.typeOf .int)).before args s = true) (hK : qV D kz s) (hR : qR D kz b0 X H) (hS : va_S (qA b0) H0 H locs) (hb0 : b0 ≤ sz) (hz : H.size = sz) (hn : ¬ n < 0) (hN : n.toNatClampNeg = N) (hbytes : N * componentBytes (newarray.typeOf .int) ≤ 536870912) (hcells : cells + 1 ≤ R.cells) (hslots : slots + N ≤ R.slots) (hdg : decode cc pc = .ok (.newarray .int, 2))
    (kk : ∀ (H : Heap), qR D kz b0 (qnI X sz N) H → va_S (qA b0) H0 H locs → H.size = sz + 1 → W p l e R s m args below meth c H locs (cells + 1) (slots + N) Q (F0 m (pc + 2) ls (.ref sz :: rest))) : W p l e R s m args below meth c H locs cells slots Q (F0 m pc ls (.int n :: rest)) := by
  subst hz
  refine va_newaK hx hb harr rfl hdg rfl hn hN hbytes hcells hslots rfl fun H1 cA e1 z1 o1 hAr hNm => ?_
  have hg : s.vm.findClass ("[" ++ (newarray.typeOf .int).toString) = some (kz 0) := (hK.1.2 0 _ rfl).2
  have hc : cA = kz 0 := Option.some.inj (hNm.symm.trans hg)
  subst hc
  have e2 : H1[H.size]? = some (vp_cell (kz 0) (N, .inl (fun _ => 0))) := e1
  exact kk H1 (hR.push hb0 rfl e2 o1) ⟨Nat.le_trans hS.1 (by omega), fun x h1 h2 => (o1 x (Nat.lt_of_lt_of_le h1 hS.1)).trans (hS.2.1 x h1 h2), hS.2.2⟩ z1
theorem q_newZ {n : Int32} (hx : p.tables.exec = Jvm.exec) (hb : c.code = cc) (harr : (Cond.arrayClass (newarray.typeOf .boolean)).before args s = true) (hK : qV D kz s) (hR : qR D kz b0 X H) (hS : va_S (qA b0) H0 H locs) (hb0 : b0 ≤ sz) (hz : H.size = sz) (hn : ¬ n < 0) (hN : n.toNatClampNeg = N) (hbytes : N * componentBytes (newarray.typeOf .boolean) ≤ 536870912) (hcells : cells + 1 ≤ R.cells) (hslots : slots + N ≤ R.slots) (hdg : decode cc pc = .ok (.newarray .boolean, 2))
    (kk : ∀ (H : Heap), qR D kz b0 (qnZ X sz N) H → va_S (qA b0) H0 H locs → H.size = sz + 1 → W p l e R s m args below meth c H locs (cells + 1) (slots + N) Q (F0 m (pc + 2) ls (.ref sz :: rest))) : W p l e R s m args below meth c H locs cells slots Q (F0 m pc ls (.int n :: rest)) := by
  subst hz
  refine va_newaK hx hb harr rfl hdg rfl hn hN hbytes hcells hslots rfl fun H1 cA e1 z1 o1 hAr hNm => ?_
  have hg : s.vm.findClass ("[" ++ (newarray.typeOf .boolean).toString) = some (kz 1) := (hK.1.2 1 _ rfl).2
  have hc : cA = kz 1 := Option.some.inj (hNm.symm.trans hg)
  subst hc
  have e2 : H1[H.size]? = some (vp_cell (kz 1) (N, .inl (fun _ => 0))) := e1
  exact kk H1 (hR.push hb0 rfl e2 o1) ⟨Nat.le_trans hS.1 (by omega), fun x h1 h2 => (o1 x (Nat.lt_of_lt_of_le h1 hS.1)).trans (hS.2.1 x h1 h2), hS.2.2⟩ z1
theorem q_newR {n : Int32} (hx : p.tables.exec = Jvm.exec) (hb : c.code = cc) (hown : s.vm.findClass own = some m.cls) (hclink : (Cond.classLink own index RX3).before args s = true) (hK : qV D kz s) (hR : qR D kz b0 X H) (hS : va_S (qA b0) H0 H locs) (hb0 : b0 ≤ sz) (hz : H.size = sz) (hn : ¬ n < 0) (hN : n.toNatClampNeg = N) (hbytes : N * 4 ≤ 536870912) (hcells : cells + 1 ≤ R.cells) (hslots : slots + N ≤ R.slots) (hdg : decode cc pc = .ok (.anewarray index, 3))
    (kk : ∀ (H : Heap), qR D kz b0 (qnR X sz N) H → va_S (qA b0) H0 H locs → H.size = sz + 1 → W p l e R s m args below meth c H locs (cells + 1) (slots + N) Q (F0 m (pc + 3) ls (.ref sz :: rest))) : W p l e R s m args below meth c H locs cells slots Q (F0 m pc ls (.int n :: rest)) := by
  subst hz
  subst hN
  obtain ⟨h1, h2, h3, h4, h5, h6, h7, h8, h9, h10⟩ := hK.2
  refine W.anew hx hb hown hclink (va_AO.use h10) rfl hdg rfl hn hbytes hcells hslots fun cA kA comp f1 f2 f3 f4 => ?_
  generalize hH1 : H.push ({ cls := cA, slots := Array.replicate n.toNatClampNeg .null, vm := .none } : Cell) = H1
  have z1 : H1.size = H.size + 1 := by rw [← hH1, Array.size_push]
  have e1 : H1[H.size]? = some (arrV cA n.toNatClampNeg (fun _ => .null)) := by rw [← hH1, Array.getElem?_push_size, ← arrV_new]
  have o1 : ∀ q : Nat, q < H.size → H1[q]? = H[q]? := fun q hq => by rw [← hH1, Array.getElem?_push, if_neg (Nat.ne_of_lt hq)]
  have hc : cA = kz 2 := by
    obtain ⟨kA2, comp2, g1, g2, g3, g4⟩ := (hK.1.2 2 _ rfl).2
    exact Option.some.inj (f1.symm.trans g4)
  subst hc
  exact kk H1 (hR.push hb0 rfl e1 o1) ⟨Nat.le_trans hS.1 (by omega), fun x h1 h2 => (o1 x (Nat.lt_of_lt_of_le h1 hS.1)).trans (hS.2.1 x h1 h2), hS.2.2⟩ z1
theorem q_newO (hx : p.tables.exec = Jvm.exec) (hb : c.code = cc) (hts : ∀ w ∈ Ts, w.before args s = true) (hown : s.vm.findClass own = some m.cls) (hin : ∀ w ∈ u_ws C T N, w ∈ Ts) (hc : vwCl[ci]? = some (C, T, N)) {ty : Nat → FieldType} (hty : ∀ k, k < N → parseFieldDescriptor (T k).2.2.1 = some (ty k)) (hcl : (Cond.classLink own index C).before args s = true) (hinst : (Cond.instantiable C N).before args s = true) (hini : (Cond.initialized C).before args s = true)
    (hK : qV D kz s) (hR : qR D kz b0 X H) (hS : va_S (qA b0) H0 H locs) (hb0 : b0 ≤ sz) (hz : H.size = sz) (fs : List Value) (hfs : ∀ j, j < N → defaultValue (ty j) = vp_V fs j) (hcells : cells + 1 ≤ R.cells) (hslots : slots + N ≤ R.slots) (hdg : decode cc pc = .ok (.new index, 3))
    (kk : ∀ (H : Heap), qR D kz b0 (qnO X sz ci fs) H → va_S (qA b0) H0 H locs → H.size = sz + 1 → W p l e R s m args below meth c H locs (cells + 1) (slots + N) Q (F0 m (pc + 3) ls (.ref sz :: rest))) : W p l e R s m args below meth c H locs cells slots Q (F0 m pc ls rest) := by
  subst hz
  have hKn := hK.1.1 ci _ hc
  refine W.newcK hx hb hown hcl hinst hini rfl hdg hcells hslots hKn.2.1 rfl fun H1 kC hkC e1 z1 o1 => ?_
  exact kk H1 (hR.push hb0 rfl ⟨_, hc, (u_born ty hts hin hKn hkC e1 hty).to hfs⟩ o1) ⟨Nat.le_trans hS.1 (by omega), fun x h1 h2 => (o1 x (Nat.lt_of_lt_of_le h1 hS.1)).trans (hS.2.1 x h1 h2), hS.2.2⟩ z1
theorem q_aast (hx : p.tables.exec = Jvm.exec) (hb : c.code = cc) (hK : qV D kz s) (hR : qR D kz b0 X H) (hS : va_S (qA b0) H0 H locs) (hz : H.size = sz) {i : Int32} {v : Nat} {K : qH → Option ρ} (hf : (qaT X a i v).bind K = some res) (hdg : decode cc pc = .ok (.aastore, 1))
    (kk : ∀ (X : qH), K X = some res → ∀ (H : Heap) (locs : List Loc), qR D kz b0 X H → va_S (qA b0) H0 H locs → H.size = sz → W p l e R s m args below meth c H locs cells slots Q (F0 m (pc + 1) ls rest)) : W p l e R s m args below meth c H locs cells slots Q (F0 m pc ls (.ref v :: .int i :: .ref a :: rest)) := by
  obtain ⟨X2, hv, hf⟩ := q_b hf
  obtain ⟨n, f, fs, hX, hV, hin, rfl⟩ := qaT_spec hv
  obtain ⟨hba, hat⟩ := hR a _ hX
  have hlt : i.toNatClampNeg < n := Nat.not_le.mp fun q => hin (Or.inr q)
  have h0 : ¬ i < 0 := fun q => hin (Or.inl q)
  obtain ⟨-, r', hr', cellV, g1, g2, g3, -⟩ := hR v _ hV
  have hcls := (hK.1.1 3 _ (show vwCl[3]? = some (RX3, TX3, 8) from rfl)).2
  obtain ⟨kA, comp, k1, k2, k3, -⟩ := (hK.1.2 2 _ rfl).2
  have hcomp : comp = D.1 3 := Option.some.inj (k3.symm.trans hcls.1)
  subst hcomp
  obtain ⟨kC, hkC, -⟩ := hcls.2
  refine W.aast hx hb hat (fun q h => by cases h) (fun h => by cases h) k1 k2 rfl hkC ⟨h0, by show _ < (arrV _ _ _).slots.size; rw [arrV_size]; exact hlt⟩ g1 (fun q h => by rw [g3] at h; cases h) (by rw [g2]; exact hkC) (by rw [g2]; exact va_assign hcls) rfl rfl hdg fun H1 e z oq => ?_
  refine kk _ hf H1 _ (hR.set hba ?_ oq) (hS.put z oq hba) (by rw [z]; exact hz)
  show H1[a]? = some (vp_cell _ _)
  rw [e]
  show some (Cell.setSlot (vp_cell _ _) _ _) = _
  rw [vp_cell_q, vp_cell_q, arrV_store]
  congr 2
  funext q
  by_cases hq : q = i.toNatClampNeg
  · subst hq
    simp [updV, va_up, va_rf]
  · simp [updV, va_up, hq]
theorem q_pF (hx : p.tables.exec = Jvm.exec) (hb : c.code = cc) (hts : ∀ w ∈ Ts, w.before args s = true) (hown : s.vm.findClass own = some m.cls) (hK : qV D kz s) (hR : qR D kz b0 X H) (hS0 : va_S (qA b0) H0 H locs) (hz : H.size = sz) (hin : ∀ w ∈ u_ws C T N, w ∈ Ts) (hc : vwCl[ci]? = some (C, T, N)) {ty0 : Nat → FieldType} (hty : ∀ k, k < N → parseFieldDescriptor (T k).2.2.1 = some (ty0 k)) (hnm : ∀ a, a < N → ∀ b, b < N → a ≠ b → (T a).2.1 ≠ (T b).2.1) (k : Nat) (hk : k < N) (hlink : (Cond.fieldLink own index (T k).1 (T k).2.1 (T k).2.2.1).before args s = true) (hfin : (T k).2.2.2 = true) (hin2 : meth.name = "<init>") (hdecl : (T k).1 = own) {v : Nat} (hn : narrow (ty0 k) (.ref v) = .ref v) (hfit : fits (ty0 k) (.ref v) = true) {K : qH → Option ρ} (hf : (qpR X ci a k v).bind K = some res) (hdg : decode cc pc = .ok (.putfield index, 3))
    (kk : ∀ (X : qH), K X = some res → ∀ (H : Heap) (locs : List Loc), qR D kz b0 X H → va_S (qA b0) H0 H locs → H.size = sz → W p l e R s m args below meth c H locs cells slots Q (F0 m (pc + 3) ls rest)) : W p l e R s m args below meth c H locs cells slots Q (F0 m pc ls (.ref v :: .ref a :: rest)) := by
  obtain ⟨X2, hv, hf⟩ := q_b hf
  exact q_putF hx hb hts hown hK hR hS0 hz hin hc ty0 hty hnm k hk hlink hfin hin2 hdecl hn hfit hv hdg (kk X2 hf)
/-- a constructor's call: mc cells come -/
theorem q_callc {mc ms sz2 : Nat} {a9 : Array Value} {X2 : qH} (hr : va_Run p l e R s m args below meth c H locs cells slots mc ms (F0 m pc ls st0) rest (va_Qv (fun (u : qH) => u = X2) (fun u t => qO D kz b0 sz2 u t) (qA b0) a9) (qA b0)) (hS : va_S (qA b0) H0 H locs)
    (kk : ∀ (H1 : Heap) (locs1 : List Loc), qR D kz b0 X2 H1 → va_S (qA b0) H0 H1 locs1 → H1.size = sz2 → W p l e R s m args below meth c H1 locs1 (cells + mc) (slots + ms) Q (F0 m (pc + 3) ls rest)) : W p l e R s m args below meth c H locs cells slots Q (F0 m pc ls st0) := by
  refine va_callv hr hS (fun _ _ h => h) (fun _ h => h) (fun u t H1 locs1 ht hvm hp hB _ _ hS1 => ?_)
  subst hp
  exact kk H1 locs1 (by rw [← ht]; exact hB.1) hS1 (by rw [← ht]; exact hB.2)
end QWN
theorem q_gI1 {own : String} {idx : Nat} {y2 : MethodName} {b2 : ByteArray} {n2 : Nat} {ret2 : Option FieldType} (h : Cond.code y2 b2 n2 ret2 ∈ qW) : GoodIn qW (qws y2 b2 n2 ret2) := q_gI0 h
