/-! single bits -/
theorem sm_ix : ∀ i : Fin 32, ((nI i.val &&& 31).toBitVec.smod 32).toNat = i.val := by decide +kernel
theorem shr_tb {x : Int32} {i : Nat} (h : i < 32) : ((x >>> (nI i &&& 31)) &&& 1 = 1) ↔ tb x i := by
  have es : ((nI i &&& 31).toBitVec.smod 32).toNat = i := sm_ix ⟨i, h⟩
  rw [← Int32.toBitVec_inj]
  show (x.toBitVec.sshiftRight ((nI i &&& 31).toBitVec.smod 32).toNat &&& 1#32 = 1#32) ↔ x.toBitVec.getLsbD i = true
  rw [es]
  generalize x.toBitVec = y
  have e0 : (y.sshiftRight i).getLsbD 0 = y.getLsbD i := by
    rw [BitVec.getLsbD_sshiftRight]
    simp [h]
  constructor
  · intro e
    have e1 := congrArg (fun z => z.getLsbD 0) e
    rw [← e0]
    simpa using e1
  · intro e
    rw [← e0] at e
    apply BitVec.eq_of_getLsbD_eq
    intro j hj
    rw [BitVec.getLsbD_and, BitVec.getLsbD_one]
    by_cases q : j = 0
    · subst q; simp [e]
    · simp [q]
theorem and_tb {x : Int32} {i : Nat} (h : i < 32) : (x &&& ((1 : Int32) <<< (nI i &&& 31)) = 0) ↔ ¬ tb x i := by
  have es : ((nI i &&& 31).toBitVec.smod 32).toNat = i := sm_ix ⟨i, h⟩
  rw [← Int32.toBitVec_inj]
  show (x.toBitVec &&& (1#32 <<< ((nI i &&& 31).toBitVec.smod 32).toNat) = 0#32) ↔ ¬ x.toBitVec.getLsbD i = true
  rw [es]
  generalize x.toBitVec = y
  constructor
  · intro e q
    have e1 : (y &&& 1#32 <<< i).getLsbD i = (0#32).getLsbD i := by rw [e]
    rw [BitVec.getLsbD_and, BitVec.getLsbD_shiftLeft, BitVec.getLsbD_one, q] at e1
    simp [h] at e1
  · intro q
    apply BitVec.eq_of_getLsbD_eq
    intro j hj
    rw [BitVec.getLsbD_and, BitVec.getLsbD_shiftLeft, BitVec.getLsbD_one]
    by_cases z : j = i
    · subst z; simp [q]
    · by_cases z2 : j < i
      · simp [z2]
      · simp [show ¬ j - i = 0 by omega]
