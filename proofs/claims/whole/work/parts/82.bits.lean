/-! PURE: bits. -/
def loB (m : Int32) (i : Nat) : Bool := m.toBitVec.getLsbD i
theorem sh_amt : ∀ i : Fin 32, ((nI i.1 &&& 31).toBitVec.smod 32#32).toNat = i.1 := by decide
theorem lo_one : ∀ j : Fin 32, (1#32).getLsbD j.1 = decide (j.1 = 0) := by decide
theorem lo_sh {m : Int32} {i : Nat} (hi : i < 32) : (m >>> (nI i &&& 31)).toBitVec = m.toBitVec.sshiftRight i := by
  have e : ((nI i &&& 31).toBitVec.smod 32).toNat = i := sh_amt ⟨i, hi⟩
  rw [Int32.toBitVec_shiftRight]
  unfold BitVec.sshiftRight'
  rw [e]
theorem lo_iff {m : Int32} {i : Nat} (hi : i < 32) : ((m >>> (nI i &&& 31)) &&& (1 : Int32)) = (if loB m i = true then 1 else 0) := by
  apply Int32.toBitVec_inj.mp
  rw [Int32.toBitVec_and, lo_sh hi]
  apply BitVec.eq_of_getLsbD_eq
  intro j hj
  have o : (1 : Int32).toBitVec = 1#32 := rfl
  rw [BitVec.getLsbD_and, o, lo_one ⟨j, hj⟩, BitVec.getLsbD_sshiftRight]
  by_cases j0 : j = 0
  · subst j0
    unfold loB
    by_cases b : m.toBitVec.getLsbD i = true
    · rw [if_pos b]; simp [hi, b]
    · have b2 : m.toBitVec.getLsbD i = false := by simpa using b
      rw [if_neg b, Nat.add_zero, b2]; simp; omega
  · unfold loB
    have e1 := lo_one ⟨j, hj⟩
    by_cases b : m.toBitVec.getLsbD i = true
    · rw [if_pos b, o, e1]; simp [j0]
    · rw [if_neg b]; simp [j0]
theorem lo_bit : ∀ i j : Fin 32, loB ((1 : Int32) <<< (nI i.1 &&& 31)) j.1 = decide (j.1 = i.1) := by decide
theorem lo_or {m : Int32} {i j : Nat} (hi : i < 32) (hj : j < 32) : loB (m ||| ((1 : Int32) <<< (nI i &&& 31))) j = (loB m j || decide (j = i)) := by
  have e := lo_bit ⟨i, hi⟩ ⟨j, hj⟩
  have e : loB ((1 : Int32) <<< (nI i &&& 31)) j = decide (j = i) := e
  rw [← e]
  unfold loB
  rw [Int32.toBitVec_or, BitVec.getLsbD_or]
theorem lo_zero {j : Nat} : loB 0 j = false := by
  unfold loB
  have o : (0 : Int32).toBitVec = 0#32 := rfl
  rw [o, BitVec.getLsbD_zero]
