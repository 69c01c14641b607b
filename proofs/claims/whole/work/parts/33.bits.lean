/-! COST AND CHOICE IN ONE NUMBER -/
theorem sh32 : (Int32.toInt64 32 &&& 63 : Int64).toBitVec.smod 64 = 32#64 := by decide
theorem lo0 : ∀ j : Fin 32, (4294967295#64)[32 + j.val]'(by omega) = false := by decide
theorem lo1 : ∀ j : Fin 32, (4294967295#32)[j.val]'(by omega) = true := by decide
theorem m_cs_pk (a b : Int32) : m_cs (m_pk a b) = a := by
  apply Int32.toBitVec_inj.mp
  unfold m_cs m_pk
  rw [Int64.toBitVec_toInt32, Int64.toBitVec_shiftRight, Int64.toBitVec_or, Int64.toBitVec_shiftLeft, sh32, Int64.toBitVec_and, Int32.toBitVec_toInt64, Int32.toBitVec_toInt64]
  rw [show (4294967295 : Int64).toBitVec = 4294967295#64 from rfl]
  apply BitVec.eq_of_getLsbD_eq
  intro i hi
  have h64 : 32 + i < 64 := by omega
  have h65 : i < 64 := by omega
  have h66 : ¬ 32 + i < 32 := by omega
  have h67 : (4294967295#64)[32 + i] = false := lo0 ⟨i, hi⟩
  simp [BitVec.getElem_signExtend, BitVec.getLsbD_sshiftRight, BitVec.getElem_sshiftRight, hi, h64, h65, h66, h67]
theorem m_ch_pk (a b : Int32) : Int64.toInt32 (m_pk a b) = b := by
  apply Int32.toBitVec_inj.mp
  unfold m_pk
  rw [Int64.toBitVec_toInt32, Int64.toBitVec_or, Int64.toBitVec_shiftLeft, sh32, Int64.toBitVec_and, Int32.toBitVec_toInt64, Int32.toBitVec_toInt64]
  rw [show (4294967295 : Int64).toBitVec = 4294967295#64 from rfl]
  apply BitVec.eq_of_getLsbD_eq
  intro i hi
  have h64 : i < 64 := by omega
  have h67 : (4294967295#32)[i] = true := lo1 ⟨i, hi⟩
  simp [BitVec.getElem_signExtend, hi, h64, h67]
theorem m_cs_max : m_cs 9223372032559808512 = 2147483647 := by decide
