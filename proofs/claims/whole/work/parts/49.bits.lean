/-! the routers seen, as bits -/
def bitN (z : Int32) (c : Nat) : Bool := z.toBitVec.getLsbD c
theorem bit_sh : ∀ c, c < 10 → ((nI c &&& 31).toBitVec.smod 32).toNat = c := by decide +kernel
theorem bit_1 : ∀ a, a < 10 → ∀ c, c < 10 → ((1 : Int32) <<< (nI a &&& 31)).toBitVec.getLsbD c = decide (c = a) := by decide +kernel
theorem bit_at {z : Int32} {c : Nat} (hc : c < 10) : (z >>> (nI c &&& 31)) &&& 1 = if bitN z c = true then 1 else 0 := by
  rw [pk_and (z >>> (nI c &&& 31)) 1 (by decide)]
  have h : (z >>> (nI c &&& 31)).toBitVec.getLsbD 0 = bitN z c := by
    rw [Int32.toBitVec_shiftRight, BitVec.getLsbD_sshiftRight', bit_sh c hc, if_pos (by omega), Nat.add_zero]
    rfl
  have h2 : (z >>> (nI c &&& 31)).toBitVec.toNat.testBit 0 = bitN z c := h
  rw [Nat.testBit_zero] at h2
  rw [← h2, Nat.pow_one]
  by_cases e : (z >>> (nI c &&& 31)).toBitVec.toNat % 2 = 1
  · rw [if_pos (decide_eq_true e), e]; rfl
  · rw [if_neg (by rw [decide_eq_false e]; decide), show (z >>> (nI c &&& 31)).toBitVec.toNat % 2 = 0 by omega]; rfl
theorem bit_or {z : Int32} {a c : Nat} (ha : a < 10) (hc : c < 10) : bitN (z ||| ((1 : Int32) <<< (nI a &&& 31))) c = (bitN z c || decide (c = a)) := by
  unfold bitN
  rw [Int32.toBitVec_or, BitVec.getLsbD_or, bit_1 a ha c hc]
theorem bit_0 {c : Nat} (hc : c < 10) : bitN 0 c = false := by
  have h : ∀ c, c < 10 → bitN 0 c = false := by decide +kernel
  exact h c hc
