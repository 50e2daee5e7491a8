noncomputable section
/-! ===== bits of a number ===== -/
theorem gBit_01 (v j : Int) : gBit v j = 0 ∨ gBit v j = 1 := by
  have k1 := sAnd_n (x := Int32.ofInt (gBo 11 v j)) (y := Int32.ofInt 1) (by decide)
  have k2 : (Int32.ofInt 1).toInt = 1 := by decide
  have e : gBit v j = (Int32.ofInt (gBo 11 v j) &&& Int32.ofInt 1).toInt := rfl
  omega
theorem gOfN {j : Nat} (hj : j < 31) : Int32.ofInt (j : Int) = Int32.ofNat j := by
  rw [← Int32.toInt_inj, sI_toInt (sI_iff.mpr (by omega)), Int32.toInt_ofNat_of_lt (by omega)]
theorem gShr_bv (x : Int32) {j : Nat} (hj : j < 31) : (x >>> (Int32.ofInt (j : Int) &&& 31)).toBitVec = x.toBitVec.sshiftRight j := by
  rw [gOfN hj]
  show x.toBitVec.sshiftRight ((Int32.ofNat j &&& 31).toBitVec.smod 32).toNat = _
  rw [sShc j hj]
theorem gShl_bv (x : Int32) {j : Nat} (hj : j < 31) : (x <<< (Int32.ofInt (j : Int) &&& 31)).toBitVec = x.toBitVec <<< j := by
  rw [gOfN hj, Int32.toBitVec_shiftLeft, BitVec.shiftLeft_eq', sShc j hj]
theorem gBit_eq (v : Int) {j : Nat} (hj : j < 31) : gBit v (j : Int) = if (Int32.ofInt v).toBitVec.getLsbD j = true then 1 else 0 := by
  have e : gBit v (j : Int) = (Int32.ofInt (gBo 11 v j) &&& Int32.ofInt 1).toInt := rfl
  have e1 : Int32.ofInt (gBo 11 v (j : Int)) = Int32.ofInt v >>> (Int32.ofInt (j : Int) &&& 31) := Int32.ofInt_toInt _
  rw [e, e1]
  generalize hy : Int32.ofInt v >>> (Int32.ofInt (j : Int) &&& 31) = y
  have hb : y.toBitVec = (Int32.ofInt v).toBitVec.sshiftRight j := by rw [← hy]; exact gShr_bv _ hj
  have h1 : (y &&& Int32.ofInt 1).toBitVec.toNat = y.toBitVec.toNat % 2 := by
    rw [Int32.toBitVec_and, BitVec.toNat_and]
    exact Nat.and_one_is_mod _
  have h2 : (y &&& Int32.ofInt 1).toBitVec.toNat < 2147483648 := by omega
  rw [sNt h2, h1]
  have h3 : y.toBitVec.getLsbD 0 = (Int32.ofInt v).toBitVec.getLsbD j := by
    rw [hb, BitVec.getLsbD_sshiftRight]
    have hl : j < 32 := by omega
    simp [hl]
  have h4 : y.toBitVec.getLsbD 0 = decide (y.toBitVec.toNat % 2 = 1) := by
    show y.toBitVec.toNat.testBit 0 = _
    rw [Nat.testBit_zero]
  rw [← h3, h4]
  by_cases q : y.toBitVec.toNat % 2 = 1
  · simp [q]
  · have q0 : y.toBitVec.toNat % 2 = 0 := by omega
    simp [q0]
theorem gBo12 (v x : Int) : gBo 12 v x = gBo 9 v (gBo 10 1 x) := by
  show (Int32.ofInt v ^^^ (Int32.ofInt 1 <<< (Int32.ofInt x &&& 31))).toInt = (Int32.ofInt v ^^^ Int32.ofInt ((Int32.ofInt 1 <<< (Int32.ofInt x &&& 31)).toInt)).toInt
  rw [Int32.ofInt_toInt]
theorem gBit_turn (v : Int) {x j : Nat} (hx : x < 31) (hj : j < 31) : gBit (gBo 12 v (x : Int)) (j : Int) = if j = x then 1 - gBit v (j : Int) else gBit v (j : Int) := by
  rw [gBit_eq _ hj, gBit_eq _ hj]
  have e1 : Int32.ofInt (gBo 12 v (x : Int)) = Int32.ofInt v ^^^ (Int32.ofInt 1 <<< (Int32.ofInt (x : Int) &&& 31)) := Int32.ofInt_toInt _
  have e2 : (Int32.ofInt 1).toBitVec = 1#32 := rfl
  rw [e1, Int32.toBitVec_xor, gShl_bv _ hx, e2, BitVec.getLsbD_xor, BitVec.getLsbD_shiftLeft]
  have hj' : j < 32 := by omega
  by_cases q : j = x
  · subst q
    cases (Int32.ofInt v).toBitVec.getLsbD j <;> simp [hj']
  · by_cases q1 : j < x
    · cases (Int32.ofInt v).toBitVec.getLsbD j <;> simp [hj', q, q1]
    · have q2 : ¬ (j - x = 0) := by omega
      cases (Int32.ofInt v).toBitVec.getLsbD j <;> simp [hj', q, q1, q2]
theorem gBit_or (v z : Int) {m j : Nat} (hz : z = 0 ∨ z = 1) (hm : m < 31) (hj : j < 31) : gBit (gBo 8 v (gBo 10 z (m : Int))) (j : Int) = if j = m ∧ z = 1 then 1 else gBit v (j : Int) := by
  rw [gBit_eq _ hj, gBit_eq _ hj]
  have e1 : Int32.ofInt (gBo 8 v (gBo 10 z (m : Int))) = Int32.ofInt v ||| (Int32.ofInt z <<< (Int32.ofInt (m : Int) &&& 31)) := by
    show Int32.ofInt ((Int32.ofInt v ||| Int32.ofInt ((Int32.ofInt z <<< (Int32.ofInt (m : Int) &&& 31)).toInt)).toInt) = _
    rw [Int32.ofInt_toInt, Int32.ofInt_toInt]
  rw [e1, Int32.toBitVec_or, gShl_bv _ hm, BitVec.getLsbD_or, BitVec.getLsbD_shiftLeft]
  have hj' : j < 32 := by omega
  rcases hz with rfl | rfl
  · have e2 : (Int32.ofInt 0).toBitVec = 0#32 := rfl
    rw [e2]
    cases (Int32.ofInt v).toBitVec.getLsbD j <;> simp
  · have e2 : (Int32.ofInt 1).toBitVec = 1#32 := rfl
    rw [e2]
    by_cases q : j = m
    · subst q
      cases (Int32.ofInt v).toBitVec.getLsbD j <;> simp [hj']
    · by_cases q1 : j < m
      · cases (Int32.ofInt v).toBitVec.getLsbD j <;> simp [hj', q, q1]
      · have q2 : ¬ (j - m = 0) := by omega
        cases (Int32.ofInt v).toBitVec.getLsbD j <;> simp [hj', q, q1, q2]
theorem gXor_self {b z : Int} (hb : sI b = true) : gBo 9 (gBo 9 b z) z = b := by
  show (Int32.ofInt ((Int32.ofInt b ^^^ Int32.ofInt z).toInt) ^^^ Int32.ofInt z).toInt = b
  rw [Int32.ofInt_toInt]
  have e : Int32.ofInt b ^^^ Int32.ofInt z ^^^ Int32.ofInt z = Int32.ofInt b := by
    apply Int32.toBitVec_inj.mp
    rw [Int32.toBitVec_xor, Int32.toBitVec_xor, BitVec.xor_assoc, BitVec.xor_self, BitVec.xor_zero]
  rw [e, sI_toInt hb]
theorem gBo_I {o : Nat} {m n : Int} : sI (gBo o m n) = true := by
  unfold gBo
  split <;> exact sI_of _
theorem gBo9_bit (b : Int) (h : b = 0 ∨ b = 1) : gBo 9 b 1 = 1 - b := by
  rcases h with rfl | rfl <;> decide
end
