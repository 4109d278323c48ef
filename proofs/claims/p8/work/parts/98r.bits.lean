/-! bits as the code reads them -/
theorem bv_1 (x : BitVec 32) : x &&& 1#32 = if x.getLsbD 0 = true then 1#32 else 0#32 := by
  rw [BitVec.and_one_eq_setWidth_ofBool_getLsbD]
  cases x.getLsbD 0 <;> rfl
theorem i32_1 (x : Int32) : (x &&& Int32.ofInt 1).toInt = if x.toBitVec.getLsbD 0 = true then 1 else 0 := by
  have e : (x &&& Int32.ofInt 1).toBitVec = if x.toBitVec.getLsbD 0 = true then 1#32 else 0#32 := by
    show x.toBitVec &&& (Int32.ofInt 1).toBitVec = _
    exact bv_1 x.toBitVec
  show (x &&& Int32.ofInt 1).toBitVec.toInt = _
  rw [e]
  split <;> rfl
theorem sh_lit : ∀ l, l < 16 → ((Int32.ofInt (l : Nat) &&& 31).toBitVec.smod 32).toNat = l := by decide
theorem ush_lit : ∀ l, l < 16 → (((Int32.ofInt (l : Nat)).toUInt32 &&& Int32.toUInt32 31).toBitVec % 32).toNat = l := by decide
theorem bt_shr (m : Int32) {l : Nat} (hl : l < 16) : (m >>> (Int32.ofInt (l : Int) &&& 31)).toBitVec.getLsbD 0 = bt m l := by
  show (m.toBitVec.sshiftRight ((Int32.ofInt (l : Nat) &&& 31).toBitVec.smod 32).toNat).getLsbD 0 = _
  rw [sh_lit l hl, BitVec.getLsbD_sshiftRight]
  simp [bt]
  omega
theorem bt_ushr (m : Int32) {l : Nat} (hl : l < 16) : (m.toUInt32 >>> ((Int32.ofInt (l : Int)).toUInt32 &&& Int32.toUInt32 31)).toInt32.toBitVec.getLsbD 0 = bt m l := by
  show (m.toBitVec >>> (((Int32.ofInt (l : Nat)).toUInt32 &&& Int32.toUInt32 31).toBitVec % 32).toNat).getLsbD 0 = _
  rw [ush_lit l hl, BitVec.getLsbD_ushiftRight]
  simp [bt]
