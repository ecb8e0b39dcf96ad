/-! BITS: a name's letters; what was told. -/
theorem bv_nat {a : Nat} (h : a < 18446744073709551616) : (Int64.ofInt (a : Int)).toBitVec.toNat = a := by
  rw [Int64.toBitVec_ofInt, BitVec.ofInt_natCast, BitVec.toNat_ofNat]
  exact Nat.mod_eq_of_lt h
theorem bv_int {x : Int64} (h : x.toBitVec.toNat < 9223372036854775808) : x.toInt = (x.toBitVec.toNat : Int) := by
  show x.toBitVec.toInt = _
  exact BitVec.toInt_eq_toNat_of_lt (by omega)
theorem shl8 {v x : Int} (v0 : 0 ≤ v) (v1 : v < 36028797018963968) (x0 : 0 ≤ x) (x1 : x < 256) : l_or (l_shl v 8) x = v * 256 + x := by
  obtain ⟨a, rfl⟩ := Int.eq_ofNat_of_zero_le v0
  obtain ⟨c, rfl⟩ := Int.eq_ofNat_of_zero_le x0
  have s8 : ((Int32.ofInt 8).toInt64 &&& 63) = (8 : Int64) := by decide
  have e1 : (Int64.ofInt (a : Int) <<< (8 : Int64)).toBitVec.toNat = a * 256 := by
    rw [Int64.toBitVec_shiftLeft, show ((8 : Int64).toBitVec.smod 64) = 8#64 by decide]
    show (((Int64.ofInt (a : Int)).toBitVec <<< (8#64).toNat)).toNat = _
    rw [show (8#64).toNat = 8 by decide, BitVec.toNat_shiftLeft, bv_nat (by omega), Nat.shiftLeft_eq]
    exact Nat.mod_eq_of_lt (by omega)
  have e2 : l_shl (a : Int) 8 = ((a * 256 : Nat) : Int) := by
    unfold l_shl
    rw [s8, bv_int (by rw [e1]; omega), e1]
  have e3 : (Int64.ofInt ((a * 256 : Nat) : Int) ||| Int64.ofInt (c : Int)).toBitVec.toNat = a * 256 + c := by
    rw [Int64.toBitVec_or, BitVec.toNat_or, bv_nat (by omega), bv_nat (by omega)]
    have h := Nat.shiftLeft_add_eq_or_of_lt (i := 8) (b := c) (by omega) a
    rw [Nat.shiftLeft_eq] at h
    have h' : a * 256 + c = a * 256 ||| c := h
    omega
  rw [e2]
  unfold l_or o64
  show (Int64.ofInt ((a * 256 : Nat) : Int) ||| Int64.ofInt (c : Int)).toInt = _
  rw [bv_int (by rw [e3]; omega), e3]
  omega
theorem sh15 : ∀ r : Nat, r < 15 → ((Int32.ofInt (r : Int)) &&& 31).toBitVec.smod 32 = BitVec.ofNat 32 r := by decide +kernel
theorem i_bit {m : Int} {r : Nat} (hr : r < 15) : i_and (i_shr m (r : Int)) 1 = if (BitVec.ofInt 32 m).getLsbD r = true then 1 else 0 := by
  unfold i_and i_shr o32
  show (Int32.ofInt ((Int32.ofInt m) >>> ((Int32.ofInt (r : Int)) &&& 31)).toInt &&& Int32.ofInt 1).toInt = _
  rw [Int32.ofInt_toInt]
  have e : ((Int32.ofInt m) >>> ((Int32.ofInt (r : Int)) &&& 31) &&& Int32.ofInt 1).toBitVec = if (BitVec.ofInt 32 m).getLsbD r = true then 1#32 else 0#32 := by
    rw [Int32.toBitVec_and, Int32.toBitVec_shiftRight, sh15 r hr, BitVec.sshiftRight_eq', BitVec.toNat_ofNat, Nat.mod_eq_of_lt (by omega)]
    refine BitVec.eq_of_getLsbD_eq fun i hi => ?_
    have one : (Int32.ofInt 1).toBitVec = 1#32 := rfl
    have ob : (Int32.ofInt m).toBitVec = BitVec.ofInt 32 m := rfl
    rw [one, ob, BitVec.getLsbD_and, BitVec.getLsbD_one, BitVec.getLsbD_sshiftRight]
    by_cases z : i = 0
    · subst z
      cases hb : (BitVec.ofInt 32 m).getLsbD r <;> simp [hb] <;> omega
    · cases hb : (BitVec.ofInt 32 m).getLsbD r <;> simp [z]
  show (((Int32.ofInt m) >>> ((Int32.ofInt (r : Int)) &&& 31)) &&& Int32.ofInt 1).toBitVec.toInt = _
  rw [e]
  split <;> rfl
theorem one15 : ∀ a : Nat, a < 15 → ∀ r : Nat, r < 15 → (BitVec.ofInt 32 (i_shl 1 (a : Int))).getLsbD r = decide (a = r) := by decide +kernel
theorem i_told {m : Int} {a r : Nat} (ha : a < 15) (hr : r < 15) : i_and (i_shr (i_or m (i_shl 1 (a : Int))) (r : Int)) 1 = if a = r then 1 else i_and (i_shr m (r : Int)) 1 := by
  rw [i_bit hr, i_bit hr]
  have e : BitVec.ofInt 32 (i_or m (i_shl 1 (a : Int))) = BitVec.ofInt 32 m ||| BitVec.ofInt 32 (i_shl 1 (a : Int)) := by
    unfold i_or o32
    show (Int32.ofInt ((Int32.ofInt m ||| Int32.ofInt (i_shl 1 (a : Int))).toInt)).toBitVec = _
    rw [Int32.ofInt_toInt, Int32.toBitVec_or]
    rfl
  rw [e, BitVec.getLsbD_or, one15 a ha r hr]
  by_cases z : a = r
  · rw [if_pos z]
    simp [z]
  · rw [if_neg z]
    simp [z]
theorem i_bit0 {r : Nat} (hr : r < 15) : i_and (i_shr 0 (r : Int)) 1 = 0 := by
  rw [i_bit hr]
  simp
