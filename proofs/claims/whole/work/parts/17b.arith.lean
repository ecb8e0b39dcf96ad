/-! ARITHMETIC of the machine, where nothing overflows. -/
theorem w32_id {z : Int} (h0 : -2147483648 ≤ z) (h1 : z < 2147483648) : w32 z = z := by
  unfold w32
  exact Int.bmod_eq_of_le (by omega) (by omega)
theorem w64_id {z : Int} (h0 : -9223372036854775808 ≤ z) (h1 : z < 9223372036854775808) : w64 z = z := by
  unfold w64
  exact Int.bmod_eq_of_le (by omega) (by omega)
theorem i_div_id {a b : Int} (ha : 0 ≤ a) (ha2 : a < 2147483648) (hb : 0 < b) (hb2 : b < 2147483648) : i_div a b = a / b := by
  unfold i_div o32
  rw [Int32.toInt_div, n_of (by omega), n_of (by omega), Int.tdiv_eq_ediv_of_nonneg ha]
  have h1 : 0 ≤ a / b := Int.ediv_nonneg ha (by omega)
  have h2 : a / b ≤ a := Int.ediv_le_self b ha
  exact Int.bmod_eq_of_le (by omega) (by omega)
theorem i_rem_id {a b : Int} (ha : 0 ≤ a) (ha2 : a < 2147483648) (hb : 0 < b) (hb2 : b < 2147483648) : i_rem a b = a % b := by
  have h0 := i_div_id ha ha2 hb hb2
  unfold i_div o32 at h0
  unfold i_rem o32
  have h1 : 0 ≤ a / b := Int.ediv_nonneg ha (by omega)
  have h2 : a / b ≤ a := Int.ediv_le_self b ha
  have h3 : 0 ≤ a % b := Int.emod_nonneg a (by omega)
  have h4 : a % b < b := Int.emod_lt_of_pos a hb
  have h5 : a / b * b = a - a % b := by
    have := Int.mul_ediv_add_emod a b
    rw [Int.mul_comm] at this
    omega
  rw [Int32.toInt_sub, Int32.toInt_mul, h0, n_of (by omega), n_of (by omega), h5, Int.bmod_eq_of_le (n := a - a % b) (by omega) (by omega), show a - (a - a % b) = a % b by omega]
  exact Int.bmod_eq_of_le (by omega) (by omega)
