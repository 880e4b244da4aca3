theorem am_div_nn {a b : Int} (ha : 0 ≤ a) (ha' : a < 2147483648) (hb : 0 < b) (hb' : b < 2147483648) : am_div a b = a / b := by
  unfold am_div
  have e1 : (Int32.ofInt a).toInt = a := Int32.toInt_ofInt_of_le (by omega) (by omega)
  have e2 : (Int32.ofInt b).toInt = b := Int32.toInt_ofInt_of_le (by omega) (by omega)
  rw [Int32.toInt_div, e1, e2, Int.tdiv_eq_ediv_of_nonneg ha]
  have h1 : 0 ≤ a / b := Int.ediv_nonneg ha (by omega)
  have h2 : a / b ≤ a := Int.ediv_le_self b ha
  exact Int.bmod_eq_of_le_mul_two (by omega) (by omega)
theorem am_rem_nn {a b : Int} (ha : 0 ≤ a) (ha' : a < 2147483648) (hb : 0 < b) (hb' : b < 2147483648) : am_rem a b = a % b := by
  unfold am_rem
  have h := am_div_nn ha ha' hb hb'
  unfold am_div at h
  have e1 : (Int32.ofInt a).toInt = a := Int32.toInt_ofInt_of_le (by omega) (by omega)
  have e2 : (Int32.ofInt b).toInt = b := Int32.toInt_ofInt_of_le (by omega) (by omega)
  have h1 : 0 ≤ a % b := Int.emod_nonneg _ (by omega)
  have h2 : a % b < b := Int.emod_lt_of_pos _ hb
  have h3 : a / b * b + a % b = a := by rw [Int.mul_comm]; exact Int.mul_ediv_add_emod a b
  rw [Int32.toInt_sub, Int32.toInt_mul, h, e1, e2]
  have h4 : 0 ≤ a / b * b := Int.mul_nonneg (Int.ediv_nonneg ha (by omega)) (by omega)
  rw [Int.bmod_eq_of_le_mul_two (x := a / b * b) (by omega) (by omega)]
  rw [Int.bmod_eq_of_le_mul_two (by omega) (by omega)]
  omega
