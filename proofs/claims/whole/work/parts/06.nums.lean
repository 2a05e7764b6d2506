/-! whole numbers and the machine's words -/
theorem ds_o32 (x : Int32) : Int32.ofInt x.toInt = x := Int32.ofInt_toInt x
theorem ds_o64 (x : Int64) : Int64.ofInt x.toInt = x := Int64.ofInt_toInt x
theorem ds_r32 (x : Int32) : -2147483648 ≤ x.toInt ∧ x.toInt < 2147483648 := by
  have h1 := Int32.le_toInt x
  have h2 := Int32.toInt_lt x
  omega
theorem ds_r64 (x : Int64) : -9223372036854775808 ≤ x.toInt ∧ x.toInt < 9223372036854775808 := by
  have h1 := Int64.le_toInt x
  have h2 := Int64.toInt_lt x
  omega
theorem ds_t32 {x : Int} (h1 : -2147483648 ≤ x) (h2 : x < 2147483648) : (Int32.ofInt x).toInt = x := Int32.toInt_ofInt_of_le (by omega) (by omega)
theorem ds_t64 {x : Int} (h1 : -9223372036854775808 ≤ x) (h2 : x < 9223372036854775808) : (Int64.ofInt x).toInt = x := Int64.toInt_ofInt_of_le (by omega) (by omega)
theorem dsw_id {x : Int} (h1 : -2147483648 ≤ x) (h2 : x < 2147483648) : dsw x = x := ds_t32 h1 h2
theorem dsw64_id {x : Int} (h1 : -9223372036854775808 ≤ x) (h2 : x < 9223372036854775808) : dsw64 x = x := ds_t64 h1 h2
theorem dsw_o (x : Int) : Int32.ofInt (dsw x) = Int32.ofInt x := ds_o32 _
theorem dsw64_o (x : Int) : Int64.ofInt (dsw64 x) = Int64.ofInt x := ds_o64 _
theorem ds_lt32 {x y : Int} (hx : -2147483648 ≤ x ∧ x < 2147483648) (hy : -2147483648 ≤ y ∧ y < 2147483648) : Int32.ofInt x < Int32.ofInt y ↔ x < y := by
  rw [Int32.lt_iff_toInt_lt, ds_t32 hx.1 hx.2, ds_t32 hy.1 hy.2]
theorem ds_le32 {x y : Int} (hx : -2147483648 ≤ x ∧ x < 2147483648) (hy : -2147483648 ≤ y ∧ y < 2147483648) : Int32.ofInt x ≤ Int32.ofInt y ↔ x ≤ y := by
  rw [Int32.le_iff_toInt_le, ds_t32 hx.1 hx.2, ds_t32 hy.1 hy.2]
theorem ds_eq32 {x y : Int} (hx : -2147483648 ≤ x ∧ x < 2147483648) (hy : -2147483648 ≤ y ∧ y < 2147483648) : Int32.ofInt x = Int32.ofInt y ↔ x = y := by
  rw [← Int32.toInt_inj, ds_t32 hx.1 hx.2, ds_t32 hy.1 hy.2]
theorem ds_lt64 {x y : Int} (hx : -9223372036854775808 ≤ x ∧ x < 9223372036854775808) (hy : -9223372036854775808 ≤ y ∧ y < 9223372036854775808) : Int64.ofInt x < Int64.ofInt y ↔ x < y := by
  rw [Int64.lt_iff_toInt_lt, ds_t64 hx.1 hx.2, ds_t64 hy.1 hy.2]
theorem ds_eq64 {x y : Int} (hx : -9223372036854775808 ≤ x ∧ x < 9223372036854775808) (hy : -9223372036854775808 ≤ y ∧ y < 9223372036854775808) : Int64.ofInt x = Int64.ofInt y ↔ x = y := by
  rw [← Int64.toInt_inj, ds_t64 hx.1 hx.2, ds_t64 hy.1 hy.2]
theorem ds_div32 {x y : Int} (hx : -2147483648 ≤ x ∧ x < 2147483648) (hy : -2147483648 ≤ y ∧ y < 2147483648) : Int32.ofInt (dsw (x.tdiv y)) = Int32.ofInt x / Int32.ofInt y := by
  rw [dsw_o, ← Int32.toInt_inj, Int32.toInt_div, Int32.toInt_ofInt, ds_t32 hx.1 hx.2, ds_t32 hy.1 hy.2]
theorem ds_div64 {x y : Int} (hx : -9223372036854775808 ≤ x ∧ x < 9223372036854775808) (hy : -9223372036854775808 ≤ y ∧ y < 9223372036854775808) : Int64.ofInt (dsw64 (x.tdiv y)) = Int64.ofInt x / Int64.ofInt y := by
  rw [dsw64_o, ← Int64.toInt_inj, Int64.toInt_div, Int64.toInt_ofInt, ds_t64 hx.1 hx.2, ds_t64 hy.1 hy.2]
theorem ds_rem32 {x y : Int} (hx : -2147483648 ≤ x ∧ x < 2147483648) (hy : -2147483648 ≤ y ∧ y < 2147483648) : x.tmod y = (Int32.ofInt x - Int32.ofInt x / Int32.ofInt y * Int32.ofInt y).toInt := by
  rw [rem_toInt, ds_t32 hx.1 hx.2, ds_t32 hy.1 hy.2]
theorem ds_lrem (a m : Int64) : (a - a / m * m).toInt = a.toInt.tmod m.toInt := by
  have h1 := Int64.le_toInt (a % m)
  have h2 := Int64.toInt_lt (a % m)
  rw [Int64.toInt_sub, Int64.toInt_mul, Int64.toInt_div, Int.bmod_mul_bmod, Int.sub_bmod_bmod, Int.mul_comm (a.toInt.tdiv m.toInt), ← Int.tmod_def, ← Int64.toInt_mod]
  exact Int.bmod_eq_of_le_mul_two (by omega) (by omega)
theorem ds_rem64 {x y : Int} (hx : -9223372036854775808 ≤ x ∧ x < 9223372036854775808) (hy : -9223372036854775808 ≤ y ∧ y < 9223372036854775808) : x.tmod y = (Int64.ofInt x - Int64.ofInt x / Int64.ofInt y * Int64.ofInt y).toInt := by
  rw [ds_lrem, ds_t64 hx.1 hx.2, ds_t64 hy.1 hy.2]
theorem ds_i2l {x : Int} (hx : -2147483648 ≤ x ∧ x < 2147483648) : (Int32.ofInt x).toInt64 = Int64.ofInt x := by
  rw [← Int64.toInt_inj, Int32.toInt_toInt64, ds_t32 hx.1 hx.2, ds_t64 (by omega) (by omega)]
theorem ds_l2i {x : Int} : (Int64.ofInt x).toInt32 = Int32.ofInt x := by
  first | exact Int64.toInt32_ofInt x | exact Int64.toInt32_ofInt | simp
theorem ds_cmp {x y : Int} (hx : -9223372036854775808 ≤ x ∧ x < 9223372036854775808) (hy : -9223372036854775808 ≤ y ∧ y < 9223372036854775808) : Int32.ofInt (dsLc x y) = lg_cmp (Int64.ofInt x) (Int64.ofInt y) := by
  unfold dsLc lg_cmp
  by_cases h1 : x < y
  · rw [if_pos h1, if_neg (by rw [gt_iff_lt, ds_lt64 hy hx]; omega), if_neg (by rw [ds_eq64 hx hy]; omega)]
    rfl
  · by_cases h2 : x = y
    · rw [if_neg h1, if_pos h2, if_neg (by rw [gt_iff_lt, ds_lt64 hy hx]; omega), if_pos (by rw [ds_eq64 hx hy]; exact h2)]
      rfl
    · rw [if_neg h1, if_neg h2, if_pos (by rw [gt_iff_lt, ds_lt64 hy hx]; omega)]
      rfl
theorem ds_nat32 {x : Int} (h0 : 0 ≤ x) (h2 : x < 2147483648) : (Int32.ofInt x).toNatClampNeg = x.toNat := by
  show (Int32.ofInt x).toInt.toNat = x.toNat
  rw [ds_t32 (by omega) h2]
theorem ds_in {x : Int} {n : Nat} (h0 : 0 ≤ x) (h1 : x < n) (h2 : x < 2147483648) : vp_in (Int32.ofInt x) n := by
  unfold vp_in
  rw [ds_nat32 h0 h2]
  rintro (h | h)
  · rw [show (0 : Int32) = Int32.ofInt 0 from rfl, ds_lt32 (by omega) (by omega)] at h
    omega
  · omega
