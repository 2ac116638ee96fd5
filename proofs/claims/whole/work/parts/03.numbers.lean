/-! numbers of the machine as Int -/
abbrev ab_V : Type := Int ⊕ Int ⊕ Int
abbrev ab_C : Type := Nat × Nat × (Nat → Int)
abbrev ab_H : Type := Nat × Nat × (Nat → ab_C)
abbrev ab_I (x : Int) : ab_V := .inl x
abbrev ab_J (x : Int) : ab_V := .inr (.inl x)
abbrev ab_R (x : Int) : ab_V := .inr (.inr x)
def ab_w8 (x : Int) : Int := (x + 128) % 256 - 128
def ab_w32 (x : Int) : Int := (x + 2147483648) % 4294967296 - 2147483648
def ab_w64 (x : Int) : Int := (x + 9223372036854775808) % 18446744073709551616 - 9223372036854775808
def ab_i32 (x : Int) : Prop := -2147483648 ≤ x ∧ x < 2147483648
def ab_i64 (x : Int) : Prop := -9223372036854775808 ≤ x ∧ x < 9223372036854775808
theorem ab_w32_in (x : Int) : ab_i32 (ab_w32 x) := by unfold ab_i32 ab_w32; omega
theorem ab_w64_in (x : Int) : ab_i64 (ab_w64 x) := by unfold ab_i64 ab_w64; omega
theorem ab_w32_id {x : Int} (h : ab_i32 x) : ab_w32 x = x := by unfold ab_i32 at h; unfold ab_w32; omega
theorem ab_w64_id {x : Int} (h : ab_i64 x) : ab_w64 x = x := by unfold ab_i64 at h; unfold ab_w64; omega
theorem ab_toInt32 (x : Int) : (Int32.ofInt x).toInt = ab_w32 x := by
  rw [Int32.toInt_ofInt]; unfold ab_w32; simp only [Int.bmod, Int32.size]; split <;> omega
theorem ab_toInt64 (x : Int) : (Int64.ofInt x).toInt = ab_w64 x := by
  rw [Int64.toInt_ofInt]; unfold ab_w64; simp only [Int.bmod, Int64.size]; split <;> omega
theorem ab_in32 (z : Int32) : ab_i32 z.toInt := ⟨by have := Int32.le_toInt z; omega, by have := Int32.toInt_lt z; omega⟩
theorem ab_in64 (z : Int64) : ab_i64 z.toInt := ⟨by have := Int64.le_toInt z; omega, by have := Int64.toInt_lt z; omega⟩
theorem ab_of32 (x : Int) : Int32.ofInt (ab_w32 x) = Int32.ofInt x := by
  apply Int32.toInt_inj.mp
  rw [ab_toInt32, ab_toInt32]; unfold ab_w32; omega
theorem ab_of64 (x : Int) : Int64.ofInt (ab_w64 x) = Int64.ofInt x := by
  apply Int64.toInt_inj.mp
  rw [ab_toInt64, ab_toInt64]; unfold ab_w64; omega
theorem ab_add (x y : Int) : Int32.ofInt x + Int32.ofInt y = Int32.ofInt (ab_w32 (x + y)) := by rw [ab_of32, Int32.ofInt_add]
theorem ab_sub (x y : Int) : Int32.ofInt x - Int32.ofInt y = Int32.ofInt (ab_w32 (x - y)) := by rw [ab_of32, Int32.ofInt_sub]
theorem ab_mul (x y : Int) : Int32.ofInt x * Int32.ofInt y = Int32.ofInt (ab_w32 (x * y)) := by rw [ab_of32, Int32.ofInt_mul]
theorem ab_addL (x y : Int) : Int64.ofInt x + Int64.ofInt y = Int64.ofInt (ab_w64 (x + y)) := by rw [ab_of64, Int64.ofInt_add]
theorem ab_subL (x y : Int) : Int64.ofInt x - Int64.ofInt y = Int64.ofInt (ab_w64 (x - y)) := by rw [ab_of64, Int64.ofInt_sub]
theorem ab_mulL (x y : Int) : Int64.ofInt x * Int64.ofInt y = Int64.ofInt (ab_w64 (x * y)) := by rw [ab_of64, Int64.ofInt_mul]
theorem ab_lt {x y : Int} (hx : ab_i32 x) (hy : ab_i32 y) : Int32.ofInt x < Int32.ofInt y ↔ x < y := by
  rw [Int32.lt_iff_toInt_lt, ab_toInt32, ab_toInt32, ab_w32_id hx, ab_w32_id hy]
theorem ab_le {x y : Int} (hx : ab_i32 x) (hy : ab_i32 y) : Int32.ofInt x ≤ Int32.ofInt y ↔ x ≤ y := by
  rw [Int32.le_iff_toInt_le, ab_toInt32, ab_toInt32, ab_w32_id hx, ab_w32_id hy]
theorem ab_eq {x y : Int} (hx : ab_i32 x) (hy : ab_i32 y) : Int32.ofInt x = Int32.ofInt y ↔ x = y := by
  rw [← Int32.toInt_inj, ab_toInt32, ab_toInt32, ab_w32_id hx, ab_w32_id hy]
theorem ab_ltL {x y : Int} (hx : ab_i64 x) (hy : ab_i64 y) : Int64.ofInt x < Int64.ofInt y ↔ x < y := by
  rw [Int64.lt_iff_toInt_lt, ab_toInt64, ab_toInt64, ab_w64_id hx, ab_w64_id hy]
theorem ab_eqL {x y : Int} (hx : ab_i64 x) (hy : ab_i64 y) : Int64.ofInt x = Int64.ofInt y ↔ x = y := by
  rw [← Int64.toInt_inj, ab_toInt64, ab_toInt64, ab_w64_id hx, ab_w64_id hy]
theorem ab_z32 : Int32.ofInt 0 = 0 := by decide
theorem ab_i0 : ab_i32 0 := ⟨by decide, by decide⟩
theorem ab_lt0 {x : Int} (hx : ab_i32 x) : Int32.ofInt x < 0 ↔ x < 0 := by rw [← ab_z32, ab_lt hx ab_i0]
theorem ab_le0 {x : Int} (hx : ab_i32 x) : Int32.ofInt x ≤ 0 ↔ x ≤ 0 := by rw [← ab_z32, ab_le hx ab_i0]
theorem ab_eq0 {x : Int} (hx : ab_i32 x) : Int32.ofInt x = 0 ↔ x = 0 := by rw [← ab_z32, ab_eq hx ab_i0]
theorem ab_0le {x : Int} (hx : ab_i32 x) : 0 ≤ Int32.ofInt x ↔ 0 ≤ x := by rw [← ab_z32, ab_le ab_i0 hx]
theorem ab_0lt {x : Int} (hx : ab_i32 x) : 0 < Int32.ofInt x ↔ 0 < x := by rw [← ab_z32, ab_lt ab_i0 hx]
theorem ab_clamp {x : Int} (hx : ab_i32 x) : (Int32.ofInt x).toNatClampNeg = x.toNat := by
  rw [← Int32.toNat_toInt, ab_toInt32, ab_w32_id hx]
theorem ab_inn {i : Int} {n : Nat} (hi : ab_i32 i) (h0 : 0 ≤ i) (hn : i < n) : vp_in (Int32.ofInt i) n := by
  intro h
  rcases h with h | h
  · have := (ab_lt0 hi).mp h; omega
  · rw [ab_clamp hi] at h; omega
theorem ab_back32 (z : Int32) : Int32.ofInt z.toInt = z := Int32.ofInt_toInt z
theorem ab_back64 (z : Int64) : Int64.ofInt z.toInt = z := Int64.ofInt_toInt z
/-! bit operations, by way of the machine's own -/
def ab_and (x y : Int) : Int := (Int32.ofInt x &&& Int32.ofInt y).toInt
def ab_or (x y : Int) : Int := (Int32.ofInt x ||| Int32.ofInt y).toInt
def ab_xor (x y : Int) : Int := (Int32.ofInt x ^^^ Int32.ofInt y).toInt
def ab_shl (x y : Int) : Int := (Int32.ofInt x <<< (Int32.ofInt y &&& 31)).toInt
def ab_shr (x y : Int) : Int := (Int32.ofInt x >>> (Int32.ofInt y &&& 31)).toInt
def ab_ushr (x y : Int) : Int := ((Int32.ofInt x).toUInt32 >>> ((Int32.ofInt y).toUInt32 &&& Int32.toUInt32 31)).toInt32.toInt
def ab_land (x y : Int) : Int := (Int64.ofInt x &&& Int64.ofInt y).toInt
def ab_lor (x y : Int) : Int := (Int64.ofInt x ||| Int64.ofInt y).toInt
def ab_lshl (x y : Int) : Int := (Int64.ofInt x <<< ((Int32.ofInt y).toInt64 &&& 63)).toInt
def ab_lshr (x y : Int) : Int := (Int64.ofInt x >>> ((Int32.ofInt y).toInt64 &&& 63)).toInt
def ab_cmp (x y : Int) : Int := if y < x then 1 else if x = y then 0 else -1
theorem ab_cmp_in (x y : Int) : ab_i32 (ab_cmp x y) := by unfold ab_cmp ab_i32; split <;> (try split) <;> omega
theorem ab_i2l {x : Int} (hx : ab_i32 x) : (Int32.ofInt x).toInt64 = Int64.ofInt x := by
  apply Int64.toInt_inj.mp
  rw [Int32.toInt_toInt64, ab_toInt32, ab_toInt64, ab_w32_id hx, ab_w64_id]
  unfold ab_i32 at hx; unfold ab_i64; omega
theorem ab_l2i (x : Int) : (Int64.ofInt x).toInt32 = Int32.ofInt (ab_w32 x) := by
  apply Int32.toInt_inj.mp
  rw [Int64.toInt_toInt32, ab_toInt64, ab_toInt32]
  unfold ab_w32 ab_w64; simp only [Int.bmod]; split <;> omega
theorem ab_i2b (x : Int) : (Int32.ofInt x).toInt8.toInt32 = Int32.ofInt (ab_w8 x) := by
  apply Int32.toInt_inj.mp
  rw [Int8.toInt_toInt32, Int32.toInt_toInt8, ab_toInt32, ab_toInt32]
  unfold ab_w32 ab_w8; simp only [Int.bmod]; split <;> omega
theorem ab_div {x y : Int} (hx : ab_i32 x) (hy : ab_i32 y) (h0 : 0 ≤ x) (h1 : 0 < y) : Int32.ofInt x / Int32.ofInt y = Int32.ofInt (x / y) := by
  apply Int32.toInt_inj.mp
  have h2 : 0 ≤ x / y := Int.ediv_nonneg h0 (by omega)
  have h3 : x / y ≤ x := Int.ediv_le_self y h0
  have h4 : ab_i32 (x / y) := by unfold ab_i32 at *; omega
  rw [Int32.toInt_div, ab_toInt32, ab_toInt32, ab_toInt32, ab_w32_id hx, ab_w32_id hy, ab_w32_id h4, Int.tdiv_eq_ediv_of_nonneg h0]
  unfold ab_i32 at h4; simp only [Int.bmod]; split <;> omega
theorem ab_rem {x y : Int} (hx : ab_i32 x) (hy : ab_i32 y) (h0 : 0 ≤ x) (h1 : 0 < y) : Int32.ofInt x - Int32.ofInt x / Int32.ofInt y * Int32.ofInt y = Int32.ofInt (x % y) := by
  rw [ab_div hx hy h0 h1, ← Int32.ofInt_mul, ← Int32.ofInt_sub]
  congr 1
  have := Int.emod_add_mul_ediv x y
  have h5 : x / y * y = y * (x / y) := Int.mul_comm _ _
  omega
theorem ab_rem_in {x y : Int} (hy : ab_i32 y) (h1 : 0 < y) : ab_i32 (x % y) := by
  have := Int.emod_nonneg x (show y ≠ 0 by omega)
  have := Int.emod_lt_of_pos x h1
  unfold ab_i32 at *; omega
theorem ab_div_in {x y : Int} (hx : ab_i32 x) (h0 : 0 ≤ x) : ab_i32 (x / y) ∨ y < 0 := by
  rcases Int.lt_or_le y 0 with h | h
  · exact Or.inr h
  · left
    have h2 : 0 ≤ x / y := Int.ediv_nonneg h0 h
    have h3 : x / y ≤ x := Int.ediv_le_self y h0
    unfold ab_i32 at *; omega
theorem ab_lcmp {x y : Int} (hx : ab_i64 x) (hy : ab_i64 y) : lg_cmp (Int64.ofInt x) (Int64.ofInt y) = Int32.ofInt (ab_cmp x y) := by
  unfold lg_cmp ab_cmp
  simp only [ab_ltL hx hy, ab_ltL hy hx, ab_eqL hx hy]
  by_cases h : y < x
  · simp [h]
  · by_cases h2 : x = y
    · simp [h2]
    · simp [h, h2]
