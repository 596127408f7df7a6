/-! holes: long numbers as whole numbers -/
/-- small enough -/
abbrev sm (a : Int) : Prop := -4611686018427387904 ≤ a ∧ a ≤ 4611686018427387904
theorem i64_toInt {a : Int} (h : sm a) : (Int64.ofInt a).toInt = a := Int64.toInt_ofInt_of_le (by have := h.1; omega) (by have := h.2; omega)
theorem i64_eq {a b : Int} (ha : sm a) (hb : sm b) : Int64.ofInt a = Int64.ofInt b ↔ a = b := by
  refine ⟨fun h => ?_, fun h => by rw [h]⟩
  rw [← i64_toInt ha, h, i64_toInt hb]
theorem i64_lt {a b : Int} (ha : sm a) (hb : sm b) : Int64.ofInt a < Int64.ofInt b ↔ a < b := by
  rw [Int64.lt_iff_toInt_lt, i64_toInt ha, i64_toInt hb]
theorem i64_le {a b : Int} (ha : sm a) (hb : sm b) : Int64.ofInt a ≤ Int64.ofInt b ↔ a ≤ b := by
  rw [Int64.le_iff_toInt_le, i64_toInt ha, i64_toInt hb]
theorem i64_z {a : Int} (ha : sm a) : Int64.ofInt a = 0 ↔ a = 0 := i64_eq (b := 0) ha ⟨by omega, by omega⟩
theorem i64_div {a b : Int} (ha : sm a) (hb : sm b) : Int64.ofInt a / Int64.ofInt b = Int64.ofInt (a.tdiv b) := by
  refine (Int64.ofInt_tdiv ?_ ?_ ?_ ?_).symm
  · have : Int64.minValue.toInt = -9223372036854775808 := by decide
    omega
  · have : Int64.maxValue.toInt = 9223372036854775807 := by decide
    omega
  · have : Int64.minValue.toInt = -9223372036854775808 := by decide
    omega
  · have : Int64.maxValue.toInt = 9223372036854775807 := by decide
    omega
/-- how often, as both programs count it -/
theorem i64_times {a b : Int} (ha : sm a) (hb : sm b) : (if Int64.ofInt b = 0 then (0 : Int64) else Int64.ofInt a / Int64.ofInt b) = Int64.ofInt (a.tdiv b) := by
  by_cases h : b = 0
  · rw [if_pos ((i64_z hb).mpr h), h, Int.tdiv_zero]
    rfl
  · rw [if_neg (fun g => h ((i64_z hb).mp g))]
    exact i64_div ha hb
