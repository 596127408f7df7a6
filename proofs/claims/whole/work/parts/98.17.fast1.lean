/-! the search for the kernel: rows as one number each -/
abbrev Ray := Nat × Nat
def fB : Nat := 65536
/-- the numbers of a row -/
def dvN (x : Nat) : Vc := fun k => if k < 21 then x / 65536 ^ k % 65536 else 0
def fld (x i : Nat) : Nat := Nat.land (Nat.shiftRight x i) 65535
theorem fld_eq (x k : Nat) : fld x (16 * k) = x / 65536 ^ k % 65536 := by
  unfold fld
  show (x >>> (16 * k)) &&& 65535 = _
  rw [Nat.shiftRight_eq_div_pow, show (65535 : Nat) = 2 ^ 16 - 1 from rfl, Nat.and_two_pow_sub_one_eq_mod, Nat.pow_mul]
theorem fld_dv {x k : Nat} (h : k < 21) : fld x (16 * k) = dvN x k := by
  rw [fld_eq]
  unfold dvN
  rw [if_pos h]
/-- all numbers of a row are below 512 -/
def smX (x : Nat) : Prop := ∀ k, x / 65536 ^ k % 65536 < 512
def cHM : Nat := 0xFE00FE00FE00FE00FE00FE00FE00FE00FE00FE00FE00FE00FE00FE00FE00FE00FE00FE00FE00FE00FE00
def okX (x : Nat) : Bool := and (Nat.beq (Nat.land x cHM) 0) (Nat.beq (Nat.shiftRight x 336) 0)
theorem cHM_bit : ∀ k, k < 21 → ∀ t, t < 7 → cHM.testBit (16 * k + 9 + t) = true := by decide +kernel
theorem okX_sm {x : Nat} (h : okX x = true) : smX x := by
  unfold okX at h
  rw [Bool.and_eq_true] at h
  have h1 : x &&& cHM = 0 := Nat.eq_of_beq_eq_true h.1
  have h2 : x >>> 336 = 0 := Nat.eq_of_beq_eq_true h.2
  intro k
  by_cases hk : k < 21
  · have e : x / 65536 ^ k % 65536 = x / 2 ^ (16 * k) % 2 ^ 16 := by rw [Nat.pow_mul]
    rw [e]
    show _ < 2 ^ 9
    apply Nat.lt_pow_two_of_testBit
    intro i hi
    rw [Nat.testBit_mod_two_pow, Nat.testBit_div_two_pow]
    by_cases c : i < 16
    · have hb := congrArg (fun z => z.testBit (16 * k + 9 + (i - 9))) h1
      simp only [Nat.testBit_and, Nat.zero_testBit, cHM_bit k hk (i - 9) (by omega), Bool.and_true] at hb
      rw [show 16 * k + 9 + (i - 9) = i + 16 * k by omega] at hb
      simp [hb]
    · simp [c]
  · have : x / 65536 ^ k = 0 := by
      rw [Nat.shiftRight_eq_div_pow] at h2
      have hx : x < 2 ^ 336 := by
        have := Nat.div_eq_zero_iff.mp h2
        rcases this with z | z
        · exact absurd z (by decide)
        · exact z
      apply Nat.div_eq_of_lt
      have : (2 : Nat) ^ 336 ≤ 65536 ^ k := by
        rw [show (65536 : Nat) = 2 ^ 16 from rfl, ← Nat.pow_mul]
        exact Nat.pow_le_pow_right (by decide) (by omega)
      omega
    rw [this]
    decide
/-- sums of rows, number by number -/
theorem mix_fld {a b : Nat} (ha : a ≤ 63) (hb : b ≤ 63) : ∀ (k x y : Nat), smX x → smX y → (a * y + b * x) / 65536 ^ k % 65536 = a * (y / 65536 ^ k % 65536) + b * (x / 65536 ^ k % 65536)
  | 0, x, y, hx, hy => by
    have h1 := hx 0
    have h2 := hy 0
    simp only [Nat.pow_zero, Nat.div_one] at h1 h2 ⊢
    have m1 : a * (y % 65536) ≤ 63 * 511 := Nat.mul_le_mul ha (by omega)
    have m2 : b * (x % 65536) ≤ 63 * 511 := Nat.mul_le_mul hb (by omega)
    have e : a * y + b * x = (a * (y % 65536) + b * (x % 65536)) + 65536 * (a * (y / 65536) + b * (x / 65536)) := by
      have e1 := Nat.mod_add_div y 65536
      have e2 := Nat.mod_add_div x 65536
      calc a * y + b * x = a * (y % 65536 + 65536 * (y / 65536)) + b * (x % 65536 + 65536 * (x / 65536)) := by rw [e1, e2]
        _ = _ := by
          simp only [Nat.mul_add]
          rw [Nat.mul_left_comm a 65536, Nat.mul_left_comm b 65536]
          omega
    rw [e, Nat.add_mul_mod_self_left]
    exact Nat.mod_eq_of_lt (by omega)
  | k + 1, x, y, hx, hy => by
    have h1 := hx 0
    have h2 := hy 0
    simp only [Nat.pow_zero, Nat.div_one] at h1 h2
    have m1 : a * (y % 65536) ≤ 63 * 511 := Nat.mul_le_mul ha (by omega)
    have m2 : b * (x % 65536) ≤ 63 * 511 := Nat.mul_le_mul hb (by omega)
    have sh : ∀ z, z / 65536 ^ (k + 1) = z / 65536 / 65536 ^ k := fun z => by rw [Nat.pow_succ, Nat.mul_comm, Nat.div_div_eq_div_mul]
    have e : a * y + b * x = (a * (y % 65536) + b * (x % 65536)) + 65536 * (a * (y / 65536) + b * (x / 65536)) := by
      have e1 := Nat.mod_add_div y 65536
      have e2 := Nat.mod_add_div x 65536
      calc a * y + b * x = a * (y % 65536 + 65536 * (y / 65536)) + b * (x % 65536 + 65536 * (x / 65536)) := by rw [e1, e2]
        _ = _ := by
          simp only [Nat.mul_add]
          rw [Nat.mul_left_comm a 65536, Nat.mul_left_comm b 65536]
          omega
    have hd : (a * y + b * x) / 65536 = a * (y / 65536) + b * (x / 65536) := by
      rw [e, Nat.add_mul_div_left _ _ (by decide), Nat.div_eq_of_lt (by omega), Nat.zero_add]
    rw [sh, sh, sh, hd]
    exact mix_fld ha hb k (x / 65536) (y / 65536) (fun j => by rw [Nat.div_div_eq_div_mul, show 65536 * 65536 ^ j = 65536 ^ (j + 1) by rw [Nat.pow_succ, Nat.mul_comm]]; exact hx (j + 1)) (fun j => by rw [Nat.div_div_eq_div_mul, show 65536 * 65536 ^ j = 65536 ^ (j + 1) by rw [Nat.pow_succ, Nat.mul_comm]]; exact hy (j + 1))
