/-! the search for the kernel: how many rows are not within a support -/
def cOnes : Nat := 0x1000000010000000100000001000000010000000100000001000000010000000100000001000000010000000100000001000000010000000100000001000000010000000100000001000000010000000100000001000000010000000100000001000000010000000100000001000000010000000100000001000000010000000100000001000000010000000100000001000000010000000100000001000000010000000100000001000000010000000100000001000000010000000100000001000000010000000100000001000000010000000100000001000000010000000100000001000000010000000100000001000000010000000100000001
def cFull : Nat := 0x1fffff001fffff001fffff001fffff001fffff001fffff001fffff001fffff001fffff001fffff001fffff001fffff001fffff001fffff001fffff001fffff001fffff001fffff001fffff001fffff001fffff001fffff001fffff001fffff001fffff001fffff001fffff001fffff001fffff001fffff001fffff001fffff001fffff001fffff001fffff001fffff001fffff001fffff001fffff001fffff001fffff001fffff001fffff001fffff001fffff001fffff001fffff001fffff001fffff001fffff001fffff001fffff001fffff001fffff001fffff001fffff001fffff001fffff001fffff001fffff001fffff001fffff001fffff001fffff
def cLow : Nat := 0x7fffffff7fffffff7fffffff7fffffff7fffffff7fffffff7fffffff7fffffff7fffffff7fffffff7fffffff7fffffff7fffffff7fffffff7fffffff7fffffff7fffffff7fffffff7fffffff7fffffff7fffffff7fffffff7fffffff7fffffff7fffffff7fffffff7fffffff7fffffff7fffffff7fffffff7fffffff7fffffff7fffffff7fffffff7fffffff7fffffff7fffffff7fffffff7fffffff7fffffff7fffffff7fffffff7fffffff7fffffff7fffffff7fffffff7fffffff7fffffff7fffffff7fffffff7fffffff7fffffff7fffffff7fffffff7fffffff7fffffff7fffffff7fffffff7fffffff7fffffff7fffffff7fffffff7fffffff7fffffff
def cHigh : Nat := 0x80000000800000008000000080000000800000008000000080000000800000008000000080000000800000008000000080000000800000008000000080000000800000008000000080000000800000008000000080000000800000008000000080000000800000008000000080000000800000008000000080000000800000008000000080000000800000008000000080000000800000008000000080000000800000008000000080000000800000008000000080000000800000008000000080000000800000008000000080000000800000008000000080000000800000008000000080000000800000008000000080000000800000008000000080000000
def nzc (sm b : Nat) : Nat := Nat.mod (Nat.shiftRight (Nat.land (Nat.add (Nat.land sm (Nat.xor cFull (Nat.mul b cOnes))) cLow) cHigh) 31) 4294967295
def onK : Nat → Nat
  | 0 => 0
  | K + 1 => onK K * 4294967296 + 1
theorem on64 : cOnes = onK 64 ∧ cFull = 2097151 * onK 64 ∧ cLow = 2147483647 * onK 64 ∧ cHigh = 2147483648 * onK 64 := by decide +kernel
theorem blk_and {A a C c : Nat} (ha : a < 4294967296) (hc : c < 4294967296) : (A * 4294967296 + a) &&& (C * 4294967296 + c) = (A &&& C) * 4294967296 + (a &&& c) := by
  have hac : a &&& c < 4294967296 := Nat.lt_of_le_of_lt Nat.and_le_left ha
  apply Nat.eq_of_testBit_eq
  intro i
  have t : ∀ (X x : Nat), x < 4294967296 → (X * 4294967296 + x).testBit i = if i < 32 then x.testBit i else X.testBit (i - 32) := fun X x hx => by
    rw [show (4294967296 : Nat) = 2 ^ 32 from rfl, Nat.mul_comm, Nat.testBit_two_pow_mul_add _ hx]
  rw [Nat.testBit_and, t _ _ ha, t _ _ hc, t _ _ hac]
  split
  · rw [Nat.testBit_and]
  · rw [Nat.testBit_and]
theorem blk_xor {A a C c : Nat} (ha : a < 4294967296) (hc : c < 4294967296) : (A * 4294967296 + a) ^^^ (C * 4294967296 + c) = (A ^^^ C) * 4294967296 + (a ^^^ c) := by
  have hac : a ^^^ c < 4294967296 := Nat.xor_lt_two_pow (n := 32) ha hc
  apply Nat.eq_of_testBit_eq
  intro i
  have t : ∀ (X x : Nat), x < 4294967296 → (X * 4294967296 + x).testBit i = if i < 32 then x.testBit i else X.testBit (i - 32) := fun X x hx => by
    rw [show (4294967296 : Nat) = 2 ^ 32 from rfl, Nat.mul_comm, Nat.testBit_two_pow_mul_add _ hx]
  rw [Nat.testBit_xor, t _ _ ha, t _ _ hc, t _ _ hac]
  split
  · rw [Nat.testBit_xor]
  · rw [Nat.testBit_xor]
/-- the supports in one number -/
def pkM : List Nat → Nat
  | [] => 0
  | m :: l => pkM l * 4294967296 + m
def wpM (b : Nat) : List Nat → Nat
  | [] => 0
  | m :: l => wpM b l * 4294967296 + (if m &&& (2097151 ^^^ b) = 0 then 0 else 1)
def cwM (b : Nat) : List Nat → Nat
  | [] => 0
  | m :: l => cwM b l + (if m &&& (2097151 ^^^ b) = 0 then 0 else 1)
theorem hi_bit {t : Nat} (h : t < 2097152) : (t + 2147483647) &&& 2147483648 = if t = 0 then 0 else 2147483648 := by
  by_cases c : t = 0
  · subst c; rfl
  · rw [if_neg c]
    have e : t + 2147483647 = 1 * 2147483648 + (t - 1) := by omega
    rw [e]
    apply Nat.eq_of_testBit_eq
    intro i
    rw [Nat.testBit_and, show (2147483648 : Nat) = 2 ^ 31 from rfl, Nat.mul_comm, Nat.testBit_two_pow_mul_add _ (by omega), Nat.testBit_two_pow]
    by_cases d : i = 31
    · subst d; simp
    · have : ¬ 31 = i := by omega
      simp [this]
theorem nz_pk {b : Nat} (hb : b < 2097152) : ∀ (l : List Nat) (K : Nat), l.length ≤ K → (∀ m ∈ l, m < 2097152) → ((pkM l &&& (2097151 * onK K ^^^ b * onK K)) + 2147483647 * onK K) &&& (2147483648 * onK K) = 2147483648 * wpM b l
  | [], 0, _, _ => by simp [pkM, onK, wpM]
  | [], K + 1, _, h => by
    have ih := nz_pk hb [] K (Nat.zero_le _) h
    show (((0 : Nat) &&& _) + 2147483647 * (onK K * 4294967296 + 1)) &&& (2147483648 * (onK K * 4294967296 + 1)) = 2147483648 * 0
    have ih : (((0 : Nat) &&& _) + 2147483647 * onK K) &&& (2147483648 * onK K) = 2147483648 * 0 := ih
    rw [Nat.zero_and, Nat.zero_add] at ih ⊢
    rw [Nat.mul_add, Nat.mul_add, ← Nat.mul_assoc, ← Nat.mul_assoc, blk_and (by omega) (by omega), ih]
    rfl
  | m :: l, K + 1, hK, h => by
    have hl : l.length ≤ K := by
      have : (m :: l).length = l.length + 1 := rfl
      omega
    have ih := nz_pk hb l K hl (fun x hx => h x (List.mem_cons_of_mem _ hx))
    have hm := h m (List.mem_cons_self ..)
    have hx : 2097151 ^^^ b < 2097152 := Nat.xor_lt_two_pow (n := 21) (by decide) hb
    have ht : m &&& (2097151 ^^^ b) < 2097152 := Nat.lt_of_le_of_lt Nat.and_le_left hm
    show (((pkM l * 4294967296 + m) &&& (2097151 * (onK K * 4294967296 + 1) ^^^ b * (onK K * 4294967296 + 1))) + 2147483647 * (onK K * 4294967296 + 1)) &&& (2147483648 * (onK K * 4294967296 + 1)) = 2147483648 * (wpM b l * 4294967296 + (if m &&& (2097151 ^^^ b) = 0 then 0 else 1))
    rw [Nat.mul_add, Nat.mul_add, Nat.mul_add, Nat.mul_add, ← Nat.mul_assoc, ← Nat.mul_assoc, ← Nat.mul_assoc, ← Nat.mul_assoc, Nat.mul_one, Nat.mul_one, Nat.mul_one, Nat.mul_one, blk_xor (by omega) (by omega), blk_and (by omega) (by omega)]
    have e : (pkM l &&& (2097151 * onK K ^^^ b * onK K)) * 4294967296 + (m &&& (2097151 ^^^ b)) + (2147483647 * onK K * 4294967296 + 2147483647) = ((pkM l &&& (2097151 * onK K ^^^ b * onK K)) + 2147483647 * onK K) * 4294967296 + ((m &&& (2097151 ^^^ b)) + 2147483647) := by
      rw [Nat.add_mul]; omega
    rw [e, blk_and (by omega) (by omega), ih, hi_bit ht, Nat.mul_add, Nat.mul_assoc]
    by_cases c : m &&& (2097151 ^^^ b) = 0
    · rw [if_pos c, if_pos c]
    · rw [if_neg c, if_neg c]
theorem wp_mod (b : Nat) : ∀ l : List Nat, wpM b l % 4294967295 = cwM b l % 4294967295
  | [] => rfl
  | m :: l => by
    have ih := wp_mod b l
    show (wpM b l * 4294967296 + _) % 4294967295 = (cwM b l + _) % 4294967295
    omega
theorem cw_le (b : Nat) : ∀ l : List Nat, cwM b l ≤ l.length
  | [] => Nat.le_refl _
  | m :: l => by
    have ih := cw_le b l
    show cwM b l + (if m &&& (2097151 ^^^ b) = 0 then 0 else 1) ≤ l.length + 1
    split <;> omega
theorem nzc_eq {b : Nat} (hb : b < 2097152) {l : List Nat} (h1 : l.length ≤ 64) (h2 : ∀ m ∈ l, m < 2097152) : nzc (pkM l) b = cwM b l := by
  have h := nz_pk hb l 64 h1 h2
  obtain ⟨e1, e2, e3, e4⟩ := on64
  rw [← e2, ← e3, ← e4, ← e1] at h
  show ((((pkM l &&& (cFull ^^^ b * cOnes)) + cLow) &&& cHigh) >>> 31) % 4294967295 = _
  rw [h, Nat.shiftRight_eq_div_pow, show (2147483648 : Nat) = 2 ^ 31 from rfl, Nat.mul_div_cancel_left _ (by decide), wp_mod]
  have := cw_le b l
  omega
/-- m lies within b -/
theorem in_iff {m b : Nat} (hm : m < 2097152) (hb : b < 2097152) : m &&& (2097151 ^^^ b) = 0 ↔ ∀ i, m.testBit i = true → b.testBit i = true := by
  have hF : ∀ i, (2097151 : Nat).testBit i = decide (i < 21) := fun i => by
    rw [show (2097151 : Nat) = 2 ^ 21 - 1 from rfl, Nat.testBit_two_pow_sub_one]
  constructor
  · intro h i hi
    have := congrArg (fun z => z.testBit i) h
    simp only [Nat.testBit_and, Nat.testBit_xor, Nat.zero_testBit, hi, hF, Bool.true_and] at this
    have hi21 : i < 21 := by
      by_cases c : i < 21
      · exact c
      · have : m.testBit i = false := Nat.testBit_lt_two_pow (Nat.lt_of_lt_of_le (show m < 2 ^ 21 from hm) (Nat.pow_le_pow_right (by decide) (by omega)))
        rw [this] at hi; cases hi
    simpa [hi21] using this
  · intro h
    apply Nat.eq_of_testBit_eq
    intro i
    rw [Nat.testBit_and, Nat.testBit_xor, hF, Nat.zero_testBit]
    cases hx : m.testBit i
    · simp
    · have hi21 : i < 21 := by
        by_cases c : i < 21
        · exact c
        · have : m.testBit i = false := Nat.testBit_lt_two_pow (Nat.lt_of_lt_of_le (show m < 2 ^ 21 from hm) (Nat.pow_le_pow_right (by decide) (by omega)))
          rw [this] at hx; cases hx
      simp [h i hx, hi21]
