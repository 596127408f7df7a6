/-! the search: supports as bits -/
theorem bitP : ∀ i, i < 21 → (nI 1 <<< (nI i &&& 31)).toBitVec = BitVec.twoPow 32 i := by decide
theorem sOf_bit (v : Nat → Nat) : ∀ n, n ≤ 21 → ∀ i, (sOf v n).toBitVec.getLsbD i = (decide (i < n) && decide (v i ≠ 0))
  | 0, _, i => by
    show (0#32).getLsbD i = _
    simp
  | n + 1, h, i => by
    show (sOf v n ||| (if v n = 0 then nI 0 else nI 1 <<< (nI n &&& 31))).toBitVec.getLsbD i = _
    rw [Int32.toBitVec_or, BitVec.getLsbD_or, sOf_bit v n (by omega) i]
    by_cases c : v n = 0
    · rw [if_pos c]
      have : (nI 0).toBitVec.getLsbD i = false := by show (0#32).getLsbD i = false; simp
      rw [this, Bool.or_false]
      by_cases e : i = n
      · subst e; simp [c]
      · have : (i < n) ↔ (i < n + 1) := by omega
        simp [this]
    · rw [if_neg c, bitP n (by omega), BitVec.getLsbD_twoPow]
      by_cases e : i = n
      · subst e; simp [c]; omega
      · have h1 : (i < n) ↔ (i < n + 1) := by omega
        have h2 : (n = i) = False := by simp; omega
        simp [h1, h2]
theorem within_iff {x y : Int32} : x &&& (y ^^^ (-1)) = 0 ↔ ∀ i, x.toBitVec.getLsbD i = true → y.toBitVec.getLsbD i = true := by
  have hm : (-1 : Int32).toBitVec = BitVec.allOnes 32 := by decide
  rw [← Int32.toBitVec_inj, Int32.toBitVec_and, Int32.toBitVec_xor, hm]
  constructor
  · intro h i hi
    have h2 := congrArg (fun z => z.getLsbD i) h
    have h3 : (0 : Int32).toBitVec.getLsbD i = false := by show (0#32).getLsbD i = false; simp
    simp only [BitVec.getLsbD_and, BitVec.getLsbD_xor, BitVec.getLsbD_allOnes, hi, h3, Bool.true_and] at h2
    have hlt : i < 32 := BitVec.lt_of_getLsbD hi
    simpa [hlt] using h2
  · intro h
    apply BitVec.eq_of_getLsbD_eq
    intro i hi
    have h3 : (0 : Int32).toBitVec.getLsbD i = false := by show (0#32).getLsbD i = false; simp
    rw [BitVec.getLsbD_and, BitVec.getLsbD_xor, BitVec.getLsbD_allOnes, h3]
    have := h i
    cases hx : x.toBitVec.getLsbD i
    · simp
    · simp [this hx, hi]
theorem sOf_in {u v : Nat → Nat} {w : Nat} (hw : w ≤ 21) {y : Int32} (hy : ∀ i, y.toBitVec.getLsbD i = (decide (i < w) && decide (v i ≠ 0))) : sOf u w &&& (y ^^^ (-1)) = 0 ↔ ∀ i, i < w → v i = 0 → u i = 0 := by
  rw [within_iff]
  constructor
  · intro h i hi hv
    by_cases c : u i = 0
    · exact c
    · have := h i (by rw [sOf_bit u w hw]; simp [hi, c])
      rw [hy] at this
      simp [hv] at this
  · intro h i hi
    rw [sOf_bit u w hw] at hi
    rw [hy]
    simp at hi ⊢
    exact ⟨hi.1, fun z => hi.2 (h i hi.1 z)⟩
theorem b7 : ∀ i, i < 32 → (nI 7).toBitVec.getLsbD i = decide (i < 3) := by decide
theorem sh_bit (x : Int32) {b : Int32} {k : Nat} (hb : (b.toBitVec.smod 32).toNat = k) (i : Nat) : (x >>> b).toBitVec.getLsbD i = (!decide (32 ≤ i) && if k + i < 32 then x.toBitVec.getLsbD (k + i) else x.toBitVec.msb) := by
  rw [Int32.toBitVec_shiftRight]
  unfold BitVec.sshiftRight'
  rw [hb, BitVec.getLsbD_sshiftRight]
theorem fours_bt (x : Int32) {p : Nat} (hp : p < 3) (i : Nat) : (fours x p).toBitVec.getLsbD i = (decide (i < 3) && x.toBitVec.getLsbD (7 * p + 4 + i)) := by
  unfold fours
  rw [Int32.toBitVec_and, BitVec.getLsbD_and]
  by_cases hi : i < 32
  · rw [b7 i hi]
    by_cases h3 : i < 3
    · have hk : ((nI (7 * p + 4) &&& 31).toBitVec.smod 32).toNat = 7 * p + 4 := by
        rcases (show p = 0 ∨ p = 1 ∨ p = 2 by omega) with rfl | rfl | rfl <;> decide
      rw [sh_bit x hk, if_pos (by omega)]
      simp [h3]
      omega
    · simp [h3]
  · have : ¬ i < 3 := by omega
    have h2 : (nI 7).toBitVec.getLsbD i = false := BitVec.getLsbD_of_ge _ _ (by omega)
    simp [this, h2]
theorem low3 : ∀ a b c : Bool, ∃ n, n < 8 ∧ n.testBit 0 = a ∧ n.testBit 1 = b ∧ n.testBit 2 = c ∧ ((nI n &&& (nI n - nI 1) = 0) ↔ ¬ ((a = true ∧ b = true) ∨ (a = true ∧ c = true) ∨ (b = true ∧ c = true))) := by
  intro a b c
  cases a <;> cases b <;> cases c
  · exact ⟨0, by decide⟩
  · exact ⟨4, by decide⟩
  · exact ⟨2, by decide⟩
  · exact ⟨6, by decide⟩
  · exact ⟨1, by decide⟩
  · exact ⟨5, by decide⟩
  · exact ⟨3, by decide⟩
  · exact ⟨7, by decide⟩
theorem nI_bit {n : Nat} (h : n < 8) (i : Nat) : (nI n).toBitVec.getLsbD i = n.testBit i := by
  show (BitVec.ofNat 32 n).getLsbD i = _
  rw [BitVec.getLsbD_ofNat]
  by_cases c : i < 32
  · simp [c]
  · have : n.testBit i = false := Nat.testBit_lt_two_pow (Nat.lt_of_lt_of_le (show n < 2 ^ 3 from h) (Nat.pow_le_pow_right (by decide) (by omega)))
    simp [this]
theorem twoK_iff (x : Int32) {p : Nat} (hp : p < 3) : twoK x p = true ↔ (x.toBitVec.getLsbD (7 * p + 4) = true ∧ x.toBitVec.getLsbD (7 * p + 5) = true) ∨ (x.toBitVec.getLsbD (7 * p + 4) = true ∧ x.toBitVec.getLsbD (7 * p + 6) = true) ∨ (x.toBitVec.getLsbD (7 * p + 5) = true ∧ x.toBitVec.getLsbD (7 * p + 6) = true) := by
  obtain ⟨n, hn, h0, h1, h2, h3⟩ := low3 (x.toBitVec.getLsbD (7 * p + 4)) (x.toBitVec.getLsbD (7 * p + 5)) (x.toBitVec.getLsbD (7 * p + 6))
  have e : fours x p = nI n := by
    rw [← Int32.toBitVec_inj]
    apply BitVec.eq_of_getLsbD_eq
    intro i hi
    rw [fours_bt x hp, nI_bit hn]
    by_cases c : i < 3
    · rcases (show i = 0 ∨ i = 1 ∨ i = 2 by omega) with rfl | rfl | rfl
      · rw [h0]; simp
      · rw [h1]; simp
      · rw [h2]; simp
    · have : n.testBit i = false := Nat.testBit_lt_two_pow (Nat.lt_of_lt_of_le (show n < 2 ^ 3 from hn) (Nat.pow_le_pow_right (by decide) (by omega)))
      simp [c, this]
  unfold twoK
  rw [decide_eq_true_iff, e, h3, Classical.not_not]
