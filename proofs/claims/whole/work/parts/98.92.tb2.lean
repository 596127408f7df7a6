/-! holes: the table's check for the kernel -/
def byT (X n : Nat) : Int := Int.sub (Int.ofNat (Nat.land (Nat.shiftRight X (Nat.mul 8 n)) 255)) 128
def rwT (X n : Nat) : List Int := [byT X n, byT X (n + 1), byT X (n + 2), byT X (n + 3), byT X (n + 4), byT X (n + 5)]
def mlT (X : Nat) : ML := [rwT X 0, rwT X 6, rwT X 12, rwT X 18, rwT X 24, rwT X 30, rwT X 36, rwT X 42]
theorem mlT_rec (X : Nat) : rec8 (mlT X) := ⟨rfl, fun r hr => by
  have h : r = rwT X 0 ∨ r = rwT X 6 ∨ r = rwT X 12 ∨ r = rwT X 18 ∨ r = rwT X 24 ∨ r = rwT X 30 ∨ r = rwT X 36 ∨ r = rwT X 42 := by
    simpa [mlT] using hr
  rcases h with e | e | e | e | e | e | e | e <;> rw [e] <;> rfl⟩
theorem mlT_at (X : Nat) {i j : Nat} (hi : i < 8) (hj : j < 6) : gMt (mlT X) i j = byT X (6 * i + j) := by
  rcases (show i = 0 ∨ i = 1 ∨ i = 2 ∨ i = 3 ∨ i = 4 ∨ i = 5 ∨ i = 6 ∨ i = 7 by omega) with rfl | rfl | rfl | rfl | rfl | rfl | rfl | rfl <;> rcases (show j = 0 ∨ j = 1 ∨ j = 2 ∨ j = 3 ∨ j = 4 ∨ j = 5 by omega) with rfl | rfl | rfl | rfl | rfl | rfl <;> rfl
/-- block k of the table -/
def bkT (TB k : Nat) : Nat := Nat.land (Nat.shiftRight TB (Nat.mul 384 k)) (2 ^ 384 - 1)
def TT (TB k : Nat) : MT := gMt (mlT (bkT TB k))
/-- labels: numbers of 8 bits up to the first 0; measure: 16 bits -/
def lbA (X : Nat) : Nat → List Nat
  | 0 => []
  | n + 1 => if Nat.land X 255 = 0 then [] else Nat.land X 255 :: lbA (Nat.shiftRight X 8) n
def lbT (LB k : Nat) : List Nat := lbA (Nat.land (Nat.shiftRight LB (Nat.mul 64 k)) (2 ^ 48 - 1)) 6
def muT (LB k : Nat) : Nat := Nat.land (Nat.shiftRight LB (Nat.add (Nat.mul 64 k) 48)) 65535
/-- a witness: rows, columns, signs, where to -/
def wR (w i : Nat) : Nat := Nat.land (Nat.shiftRight w (Nat.mul 3 i)) 7
def wC (w j : Nat) : Nat := Nat.land (Nat.shiftRight w (Nat.add 24 (Nat.mul 3 j))) 7
def wEt (w i : Nat) : Nat := Nat.land (Nat.shiftRight w (Nat.add 42 i)) 1
def wF (w j : Nat) : Nat := Nat.land (Nat.shiftRight w (Nat.add 50 j)) 1
def wK (w : Nat) : Nat := Nat.shiftRight w 56
def sgB (n : Nat) : Int := if n = 0 then 1 else -1
theorem sgB_1 (n : Nat) : sg1 (sgB n) := by
  unfold sgB
  split
  · exact Or.inl rfl
  · exact Or.inr rfl
def all8 (p : Nat → Bool) : Bool := p 0 && p 1 && p 2 && p 3 && p 4 && p 5 && p 6 && p 7
def all6 (p : Nat → Bool) : Bool := p 0 && p 1 && p 2 && p 3 && p 4 && p 5
theorem all8_t {p : Nat → Bool} (h : all8 p = true) {i : Nat} (hi : i < 8) : p i = true := by
  unfold all8 at h
  simp only [Bool.and_eq_true] at h
  rcases (show i = 0 ∨ i = 1 ∨ i = 2 ∨ i = 3 ∨ i = 4 ∨ i = 5 ∨ i = 6 ∨ i = 7 by omega) with rfl | rfl | rfl | rfl | rfl | rfl | rfl | rfl <;> simp only [h]
theorem all6_t {p : Nat → Bool} (h : all6 p = true) {i : Nat} (hi : i < 6) : p i = true := by
  unfold all6 at h
  simp only [Bool.and_eq_true] at h
  rcases (show i = 0 ∨ i = 1 ∨ i = 2 ∨ i = 3 ∨ i = 4 ∨ i = 5 by omega) with rfl | rfl | rfl | rfl | rfl | rfl <;> simp only [h]
/-- a way to name rows and columns anew -/
def prmOK (w : Nat) : Bool := Nat.beq (Nat.lor (Nat.lor (Nat.lor (Nat.pow 2 (wR w 0)) (Nat.pow 2 (wR w 1))) (Nat.lor (Nat.pow 2 (wR w 2)) (Nat.pow 2 (wR w 3)))) (Nat.lor (Nat.lor (Nat.pow 2 (wR w 4)) (Nat.pow 2 (wR w 5))) (Nat.lor (Nat.pow 2 (wR w 6)) (Nat.pow 2 (wR w 7))))) 255 && Nat.beq (Nat.lor (Nat.lor (Nat.lor (Nat.pow 2 (wC w 0)) (Nat.pow 2 (wC w 1))) (Nat.lor (Nat.pow 2 (wC w 2)) (Nat.pow 2 (wC w 3)))) (Nat.lor (Nat.pow 2 (wC w 4)) (Nat.pow 2 (wC w 5)))) 63
theorem hit8 {w : Nat} (h : prmOK w = true) : (∀ x, x < 8 → ∃ i, i < 8 ∧ wR w i = x) ∧ ∀ y, y < 6 → ∃ j, j < 6 ∧ wC w j = y := by
  unfold prmOK at h
  rw [Bool.and_eq_true] at h
  have h1 : ((2 ^ wR w 0 ||| 2 ^ wR w 1) ||| (2 ^ wR w 2 ||| 2 ^ wR w 3)) ||| ((2 ^ wR w 4 ||| 2 ^ wR w 5) ||| (2 ^ wR w 6 ||| 2 ^ wR w 7)) = 255 := Nat.eq_of_beq_eq_true h.1
  have h2 : ((2 ^ wC w 0 ||| 2 ^ wC w 1) ||| (2 ^ wC w 2 ||| 2 ^ wC w 3)) ||| (2 ^ wC w 4 ||| 2 ^ wC w 5) = 63 := Nat.eq_of_beq_eq_true h.2
  have b8 : ∀ x, x < 8 → (255 : Nat).testBit x = true := by decide
  have b6 : ∀ x, x < 6 → (63 : Nat).testBit x = true := by decide
  constructor
  · intro x hx
    have b := b8 x hx
    rw [← h1] at b
    simp only [Nat.testBit_or, Nat.testBit_two_pow, Bool.or_eq_true, decide_eq_true_eq] at b
    rcases b with ((b | b) | (b | b)) | ((b | b) | (b | b))
    · exact ⟨0, by omega, b⟩
    · exact ⟨1, by omega, b⟩
    · exact ⟨2, by omega, b⟩
    · exact ⟨3, by omega, b⟩
    · exact ⟨4, by omega, b⟩
    · exact ⟨5, by omega, b⟩
    · exact ⟨6, by omega, b⟩
    · exact ⟨7, by omega, b⟩
  · intro x hx
    have b := b6 x hx
    rw [← h2] at b
    simp only [Nat.testBit_or, Nat.testBit_two_pow, Bool.or_eq_true, decide_eq_true_eq] at b
    rcases b with ((b | b) | (b | b)) | (b | b)
    · exact ⟨0, by omega, b⟩
    · exact ⟨1, by omega, b⟩
    · exact ⟨2, by omega, b⟩
    · exact ⟨3, by omega, b⟩
    · exact ⟨4, by omega, b⟩
    · exact ⟨5, by omega, b⟩
def simB (TB : Nat) (U : ML) (w : Nat) : Bool := prmOK w && (fun X => all8 (fun i => (fun r e p => all6 (fun j => decide (r.getD j 0 = (if Nat.beq (Nat.xor e (wF w j)) 0 then byT X (6 * p + wC w j) else Int.neg (byT X (6 * p + wC w j)))))) (U.getD i []) (wEt w i) (wR w i))) (bkT TB (wK w))
theorem wb (w k : Nat) : Nat.land (Nat.shiftRight w k) 1 = 0 ∨ Nat.land (Nat.shiftRight w k) 1 = 1 := by
  have : (w >>> k) &&& 1 < 2 := by rw [Nat.and_one_is_mod]; exact Nat.mod_lt _ (by decide)
  have h : (w >>> k) &&& 1 = 0 ∨ (w >>> k) &&& 1 = 1 := by omega
  exact h
theorem fin_inj {n : Nat} {f : Nat → Nat} (h1 : ∀ i, i < n → f i < n) (h2 : ∀ x, x < n → ∃ i, i < n ∧ f i = x) : ∀ i j, i < n → j < n → f i = f j → i = j := by
  intro i j hi hj e
  by_cases c : i = j
  · exact c
  · exfalso
    have hc : ∀ x, ∃ k, x < n → k < n ∧ f k = x ∧ k ≠ j := fun x => by
      by_cases hx : x < n
      · obtain ⟨k, k1, k2⟩ := h2 x hx
        by_cases d : k = j
        · exact ⟨i, fun _ => ⟨hi, by rw [e, ← d]; exact k2, c⟩⟩
        · exact ⟨k, fun _ => ⟨k1, k2, d⟩⟩
      · exact ⟨0, fun w => absurd w hx⟩
    obtain ⟨g, hg⟩ := Classical.skolem.mp hc
    have := pigI (n - 1) n (fun x => if g x < j then g x else g x - 1) (fun x hx => by
      have := hg x hx
      show (if g x < j then g x else g x - 1) < n - 1
      split <;> omega) (fun x y hx hy q => by
      have a := hg x hx
      have b := hg y hy
      have q : (if g x < j then g x else g x - 1) = (if g y < j then g y else g y - 1) := q
      have : g x = g y := by split at q <;> split at q <;> omega
      rw [← a.2.1, ← b.2.1, this])
    omega
theorem simB_ok {TB : Nat} {U : ML} (hU : rec8 U) {w : Nat} (h : simB TB U w = true) : Sim (gMt U) (TT TB (wK w)) := by
  unfold simB at h
  rw [Bool.and_eq_true] at h
  obtain ⟨hp, hc⟩ := h
  obtain ⟨s8, s6⟩ := hit8 hp
  have r8 : ∀ i, wR w i < 8 := fun i => by
    show (w >>> (3 * i)) &&& 7 < 8
    rw [show (7 : Nat) = 2 ^ 3 - 1 from rfl, Nat.and_two_pow_sub_one_eq_mod]
    exact Nat.mod_lt _ (by decide)
  have c6 : ∀ j, j < 6 → wC w j < 6 := fun j hj => by
    unfold prmOK at hp
    rw [Bool.and_eq_true] at hp
    have h2 : ((2 ^ wC w 0 ||| 2 ^ wC w 1) ||| (2 ^ wC w 2 ||| 2 ^ wC w 3)) ||| (2 ^ wC w 4 ||| 2 ^ wC w 5) = 63 := Nat.eq_of_beq_eq_true hp.2
    have b : (63 : Nat).testBit (wC w j) = true := by
      rw [← h2]
      simp only [Nat.testBit_or, Nat.testBit_two_pow, Bool.or_eq_true, decide_eq_true_eq]
      rcases (show j = 0 ∨ j = 1 ∨ j = 2 ∨ j = 3 ∨ j = 4 ∨ j = 5 by omega) with rfl | rfl | rfl | rfl | rfl | rfl <;> simp
    by_cases q : wC w j < 6
    · exact q
    · have : (63 : Nat).testBit (wC w j) = false := Nat.testBit_lt_two_pow (Nat.lt_of_lt_of_le (show 63 < 2 ^ 6 by decide) (Nat.pow_le_pow_right (by decide) (by omega)))
      rw [this] at b; cases b
  have i8 := fin_inj (fun i _ => r8 i) s8
  have i6 := fin_inj c6 s6
  refine ⟨fun i => if i < 8 then wR w i else i, fun j => if j < 6 then wC w j else j, fun i => sgB (wEt w i), fun j => sgB (wF w j), fun i => sgB_1 _, fun j => sgB_1 _, fun i i' e => ?_, fun j j' e => ?_, fun i j => ?_, fun x y hx => ?_⟩
  · have e : (if i < 8 then wR w i else i) = (if i' < 8 then wR w i' else i') := e
    have a := r8 i
    have b := r8 i'
    by_cases c : i < 8
    · rw [if_pos c] at e
      by_cases d : i' < 8
      · rw [if_pos d] at e; exact i8 i i' c d e
      · rw [if_neg d] at e; omega
    · rw [if_neg c] at e
      by_cases d : i' < 8
      · rw [if_pos d] at e; omega
      · rw [if_neg d] at e; exact e
  · have e : (if j < 6 then wC w j else j) = (if j' < 6 then wC w j' else j') := e
    by_cases c : j < 6
    · rw [if_pos c] at e
      have a := c6 j c
      by_cases d : j' < 6
      · rw [if_pos d] at e; exact i6 j j' c d e
      · rw [if_neg d] at e; omega
    · rw [if_neg c] at e
      by_cases d : j' < 6
      · rw [if_pos d] at e
        have a := c6 j' d
        omega
      · rw [if_neg d] at e; exact e
  · dsimp only
    by_cases c : i < 8
    · by_cases d : j < 6
      · rw [if_pos c, if_pos d]
        unfold TT
        rw [mlT_at _ (r8 i) (c6 j d)]
        have q := of_decide_eq_true (all6_t (all8_t hc c) d)
        show (U.getD i []).getD j 0 = _
        rw [q]
        have b1 := wb w (42 + i)
        have b2 := wb w (50 + j)
        have b1 : wEt w i = 0 ∨ wEt w i = 1 := b1
        have b2 : wF w j = 0 ∨ wF w j = 1 := b2
        rcases b1 with b1 | b1 <;> rcases b2 with b2 | b2 <;> rw [b1, b2]
        · show byT _ _ = sgB 0 * sgB 0 * _
          simp [sgB]
        · show Int.neg (byT _ _) = sgB 0 * sgB 1 * _
          show -(byT _ _) = _
          simp [sgB]
        · show Int.neg (byT _ _) = sgB 1 * sgB 0 * _
          show -(byT _ _) = _
          simp [sgB]
        · show byT _ _ = sgB 1 * sgB 1 * _
          simp [sgB]
      · rw [hU.out (Or.inr (by omega)), if_neg d]
        unfold TT
        rw [(mlT_rec _).out (Or.inr (by omega)), Int.mul_zero]
    · rw [hU.out (Or.inl (by omega)), if_neg c]
      unfold TT
      rw [(mlT_rec _).out (Or.inl (by omega)), Int.mul_zero]
  · have hxy : x < 8 ∧ y < 6 := by
      by_cases c : x < 8 ∧ y < 6
      · exact c
      · exact absurd ((mlT_rec _).out (by omega)) hx
    obtain ⟨i, i1, i2⟩ := s8 x hxy.1
    obtain ⟨j, j1, j2⟩ := s6 y hxy.2
    exact ⟨⟨i, by dsimp only; rw [if_pos i1]; exact i2⟩, ⟨j, by dsimp only; rw [if_pos j1]; exact j2⟩⟩
