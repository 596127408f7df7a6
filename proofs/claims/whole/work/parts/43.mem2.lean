/-! memory that is told by what it holds -/
section AL3
variable {X : am_X} {mi : Nat} {Q : am_R → Prop}
theorem aw_fromE {z : am_Z} (Z : Nat → MS → am_Z) (I : Nat → MS → Prop) (i0 n : Nat) (hi : i0 ≤ n) (S0 : MS) (h0 : z = Z i0 S0) (hI : I i0 S0) (hs : ∀ i T, i0 ≤ i → i < n → I i T → (∀ T', I (i + 1) T' → AW X mi (Z (i + 1) T') Q) → AW X mi (Z i T) Q) (hx : ∀ T, I n T → AW X mi (Z n T) Q) : AW X mi z Q := by
  rw [h0]
  have h : ∀ d, d ≤ n - i0 → ∀ T, I (n - d) T → AW X mi (Z (n - d) T) Q := by
    intro d
    induction d with
    | zero => intro _ T h; exact hx T h
    | succ d ih =>
      intro hd T h
      have e : n - d = n - (d + 1) + 1 := by omega
      refine hs _ T (by omega) (by omega) h (fun T' h2 => ?_)
      have h3 := ih (by omega) T'
      rw [e] at h3
      exact h3 h2
  have h2 := h (n - i0) (by omega) S0
  rw [show n - (n - i0) = i0 by omega] at h2
  exact h2 hI
theorem aw_inv2 {σ : Type} {z : am_Z} (Z : σ → am_Z) (I : σ → Prop) (μ : σ → Nat) (hs : ∀ s, I s → (∀ s', I s' → μ s' < μ s → AW X mi (Z s') Q) → AW X mi (Z s) Q) (s : σ) (h0 : z = Z s) (h : I s) : AW X mi z Q := by
  rw [h0]
  exact aw_inv Z I μ hs s h
theorem an_idec {i pc x n k j : Nat} {L : am_L} {st : List Value} {h : am_H} (hd : decode (am_code mi) pc = .ok (.iinc i (-1), 3)) (hl : am_ld L i = some (.int (nI x))) (hm : i < am_maxL mi) (hx : 0 < x) (kk : AW X mi (pc + 3, am_st1 L i (.int (nI (x - 1))), st, n, h, k, j) Q) : AW X mi (pc, L, st, n, h, k, j) Q := as_iinc hd hl hm (by rw [nI_dec hx]; exact kk)
/-- a call whose answer and memory are told by a property -/
def MX (X : am_X) (mj : Nat) (as : List Value) (S : MS) (Post : Option Value → MS → Prop) : Prop := AV X mj as 208 (HP S) (fun r => ∃ v S', r = (v, 208, HP S', 0, 0) ∧ Post v S')
theorem MX.mc {mj : Nat} {as : List Value} {S : MS} {Post : Option Value → MS → Prop} (h : MX X mj as S Post) : ∃ v S', MC X mj as S v S' ∧ Post v S' := by
  obtain ⟨N, r, h1, v, S', h2, h3⟩ := h
  exact ⟨v, S', ⟨N, r, h1, h2⟩, h3⟩
theorem MX.of {mj : Nat} {as : List Value} {S : MS} {Post : Option Value → MS → Prop} (hl : (lg_sl as).length ≤ am_maxL mj) (kk : AW X mj (0, lv_args 0 as, [], 208, HP S, 0, 0) (fun r => ∃ v S', r = (v, 208, HP S', 0, 0) ∧ Post v S')) : MX X mj as S Post := AV.of hl kk
end AL3
/-- a run of places of one row changed -/
def sRow (S : MS) (A off : Nat) (f : Nat → Int32) (n : Nat) : MS := (S.1, r2 S.2.1 A (fun j => if off ≤ j ∧ j < off + n then f (j - off) else S.2.1 A j), S.2.2)
theorem sRow_0 (S : MS) (A off : Nat) (f : Nat → Int32) : sRow S A off f 0 = S := by
  unfold sRow r2
  refine Prod.ext rfl (Prod.ext ?_ rfl)
  funext i j
  dsimp only
  by_cases h : i = A
  · subst h
    rw [if_pos rfl, if_neg (by omega)]
  · rw [if_neg h]
theorem sRow_at (S : MS) (A off : Nat) (f : Nat → Int32) (n i j : Nat) : (sRow S A off f n).2.1 i j = if i = A ∧ off ≤ j ∧ j < off + n then f (j - off) else S.2.1 i j := by
  unfold sRow r2
  dsimp only
  by_cases h : i = A
  · subst h
    by_cases h2 : off ≤ j ∧ j < off + n
    · rw [if_pos rfl, if_pos h2, if_pos ⟨rfl, h2⟩]
    · rw [if_pos rfl, if_neg h2, if_neg (fun g => h2 g.2)]
  · rw [if_neg h, if_neg (fun g => h g.1)]
theorem sRow_s (S : MS) (A off : Nat) (f : Nat → Int32) (n : Nat) : sRow S A off f (n + 1) = (sRow S A off f n).sa A (off + n) (f n) := by
  refine Prod.ext rfl (Prod.ext ?_ rfl)
  funext i j
  show (sRow S A off f (n + 1)).2.1 i j = u2 (sRow S A off f n).2.1 A (off + n) (f n) i j
  rw [u2_at, sRow_at, sRow_at]
  by_cases h : i = A
  · subst h
    by_cases h2 : j = off + n
    · subst h2
      rw [if_pos (by omega), if_pos ⟨rfl, rfl⟩, show off + n - off = n by omega]
    · by_cases h3 : off ≤ j ∧ j < off + n
      · rw [if_pos (by omega), if_neg (by omega), if_pos ⟨rfl, h3⟩]
      · rw [if_neg (by omega), if_neg (by omega), if_neg (by omega)]
  · rw [if_neg (fun g => h g.1), if_neg (fun g => h g.1), if_neg (fun g => h g.1)]
theorem sRow_row (S : MS) (A off : Nat) (f : Nat → Int32) (n : Nat) {i : Nat} (h : i ≠ A) : (sRow S A off f n).2.1 i = S.2.1 i := by
  unfold sRow r2
  dsimp only
  rw [if_neg h]
theorem sRow_sRow (S : MS) (A off : Nat) (f g : Nat → Int32) (n : Nat) : sRow (sRow S A off f n) A off g n = sRow S A off g n := by
  refine Prod.ext rfl (Prod.ext ?_ rfl)
  funext i j
  rw [sRow_at, sRow_at, sRow_at]
  by_cases h : i = A ∧ off ≤ j ∧ j < off + n
  · rw [if_pos h, if_pos h]
  · rw [if_neg h, if_neg h, if_neg h]
theorem sRow_eq {S : MS} {A off : Nat} {f : Nat → Int32} {n i : Nat} (h : i < n) : (sRow S A off f n).2.1 A (off + i) = f i := by
  rw [sRow_at, if_pos ⟨rfl, by omega, by omega⟩, show off + i - off = i by omega]
theorem sRow_ge {S : MS} {A off : Nat} {f : Nat → Int32} {n j : Nat} (h : j < off ∨ off + n ≤ j) : (sRow S A off f n).2.1 A j = S.2.1 A j := by
  rw [sRow_at, if_neg (by omega)]
/-! whole numbers of either sign -/
def zI (z : Int) : Int32 := Int32.ofInt z
theorem zI_nat (n : Nat) : zI (n : Int) = nI n := by
  unfold zI nI
  rfl
theorem zI_toInt {z : Int} (h1 : -2 ^ 31 ≤ z) (h2 : z < 2 ^ 31) : (zI z).toInt = z := by
  unfold zI
  exact Int32.toInt_ofInt_of_le h1 h2
theorem zI_add (a b : Int) : zI a + zI b = zI (a + b) := (Int32.ofInt_add a b).symm
theorem zI_sub (a b : Int) : zI a - zI b = zI (a - b) := (Int32.ofInt_sub a b).symm
theorem zI_mul (a b : Int) : zI a * zI b = zI (a * b) := (Int32.ofInt_mul a b).symm
theorem zI_neg (a : Int) : -zI a = zI (-a) := (Int32.ofInt_neg a).symm
theorem zI_eq0 {z : Int} (h1 : -2 ^ 31 ≤ z) (h2 : z < 2 ^ 31) : zI z = 0 ↔ z = 0 := by
  constructor
  · intro h
    have := congrArg Int32.toInt h
    rw [zI_toInt h1 h2] at this
    exact this
  · rintro rfl
    rfl
theorem zI_lt0 {z : Int} (h1 : -2 ^ 31 ≤ z) (h2 : z < 2 ^ 31) : zI z < 0 ↔ z < 0 := by
  rw [Int32.lt_iff_toInt_lt, zI_toInt h1 h2]
  exact Iff.rfl
theorem zI_le0 {z : Int} (h1 : -2 ^ 31 ≤ z) (h2 : z < 2 ^ 31) : zI z ≤ 0 ↔ z ≤ 0 := by
  rw [Int32.le_iff_toInt_le, zI_toInt h1 h2]
  exact Iff.rfl
theorem zI_ge0 {z : Int} (h1 : -2 ^ 31 ≤ z) (h2 : z < 2 ^ 31) : 0 ≤ zI z ↔ 0 ≤ z := by
  rw [Int32.le_iff_toInt_le, zI_toInt h1 h2]
  exact Iff.rfl
theorem zI_nat' {z : Int} (h : 0 ≤ z) : zI z = nI z.toNat := by
  rw [← zI_nat, Int.toNat_of_nonneg h]
