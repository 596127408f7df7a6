/-! loops -/
section AL
variable {X : am_X} {mi : Nat} {Q : am_R → Prop}
/-- a loop whose state after i rounds is known -/
theorem aw_det (Z : Nat → am_Z) (n : Nat) (hs : ∀ i, i < n → AW X mi (Z (i + 1)) Q → AW X mi (Z i) Q) (hx : AW X mi (Z n) Q) : ∀ i, i ≤ n → AW X mi (Z i) Q := by
  intro i hi
  have : ∀ d, d ≤ n → AW X mi (Z (n - d)) Q := by
    intro d
    induction d with
    | zero => intro _; exact hx
    | succ d ih =>
      intro hd
      have h1 := ih (by omega)
      have e : n - d = n - (d + 1) + 1 := by omega
      rw [e] at h1
      exact hs _ (by omega) h1
  have h2 := this (n - i) (by omega)
  rw [show n - (n - i) = i by omega] at h2
  exact h2
theorem aw_for {z : am_Z} (Z : Nat → am_Z) (n : Nat) (h0 : z = Z 0) (hs : ∀ i, i < n → AW X mi (Z (i + 1)) Q → AW X mi (Z i) Q) (hx : AW X mi (Z n) Q) : AW X mi z Q := by
  rw [h0]
  exact aw_det Z n hs hx 0 (Nat.zero_le _)
theorem aw_from {z : am_Z} (Z : Nat → am_Z) (i0 n : Nat) (hi : i0 ≤ n) (h0 : z = Z i0) (hs : ∀ i, i0 ≤ i → i < n → AW X mi (Z (i + 1)) Q → AW X mi (Z i) Q) (hx : AW X mi (Z n) Q) : AW X mi z Q := by
  rw [h0]
  have h := aw_det (X := X) (mi := mi) (Q := Q) (fun i => Z (i0 + i)) (n - i0) (fun i h1 h2 => hs (i0 + i) (by omega) (by omega) (by rw [show i0 + i + 1 = i0 + (i + 1) by omega]; exact h2)) (by rw [show i0 + (n - i0) = n by omega]; exact hx) 0 (Nat.zero_le _)
  exact h
/-- a loop with an invariant and a measure -/
theorem aw_inv {σ : Type} (Z : σ → am_Z) (I : σ → Prop) (μ : σ → Nat) (hs : ∀ s, I s → (∀ s', I s' → μ s' < μ s → AW X mi (Z s') Q) → AW X mi (Z s) Q) (s : σ) (h : I s) : AW X mi (Z s) Q := by
  have : ∀ m s, μ s < m → I s → AW X mi (Z s) Q := by
    intro m
    induction m with
    | zero => intro s h; omega
    | succ m ih => exact fun s h1 h2 => hs s h2 (fun s' h3 h4 => ih s' (by omega) h3)
  exact this (μ s + 1) s (by omega) h
end AL
/-- how many of the first n have p -/
def cnt (p : Nat → Bool) : Nat → Nat
  | 0 => 0
  | n + 1 => cnt p n + if p n then 1 else 0
theorem cnt_le (p : Nat → Bool) : ∀ n, cnt p n ≤ n
  | 0 => Nat.le_refl _
  | n + 1 => by
    have := cnt_le p n
    unfold cnt
    split <;> omega
theorem cnt_congr {p q : Nat → Bool} : ∀ n, (∀ i, i < n → p i = q i) → cnt p n = cnt q n
  | 0, _ => rfl
  | n + 1, h => by
    unfold cnt
    rw [cnt_congr n (fun i hi => h i (by omega)), h n (by omega)]
theorem cnt_mono (p : Nat → Bool) {m n : Nat} (h : m ≤ n) : cnt p m ≤ cnt p n := by
  induction n with
  | zero => rw [show m = 0 by omega]; exact Nat.le_refl _
  | succ n ih =>
    by_cases e : m = n + 1
    · subst e; exact Nat.le_refl _
    · have := ih (by omega)
      have e2 : cnt p (n + 1) = cnt p n + if p n then 1 else 0 := rfl
      omega
