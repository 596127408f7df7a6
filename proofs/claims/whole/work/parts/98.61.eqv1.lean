/-! holes: matrices up to signed permutations -/
def sg1 (e : Int) : Prop := e = 1 ∨ e = -1
theorem sg1.mul {a b : Int} (h : sg1 a) (g : sg1 b) : sg1 (a * b) := by
  rcases h with rfl | rfl <;> rcases g with rfl | rfl
  · exact Or.inl rfl
  · exact Or.inr rfl
  · exact Or.inr rfl
  · exact Or.inl rfl
theorem sg1.sq {a : Int} (h : sg1 a) : a * a = 1 := by rcases h with rfl | rfl <;> rfl
theorem sg1.abs {a : Int} (h : sg1 a) (b : Int) : (a * b).natAbs = b.natAbs := by
  rcases h with rfl | rfl
  · rw [Int.one_mul]
  · rw [Int.neg_mul, Int.one_mul, Int.natAbs_neg]
theorem sg1.ne {a : Int} (h : sg1 a) : a ≠ 0 := by rcases h with rfl | rfl <;> decide
theorem sg1.td {a b : Int} (h : sg1 a) (g : sg1 b) (x y : Int) : (a * x).tdiv (b * y) = a * b * x.tdiv y := by
  rcases h with rfl | rfl <;> rcases g with rfl | rfl
  · simp
  · simp [Int.tdiv_neg]
  · simp [Int.neg_tdiv]
  · simp [Int.neg_tdiv, Int.tdiv_neg]
/-- the part of A from d on is t, its rows and columns named anew, with signs -/
def EqvW (A : MT) (d R C : Nat) (t : MT) (p k : Nat → Nat) (e f : Nat → Int) : Prop := (∀ i, sg1 (e i)) ∧ (∀ j, sg1 (f j)) ∧ (∀ i i', d ≤ i → i < R → d ≤ i' → i' < R → p i = p i' → i = i') ∧ (∀ j j', d ≤ j → j < C → d ≤ j' → j' < C → k j = k j' → j = j') ∧ (∀ i j, d ≤ i → i < R → d ≤ j → j < C → A i j = e i * f j * t (p i) (k j)) ∧ ∀ x y, t x y ≠ 0 → (∃ i, d ≤ i ∧ i < R ∧ p i = x) ∧ ∃ j, d ≤ j ∧ j < C ∧ k j = y
/-- the same, for whole matrices -/
def Sim (u t : MT) : Prop := ∃ p k : Nat → Nat, ∃ e f : Nat → Int, (∀ i, sg1 (e i)) ∧ (∀ j, sg1 (f j)) ∧ (∀ i i', p i = p i' → i = i') ∧ (∀ j j', k j = k j' → j = j') ∧ (∀ i j, u i j = e i * f j * t (p i) (k j)) ∧ ∀ x y, t x y ≠ 0 → (∃ i, p i = x) ∧ ∃ j, k j = y
theorem EqvW.sim {A : MT} {d R C : Nat} {u t : MT} {p k : Nat → Nat} {e f : Nat → Int} (h : EqvW A d R C u p k e f) (g : Sim u t) : ∃ p' k' e' f', EqvW A d R C t p' k' e' f' := by
  obtain ⟨h1, h2, h3, h4, h5, h6⟩ := h
  obtain ⟨q, l, a, b, g1, g2, g3, g4, g5, g6⟩ := g
  refine ⟨fun i => q (p i), fun j => l (k j), fun i => e i * a (p i), fun j => f j * b (k j), fun i => (h1 i).mul (g1 _), fun j => (h2 j).mul (g2 _), fun i i' a1 a2 a3 a4 w => h3 i i' a1 a2 a3 a4 (g3 _ _ w), fun j j' a1 a2 a3 a4 w => h4 j j' a1 a2 a3 a4 (g4 _ _ w), fun i j a1 a2 a3 a4 => ?_, fun x y hx => ?_⟩
  · rw [h5 i j a1 a2 a3 a4, g5]
    grind
  · obtain ⟨⟨x', rfl⟩, ⟨y', rfl⟩⟩ := g6 x y hx
    have : u x' y' ≠ 0 := by
      rw [g5]
      exact Int.mul_ne_zero (Int.mul_ne_zero (g1 _).ne (g2 _).ne) hx
    obtain ⟨⟨i, i1, i2, i3⟩, ⟨j, j1, j2, j3⟩⟩ := h6 x' y' this
    exact ⟨⟨i, i1, i2, congrArg q i3⟩, ⟨j, j1, j2, congrArg l j3⟩⟩
/-- the steps, for any place of the least number -/
def st1 (t : MT) (x y : Nat) : MT := fun i j => if i = x then t x j else t i j - (t i y).tdiv (t x y) * t x j
def st2 (t : MT) (x y : Nat) : MT := fun i j => if j = y then t i y else t i j - (t x j).tdiv (t x y) * t i y
def adT (t : MT) (x r : Nat) (s : Int) : MT := fun i j => if i = x then t x j + s * t r j else t i j
def fnT (t : MT) (x y : Nat) : MT := fun i j => if i = x ∨ j = y then 0 else t i j
def mnE (t : MT) (x y : Nat) : Prop := t x y ≠ 0 ∧ ∀ i j, t i j ≠ 0 → (t x y).natAbs ≤ (t i j).natAbs
theorem swC_d (d r : Nat) : swC d r d = r := by
  show (if d = r then d else if d = d then r else d) = r
  split
  · assumption
  · rw [if_pos rfl]
theorem swC_in {d r i R : Nat} (hr : d ≤ r ∧ r < R) (hi : d ≤ i) (hi2 : i < R) : d ≤ swC d r i ∧ swC d r i < R := by
  show d ≤ (if i = r then d else if i = d then r else i) ∧ (if i = r then d else if i = d then r else i) < R
  split
  · omega
  · split <;> omega
theorem swC_ij {d r i i' : Nat} (e : swC d r i = swC d r i') : i = i' := by
  have e : (if i = r then d else if i = d then r else i) = (if i' = r then d else if i' = d then r else i') := e
  split at e <;> split at e <;> (try split at e) <;> (try split at e) <;> omega
theorem swC_2 (d r i : Nat) : swC d r (swC d r i) = i := by
  show (if (if i = r then d else if i = d then r else i) = r then d else if (if i = r then d else if i = d then r else i) = d then r else (if i = r then d else if i = d then r else i)) = i
  by_cases a : i = r
  · subst a
    rw [if_pos rfl]
    by_cases b : d = i
    · rw [if_pos b, b]
    · rw [if_neg b, if_pos rfl]
  · by_cases b : i = d
    · subst b
      rw [if_neg a, if_pos rfl, if_pos rfl]
    · rw [if_neg a, if_neg b, if_neg a, if_neg b]
theorem EqvW.sw {A : MT} {d R C : Nat} {t : MT} {p k : Nat → Nat} {e f : Nat → Int} (h : EqvW A d R C t p k e f) {r c : Nat} (hr : d ≤ r ∧ r < R) (hc : d ≤ c ∧ c < C) : EqvW (swM A d r c) d R C t (fun i => p (swC d r i)) (fun j => k (swC d c j)) (fun i => e (swC d r i)) (fun j => f (swC d c j)) := by
  obtain ⟨h1, h2, h3, h4, h5, h6⟩ := h
  refine ⟨fun i => h1 _, fun j => h2 _, fun i i' a1 a2 a3 a4 w => ?_, fun j j' a1 a2 a3 a4 w => ?_, fun i j a1 a2 a3 a4 => ?_, fun x y hx => ?_⟩
  · have b := swC_in hr a1 a2
    have b' := swC_in hr a3 a4
    exact swC_ij (h3 _ _ b.1 b.2 b'.1 b'.2 w)
  · have b := swC_in hc a1 a2
    have b' := swC_in hc a3 a4
    exact swC_ij (h4 _ _ b.1 b.2 b'.1 b'.2 w)
  · have b := swC_in hr a1 a2
    have b' := swC_in hc a3 a4
    exact h5 _ _ b.1 b.2 b'.1 b'.2
  · obtain ⟨⟨i, i1, i2, i3⟩, ⟨j, j1, j2, j3⟩⟩ := h6 x y hx
    have b := swC_in hr i1 i2
    have b' := swC_in hc j1 j2
    exact ⟨⟨swC d r i, b.1, b.2, by dsimp only; rw [swC_2]; exact i3⟩, ⟨swC d c j, b'.1, b'.2, by dsimp only; rw [swC_2]; exact j3⟩⟩
theorem EqvW.ng {A : MT} {d R C : Nat} {t : MT} {p k : Nat → Nat} {e f : Nat → Int} (h : EqvW A d R C t p k e f) : EqvW (ngM A d C) d R C t p k (fun i => if i = d then - e i else e i) f := by
  obtain ⟨h1, h2, h3, h4, h5, h6⟩ := h
  refine ⟨fun i => ?_, h2, h3, h4, fun i j a1 a2 a3 a4 => ?_, h6⟩
  · dsimp only
    split
    · rcases h1 i with w | w
      · exact Or.inr (by rw [w])
      · exact Or.inl (by rw [w]; rfl)
    · exact h1 i
  · unfold ngM
    dsimp only
    by_cases w : i = d
    · rw [if_pos ⟨w, a3, a4⟩, if_pos w, h5 i j a1 a2 a3 a4, Int.neg_mul, Int.neg_mul]
    · rw [if_neg (fun q => w q.1), if_neg w, h5 i j a1 a2 a3 a4]
/-- where the least number stands -/
theorem EqvW.mn {A : MT} {d R C : Nat} {t : MT} {p k : Nat → Nat} {e f : Nat → Int} (h : EqvW A d R C t p k e f) {r c : Nat} (hl : isLe A d R C r c) : mnE t (p r) (k c) := by
  obtain ⟨h1, h2, h3, h4, h5, h6⟩ := h
  obtain ⟨hr, hc, hn, hm⟩ := hl
  have ab : ∀ i j, d ≤ i → i < R → d ≤ j → j < C → (A i j).natAbs = (t (p i) (k j)).natAbs := fun i j a1 a2 a3 a4 => by
    rw [h5 i j a1 a2 a3 a4]
    exact ((h1 i).mul (h2 j)).abs _
  refine ⟨fun z => hn ?_, fun x y hx => ?_⟩
  · have := ab r c hr.1 hr.2 hc.1 hc.2
    rw [z] at this
    exact Int.natAbs_eq_zero.mp this
  · obtain ⟨⟨i, i1, i2, rfl⟩, ⟨j, j1, j2, rfl⟩⟩ := h6 x y hx
    have := hm i j i1 i2 j1 j2 (fun z => by
      have q := ab i j i1 i2 j1 j2
      rw [z] at q
      exact hx (Int.natAbs_eq_zero.mp q.symm))
    rw [ab i j i1 i2 j1 j2, ab r c hr.1 hr.2 hc.1 hc.2] at this
    exact this
theorem sub_ne {a b : Int} (h : a - b ≠ 0) : a ≠ 0 ∨ b ≠ 0 := by omega
/-- rows -/
theorem EqvW.r1 {A : MT} {d R C : Nat} {t : MT} {p k : Nat → Nat} {e f : Nat → Int} (h : EqvW A d R C t p k e f) (hd : d < R) (hd2 : d < C) : EqvW (rdR A d R) d R C (st1 t (p d) (k d)) p k e f := by
  obtain ⟨h1, h2, h3, h4, h5, h6⟩ := h
  refine ⟨h1, h2, h3, h4, fun i j a1 a2 a3 a4 => ?_, fun x y hx => ?_⟩
  · unfold rdR st1
    by_cases w : i = d
    · rw [if_neg (by omega), if_pos (by rw [w]), w]
      exact h5 d j (Nat.le_refl _) hd a3 a4
    · rw [if_pos ⟨⟨by omega, a2⟩, a3⟩, if_neg (fun q => w (h3 i d a1 a2 (Nat.le_refl _) hd q))]
      have q : tmR A d i = e i * e d * (t (p i) (k d)).tdiv (t (p d) (k d)) := by
        show (A i d).tdiv (A d d) = _
        rw [h5 i d a1 a2 (Nat.le_refl _) hd2, h5 d d (Nat.le_refl _) hd (Nat.le_refl _) hd2, ((h1 i).mul (h2 d)).td ((h1 d).mul (h2 d))]
        have := (h2 d).sq
        grind
      rw [q, h5 i j a1 a2 a3 a4, h5 d j (Nat.le_refl _) hd a3 a4]
      have := (h1 d).sq
      grind
  · unfold st1 at hx
    by_cases w : x = p d
    · rw [if_pos w] at hx
      exact ⟨⟨d, Nat.le_refl _, hd, w.symm⟩, (h6 _ _ hx).2⟩
    · rw [if_neg w] at hx
      rcases sub_ne hx with q | q
      · exact h6 _ _ q
      · have q1 : t (p d) y ≠ 0 := fun z => q (by rw [z, Int.mul_zero])
        have q2 : t x (k d) ≠ 0 := fun z => q (by rw [z, Int.zero_tdiv, Int.zero_mul])
        exact ⟨(h6 _ _ q2).1, (h6 _ _ q1).2⟩
/-- columns -/
theorem EqvW.r2 {A : MT} {d R C : Nat} {t : MT} {p k : Nat → Nat} {e f : Nat → Int} (h : EqvW A d R C t p k e f) (hd : d < R) (hd2 : d < C) : EqvW (rcM A d C) d R C (st2 t (p d) (k d)) p k e f := by
  obtain ⟨h1, h2, h3, h4, h5, h6⟩ := h
  refine ⟨h1, h2, h3, h4, fun i j a1 a2 a3 a4 => ?_, fun x y hx => ?_⟩
  · unfold rcM rdR st2 trM
    by_cases w : j = d
    · rw [if_neg (by omega), if_pos (by rw [w]), w]
      exact h5 i d a1 a2 (Nat.le_refl _) hd2
    · rw [if_pos ⟨⟨by omega, a4⟩, a1⟩, if_neg (fun q => w (h4 j d a3 a4 (Nat.le_refl _) hd2 q))]
      have q : (A d j).tdiv (A d d) = f j * f d * (t (p d) (k j)).tdiv (t (p d) (k d)) := by
        rw [h5 d j (Nat.le_refl _) hd a3 a4, h5 d d (Nat.le_refl _) hd (Nat.le_refl _) hd2, ((h1 d).mul (h2 j)).td ((h1 d).mul (h2 d))]
        have := (h1 d).sq
        grind
      show A i j - (A d j).tdiv (A d d) * A i d = _
      rw [q, h5 i j a1 a2 a3 a4, h5 i d a1 a2 (Nat.le_refl _) hd2]
      have := (h2 d).sq
      grind
  · unfold st2 at hx
    by_cases w : y = k d
    · rw [if_pos w] at hx
      exact ⟨(h6 _ _ hx).1, ⟨d, Nat.le_refl _, hd2, w.symm⟩⟩
    · rw [if_neg w] at hx
      rcases sub_ne hx with q | q
      · exact h6 _ _ q
      · have q1 : t x (k d) ≠ 0 := fun z => q (by rw [z, Int.mul_zero])
        have q2 : t (p d) y ≠ 0 := fun z => q (by rw [z, Int.zero_tdiv, Int.zero_mul])
        exact ⟨(h6 _ _ q1).1, (h6 _ _ q2).2⟩
