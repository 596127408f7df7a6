/-! holes: a table of blocks that both reductions keep to -/
theorem EqvW.cg {A B : MT} {d R C : Nat} {t : MT} {p k : Nat → Nat} {e f : Nat → Int} (h : EqvW A d R C t p k e f) (g : ∀ i j, d ≤ i → i < R → d ≤ j → j < C → B i j = A i j) : EqvW B d R C t p k e f := ⟨h.1, h.2.1, h.2.2.1, h.2.2.2.1, fun i j a1 a2 a3 a4 => (g i j a1 a2 a3 a4).trans (h.2.2.2.2.1 i j a1 a2 a3 a4), h.2.2.2.2.2⟩
theorem EqvW.ad {A : MT} {d R C : Nat} {t : MT} {p k : Nat → Nat} {e f : Nat → Int} (h : EqvW A d R C t p k e f) (hd : d < R) {r : Nat} (hr : d < r) (hr2 : r < R) : EqvW (adR A d r) d R C (adT t (p d) (p r) (e d * e r)) p k e f := by
  obtain ⟨h1, h2, h3, h4, h5, h6⟩ := h
  refine ⟨h1, h2, h3, h4, fun i j a1 a2 a3 a4 => ?_, fun x y hx => ?_⟩
  · unfold adR adT
    by_cases w : i = d
    · rw [if_pos w, if_pos (by rw [w]), h5 d j (Nat.le_refl _) hd a3 a4, h5 r j (by omega) hr2 a3 a4, w]
      have := (h1 d).sq
      grind
    · rw [if_neg w, if_neg (fun q => w (h3 i d a1 a2 (Nat.le_refl _) hd q))]
      exact h5 i j a1 a2 a3 a4
  · unfold adT at hx
    by_cases w : x = p d
    · rw [if_pos w] at hx
      refine ⟨⟨d, Nat.le_refl _, hd, w.symm⟩, ?_⟩
      by_cases q : t (p d) y = 0
      · exact (h6 (p r) y (fun z => hx (by rw [q, z]; simp))).2
      · exact (h6 _ _ q).2
    · rw [if_neg w] at hx
      exact h6 _ _ hx
theorem EqvW.fn {A : MT} {d R C : Nat} {t : MT} {p k : Nat → Nat} {e f : Nat → Int} (h : EqvW A d R C t p k e f) (hd : d < R) (hd2 : d < C) : EqvW A (d + 1) R C (fnT t (p d) (k d)) p k e f := by
  obtain ⟨h1, h2, h3, h4, h5, h6⟩ := h
  refine ⟨h1, h2, fun i i' a1 a2 a3 a4 => h3 i i' (by omega) a2 (by omega) a4, fun j j' a1 a2 a3 a4 => h4 j j' (by omega) a2 (by omega) a4, fun i j a1 a2 a3 a4 => ?_, fun x y hx => ?_⟩
  · unfold fnT
    rw [if_neg (fun q => q.elim (fun q => by have := h3 i d (by omega) a2 (Nat.le_refl _) hd q; omega) (fun q => by have := h4 j d (by omega) a4 (Nat.le_refl _) hd2 q; omega))]
    exact h5 i j (by omega) a2 (by omega) a4
  · unfold fnT at hx
    by_cases w : x = p d ∨ y = k d
    · rw [if_pos w] at hx; exact absurd rfl hx
    · rw [if_neg w] at hx
      obtain ⟨⟨i, i1, i2, i3⟩, ⟨j, j1, j2, j3⟩⟩ := h6 x y hx
      refine ⟨⟨i, ?_, i2, i3⟩, ⟨j, ?_, j2, j3⟩⟩
      · by_cases q : i = d
        · exact absurd (Or.inl (by rw [← i3, q])) w
        · omega
      · by_cases q : j = d
        · exact absurd (Or.inr (by rw [← j3, q])) w
        · omega
/-- the table: blocks, their diagonal numbers, a measure -/
def Nxt (K : Nat) (T : Nat → MT) (lab : Nat → List Nat) (mu : Nat → Nat) (m : Nat) (u : MT) (l : List Nat) : Prop := ∃ k, k < K ∧ Sim u (T k) ∧ lab k = l ∧ mu k < m
def dvT (t : MT) (x y r c : Nat) : Prop := t r c = (t r c).tdiv (t x y) * t x y
def TabOK (K : Nat) (T : Nat → MT) (lab : Nat → List Nat) (mu : Nat → Nat) : Prop := ∀ k, k < K → (∀ i j, (T k i j).natAbs ≤ 1000) ∧ mu k < 100000 ∧ ((∀ i j, T k i j = 0) → lab k = []) ∧ ∀ x y, mnE (T k) x y →
  ((∃ i, i ≠ x ∧ st1 (T k) x y i y ≠ 0) → Nxt K T lab mu (mu k) (st1 (T k) x y) (lab k) ∧ Nxt K T lab mu (mu k) (st2 (st1 (T k) x y) x y) (lab k)) ∧
  ((∀ i, i ≠ x → st1 (T k) x y i y = 0) →
    ((∃ j, j ≠ y ∧ st2 (st1 (T k) x y) x y x j ≠ 0) → Nxt K T lab mu (mu k) (st2 (st1 (T k) x y) x y) (lab k)) ∧
    ((∀ j, j ≠ y → st2 (st1 (T k) x y) x y x j = 0) →
      (∀ r c s, r ≠ x → c ≠ y → sg1 s → ¬ dvT (st2 (st1 (T k) x y) x y) x y r c → Nxt K T lab mu (mu k) (adT (st2 (st1 (T k) x y) x y) x r s) (lab k)) ∧
      ((∀ r c, r ≠ x → c ≠ y → dvT (st2 (st1 (T k) x y) x y) x y r c) → ∃ k', k' < K ∧ Sim (fnT (st2 (st1 (T k) x y) x y) x y) (T k') ∧ lab k = (T k x y).natAbs :: lab k')))
/-- diagonal numbers that are found -/
def dgL (A : MT) : Nat → List Nat
  | 0 => []
  | d + 1 => dgL A d ++ [(A d d).natAbs]
theorem dgL_cg {A B : MT} : ∀ d, (∀ i, i < d → A i i = B i i) → dgL A d = dgL B d
  | 0, _ => rfl
  | d + 1, h => by
    show dgL A d ++ [(A d d).natAbs] = dgL B d ++ [(B d d).natAbs]
    rw [dgL_cg d (fun i hi => h i (by omega)), h d (by omega)]
/-- what the steps keep -/
def GT (R C K : Nat) (T : Nat → MT) (lab : Nat → List Nat) (mu : Nat → Nat) (L0 : List Nat) (d n : Nat) (A : MT) : Prop := ∃ k, k < K ∧ n = mu k ∧ (∃ p q e f, EqvW A d R C (T k) p q e f) ∧ (∀ i j, i < R → j < C → i ≠ j → (i < d ∨ j < d) → A i j = 0) ∧ (∀ i, i < d → (A i i).natAbs ≤ 1000) ∧ dgL A d ++ lab k = L0
theorem EqvW.sm {A : MT} {d R C : Nat} {t : MT} {p k : Nat → Nat} {e f : Nat → Int} (h : EqvW A d R C t p k e f) (hb : ∀ i j, (t i j).natAbs ≤ 1000) : ∀ i, d ≤ i → i < R → ∀ j, d ≤ j → j < C → (A i j).natAbs ≤ 1000 := fun i a1 a2 j a3 a4 => by
  rw [h.2.2.2.2.1 i j a1 a2 a3 a4, ((h.1 i).mul (h.2.1 j)).abs]
  exact hb _ _
theorem Sim.bd {u t : MT} (h : Sim u t) (hb : ∀ i j, (t i j).natAbs ≤ 1000) : ∀ i j, (u i j).natAbs ≤ 1000 := fun i j => by
  obtain ⟨p, k, e, f, h1, h2, -, -, h5, -⟩ := h
  rw [h5, ((h1 i).mul (h2 j)).abs]
  exact hb _ _
theorem sm_1000 {a : Int} (h : a.natAbs ≤ 1000) : sm a := ⟨by omega, by omega⟩
