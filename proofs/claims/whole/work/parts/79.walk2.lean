/-! holes: the way around an edge that is not bent comes to an end -/
theorem pig {m : Nat} : ∀ n (f : Nat → Nat), (∀ i, i < n → f i < m) → (∀ i j, i < n → j < n → f i = f j → i = j) → n ≤ m := by
  induction m with
  | zero =>
    intro n f h _
    rcases Nat.eq_zero_or_pos n with e | e
    · omega
    · exact absurd (h 0 e) (Nat.not_lt_zero _)
  | succ m ih =>
    intro n f h g
    by_cases c : ∃ i, i < n ∧ f i = m
    · obtain ⟨i, hi, e⟩ := c
      have key := ih (n - 1) (fun j => f (if j < i then j else j + 1)) ?_ ?_
      · omega
      · intro j hj
        by_cases q : j < i
        · rw [if_pos q]
          have h1 := h j (by omega)
          have h2 : f j ≠ m := fun w => by have := g j i (by omega) hi (w.trans e.symm); omega
          omega
        · rw [if_neg q]
          have h1 := h (j + 1) (by omega)
          have h2 : f (j + 1) ≠ m := fun w => by have := g (j + 1) i (by omega) hi (w.trans e.symm); omega
          omega
      · intro j k hj hk w
        have w2 := g _ _ (by split <;> omega) (by split <;> omega) w
        split at w2 <;> split at w2 <;> omega
    · have key := ih n f (fun i hi => ?_) g
      · omega
      · have h1 := h i hi
        have h2 : f i ≠ m := fun w => c ⟨i, hi, w⟩
        omega
/-- no edge is bent: its two ends have names that every gluing keeps -/
def NB (P : Nat) (mt : Nat → Option Nat) (go : Nat → Nat) (L : Nat → Nat) : Prop := (∀ s t a b, s < 4 * P → mt s = some t → a < 4 → b < 4 → a ≠ b → a ≠ s % 4 → b ≠ s % 4 → L (endI (s / 4) a b) = L (endI (t / 4) (go (4 * s + a)) (go (4 * s + b)))) ∧ ∀ k, k < 6 * P → L (2 * k) ≠ L (2 * k + 1)
abbrev wL (L : Nat → Nat) (w : WS) : Nat := L (endI (w.1 / 4) w.2.1 w.2.2)
abbrev wE (w : WS) : Nat := 6 * (w.1 / 4) + eOf w.2.1 w.2.2
theorem wL_st {P : Nat} {mt : Nat → Option Nat} {go L : Nat → Nat} (hG : GW P mt go) (hN : NB P mt go L) {w v : WS} (h : WV P w) (e : wst mt go w = some v) : wL L v = wL L w := by
  obtain ⟨t, a1, a2, a3, a4, a5, a6, a7, a8, a9, b1, b2, b3, b4, b5⟩ := wst_f hG h e
  obtain ⟨h1, h2, h3, h4, h5, h6⟩ := h
  have q := hN.1 w.1 t w.2.1 w.2.2 h1 a1 h2 h3 h4 h5 h6
  rw [← a5, ← a6] at q
  have k := oth4 a9 b1 (show t % 4 < 4 by omega) b2 b3 b4
  have e1 : v.1 / 4 = t / 4 := by omega
  show L (endI (v.1 / 4) v.2.1 v.2.2) = _
  rw [e1]
  exact q.symm
theorem wL_it {P : Nat} {mt : Nat → Option Nat} {go L : Nat → Nat} (hG : GW P mt go) (hN : NB P mt go L) {w : WS} (h : WV P w) : ∀ n v, wit mt go n w = some v → wL L v = wL L w
  | 0, v, e => by cases e; rfl
  | n + 1, v, e => by
    obtain ⟨u, e1, e2⟩ := wit_p e
    rw [wL_st hG hN (h.it hG n u e1) e2]
    exact wL_it hG hN h n u e1
theorem eOf_inj {a b c d : Nat} (ha : a < 4) (hb : b < 4) (hc : c < 4) (hd : d < 4) (h1 : a ≠ b) (h2 : c ≠ d) (e : eOf a b = eOf c d) : (a = c ∧ b = d) ∨ (a = d ∧ b = c) := by
  rcases (show a = 0 ∨ a = 1 ∨ a = 2 ∨ a = 3 by omega) with rfl | rfl | rfl | rfl <;> rcases (show b = 0 ∨ b = 1 ∨ b = 2 ∨ b = 3 by omega) with rfl | rfl | rfl | rfl <;> rcases (show c = 0 ∨ c = 1 ∨ c = 2 ∨ c = 3 by omega) with rfl | rfl | rfl | rfl <;> rcases (show d = 0 ∨ d = 1 ∨ d = 2 ∨ d = 3 by omega) with rfl | rfl | rfl | rfl <;> first | omega | exact absurd e (by decide)
theorem endI_flip {p a b : Nat} (ha : a < 4) (hb : b < 4) (h : a ≠ b) : (endI p a b = 2 * (6 * p + eOf a b) ∧ endI p b a = 2 * (6 * p + eOf a b) + 1) ∨ (endI p b a = 2 * (6 * p + eOf a b) ∧ endI p a b = 2 * (6 * p + eOf a b) + 1) := by
  have e : eOf b a = eOf a b := by
    rcases (show a = 0 ∨ a = 1 ∨ a = 2 ∨ a = 3 by omega) with rfl | rfl | rfl | rfl <;> rcases (show b = 0 ∨ b = 1 ∨ b = 2 ∨ b = 3 by omega) with rfl | rfl | rfl | rfl <;> rfl
  unfold endI
  rw [e]
  by_cases c : a < b
  · left
    constructor
    · simp [c]; omega
    · simp [show ¬ b < a by omega]; omega
  · right
    constructor
    · simp [show b < a by omega]; omega
    · simp [c]; omega
/-- two stations at one edge: the same, or one the other's other side -/
theorem wE_eq {P : Nat} {L : Nat → Nat} (hN : ∀ k, k < 6 * P → L (2 * k) ≠ L (2 * k + 1)) {u v : WS} (h : WV P u) (g : WV P v) (e : wE u = wE v) (f : wL L u = wL L v) : u = v ∨ v = wrev u := by
  obtain ⟨s, a, b⟩ := u
  obtain ⟨s', a', b'⟩ := v
  obtain ⟨h1, h2, h3, h4, h5, h6⟩ := h
  obtain ⟨g1, g2, g3, g4, g5, g6⟩ := g
  dsimp only at h1 h2 h3 h4 h5 h6 g1 g2 g3 g4 g5 g6
  have e : 6 * (s / 4) + eOf a b = 6 * (s' / 4) + eOf a' b' := e
  have f : L (endI (s / 4) a b) = L (endI (s' / 4) a' b') := f
  have k1 := eOf_lt a h2 b h3
  have k2 := eOf_lt a' g2 b' g3
  have e1 : s / 4 = s' / 4 := by omega
  have e2 : eOf a b = eOf a' b' := by omega
  have key : a = a' ∧ b = b' := by
    rcases eOf_inj h2 h3 g2 g3 h4 g4 e2 with q | ⟨q1, q2⟩
    · exact q
    · exfalso
      subst q1 q2
      rw [← e1] at f
      have hk : 6 * (s / 4) + eOf a b < 6 * P := by omega
      rcases endI_flip (p := s / 4) h2 h3 h4 with ⟨w1, w2⟩ | ⟨w1, w2⟩
      · rw [w1, w2] at f
        exact hN _ hk f
      · rw [w1, w2] at f
        exact hN _ hk f.symm
  obtain ⟨rfl, rfl⟩ := key
  by_cases q : s % 4 = s' % 4
  · left
    rw [show s = s' by omega]
  · right
    refine Prod.ext ?_ rfl
    show s' = 4 * (s / 4) + (6 - a - b - s % 4)
    have q2 : s' % 4 = 6 - a - b - s % 4 := by
      have z1 : s % 4 < 4 := by omega
      have z2 : s' % 4 < 4 := by omega
      generalize s % 4 = x at *
      generalize s' % 4 = y at *
      clear e e1 e2 f k1 k2 h1 g1
      rcases (show a = 0 ∨ a = 1 ∨ a = 2 ∨ a = 3 by omega) with rfl | rfl | rfl | rfl <;> rcases (show b = 0 ∨ b = 1 ∨ b = 2 ∨ b = 3 by omega) with rfl | rfl | rfl | rfl <;> omega
    omega
/-- the way ends after at most as many steps as there are edges -/
theorem walk_end {P : Nat} {mt : Nat → Option Nat} {go L : Nat → Nat} (hG : GW P mt go) (hN : NB P mt go L) {w : WS} (h : WV P w) : ∃ n, n < 6 * P ∧ ∃ v, wit mt go n w = some v ∧ (mt v.1 = none ∨ wst mt go v = some w) ∧ ∀ i, i < n → ∃ u x, wit mt go i w = some u ∧ wst mt go u = some x ∧ x ≠ w := by
  have key : ∀ m, (∃ n, n < m ∧ ∃ v, wit mt go n w = some v ∧ (mt v.1 = none ∨ wst mt go v = some w) ∧ ∀ i, i < n → ∃ u x, wit mt go i w = some u ∧ wst mt go u = some x ∧ x ≠ w) ∨ ((∃ v, wit mt go m w = some v) ∧ ∀ i, i < m → ∃ u x, wit mt go i w = some u ∧ wst mt go u = some x ∧ x ≠ w) := by
    intro m
    induction m with
    | zero => exact Or.inr ⟨⟨w, rfl⟩, fun i hi => absurd hi (Nat.not_lt_zero _)⟩
    | succ m ih =>
      rcases ih with ⟨n, h1, h2⟩ | ⟨⟨v, h1⟩, h2⟩
      · exact Or.inl ⟨n, by omega, h2⟩
      · rcases mt_or mt v.1 with e0 | ⟨t, e0⟩
        · exact Or.inl ⟨m, by omega, v, h1, Or.inl e0, h2⟩
        · have e1 := wst_s (go := go) e0
          by_cases c : wst mt go v = some w
          · exact Or.inl ⟨m, by omega, v, h1, Or.inr c, h2⟩
          · refine Or.inr ⟨⟨_, wit_s h1 e1⟩, fun i hi => ?_⟩
            by_cases q : i = m
            · subst q
              exact ⟨v, _, h1, e1, fun z => c (by rw [e1, z])⟩
            · exact h2 i (by omega)
  rcases key (6 * P) with h1 | ⟨⟨v, h1⟩, h2⟩
  · exact h1
  · exfalso
    have hall : ∀ i, i < 6 * P + 1 → ∃ u, wit mt go i w = some u := fun i hi => by
      by_cases q : i = 6 * P
      · rw [q]; exact ⟨v, h1⟩
      · obtain ⟨u, x, a1, -⟩ := h2 i (by omega)
        exact ⟨u, a1⟩
    have hret : ∀ d, 0 < d → d < 6 * P + 1 → wit mt go d w ≠ some w := fun d h3 h4 e => by
      obtain ⟨u, x, a1, a2, a3⟩ := h2 (d - 1) (by omega)
      have := wit_s a1 a2
      rw [show d - 1 + 1 = d by omega, e] at this
      exact a3 (Option.some.inj this).symm
    have pg := pig (m := 6 * P) (6 * P + 1) (fun i => wE ((wit mt go i w).getD w)) (fun i hi => ?_) (fun i j hi hj e => ?_)
    · omega
    · obtain ⟨u, a1⟩ := hall i hi
      have hu := h.it hG i u a1
      show wE ((wit mt go i w).getD w) < _
      rw [a1]
      have := eOf_lt u.2.1 hu.2.1 u.2.2 hu.2.2.1
      have := hu.1
      show 6 * (u.1 / 4) + eOf u.2.1 u.2.2 < 6 * P
      omega
    · have main : ∀ i d, i + d < 6 * P + 1 → wE ((wit mt go i w).getD w) = wE ((wit mt go (i + d) w).getD w) → d = 0 := by
        intro i d hd e
        obtain ⟨u, a1⟩ := hall i (by omega)
        obtain ⟨x, b1⟩ := hall (i + d) hd
        rw [a1, b1] at e
        have hu := h.it hG i u a1
        have hx := h.it hG _ x b1
        have hl : wL L u = wL L x := (wL_it hG hN h i u a1).trans (wL_it hG hN h _ x b1).symm
        rcases wE_eq hN.2 hu hx e hl with q | q
        · subst q
          rcases Nat.eq_zero_or_pos d with z | z
          · exact z
          · exact absurd (wit_back hG h i d u a1 b1) (hret d z (by omega))
        · exfalso
          have sh : ∀ d y, wit mt go (i + d) w = some y → wit mt go d u = some y := by
            intro d
            induction d with
            | zero =>
              intro y hy
              rw [Nat.add_zero, a1] at hy
              exact hy
            | succ d ih =>
              intro y hy
              obtain ⟨z, c1, c2⟩ := wit_p (n := i + d) hy
              exact wit_s (ih z c1) c2
          have := sh d x b1
          rw [q] at this
          exact wit_rev hG d d (Nat.le_refl _) u hu this
      rcases Nat.le_total i j with q | q
      · have := main i (j - i) (by omega) (by rw [show i + (j - i) = j by omega]; exact e)
        omega
      · have := main j (i - j) (by omega) (by rw [show j + (i - j) = i by omega]; exact e.symm)
        omega
