/-! the search: how many rows, told by the solutions alone -/
theorem pigI : ∀ (m n : Nat) (f : Nat → Nat), (∀ i, i < n → f i < m) → (∀ i j, i < n → j < n → f i = f j → i = j) → n ≤ m
  | 0, n, f, h1, _ => by
    by_cases c : n = 0
    · omega
    · exact absurd (h1 0 (by omega)) (Nat.not_lt_zero _)
  | m + 1, n, f, h1, h2 => by
    by_cases c : ∃ k, k < n ∧ f k = m
    · obtain ⟨k, hk, hf⟩ := c
      have := pigI m (n - 1) (fun i => f (if i < k then i else i + 1)) (fun i hi => by
        have a := h1 (if i < k then i else i + 1) (by split <;> omega)
        have b : f (if i < k then i else i + 1) ≠ m := fun e => by
          have := h2 _ k (by split <;> omega) hk (e.trans hf.symm)
          split at this <;> omega
        show f _ < m
        omega) (fun i j hi hj e => by
        have := h2 _ _ (by split <;> omega) (by split <;> omega) e
        split at this <;> split at this <;> omega)
      omega
    · have := pigI m n f (fun i hi => by
        have a := h1 i hi
        have b : f i ≠ m := fun e => c ⟨i, hi, e⟩
        omega) h2
      omega
/-- rows that go to different places are no more than the places -/
theorem rows_le {n m : Nat} (P : Nat → Nat → Prop) (h1 : ∀ r, r < n → ∃ k, k < m ∧ P r k) (h2 : ∀ r s k, r < n → s < n → P r k → P s k → r = s) : n ≤ m := by
  have h : ∀ r, ∃ k, r < n → k < m ∧ P r k := fun r => by
    by_cases c : r < n
    · obtain ⟨k, hk⟩ := h1 r c
      exact ⟨k, fun _ => hk⟩
    · exact ⟨0, fun w => absurd w c⟩
  obtain ⟨f, hf⟩ := Classical.skolem.mp h
  exact pigI m n f (fun i hi => (hf i hi).1) (fun i j hi hj e => h2 i j (f i) hi hj (hf i hi).2 (by rw [e]; exact (hf j hj).2))
theorem ExF.le {w w' : Nat} {lg lg' : Vc → Prop} {E E' : List (Vc → Int)} {n n' : Nat} {R R' : Nat → Vc} (h : ExF w lg E n R) (h' : ExF w' lg' E' n' R') (g : ∀ v, MinS w lg E v → MinS w' lg' E' v) : n ≤ n' := by
  refine rows_le (m := n') (fun r k => k < n' ∧ sbv (R' k) (R r)) (fun r hr => ?_) (fun r s k hr hs a b => ?_)
  · obtain ⟨k, k1, k2⟩ := h'.2.1 _ (g _ (h.1 r hr))
    exact ⟨k, k1, k1, k2⟩
  · have m1 := g _ (h.1 r hr)
    have a2 := m1.2.2 _ (h'.1 k a.1).1 a.2
    exact h.2.2 r s hr hs (a2.trans b.2)
theorem MinS.cong {w : Nat} {lg : Vc → Prop} {E E' : List (Vc → Int)} (g : ∀ v, (∀ e ∈ E, e v = 0) ↔ ∀ e ∈ E', e v = 0) {v : Vc} (h : MinS w lg E v) : MinS w lg E' v :=
  ⟨⟨(g v).mp h.1.1, h.1.2⟩, h.2.1, fun u hu hs => h.2.2 u ⟨(g u).mpr hu.1, hu.2⟩ hs⟩
/-- fewer pieces -/
theorem MinS.wide {P : Nat} (hP : P ≤ 3) {E : List (Vc → Int)} {v : Vc} (h : MinS (7 * P) (lgP P) E v) : MinS 21 (lgP 3) E v := by
  obtain ⟨i, i1, i2⟩ := h.1.2.1
  refine ⟨⟨h.1.1, ⟨i, by omega, i2⟩, fun j hj => h.1.2.2 j (by omega)⟩, fun p hp q => ?_, fun u hu hs => ?_⟩
  · by_cases c : p < P
    · exact h.2.1 p c q
    · have a := h.1.2.2 (7 * p + 4) (by omega)
      have b := h.1.2.2 (7 * p + 5) (by omega)
      rcases q with q | q | q
      · exact q.1 a
      · exact q.1 a
      · exact q.1 b
  · refine h.2.2 u ⟨hu.1, ?_, fun j hj => hs j (h.1.2.2 j hj)⟩ hs
    obtain ⟨k, k1, k2⟩ := hu.2.1
    refine ⟨k, ?_, k2⟩
    by_cases c : k < 7 * P
    · exact c
    · exact absurd (hs k (h.1.2.2 k (by omega))) k2
/-- every place of a solution is in a least one within it -/
theorem MinS.cover {w : Nat} {lg : Vc → Prop} (hlg : ∀ u v, sbv u v → lg v → lg u) {E : List (Vc → Int)} (hE : ∀ e ∈ E, Lin e) {i : Nat} : ∀ n (v : Vc), szV v w ≤ n → Sol w E v → lg v → v i ≠ 0 → ∃ r, MinS w lg E r ∧ sbv r v ∧ r i ≠ 0 := by
  intro n
  induction n with
  | zero =>
    intro v h g _ _
    obtain ⟨i, h1, h2⟩ := g.2.1
    have := szV_lt (u := fun _ => 0) (v := v) (fun _ _ => rfl) (i := i) rfl h2 w h1
    omega
  | succ n ih =>
    intro v h g l hv
    obtain ⟨r, r1, r2⟩ := MinS.ex hlg (szV v w) v (Nat.le_refl _) g l
    by_cases c : r i = 0
    · obtain ⟨j, h1, h2, h3⟩ := ratioA (v := v) r1.1.2.1 r1.1.2.2
      have hvj : v j ≠ 0 := fun z => h2 (r2 j z)
      have hne : lessV r v j i ≠ 0 := by
        unfold lessV
        rw [c, Nat.mul_zero, Nat.sub_zero]
        exact Nat.mul_ne_zero h2 hv
      have hi : i < w := by
        by_cases d : i < w
        · exact d
        · exact absurd (g.2.2 i (by omega)) hv
      have hS : Sol w E (lessV r v j) := by
        refine ⟨fun e he => ?_, ⟨i, hi, hne⟩, fun k hk => lessV_sb r2 k (g.2.2 k hk)⟩
        rw [lessV_e (hE e he) h3, g.1 e he, r1.1.1 e he]
        omega
      have hlt := szV_lt (lessV_sb (i := j) r2) lessV_z hvj w h1
      obtain ⟨q, q1, q2, q3⟩ := ih (lessV r v j) (by omega) hS (hlg _ v (lessV_sb r2) l) hne
      exact ⟨q, q1, q2.trans (lessV_sb r2), q3⟩
    · exact ⟨r, r1, r2, c⟩
/-- the places that are not 0, as bits -/
def mkV (v : Vc) : Nat → Nat
  | 0 => 0
  | n + 1 => mkV v n ||| (if v n = 0 then 0 else 2 ^ n)
theorem mkV_bit (v : Vc) : ∀ n i, (mkV v n).testBit i = (decide (i < n) && decide (v i ≠ 0))
  | 0, i => by
    show (0 : Nat).testBit i = _
    simp
  | n + 1, i => by
    show (mkV v n ||| (if v n = 0 then 0 else 2 ^ n)).testBit i = _
    rw [Nat.testBit_or, mkV_bit v n i]
    by_cases c : v n = 0
    · rw [if_pos c, Nat.zero_testBit, Bool.or_false]
      by_cases e : i = n
      · subst e; simp [c]
      · have : (i < n) ↔ (i < n + 1) := by omega
        simp [this]
    · rw [if_neg c, Nat.testBit_two_pow]
      by_cases e : i = n
      · subst e; simp [c]
      · have h1 : (i < n) ↔ (i < n + 1) := by omega
        have h2 : (n = i) = False := by simp; omega
        simp [h1, h2]
theorem mkV_sb {u v : Vc} {w : Nat} (hu : ∀ i, w ≤ i → u i = 0) (h : ∀ i, (mkV u w).testBit i = true → (mkV v w).testBit i = true) : sbv u v := fun i z => by
  by_cases c : u i = 0
  · exact c
  · have hi : i < w := by
      by_cases d : i < w
      · exact d
      · exact absurd (hu i (by omega)) c
    have := h i (by rw [mkV_bit]; simp [hi, c])
    rw [mkV_bit] at this
    simp [z] at this
/-- all that is or-ed of some of l, as long as it is lawful -/
def orL : List Nat → Nat
  | [] => 0
  | a :: l => a ||| orL l
def okU (lw : Nat → Bool) (U : List Nat) (l : List Nat) : Prop := ∀ s : List Nat, s.Sublist l → lw (orL s) = true → orL s ∈ U
theorem okU_nil (lw : Nat → Bool) : okU lw [0] [] := fun s hs _ => by
  rw [List.sublist_nil.mp hs]
  exact List.mem_singleton.mpr rfl
theorem okU_cons {lw : Nat → Bool} (hl : ∀ a b, lw (a ||| b) = true → lw b = true) {U U' : List Nat} {l : List Nat} {a : Nat} (h : okU lw U l) (h1 : ∀ x ∈ U, x ∈ U') (h2 : ∀ x ∈ U, lw (a ||| x) = true → a ||| x ∈ U') : okU lw U' (a :: l) := fun s hs hw => by
  rcases List.sublist_cons_iff.mp hs with hs | ⟨t, rfl, ht⟩
  · exact h1 _ (h s hs hw)
  · exact h2 _ (h t ht (hl _ _ hw)) hw
theorem orL_bit (i : Nat) : ∀ l : List Nat, (orL l).testBit i = true ↔ ∃ a ∈ l, a.testBit i = true
  | [] => by
    show (0 : Nat).testBit i = true ↔ _
    simp
  | a :: l => by
    show (a ||| orL l).testBit i = true ↔ _
    rw [Nat.testBit_or, Bool.or_eq_true, orL_bit i l]
    simp
/-- with U for the rows of E, no search that knows more than E has more rows -/
theorem ExF.ule {w : Nat} {lg : Vc → Prop} (hlg : ∀ u v, sbv u v → lg v → lg u) {E E' : List (Vc → Int)} (hE : ∀ e ∈ E, Lin e) {n n' : Nat} {R R' : Nat → Vc} (h : ExF w lg E n R) (h' : ExF w lg E' n' R') (hs : ∀ v, (∀ e ∈ E', e v = 0) → ∀ e ∈ E, e v = 0) {lw : Nat → Bool} (hw : ∀ v, lg v → (∀ i, w ≤ i → v i = 0) → lw (mkV v w) = true) {U : List Nat} (hU : okU lw U ((List.range n).map (fun r => mkV (R r) w))) : n' ≤ U.length := by
  have key : ∀ k, k < n' → mkV (R' k) w ∈ U := fun k hk => by
    have m := h'.1 k hk
    have hS : Sol w E (R' k) := ⟨hs _ m.1.1, m.1.2⟩
    obtain ⟨s, hs1⟩ : ∃ s, s = ((List.range n).filter (fun r => @decide (sbv (R r) (R' k)) (Classical.propDecidable _))).map (fun r => mkV (R r) w) := ⟨_, rfl⟩
    have e : orL s = mkV (R' k) w := by
      apply Nat.eq_of_testBit_eq
      intro i
      apply Bool.eq_iff_iff.mpr
      rw [orL_bit, hs1]
      constructor
      · rintro ⟨a, ha, hb⟩
        obtain ⟨r, hr, rfl⟩ := List.mem_map.mp ha
        have hr2 := List.mem_filter.mp hr
        have hsb : sbv (R r) (R' k) := (@decide_eq_true_iff _ (Classical.propDecidable _)).mp hr2.2
        rw [mkV_bit] at hb ⊢
        simp at hb ⊢
        exact ⟨hb.1, fun z => hb.2 (hsb i z)⟩
      · intro hb
        rw [mkV_bit] at hb
        simp at hb
        obtain ⟨q, q1, q2, q3⟩ := MinS.cover hlg hE (i := i) _ (R' k) (Nat.le_refl _) hS m.2.1 hb.2
        obtain ⟨r, r1, r2⟩ := h.2.1 q q1
        refine ⟨mkV (R r) w, List.mem_map.mpr ⟨r, List.mem_filter.mpr ⟨List.mem_range.mpr r1, (@decide_eq_true_iff _ (Classical.propDecidable _)).mpr (r2.trans q2)⟩, rfl⟩, ?_⟩
        rw [mkV_bit]
        simp
        exact ⟨hb.1, fun z => q3 (q1.2.2 _ (h.1 r r1).1 r2 i z)⟩
    rw [← e]
    refine hU s ?_ (by rw [e]; exact hw _ m.2.1 m.1.2.2)
    rw [hs1]
    exact List.Sublist.map _ List.filter_sublist
  refine rows_le (m := U.length) (fun r k => U[k]? = some (mkV (R' r) w)) (fun r hr => ?_) (fun r s k hr hs a b => ?_)
  · obtain ⟨k, hk, e⟩ := List.getElem_of_mem (key r hr)
    exact ⟨k, hk, by rw [List.getElem?_eq_getElem hk, e]⟩
  · have e : mkV (R' r) w = mkV (R' s) w := Option.some.inj (a.symm.trans b)
    exact h'.2.2 r s hr hs (mkV_sb (h'.1 r hr).1.2.2 (fun i hi => by rw [← e]; exact hi))
