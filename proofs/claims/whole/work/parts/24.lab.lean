/-! labels: what joining along pairs comes to -/
/-- y is in every set that holds x and is closed under the pairs -/
def conn (prs : List (Nat × Nat)) (x y : Nat) : Prop := ∀ C : Nat → Prop, C x → (∀ q ∈ prs, C q.1 ↔ C q.2) → C y
theorem conn.rf (prs : List (Nat × Nat)) (x : Nat) : conn prs x x := fun _ h _ => h
theorem conn.symm {prs : List (Nat × Nat)} {x y : Nat} (h : conn prs x y) : conn prs y x := by
  intro C hy hC
  exact h (fun z => C z → C x) (fun h => h) (fun q hq => ⟨fun f g => f ((hC q hq).mpr g), fun f g => f ((hC q hq).mp g)⟩) hy
theorem conn.trans {prs : List (Nat × Nat)} {x y z : Nat} (h : conn prs x y) (g : conn prs y z) : conn prs x z := fun C hx hC => g C (h C hx hC) hC
theorem conn.pair {prs : List (Nat × Nat)} {q : Nat × Nat} (h : q ∈ prs) : conn prs q.1 q.2 := fun _ hx hC => (hC q h).mp hx
theorem conn.fn {α : Type} {prs : List (Nat × Nat)} {f : Nat → α} (hf : ∀ q ∈ prs, f q.1 = f q.2) {x y : Nat} (h : conn prs x y) : f x = f y := by
  refine h (fun z => f x = f z) rfl (fun q hq => ?_)
  rw [hf q hq]
/-- a row of labels: each a member of its class and no greater, alike over every pair -/
def LabI (f : Nat → Int32) (prs : List (Nat × Nat)) (n : Nat) : Prop := ∀ x, x < n → ∃ m, f x = nI m ∧ m ≤ x ∧ conn prs m x
def Lab (f : Nat → Int32) (prs : List (Nat × Nat)) (n : Nat) : Prop := LabI f prs n ∧ ∀ q ∈ prs, f q.1 = f q.2
theorem Lab.eq {f : Nat → Int32} {prs : List (Nat × Nat)} {n : Nat} (h : Lab f prs n) (hn : n < 2 ^ 31) {x y : Nat} (hx : x < n) (hy : y < n) : f x = f y ↔ conn prs x y := by
  constructor
  · intro e
    obtain ⟨m, h1, h2, h3⟩ := h.1 x hx
    obtain ⟨m', g1, g2, g3⟩ := h.1 y hy
    have : m = m' := (nI_eq (by omega) (by omega)).mp (h1.symm.trans (e.trans g1))
    subst this
    exact h3.symm.trans g3
  · exact fun c => conn.fn h.2 c
theorem Lab.least {f : Nat → Int32} {prs : List (Nat × Nat)} {n : Nat} (h : Lab f prs n) (hn : n < 2 ^ 31) {x : Nat} (hx : x < n) : ∃ m, f x = nI m ∧ m ≤ x ∧ conn prs m x ∧ f m = nI m ∧ ∀ y, y < n → conn prs y x → m ≤ y := by
  obtain ⟨m, h1, h2, h3⟩ := h.1 x hx
  have hm : f m = nI m := (conn.fn h.2 h3).trans h1
  refine ⟨m, h1, h2, h3, hm, fun y hy c => ?_⟩
  obtain ⟨m', g1, g2, g3⟩ := h.1 y hy
  have : f y = f x := conn.fn h.2 c
  have e : m' = m := (nI_eq (by omega) (by omega)).mp (g1.symm.trans (this.trans h1))
  omega
/-- one op: the row, and the two places -/
abbrev rOp : Type := Nat × Nat × Nat
def rj (S : MS) (q : rOp) : MS := rjoin S q.1 q.2.1 q.2.2
def rjs (S : MS) (l : List rOp) : MS := l.foldl rj S
theorem rjs_app (S : MS) (l l' : List rOp) : rjs S (l ++ l') = rjs (rjs S l) l' := List.foldl_append
theorem rjs_cons (S : MS) (q : rOp) (l : List rOp) : rjs S (q :: l) = rjs (rj S q) l := rfl
def prsOf (A : Nat) (l : List rOp) : List (Nat × Nat) := (l.filter (fun q => q.1 == A)).map (fun q => q.2)
theorem mem_prsOf {A a b : Nat} {l : List rOp} : (a, b) ∈ prsOf A l ↔ (A, a, b) ∈ l := by
  unfold prsOf
  constructor
  · intro h
    obtain ⟨q, hq, e⟩ := List.mem_map.mp h
    obtain ⟨h1, h2⟩ := List.mem_filter.mp hq
    have : q.1 = A := by simpa using h2
    obtain ⟨x, y, z⟩ := q
    cases e
    cases this
    exact h1
  · intro h
    exact List.mem_map.mpr ⟨(A, a, b), List.mem_filter.mpr ⟨h, by simp⟩, rfl⟩
theorem rjv_or (S : MS) (A a b : Nat) : rjv S A a b = S.2.1 A a ∨ rjv S A a b = S.2.1 A b := by
  unfold rjv
  split
  · exact Or.inl rfl
  · exact Or.inr rfl
/-- the labels stay good -/
theorem rj_LabI {S : MS} {q : rOp} {A n : Nat} {prs : List (Nat × Nat)} (h : LabI (S.2.1 A) prs n) (hq : q.1 = A → q.2 ∈ prs ∧ q.2.1 < n ∧ q.2.2 < n) (hn : n < 2 ^ 31) : LabI ((rj S q).2.1 A) prs n := by
  by_cases e : q.1 = A
  · obtain ⟨h1, h2, h3⟩ := hq e
    obtain ⟨B, a, b⟩ := q
    cases e
    intro x hx
    unfold rj
    dsimp only at h1 h2 h3 ⊢
    rw [rjoin_at]
    have hab : conn prs a b := conn.pair h1
    obtain ⟨ma, a1, a2, a3⟩ := h a h2
    obtain ⟨mb, b1, b2, b3⟩ := h b h3
    by_cases hxx : x = a ∨ x = b
    · rw [if_pos hxx]
      unfold rjv
      rw [a1, b1]
      by_cases hlt : nI ma < nI mb
      · rw [if_pos hlt]
        have hlt' : ma < mb := (nI_ltI (by omega) (by omega)).mp hlt
        rcases hxx with rfl | rfl
        · exact ⟨ma, rfl, a2, a3⟩
        · exact ⟨ma, rfl, by omega, a3.trans hab⟩
      · rw [if_neg hlt]
        have hlt' : mb ≤ ma := Nat.not_lt.mp (fun q => hlt ((nI_ltI (by omega) (by omega)).mpr q))
        rcases hxx with rfl | rfl
        · exact ⟨mb, rfl, by omega, b3.trans hab.symm⟩
        · exact ⟨mb, rfl, b2, b3⟩
    · rw [if_neg hxx]
      exact h x hx
  · unfold rj
    rw [rjoin_ar _ _ _ _ _ (Ne.symm e)]
    exact h
theorem rjs_LabI {A n : Nat} {prs : List (Nat × Nat)} (hn : n < 2 ^ 31) : ∀ (l : List rOp) (S : MS), LabI (S.2.1 A) prs n → (∀ q ∈ l, q.1 = A → q.2 ∈ prs ∧ q.2.1 < n ∧ q.2.2 < n) → LabI ((rjs S l).2.1 A) prs n
  | [], _, h, _ => h
  | q :: l, S, h, hq => rjs_LabI hn l (rj S q) (rj_LabI h (hq q List.mem_cons_self) hn) (fun q' h' => hq q' (List.mem_cons_of_mem _ h'))
theorem rjs_keep (S T : MS) (h : rKeep S T) : ∀ (l : List rOp) (T : MS), rKeep S T → (∀ q ∈ l, q.1 = 195 ∨ q.1 = 196 ∨ q.1 = 197) → rKeep S (rjs T l)
  | [], _, h, _ => h
  | q :: l, T, h, hq => rjs_keep S T h l (rj T q) (h.join (hq q List.mem_cons_self) _ _) (fun q' h' => hq q' (List.mem_cons_of_mem _ h'))
/-- the sign that something changed -/
theorem rj_more0 {S : MS} {q : rOp} (h : (rj S q).1 189 9 = 0) : S.1 189 9 = 0 ∧ S.2.1 q.1 q.2.1 = S.2.1 q.1 q.2.2 ∧ ∀ A, (rj S q).2.1 A = S.2.1 A := by
  unfold rj at h ⊢
  rw [rjoin_more] at h
  split at h
  · rename_i hc
    obtain ⟨h0, h1, h2⟩ := hc
    refine ⟨h0, h1.trans h2.symm, fun A => ?_⟩
    by_cases e : A = q.1
    · subst e
      funext k
      rw [rjoin_at]
      split
      · rename_i hk
        rcases hk with rfl | rfl
        · exact h1.symm
        · exact h2.symm
      · rfl
    · exact rjoin_ar _ _ _ _ _ e
  · cases h
theorem rjs_more0 : ∀ (l : List rOp) (S : MS), (rjs S l).1 189 9 = 0 → S.1 189 9 = 0 ∧ (∀ q ∈ l, S.2.1 q.1 q.2.1 = S.2.1 q.1 q.2.2) ∧ ∀ A, (rjs S l).2.1 A = S.2.1 A
  | [], _, h => ⟨h, fun _ h => absurd h List.not_mem_nil, fun _ => rfl⟩
  | q :: l, S, h => by
    obtain ⟨h1, h2, h3⟩ := rjs_more0 l (rj S q) h
    obtain ⟨g1, g2, g3⟩ := rj_more0 h1
    refine ⟨g1, fun q' hq' => ?_, fun A => (h3 A).trans (g3 A)⟩
    rcases List.mem_cons.mp hq' with rfl | hq'
    · exact g2
    · have := h2 q' hq'
      rw [g3] at this
      exact this
/-- a measure: the sum of a row's labels -/
def sumN (f : Nat → Int32) : Nat → Nat
  | 0 => 0
  | n + 1 => sumN f n + (f n).toNatClampNeg
theorem sumN_le {f g : Nat → Int32} : ∀ n, (∀ k, k < n → (f k).toNatClampNeg ≤ (g k).toNatClampNeg) → sumN f n ≤ sumN g n
  | 0, _ => Nat.le_refl _
  | n + 1, h => by
    have := sumN_le n (fun k hk => h k (by omega))
    have := h n (by omega)
    unfold sumN
    omega
theorem sumN_lt {f g : Nat → Int32} : ∀ n, (∀ k, k < n → (f k).toNatClampNeg ≤ (g k).toNatClampNeg) → (∃ k, k < n ∧ (f k).toNatClampNeg < (g k).toNatClampNeg) → sumN f n < sumN g n
  | 0, _, ⟨k, hk, _⟩ => by omega
  | n + 1, h, ⟨k, hk, hlt⟩ => by
    have h1 := sumN_le n (fun k hk => h k (by omega))
    have h2 := h n (by omega)
    unfold sumN
    by_cases e : k = n
    · subst e
      omega
    · have := sumN_lt n (fun k hk => h k (by omega)) ⟨k, by omega, hlt⟩
      omega
def rMu (S : MS) : Nat := sumN (S.2.1 195) 36 + sumN (S.2.1 196) 12 + sumN (S.2.1 197) 3
def rLen (A : Nat) : Nat := if A = 195 then 36 else if A = 196 then 12 else 3
def rOkOp (q : rOp) : Prop := (q.1 = 195 ∨ q.1 = 196 ∨ q.1 = 197) ∧ q.2.1 < rLen q.1 ∧ q.2.2 < rLen q.1
/-- all labels are numbers -/
def rNum (S : MS) : Prop := ∀ A, (A = 195 ∨ A = 196 ∨ A = 197) → ∀ k, k < rLen A → ∃ m, m < 1000 ∧ S.2.1 A k = nI m
theorem rj_num {S : MS} {q : rOp} (h : rNum S) (hq : rOkOp q) : rNum (rj S q) := by
  intro A hA k hk
  unfold rj
  by_cases e : A = q.1
  · subst e
    rw [rjoin_at]
    split
    · rcases rjv_or S q.1 q.2.1 q.2.2 with e | e <;> rw [e]
      · exact h _ hA _ hq.2.1
      · exact h _ hA _ hq.2.2
    · exact h _ hA k hk
  · rw [rjoin_ar _ _ _ _ _ e]
    exact h A hA k hk
theorem rj_down {S : MS} {q : rOp} (h : rNum S) (hq : rOkOp q) : ∀ A, (A = 195 ∨ A = 196 ∨ A = 197) → ∀ k, k < rLen A → ((rj S q).2.1 A k).toNatClampNeg ≤ (S.2.1 A k).toNatClampNeg := by
  intro A hA k hk
  unfold rj
  by_cases e : A = q.1
  · subst e
    rw [rjoin_at]
    obtain ⟨ma, a0, a1⟩ := h _ hA _ hq.2.1
    obtain ⟨mb, b0, b1⟩ := h _ hA _ hq.2.2
    split
    · rename_i hk2
      unfold rjv
      rcases hk2 with rfl | rfl
      · rw [a1, b1]
        split
        · exact Nat.le_refl _
        · rename_i hlt
          have : mb ≤ ma := Nat.not_lt.mp (fun q => hlt ((nI_ltI (by omega) (by omega)).mpr q))
          rw [nI_clamp (by omega), nI_clamp (by omega)]
          exact this
      · rw [a1, b1]
        split
        · rename_i hlt
          have : ma < mb := (nI_ltI (by omega) (by omega)).mp hlt
          rw [nI_clamp (by omega), nI_clamp (by omega)]
          omega
        · exact Nat.le_refl _
    · exact Nat.le_refl _
  · rw [rjoin_ar _ _ _ _ _ e]
    exact Nat.le_refl _
theorem rj_mu {S : MS} {q : rOp} (h : rNum S) (hq : rOkOp q) : rMu (rj S q) ≤ rMu S ∧ (S.1 189 9 = 0 → (rj S q).1 189 9 ≠ 0 → rMu (rj S q) < rMu S) := by
  have hd := rj_down h hq
  have d5 := sumN_le 36 (fun k hk => hd 195 (Or.inl rfl) k hk)
  have d6 := sumN_le 12 (fun k hk => hd 196 (Or.inr (Or.inl rfl)) k hk)
  have d7 := sumN_le 3 (fun k hk => hd 197 (Or.inr (Or.inr rfl)) k hk)
  refine ⟨by unfold rMu; omega, fun h0 h1 => ?_⟩
  have hne : S.2.1 q.1 q.2.1 ≠ S.2.1 q.1 q.2.2 := by
    intro e
    apply h1
    unfold rj
    rw [rjoin_more]
    have : rjv S q.1 q.2.1 q.2.2 = S.2.1 q.1 q.2.2 := by
      rcases rjv_or S q.1 q.2.1 q.2.2 with e2 | e2
      · exact e2.trans e
      · exact e2
    exact if_pos ⟨h0, e.trans this.symm, this.symm⟩
  obtain ⟨ma, a0, a1⟩ := h _ hq.1 _ hq.2.1
  obtain ⟨mb, b0, b1⟩ := h _ hq.1 _ hq.2.2
  have hmn : ma ≠ mb := fun e => hne (by rw [a1, b1, e])
  have hs : ∃ k, k < rLen q.1 ∧ ((rj S q).2.1 q.1 k).toNatClampNeg < (S.2.1 q.1 k).toNatClampNeg := by
    by_cases hlt : ma < mb
    · refine ⟨q.2.2, hq.2.2, ?_⟩
      unfold rj
      rw [rjoin_at, if_pos (Or.inr rfl)]
      unfold rjv
      rw [a1, b1, if_pos ((nI_ltI (by omega) (by omega)).mpr hlt), nI_clamp (by omega), nI_clamp (by omega)]
      exact hlt
    · refine ⟨q.2.1, hq.2.1, ?_⟩
      unfold rj
      rw [rjoin_at, if_pos (Or.inl rfl)]
      unfold rjv
      rw [a1, b1, if_neg (fun q => hlt ((nI_ltI (by omega) (by omega)).mp q)), nI_clamp (by omega), nI_clamp (by omega)]
      omega
  unfold rMu
  rcases hq.1 with e | e | e
  · rw [e] at hs
    have := sumN_lt 36 (fun k hk => hd 195 (Or.inl rfl) k hk) hs
    omega
  · rw [e] at hs
    have := sumN_lt 12 (fun k hk => hd 196 (Or.inr (Or.inl rfl)) k hk) hs
    omega
  · rw [e] at hs
    have := sumN_lt 3 (fun k hk => hd 197 (Or.inr (Or.inr rfl)) k hk) hs
    omega
theorem rjs_num : ∀ (l : List rOp) (S : MS), rNum S → (∀ q ∈ l, rOkOp q) → rNum (rjs S l)
  | [], _, h, _ => h
  | q :: l, S, h, hq => rjs_num l (rj S q) (rj_num h (hq q List.mem_cons_self)) (fun q' h' => hq q' (List.mem_cons_of_mem _ h'))
theorem rj_moreS {S : MS} {q : rOp} : S.1 189 9 ≠ 0 → (rj S q).1 189 9 ≠ 0 := fun h e => h (rj_more0 e).1
theorem rjs_mu : ∀ (l : List rOp) (S : MS), rNum S → (∀ q ∈ l, rOkOp q) → rMu (rjs S l) ≤ rMu S ∧ (S.1 189 9 = 0 → (rjs S l).1 189 9 ≠ 0 → rMu (rjs S l) < rMu S)
  | [], _, _, _ => ⟨Nat.le_refl _, fun a b => absurd a b⟩
  | q :: l, S, h, hq => by
    have h1 := rj_mu h (hq q List.mem_cons_self)
    have h2 := rjs_mu l (rj S q) (rj_num h (hq q List.mem_cons_self)) (fun q' h' => hq q' (List.mem_cons_of_mem _ h'))
    refine ⟨Nat.le_trans h2.1 h1.1, fun a b => ?_⟩
    by_cases e : (rj S q).1 189 9 = 0
    · exact Nat.lt_of_lt_of_le (h2.2 e b) h1.1
    · exact Nat.lt_of_le_of_lt h2.1 (h1.2 a e)
