/-! the search: rows that are just the least supports -/
section
variable {w : Nat} {lg : Vc → Prop} {E : List (Vc → Int)} {f : Vc → Int}
theorem MinS.pr (hE : ∀ e ∈ E, Lin e) (hf : Lin f) {x y : Vc} (hx : MinS w lg E x) (hy : Sol w E y) (hxy : sbv y x) : ∃ a b : Int, 0 < a ∧ 0 < b ∧ a * f x = b * f y := by
  obtain ⟨i, h1, h2, h3⟩ := hx.one hE hy hxy
  have e := hf (y i) 0 x x
  have e2 := hf (x i) 0 y y
  have : (fun j => y i * x j + 0 * x j) = fun j => x i * y j + 0 * y j := by funext j; rw [h3 j, Nat.zero_mul, Nat.zero_mul]
  rw [this, e2] at e
  simp only [Int.natCast_zero, Int.zero_mul, Int.add_zero] at e
  exact ⟨y i, x i, by omega, by omega, e.symm⟩
theorem pr_z {a b x y : Int} (ha : 0 < a) (hb : 0 < b) (h : a * x = b * y) : (x = 0 ↔ y = 0) ∧ (0 < x ↔ 0 < y) := by
  refine ⟨⟨fun z => ?_, fun z => ?_⟩, fun z => ?_, fun z => ?_⟩
  · rw [z, Int.mul_zero] at h
    rcases Int.mul_eq_zero.mp h.symm with q | q
    · omega
    · exact q
  · rw [z, Int.mul_zero] at h
    rcases Int.mul_eq_zero.mp h with q | q
    · omega
    · exact q
  · have := Int.mul_pos ha z
    by_cases q : 0 < y
    · exact q
    · have := Int.mul_nonpos_of_nonneg_of_nonpos (Int.le_of_lt hb) (show y ≤ 0 by omega)
      omega
  · have := Int.mul_pos hb z
    by_cases q : 0 < x
    · exact q
    · have := Int.mul_nonpos_of_nonneg_of_nonpos (Int.le_of_lt ha) (show x ≤ 0 by omega)
      omega
theorem sc_e {e : Vc → Int} (he : Lin e) {x y : Vc} {g : Nat} (h : ∀ i, g * x i = y i) : (g : Int) * e x = e y := by
  have := he g 0 x x
  simp only [Int.natCast_zero, Int.zero_mul, Int.add_zero, Nat.zero_mul, Nat.add_zero] at this
  rw [← this]
  congr 1
  funext i
  exact h i
theorem sc_l {x y : Vc} {g : Nat} (hg : 0 < g) (h : ∀ i, g * x i = y i) : sbv x y := fun i z => by
  have := h i
  rw [z] at this
  rcases Nat.mul_eq_zero.mp this with q | q
  · omega
  · exact q
theorem sc_r {x y : Vc} {g : Nat} (h : ∀ i, g * x i = y i) : sbv y x := fun i z => by
  rw [← h i, z, Nat.mul_zero]
theorem MinS.scale (hlg : ∀ u v, sbv u v → lg v → lg u) (hE : ∀ e ∈ E, Lin e) {x y : Vc} {g : Nat} (hg : 0 < g) (h : ∀ i, g * x i = y i) (m : MinS w lg E y) : MinS w lg E x := by
  refine ⟨⟨fun e he => ?_, ?_, fun i hi => sc_l hg h i (m.1.2.2 i hi)⟩, hlg x y (sc_l hg h) m.2.1, fun u hu hs => (sc_l hg h).trans (m.2.2 u hu (hs.trans (sc_l hg h)))⟩
  · have := sc_e (hE e he) h
    rw [m.1.1 e he] at this
    rcases Int.mul_eq_zero.mp this with q | q
    · omega
    · exact q
  · obtain ⟨i, h1, h2⟩ := m.1.2.1
    exact ⟨i, h1, fun z => h2 (sc_r h i z)⟩
/-- the rows are just the least supports, each once -/
def ExF (w : Nat) (lg : Vc → Prop) (E : List (Vc → Int)) (n : Nat) (R : Nat → Vc) : Prop := (∀ r, r < n → MinS w lg E (R r)) ∧ (∀ v, MinS w lg E v → ∃ r, r < n ∧ sbv (R r) v) ∧ ∀ r s, r < n → s < n → sbv (R r) (R s) → r = s
theorem getD_some {l : List (Nat × Nat)} {j : Nat} {q : Nat × Nat} (h : l[j]? = some q) : j < l.length := by
  by_cases c : j < l.length
  · exact c
  · rw [List.getElem?_eq_none (by omega)] at h
    cases h
theorem nd_inj {α : Type} : ∀ {l : List α}, l.Nodup → ∀ {i j : Nat} {q : α}, l[i]? = some q → l[j]? = some q → i = j
  | [], _, i, j, q, h, _ => by cases h
  | a :: l, hn, i, j, q, h, g => by
    have hn' := List.nodup_cons.mp hn
    cases i with
    | zero =>
      cases j with
      | zero => rfl
      | succ j =>
        exfalso
        have h : some a = some q := h
        have g : l[j]? = some q := g
        cases h
        exact hn'.1 (List.mem_of_getElem? g)
    | succ i =>
      cases j with
      | zero =>
        exfalso
        have g : some a = some q := g
        have h : l[i]? = some q := h
        cases g
        exact hn'.1 (List.mem_of_getElem? h)
      | succ j =>
        have := nd_inj (l := l) hn'.2 (i := i) (j := j) h g
        omega
theorem ExF.step (hlg : ∀ u v, sbv u v → lg v → lg u) (hE : ∀ e ∈ E, Lin e) (hf : Lin f) {n : Nat} {R R' : Nat → Vc} (h : ExF w lg E n R) (l : List (Nat × Nat))
    (h1 : ∀ q ∈ l, (q.1 < n ∧ q.2 = q.1 ∧ f (R q.1) = 0) ∨ (q.1 < n ∧ q.2 < n ∧ 0 < f (R q.1) ∧ f (R q.2) < 0 ∧ lg (mixW f (R q.1) (R q.2)) ∧ ∀ r, r < n → sbv (R r) (mixW f (R q.1) (R q.2)) → r = q.1 ∨ r = q.2))
    (h2 : ∀ a, a < n → f (R a) = 0 → (a, a) ∈ l)
    (h3 : ∀ a b, a < n → b < n → 0 < f (R a) → f (R b) < 0 → lg (mixW f (R a) (R b)) → (∀ r, r < n → sbv (R r) (mixW f (R a) (R b)) → r = a ∨ r = b) → (a, b) ∈ l)
    (h4 : l.Nodup)
    (h5 : ∀ j q, l[j]? = some q → ∃ g, 0 < g ∧ ∀ i, g * R' j i = (if f (R q.1) = 0 then R q.1 i else mixW f (R q.1) (R q.2) i)) : ExF w lg (f :: E) l.length R' := by
  have hE' : ∀ e ∈ f :: E, Lin e := fun e he => by rcases List.mem_cons.mp he with rfl | he; exact hf; exact hE e he
  have at_ : ∀ j, j < l.length → ∃ q, l[j]? = some q ∧ q ∈ l := fun j hj => ⟨l[j], List.getElem?_eq_getElem hj, List.getElem_mem hj⟩
  refine ⟨fun j hj => ?_, fun v hv => ?_, fun j k hj hk hs => ?_⟩
  · obtain ⟨q, q1, q2⟩ := at_ j hj
    obtain ⟨g, g1, g2⟩ := h5 j q q1
    rcases h1 q q2 with ⟨a1, a2, a3⟩ | ⟨a1, a2, a3, a4, a5, a6⟩
    · simp only [if_pos a3] at g2
      exact ((h.1 _ a1).keep a3).scale hlg hE' g1 g2
    · simp only [if_neg (show ¬ f (R q.1) = 0 by omega)] at g2
      refine (MinS.mix hlg hE hf (h.1 _ a1) (h.1 _ a2) a3 a4 a5 (fun r hr hrs => ?_)).scale hlg hE' g1 g2
      obtain ⟨t, t1, t2⟩ := h.2.1 r hr
      rcases a6 t t1 (t2.trans hrs) with rfl | rfl
      · exact Or.inl t2
      · exact Or.inr t2
  · by_cases c : MinS w lg E v
    · obtain ⟨r, r1, r2⟩ := h.2.1 v c
      obtain ⟨a, b, ha, hb, hab⟩ := c.pr hE hf (h.1 r r1).1 r2
      have z := (pr_z ha hb hab).1.mp (hv.1.1 f (List.mem_cons_self ..))
      obtain ⟨j, hj, e⟩ := List.getElem_of_mem (h2 r r1 z)
      obtain ⟨g, g1, g2⟩ := h5 j (r, r) (by rw [List.getElem?_eq_getElem hj, e])
      simp only [if_pos z] at g2
      exact ⟨j, hj, (sc_l g1 g2).trans r2⟩
    · obtain ⟨p, q, a1, a2, a3, a4, a5, a6⟩ := hv.cut hlg hE hf c
      obtain ⟨rp, b1, b2⟩ := h.2.1 p a1
      obtain ⟨rq, c1, c2⟩ := h.2.1 q a2
      have hp : 0 < f (R rp) := by
        obtain ⟨a, b, ha, hb, hab⟩ := a1.pr hE hf (h.1 rp b1).1 b2
        exact (pr_z ha hb hab).2.mp a5
      have hq : f (R rq) < 0 := by
        obtain ⟨a, b, ha, hb, hab⟩ := a2.pr hE hf (h.1 rq c1).1 c2
        have z := pr_z ha hb hab
        by_cases w : f (R rq) < 0
        · exact w
        · by_cases w2 : f (R rq) = 0
          · have := z.1.mpr w2; omega
          · have := z.2.mpr (by omega); omega
      have sp := b2.trans a3
      have sq := c2.trans a4
      have hm := mixW_sb (f := f) sp sq
      have hmem := h3 rp rq b1 c1 hp hq (hlg _ v hm hv.2.1) (fun r hr hrs => by
        rcases hv.other hE hf c (h.1 rp b1) (h.1 rq c1) sp sq hp hq (h.1 r hr) (hrs.trans hm) with t | t
        · exact Or.inl (h.2.2 r rp hr b1 t)
        · exact Or.inr (h.2.2 r rq hr c1 t))
      obtain ⟨j, hj, e⟩ := List.getElem_of_mem hmem
      obtain ⟨g, g1, g2⟩ := h5 j (rp, rq) (by rw [List.getElem?_eq_getElem hj, e])
      simp only [if_neg (show ¬ f (R rp) = 0 by omega)] at g2
      exact ⟨j, hj, (sc_l g1 g2).trans hm⟩
  · obtain ⟨q, q1, q2⟩ := at_ j hj
    obtain ⟨t, t1, t2⟩ := at_ k hk
    obtain ⟨g, g1, g2⟩ := h5 j q q1
    obtain ⟨d, d1, d2⟩ := h5 k t t1
    have key : q = t := by
      rcases h1 q q2 with ⟨a1, a2, a3⟩ | ⟨a1, a2, a3, a4, a5, a6⟩
      · simp only [if_pos a3] at g2
        rcases h1 t t2 with ⟨b1, b2, b3⟩ | ⟨b1, b2, b3, b4, b5, b6⟩
        · simp only [if_pos b3] at d2
          have := h.2.2 _ _ a1 b1 (((sc_r g2).trans hs).trans (sc_l d1 d2))
          exact Prod.ext this (by rw [a2, b2, this])
        · exfalso
          simp only [if_neg (show ¬ f (R t.1) = 0 by omega)] at d2
          rcases b6 _ a1 (((sc_r g2).trans hs).trans (sc_l d1 d2)) with e | e
          · rw [e] at a3; omega
          · rw [e] at a3; omega
      · simp only [if_neg (show ¬ f (R q.1) = 0 by omega)] at g2
        rcases h1 t t2 with ⟨b1, b2, b3⟩ | ⟨b1, b2, b3, b4, b5, b6⟩
        · exfalso
          simp only [if_pos b3] at d2
          have := h.2.2 _ _ a1 b1 ((mixW_l a4).trans (((sc_r g2).trans hs).trans (sc_l d1 d2)))
          rw [this] at a3
          omega
        · simp only [if_neg (show ¬ f (R t.1) = 0 by omega)] at d2
          have hs2 := ((sc_r g2).trans hs).trans (sc_l d1 d2)
          have e1 : q.1 = t.1 := by
            rcases b6 _ a1 ((mixW_l a4).trans hs2) with e | e
            · exact e
            · rw [e] at a3; omega
          have e2 : q.2 = t.2 := by
            rcases b6 _ a2 ((mixW_r a3).trans hs2) with e | e
            · rw [e] at a4; omega
            · exact e
          exact Prod.ext e1 e2
    rw [key] at q1
    exact nd_inj h4 q1 t1
end
