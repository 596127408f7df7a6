/-! the search: one form more -/
def mixW (f : Vc → Int) (p q : Vc) : Vc := fun i => (-f q).toNat * p i + (f p).toNat * q i
theorem mixW_e {e f : Vc → Int} (he : Lin e) (p q : Vc) : e (mixW f p q) = ((-f q).toNat : Int) * e p + ((f p).toNat : Int) * e q := he _ _ p q
theorem mixW_f {f : Vc → Int} (hf : Lin f) {p q : Vc} (hp : 0 < f p) (hq : f q < 0) : f (mixW f p q) = 0 := by
  rw [mixW_e hf, Int.toNat_of_nonneg (by omega), Int.toNat_of_nonneg (by omega), Int.neg_mul, Int.mul_comm (f p)]
  omega
theorem mixW_sb {f : Vc → Int} {p q v : Vc} (hp : sbv p v) (hq : sbv q v) : sbv (mixW f p q) v := fun i z => by
  unfold mixW
  rw [hp i z, hq i z, Nat.mul_zero, Nat.mul_zero]
theorem mixW_l {f : Vc → Int} {p q : Vc} (hq : f q < 0) : sbv p (mixW f p q) := fun i z => by
  unfold mixW at z
  have h : (-f q).toNat * p i = 0 := by omega
  rcases Nat.mul_eq_zero.mp h with h | h
  · omega
  · exact h
theorem mixW_r {f : Vc → Int} {p q : Vc} (hp : 0 < f p) : sbv q (mixW f p q) := fun i z => by
  unfold mixW at z
  have h : (f p).toNat * q i = 0 := by omega
  rcases Nat.mul_eq_zero.mp h with h | h
  · omega
  · exact h
section
variable {w : Nat} {lg : Vc → Prop} {E : List (Vc → Int)} {f : Vc → Int}
theorem mixW_S (hE : ∀ e ∈ E, Lin e) (hf : Lin f) {p q : Vc} (sp : Sol w E p) (sq : Sol w E q) (hp : 0 < f p) (hq : f q < 0) : Sol w (f :: E) (mixW f p q) := by
  refine ⟨fun e he => ?_, ?_, fun i hi => ?_⟩
  · rcases List.mem_cons.mp he with rfl | he
    · exact mixW_f hf hp hq
    · rw [mixW_e (hE e he), sp.1 e he, sq.1 e he, Int.mul_zero, Int.mul_zero]
      rfl
  · obtain ⟨i, h1, h2⟩ := sp.2.1
    exact ⟨i, h1, fun z => h2 (mixW_l hq i z)⟩
  · show (-f q).toNat * p i + (f p).toNat * q i = 0
    rw [sp.2.2 i hi, sq.2.2 i hi, Nat.mul_zero, Nat.mul_zero]
theorem Sol.tl {v : Vc} (h : Sol w (f :: E) v) : Sol w E v := ⟨fun e he => h.1 e (List.mem_cons_of_mem _ he), h.2⟩
theorem MinS.keep {r : Vc} (h : MinS w lg E r) (g : f r = 0) : MinS w lg (f :: E) r :=
  ⟨⟨fun e he => by rcases List.mem_cons.mp he with rfl | he; exact g; exact h.1.1 e he, h.1.2⟩, h.2.1, fun u hu hs => h.2.2 u hu.tl hs⟩
theorem MinS.ne0 {v r : Vc} (h : MinS w lg (f :: E) v) (n : ¬ MinS w lg E v) (hr : MinS w lg E r) (hs : sbv r v) : f r ≠ 0 := by
  intro z
  have h1 := (hr.keep z).1
  have h2 := h.2.2 r h1 hs
  exact n ⟨h.1.tl, h.2.1, fun u hu hsu => h2.trans (hr.2.2 u hu (hsu.trans h2))⟩
theorem Lin.neg (hf : Lin f) : Lin (fun v => - f v) := fun x y u v => by
  show - f _ = _
  rw [hf, Int.mul_neg, Int.mul_neg]
  omega
theorem MinS.cut (hlg : ∀ u v, sbv u v → lg v → lg u) (hE : ∀ e ∈ E, Lin e) (hf : Lin f) {v : Vc} (h : MinS w lg (f :: E) v) (n : ¬ MinS w lg E v) : ∃ p q, MinS w lg E p ∧ MinS w lg E q ∧ sbv p v ∧ sbv q v ∧ 0 < f p ∧ f q < 0 := by
  obtain ⟨r, r1, r2⟩ := MinS.ex hlg (szV v w) v (Nat.le_refl _) h.1.tl h.2.1
  have hr := h.ne0 n r1 r2
  obtain ⟨i, h1, h2, h3⟩ := ratioA (v := v) r1.1.2.1 r1.1.2.2
  have hv : v i ≠ 0 := fun z => h2 (r2 i z)
  have hfv : f v = 0 := h.1.1 f (List.mem_cons_self ..)
  have hfw := lessV_e hf h3
  rw [hfv, Int.mul_zero] at hfw
  have hmul : (v i : Int) * f r ≠ 0 := Int.mul_ne_zero (by omega) hr
  have hx : ∃ j, j < w ∧ lessV r v i j ≠ 0 := by
    by_cases d : ∃ j, j < w ∧ lessV r v i j ≠ 0
    · exact d
    · exfalso
      have : lessV r v i = fun _ => 0 := by
        funext j
        by_cases hj : j < w
        · by_cases z : lessV r v i j = 0
          · exact z
          · exact absurd ⟨j, hj, z⟩ d
        · exact lessV_sb r2 j (h.1.2.2 j (by omega))
      rw [this] at hfw
      have z := hf 0 0 (fun _ => 0) (fun _ => 0)
      simp only [Int.natCast_zero, Int.zero_mul, Int.add_zero, Nat.zero_mul, Nat.add_zero] at z
      omega
  have hS : Sol w E (lessV r v i) := by
    refine ⟨fun e he => ?_, hx, fun j hj => lessV_sb r2 j (h.1.2.2 j hj)⟩
    rw [lessV_e (hE e he) h3, h.1.tl.1 e he, r1.1.1 e he]
    omega
  have hl := hlg _ v (lessV_sb (i := i) r2) h.2.1
  by_cases c : f r < 0
  · have p1 : (v i : Int) * f r < 0 := Int.mul_neg_of_pos_of_neg (by omega) c
    obtain ⟨p, q1, q2, q3⟩ := MinS.side hlg hE hf.neg _ (lessV r v i) (Nat.le_refl _) hS hl (by show - f _ < 0; omega)
    have q3 : - f p < 0 := q3
    exact ⟨p, r, q1, r1, q2.trans (lessV_sb r2), r2, by omega, c⟩
  · have p1 : 0 < (v i : Int) * f r := Int.mul_pos (by omega) (by omega)
    obtain ⟨q, q1, q2, q3⟩ := MinS.side hlg hE hf _ (lessV r v i) (Nat.le_refl _) hS hl (by omega)
    exact ⟨r, q, r1, q1, r2, q2.trans (lessV_sb r2), by omega, q3⟩
/-- two that mix to one support are alike -/
theorem prop2 {v m m' : Vc} (h : ∃ i, m i ≠ 0 ∧ v i ≠ 0 ∧ ∀ j, m i * v j = v i * m j) (h' : ∃ i, m' i ≠ 0 ∧ v i ≠ 0 ∧ ∀ j, m' i * v j = v i * m' j) : ∃ a b, 0 < a ∧ 0 < b ∧ ∀ j, a * m' j = b * m j := by
  obtain ⟨i, h1, h2, h3⟩ := h
  obtain ⟨k, g1, g2, g3⟩ := h'
  refine ⟨m i * v k, m' k * v i, Nat.mul_pos (Nat.pos_of_ne_zero h1) (Nat.pos_of_ne_zero g2), Nat.mul_pos (Nat.pos_of_ne_zero g1) (Nat.pos_of_ne_zero h2), fun j => ?_⟩
  calc m i * v k * m' j = m i * (v k * m' j) := by ac_rfl
    _ = m i * (m' k * v j) := by rw [g3 j]
    _ = m' k * (m i * v j) := by ac_rfl
    _ = m' k * (v i * m j) := by rw [h3 j]
    _ = m' k * v i * m j := by ac_rfl
/-- A r + B x = C p + D x, all above 0: one of r, p is within the other -/
theorem two_sb {r p x : Vc} {A B C D : Nat} (hA : 0 < A) (hC : 0 < C) (h : ∀ j, A * r j + B * x j = C * p j + D * x j) : sbv p r ∨ sbv r p := by
  by_cases c : B ≤ D
  · refine Or.inl fun j z => ?_
    have e := h j
    rw [z, Nat.mul_zero, Nat.zero_add] at e
    have : B * x j ≤ D * x j := Nat.mul_le_mul_right _ c
    have : C * p j = 0 := by omega
    rcases Nat.mul_eq_zero.mp this with q | q
    · omega
    · exact q
  · refine Or.inr fun j z => ?_
    have e := h j
    rw [z, Nat.mul_zero, Nat.zero_add] at e
    have : D * x j ≤ B * x j := Nat.mul_le_mul_right _ (by omega)
    have : A * r j = 0 := by omega
    rcases Nat.mul_eq_zero.mp this with q | q
    · omega
    · exact q
theorem MinS.other (hE : ∀ e ∈ E, Lin e) (hf : Lin f) {v p q r : Vc} (h : MinS w lg (f :: E) v) (n : ¬ MinS w lg E v) (mp : MinS w lg E p) (mq : MinS w lg E q) (sp : sbv p v) (sq : sbv q v) (hp : 0 < f p) (hq : f q < 0) (mr : MinS w lg E r) (sr : sbv r v) : sbv r p ∨ sbv r q := by
  have hr := h.ne0 n mr sr
  have hE' : ∀ e ∈ f :: E, Lin e := fun e he => by rcases List.mem_cons.mp he with rfl | he; exact hf; exact hE e he
  have m1 := h.one hE' (mixW_S hE hf mp.1 mq.1 hp hq) (mixW_sb sp sq)
  by_cases c : 0 < f r
  · obtain ⟨a, b, ha, hb, hab⟩ := prop2 m1 (h.one hE' (mixW_S hE hf mr.1 mq.1 c hq) (mixW_sb sr sq))
    have := two_sb (r := r) (p := p) (x := q) (A := a * (-f q).toNat) (B := a * (f r).toNat) (C := b * (-f q).toNat) (D := b * (f p).toNat) (Nat.mul_pos ha (by omega)) (Nat.mul_pos hb (by omega)) (fun j => by
      have := hab j
      unfold mixW at this
      rw [Nat.mul_add, Nat.mul_add] at this
      rw [Nat.mul_assoc, Nat.mul_assoc, Nat.mul_assoc, Nat.mul_assoc]
      exact this)
    rcases this with t | t
    · exact Or.inl (mr.2.2 p mp.1 t)
    · exact Or.inl t
  · have c : f r < 0 := by omega
    obtain ⟨a, b, ha, hb, hab⟩ := prop2 m1 (h.one hE' (mixW_S hE hf mp.1 mr.1 hp c) (mixW_sb sp sr))
    have := two_sb (r := r) (p := q) (x := p) (A := a * (f p).toNat) (B := a * (-f r).toNat) (C := b * (f p).toNat) (D := b * (-f q).toNat) (Nat.mul_pos ha (by omega)) (Nat.mul_pos hb (by omega)) (fun j => by
      have := hab j
      unfold mixW at this
      rw [Nat.mul_add, Nat.mul_add] at this
      rw [Nat.mul_assoc, Nat.mul_assoc, Nat.mul_assoc, Nat.mul_assoc]
      omega)
    rcases this with t | t
    · exact Or.inr (mr.2.2 q mq.1 t)
    · exact Or.inr t
theorem MinS.mix (hlg : ∀ u v, sbv u v → lg v → lg u) (hE : ∀ e ∈ E, Lin e) (hf : Lin f) {p q : Vc} (mp : MinS w lg E p) (mq : MinS w lg E q) (hp : 0 < f p) (hq : f q < 0) (hl : lg (mixW f p q)) (ho : ∀ r, MinS w lg E r → sbv r (mixW f p q) → sbv p r ∨ sbv q r) : MinS w lg (f :: E) (mixW f p q) := by
  refine ⟨mixW_S hE hf mp.1 mq.1 hp hq, hl, fun u hu su => ?_⟩
  obtain ⟨v, v1, v2⟩ := MinS.ex hlg (szV u w) u (Nat.le_refl _) hu (hlg u _ su hl)
  have v3 := v2.trans su
  have hE' : ∀ e ∈ f :: E, Lin e := fun e he => by rcases List.mem_cons.mp he with rfl | he; exact hf; exact hE e he
  have zero : ∀ {x y : Vc}, MinS w lg E x → Sol w E y → sbv y x → (f x = 0 ↔ f y = 0) := by
    intro x y hx hy hxy
    obtain ⟨i, h1, h2, h3⟩ := hx.one hE hy hxy
    have e := hf (y i) 0 x x
    have e2 := hf (x i) 0 y y
    have : (fun j => y i * x j + 0 * x j) = fun j => x i * y j + 0 * y j := by funext j; rw [h3 j, Nat.zero_mul, Nat.zero_mul]
    rw [this, e2] at e
    simp only [Int.natCast_zero, Int.zero_mul, Int.add_zero] at e
    constructor
    · intro z
      rw [z, Int.mul_zero] at e
      rcases Int.mul_eq_zero.mp e with q | q
      · omega
      · exact q
    · intro z
      rw [z, Int.mul_zero] at e
      rcases Int.mul_eq_zero.mp e.symm with q | q
      · omega
      · exact q
  have hfv : f v = 0 := v1.1.1 f (List.mem_cons_self ..)
  by_cases c : MinS w lg E v
  · exfalso
    rcases ho v c v3 with t | t
    · have := (zero c mp.1 t).mp hfv; omega
    · have := (zero c mq.1 t).mp hfv; omega
  · obtain ⟨p', q', a1, a2, a3, a4, a5, a6⟩ := v1.cut hlg hE hf c
    have sg : ∀ {x y : Vc}, MinS w lg E x → Sol w E y → sbv y x → (0 < f x ↔ 0 < f y) := by
      intro x y hx hy hxy
      obtain ⟨i, h1, h2, h3⟩ := hx.one hE hy hxy
      have e := hf (y i) 0 x x
      have e2 := hf (x i) 0 y y
      have : (fun j => y i * x j + 0 * x j) = fun j => x i * y j + 0 * y j := by funext j; rw [h3 j, Nat.zero_mul, Nat.zero_mul]
      rw [this, e2] at e
      simp only [Int.natCast_zero, Int.zero_mul, Int.add_zero] at e
      have y0 : 0 < (y i : Int) := by omega
      have x0 : 0 < (x i : Int) := by omega
      constructor
      · intro z
        have := Int.mul_pos y0 z
        by_cases w : 0 < f y
        · exact w
        · have := Int.mul_nonpos_of_nonneg_of_nonpos (Int.le_of_lt x0) (show f y ≤ 0 by omega)
          omega
      · intro z
        have := Int.mul_pos x0 z
        by_cases w : 0 < f x
        · exact w
        · have := Int.mul_nonpos_of_nonneg_of_nonpos (Int.le_of_lt y0) (show f x ≤ 0 by omega)
          omega
    have sp : sbv p v := by
      rcases ho p' a1 (a3.trans v3) with t | t
      · exact t.trans a3
      · have := (sg a1 mq.1 t).mp a5; omega
    have sq : sbv q v := by
      rcases ho q' a2 (a4.trans v3) with t | t
      · have := (sg a2 mp.1 t).mpr hp; omega
      · exact t.trans a4
    exact (mixW_sb sp sq).trans v2
end
