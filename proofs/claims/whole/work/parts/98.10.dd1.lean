/-! the search, as mathematics: least supports -/
abbrev Vc := Nat → Nat
/-- a form that keeps sums and multiples -/
def Lin (e : Vc → Int) : Prop := ∀ (x y : Nat) (u v : Vc), e (fun i => x * u i + y * v i) = x * e u + y * e v
/-- what is 0 in v is 0 in u -/
def sbv (u v : Vc) : Prop := ∀ i, v i = 0 → u i = 0
theorem sbv.rf (u : Vc) : sbv u u := fun _ h => h
theorem sbv.trans {u v x : Vc} (h : sbv u v) (g : sbv v x) : sbv u x := fun i q => h i (g i q)
/-- a solution of all forms of E, not 0, that ends at w -/
def Sol (w : Nat) (E : List (Vc → Int)) (v : Vc) : Prop := (∀ e ∈ E, e v = 0) ∧ (∃ i, i < w ∧ v i ≠ 0) ∧ ∀ i, w ≤ i → v i = 0
/-- a solution whose support is least; and lawful -/
def MinS (w : Nat) (lg : Vc → Prop) (E : List (Vc → Int)) (v : Vc) : Prop := Sol w E v ∧ lg v ∧ ∀ u, Sol w E u → sbv u v → sbv v u
/-- the place of u where v is least against it -/
theorem ratio {u v : Vc} : ∀ w, (∃ i, i < w ∧ u i ≠ 0) → ∃ i, i < w ∧ u i ≠ 0 ∧ ∀ j, j < w → v i * u j ≤ v j * u i
  | 0, ⟨i, h, _⟩ => absurd h (Nat.not_lt_zero _)
  | w + 1, hx => by
    by_cases hw : ∃ i, i < w ∧ u i ≠ 0
    · obtain ⟨i, h1, h2, h3⟩ := ratio (v := v) w hw
      by_cases c : v i * u w ≤ v w * u i
      · refine ⟨i, by omega, h2, fun j hj => ?_⟩
        by_cases e : j = w
        · rw [e]; exact c
        · exact h3 j (by omega)
      · have hu : u w ≠ 0 := fun z => by rw [z] at c; exact c (by rw [Nat.mul_zero]; exact Nat.zero_le _)
        refine ⟨w, by omega, hu, fun j hj => ?_⟩
        by_cases e : j = w
        · rw [e]; exact Nat.le_refl _
        · have g := h3 j (by omega)
          have hp : 0 < u i := Nat.pos_of_ne_zero h2
          have c' : v w * u i < v i * u w := by omega
          have q : u i * (v w * u j) ≤ u i * (v j * u w) := by
            calc u i * (v w * u j) = (v w * u i) * u j := by ac_rfl
              _ ≤ (v i * u w) * u j := Nat.mul_le_mul_right _ (Nat.le_of_lt c')
              _ = (v i * u j) * u w := by ac_rfl
              _ ≤ (v j * u i) * u w := Nat.mul_le_mul_right _ g
              _ = u i * (v j * u w) := by ac_rfl
          exact Nat.le_of_mul_le_mul_left q hp
    · obtain ⟨i, h1, h2⟩ := hx
      have e : i = w := by
        by_cases e : i = w
        · exact e
        · exact absurd ⟨i, by omega, h2⟩ hw
      subst e
      refine ⟨i, by omega, h2, fun j hj => ?_⟩
      by_cases e : j = i
      · rw [e]; exact Nat.le_refl _
      · have : u j = 0 := by
          by_cases z : u j = 0
          · exact z
          · exact absurd ⟨j, by omega, z⟩ hw
        rw [this, Nat.mul_zero]
        exact Nat.zero_le _
/-- v less as much of u as it goes -/
def lessV (u v : Vc) (i : Nat) : Vc := fun j => u i * v j - v i * u j
theorem lessV_e {e : Vc → Int} (he : Lin e) {u v : Vc} {i : Nat} (hle : ∀ j, v i * u j ≤ v j * u i) : e (lessV u v i) = u i * e v - v i * e u := by
  have h := he 1 (v i) (lessV u v i) u
  have g := he (u i) 0 v u
  have : (fun j => 1 * lessV u v i j + v i * u j) = fun j => u i * v j + 0 * u j := by
    funext j
    unfold lessV
    have q : v i * u j ≤ u i * v j := by rw [Nat.mul_comm (u i)]; exact hle j
    rw [Nat.one_mul, Nat.zero_mul, Nat.add_zero]
    omega
  rw [this, g] at h
  simp only [Int.natCast_one, Int.one_mul, Int.natCast_zero, Int.zero_mul, Int.add_zero] at h
  omega
theorem lessV_z {u v : Vc} {i : Nat} : lessV u v i i = 0 := by
  unfold lessV
  rw [Nat.mul_comm (u i)]
  exact Nat.sub_self _
theorem lessV_sb {u v : Vc} {i : Nat} (h : sbv u v) : sbv (lessV u v i) v := fun j z => by
  unfold lessV
  rw [z, h j z, Nat.mul_zero, Nat.mul_zero]
theorem ratioA {w : Nat} {u v : Vc} (hx : ∃ i, i < w ∧ u i ≠ 0) (hu : ∀ i, w ≤ i → u i = 0) : ∃ i, i < w ∧ u i ≠ 0 ∧ ∀ j, v i * u j ≤ v j * u i := by
  obtain ⟨i, h1, h2, h3⟩ := ratio (v := v) w hx
  refine ⟨i, h1, h2, fun j => ?_⟩
  by_cases hj : j < w
  · exact h3 j hj
  · rw [hu j (by omega), Nat.mul_zero]
    exact Nat.zero_le _
/-- with one least support there is but one direction -/
theorem MinS.one {w : Nat} {lg : Vc → Prop} {E : List (Vc → Int)} (hE : ∀ e ∈ E, Lin e) {u v : Vc} (h : MinS w lg E v) (g : Sol w E u) (hs : sbv u v) : ∃ i, u i ≠ 0 ∧ v i ≠ 0 ∧ ∀ j, u i * v j = v i * u j := by
  obtain ⟨i, h1, h2, h3⟩ := ratioA (v := v) g.2.1 g.2.2
  have hv : v i ≠ 0 := fun z => h2 (hs i z)
  refine ⟨i, h2, hv, fun j => ?_⟩
  by_cases c : ∃ j, j < w ∧ lessV u v i j ≠ 0
  · exfalso
    have hS : Sol w E (lessV u v i) := by
      refine ⟨fun e he => ?_, c, fun j hj => lessV_sb hs j (h.1.2.2 j hj)⟩
      rw [lessV_e (hE e he) h3, h.1.1 e he, g.1 e he]
      omega
    exact hv (h.2.2 _ hS (lessV_sb hs) i lessV_z)
  · have z : lessV u v i j = 0 := by
      by_cases hj : j < w
      · by_cases z : lessV u v i j = 0
        · exact z
        · exact absurd ⟨j, hj, z⟩ c
      · exact lessV_sb hs j (h.1.2.2 j (by omega))
    unfold lessV at z
    have := h3 j
    rw [Nat.mul_comm (v j)] at this
    omega
/-- how many places below w are not 0 -/
def szV (v : Vc) : Nat → Nat
  | 0 => 0
  | w + 1 => szV v w + if v w = 0 then 0 else 1
theorem szV_le {u v : Vc} (h : sbv u v) : ∀ w, szV u w ≤ szV v w
  | 0 => Nat.le_refl _
  | w + 1 => by
    have := szV_le h w
    show szV u w + (if u w = 0 then 0 else 1) ≤ szV v w + (if v w = 0 then 0 else 1)
    by_cases c : v w = 0
    · rw [if_pos c, if_pos (h w c)]; omega
    · rw [if_neg c]; split <;> omega
theorem szV_lt {u v : Vc} (h : sbv u v) {i : Nat} (hu : u i = 0) (hv : v i ≠ 0) : ∀ w, i < w → szV u w < szV v w
  | 0, hi => by omega
  | w + 1, hi => by
    show szV u w + (if u w = 0 then 0 else 1) < szV v w + (if v w = 0 then 0 else 1)
    by_cases c : i = w
    · subst c
      rw [if_pos hu, if_neg hv]
      have := szV_le h i
      omega
    · have := szV_lt h hu hv w (by omega)
      by_cases c : v w = 0
      · rw [if_pos c, if_pos (h w c)]; omega
      · rw [if_neg c]; split <;> omega
/-- in every lawful solution there is a least one -/
theorem MinS.ex {w : Nat} {lg : Vc → Prop} (hlg : ∀ u v, sbv u v → lg v → lg u) {E : List (Vc → Int)} : ∀ n (v : Vc), szV v w ≤ n → Sol w E v → lg v → ∃ r, MinS w lg E r ∧ sbv r v := by
  intro n
  induction n with
  | zero =>
    intro v h g _
    obtain ⟨i, h1, h2⟩ := g.2.1
    have := szV_lt (u := fun _ => 0) (v := v) (fun _ _ => rfl) (i := i) rfl h2 w h1
    omega
  | succ n ih =>
    intro v h g l
    by_cases c : ∀ u, Sol w E u → sbv u v → sbv v u
    · exact ⟨v, ⟨g, l, c⟩, sbv.rf v⟩
    · have : ∃ u, Sol w E u ∧ sbv u v ∧ ¬ sbv v u := by
        by_cases d : ∃ u, Sol w E u ∧ sbv u v ∧ ¬ sbv v u
        · exact d
        · exfalso
          apply c
          intro u h1 h2
          by_cases e : sbv v u
          · exact e
          · exact absurd ⟨u, h1, h2, e⟩ d
      obtain ⟨u, h1, h2, h3⟩ := this
      have : ∃ i, u i = 0 ∧ v i ≠ 0 := by
        by_cases d : ∃ i, u i = 0 ∧ v i ≠ 0
        · exact d
        · exfalso
          apply h3
          intro i hi
          by_cases e : v i = 0
          · exact e
          · exact absurd ⟨i, hi, e⟩ d
      obtain ⟨i, h4, h5⟩ := this
      have hiw : i < w := by
        by_cases e : i < w
        · exact e
        · exact absurd (g.2.2 i (by omega)) h5
      have := szV_lt h2 h4 h5 w hiw
      obtain ⟨r, r1, r2⟩ := ih u (by omega) h1 (hlg u v h2 l)
      exact ⟨r, r1, r2.trans h2⟩
/-- and one on the side where the solution lies -/
theorem MinS.side {w : Nat} {lg : Vc → Prop} (hlg : ∀ u v, sbv u v → lg v → lg u) {E : List (Vc → Int)} (hE : ∀ e ∈ E, Lin e) {f : Vc → Int} (hf : Lin f) : ∀ n (v : Vc), szV v w ≤ n → Sol w E v → lg v → f v < 0 → ∃ r, MinS w lg E r ∧ sbv r v ∧ f r < 0 := by
  intro n
  induction n with
  | zero =>
    intro v h g _ _
    obtain ⟨i, h1, h2⟩ := g.2.1
    have := szV_lt (u := fun _ => 0) (v := v) (fun _ _ => rfl) (i := i) rfl h2 w h1
    omega
  | succ n ih =>
    intro v h g l hn
    obtain ⟨r, r1, r2⟩ := MinS.ex hlg (szV v w) v (Nat.le_refl _) g l
    by_cases c : f r < 0
    · exact ⟨r, r1, r2, c⟩
    · obtain ⟨i, h1, h2, h3⟩ := ratioA (v := v) r1.1.2.1 r1.1.2.2
      have hv : v i ≠ 0 := fun z => h2 (r2 i z)
      have hfw := lessV_e hf h3
      have hneg : f (lessV r v i) < 0 := by
        rw [hfw]
        have p1 : (r i : Int) * f v < 0 := Int.mul_neg_of_pos_of_neg (by omega) hn
        have p2 : 0 ≤ (v i : Int) * f r := Int.mul_nonneg (by omega) (by omega)
        omega
      have hx : ∃ j, j < w ∧ lessV r v i j ≠ 0 := by
        by_cases d : ∃ j, j < w ∧ lessV r v i j ≠ 0
        · exact d
        · exfalso
          have : lessV r v i = fun _ => 0 := by
            funext j
            by_cases hj : j < w
            · by_cases z : lessV r v i j = 0
              · exact z
              · exact absurd ⟨j, hj, z⟩ d
            · exact lessV_sb r2 j (g.2.2 j (by omega))
          rw [this] at hneg
          have z := hf 0 0 (fun _ => 0) (fun _ => 0)
          simp only [Int.natCast_zero, Int.zero_mul, Int.add_zero, Nat.zero_mul, Nat.add_zero] at z
          omega
      have hS : Sol w E (lessV r v i) := by
        refine ⟨fun e he => ?_, hx, fun j hj => lessV_sb r2 j (g.2.2 j hj)⟩
        rw [lessV_e (hE e he) h3, g.1 e he, r1.1.1 e he]
        omega
      have hlt := szV_lt (lessV_sb (i := i) r2) lessV_z hv w h1
      obtain ⟨q, q1, q2, q3⟩ := ih (lessV r v i) (by omega) hS (hlg _ v (lessV_sb r2) l) hneg
      exact ⟨q, q1, q2.trans (lessV_sb r2), q3⟩
