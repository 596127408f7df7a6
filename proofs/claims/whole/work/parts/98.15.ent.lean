/-! the search: the numbers of a least support are small -/
def isN (a : Nat) : Prop := a < 21 ∧ a % 7 < 4
/-- a fitting: two corners, two kinds of fours -/
def okF (e : Vc → Int) : Prop := ∃ a b p q k l, isN a ∧ isN b ∧ p < 3 ∧ q < 3 ∧ k < 3 ∧ l < 3 ∧ ∀ v, e v = (v a : Int) + v (7 * p + 4 + k) - v b - v (7 * q + 4 + l)
/-- how many fours of any kind -/
def xq (v : Vc) (p : Nat) : Nat := v (7 * p + 4) + v (7 * p + 5) + v (7 * p + 6)
def dt (f : Nat → Int) (x : Nat → Nat) : Int := f 0 * x 0 + f 1 * x 1 + f 2 * x 2
def uv (p : Nat) (i : Nat) : Int := if i = p then 1 else 0
theorem dt_uv {x : Nat → Nat} {p : Nat} (hp : p < 3) : dt (uv p) x = x p := by
  unfold dt uv
  rcases (show p = 0 ∨ p = 1 ∨ p = 2 by omega) with rfl | rfl | rfl <;> simp
theorem dt_add (f g : Nat → Int) (x : Nat → Nat) : dt (fun i => f i + g i) x = dt f x + dt g x := by
  unfold dt
  simp only [Int.add_mul]
  omega
theorem dt_sub (f g : Nat → Int) (x : Nat → Nat) : dt (fun i => f i - g i) x = dt f x - dt g x := by
  unfold dt
  simp only [Int.sub_mul]
  omega
/-- which kind is there, if any -/
theorem lg_kind {v : Vc} (h : lgP 3 v) {p k : Nat} (hp : p < 3) (hk : k < 3) : v (7 * p + 4 + k) = 0 ∨ v (7 * p + 4 + k) = xq v p := by
  have := h p hp
  unfold xq
  by_cases c : v (7 * p + 4 + k) = 0
  · exact Or.inl c
  · refine Or.inr ?_
    rcases (show k = 0 ∨ k = 1 ∨ k = 2 by omega) with rfl | rfl | rfl
    · have a : v (7 * p + 5) = 0 := by
        by_cases z : v (7 * p + 5) = 0
        · exact z
        · exact absurd (Or.inl ⟨c, z⟩) this
      have b : v (7 * p + 6) = 0 := by
        by_cases z : v (7 * p + 6) = 0
        · exact z
        · exact absurd (Or.inr (Or.inl ⟨c, z⟩)) this
      show v (7 * p + 4) = _
      omega
    · have a : v (7 * p + 4) = 0 := by
        by_cases z : v (7 * p + 4) = 0
        · exact z
        · exact absurd (Or.inl ⟨z, c⟩) this
      have b : v (7 * p + 6) = 0 := by
        by_cases z : v (7 * p + 6) = 0
        · exact z
        · exact absurd (Or.inr (Or.inr ⟨c, z⟩)) this
      show v (7 * p + 5) = _
      omega
    · have a : v (7 * p + 4) = 0 := by
        by_cases z : v (7 * p + 4) = 0
        · exact z
        · exact absurd (Or.inr (Or.inl ⟨z, c⟩)) this
      have b : v (7 * p + 5) = 0 := by
        by_cases z : v (7 * p + 5) = 0
        · exact z
        · exact absurd (Or.inr (Or.inr ⟨z, c⟩)) this
      show v (7 * p + 6) = _
      omega
def qd (v : Vc) (p k : Nat) (i : Nat) : Int := if v (7 * p + 4 + k) = 0 then 0 else uv p i
theorem qd_dt {v : Vc} (h : lgP 3 v) {p k : Nat} (hp : p < 3) (hk : k < 3) : (v (7 * p + 4 + k) : Int) = dt (qd v p k) (xq v) := by
  unfold qd
  rcases lg_kind h hp hk with c | c
  · simp only [if_pos c]
    rw [c]
    simp [dt]
  · by_cases d : v (7 * p + 4 + k) = 0
    · simp only [if_pos d]
      rw [d]
      simp [dt]
    · simp only [if_neg d]
      rw [show dt (fun i => uv p i) (xq v) = xq v p from dt_uv hp, c]
theorem uv_b (p i : Nat) : 0 ≤ uv p i ∧ uv p i ≤ 1 := by
  unfold uv
  split <;> omega
theorem qd_b (v : Vc) (p k i : Nat) : 0 ≤ qd v p k i ∧ qd v p k i ≤ 1 := by
  unfold qd
  split
  · omega
  · exact uv_b p i
/-- v at u is a small sum of the fours -/
def Rn (v : Vc) (X n u : Nat) : Prop := ∃ f : Nat → Int, (∀ i, -(n : Int) ≤ f i ∧ f i ≤ n) ∧ (v u : Int) = dt f (xq v) ∧ v u ≤ n * X
theorem Rn.up {v : Vc} {X n u : Nat} (h : Rn v X n u) : Rn v X (n + 1) u := by
  obtain ⟨f, h1, h2, h3⟩ := h
  exact ⟨f, fun i => by have := h1 i; omega, h2, by rw [Nat.add_mul]; omega⟩
theorem Rn.go {v : Vc} (hl : lgP 3 v) {X : Nat} (hX : ∀ p, p < 3 → xq v p ≤ X) {n u u' p q k l : Nat} (h : Rn v X n u) (hp : p < 3) (hq : q < 3) (hk : k < 3) (hll : l < 3) (e : (v u' : Int) = v u + v (7 * p + 4 + k) - v (7 * q + 4 + l)) : Rn v X (n + 1) u' := by
  obtain ⟨f, h1, h2, h3⟩ := h
  refine ⟨fun i => f i + qd v p k i - qd v q l i, fun i => ?_, ?_, ?_⟩
  · have a := h1 i
    have b := qd_b v p k i
    have c := qd_b v q l i
    show -((n + 1 : Nat) : Int) ≤ f i + qd v p k i - qd v q l i ∧ f i + qd v p k i - qd v q l i ≤ ((n + 1 : Nat) : Int)
    omega
  · rw [dt_sub (fun i => f i + qd v p k i), dt_add, ← h2, ← qd_dt hl hp hk, ← qd_dt hl hq hll]
    exact e
  · have := hX p hp
    rcases lg_kind hl hp hk with c | c
    · rw [Nat.add_mul]; omega
    · rw [Nat.add_mul]; omega
theorem stop12 (c : Nat → Nat) (h1 : ∀ n, c n ≤ 12) (h2 : ∀ n, c n ≤ c (n + 1)) : ∃ n, n ≤ 12 ∧ c (n + 1) = c n := by
  by_cases g : ∃ n, n ≤ 12 ∧ c (n + 1) = c n
  · exact g
  · exfalso
    have : ∀ n, n ≤ 13 → n ≤ c n := by
      intro n
      induction n with
      | zero => intro _; exact Nat.zero_le _
      | succ n ih =>
        intro hn
        have a := ih (by omega)
        have b := h2 n
        have d : c (n + 1) ≠ c n := fun e => g ⟨n, by omega, e⟩
        omega
    have a := this 13 (by omega)
    have b := h1 13
    omega
theorem cnt_sb {p q : Nat → Bool} : ∀ n, (∀ i, i < n → p i = true → q i = true) → cnt p n ≤ cnt q n
  | 0, _ => Nat.le_refl _
  | n + 1, h => by
    have ih := cnt_sb n (fun i hi => h i (by omega))
    show cnt p n + (if p n = true then 1 else 0) ≤ cnt q n + (if q n = true then 1 else 0)
    by_cases c : p n = true
    · rw [if_pos c, if_pos (h n (by omega) c)]; omega
    · rw [if_neg c]; omega
theorem cnt_sq {p q : Nat → Bool} : ∀ n, (∀ i, i < n → p i = true → q i = true) → cnt q n = cnt p n → ∀ i, i < n → q i = true → p i = true
  | 0, _, _, i, hi, _ => by omega
  | n + 1, h, e, i, hi, g => by
    have ih := cnt_sb n (fun i hi => h i (by omega))
    have e : cnt q n + (if q n = true then 1 else 0) = cnt p n + (if p n = true then 1 else 0) := e
    by_cases c : p n = true
    · rw [if_pos c, if_pos (h n (by omega) c)] at e
      by_cases d : i = n
      · rw [d]; exact c
      · exact cnt_sq n (fun i hi => h i (by omega)) (by omega) i (by omega) g
    · rw [if_neg c] at e
      by_cases d : q n = true
      · rw [if_pos d] at e; omega
      · rw [if_neg d] at e
        by_cases f : i = n
        · rw [f] at g; exact absurd g d
        · exact cnt_sq n (fun i hi => h i (by omega)) (by omega) i (by omega) g
noncomputable def inA (v : Vc) (X n : Nat) (a : Nat) : Bool := @decide (isN a ∧ Rn v X n a) (Classical.propDecidable _)
theorem inA_iff {v : Vc} {X n a : Nat} : inA v X n a = true ↔ isN a ∧ Rn v X n a := by
  unfold inA
  exact @decide_eq_true_iff _ (Classical.propDecidable _)
/-- from every corner a way leads to one that is 0 -/
theorem MinS.reach {E : List (Vc → Int)} {v : Vc} (h : MinS 21 (lgP 3) E v) (hE : ∀ e ∈ E, okF e) (hq : ∃ p, p < 3 ∧ xq v p ≠ 0) {X : Nat} (hX : ∀ p, p < 3 → xq v p ≤ X) : ∀ a, isN a → Rn v X 12 a := by
  have hl := h.2.1
  have m12 : ∀ n, cnt (inA v X n) 21 ≤ 12 := fun n => by
    have : cnt (inA v X n) 21 ≤ cnt (fun a => decide (a % 7 < 4)) 21 := cnt_sb 21 (fun i _ hi => decide_eq_true (inA_iff.mp hi).1.2)
    have e : cnt (fun a => decide (a % 7 < 4)) 21 = 12 := by decide
    omega
  have up : ∀ n i, i < 21 → inA v X n i = true → inA v X (n + 1) i = true := fun n i _ hi => inA_iff.mpr ⟨(inA_iff.mp hi).1, (inA_iff.mp hi).2.up⟩
  obtain ⟨n, hn, hst⟩ := stop12 (fun n => cnt (inA v X n) 21) m12 (fun n => cnt_sb 21 (up n))
  have cl : ∀ i, isN i → Rn v X (n + 1) i → Rn v X n i := fun i hi hr => (inA_iff.mp (cnt_sq 21 (up n) hst i hi.1 (inA_iff.mpr ⟨hi, hr⟩))).2
  have all : ∀ a, isN a → Rn v X n a := by
    intro a0 ha0
    by_cases c : Rn v X n a0
    · exact c
    · exfalso
      obtain ⟨p0, hp0, hx0⟩ := hq
      have hS : Sol 21 E (fun i => @ite _ (isN i ∧ ¬ Rn v X n i) (Classical.propDecidable _) 1 0) := by
        refine ⟨fun e he => ?_, ⟨a0, ha0.1, ?_⟩, fun i hi => ?_⟩
        · obtain ⟨a, b, p, q, k, l, na, nb, hp, hq, hk, hll, hev⟩ := hE e he
          have hv := hev v
          rw [h.1.1 e he] at hv
          rw [hev]
          have f1 : ¬ (isN (7 * p + 4 + k) ∧ ¬ Rn v X n (7 * p + 4 + k)) := fun w => by have := w.1.2; omega
          have f2 : ¬ (isN (7 * q + 4 + l) ∧ ¬ Rn v X n (7 * q + 4 + l)) := fun w => by have := w.1.2; omega
          have iab : Rn v X n a → Rn v X n b := fun w => cl b nb (w.go hl hX hp hq hk hll (by omega))
          have iba : Rn v X n b → Rn v X n a := fun w => cl a na (w.go hl hX hq hp hll hk (by omega))
          rw [if_neg f1, if_neg f2]
          by_cases d : Rn v X n a
          · rw [if_neg (fun w => w.2 d), if_neg (fun w => w.2 (iab d))]; rfl
          · rw [if_pos ⟨na, d⟩, if_pos ⟨nb, fun w => d (iba w)⟩]; rfl
        · dsimp only
          rw [if_pos ⟨ha0, c⟩]; decide
        · dsimp only
          rw [if_neg (fun w => by have := w.1.1; omega)]
      have hsb : sbv (fun i => @ite _ (isN i ∧ ¬ Rn v X n i) (Classical.propDecidable _) 1 0) v := fun i z => by
        refine if_neg (fun w => w.2 ⟨fun _ => 0, fun _ => ⟨by show -(n : Int) ≤ 0; omega, by show (0 : Int) ≤ n; omega⟩, by rw [z]; simp [dt], by rw [z]; exact Nat.zero_le _⟩)
      have hb := h.2.2 _ hS hsb
      have z4 := hb (7 * p0 + 4) (if_neg (fun w => by have := w.1.2; omega))
      have z5 := hb (7 * p0 + 5) (if_neg (fun w => by have := w.1.2; omega))
      have z6 := hb (7 * p0 + 6) (if_neg (fun w => by have := w.1.2; omega))
      apply hx0
      unfold xq
      omega
  have raise : ∀ m k a, Rn v X m a → Rn v X (m + k) a := by
    intro m k
    induction k with
    | zero => exact fun a r => r
    | succ k ih => exact fun a r => (ih a r).up
  intro a ha
  have := raise n (12 - n) a (all a ha)
  rwa [show n + (12 - n) = 12 by omega] at this
/-- how large a row of whole numbers is -/
def mxA (w : Nat → Int) : Nat → Nat
  | 0 => 0
  | n + 1 => mxA w n + (w n).natAbs
theorem mxA_le (w : Nat → Int) : ∀ n i, i < n → (w i).natAbs ≤ mxA w n
  | 0, i, h => by omega
  | n + 1, i, h => by
    show _ ≤ mxA w n + (w n).natAbs
    by_cases e : i = n
    · subst e; omega
    · have := mxA_le w n i (by omega); omega
/-- whole numbers that fit and are 0 where v is: a multiple of v -/
theorem MinS.oneZ {E : List (Vc → Int)} {v : Vc} (h : MinS 21 (lgP 3) E v) (hE : ∀ e ∈ E, okF e) (hL : ∀ e ∈ E, Lin e) {w : Nat → Int} (hz : ∀ i, v i = 0 → w i = 0) (hw : ∀ e ∈ E, ∀ a b p q k l : Nat, isN a → isN b → p < 3 → q < 3 → k < 3 → l < 3 → (∀ v, e v = (v a : Int) + v (7 * p + 4 + k) - v b - v (7 * q + 4 + l)) → w a + w (7 * p + 4 + k) - w b - w (7 * q + 4 + l) = 0) : ∀ i j, w i * v j = w j * v i := by
  have hpos : ∀ i, 0 ≤ ((mxA w 21 + 1 : Nat) : Int) * v i + w i ∧ (v i ≠ 0 → 0 < ((mxA w 21 + 1 : Nat) : Int) * v i + w i) := by
    intro i
    by_cases c : v i = 0
    · rw [c, hz i c]
      exact ⟨by simp, fun z => absurd rfl z⟩
    · have hi : i < 21 := by
        by_cases d : i < 21
        · exact d
        · exact absurd (h.1.2.2 i (by omega)) c
      have g := mxA_le w 21 i hi
      have : ((mxA w 21 + 1 : Nat) : Int) ≤ ((mxA w 21 + 1 : Nat) : Int) * v i := by
        have : ((mxA w 21 + 1 : Nat) : Int) * 1 ≤ ((mxA w 21 + 1 : Nat) : Int) * v i := Int.mul_le_mul_of_nonneg_left (by omega) (by omega)
        omega
      constructor
      · omega
      · intro _; omega
  have key : ∀ i, (((((mxA w 21 + 1 : Nat) : Int) * v i + w i).toNat : Nat) : Int) = ((mxA w 21 + 1 : Nat) : Int) * v i + w i := fun i => Int.toNat_of_nonneg (hpos i).1
  have hS : Sol 21 E (fun i => (((mxA w 21 + 1 : Nat) : Int) * v i + w i).toNat) := by
    refine ⟨fun e he => ?_, ?_, fun i hi => ?_⟩
    · obtain ⟨a, b, p, q, k, l, y1, y2, y3, y4, y5, y6, hev⟩ := hE e he
      have hv := hev v
      rw [h.1.1 e he] at hv
      have hww := hw e he a b p q k l y1 y2 y3 y4 y5 y6 hev
      rw [hev]
      simp only [key]
      have : ((mxA w 21 + 1 : Nat) : Int) * v a + ((mxA w 21 + 1 : Nat) : Int) * v (7 * p + 4 + k) - ((mxA w 21 + 1 : Nat) : Int) * v b - ((mxA w 21 + 1 : Nat) : Int) * v (7 * q + 4 + l) = 0 := by
        rw [← Int.mul_add, ← Int.mul_sub, ← Int.mul_sub, ← hv, Int.mul_zero]
      omega
    · obtain ⟨i, h1, h2⟩ := h.1.2.1
      exact ⟨i, h1, by have := (hpos i).2 h2; show (((mxA w 21 + 1 : Nat) : Int) * v i + w i).toNat ≠ 0; omega⟩
    · show (((mxA w 21 + 1 : Nat) : Int) * v i + w i).toNat = 0
      have z := h.1.2.2 i hi
      rw [z, hz i z]
      simp
  obtain ⟨i0, h1, h2, h3⟩ := h.one hL hS (fun i z => by
    show (((mxA w 21 + 1 : Nat) : Int) * v i + w i).toNat = 0
    rw [z, hz i z]
    simp)
  have h4 : ∀ j, w i0 * v j = v i0 * w j := fun j => by
    have := congrArg (fun n : Nat => (n : Int)) (h3 j)
    simp only [Int.natCast_mul, key] at this
    rw [Int.add_mul, Int.mul_add] at this
    have e : ((mxA w 21 + 1 : Nat) : Int) * v i0 * v j = v i0 * (((mxA w 21 + 1 : Nat) : Int) * v j) := by
      rw [Int.mul_comm ((mxA w 21 + 1 : Nat) : Int), Int.mul_assoc]
    omega
  intro i j
  have p0 : (v i0 : Int) ≠ 0 := by omega
  apply Int.eq_of_mul_eq_mul_left p0
  rw [← Int.mul_assoc, ← Int.mul_assoc, ← h4 i, ← h4 j, Int.mul_assoc, Int.mul_assoc, Int.mul_comm (v i : Int)]
theorem gcdN_dv {v : Nat → Nat} {d : Nat} : ∀ n, (∀ i, i < n → d ∣ v i) → d ∣ gcdN v n
  | 0, _ => Nat.dvd_zero d
  | n + 1, h => by
    rw [gcdN_s]
    exact Nat.dvd_gcd (gcdN_dv n (fun i hi => h i (by omega))) (h n (by omega))
def dz (f y : Nat → Int) : Int := f 0 * y 0 + f 1 * y 1 + f 2 * y 2
theorem line_small {x : Nat → Nat} {c : Nat → Int} {M : Nat} (hg : Nat.gcd (Nat.gcd (x 0) (x 1)) (x 2) = 1) (hc : ∃ p, p < 3 ∧ c p ≠ 0) (hM : ∀ p, p < 3 → (c p).natAbs ≤ M) (hl : ∀ p q, p < 3 → q < 3 → (x p : Int) * c q = x q * c p) : ∀ p, p < 3 → x p ≤ M := by
  intro p hp
  by_cases z : c p = 0
  · obtain ⟨q, hq, hcq⟩ := hc
    have := hl p q hp hq
    rw [z, Int.mul_zero] at this
    rcases Int.mul_eq_zero.mp this with e | e
    · omega
    · exact absurd e hcq
  · have dv : ∀ q, q < 3 → x p ∣ x q * (c p).natAbs := fun q hq => by
      have := congrArg Int.natAbs (hl p q hp hq)
      rw [Int.natAbs_mul, Int.natAbs_mul] at this
      exact ⟨(c q).natAbs, by simpa using this.symm⟩
    have h1 := Nat.dvd_gcd (Nat.dvd_gcd (dv 0 (by omega)) (dv 1 (by omega))) (dv 2 (by omega))
    rw [Nat.gcd_mul_right, Nat.gcd_mul_right, hg, Nat.one_mul] at h1
    have := Nat.le_of_dvd (by omega) h1
    have := hM p hp
    omega
theorem cross_line {x : Nat → Nat} {g h : Nat → Int} (hg : dt g x = 0) (hh : dt h x = 0) : ∀ p q, p < 3 → q < 3 → (x p : Int) * (if q = 0 then g 1 * h 2 - g 2 * h 1 else if q = 1 then g 2 * h 0 - g 0 * h 2 else g 0 * h 1 - g 1 * h 0) = x q * (if p = 0 then g 1 * h 2 - g 2 * h 1 else if p = 1 then g 2 * h 0 - g 0 * h 2 else g 0 * h 1 - g 1 * h 0) := by
  unfold dt at hg hh
  intro p q hp hq
  rcases (show p = 0 ∨ p = 1 ∨ p = 2 by omega) with rfl | rfl | rfl <;> rcases (show q = 0 ∨ q = 1 ∨ q = 2 by omega) with rfl | rfl | rfl <;> simp <;> grind
theorem prim_x {v : Vc} {x : Nat → Nat} (hv : gcdN v 21 = 1) (h : ∀ d, d ∣ x 0 → d ∣ x 1 → d ∣ x 2 → ∀ i, i < 21 → d ∣ v i) : Nat.gcd (Nat.gcd (x 0) (x 1)) (x 2) = 1 := by
  have a := Nat.gcd_dvd_left (Nat.gcd (x 0) (x 1)) (x 2)
  have b := Nat.gcd_dvd_right (Nat.gcd (x 0) (x 1)) (x 2)
  have := gcdN_dv (v := v) 21 (h _ (Nat.dvd_trans a (Nat.gcd_dvd_left _ _)) (Nat.dvd_trans a (Nat.gcd_dvd_right _ _)) b)
  rw [hv] at this
  exact Nat.dvd_one.mp this
/-- the fours lie on a line with small numbers -/
theorem MinS.line {E : List (Vc → Int)} {v : Vc} (h : MinS 21 (lgP 3) E v) (hE : ∀ e ∈ E, okF e) (hL : ∀ e ∈ E, Lin e) (F : Nat → Nat → Int) (hF1 : ∀ a, ∀ i, -12 ≤ F a i ∧ F a i ≤ 12) (hF2 : ∀ a, isN a → (v a : Int) = dt (F a) (xq v)) (hF3 : ∀ a, v a = 0 → ∀ i, F a i = 0) (hq : ∃ p, p < 3 ∧ xq v p ≠ 0) : ∃ c : Nat → Int, (∃ p, p < 3 ∧ c p ≠ 0) ∧ (∀ p, p < 3 → (c p).natAbs ≤ 1250) ∧ ∀ p q, p < 3 → q < 3 → (xq v p : Int) * c q = xq v q * c p := by
  have hl := h.2.1
  obtain ⟨IsF, hIs⟩ : ∃ I : (Nat → Int) → Prop, ∀ g, I g ↔ ∃ e ∈ E, ∃ a b p q k l, isN a ∧ isN b ∧ p < 3 ∧ q < 3 ∧ k < 3 ∧ l < 3 ∧ (∀ v, e v = (v a : Int) + v (7 * p + 4 + k) - v b - v (7 * q + 4 + l)) ∧ g = fun i => F a i + qd v p k i - F b i - qd v q l i := ⟨_, fun _ => Iff.rfl⟩
  have bnd : ∀ g, IsF g → ∀ i, -25 ≤ g i ∧ g i ≤ 25 := fun g hg i => by
    obtain ⟨e, he, a, b, p, q, k, l, h1, h2, h3, h4, h5, h6, h7, rfl⟩ := (hIs g).mp hg
    have a1 := hF1 a i
    have a2 := hF1 b i
    have a3 := qd_b v p k i
    have a4 := qd_b v q l i
    try dsimp only
    omega
  have orth : ∀ g, IsF g → dt g (xq v) = 0 := fun g hg => by
    obtain ⟨e, he, a, b, p, q, k, l, h1, h2, h3, h4, h5, h6, h7, rfl⟩ := (hIs g).mp hg
    rw [dt_sub (fun i => F a i + qd v p k i - F b i), dt_sub (fun i => F a i + qd v p k i), dt_add, ← hF2 a h1, ← hF2 b h2, ← qd_dt hl h3 h5, ← qd_dt hl h4 h6, ← h7, h.1.1 e he]
  have KL : ∀ y : Nat → Int, (∀ p, p < 3 → xq v p = 0 → y p = 0) → (∀ g, IsF g → dz g y = 0) → ∀ p q, p < 3 → q < 3 → y p * xq v q = y q * xq v p := by
    intro y hy hyF
    have hw := h.oneZ hE hL (w := fun i => if i < 21 then (if i % 7 < 4 then dz (F i) y else if v i = 0 then 0 else y (i / 7)) else 0) (fun i z => by
      try dsimp only
      split
      · split
        · have := hF3 i z
          unfold dz
          rw [this, this, this]
          simp
        · first | rfl | exact if_pos z
      · rfl) (fun e he a b p q k l h1 h2 h3 h4 h5 h6 h7 => by
      have hg := hyF _ ((hIs _).mpr ⟨e, he, a, b, p, q, k, l, h1, h2, h3, h4, h5, h6, h7, rfl⟩)
      have qv : ∀ p k, p < 3 → k < 3 → (if 7 * p + 4 + k < 21 then (if (7 * p + 4 + k) % 7 < 4 then dz (F (7 * p + 4 + k)) y else if v (7 * p + 4 + k) = 0 then 0 else y ((7 * p + 4 + k) / 7)) else 0) = dz (qd v p k) y := fun p k hp hk => by
        rw [if_pos (by omega), if_neg (by omega)]
        unfold qd
        by_cases c : v (7 * p + 4 + k) = 0
        · rw [if_pos c]
          simp [dz, c]
        · rw [if_neg c, show (7 * p + 4 + k) / 7 = p by omega]
          simp only [dz, if_neg c, uv]
          rcases (show p = 0 ∨ p = 1 ∨ p = 2 by omega) with rfl | rfl | rfl <;> simp
      try dsimp only
      rw [qv p k h3 h5, qv q l h4 h6, if_pos h1.1, if_pos h1.2, if_pos h2.1, if_pos h2.2]
      unfold dz at hg ⊢
      simp only [Int.sub_mul, Int.add_mul] at hg
      omega)
    have at_ : ∀ p, p < 3 → xq v p ≠ 0 → ∃ i, i < 21 ∧ v i = xq v p ∧ (if i < 21 then (if i % 7 < 4 then dz (F i) y else if v i = 0 then 0 else y (i / 7)) else 0) = y p := by
      intro p hp hx
      have : ∃ k, k < 3 ∧ v (7 * p + 4 + k) ≠ 0 := by
        by_cases a : v (7 * p + 4) = 0
        · by_cases b : v (7 * p + 5) = 0
          · exact ⟨2, by omega, fun c => hx (by unfold xq; have c : v (7 * p + 6) = 0 := c; omega)⟩
          · exact ⟨1, by omega, b⟩
        · exact ⟨0, by omega, a⟩
      obtain ⟨k, hk, hv⟩ := this
      refine ⟨7 * p + 4 + k, by omega, (lg_kind hl hp hk).resolve_left hv, ?_⟩
      rw [if_pos (by omega), if_neg (by omega), if_neg hv, show (7 * p + 4 + k) / 7 = p by omega]
    intro p q hp hq
    by_cases a : xq v p = 0
    · rw [hy p hp a, a]; simp
    · by_cases b : xq v q = 0
      · rw [hy q hq b, b]; simp
      · obtain ⟨i, i1, i2, i3⟩ := at_ p hp a
        obtain ⟨j, j1, j2, j3⟩ := at_ q hq b
        have := hw i j
        try dsimp only at this
        rw [i3, j3, i2, j2] at this
        exact this
  by_cases C1 : ∃ g h, IsF g ∧ IsF h ∧ ∃ q, q < 3 ∧ (if q = 0 then g 1 * h 2 - g 2 * h 1 else if q = 1 then g 2 * h 0 - g 0 * h 2 else g 0 * h 1 - g 1 * h 0) ≠ 0
  · obtain ⟨g, k, hg, hk, hne⟩ := C1
    refine ⟨fun q => if q = 0 then g 1 * k 2 - g 2 * k 1 else if q = 1 then g 2 * k 0 - g 0 * k 2 else g 0 * k 1 - g 1 * k 0, hne, fun p hp => ?_, cross_line (orth g hg) (orth k hk)⟩
    have m : ∀ a b : Int, -25 ≤ a → a ≤ 25 → -25 ≤ b → b ≤ 25 → -625 ≤ a * b ∧ a * b ≤ 625 := by
      intro a b h1 h2 h3 h4
      have := Int.natAbs_mul a b
      have : (a * b).natAbs ≤ 25 * 25 := by
        rw [this]
        exact Nat.mul_le_mul (by omega) (by omega)
      omega
    have g0 := bnd g hg 0
    have g1 := bnd g hg 1
    have g2 := bnd g hg 2
    have k0 := bnd k hk 0
    have k1 := bnd k hk 1
    have k2 := bnd k hk 2
    have a1 := m _ _ g1.1 g1.2 k2.1 k2.2
    have a2 := m _ _ g2.1 g2.2 k1.1 k1.2
    have a3 := m _ _ g2.1 g2.2 k0.1 k0.2
    have a4 := m _ _ g0.1 g0.2 k2.1 k2.2
    have a5 := m _ _ g0.1 g0.2 k1.1 k1.2
    have a6 := m _ _ g1.1 g1.2 k0.1 k0.2
    try dsimp only
    split
    · omega
    · split
      · omega
      · omega
  · have par : ∀ g k, IsF g → IsF k → ∀ p q, p < 3 → q < 3 → g p * k q - g q * k p = 0 := by
      intro g k hg hk p q hp hq
      have z : ∀ q, q < 3 → (if q = 0 then g 1 * k 2 - g 2 * k 1 else if q = 1 then g 2 * k 0 - g 0 * k 2 else g 0 * k 1 - g 1 * k 0) = 0 := fun q hq => by
        by_cases e : (if q = 0 then g 1 * k 2 - g 2 * k 1 else if q = 1 then g 2 * k 0 - g 0 * k 2 else g 0 * k 1 - g 1 * k 0) = 0
        · exact e
        · exact absurd ⟨g, k, hg, hk, q, hq, e⟩ C1
      have z0 := z 0 (by omega)
      have z1 := z 1 (by omega)
      have z2 := z 2 (by omega)
      simp at z0 z1 z2
      rcases (show p = 0 ∨ p = 1 ∨ p = 2 by omega) with rfl | rfl | rfl <;> rcases (show q = 0 ∨ q = 1 ∨ q = 2 by omega) with rfl | rfl | rfl <;> grind
    by_cases C2 : ∃ p q, p < 3 ∧ q < 3 ∧ p ≠ q ∧ xq v p ≠ 0 ∧ xq v q ≠ 0
    · obtain ⟨p, q, hp, hq, hpq, xp, xq'⟩ := C2
      by_cases C3 : ∃ g, IsF g ∧ (g p ≠ 0 ∨ g q ≠ 0)
      · obtain ⟨g, hg, hgn⟩ := C3
        have kl := KL (fun i => if i = p then g q else if i = q then - g p else 0) (fun i _ z => by
          try dsimp only
          rw [if_neg (fun e => xp (by rw [← e]; exact z)), if_neg (fun e => xq' (by rw [← e]; exact z))]) (fun k hk => by
          have := par k g hk hg p q hp hq
          unfold dz
          rcases (show p = 0 ∨ p = 1 ∨ p = 2 by omega) with rfl | rfl | rfl <;> rcases (show q = 0 ∨ q = 1 ∨ q = 2 by omega) with rfl | rfl | rfl <;> simp <;> grind)
        refine ⟨fun i => if i = p then g q else if i = q then - g p else 0, ?_, fun i _ => ?_, fun a b ha hb => ?_⟩
        · rcases hgn with w | w
          · exact ⟨q, hq, by try dsimp only; rw [if_neg (fun e => hpq e.symm), if_pos rfl]; omega⟩
          · exact ⟨p, hp, by try dsimp only; rw [if_pos rfl]; exact w⟩
        · have g1 := bnd g hg p
          have g2 := bnd g hg q
          try dsimp only
          split
          · omega
          · split <;> omega
        · have := kl a b ha hb
          rw [Int.mul_comm, Int.mul_comm (xq v b : Int)]
          exact this.symm
      · exfalso
        have kl := KL (uv p) (fun i _ z => by unfold uv; exact if_neg (fun e => xp (by rw [← e]; exact z))) (fun k hk => by
          have : k p = 0 := by
            by_cases z : k p = 0
            · exact z
            · exact absurd ⟨k, hk, Or.inl z⟩ C3
          unfold dz uv
          rcases (show p = 0 ∨ p = 1 ∨ p = 2 by omega) with rfl | rfl | rfl <;> simp <;> exact this) p q hp hq
        unfold uv at kl
        rw [if_pos rfl, if_neg (fun e => hpq e.symm)] at kl
        omega
    · obtain ⟨p, hp, xp⟩ := hq
      have oth : ∀ q, q < 3 → q ≠ p → xq v q = 0 := fun q hq hne => by
        by_cases z : xq v q = 0
        · exact z
        · exact absurd ⟨p, q, hp, hq, fun e => hne e.symm, xp, z⟩ C2
      refine ⟨uv p, ⟨p, hp, by unfold uv; rw [if_pos rfl]; decide⟩, fun i _ => by have := uv_b p i; omega, fun a b ha hb => ?_⟩
      unfold uv
      by_cases e : a = p
      · by_cases f : b = p
        · rw [if_pos e, if_pos f, e, f]
        · rw [if_neg f, if_pos e, oth b hb f]; simp
      · by_cases f : b = p
        · rw [if_pos f, if_neg e, oth a ha e]; simp
        · rw [if_neg e, if_neg f]; simp
theorem MinS.small {E : List (Vc → Int)} {v : Vc} (h : MinS 21 (lgP 3) E v) (hE : ∀ e ∈ E, okF e) (hL : ∀ e ∈ E, Lin e) (hg : gcdN v 21 = 1) : ∀ i, v i ≤ 20000 := by
  have hl := h.2.1
  by_cases hq : ∃ p, p < 3 ∧ xq v p ≠ 0
  · obtain ⟨X, hX, hXe⟩ : ∃ X, (∀ p, p < 3 → xq v p ≤ X) ∧ ∃ p, p < 3 ∧ X = xq v p := by
      refine ⟨max (max (xq v 0) (xq v 1)) (xq v 2), fun p hp => ?_, ?_⟩
      · rcases (show p = 0 ∨ p = 1 ∨ p = 2 by omega) with rfl | rfl | rfl <;> omega
      · by_cases a : xq v 0 ≤ xq v 1
        · by_cases b : xq v 1 ≤ xq v 2
          · exact ⟨2, by omega, by omega⟩
          · exact ⟨1, by omega, by omega⟩
        · by_cases b : xq v 0 ≤ xq v 2
          · exact ⟨2, by omega, by omega⟩
          · exact ⟨0, by omega, by omega⟩
    have hr := h.reach hE hq hX
    have hf : ∀ a, ∃ f : Nat → Int, (∀ i, -12 ≤ f i ∧ f i ≤ 12) ∧ (isN a → (v a : Int) = dt f (xq v)) ∧ (v a = 0 → ∀ i, f i = 0) := by
      intro a
      by_cases z : v a = 0
      · exact ⟨fun _ => 0, fun _ => ⟨by show (-12 : Int) ≤ 0; omega, by show (0 : Int) ≤ 12; omega⟩, fun _ => by rw [z]; simp [dt], fun _ _ => rfl⟩
      · by_cases n : isN a
        · obtain ⟨f, f1, f2, -⟩ := hr a n
          exact ⟨f, fun i => by have := f1 i; omega, fun _ => f2, fun w => absurd w z⟩
        · exact ⟨fun _ => 0, fun _ => ⟨by show (-12 : Int) ≤ 0; omega, by show (0 : Int) ≤ 12; omega⟩, fun w => absurd w n, fun _ _ => rfl⟩
    obtain ⟨F, hF⟩ := Classical.skolem.mp hf
    obtain ⟨c, c1, c2, c3⟩ := h.line hE hL F (fun a => (hF a).1) (fun a => (hF a).2.1) (fun a => (hF a).2.2) hq
    have hgx : Nat.gcd (Nat.gcd (xq v 0) (xq v 1)) (xq v 2) = 1 := prim_x hg (fun d d0 d1 d2 i hi => by
      have dx : ∀ p, p < 3 → d ∣ xq v p := fun p hp => by
        rcases (show p = 0 ∨ p = 1 ∨ p = 2 by omega) with rfl | rfl | rfl
        · exact d0
        · exact d1
        · exact d2
      by_cases n : i % 7 < 4
      · have e := (hF i).2.1 ⟨hi, n⟩
        have : (d : Int) ∣ (v i : Int) := by
          rw [e]
          unfold dt
          refine Int.dvd_add (Int.dvd_add ?_ ?_) ?_
          · exact Int.dvd_trans (Int.natCast_dvd_natCast.mpr d0) (Int.dvd_mul_left ..)
          · exact Int.dvd_trans (Int.natCast_dvd_natCast.mpr d1) (Int.dvd_mul_left ..)
          · exact Int.dvd_trans (Int.natCast_dvd_natCast.mpr d2) (Int.dvd_mul_left ..)
        exact Int.natCast_dvd_natCast.mp this
      · have e : i = 7 * (i / 7) + 4 + (i % 7 - 4) := by omega
        rcases lg_kind hl (show i / 7 < 3 by omega) (show i % 7 - 4 < 3 by omega) with z | z
        · rw [e, z]; exact Nat.dvd_zero d
        · rw [e, z]; exact dx _ (by omega))
    have hx := line_small hgx c1 c2 c3
    have hX2 : X ≤ 1250 := by
      obtain ⟨p, hp, e⟩ := hXe
      rw [e]
      exact hx p hp
    intro i
    by_cases hi : i < 21
    · by_cases n : i % 7 < 4
      · obtain ⟨f, -, -, f3⟩ := hr i ⟨hi, n⟩
        omega
      · have e : i = 7 * (i / 7) + 4 + (i % 7 - 4) := by omega
        have := hx (i / 7) (by omega)
        rcases lg_kind hl (show i / 7 < 3 by omega) (show i % 7 - 4 < 3 by omega) with z | z
        · rw [e, z]; omega
        · rw [e, z]; omega
    · rw [h.1.2.2 i (by omega)]; omega
  · have z4 : ∀ p k, p < 3 → k < 3 → v (7 * p + 4 + k) = 0 := fun p k hp hk => by
      rcases lg_kind hl hp hk with z | z
      · exact z
      · by_cases w : xq v p = 0
        · omega
        · exact absurd ⟨p, hp, w⟩ hq
    obtain ⟨u0, h1, h2⟩ := h.1.2.1
    have hS : Sol 21 E (fun i => if v i = v u0 then 1 else 0) := by
      refine ⟨fun e he => ?_, ⟨u0, h1, ?_⟩, fun i hi => ?_⟩
      · obtain ⟨a, b, p, q, k, l, y1, y2, y3, y4, y5, y6, hev⟩ := hE e he
        have hv := hev v
        rw [h.1.1 e he, z4 p k y3 y5, z4 q l y4 y6] at hv
        have z0 : ¬ 0 = v u0 := fun w => h2 w.symm
        have : v a = v b := by omega
        rw [hev]
        simp only [z4 p k y3 y5, z4 q l y4 y6, if_neg z0, this]
        omega
      · try dsimp only
        rw [if_pos rfl]; decide
      · try dsimp only
        rw [h.1.2.2 i hi, if_neg (fun w => h2 w.symm)]
    obtain ⟨i0, i1, i2, i3⟩ := h.one hL hS (fun i z => by
      show (if v i = v u0 then 1 else 0) = 0
      exact if_neg (fun w => h2 (by rw [← w]; exact z)))
    try dsimp only at i1 i3
    have c0 : v i0 = v u0 := by
      by_cases c : v i0 = v u0
      · exact c
      · rw [if_neg c] at i1; exact absurd rfl i1
    rw [if_pos c0] at i3
    have dv : v i0 ∣ gcdN v 21 := gcdN_dv 21 (fun i _ => ⟨_, by rw [← i3 i, Nat.one_mul]⟩)
    rw [hg] at dv
    have e1 := Nat.dvd_one.mp dv
    intro i
    have := i3 i
    rw [e1, Nat.one_mul, Nat.one_mul] at this
    rw [this]
    split <;> omega
