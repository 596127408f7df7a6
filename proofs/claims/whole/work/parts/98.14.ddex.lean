/-! the search of both programs gives just the least supports -/
theorem cnt_z {p : Nat → Bool} : ∀ n, cnt p n = 0 ↔ ∀ i, i < n → ¬ p i = true
  | 0 => ⟨fun _ i h => by omega, fun _ => rfl⟩
  | n + 1 => by
    show cnt p n + (if p n = true then 1 else 0) = 0 ↔ _
    have ih := cnt_z (p := p) n
    constructor
    · intro h i hi
      by_cases c : p n = true
      · rw [if_pos c] at h; omega
      · by_cases e : i = n
        · rw [e]; exact c
        · exact ih.mp (by omega) i (by omega)
    · intro h
      rw [if_neg (h n (by omega)), ih.mpr (fun i hi => h i (by omega))]
theorem anyN_z {p : Nat → Bool} {n : Nat} : anyN p n = 0 ↔ ∀ i, i < n → ¬ p i = true := by
  rw [← cnt_z]
  unfold anyN
  split
  · exact ⟨fun _ => by assumption, fun _ => rfl⟩
  · exact ⟨fun h => by omega, fun h => by omega⟩
/-- one kind of fours in each piece -/
def lgP (P : Nat) (v : Vc) : Prop := ∀ p, p < P → ¬ ((v (7 * p + 4) ≠ 0 ∧ v (7 * p + 5) ≠ 0) ∨ (v (7 * p + 4) ≠ 0 ∧ v (7 * p + 6) ≠ 0) ∨ (v (7 * p + 5) ≠ 0 ∧ v (7 * p + 6) ≠ 0))
theorem lgP_dn {P : Nat} (u v : Vc) (h : sbv u v) (g : lgP P v) : lgP P u := fun p hp q => g p hp (by
  have a := h (7 * p + 4)
  have b := h (7 * p + 5)
  have c := h (7 * p + 6)
  rcases q with q | q | q
  · exact Or.inl ⟨fun z => q.1 (a z), fun z => q.2 (b z)⟩
  · exact Or.inr (Or.inl ⟨fun z => q.1 (a z), fun z => q.2 (c z)⟩)
  · exact Or.inr (Or.inr ⟨fun z => q.1 (b z), fun z => q.2 (c z)⟩))
abbrev QF := Nat × Nat × Nat × Nat
def qF (q : QF) : Vc → Int := exV q.1 q.2.1 q.2.2.1 q.2.2.2
theorem qF_lin (q : QF) : Lin (qF q) := fun x y u v => by
  unfold qF exV
  simp only [Int.natCast_add, Int.natCast_mul, Int.mul_add, Int.mul_sub]
  omega
theorem mixW_z {f : Vc → Int} {p q : Vc} (hp : 0 < f p) (hq : f q < 0) (i : Nat) : mixW f p q i = 0 ↔ p i = 0 ∧ q i = 0 := ⟨fun z => ⟨mixW_l hq i z, mixW_r hp i z⟩, fun z => by unfold mixW; rw [z.1, z.2, Nat.mul_zero, Nat.mul_zero]⟩
theorem okR_sb {P n : Nat} {R : Nat → Vc} (hP : P ≤ 3) (hz : ∀ r, r < n → ∀ i, 7 * P ≤ i → R r i = 0) {f : Vc → Int} {a b : Nat} (ha : a < n) (hb : b < n) (hp : 0 < f (R a)) (hq : f (R b) < 0) : okR R P n a b = true ↔ lgP P (mixW f (R a) (R b)) ∧ ∀ r, r < n → sbv (R r) (mixW f (R a) (R b)) → r = a ∨ r = b := by
  have hbit : ∀ i, (sOf (R a) (7 * P) ||| sOf (R b) (7 * P)).toBitVec.getLsbD i = (decide (i < 7 * P) && decide (mixW f (R a) (R b) i ≠ 0)) := fun i => by
    rw [Int32.toBitVec_or, BitVec.getLsbD_or, sOf_bit _ _ (by omega), sOf_bit _ _ (by omega)]
    have := mixW_z hp hq i
    by_cases c : i < 7 * P
    · by_cases d : R a i = 0
      · by_cases e : R b i = 0
        · have : mixW f (R a) (R b) i = 0 := this.mpr ⟨d, e⟩
          simp [c, d, e, this]
        · have : ¬ mixW f (R a) (R b) i = 0 := fun z => e (this.mp z).2
          simp [c, d, e, this]
      · have : ¬ mixW f (R a) (R b) i = 0 := fun z => d (this.mp z).1
        simp [c, d, this]
    · simp [c]
  unfold okR
  rw [Bool.and_eq_true, decide_eq_true_iff, decide_eq_true_iff, anyN_z, anyN_z]
  constructor
  · rintro ⟨h1, h2⟩
    refine ⟨fun p hpp q => h1 p hpp ((twoK_iff _ (by omega)).mpr ?_), fun r hr hs => ?_⟩
    · rw [hbit, hbit, hbit]
      have e4 : 7 * p + 4 < 7 * P := by omega
      have e5 : 7 * p + 5 < 7 * P := by omega
      have e6 : 7 * p + 6 < 7 * P := by omega
      simpa [e4, e5, e6] using q
    · have := h2 r hr
      by_cases c : r = a
      · exact Or.inl c
      · by_cases d : r = b
        · exact Or.inr d
        · exact absurd (decide_eq_true ⟨c, d, (sOf_in (by omega) hbit).mpr (fun i _ z => hs i z)⟩) this
  · rintro ⟨h1, h2⟩
    refine ⟨fun p hpp q => h1 p hpp ?_, fun r hr q => ?_⟩
    · have := (twoK_iff _ (show p < 3 by omega)).mp q
      rw [hbit, hbit, hbit] at this
      have e4 : 7 * p + 4 < 7 * P := by omega
      have e5 : 7 * p + 5 < 7 * P := by omega
      have e6 : 7 * p + 6 < 7 * P := by omega
      simpa [e4, e5, e6] using this
    · have q := of_decide_eq_true q
      have := (sOf_in (u := R r) (by omega) hbit).mp q.2.2
      rcases h2 r hr (fun i z => by
        by_cases c : i < 7 * P
        · exact this i c z
        · exact hz r hr i (by omega)) with e | e
      · exact q.1 e
      · exact q.2.1 e
theorem evB_iff {e : Nat → Int} {ok : Nat → Nat → Bool} {a : Nat} {q : Nat × Nat} : ∀ b, q ∈ evB e ok a b ↔ q.1 = a ∧ q.2 < b ∧ e q.2 < 0 ∧ ok a q.2 = true
  | 0 => ⟨fun h => (by cases h), fun h => by omega⟩
  | b + 1 => by
    show q ∈ evB e ok a b ++ (if e b < 0 ∧ ok a b = true then [(a, b)] else []) ↔ _
    rw [List.mem_append, evB_iff b]
    constructor
    · rintro (h | h)
      · exact ⟨h.1, by omega, h.2.2⟩
      · by_cases c : e b < 0 ∧ ok a b = true
        · rw [if_pos c, List.mem_singleton] at h
          subst h
          exact ⟨rfl, by show b < b + 1; omega, c.1, c.2⟩
        · rw [if_neg c] at h; cases h
    · rintro ⟨h1, h2, h3, h4⟩
      by_cases c : q.2 = b
      · refine Or.inr ?_
        rw [c] at h3 h4
        rw [if_pos ⟨h3, h4⟩, List.mem_singleton]
        exact Prod.ext h1 c
      · exact Or.inl ⟨h1, by omega, h3, h4⟩
theorem evA_iff {e : Nat → Int} {ok : Nat → Nat → Bool} {n : Nat} {q : Nat × Nat} : ∀ m, q ∈ evA e ok n m ↔ (q.1 < m ∧ q.2 = q.1 ∧ e q.1 = 0) ∨ (q.1 < m ∧ 0 < e q.1 ∧ q.2 < n ∧ e q.2 < 0 ∧ ok q.1 q.2 = true)
  | 0 => ⟨fun h => (by cases h), fun h => by omega⟩
  | m + 1 => by
    show q ∈ evA e ok n m ++ (if e m = 0 then [(m, m)] else if 0 < e m then evB e ok m n else []) ↔ _
    rw [List.mem_append, evA_iff m]
    constructor
    · rintro ((h | h) | h)
      · exact Or.inl ⟨by omega, h.2⟩
      · exact Or.inr ⟨by omega, h.2⟩
      · by_cases c : e m = 0
        · rw [if_pos c, List.mem_singleton] at h
          subst h
          exact Or.inl ⟨by show m < m + 1; omega, rfl, c⟩
        · rw [if_neg c] at h
          by_cases d : 0 < e m
          · rw [if_pos d] at h
            obtain ⟨h1, h2, h3, h4⟩ := (evB_iff n).mp h
            exact Or.inr ⟨by omega, by rw [h1]; exact d, h2, h3, by rw [h1]; exact h4⟩
          · rw [if_neg d] at h; cases h
    · rintro (⟨h1, h2, h3⟩ | ⟨h1, h2, h3, h4, h5⟩)
      · by_cases c : q.1 = m
        · refine Or.inr ?_
          rw [c] at h3
          rw [if_pos h3, List.mem_singleton]
          exact Prod.ext c (h2.trans c)
        · exact Or.inl (Or.inl ⟨by omega, h2, h3⟩)
      · by_cases c : q.1 = m
        · refine Or.inr ?_
          rw [c] at h2 h5
          rw [if_neg (by omega), if_pos h2]
          exact (evB_iff n).mpr ⟨c, h3, h4, h5⟩
        · exact Or.inl (Or.inr ⟨by omega, h2, h3, h4, h5⟩)
theorem evB_nd {e : Nat → Int} {ok : Nat → Nat → Bool} {a : Nat} : ∀ b, (evB e ok a b).Nodup
  | 0 => List.nodup_nil
  | b + 1 => by
    show (evB e ok a b ++ (if e b < 0 ∧ ok a b = true then [(a, b)] else [])).Nodup
    refine List.nodup_append.mpr ⟨evB_nd b, ?_, fun x hx y hy hxy => ?_⟩
    · split
      · exact List.nodup_cons.mpr ⟨List.not_mem_nil, List.nodup_nil⟩
      · exact List.nodup_nil
    · have h1 := (evB_iff b).mp hx
      by_cases c : e b < 0 ∧ ok a b = true
      · rw [if_pos c, List.mem_singleton] at hy
        subst hy hxy
        have := h1.2.1
        exact absurd this (Nat.lt_irrefl _)
      · rw [if_neg c] at hy; cases hy
theorem evA_nd {e : Nat → Int} {ok : Nat → Nat → Bool} {n : Nat} : ∀ m, (evA e ok n m).Nodup
  | 0 => List.nodup_nil
  | m + 1 => by
    show (evA e ok n m ++ (if e m = 0 then [(m, m)] else if 0 < e m then evB e ok m n else [])).Nodup
    refine List.nodup_append.mpr ⟨evA_nd m, ?_, fun x hx y hy hxy => ?_⟩
    · split
      · exact List.nodup_cons.mpr ⟨List.not_mem_nil, List.nodup_nil⟩
      · split
        · exact evB_nd n
        · exact List.nodup_nil
    · have h1 : x.1 < m := by
        rcases (evA_iff m).mp hx with h | h
        · exact h.1
        · exact h.1
      have h2 : y.1 = m := by
        by_cases c : e m = 0
        · rw [if_pos c, List.mem_singleton] at hy
          rw [hy]
        · rw [if_neg c] at hy
          by_cases d : 0 < e m
          · rw [if_pos d] at hy
            exact ((evB_iff n).mp hy).1
          · rw [if_neg d] at hy; cases hy
      rw [hxy] at h1
      omega
theorem dd_step {P n : Nat} {R : Nat → Vc} (hP : P ≤ 3) {E : List (Vc → Int)} (hE : ∀ e ∈ E, Lin e) (h : ExF (7 * P) (lgP P) E n R) (q : QF) : ExF (7 * P) (lgP P) (qF q :: E) (meetL R P n (fun r => qF q (R r))).length (meetR R P n (fun r => qF q (R r))) := by
  have hz : ∀ r, r < n → ∀ i, 7 * P ≤ i → R r i = 0 := fun r hr => (h.1 r hr).1.2.2
  refine h.step lgP_dn hE (qF_lin q) (meetL R P n (fun r => qF q (R r))) (fun x hx => ?_) (fun a ha e0 => ?_) (fun a b ha hb hp hq hl ho => ?_) (evA_nd n) (fun j x hx => ?_)
  · rcases (evA_iff n).mp hx with h1 | ⟨h1, h2, h3, h4, h5⟩
    · exact Or.inl h1
    · obtain ⟨g1, g2⟩ := (okR_sb hP hz h1 h3 h2 h4).mp h5
      exact Or.inr ⟨h1, h3, h2, h4, g1, g2⟩
  · exact (evA_iff n).mpr (Or.inl ⟨ha, rfl, e0⟩)
  · exact (evA_iff n).mpr (Or.inr ⟨ha, hp, hb, hq, (okR_sb hP hz ha hb hp hq).mpr ⟨hl, ho⟩⟩)
  · have hj := getD_some hx
    have hm := List.mem_of_getElem? hx
    have hrow : meetR R P n (fun r => qF q (R r)) j = evRow (7 * P) R (fun r => qF q (R r)) x := by
      unfold meetR
      rw [List.getD_eq_getElem?_getD, hx]
      rfl
    have hbase : ∀ i, evV R (fun r => qF q (R r)) x i = if qF q (R x.1) = 0 then R x.1 i else mixW (qF q) (R x.1) (R x.2) i := fun i => by
      unfold evV
      by_cases c : qF q (R x.1) = 0
      · rw [if_pos c, if_pos c]
        show 1 * R x.1 i + 0 * R x.1 i = _
        omega
      · rw [if_neg c, if_neg c]
        rfl
    have hx1 : x.1 < n := by
      rcases (evA_iff n).mp hm with g | g
      · exact g.1
      · exact g.1
    have hx2 : x.2 < n := by
      rcases (evA_iff n).mp hm with g | g
      · omega
      · exact g.2.2.1
    have hne : ∃ i, i < 7 * P ∧ evV R (fun r => qF q (R r)) x i ≠ 0 := by
      obtain ⟨i, i1, i2⟩ := (h.1 _ hx1).1.2.1
      refine ⟨i, i1, fun z => i2 ?_⟩
      rw [hbase] at z
      rcases (evA_iff n).mp hm with g | g
      · rw [if_pos g.2.2] at z; exact z
      · rw [if_neg (by have := g.2.1; omega)] at z
        exact mixW_l g.2.2.2.1 i z
    obtain ⟨i0, i1, i2⟩ := hne
    refine ⟨gcdN (evV R (fun r => qF q (R r)) x) (7 * P), Nat.pos_of_ne_zero (gcdN_ne i1 i2), fun i => ?_⟩
    rw [hrow, ← hbase]
    unfold evRow
    by_cases c : i < 7 * P
    · exact Nat.mul_div_cancel' (gcdN_dvd (7 * P) i c)
    · have : evV R (fun r => qF q (R r)) x i = 0 := by
        rw [hbase]
        split
        · exact hz _ hx1 i (by omega)
        · unfold mixW
          rw [hz _ hx1 i (by omega), hz _ hx2 i (by omega), Nat.mul_zero, Nat.mul_zero]
      rw [this, Nat.zero_div, Nat.mul_zero]
theorem dd_0 (P : Nat) : ExF (7 * P) (lgP P) [] (7 * P) unitR := by
  have hu : ∀ r i, unitR r i = 0 ↔ i ≠ r := fun r i => by
    unfold unitR
    by_cases c : i = r
    · rw [if_pos c]; exact ⟨fun h => by omega, fun h => absurd c h⟩
    · rw [if_neg c]; exact ⟨fun _ => c, fun _ => rfl⟩
  refine ⟨fun r hr => ⟨⟨fun e he => (by cases he), ⟨r, hr, fun z => (hu r r).mp z rfl⟩, fun i hi => (hu r i).mpr (by omega)⟩, fun p hp q => ?_, fun u hs hsu i z => ?_⟩, fun v hv => ?_, fun r s hr hs h => ?_⟩
  · rcases q with q | q | q
    · have a := q.1; have b := q.2
      rw [Ne, hu, Classical.not_not] at a b
      omega
    · have a := q.1; have b := q.2
      rw [Ne, hu, Classical.not_not] at a b
      omega
    · have a := q.1; have b := q.2
      rw [Ne, hu, Classical.not_not] at a b
      omega
  · obtain ⟨k, k1, k2⟩ := hs.2.1
    have : k = r := by
      by_cases c : k = r
      · exact c
      · exact absurd (hsu k ((hu r k).mpr c)) k2
    subst this
    exact (hu k i).mpr (fun e => k2 (by rw [← e]; exact z))
  · obtain ⟨k, k1, k2⟩ := hv.1.2.1
    exact ⟨k, k1, fun i z => (hu k i).mpr (fun e => k2 (by rw [← e]; exact z))⟩
  · by_cases c : r = s
    · exact c
    · exact absurd ((hu r r).mp (h r ((hu s r).mpr c))) (fun q => q rfl)
theorem dd_ex {P : Nat} (hP : P ≤ 3) : ∀ l : List QF, ExF (7 * P) (lgP P) (l.map qF).reverse (dd P l).1 (dd P l).2 := by
  intro l
  induction hl : l.length generalizing l with
  | zero =>
    rw [List.length_eq_zero_iff.mp hl]
    exact dd_0 P
  | succ k ih =>
    have hne : l ≠ [] := fun q => by rw [q] at hl; cases hl
    obtain ⟨l1, q, rfl⟩ : ∃ l1 q, l = l1 ++ [q] := ⟨l.dropLast, l.getLast hne, (List.dropLast_concat_getLast hne).symm⟩
    have hk : l1.length = k := by
      rw [List.length_append] at hl
      have : [q].length = 1 := rfl
      omega
    rw [dd_app, List.map_append, List.reverse_append]
    exact dd_step hP (fun e he => by
      obtain ⟨x, _, rfl⟩ := List.mem_map.mp (List.mem_reverse.mp he)
      exact qF_lin x) (ih l1 hk) q
