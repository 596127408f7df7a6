/-! holes: the property that both keep, its start and its end -/
section
variable {R C K : Nat} {T : Nat → MT} {lab : Nat → List Nat} {mu : Nat → Nat} {L0 : List Nat}
theorem GT.cg {d n : Nat} {A A' : MT} (hd : d ≤ R) (hd2 : d ≤ C) (h : GT R C K T lab mu L0 d n A) (g : ∀ i j, i < R → j < C → A' i j = A i j) : GT R C K T lab mu L0 d n A' := by
  obtain ⟨k, hk, hn, ⟨p, q, e, f, x⟩, z1, z2, hl⟩ := h
  refine ⟨k, hk, hn, ⟨p, q, e, f, x.cg (fun i j _ b _ c => g i j b c)⟩, fun i j a b n w => by rw [g i j a b]; exact z1 i j a b n w, fun i hi => by rw [g i i (by omega) (by omega)]; exact z2 i hi, ?_⟩
  rw [dgL_cg d (fun i hi => g i i (by omega) (by omega))]
  exact hl
theorem GT.piv {k d : Nat} {A : MT} {p q : Nat → Nat} {e f : Nat → Int} (h : EqvW A d R C (T k) p q e f) {r c : Nat} (hl : isLe A d R C r c) : mnE (T k) (p (swC d r d)) (q (swC d c d)) := by
  rw [swC_d, swC_d]
  exact h.mn hl
theorem GT.hc (hT : TabOK K T lab mu) : HC R C (GT R C K T lab mu L0) := by
  intro d n A hG hd hd2
  obtain ⟨k, hk, hn, ⟨p, q, e, f, h⟩, z1, z2, hl⟩ := hG
  subst hn
  refine ⟨fun i a1 a2 j a3 a4 => sm_1000 (h.sm (hT k hk).1 i a1 a2 j a3 a4), fun r c hle B hB => ?_⟩
  have x := h.sw hle.1 hle.2.1
  obtain ⟨zs, ys⟩ := Zr.sw ⟨z1, z2⟩ hle.1 hle.2.1
  have fin : ∀ (B : MT) (e' : Nat → Int), EqvW B d R C (T k) (fun i => p (swC d r i)) (fun j => q (swC d c j)) e' (fun j => f (swC d c j)) → Zr B d R C → (∀ i, i < d → B i i = A i i) → ((∀ i, i < R → sm (B i d)) ∧ (∀ j, j < C → sm (B d j))) ∧ ((∃ i, d < i ∧ i < R ∧ rdR B d R i d ≠ 0) → ∃ n', n' < mu k ∧ GT R C K T lab mu L0 d n' (rdR B d R)) ∧ ((∀ i, d < i → i < R → rdR B d R i d = 0) → ∀ D, D = rcM (rdR B d R) d C → smB D d R C ∧ ((∃ j, d < j ∧ j < C ∧ D d j ≠ 0) → ∃ n', n' < mu k ∧ GT R C K T lab mu L0 d n' D) ∧ ((∀ j, d < j → j < C → D d j = 0) → (∀ r c, d < r → r < R → d < c → c < C → ¬ dvP D d r c → ∃ n', n' < mu k ∧ GT R C K T lab mu L0 d n' (adR D d r)) ∧ ((∀ r, d < r → r < R → ∀ c, d < c → c < C → dvP D d r c) → ∃ n', n' < 100000 ∧ GT R C K T lab mu L0 (d + 1) n' D))) := by
    intro B e' xB zB yB
    obtain ⟨c1, c2, c3, c4⟩ := GT.core (L0 := L0) hT hk xB hd hd2 (GT.piv h hle) zB (by rw [dgL_cg d yB]; exact hl)
    exact ⟨c1, fun w => (c3 w).1, fun w D hD => by subst hD; exact ⟨c2, c4 w⟩⟩
  subst hB
  unfold brM
  by_cases w : swM A d r c d d < 0
  · rw [if_pos w]
    exact fin _ _ x.ng (Zr.ng zs).1 (fun i hi => ((Zr.ng zs).2 i hi).trans (ys i hi))
  · rw [if_neg w]
    exact fin _ _ x zs ys
theorem GT.hr (hT : TabOK K T lab mu) : HR R C (GT R C K T lab mu L0) := by
  intro d n A hG hd hd2
  obtain ⟨k, hk, hn, ⟨p, q, e, f, h⟩, z1, z2, hl⟩ := hG
  subst hn
  refine ⟨fun i a1 a2 j a3 a4 => sm_1000 (h.sm (hT k hk).1 i a1 a2 j a3 a4), fun r c hle B hB => ?_⟩
  have x := h.sw hle.1 hle.2.1
  obtain ⟨zs, ys⟩ := Zr.sw ⟨z1, z2⟩ hle.1 hle.2.1
  subst hB
  obtain ⟨c1, c2, c3, c4⟩ := GT.core (L0 := L0) hT hk x hd hd2 (GT.piv h hle) zs (by rw [dgL_cg d ys]; exact hl)
  refine ⟨c1, fun D hD => ?_⟩
  subst hD
  refine ⟨c2, fun w => ?_, fun w1 w2 => ?_⟩
  · by_cases g : ∃ i, d < i ∧ i < R ∧ rdR (swM A d r c) d R i d ≠ 0
    · exact (c3 g).2
    · exact (c4 (fun i i1 i2 => by
        by_cases z : rdR (swM A d r c) d R i d = 0
        · exact z
        · exact absurd ⟨i, i1, i2, z⟩ g)).1 (w.resolve_left g)
  · obtain ⟨u1, u2⟩ := (c4 w1).2 w2
    refine ⟨fun r' c' a1 a2 a3 a4 hn => ?_, fun ha => ?_⟩
    · obtain ⟨n', n1, n2⟩ := u1 r' c' a1 a2 a3 a4 hn
      refine ⟨n', n1, n2.cg (by omega) (by omega) (fun i j b1 b2 => ?_)⟩
      have zz := (zs.r1.1).r2.1
      unfold adS adR
      by_cases ci : i = d
      · by_cases cj : d ≤ j
        · rw [if_pos ⟨ci, cj, b2⟩, if_pos ci]
        · rw [if_neg (fun w => cj w.2.1), if_pos ci, ci, zz.1 d j hd b2 (by omega) (by omega), zz.1 r' j a2 b2 (by omega) (by omega)]; rfl
      · rw [if_neg (fun w => ci w.1), if_neg ci]
    · obtain ⟨n', -, n2⟩ := u2 ha
      exact ⟨n', n2⟩
/-- at the end the diagonal is the label -/
theorem GT.last (hT : TabOK K T lab mu) {rk n : Nat} {B : MT} (h : GT R C K T lab mu L0 rk n B) (hf : rk = min R C ∨ ∀ i j, rk ≤ i → i < R → rk ≤ j → j < C → B i j = 0) : dgL B rk = L0 := by
  obtain ⟨k, hk, -, ⟨p, q, e, f, x⟩, -, -, hl⟩ := h
  have z : ∀ i j, T k i j = 0 := fun i j => by
    by_cases c : T k i j = 0
    · exact c
    · exfalso
      obtain ⟨⟨i', i1, i2, i3⟩, ⟨j', j1, j2, j3⟩⟩ := x.2.2.2.2.2 i j c
      rcases hf with w | w
      · omega
      · have := w i' j' i1 i2 j1 j2
        rw [x.2.2.2.2.1 i' j' i1 i2 j1 j2, i3, j3] at this
        exact Int.mul_ne_zero (Int.mul_ne_zero (x.1 _).ne (x.2.1 _).ne) c this
  rw [(hT k hk).2.2.1 z, List.append_nil] at hl
  exact hl
theorem GT.sm {rk n : Nat} {B : MT} (h : GT R C K T lab mu L0 rk n B) : ∀ d, d < rk → sm (B d d) := fun d hd => by
  obtain ⟨k, -, -, -, -, z2, -⟩ := h
  exact sm_1000 (z2 d hd)
/-- the start -/
theorem GT.start {k : Nat} (hk : k < K) {A : MT} (h : ∃ p q e f, EqvW A 0 R C (T k) p q e f) : GT R C K T lab mu (lab k) 0 (mu k) A := ⟨k, hk, rfl, h, fun i j _ _ _ w => by omega, fun i hi => by omega, rfl⟩
theorem dgL_len (A : MT) : ∀ d, (dgL A d).length = d
  | 0 => rfl
  | d + 1 => by
    show (dgL A d ++ [(A d d).natAbs]).length = d + 1
    rw [List.length_append, dgL_len A d]
    rfl
theorem dgL_at (A : MT) : ∀ d i, i < d → (dgL A d)[i]? = some (A i i).natAbs
  | 0, i, h => by omega
  | d + 1, i, h => by
    show (dgL A d ++ [(A d d).natAbs])[i]? = _
    by_cases c : i = d
    · subst c
      rw [List.getElem?_append_right (by rw [dgL_len]; exact Nat.le_refl _), dgL_len, Nat.sub_self]
      rfl
    · rw [List.getElem?_append_left (by rw [dgL_len]; omega)]
      exact dgL_at A d i (by omega)
/-- two ends have as many numbers, and the same -/
theorem GT.same (hT : TabOK K T lab mu) {r1 n1 r2 n2 : Nat} {B1 B2 : MT} (h1 : GT R C K T lab mu L0 r1 n1 B1) (f1 : r1 = min R C ∨ ∀ i j, r1 ≤ i → i < R → r1 ≤ j → j < C → B1 i j = 0) (h2 : GT R C K T lab mu L0 r2 n2 B2) (f2 : r2 = min R C ∨ ∀ i j, r2 ≤ i → i < R → r2 ≤ j → j < C → B2 i j = 0) : r1 = r2 ∧ ∀ i, i < r1 → (B1 i i).natAbs = (B2 i i).natAbs := by
  have e1 := h1.last hT f1
  have e2 := h2.last hT f2
  have e : dgL B1 r1 = dgL B2 r2 := e1.trans e2.symm
  have hr : r1 = r2 := by rw [← dgL_len B1 r1, e, dgL_len]
  refine ⟨hr, fun i hi => ?_⟩
  have a := dgL_at B1 r1 i hi
  rw [e, dgL_at B2 r2 i (by omega)] at a
  exact (Option.some.inj a).symm
end
