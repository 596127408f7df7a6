/-! holes: both reductions keep to the table -/
/-- rows and columns before d are done -/
def Zr (A : MT) (d R C : Nat) : Prop := (∀ i j, i < R → j < C → i ≠ j → (i < d ∨ j < d) → A i j = 0) ∧ ∀ i, i < d → (A i i).natAbs ≤ 1000
theorem Zr.r1 {B : MT} {d R C : Nat} (h : Zr B d R C) : Zr (rdR B d R) d R C ∧ ∀ i, i < d → rdR B d R i i = B i i := by
  have lo : ∀ i j, (i < d ∨ j < d) → rdR B d R i j = B i j := fun i j w => if_neg (by omega)
  exact ⟨⟨fun i j a b n w => by rw [lo i j w]; exact h.1 i j a b n w, fun i hi => by rw [lo i i (Or.inl hi)]; exact h.2 i hi⟩, fun i hi => lo i i (Or.inl hi)⟩
theorem Zr.r2 {B : MT} {d R C : Nat} (h : Zr B d R C) : Zr (rcM B d C) d R C ∧ ∀ i, i < d → rcM B d C i i = B i i := by
  have lo : ∀ i j, (i < d ∨ j < d) → rcM B d C i j = B i j := fun i j w => if_neg (by omega)
  exact ⟨⟨fun i j a b n w => by rw [lo i j w]; exact h.1 i j a b n w, fun i hi => by rw [lo i i (Or.inl hi)]; exact h.2 i hi⟩, fun i hi => lo i i (Or.inl hi)⟩
theorem Zr.sw {A : MT} {d R C r c : Nat} (h : Zr A d R C) (hr : d ≤ r ∧ r < R) (hc : d ≤ c ∧ c < C) : Zr (swM A d r c) d R C ∧ ∀ i, i < d → swM A d r c i i = A i i := by
  have lo : ∀ {a b i : Nat}, i < a → a ≤ b → swC a b i = i := fun {a b i} h g => by
    show (if i = b then a else if i = a then b else i) = i
    rw [if_neg (by omega), if_neg (by omega)]
  have dg : ∀ i, i < d → swM A d r c i i = A i i := fun i hi => by unfold swM; rw [lo hi hr.1, lo hi hc.1]
  refine ⟨⟨fun i j a b n w => ?_, fun i hi => by rw [dg i hi]; exact h.2 i hi⟩, dg⟩
  unfold swM
  by_cases ci : i < d
  · rw [lo ci hr.1]
    by_cases cj : j < d
    · rw [lo cj hc.1]; exact h.1 i j a b n (Or.inl ci)
    · have := swC_in hc (show d ≤ j by omega) b
      exact h.1 i _ a this.2 (by omega) (Or.inl ci)
  · have cj : j < d := by omega
    rw [lo cj hc.1]
    have := swC_in hr (show d ≤ i by omega) a
    exact h.1 _ j this.2 b (by omega) (Or.inr cj)
theorem Zr.ng {A : MT} {d R C : Nat} (h : Zr A d R C) : Zr (ngM A d C) d R C ∧ ∀ i, i < d → ngM A d C i i = A i i := by
  have lo : ∀ i j, (i < d ∨ j < d) → ngM A d C i j = A i j := fun i j w => if_neg (by omega)
  exact ⟨⟨fun i j a b n w => by rw [lo i j w]; exact h.1 i j a b n w, fun i hi => by rw [lo i i (Or.inl hi)]; exact h.2 i hi⟩, fun i hi => lo i i (Or.inl hi)⟩
section
variable {R C K : Nat} {T : Nat → MT} {lab : Nat → List Nat} {mu : Nat → Nat} {L0 : List Nat}
theorem GT.mk {d : Nat} {A : MT} {u : MT} {m : Nat} {l : List Nat} {p q : Nat → Nat} {e f : Nat → Int} (h : EqvW A d R C u p q e f) (hz : Zr A d R C) (hl : dgL A d ++ l = L0) (hn : Nxt K T lab mu m u l) : ∃ n', n' < m ∧ GT R C K T lab mu L0 d n' A := by
  obtain ⟨k, k1, k2, k3, k4⟩ := hn
  exact ⟨mu k, k4, k, k1, rfl, h.sim k2, hz.1, hz.2, by rw [k3]; exact hl⟩
/-- all that one step can do -/
theorem GT.core (hT : TabOK K T lab mu) {k d : Nat} (hk : k < K) {B : MT} {p q : Nat → Nat} {e f : Nat → Int} (h : EqvW B d R C (T k) p q e f) (hd : d < R) (hd2 : d < C) (hm : mnE (T k) (p d) (q d)) (hz : Zr B d R C) (hl : dgL B d ++ lab k = L0) :
    ((∀ i, i < R → sm (B i d)) ∧ ∀ j, j < C → sm (B d j)) ∧ smB (rcM (rdR B d R) d C) d R C ∧
    ((∃ i, d < i ∧ i < R ∧ rdR B d R i d ≠ 0) → (∃ n', n' < mu k ∧ GT R C K T lab mu L0 d n' (rdR B d R)) ∧ ∃ n', n' < mu k ∧ GT R C K T lab mu L0 d n' (rcM (rdR B d R) d C)) ∧
    ((∀ i, d < i → i < R → rdR B d R i d = 0) →
      ((∃ j, d < j ∧ j < C ∧ rcM (rdR B d R) d C d j ≠ 0) → ∃ n', n' < mu k ∧ GT R C K T lab mu L0 d n' (rcM (rdR B d R) d C)) ∧
      ((∀ j, d < j → j < C → rcM (rdR B d R) d C d j = 0) →
        (∀ r c, d < r → r < R → d < c → c < C → ¬ dvP (rcM (rdR B d R) d C) d r c → ∃ n', n' < mu k ∧ GT R C K T lab mu L0 d n' (adR (rcM (rdR B d R) d C) d r)) ∧
        ((∀ r, d < r → r < R → ∀ c, d < c → c < C → dvP (rcM (rdR B d R) d C) d r c) → ∃ n', n' < 100000 ∧ GT R C K T lab mu L0 (d + 1) n' (rcM (rdR B d R) d C)))) := by
  obtain ⟨t1, t2, t3, t4⟩ := hT k hk
  obtain ⟨w1, w2⟩ := t4 (p d) (q d) hm
  have x1 := h.r1 hd hd2
  have x2 := x1.r2 hd hd2
  obtain ⟨z1, y1⟩ := hz.r1
  obtain ⟨z2, y2⟩ := z1.r2
  have l1 : dgL (rdR B d R) d ++ lab k = L0 := by rw [dgL_cg d y1]; exact hl
  have l2 : dgL (rcM (rdR B d R) d C) d ++ lab k = L0 := by rw [dgL_cg d y2]; exact l1
  have bb := h.sm t1
  have rowsT : (∀ i, d < i → i < R → rdR B d R i d = 0) → ∀ i, i ≠ p d → st1 (T k) (p d) (q d) i (q d) = 0 := fun hr i hi => by
    by_cases c : st1 (T k) (p d) (q d) i (q d) = 0
    · exact c
    · exfalso
      obtain ⟨⟨i', i1, i2, i3⟩, -⟩ := x1.2.2.2.2.2 _ _ c
      have n : i' ≠ d := fun w => hi (by rw [← i3, w])
      have := hr i' (by omega) i2
      rw [x1.2.2.2.2.1 i' d i1 i2 (Nat.le_refl _) hd2, i3] at this
      exact Int.mul_ne_zero (Int.mul_ne_zero (x1.1 _).ne (x1.2.1 _).ne) c this
  have colsT : (∀ j, d < j → j < C → rcM (rdR B d R) d C d j = 0) → ∀ j, j ≠ q d → st2 (st1 (T k) (p d) (q d)) (p d) (q d) (p d) j = 0 := fun hr j hj => by
    by_cases c : st2 (st1 (T k) (p d) (q d)) (p d) (q d) (p d) j = 0
    · exact c
    · exfalso
      obtain ⟨-, ⟨j', j1, j2, j3⟩⟩ := x2.2.2.2.2.2 _ _ c
      have n : j' ≠ d := fun w => hj (by rw [← j3, w])
      have := hr j' (by omega) j2
      rw [x2.2.2.2.2.1 d j' (Nat.le_refl _) hd j1 j2, j3] at this
      exact Int.mul_ne_zero (Int.mul_ne_zero (x2.1 _).ne (x2.2.1 _).ne) c this
  have unR : (∃ i, d < i ∧ i < R ∧ rdR B d R i d ≠ 0) → ∃ i, i ≠ p d ∧ st1 (T k) (p d) (q d) i (q d) ≠ 0 := fun ⟨i, i1, i2, i3⟩ => by
    refine ⟨p i, fun w => ?_, fun w => i3 ?_⟩
    · have := h.2.2.1 i d (by omega) i2 (Nat.le_refl _) hd w
      omega
    · rw [x1.2.2.2.2.1 i d (by omega) i2 (Nat.le_refl _) hd2, w, Int.mul_zero]
  have unC : (∃ j, d < j ∧ j < C ∧ rcM (rdR B d R) d C d j ≠ 0) → ∃ j, j ≠ q d ∧ st2 (st1 (T k) (p d) (q d)) (p d) (q d) (p d) j ≠ 0 := fun ⟨j, j1, j2, j3⟩ => by
    refine ⟨q j, fun w => ?_, fun w => j3 ?_⟩
    · have := h.2.2.2.1 j d (by omega) j2 (Nat.le_refl _) hd2 w
      omega
    · rw [x2.2.2.2.2.1 d j (Nat.le_refl _) hd (by omega) j2, w, Int.mul_zero]
  have bW : ∀ i j, (st2 (st1 (T k) (p d) (q d)) (p d) (q d) i j).natAbs ≤ 1000 := by
    have nb : ∀ {m u l}, Nxt K T lab mu m u l → ∀ i j, (u i j).natAbs ≤ 1000 := fun {m u l} hn => by
      obtain ⟨k', k1, k2, -, -⟩ := hn
      exact k2.bd (hT k' k1).1
    have pv : st2 (st1 (T k) (p d) (q d)) (p d) (q d) (p d) (q d) = T k (p d) (q d) := by
      unfold st2 st1
      rw [if_pos rfl, if_pos rfl]
    have cy : (∀ i, i ≠ p d → st1 (T k) (p d) (q d) i (q d) = 0) → ∀ i, i ≠ p d → st2 (st1 (T k) (p d) (q d)) (p d) (q d) i (q d) = 0 := fun hr i hi => by
      show (if q d = q d then st1 (T k) (p d) (q d) i (q d) else _) = 0
      rw [if_pos rfl]
      exact hr i hi
    by_cases a : ∃ i, i ≠ p d ∧ st1 (T k) (p d) (q d) i (q d) ≠ 0
    · exact nb (w1 a).2
    · have a' : ∀ i, i ≠ p d → st1 (T k) (p d) (q d) i (q d) = 0 := fun i hi => by
        by_cases c : st1 (T k) (p d) (q d) i (q d) = 0
        · exact c
        · exact absurd ⟨i, hi, c⟩ a
      obtain ⟨v1, v2⟩ := w2 a'
      by_cases b : ∃ j, j ≠ q d ∧ st2 (st1 (T k) (p d) (q d)) (p d) (q d) (p d) j ≠ 0
      · exact nb (v1 b)
      · have b' : ∀ j, j ≠ q d → st2 (st1 (T k) (p d) (q d)) (p d) (q d) (p d) j = 0 := fun j hj => by
          by_cases c : st2 (st1 (T k) (p d) (q d)) (p d) (q d) (p d) j = 0
          · exact c
          · exact absurd ⟨j, hj, c⟩ b
        obtain ⟨u1, u2⟩ := v2 b'
        have rest : (∀ i j, i ≠ p d → j ≠ q d → (st2 (st1 (T k) (p d) (q d)) (p d) (q d) i j).natAbs ≤ 1000) → ∀ i j, (st2 (st1 (T k) (p d) (q d)) (p d) (q d) i j).natAbs ≤ 1000 := fun hr i j => by
          by_cases ci : i = p d
          · by_cases cj : j = q d
            · rw [ci, cj, pv]; exact t1 _ _
            · rw [ci, b' j cj]; decide
          · by_cases cj : j = q d
            · rw [cj, cy a' i ci]; decide
            · exact hr i j ci cj
        by_cases c : ∀ r c, r ≠ p d → c ≠ q d → dvT (st2 (st1 (T k) (p d) (q d)) (p d) (q d)) (p d) (q d) r c
        · obtain ⟨k', k1, k2, -⟩ := u2 c
          refine rest (fun i j hi hj => ?_)
          have := k2.bd (hT k' k1).1 i j
          unfold fnT at this
          rwa [if_neg (fun w => w.elim hi hj)] at this
        · have : ∃ r c, r ≠ p d ∧ c ≠ q d ∧ ¬ dvT (st2 (st1 (T k) (p d) (q d)) (p d) (q d)) (p d) (q d) r c := by
            by_cases g : ∃ r c, r ≠ p d ∧ c ≠ q d ∧ ¬ dvT (st2 (st1 (T k) (p d) (q d)) (p d) (q d)) (p d) (q d) r c
            · exact g
            · exfalso
              apply c
              intro r c h1 h2
              by_cases g2 : dvT (st2 (st1 (T k) (p d) (q d)) (p d) (q d)) (p d) (q d) r c
              · exact g2
              · exact absurd ⟨r, c, h1, h2, g2⟩ g
          obtain ⟨r, c, r1, c1, n1⟩ := this
          have := nb (u1 r c 1 r1 c1 (Or.inl rfl) n1)
          refine rest (fun i j hi hj => ?_)
          have := this i j
          unfold adT at this
          rwa [if_neg hi] at this
  refine ⟨⟨fun i hi => ?_, fun j hj => ?_⟩, fun i a1 a2 j a3 a4 => sm_1000 (x2.sm bW i a1 a2 j a3 a4), fun hu => ⟨GT.mk x1 z1 l1 (w1 (unR hu)).1, GT.mk x2 z2 l2 (w1 (unR hu)).2⟩, fun hr => ?_⟩
  · by_cases c : i < d
    · rw [hz.1 i d hi hd2 (by omega) (Or.inl c)]; exact ⟨by omega, by omega⟩
    · exact sm_1000 (bb i (by omega) hi d (Nat.le_refl _) hd2)
  · by_cases c : j < d
    · rw [hz.1 d j hd hj (by omega) (Or.inr c)]; exact ⟨by omega, by omega⟩
    · exact sm_1000 (bb d (Nat.le_refl _) hd j (by omega) hj)
  · obtain ⟨v1, v2⟩ := w2 (rowsT hr)
    refine ⟨fun hu => GT.mk x2 z2 l2 (v1 (unC hu)), fun hc => ?_⟩
    obtain ⟨u1, u2⟩ := v2 (colsT hc)
    have dv : ∀ r c, d ≤ r → r < R → d ≤ c → c < C → (dvP (rcM (rdR B d R) d C) d r c ↔ dvT (st2 (st1 (T k) (p d) (q d)) (p d) (q d)) (p d) (q d) (p r) (q c)) := fun r c a1 a2 a3 a4 => by
      unfold dvP dvT
      rw [x2.2.2.2.2.1 r c a1 a2 a3 a4, x2.2.2.2.2.1 d d (Nat.le_refl _) hd (Nat.le_refl _) hd2, ((x2.1 r).mul (x2.2.1 c)).td ((x2.1 d).mul (x2.2.1 d))]
      have s1 := ((x2.1 d).mul (x2.2.1 d)).sq
      have s2 := ((x2.1 r).mul (x2.2.1 c)).sq
      generalize st2 (st1 (T k) (p d) (q d)) (p d) (q d) (p r) (q c) = X
      generalize st2 (st1 (T k) (p d) (q d)) (p d) (q d) (p d) (q d) = Y
      generalize e r * f c = a at s2 ⊢
      generalize e d * f d = b at s1 ⊢
      generalize X.tdiv Y = Z
      constructor
      · intro w
        have : a * X = a * (Z * Y) := by rw [w]; grind
        have w2 := congrArg (fun z => a * z) this
        grind
      · intro w
        rw [w]
        grind
    refine ⟨fun r c a1 a2 a3 a4 hn => ?_, fun ha => ?_⟩
    · have y := x2.ad hd a1 a2
      have zz : Zr (adR (rcM (rdR B d R) d C) d r) d R C ∧ ∀ i, i < d → adR (rcM (rdR B d R) d C) d r i i = rcM (rdR B d R) d C i i := by
        have dg : ∀ i, i < d → adR (rcM (rdR B d R) d C) d r i i = rcM (rdR B d R) d C i i := fun i hi => if_neg (by omega)
        refine ⟨⟨fun i j b1 b2 n w => ?_, fun i hi => by rw [dg i hi]; exact z2.2 i hi⟩, dg⟩
        unfold adR
        by_cases ci : i = d
        · rw [if_pos ci, z2.1 d j hd b2 (by omega) (by omega), z2.1 r j a2 b2 (by omega) (by omega)]; rfl
        · rw [if_neg ci]; exact z2.1 i j b1 b2 n w
      refine GT.mk y zz.1 (by rw [dgL_cg d zz.2]; exact l2) (u1 (p r) (q c) (e d * e r) (fun w => ?_) (fun w => ?_) ((x2.1 d).mul (x2.1 r)) (fun w => hn ((dv r c (by omega) a2 (by omega) a4).mpr w)))
      · have := h.2.2.1 r d (by omega) a2 (Nat.le_refl _) hd w; omega
      · have := h.2.2.2.1 c d (by omega) a4 (Nat.le_refl _) hd2 w; omega
    · obtain ⟨k', k1, k2, k3⟩ := u2 (fun r c n1 n2 => by
        by_cases g : st2 (st1 (T k) (p d) (q d)) (p d) (q d) r c = 0
        · unfold dvT
          rw [g, Int.zero_tdiv, Int.zero_mul]
        · obtain ⟨⟨i, i1, i2, rfl⟩, ⟨j, j1, j2, rfl⟩⟩ := x2.2.2.2.2.2 r c g
          have m1 : i ≠ d := fun w => n1 (by rw [w])
          have m2 : j ≠ d := fun w => n2 (by rw [w])
          exact (dv i j i1 i2 j1 j2).mp (ha i (by omega) i2 j (by omega) j2))
      have pv : (rcM (rdR B d R) d C d d).natAbs = (T k (p d) (q d)).natAbs := by
        rw [x2.2.2.2.2.1 d d (Nat.le_refl _) hd (Nat.le_refl _) hd2, ((x2.1 d).mul (x2.2.1 d)).abs]
        unfold st2 st1
        rw [if_pos rfl, if_pos rfl]
      have colz : ∀ i, d < i → i < R → rcM (rdR B d R) d C i d = 0 := fun i i1 i2 => by
        rw [show rcM (rdR B d R) d C i d = rdR B d R i d from if_neg (by omega)]
        exact hr i i1 i2
      refine ⟨mu k', (hT k' k1).2.1, k', k1, rfl, (x2.fn hd hd2).sim k2, fun i j b1 b2 n w => ?_, fun i hi => ?_, ?_⟩
      · by_cases c : i < d ∨ j < d
        · exact z2.1 i j b1 b2 n c
        · by_cases ci : i = d
          · rw [ci]; exact hc j (by omega) b2
          · have cj : j = d := by omega
            rw [cj]; exact colz i (by omega) b1
      · by_cases c : i = d
        · rw [c, pv]; exact t1 _ _
        · exact z2.2 i (by omega)
      · show (dgL (rcM (rdR B d R) d C) d ++ [(rcM (rdR B d R) d C d d).natAbs]) ++ lab k' = L0
        rw [pv, List.append_assoc]
        show dgL (rcM (rdR B d R) d C) d ++ ((T k (p d) (q d)).natAbs :: lab k') = L0
        rw [← k3]
        exact l2
end
