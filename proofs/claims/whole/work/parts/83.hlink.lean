/-! holes: pairs are at most half the sides; labels tell that no edge is bent -/
theorem cnt_nth {q : Nat → Bool} : ∀ n j, j < cnt q n → ∃ s, s < n ∧ q s = true ∧ cnt q s = j
  | 0, j, h => absurd h (Nat.not_lt_zero _)
  | n + 1, j, h => by
    by_cases c : q n = true
    · rw [cnt_t c] at h
      by_cases e : j = cnt q n
      · exact ⟨n, by omega, c, e.symm⟩
      · obtain ⟨s, h1, h2⟩ := cnt_nth (q := q) n j (by omega)
        exact ⟨s, by omega, h2⟩
    · rw [cnt_f c] at h
      obtain ⟨s, h1, h2⟩ := cnt_nth (q := q) n j (by omega)
      exact ⟨s, by omega, h2⟩
theorem prs_half {P : Nat} {mt : Nat → Option Nat} {go : Nat → Nat} (hG : GW P mt go) : 2 * cnt (prN mt) (4 * P) ≤ 4 * P := by
  have hs : ∀ j, ∃ s t, j < cnt (prN mt) (4 * P) → s < 4 * P ∧ mt s = some t ∧ s < t ∧ t < 4 * P ∧ mt t = some s ∧ cnt (prN mt) s = j := by
    intro j
    by_cases h : j < cnt (prN mt) (4 * P)
    · obtain ⟨s, h1, h2, h3⟩ := cnt_nth _ _ h
      obtain ⟨t, h4, h5⟩ := prN_ex h2
      obtain ⟨g1, g2, g3, -⟩ := hG.2 s h1 t h4
      exact ⟨s, t, fun _ => ⟨h1, h4, h5, g1, g3, h3⟩⟩
    · exact ⟨0, 0, fun w => absurd w h⟩
  let S : Nat → Nat := fun j => Classical.choose (hs j)
  let U : Nat → Nat := fun j => Classical.choose (Classical.choose_spec (hs j))
  have hSU : ∀ j, j < cnt (prN mt) (4 * P) → S j < 4 * P ∧ mt (S j) = some (U j) ∧ S j < U j ∧ U j < 4 * P ∧ mt (U j) = some (S j) ∧ cnt (prN mt) (S j) = j := fun j => Classical.choose_spec (Classical.choose_spec (hs j))
  refine pig (2 * cnt (prN mt) (4 * P)) (fun i => if i % 2 = 0 then S (i / 2) else U (i / 2)) (fun i hi => ?_) (fun i j hi hj e => ?_)
  · have h := hSU (i / 2) (by omega)
    show (if i % 2 = 0 then S (i / 2) else U (i / 2)) < 4 * P
    by_cases c : i % 2 = 0
    · rw [if_pos c]; exact h.1
    · rw [if_neg c]; exact h.2.2.2.1
  · have e : (if i % 2 = 0 then S (i / 2) else U (i / 2)) = (if j % 2 = 0 then S (j / 2) else U (j / 2)) := e
    obtain ⟨a1, a2, a3, a4, a5, a6⟩ := hSU (i / 2) (by omega)
    obtain ⟨b1, b2, b3, b4, b5, b6⟩ := hSU (j / 2) (by omega)
    by_cases c : i % 2 = 0
    · rw [if_pos c] at e
      by_cases d : j % 2 = 0
      · rw [if_pos d] at e
        rw [e] at a6
        omega
      · rw [if_neg d] at e
        rw [e, b5] at a2
        have := Option.some.inj a2
        omega
    · rw [if_neg c] at e
      by_cases d : j % 2 = 0
      · rw [if_pos d] at e
        rw [e, b2] at a5
        have := Option.some.inj a5
        omega
      · rw [if_neg d] at e
        rw [e, b5] at a5
        have := Option.some.inj a5
        rw [← this] at a6
        omega
theorem prs_6 {P : Nat} {mt : Nat → Option Nat} {go : Nat → Nat} (hG : GW P mt go) : cnt (prN mt) (4 * P) ≤ 6 := by
  have := prs_half hG
  have := hG.1
  omega
theorem opsP_mem {P : Nat} {mt : Nat → Option Nat} {go : Nat → Nat} {s t a b : Nat} (hs : s < 4 * P) (e0 : mt s = some t) (ha : a < 4) (hb : b < 4) (hab : a ≠ b) (has : a ≠ s % 4) (hbs : b ≠ s % 4) : (195, endI (s / 4) a b, endI (t / 4) (go (4 * s + a)) (go (4 * s + b))) ∈ opsP mt go (4 * P) := by
  unfold opsP
  refine List.mem_flatMap.mpr ⟨s, List.mem_range.mpr hs, ?_⟩
  rw [e0]
  show _ ∈ opsA s t go 4
  unfold opsA
  refine List.mem_cons_of_mem _ (List.mem_flatMap.mpr ⟨a, List.mem_filter.mpr ⟨List.mem_range.mpr ha, ?_⟩, List.mem_cons_of_mem _ ?_⟩)
  · simp [has]
  · unfold opsB
    refine List.mem_map.mpr ⟨b, List.mem_filter.mpr ⟨List.mem_range.mpr hb, ?_⟩, rfl⟩
    simp [hbs, Ne.symm hab]
theorem LabS.nb {T : MS} {P : Nat} {mt : Nat → Option Nat} {go : Nat → Nat} (h : LabS T P mt go) (hb : ∀ k, k < 6 * P → lb T (2 * k) ≠ lb T (2 * k + 1)) : NB P mt go (lb T) := by
  refine ⟨fun s t a b hs e0 ha hb' hab has hbs => ?_, hb⟩
  have q := h.1.2 _ (mem_prsOf.mpr (opsP_mem hs e0 ha hb' hab has hbs))
  exact congrArg Int32.toNatClampNeg q
