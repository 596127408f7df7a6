/-! holes: the class swaps rows and columns -/
abbrev swC (a b i : Nat) : Nat := if i = b then a else if i = a then b else i
theorem swC_lt {a b i n : Nat} (ha : a < n) (hb : b < n) (hi : i < n) : swC a b i < n := by
  show (if i = b then a else if i = a then b else i) < n
  split
  · exact ha
  · split
    · exact hb
    · exact hi
theorem swC_inj {a b i j : Nat} (h : swC a b i = swC a b j) : i = j := by
  have h : (if i = b then a else if i = a then b else i) = (if j = b then a else if j = a then b else j) := h
  split at h <;> split at h <;> (try split at h) <;> (try split at h) <;> omega
theorem swap_pt {A : Nat → Nat → Int} {a b r i j : Nat} : (if i < r + 1 then A i (swC a b j) else A i j) = if i = r ∧ j = b then A r a else if i = r ∧ j = a then A r b else if i < r then A i (swC a b j) else A i j := by
  by_cases e : i = r
  · subst e
    by_cases e1 : j = b
    · subst e1
      simp [swC]
    · by_cases e2 : j = a
      · subst e2
        simp [swC, e1]
      · simp [swC, e1, e2]
  · have q : i < r + 1 ↔ i < r := by omega
    simp [e, q]
def srT (S : MS) (a b : Nat) : MS := (S.sr 23 a (S.2.2.2 23 b)).sr 23 b (S.2.2.2 23 a)
theorem srT_at (S : MS) (a b i : Nat) : (srT S a b).2.2.2 23 i = S.2.2.2 23 (swC a b i) := by
  show ((S.sr 23 a (S.2.2.2 23 b)).sr 23 b (S.2.2.2 23 a)).2.2.2 23 i = S.2.2.2 23 (if i = b then a else if i = a then b else i)
  rw [sr_at, sr_at]
  by_cases e : i = b
  · rw [if_pos ⟨rfl, e⟩, if_pos e]
  · rw [if_neg (fun w => e w.2), if_neg e]
    by_cases e2 : i = a
    · rw [if_pos ⟨rfl, e2⟩, if_pos e2]
    · rw [if_neg (fun w => e2 w.2), if_neg e2]
theorem srT_k0 (S : MS) (a b : Nat) : oKeep S (srT S a b) := by
  refine ⟨fun _ _ => rfl, fun _ _ => rfl, fun k hk => ?_, fun _ _ _ => rfl⟩
  show u2 (u2 S.2.2.2 23 a (S.2.2.2 23 b)) 23 b (S.2.2.2 23 a) k = _
  rw [u2_ne _ _ _ hk, u2_ne _ _ _ hk]
theorem srT_k (S : MS) (a b : Nat) : dKeep S (srT S a b) := ⟨srT_k0 S a b, rfl⟩
theorem MXc.swR {S : MS} {R C : Nat} {A : Nat → Nat → Int} (h : MXc S R C A) (hR : R ≤ 18) {a b : Nat} (ha : a < R) (hb : b < R) : MXc (srT S a b) R C (fun i j => A (swC a b i) j) := by
  refine ⟨h.1, h.2.1, fun i hi => ?_, fun i j hi hj e => ?_, fun r hr c hc => ?_⟩
  · rw [srT_at]
    exact h.2.2.1 _ (swC_lt (by omega) (by omega) hi)
  · rw [srT_at, srT_at] at e
    exact swC_inj (h.2.2.2.1 _ _ (swC_lt (by omega) (by omega) hi) (swC_lt (by omega) (by omega) hj) e)
  · show S.2.2.1 ((srT S a b).2.2.2 23 r) c = _
    rw [srT_at]
    exact h.2.2.2.2 _ (swC_lt ha hb hr) c hc
theorem mc_swapRowsC (X : am_X) (S : MS) (a b : Nat) (ha : a < 18) (hb : b < 18) (h : ∀ i, i < 18 → 24 ≤ S.2.2.2 23 i ∧ S.2.2.2 23 i < 42) : MC X 27 [.ref (22), .int (nI (a)), .int (nI (b))] S none (srT S a b) := by
  have h1 := h a ha
  have h2 := h b hb
  refine MC.of (Nat.le_of_ble_eq_true rfl) ?_
  refine as_aload_n d27_0 rfl ?_
  refine ap_get d27_1 f27_13 (by decide) rfl rfl ?_
  refine as_iload_n d27_4 rfl ?_
  refine ap_aald d27_5 isQ23 (Or.inr rfl) (by decide) (by omega) (by decide) (an_topr (show _ = S.2.2.2 23 a from rfl) ?_)
  refine as_astore_n d27_6 (by decide) ?_
  refine as_aload_n d27_7 rfl ?_
  refine ap_get d27_8 f27_13 (by decide) rfl rfl ?_
  refine as_iload_n d27_11 rfl ?_
  refine as_aload_n d27_12 rfl ?_
  refine ap_get d27_13 f27_13 (by decide) rfl rfl ?_
  refine as_iload_n d27_16 rfl ?_
  refine ap_aald d27_17 isQ23 (Or.inr rfl) (by decide) (by omega) (by decide) (an_topr (show _ = S.2.2.2 23 b from rfl) ?_)
  refine ap_aastJ d27_18 isQ23 (by decide) (by omega) (isJ_row h2) (by omega) (by decide) ?_
  refine as_aload_n d27_19 rfl ?_
  refine ap_get d27_20 f27_13 (by decide) rfl rfl ?_
  refine as_iload_n d27_23 rfl ?_
  refine as_aload_n d27_24 rfl ?_
  refine ap_aastJ d27_25 isQ23 (by decide) (by omega) (isJ_row h1) (by omega) (by decide) ?_
  refine as_return d27_26 t27 ?_
  rfl
theorem mx_swapColsC (X : am_X) (S : MS) (R C : Nat) (A : Nat → Nat → Int) (hR : R ≤ 18) (hC : C ≤ 6) (h : MXc S R C A) (a b : Nat) (ha : a < C) (hb : b < C) : ∃ T, MC X 28 [.ref (22), .int (nI (a)), .int (nI (b))] S none T ∧ dKeep S T ∧ T.2.2.2 = S.2.2.2 ∧ MXc T R C (fun i j => A i (swC a b j)) := by
  have key := MX.mc (X := X) (mj := 28) (as := [.ref (22), .int (nI (a)), .int (nI (b))]) (S := S) (Post := fun v T => v = none ∧ dKeep S T ∧ T.2.2.2 = S.2.2.2 ∧ MXc T R C (fun i j => A i (swC a b j))) ?_
  · obtain ⟨v, T, g1, g2, g3⟩ := key
    subst g2
    exact ⟨T, g1, g3⟩
  refine MX.of (Nat.le_of_ble_eq_true rfl) ?_
  refine an_iconst 0 d28_0 rfl ?_
  refine as_istore_n d28_1 (by decide) ?_
  refine AW.loc [(0, .ref (22)), (1, .int (nI (a))), (2, .int (nI (b))), (3, .int (nI (0)))] (am_pick [1, 2, 3, 0] rfl rfl) ?_
  refine aw_fromE (fun r T => ((2, [(0, .ref (22)), (1, .int (nI (a))), (2, .int (nI (b))), (3, .int (nI (r)))], [], 208, HP (T), 0, 0) : am_Z)) (fun r T => dKeep S T ∧ T.2.2.2 = S.2.2.2 ∧ MXc T R C (fun i j => if i < (r) then A i (swC a b j) else A i j)) (0) (R) (by omega) (S) (rfl) (⟨dKeep.rf S, rfl, h.eq (fun r _ c _ => if_neg (by omega))⟩) (fun r T hr0 hr hI ihr => ?_) (fun T hX => ?_)
  · have hrr := hI.2.2.2.2.1 r (by omega)
    refine as_iload_n d28_2 rfl ?_
    refine as_aload_n d28_3 rfl ?_
    refine ap_get d28_4 f28_24 (by decide) rfl rfl ?_
    refine an_top (e' := nI (R)) (hI.2.2.1) ?_
    refine an_icmp_ge 52 d28_7 (by decide) (by omega) (by omega) (fun c7 => by omega) (fun c7 => ?_)
    refine as_aload_n d28_10 rfl ?_
    refine ap_get d28_11 f28_13 (by decide) rfl rfl ?_
    refine as_iload_n d28_14 rfl ?_
    refine ap_aald d28_15 isQ23 (Or.inr rfl) (by decide) (by omega) (by decide) (an_topr (show _ = T.2.2.2 23 r from rfl) ?_)
    refine as_iload_n d28_16 rfl ?_
    refine ap_lald d28_17 (isJ_row hrr) (by omega) (by omega) (by decide) ?_
    refine as_lstore d28_18 (by decide) ?_
    refine as_aload_n d28_20 rfl ?_
    refine ap_get d28_21 f28_13 (by decide) rfl rfl ?_
    refine as_iload_n d28_24 rfl ?_
    refine ap_aald d28_25 isQ23 (Or.inr rfl) (by decide) (by omega) (by decide) (an_topr (show _ = T.2.2.2 23 r from rfl) ?_)
    refine as_iload_n d28_26 rfl ?_
    refine as_aload_n d28_27 rfl ?_
    refine ap_get d28_28 f28_13 (by decide) rfl rfl ?_
    refine as_iload_n d28_31 rfl ?_
    refine ap_aald d28_32 isQ23 (Or.inr rfl) (by decide) (by omega) (by decide) (an_topr (show _ = T.2.2.2 23 r from rfl) ?_)
    refine as_iload_n d28_33 rfl ?_
    refine ap_lald d28_34 (isJ_row hrr) (by omega) (by omega) (by decide) ?_
    refine ap_last d28_35 (isJ_row hrr) (by omega) (by omega) (by decide) ?_
    refine as_aload_n d28_36 rfl ?_
    refine ap_get d28_37 f28_13 (by decide) rfl rfl ?_
    refine as_iload_n d28_40 rfl ?_
    refine ap_aald d28_41 isQ23 (Or.inr rfl) (by decide) (by omega) (by decide) (an_topr (show _ = T.2.2.2 23 r from rfl) ?_)
    refine as_iload_n d28_42 rfl ?_
    refine as_lload d28_43 rfl ?_
    refine ap_last d28_45 (isJ_row hrr) (by omega) (by omega) (by decide) ?_
    refine an_iinc 1 d28_46 rfl rfl (by decide) ?_
    refine as_goto 2 d28_49 (by decide) ?_
    refine AW.loc [(0, .ref (22)), (1, .int (nI (a))), (2, .int (nI (b))), (3, .int (nI (r + 1)))] (am_pick [2, 3, 4, 0] rfl rfl) ?_
    have ihr := ihr ((T.sl (T.2.2.2 23 r) (a) (T.2.2.1 (T.2.2.2 23 r) (b))).sl (T.2.2.2 23 r) (b) (T.2.2.1 (T.2.2.2 23 r) (a))) (by
      have q1 := hI.2.2.2.2.2.2 r hr a ha
      have q2 := hI.2.2.2.2.2.2 r hr b hb
      dsimp only at q1 q2
      rw [if_neg (Nat.lt_irrefl r)] at q1 q2
      have q3 := hI.2.2.sl hR hr (c := a) (y := T.2.2.1 (T.2.2.2 23 r) b) (v := A r b) q2
      have q4 := q3.sl hR hr (c := b) (y := T.2.2.1 (T.2.2.2 23 r) a) (v := A r a) q1
      exact ⟨(hI.1.sl hrr _ _).sl hrr _ _, hI.2.1, q4.eq (fun i hi j hj => swap_pt)⟩)
    exact ihr
  · refine as_iload_n d28_2 rfl ?_
    refine as_aload_n d28_3 rfl ?_
    refine ap_get d28_4 f28_24 (by decide) rfl rfl ?_
    refine an_top (e' := nI (R)) (hX.2.2.1) ?_
    refine an_icmp_ge 52 d28_7 (by decide) (by omega) (by omega) (fun c7 => ?_) (fun c7 => by omega)
    refine as_return d28_52 t28 ?_
    exact ⟨_, _, rfl, rfl, hX.1, hX.2.1, hX.2.2.eq (fun r hr j hj => (if_pos hr).symm)⟩
