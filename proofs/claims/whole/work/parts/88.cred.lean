/-! holes: the class takes row d from the rows behind it -/
abbrev tmR (A : Nat → Nat → Int) (d i : Nat) : Int := (A i d).tdiv (A d d)
/-- rows behind d and before e are done -/
def rdR (A : Nat → Nat → Int) (d e : Nat) (i j : Nat) : Int := if (d < i ∧ i < e) ∧ d ≤ j then A i j - tmR A d i * A d j else A i j
/-- row e is done up to column f -/
def rdI (A : Nat → Nat → Int) (d e f : Nat) (i j : Nat) : Int := if i = e ∧ d ≤ j ∧ j < f then A i j - tmR A d i * A d j else rdR A d e i j
def clN (f : Nat → Bool) : Nat → Nat
  | 0 => 1
  | k + 1 => if f k = true then clN f k else 0
theorem clN_or (f : Nat → Bool) : ∀ k, clN f k = 0 ∨ clN f k = 1
  | 0 => Or.inr rfl
  | k + 1 => by
    show (if f k = true then clN f k else 0) = 0 ∨ (if f k = true then clN f k else 0) = 1
    by_cases h : f k = true
    · rw [if_pos h]; exact clN_or f k
    · rw [if_neg h]; exact Or.inl rfl
theorem rdR_0 (A : Nat → Nat → Int) (d i j : Nat) : rdR A d (d + 1) i j = A i j := if_neg (by omega)
theorem rdI_0 (A : Nat → Nat → Int) (d e i j : Nat) : rdI A d e d i j = rdR A d e i j := if_neg (by omega)
theorem rdI_s {A : Nat → Nat → Int} {d e f : Nat} (hf : d ≤ f) (i j : Nat) : rdI A d e (f + 1) i j = if i = e ∧ j = f then A e f - tmR A d e * A d f else rdI A d e f i j := by
  unfold rdI
  by_cases h : i = e ∧ j = f
  · obtain ⟨rfl, rfl⟩ := h
    rw [if_pos (by omega), if_pos ⟨rfl, rfl⟩]
  · rw [if_neg h]
    by_cases g : i = e ∧ d ≤ j ∧ j < f
    · rw [if_pos g, if_pos (by omega)]
    · rw [if_neg g, if_neg (by omega)]
theorem rdI_e {A : Nat → Nat → Int} {d e C : Nat} (hd : d < e) {i j : Nat} (hj : j < C) : rdI A d e C i j = rdR A d (e + 1) i j := by
  unfold rdI rdR
  by_cases h : i = e ∧ d ≤ j
  · obtain ⟨rfl, h2⟩ := h
    rw [if_pos (by omega), if_pos (by omega)]
  · rw [if_neg (by omega)]
    by_cases g : (d < i ∧ i < e) ∧ d ≤ j
    · rw [if_pos g, if_pos (by omega)]
    · rw [if_neg g, if_neg (by omega)]
theorem rdI_at {A : Nat → Nat → Int} {d e f : Nat} : rdI A d e f e f = A e f := by
  unfold rdI rdR
  rw [if_neg (by omega), if_neg (by omega)]
theorem rdI_d {A : Nat → Nat → Int} {d e f j : Nat} (hd : d < e) : rdI A d e f d j = A d j := by
  unfold rdI rdR
  rw [if_neg (by omega), if_neg (by omega)]
theorem rdR_at {A : Nat → Nat → Int} {d e j : Nat} : rdR A d e e j = A e j := by
  unfold rdR
  rw [if_neg (by omega)]
theorem rdR_d {A : Nat → Nat → Int} {d e j : Nat} : rdR A d e d j = A d j := by
  unfold rdR
  rw [if_neg (by omega)]
theorem mx_reduceRowsC (X : am_X) (S : MS) (R C : Nat) (A : Nat → Nat → Int) (hR : R ≤ 18) (hC : C ≤ 6) (h : MXc S R C A) (d : Nat) (hd : d < R) (hd2 : d < C) (hs : ∀ i, i < R → sm (A i d)) (hs2 : ∀ i, i < R → sm (A i d - tmR A d i * A d d)) : ∃ v T, MC X 29 [.ref (22), .int (nI (d))] S v T ∧ v = some (.int (nI (clN (fun k => decide (A (d + 1 + k) d - tmR A d (d + 1 + k) * A d d = 0)) (R - (d + 1))))) ∧ dKeep S T ∧ T.2.2.2 = S.2.2.2 ∧ MXc T R C (rdR A d R) := by
  refine MX.mc (X := X) (mj := 29) (as := [.ref (22), .int (nI (d))]) (S := S) (Post := fun v T => v = some (.int (nI (clN (fun k => decide (A (d + 1 + k) d - tmR A d (d + 1 + k) * A d d = 0)) (R - (d + 1))))) ∧ dKeep S T ∧ T.2.2.2 = S.2.2.2 ∧ MXc T R C (rdR A d R)) ?_
  refine MX.of (Nat.le_of_ble_eq_true rfl) ?_
  refine an_iconst 1 d29_0 rfl ?_
  refine as_istore_n d29_1 (by decide) ?_
  refine as_iload_n d29_2 rfl ?_
  refine an_iconst 1 d29_3 rfl ?_
  refine an_iadd d29_4 ?_
  refine as_istore_n d29_5 (by decide) ?_
  refine AW.loc [(0, .ref (22)), (1, .int (nI (d))), (2, .int (nI (1))), (3, .int (nI ((d) + (1))))] (am_pick [2, 3, 1, 0] rfl rfl) ?_
  refine aw_fromE (fun k T => ((6, [(0, .ref (22)), (1, .int (nI (d))), (2, .int (nI (clN (fun k => decide (A (d + 1 + k) d - tmR A d (d + 1 + k) * A d d = 0)) (k)))), (3, .int (nI (d + 1 + k)))], [], 208, HP (T), 0, 0) : am_Z)) (fun k T => dKeep S T ∧ T.2.2.2 = S.2.2.2 ∧ MXc T R C (rdR A d (d + 1 + k))) (0) (R - (d + 1)) (by omega) (S) (rfl) (⟨dKeep.rf S, rfl, h.eq (fun r _ c _ => rdR_0 A d r c)⟩) (fun k T hk0 hk hI ihk => ?_) (fun T hX => ?_)
  · have tm := mc_timesOf X T (Int64.ofInt (A (d + 1 + k) d)) (Int64.ofInt (A d d))
    rw [i64_times (hs _ (by omega)) (hs _ hd)] at tm
    refine as_iload_n d29_6 rfl ?_
    refine as_aload_n d29_7 rfl ?_
    refine ap_get d29_8 f29_24 (by decide) rfl rfl ?_
    refine an_top (e' := nI (R)) (hI.2.2.1) ?_
    refine an_icmp_ge 98 d29_11 (by decide) (by omega) (by omega) (fun c11 => by omega) (fun c11 => ?_)
    refine as_aload_n d29_14 rfl ?_
    refine ap_get d29_15 f29_13 (by decide) rfl rfl ?_
    refine as_iload_n d29_18 rfl ?_
    refine ap_aald d29_19 isQ23 (Or.inr rfl) (by decide) (by omega) (by decide) (an_topr (show _ = T.2.2.2 23 (d + 1 + k) from rfl) ?_)
    refine as_iload_n d29_20 rfl ?_
    refine ap_lald d29_21 (isJ_row (hI.2.2.2.2.1 (d + 1 + k) (by omega))) (by have := hI.2.2.2.2.1 (d + 1 + k) (by omega); omega) (by omega) (by decide) (an_topl (e' := Int64.ofInt (A (d + 1 + k) d)) (by rw [hI.2.2.2.2.2.2 _ (by omega) _ hd2, rdR_at]) ?_)
    refine as_aload_n d29_22 rfl ?_
    refine ap_get d29_23 f29_13 (by decide) rfl rfl ?_
    refine as_iload_n d29_26 rfl ?_
    refine ap_aald d29_27 isQ23 (Or.inr rfl) (by decide) (by omega) (by decide) (an_topr (show _ = T.2.2.2 23 (d) from rfl) ?_)
    refine as_iload_n d29_28 rfl ?_
    refine ap_lald d29_29 (isJ_row (hI.2.2.2.2.1 (d) (by omega))) (by have := hI.2.2.2.2.1 (d) (by omega); omega) (by omega) (by decide) (an_topl (e' := Int64.ofInt (A d d)) (by rw [hI.2.2.2.2.2.2 _ hd _ hd2, rdR_d]) ?_)
    refine ac_s2 d29_30 c29_118 (by decide) (Nat.le_of_ble_eq_true rfl) (tm) ?_
    refine as_lstore d29_33 (by decide) ?_
    refine as_iload_n d29_35 rfl ?_
    refine as_istore d29_36 (by decide) ?_
    refine AW.loc [(0, .ref (22)), (1, .int (nI (d))), (2, .int (nI (clN (fun k => decide (A (d + 1 + k) d - tmR A d (d + 1 + k) * A d d = 0)) (k)))), (3, .int (nI (d + 1 + k))), (4, .long (Int64.ofInt (tmR A d (d + 1 + k)))), (6, .int (nI (d)))] (am_pick [2, 3, 4, 5, 1, 0] rfl rfl) ?_
    refine aw_fromE (fun c U => ((38, [(0, .ref (22)), (1, .int (nI (d))), (2, .int (nI (clN (fun k => decide (A (d + 1 + k) d - tmR A d (d + 1 + k) * A d d = 0)) (k)))), (3, .int (nI (d + 1 + k))), (4, .long (Int64.ofInt (tmR A d (d + 1 + k)))), (6, .int (nI (d + c)))], [], 208, HP (U), 0, 0) : am_Z)) (fun c U => dKeep S U ∧ U.2.2.2 = S.2.2.2 ∧ MXc U R C (rdI A d (d + 1 + k) (d + c))) (0) (C - d) (by omega) (T) (rfl) (⟨hI.1, hI.2.1, hI.2.2.eq (fun r _ c _ => rdI_0 A d _ r c)⟩) (fun c U hc0 hc hJ ihc => ?_) (fun U hJX => ?_)
    · refine as_iload d29_38 rfl ?_
      refine as_aload_n d29_40 rfl ?_
      refine ap_get d29_41 f29_49 (by decide) rfl rfl ?_
      refine an_top (e' := nI (C)) (hJ.2.2.2.1) ?_
      refine an_icmp_ge 77 d29_44 (by decide) (by omega) (by omega) (fun c44 => by omega) (fun c44 => ?_)
      refine as_aload_n d29_47 rfl ?_
      refine ap_get d29_48 f29_13 (by decide) rfl rfl ?_
      refine as_iload_n d29_51 rfl ?_
      refine ap_aald d29_52 isQ23 (Or.inr rfl) (by decide) (by omega) (by decide) (an_topr (show _ = U.2.2.2 23 (d + 1 + k) from rfl) ?_)
      refine as_iload d29_53 rfl ?_
      refine as_dup2 d29_55 rfl rfl ?_
      refine ap_lald d29_56 (isJ_row (hJ.2.2.2.2.1 (d + 1 + k) (by omega))) (by have := hJ.2.2.2.2.1 (d + 1 + k) (by omega); omega) (by omega) (by decide) (an_topl (e' := Int64.ofInt (A (d + 1 + k) (d + c))) (by rw [hJ.2.2.2.2.2.2 _ (by omega) _ (by omega), rdI_at]) ?_)
      refine as_lload d29_57 rfl ?_
      refine as_aload_n d29_59 rfl ?_
      refine ap_get d29_60 f29_13 (by decide) rfl rfl ?_
      refine as_iload_n d29_63 rfl ?_
      refine ap_aald d29_64 isQ23 (Or.inr rfl) (by decide) (by omega) (by decide) (an_topr (show _ = U.2.2.2 23 (d) from rfl) ?_)
      refine as_iload d29_65 rfl ?_
      refine ap_lald d29_67 (isJ_row (hJ.2.2.2.2.1 (d) (by omega))) (by have := hJ.2.2.2.2.1 (d) (by omega); omega) (by omega) (by decide) (an_topl (e' := Int64.ofInt (A d (d + c))) (by rw [hJ.2.2.2.2.2.2 _ hd _ (by omega), rdI_d (by omega)]) ?_)
      refine as_lmul d29_68 ?_
      refine as_lsub d29_69 ?_
      refine ap_last d29_70 (isJ_row (hJ.2.2.2.2.1 (d + 1 + k) (by omega))) (by have := hJ.2.2.2.2.1 (d + 1 + k) (by omega); omega) (by omega) (by decide) ?_
      have hst := hJ.2.2.sl hR (r := d + 1 + k) (by omega) (c := d + c) (y := Int64.ofInt (A (d + 1 + k) (d + c)) - Int64.ofInt (tmR A d (d + 1 + k)) * Int64.ofInt (A d (d + c))) (v := A (d + 1 + k) (d + c) - tmR A d (d + 1 + k) * A d (d + c)) (by rw [Int64.ofInt_sub, Int64.ofInt_mul])
      refine an_iinc 1 d29_71 rfl rfl (by decide) ?_
      refine as_goto 38 d29_74 (by decide) ?_
      refine AW.loc [(0, .ref (22)), (1, .int (nI (d))), (2, .int (nI (clN (fun k => decide (A (d + 1 + k) d - tmR A d (d + 1 + k) * A d d = 0)) (k)))), (3, .int (nI (d + 1 + k))), (4, .long (Int64.ofInt (tmR A d (d + 1 + k)))), (6, .int (nI (d + c + 1)))] (am_pick [1, 2, 3, 4, 5, 0] rfl rfl) ?_
      have ihc := ihc (U.sl (U.2.2.2 23 (d + 1 + k)) (d + c) ((Int64.ofInt (A (d + 1 + k) (d + c))) - ((Int64.ofInt (tmR A d (d + 1 + k))) * (Int64.ofInt (A d (d + c)))))) (⟨hJ.1.sl (hJ.2.2.2.2.1 (d + 1 + k) (by omega)) _ _, hJ.2.1, hst.eq (fun i _ j _ => rdI_s (show d ≤ d + c by omega) i j)⟩)
      exact ihc
    · refine as_iload d29_38 rfl ?_
      refine as_aload_n d29_40 rfl ?_
      refine ap_get d29_41 f29_49 (by decide) rfl rfl ?_
      refine an_top (e' := nI (C)) (hJX.2.2.2.1) ?_
      refine an_icmp_ge 77 d29_44 (by decide) (by omega) (by omega) (fun c44 => ?_) (fun c44 => by omega)
      have hnew : U.2.2.1 (U.2.2.2 23 (d + 1 + k)) d = Int64.ofInt (A (d + 1 + k) d - tmR A d (d + 1 + k) * A d d) := by
        rw [hJX.2.2.2.2.2.2 _ (by omega) _ hd2]
        congr 1
        exact if_pos (by omega)
      refine as_aload_n d29_77 rfl ?_
      refine ap_get d29_78 f29_13 (by decide) rfl rfl ?_
      refine as_iload_n d29_81 rfl ?_
      refine ap_aald d29_82 isQ23 (Or.inr rfl) (by decide) (by omega) (by decide) (an_topr (show _ = U.2.2.2 23 (d + 1 + k) from rfl) ?_)
      refine as_iload_n d29_83 rfl ?_
      refine ap_lald d29_84 (isJ_row (hJX.2.2.2.2.1 (d + 1 + k) (by omega))) (by have := hJX.2.2.2.2.1 (d + 1 + k) (by omega); omega) (by omega) (by decide) (an_topl (e' := Int64.ofInt (A (d + 1 + k) d - tmR A d (d + 1 + k) * A d d)) (hnew) ?_)
      refine as_lconst d29_85 ?_
      refine as_lcmp d29_86 ?_
      refine as_if_eq 92 d29_87 (by decide) (fun c87 => ?_) (fun c87 => ?_)
      · have hcl : clN (fun k => decide (A (d + 1 + k) d - tmR A d (d + 1 + k) * A d d = 0)) (k + 1) = clN (fun k => decide (A (d + 1 + k) d - tmR A d (d + 1 + k) * A d d = 0)) k := if_pos (decide_eq_true ((i64_z (hs2 _ (by omega))).mp ((lg_z _ _).mp c87)))
        refine an_iinc 1 d29_92 rfl rfl (by decide) ?_
        refine as_goto 6 d29_95 (by decide) ?_
        refine AW.loc [(0, .ref (22)), (1, .int (nI (d))), (2, .int (nI (clN (fun k => decide (A (d + 1 + k) d - tmR A d (d + 1 + k) * A d d = 0)) (k)))), (3, .int (nI (d + 1 + k + 1)))] (am_pick [1, 2, 3, 0] rfl rfl) ?_
        have ihk := ihk (U) (⟨hJX.1, hJX.2.1, hJX.2.2.eq (fun i _ j hj => by rw [show d + (C - d) = C by omega]; exact (rdI_e (show d < d + 1 + k by omega) hj).symm)⟩)
        have e2 : clN (fun k => decide (A (d + 1 + k) d - tmR A d (d + 1 + k) * A d d = 0)) (k + 1) = clN (fun k => decide (A (d + 1 + k) d - tmR A d (d + 1 + k) * A d d = 0)) (k) := by exact hcl
        rw [e2] at ihk
        exact ihk
      · have hcl : clN (fun k => decide (A (d + 1 + k) d - tmR A d (d + 1 + k) * A d d = 0)) (k + 1) = 0 := if_neg (fun g => c87 ((lg_z _ _).mpr ((i64_z (hs2 _ (by omega))).mpr (of_decide_eq_true g))))
        refine an_iconst 0 d29_90 rfl ?_
        refine as_istore_n d29_91 (by decide) ?_
        refine an_iinc 1 d29_92 rfl rfl (by decide) ?_
        refine as_goto 6 d29_95 (by decide) ?_
        refine AW.loc [(0, .ref (22)), (1, .int (nI (d))), (2, .int (nI (0))), (3, .int (nI (d + 1 + k + 1)))] (am_pick [2, 3, 1, 0] rfl rfl) ?_
        have ihk := ihk (U) (⟨hJX.1, hJX.2.1, hJX.2.2.eq (fun i _ j hj => by rw [show d + (C - d) = C by omega]; exact (rdI_e (show d < d + 1 + k by omega) hj).symm)⟩)
        have e2 : clN (fun k => decide (A (d + 1 + k) d - tmR A d (d + 1 + k) * A d d = 0)) (k + 1) = 0 := by exact hcl
        rw [e2] at ihk
        exact ihk
  · refine as_iload_n d29_6 rfl ?_
    refine as_aload_n d29_7 rfl ?_
    refine ap_get d29_8 f29_24 (by decide) rfl rfl ?_
    refine an_top (e' := nI (R)) (hX.2.2.1) ?_
    refine an_icmp_ge 98 d29_11 (by decide) (by omega) (by omega) (fun c11 => ?_) (fun c11 => by omega)
    refine as_iload_n d29_98 rfl ?_
    refine as_ireturn d29_99 (by rw [t29]; rcases clN_or (fun k => decide (A (d + 1 + k) d - tmR A d (d + 1 + k) * A d d = 0)) (R - (d + 1)) with q | q <;> rw [q] <;> rfl) ?_
    exact ⟨_, _, rfl, rfl, hX.1, hX.2.1, hX.2.2.eq (fun i _ j _ => by rw [show d + 1 + (R - (d + 1)) = R by omega])⟩
