/-! holes: the class takes column d from the columns behind it -/
def trM (A : Nat → Nat → Int) (i j : Nat) : Int := A j i
theorem rdI_sT {A : Nat → Nat → Int} {d e f : Nat} (hf : d ≤ f) (i j : Nat) : rdI (trM A) d e (f + 1) j i = if i = f ∧ j = e then A f e - tmR (trM A) d e * A f d else rdI (trM A) d e f j i := by
  rw [rdI_s hf]
  by_cases h : i = f ∧ j = e
  · rw [if_pos h, if_pos ⟨h.2, h.1⟩]; rfl
  · rw [if_neg h, if_neg (fun g => h ⟨g.2, g.1⟩)]
theorem mx_reduceColsC (X : am_X) (S : MS) (R C : Nat) (A : Nat → Nat → Int) (hR : R ≤ 18) (hC : C ≤ 6) (h : MXc S R C A) (d : Nat) (hd : d < R) (hd2 : d < C) (hs : ∀ j, j < C → sm (A d j)) (hs2 : ∀ j, j < C → sm (A d j - tmR (trM A) d j * A d d)) : ∃ v T, MC X 30 [.ref (22), .int (nI (d))] S v T ∧ v = some (.int (nI (clN (fun k => decide (A d (d + 1 + k) - tmR (trM A) d (d + 1 + k) * A d d = 0)) (C - (d + 1))))) ∧ dKeep S T ∧ T.2.2.2 = S.2.2.2 ∧ MXc T R C (fun i j => rdR (trM A) d C j i) := by
  refine MX.mc (X := X) (mj := 30) (as := [.ref (22), .int (nI (d))]) (S := S) (Post := fun v T => v = some (.int (nI (clN (fun k => decide (A d (d + 1 + k) - tmR (trM A) d (d + 1 + k) * A d d = 0)) (C - (d + 1))))) ∧ dKeep S T ∧ T.2.2.2 = S.2.2.2 ∧ MXc T R C (fun i j => rdR (trM A) d C j i)) ?_
  refine MX.of (Nat.le_of_ble_eq_true rfl) ?_
  refine an_iconst 1 d30_0 rfl ?_
  refine as_istore_n d30_1 (by decide) ?_
  refine as_iload_n d30_2 rfl ?_
  refine an_iconst 1 d30_3 rfl ?_
  refine an_iadd d30_4 ?_
  refine as_istore_n d30_5 (by decide) ?_
  refine AW.loc [(0, .ref (22)), (1, .int (nI (d))), (2, .int (nI (1))), (3, .int (nI ((d) + (1))))] (am_pick [2, 3, 1, 0] rfl rfl) ?_
  refine aw_fromE (fun k T => ((6, [(0, .ref (22)), (1, .int (nI (d))), (2, .int (nI (clN (fun k => decide (A d (d + 1 + k) - tmR (trM A) d (d + 1 + k) * A d d = 0)) (k)))), (3, .int (nI (d + 1 + k)))], [], 208, HP (T), 0, 0) : am_Z)) (fun k T => dKeep S T ∧ T.2.2.2 = S.2.2.2 ∧ MXc T R C (fun i j => rdR (trM A) d (d + 1 + k) j i)) (0) (C - (d + 1)) (by omega) (S) (rfl) (⟨dKeep.rf S, rfl, h.eq (fun r _ c _ => rdR_0 (trM A) d c r)⟩) (fun k T hk0 hk hI ihk => ?_) (fun T hX => ?_)
  · have tm := mc_timesOf X T (Int64.ofInt (A d (d + 1 + k))) (Int64.ofInt (A d d))
    rw [i64_times (hs _ (by omega)) (hs _ hd2)] at tm
    refine as_iload_n d30_6 rfl ?_
    refine as_aload_n d30_7 rfl ?_
    refine ap_get d30_8 f30_49 (by decide) rfl rfl ?_
    refine an_top (e' := nI (C)) (hI.2.2.2.1) ?_
    refine an_icmp_ge 98 d30_11 (by decide) (by omega) (by omega) (fun c11 => by omega) (fun c11 => ?_)
    refine as_aload_n d30_14 rfl ?_
    refine ap_get d30_15 f30_13 (by decide) rfl rfl ?_
    refine as_iload_n d30_18 rfl ?_
    refine ap_aald d30_19 isQ23 (Or.inr rfl) (by decide) (by omega) (by decide) (an_topr (show _ = T.2.2.2 23 (d) from rfl) ?_)
    refine as_iload_n d30_20 rfl ?_
    refine ap_lald d30_21 (isJ_row (hI.2.2.2.2.1 (d) (by omega))) (by have := hI.2.2.2.2.1 (d) (by omega); omega) (by omega) (by decide) (an_topl (e' := Int64.ofInt (A d (d + 1 + k))) ((hI.2.2.2.2.2.2 d hd (d + 1 + k) (by omega)).trans (congrArg Int64.ofInt (rdR_at (A := trM A)))) ?_)
    refine as_aload_n d30_22 rfl ?_
    refine ap_get d30_23 f30_13 (by decide) rfl rfl ?_
    refine as_iload_n d30_26 rfl ?_
    refine ap_aald d30_27 isQ23 (Or.inr rfl) (by decide) (by omega) (by decide) (an_topr (show _ = T.2.2.2 23 (d) from rfl) ?_)
    refine as_iload_n d30_28 rfl ?_
    refine ap_lald d30_29 (isJ_row (hI.2.2.2.2.1 (d) (by omega))) (by have := hI.2.2.2.2.1 (d) (by omega); omega) (by omega) (by decide) (an_topl (e' := Int64.ofInt (A d d)) ((hI.2.2.2.2.2.2 d hd d hd2).trans (congrArg Int64.ofInt (rdR_d (A := trM A)))) ?_)
    refine ac_s2 d30_30 c30_118 (by decide) (Nat.le_of_ble_eq_true rfl) (tm) ?_
    refine as_lstore d30_33 (by decide) ?_
    refine as_iload_n d30_35 rfl ?_
    refine as_istore d30_36 (by decide) ?_
    refine AW.loc [(0, .ref (22)), (1, .int (nI (d))), (2, .int (nI (clN (fun k => decide (A d (d + 1 + k) - tmR (trM A) d (d + 1 + k) * A d d = 0)) (k)))), (3, .int (nI (d + 1 + k))), (4, .long (Int64.ofInt (tmR (trM A) d (d + 1 + k)))), (6, .int (nI (d)))] (am_pick [2, 3, 4, 5, 1, 0] rfl rfl) ?_
    refine aw_fromE (fun c U => ((38, [(0, .ref (22)), (1, .int (nI (d))), (2, .int (nI (clN (fun k => decide (A d (d + 1 + k) - tmR (trM A) d (d + 1 + k) * A d d = 0)) (k)))), (3, .int (nI (d + 1 + k))), (4, .long (Int64.ofInt (tmR (trM A) d (d + 1 + k)))), (6, .int (nI (d + c)))], [], 208, HP (U), 0, 0) : am_Z)) (fun c U => dKeep S U ∧ U.2.2.2 = S.2.2.2 ∧ MXc U R C (fun i j => rdI (trM A) d (d + 1 + k) (d + c) j i)) (0) (R - d) (by omega) (T) (rfl) (⟨hI.1, hI.2.1, hI.2.2.eq (fun r _ c _ => rdI_0 (trM A) d _ c r)⟩) (fun c U hc0 hc hJ ihc => ?_) (fun U hJX => ?_)
    · refine as_iload d30_38 rfl ?_
      refine as_aload_n d30_40 rfl ?_
      refine ap_get d30_41 f30_24 (by decide) rfl rfl ?_
      refine an_top (e' := nI (R)) (hJ.2.2.1) ?_
      refine an_icmp_ge 77 d30_44 (by decide) (by omega) (by omega) (fun c44 => by omega) (fun c44 => ?_)
      refine as_aload_n d30_47 rfl ?_
      refine ap_get d30_48 f30_13 (by decide) rfl rfl ?_
      refine as_iload d30_51 rfl ?_
      refine ap_aald d30_53 isQ23 (Or.inr rfl) (by decide) (by omega) (by decide) (an_topr (show _ = U.2.2.2 23 (d + c) from rfl) ?_)
      refine as_iload_n d30_54 rfl ?_
      refine as_dup2 d30_55 rfl rfl ?_
      refine ap_lald d30_56 (isJ_row (hJ.2.2.2.2.1 (d + c) (by omega))) (by have := hJ.2.2.2.2.1 (d + c) (by omega); omega) (by omega) (by decide) (an_topl (e' := Int64.ofInt (A (d + c) (d + 1 + k))) ((hJ.2.2.2.2.2.2 (d + c) (by omega) (d + 1 + k) (by omega)).trans (congrArg Int64.ofInt (rdI_at (A := trM A)))) ?_)
      refine as_lload d30_57 rfl ?_
      refine as_aload_n d30_59 rfl ?_
      refine ap_get d30_60 f30_13 (by decide) rfl rfl ?_
      refine as_iload d30_63 rfl ?_
      refine ap_aald d30_65 isQ23 (Or.inr rfl) (by decide) (by omega) (by decide) (an_topr (show _ = U.2.2.2 23 (d + c) from rfl) ?_)
      refine as_iload_n d30_66 rfl ?_
      refine ap_lald d30_67 (isJ_row (hJ.2.2.2.2.1 (d + c) (by omega))) (by have := hJ.2.2.2.2.1 (d + c) (by omega); omega) (by omega) (by decide) (an_topl (e' := Int64.ofInt (A (d + c) d)) ((hJ.2.2.2.2.2.2 (d + c) (by omega) d hd2).trans (congrArg Int64.ofInt (rdI_d (A := trM A) (by omega)))) ?_)
      refine as_lmul d30_68 ?_
      refine as_lsub d30_69 ?_
      refine ap_last d30_70 (isJ_row (hJ.2.2.2.2.1 (d + c) (by omega))) (by have := hJ.2.2.2.2.1 (d + c) (by omega); omega) (by omega) (by decide) ?_
      have hst := hJ.2.2.sl hR (r := d + c) (by omega) (c := d + 1 + k) (y := Int64.ofInt (A (d + c) (d + 1 + k)) - Int64.ofInt (tmR (trM A) d (d + 1 + k)) * Int64.ofInt (A (d + c) d)) (v := A (d + c) (d + 1 + k) - tmR (trM A) d (d + 1 + k) * A (d + c) d) (by rw [Int64.ofInt_sub, Int64.ofInt_mul])
      refine an_iinc 1 d30_71 rfl rfl (by decide) ?_
      refine as_goto 38 d30_74 (by decide) ?_
      refine AW.loc [(0, .ref (22)), (1, .int (nI (d))), (2, .int (nI (clN (fun k => decide (A d (d + 1 + k) - tmR (trM A) d (d + 1 + k) * A d d = 0)) (k)))), (3, .int (nI (d + 1 + k))), (4, .long (Int64.ofInt (tmR (trM A) d (d + 1 + k)))), (6, .int (nI (d + c + 1)))] (am_pick [1, 2, 3, 4, 5, 0] rfl rfl) ?_
      have ihc := ihc (U.sl (U.2.2.2 23 (d + c)) (d + 1 + k) ((Int64.ofInt (A (d + c) (d + 1 + k))) - ((Int64.ofInt (tmR (trM A) d (d + 1 + k))) * (Int64.ofInt (A (d + c) d))))) (⟨hJ.1.sl (hJ.2.2.2.2.1 (d + c) (by omega)) _ _, hJ.2.1, hst.eq (fun i _ j _ => rdI_sT (show d ≤ d + c by omega) i j)⟩)
      exact ihc
    · refine as_iload d30_38 rfl ?_
      refine as_aload_n d30_40 rfl ?_
      refine ap_get d30_41 f30_24 (by decide) rfl rfl ?_
      refine an_top (e' := nI (R)) (hJX.2.2.1) ?_
      refine an_icmp_ge 77 d30_44 (by decide) (by omega) (by omega) (fun c44 => ?_) (fun c44 => by omega)
      have hnew : U.2.2.1 (U.2.2.2 23 d) (d + 1 + k) = Int64.ofInt (A d (d + 1 + k) - tmR (trM A) d (d + 1 + k) * A d d) := by
        rw [hJX.2.2.2.2.2.2 d hd (d + 1 + k) (by omega)]
        congr 1
        exact if_pos (by omega)
      refine as_aload_n d30_77 rfl ?_
      refine ap_get d30_78 f30_13 (by decide) rfl rfl ?_
      refine as_iload_n d30_81 rfl ?_
      refine ap_aald d30_82 isQ23 (Or.inr rfl) (by decide) (by omega) (by decide) (an_topr (show _ = U.2.2.2 23 (d) from rfl) ?_)
      refine as_iload_n d30_83 rfl ?_
      refine ap_lald d30_84 (isJ_row (hJX.2.2.2.2.1 (d) (by omega))) (by have := hJX.2.2.2.2.1 (d) (by omega); omega) (by omega) (by decide) (an_topl (e' := Int64.ofInt (A d (d + 1 + k) - tmR (trM A) d (d + 1 + k) * A d d)) (hnew) ?_)
      refine as_lconst d30_85 ?_
      refine as_lcmp d30_86 ?_
      refine as_if_eq 92 d30_87 (by decide) (fun c87 => ?_) (fun c87 => ?_)
      · have hcl : clN (fun k => decide (A d (d + 1 + k) - tmR (trM A) d (d + 1 + k) * A d d = 0)) (k + 1) = clN (fun k => decide (A d (d + 1 + k) - tmR (trM A) d (d + 1 + k) * A d d = 0)) k := if_pos (decide_eq_true ((i64_z (hs2 _ (by omega))).mp ((lg_z _ _).mp c87)))
        refine an_iinc 1 d30_92 rfl rfl (by decide) ?_
        refine as_goto 6 d30_95 (by decide) ?_
        refine AW.loc [(0, .ref (22)), (1, .int (nI (d))), (2, .int (nI (clN (fun k => decide (A d (d + 1 + k) - tmR (trM A) d (d + 1 + k) * A d d = 0)) (k)))), (3, .int (nI (d + 1 + k + 1)))] (am_pick [1, 2, 3, 0] rfl rfl) ?_
        have ihk := ihk (U) (⟨hJX.1, hJX.2.1, hJX.2.2.eq (fun i hi j _ => by rw [show d + (R - d) = R by omega]; exact (rdI_e (A := trM A) (show d < d + 1 + k by omega) hi).symm)⟩)
        have e2 : clN (fun k => decide (A d (d + 1 + k) - tmR (trM A) d (d + 1 + k) * A d d = 0)) (k + 1) = clN (fun k => decide (A d (d + 1 + k) - tmR (trM A) d (d + 1 + k) * A d d = 0)) (k) := by exact hcl
        rw [e2] at ihk
        exact ihk
      · have hcl : clN (fun k => decide (A d (d + 1 + k) - tmR (trM A) d (d + 1 + k) * A d d = 0)) (k + 1) = 0 := if_neg (fun g => c87 ((lg_z _ _).mpr ((i64_z (hs2 _ (by omega))).mpr (of_decide_eq_true g))))
        refine an_iconst 0 d30_90 rfl ?_
        refine as_istore_n d30_91 (by decide) ?_
        refine an_iinc 1 d30_92 rfl rfl (by decide) ?_
        refine as_goto 6 d30_95 (by decide) ?_
        refine AW.loc [(0, .ref (22)), (1, .int (nI (d))), (2, .int (nI (0))), (3, .int (nI (d + 1 + k + 1)))] (am_pick [2, 3, 1, 0] rfl rfl) ?_
        have ihk := ihk (U) (⟨hJX.1, hJX.2.1, hJX.2.2.eq (fun i hi j _ => by rw [show d + (R - d) = R by omega]; exact (rdI_e (A := trM A) (show d < d + 1 + k by omega) hi).symm)⟩)
        have e2 : clN (fun k => decide (A d (d + 1 + k) - tmR (trM A) d (d + 1 + k) * A d d = 0)) (k + 1) = 0 := by exact hcl
        rw [e2] at ihk
        exact ihk
  · refine as_iload_n d30_6 rfl ?_
    refine as_aload_n d30_7 rfl ?_
    refine ap_get d30_8 f30_49 (by decide) rfl rfl ?_
    refine an_top (e' := nI (C)) (hX.2.2.2.1) ?_
    refine an_icmp_ge 98 d30_11 (by decide) (by omega) (by omega) (fun c11 => ?_) (fun c11 => by omega)
    refine as_iload_n d30_98 rfl ?_
    refine as_ireturn d30_99 (by rw [t30]; rcases clN_or (fun k => decide (A d (d + 1 + k) - tmR (trM A) d (d + 1 + k) * A d d = 0)) (C - (d + 1)) with q | q <;> rw [q] <;> rfl) ?_
    exact ⟨_, _, rfl, rfl, hX.1, hX.2.1, hX.2.2.eq (fun i _ j _ => by rw [show d + 1 + (C - (d + 1)) = C by omega])⟩
