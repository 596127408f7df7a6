/-! holes: does the number at d divide the rest (class) -/
def dvP (A : Nat → Nat → Int) (d r c : Nat) : Prop := A r c = (A r c).tdiv (A d d) * A d d
/-- row r comes to row d -/
def adR (A : Nat → Nat → Int) (d r : Nat) (i j : Nat) : Int := if i = d then A d j + A r j else A i j
theorem sm_tdm {a b : Int} (h : sm a) : sm (a.tdiv b * b) := by
  have h1 : a.tdiv b * b = a - a.tmod b := by
    have := Int.mul_tdiv_add_tmod a b
    rw [Int.mul_comm b] at this
    omega
  have h2 : (a.tdiv b * b).natAbs ≤ a.natAbs := by
    rw [Int.natAbs_mul, Int.natAbs_tdiv]
    exact Nat.div_mul_le_self _ _
  have := h.1
  have := h.2
  exact ⟨by omega, by omega⟩
theorem mx_dividesRestC (X : am_X) (S : MS) (R C : Nat) (A : Nat → Nat → Int) (hR : R ≤ 18) (hC : C ≤ 6) (h : MXc S R C A) (d : Nat) (hd : d < R) (hd2 : d < C) (hs : ∀ i, d ≤ i → i < R → ∀ j, d ≤ j → j < C → sm (A i j)) : ∃ v T, MC X 32 [.ref (22), .int (nI (d))] S v T ∧ dKeep S T ∧ T.2.2.2 = S.2.2.2 ∧ ((v = some (.int (nI 1)) ∧ MXc T R C A ∧ ∀ r, d < r → r < R → ∀ c, d < c → c < C → dvP A d r c) ∨ (v = some (.int (nI 0)) ∧ ∃ r c, d < r ∧ r < R ∧ d < c ∧ c < C ∧ ¬ dvP A d r c ∧ MXc T R C (adR A d r))) := by
  refine MX.mc (X := X) (mj := 32) (as := [.ref (22), .int (nI (d))]) (S := S) (Post := fun v T => dKeep S T ∧ T.2.2.2 = S.2.2.2 ∧ ((v = some (.int (nI 1)) ∧ MXc T R C A ∧ ∀ r, d < r → r < R → ∀ c, d < c → c < C → dvP A d r c) ∨ (v = some (.int (nI 0)) ∧ ∃ r c, d < r ∧ r < R ∧ d < c ∧ c < C ∧ ¬ dvP A d r c ∧ MXc T R C (adR A d r)))) ?_
  refine MX.of (Nat.le_of_ble_eq_true rfl) ?_
  refine as_aload_n d32_0 rfl ?_
  refine ap_get d32_1 f32_13 (by decide) rfl rfl ?_
  refine as_iload_n d32_4 rfl ?_
  refine ap_aald d32_5 isQ23 (Or.inr rfl) (by decide) (by omega) (by decide) (an_topr (show _ = S.2.2.2 23 (d) from rfl) ?_)
  refine as_iload_n d32_6 rfl ?_
  refine ap_lald d32_7 (isJ_row (h.2.2.1 (d) (by omega))) (by have := h.2.2.1 (d) (by omega); omega) (by omega) (by decide) (an_topl (e' := Int64.ofInt (A d d)) (h.2.2.2.2 d hd d hd2) ?_)
  refine as_lstore_n d32_8 (by decide) ?_
  refine as_iload_n d32_9 rfl ?_
  refine an_iconst 1 d32_10 rfl ?_
  refine an_iadd d32_11 ?_
  refine as_istore d32_12 (by decide) ?_
  refine AW.loc [(0, .ref (22)), (1, .int (nI (d))), (2, .long (Int64.ofInt (A d d))), (4, .int (nI ((d) + (1))))] (am_pick [2, 3, 1, 0] rfl rfl) ?_
  refine aw_fromE (fun k T => ((14, [(0, .ref (22)), (1, .int (nI (d))), (2, .long (Int64.ofInt (A d d))), (4, .int (nI (d + 1 + k)))], [], 208, HP (T), 0, 0) : am_Z)) (fun k T => dKeep S T ∧ T.2.2.2 = S.2.2.2 ∧ MXc T R C A ∧ ∀ r, d < r → r < d + 1 + k → ∀ c, d < c → c < C → dvP A d r c) (0) (R - (d + 1)) (by omega) (S) (rfl) (⟨dKeep.rf S, rfl, h, fun r q1 q2 => by omega⟩) (fun k T hk0 hk hI ihk => ?_) (fun T hX => ?_)
  · refine as_iload d32_14 rfl ?_
    refine as_aload_n d32_16 rfl ?_
    refine ap_get d32_17 f32_24 (by decide) rfl rfl ?_
    refine an_top (e' := nI (R)) (hI.2.2.1.1) ?_
    refine an_icmp_ge 88 d32_20 (by decide) (by omega) (by omega) (fun c20 => by omega) (fun c20 => ?_)
    refine as_iload_n d32_23 rfl ?_
    refine an_iconst 1 d32_24 rfl ?_
    refine an_iadd d32_25 ?_
    refine as_istore d32_26 (by decide) ?_
    refine AW.loc [(0, .ref (22)), (1, .int (nI (d))), (2, .long (Int64.ofInt (A d d))), (4, .int (nI (d + 1 + k))), (5, .int (nI ((d) + (1))))] (am_pick [1, 2, 3, 4, 0] rfl rfl) ?_
    refine aw_fromE (fun c U => ((28, [(0, .ref (22)), (1, .int (nI (d))), (2, .long (Int64.ofInt (A d d))), (4, .int (nI (d + 1 + k))), (5, .int (nI (d + 1 + c)))], [], 208, HP (U), 0, 0) : am_Z)) (fun c U => dKeep S U ∧ U.2.2.2 = S.2.2.2 ∧ MXc U R C A ∧ ∀ e, d < e → e < d + 1 + c → dvP A d (d + 1 + k) e) (0) (C - (d + 1)) (by omega) (T) (rfl) (⟨hI.1, hI.2.1, hI.2.2.1, fun r q1 q2 => by omega⟩) (fun c U hc0 hc hJ ihc => ?_) (fun U hJX => ?_)
    · have tm := mc_timesOf X U (Int64.ofInt (A (d + 1 + k) (d + 1 + c))) (Int64.ofInt (A d d))
      rw [i64_times (hs _ (by omega) (by omega) _ (by omega) (by omega)) (hs d (Nat.le_refl _) hd d (Nat.le_refl _) hd2)] at tm
      refine as_iload d32_28 rfl ?_
      refine as_aload_n d32_30 rfl ?_
      refine ap_get d32_31 f32_49 (by decide) rfl rfl ?_
      refine an_top (e' := nI (C)) (hJ.2.2.1.2.1) ?_
      refine an_icmp_ge 82 d32_34 (by decide) (by omega) (by omega) (fun c34 => by omega) (fun c34 => ?_)
      refine as_aload_n d32_37 rfl ?_
      refine ap_get d32_38 f32_13 (by decide) rfl rfl ?_
      refine as_iload d32_41 rfl ?_
      refine ap_aald d32_43 isQ23 (Or.inr rfl) (by decide) (by omega) (by decide) (an_topr (show _ = U.2.2.2 23 (d + 1 + k) from rfl) ?_)
      refine as_iload d32_44 rfl ?_
      refine ap_lald d32_46 (isJ_row (hJ.2.2.1.2.2.1 (d + 1 + k) (by omega))) (by have := hJ.2.2.1.2.2.1 (d + 1 + k) (by omega); omega) (by omega) (by decide) (an_topl (e' := Int64.ofInt (A (d + 1 + k) (d + 1 + c))) (hJ.2.2.1.2.2.2.2 _ (by omega) _ (by omega)) ?_)
      refine as_aload_n d32_47 rfl ?_
      refine ap_get d32_48 f32_13 (by decide) rfl rfl ?_
      refine as_iload d32_51 rfl ?_
      refine ap_aald d32_53 isQ23 (Or.inr rfl) (by decide) (by omega) (by decide) (an_topr (show _ = U.2.2.2 23 (d + 1 + k) from rfl) ?_)
      refine as_iload d32_54 rfl ?_
      refine ap_lald d32_56 (isJ_row (hJ.2.2.1.2.2.1 (d + 1 + k) (by omega))) (by have := hJ.2.2.1.2.2.1 (d + 1 + k) (by omega); omega) (by omega) (by decide) (an_topl (e' := Int64.ofInt (A (d + 1 + k) (d + 1 + c))) (hJ.2.2.1.2.2.2.2 _ (by omega) _ (by omega)) ?_)
      refine as_lload_n d32_57 rfl ?_
      refine ac_s2 d32_58 c32_118 (by decide) (Nat.le_of_ble_eq_true rfl) (tm) ?_
      refine as_lload_n d32_61 rfl ?_
      refine as_lmul d32_62 ?_
      refine as_lcmp d32_63 ?_
      refine as_if_eq 76 d32_64 (by decide) (fun c64 => ?_) (fun c64 => ?_)
      · have hdv : dvP A d (d + 1 + k) (d + 1 + c) := (i64_eq (hs _ (by omega) (by omega) _ (by omega) (by omega)) (sm_tdm (hs _ (by omega) (by omega) _ (by omega) (by omega)))).mp (((lg_z _ _).mp c64).trans (Int64.ofInt_mul _ _).symm)
        refine an_iinc 1 d32_76 rfl rfl (by decide) ?_
        refine as_goto 28 d32_79 (by decide) ?_
        refine AW.loc [(0, .ref (22)), (1, .int (nI (d))), (2, .long (Int64.ofInt (A d d))), (4, .int (nI (d + 1 + k))), (5, .int (nI (d + 1 + c + 1)))] (am_pick [1, 2, 3, 4, 0] rfl rfl) ?_
        have ihc := ihc (U) (⟨hJ.1, hJ.2.1, hJ.2.2.1, fun e q1 q2 => by
            by_cases w : e = d + 1 + c
            · subst w; exact hdv
            · exact hJ.2.2.2 e q1 (by omega)⟩)
        exact ihc
      · have hnd : ¬ dvP A d (d + 1 + k) (d + 1 + c) := fun g => c64 ((lg_z _ _).mpr ((congrArg Int64.ofInt g).trans (Int64.ofInt_mul _ _)))
        obtain ⟨V, m1, m2, m3, m4⟩ := mx_addRowC X U R C A hR hC hJ.2.2.1 d (d + 1 + k) hd (by omega) (by omega)
        refine as_aload_n d32_67 rfl ?_
        refine as_iload_n d32_68 rfl ?_
        refine as_iload d32_69 rfl ?_
        refine ac_v2 d32_71 c32_122 (by decide) rfl (Nat.le_of_ble_eq_true rfl) (m1) ?_
        refine an_iconst 0 d32_74 rfl ?_
        refine as_ireturn d32_75 (by rw [t32]; rfl) ?_
        exact ⟨_, _, rfl, hJ.1.trans m2, m3.trans hJ.2.1, Or.inr ⟨rfl, d + 1 + k, d + 1 + c, by omega, by omega, by omega, by omega, hnd, m4⟩⟩
    · refine as_iload d32_28 rfl ?_
      refine as_aload_n d32_30 rfl ?_
      refine ap_get d32_31 f32_49 (by decide) rfl rfl ?_
      refine an_top (e' := nI (C)) (hJX.2.2.1.2.1) ?_
      refine an_icmp_ge 82 d32_34 (by decide) (by omega) (by omega) (fun c34 => ?_) (fun c34 => by omega)
      refine an_iinc 1 d32_82 rfl rfl (by decide) ?_
      refine as_goto 14 d32_85 (by decide) ?_
      refine AW.loc [(0, .ref (22)), (1, .int (nI (d))), (2, .long (Int64.ofInt (A d d))), (4, .int (nI (d + 1 + k + 1)))] (am_pick [1, 2, 3, 0] rfl rfl) ?_
      have ihk := ihk (U) (⟨hJX.1, hJX.2.1, hJX.2.2.1, fun r q1 q2 e q3 q4 => by
        by_cases w : r = d + 1 + k
        · subst w; exact hJX.2.2.2 e q3 (by omega)
        · exact hI.2.2.2 r q1 (by omega) e q3 q4⟩)
      exact ihk
  · refine as_iload d32_14 rfl ?_
    refine as_aload_n d32_16 rfl ?_
    refine ap_get d32_17 f32_24 (by decide) rfl rfl ?_
    refine an_top (e' := nI (R)) (hX.2.2.1.1) ?_
    refine an_icmp_ge 88 d32_20 (by decide) (by omega) (by omega) (fun c20 => ?_) (fun c20 => by omega)
    refine an_iconst 1 d32_88 rfl ?_
    refine as_ireturn d32_89 (by rw [t32]; rfl) ?_
    exact ⟨_, _, rfl, hX.1, hX.2.1, Or.inl ⟨rfl, hX.2.2.1, fun r q1 q2 => hX.2.2.2 r q1 (by omega)⟩⟩
