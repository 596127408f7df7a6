/-! holes: the reference's reduce -/
def clB (b : Nat) (f : Nat → Bool) : Nat → Nat
  | 0 => b
  | k + 1 => if f k = true then clB b f k else 0
theorem clB_le {b : Nat} (hb : b ≤ 1) (f : Nat → Bool) : ∀ k, clB b f k ≤ 1
  | 0 => hb
  | k + 1 => by
    show (if f k = true then clB b f k else 0) ≤ 1
    split
    · exact clB_le hb f k
    · omega
theorem clB_0 {b : Nat} {f : Nat → Bool} {k : Nat} (h : clB b f k = 0) : clB b f (k + 1) = 0 := by
  show (if f k = true then clB b f k else 0) = 0
  split
  · exact h
  · rfl
theorem clB_n {b : Nat} {f : Nat → Bool} {k : Nat} (h : ¬ f k = true) : clB b f (k + 1) = 0 := if_neg h
theorem clB_1 {b : Nat} {f : Nat → Bool} {k : Nat} (hb : b ≤ 1) (h : f k = true) (g : ¬ clB b f k = 0) : clB b f (k + 1) = 1 := by
  have := clB_le hb f k
  rw [show clB b f (k + 1) = clB b f k from if_pos h]
  omega
theorem clB_dec {b : Nat} (hb : b ≤ 1) (f : Nat → Bool) : ∀ n, (clB b f n = 1 ∧ b = 1 ∧ ∀ k, k < n → f k = true) ∨ (clB b f n = 0 ∧ (b = 0 ∨ ∃ k, k < n ∧ ¬ f k = true))
  | 0 => by
    show (b = 1 ∧ _) ∨ (b = 0 ∧ _)
    by_cases h : b = 0
    · exact Or.inr ⟨h, Or.inl h⟩
    · exact Or.inl ⟨by omega, by omega, fun k hk => by omega⟩
  | n + 1 => by
    by_cases h : f n = true
    · rw [show clB b f (n + 1) = clB b f n from if_pos h]
      rcases clB_dec hb f n with ⟨h1, h2, h3⟩ | ⟨h1, h2⟩
      · refine Or.inl ⟨h1, h2, fun k hk => ?_⟩
        by_cases w : k = n
        · rw [w]; exact h
        · exact h3 k (by omega)
      · refine Or.inr ⟨h1, h2.elim Or.inl (fun ⟨k, a, c⟩ => Or.inr ⟨k, by omega, c⟩)⟩
    · exact Or.inr ⟨if_neg h, Or.inr ⟨n, by omega, h⟩⟩
theorem i64_rem {a b : Int} (ha : sm a) (hb : sm b) : Int64.ofInt a - Int64.ofInt a / Int64.ofInt b * Int64.ofInt b = Int64.ofInt (a - a.tdiv b * b) := by
  rw [i64_div ha hb, Int64.ofInt_sub, Int64.ofInt_mul]
/-- row r comes to row d, from column d on -/
def adS (A : MT) (d r f : Nat) (i j : Nat) : Int := if i = d ∧ d ≤ j ∧ j < f then A d j + A r j else A i j
theorem mx_reduceR (X : am_X) (S : MS) (R C : Nat) (A : MT) (hR : R ≤ 18) (hC : C ≤ 6) (h : MXr S R C A) (d : Nat) (hd : d < R) (hd2 : d < C) (hnz : A d d ≠ 0) (hs1 : ∀ i, i < R → sm (A i d)) (hs2 : ∀ j, j < C → sm (A d j)) (hs3 : smB (rcM (rdR A d R) d C) d R C) : ∃ v T, MC X 147 [.ref (189), .int (nI (d))] S v T ∧ tKeep S T ∧ ((v = some (.int (nI 0)) ∧ ((∃ i, d < i ∧ i < R ∧ (rdR A d R) i d ≠ 0) ∨ ∃ j, d < j ∧ j < C ∧ (rcM (rdR A d R) d C) d j ≠ 0) ∧ MXr T R C (rcM (rdR A d R) d C)) ∨ ((∀ i, d < i → i < R → (rdR A d R) i d = 0) ∧ (∀ j, d < j → j < C → (rcM (rdR A d R) d C) d j = 0) ∧ ((v = some (.int (nI 1)) ∧ (∀ r, d < r → r < R → ∀ c, d < c → c < C → dvP (rcM (rdR A d R) d C) d r c) ∧ MXr T R C (rcM (rdR A d R) d C)) ∨ (v = some (.int (nI 0)) ∧ ∃ r c, d < r ∧ r < R ∧ d < c ∧ c < C ∧ ¬ dvP (rcM (rdR A d R) d C) d r c ∧ MXr T R C (adS (rcM (rdR A d R) d C) d r C))))) := by
  have hdd : Int64.ofInt (A d d) ≠ 0 := fun q => hnz ((i64_z (hs1 d hd)).mp q)
  have hD1 : clB 1 (fun k => decide (A (d + 1 + k) d - tmR A d (d + 1 + k) * A d d = 0)) (R - (d + 1)) ≤ 1 := clB_le (Nat.le_refl 1) _ _
  have hD2 : clB (clB 1 (fun k => decide (A (d + 1 + k) d - tmR A d (d + 1 + k) * A d d = 0)) (R - (d + 1))) (fun k => decide ((rdR A d R) d (d + 1 + k) - tmR (trM (rdR A d R)) d (d + 1 + k) * (rdR A d R) d d = 0)) (C - (d + 1)) ≤ 1 := clB_le hD1 _ _
  have e22 : (rdR A d R) d d = A d d := rdR_d
  have e33 : (rcM (rdR A d R) d C) d d = A d d := (rcM_row (Nat.le_refl d) d).trans e22
  refine MX.mc (X := X) (mj := 147) (as := [.ref (189), .int (nI (d))]) (S := S) (Post := fun v T => tKeep S T ∧ ((v = some (.int (nI 0)) ∧ ((∃ i, d < i ∧ i < R ∧ (rdR A d R) i d ≠ 0) ∨ ∃ j, d < j ∧ j < C ∧ (rcM (rdR A d R) d C) d j ≠ 0) ∧ MXr T R C (rcM (rdR A d R) d C)) ∨ ((∀ i, d < i → i < R → (rdR A d R) i d = 0) ∧ (∀ j, d < j → j < C → (rcM (rdR A d R) d C) d j = 0) ∧ ((v = some (.int (nI 1)) ∧ (∀ r, d < r → r < R → ∀ c, d < c → c < C → dvP (rcM (rdR A d R) d C) d r c) ∧ MXr T R C (rcM (rdR A d R) d C)) ∨ (v = some (.int (nI 0)) ∧ ∃ r c, d < r ∧ r < R ∧ d < c ∧ c < C ∧ ¬ dvP (rcM (rdR A d R) d C) d r c ∧ MXr T R C (adS (rcM (rdR A d R) d C) d r C)))))) ?_
  refine MX.of (Nat.le_of_ble_eq_true rfl) ?_
  refine an_iconst 1 d147_0 rfl ?_
  refine as_istore_n d147_1 (by decide) ?_
  refine as_iload_n d147_2 rfl ?_
  refine an_iconst 1 d147_3 rfl ?_
  refine an_iadd d147_4 ?_
  refine as_istore_n d147_5 (by decide) ?_
  refine AW.loc [(0, .ref (189)), (1, .int (nI (d))), (2, .int (nI (1))), (3, .int (nI ((d) + (1))))] (am_pick [2, 3, 1, 0] rfl rfl) ?_
  refine aw_fromE (fun k T => ((6, [(0, .ref (189)), (1, .int (nI (d))), (2, .int (nI (clB 1 (fun k => decide (A (d + 1 + k) d - tmR A d (d + 1 + k) * A d d = 0)) (k)))), (3, .int (nI (d + 1 + k)))], [], 208, HP (T), 0, 0) : am_Z)) (fun k T => tKeep S T ∧ MXr T R C (rdR A d (d + 1 + k))) (0) (R - (d + 1)) (by omega) (S) (rfl) (⟨tKeep.rf S, h.eq (fun r _ c _ => rdR_0 A d r c)⟩) (fun k T hk0 hk hI ihk => ?_) (fun T hX => ?_)
  · have q1 := (hI.2.2.2 (d + 1 + k) (by omega) d hd2).trans (congrArg Int64.ofInt (rdR_at (A := A)))
    have q2 := (hI.2.2.2 d hd d hd2).trans (congrArg Int64.ofInt (rdR_d (A := A)))
    refine as_iload_n d147_6 rfl ?_
    refine as_aload_n d147_7 rfl ?_
    refine ap_get d147_8 f147_162 (by decide) rfl rfl ?_
    refine an_top (e' := nI (R)) (hI.2.1) ?_
    refine an_icmp_ge 99 d147_11 (by decide) (by omega) (by omega) (fun c11 => by omega) (fun c11 => ?_)
    refine as_aload_n d147_14 rfl ?_
    refine as_iload_n d147_15 rfl ?_
    refine as_iload_n d147_16 rfl ?_
    refine ac_v2 d147_17 c147_173 (by decide) rfl (Nat.le_of_ble_eq_true rfl) (mc_cell X T (d + 1 + k) d (by omega) (by omega)) ?_
    refine an_topl (e' := Int64.ofInt (A (d + 1 + k) d)) (q1) ?_
    refine as_aload_n d147_20 rfl ?_
    refine as_iload_n d147_21 rfl ?_
    refine as_iload_n d147_22 rfl ?_
    refine ac_v2 d147_23 c147_173 (by decide) rfl (Nat.le_of_ble_eq_true rfl) (mc_cell X T d d (by omega) (by omega)) ?_
    refine an_topl (e' := Int64.ofInt (A d d)) (q2) ?_
    refine as_ldiv d147_26 (hdd) ?_
    refine an_topl (e' := Int64.ofInt (tmR A d (d + 1 + k))) (i64_div (hs1 _ (by omega)) (hs1 _ hd)) ?_
    refine as_lstore d147_27 (by decide) ?_
    refine as_iload_n d147_29 rfl ?_
    refine as_istore d147_30 (by decide) ?_
    refine AW.loc [(0, .ref (189)), (1, .int (nI (d))), (2, .int (nI (clB 1 (fun k => decide (A (d + 1 + k) d - tmR A d (d + 1 + k) * A d d = 0)) (k)))), (3, .int (nI (d + 1 + k))), (4, .long (Int64.ofInt (tmR A d (d + 1 + k)))), (6, .int (nI (d)))] (am_pick [2, 3, 4, 5, 1, 0] rfl rfl) ?_
    refine aw_fromE (fun c U => ((32, [(0, .ref (189)), (1, .int (nI (d))), (2, .int (nI (clB 1 (fun k => decide (A (d + 1 + k) d - tmR A d (d + 1 + k) * A d d = 0)) (k)))), (3, .int (nI (d + 1 + k))), (4, .long (Int64.ofInt (tmR A d (d + 1 + k)))), (6, .int (nI (d + c)))], [], 208, HP (U), 0, 0) : am_Z)) (fun c U => tKeep S U ∧ MXr U R C (rdI A d (d + 1 + k) (d + c))) (0) (C - d) (by omega) (T) (rfl) (⟨hI.1, hI.2.eq (fun r _ c _ => rdI_0 A d _ r c)⟩) (fun c U hc0 hc hJ ihc => ?_) (fun U hJX => ?_)
    · have q3 := (hJ.2.2.2 (d + 1 + k) (by omega) (d + c) (by omega)).trans (congrArg Int64.ofInt (rdI_at (A := A)))
      have q4 := (hJ.2.2.2 d hd (d + c) (by omega)).trans (congrArg Int64.ofInt (rdI_d (A := A) (show d < d + 1 + k by omega)))
      refine as_iload d147_32 rfl ?_
      refine as_aload_n d147_34 rfl ?_
      refine ap_get d147_35 f147_159 (by decide) rfl rfl ?_
      refine an_top (e' := nI (C)) (hJ.2.2.1) ?_
      refine an_icmp_ge 72 d147_38 (by decide) (by omega) (by omega) (fun c38 => by omega) (fun c38 => ?_)
      refine as_aload_n d147_41 rfl ?_
      refine ap_get d147_42 f147_34 (by decide) rfl rfl ?_
      refine an_bipush 6 d147_45 rfl ?_
      refine as_iload_n d147_47 rfl ?_
      refine an_imul d147_48 ?_
      refine as_iload d147_49 rfl ?_
      refine an_iadd d147_51 ?_
      refine as_dup2 d147_52 rfl rfl ?_
      refine ap_lald d147_53 (fun _ _ _ _ => rfl) (by decide) (by omega) (by decide) ?_
      refine an_topl (e' := Int64.ofInt (A (d + 1 + k) (d + c))) (q3) ?_
      refine as_lload d147_54 rfl ?_
      refine as_aload_n d147_56 rfl ?_
      refine as_iload_n d147_57 rfl ?_
      refine as_iload d147_58 rfl ?_
      refine ac_v2 d147_60 c147_173 (by decide) rfl (Nat.le_of_ble_eq_true rfl) (mc_cell X U d (d + c) (by omega) (by omega)) ?_
      refine an_topl (e' := Int64.ofInt (A d (d + c))) (q4) ?_
      refine as_lmul d147_63 ?_
      refine as_lsub d147_64 ?_
      refine ap_last d147_65 (fun _ _ _ _ => rfl) (by decide) (by omega) (by decide) ?_
      have hst := hJ.2.sl hC (r := d + 1 + k) (c := d + c) (by omega) (y := Int64.ofInt (A (d + 1 + k) (d + c)) - Int64.ofInt (tmR A d (d + 1 + k)) * Int64.ofInt (A d (d + c))) (v := A (d + 1 + k) (d + c) - tmR A d (d + 1 + k) * A d (d + c)) (by rw [Int64.ofInt_sub, Int64.ofInt_mul])
      refine an_iinc 1 d147_66 rfl rfl (by decide) ?_
      refine as_goto 32 d147_69 (by decide) ?_
      refine AW.loc [(0, .ref (189)), (1, .int (nI (d))), (2, .int (nI (clB 1 (fun k => decide (A (d + 1 + k) d - tmR A d (d + 1 + k) * A d d = 0)) (k)))), (3, .int (nI (d + 1 + k))), (4, .long (Int64.ofInt (tmR A d (d + 1 + k)))), (6, .int (nI (d + c + 1)))] (am_pick [1, 2, 3, 4, 5, 0] rfl rfl) ?_
      have ihc := ihc ((U).sl 198 (((6) * (d + 1 + k)) + (d + c)) ((Int64.ofInt (A (d + 1 + k) (d + c))) - ((Int64.ofInt (tmR A d (d + 1 + k))) * (Int64.ofInt (A d (d + c)))))) (⟨hJ.1.sl _ _, hst.eq (fun i _ j _ => rdI_s (show d ≤ d + c by omega) i j)⟩)
      exact ihc
    · refine as_iload d147_32 rfl ?_
      refine as_aload_n d147_34 rfl ?_
      refine ap_get d147_35 f147_159 (by decide) rfl rfl ?_
      refine an_top (e' := nI (C)) (hJX.2.2.1) ?_
      refine an_icmp_ge 72 d147_38 (by decide) (by omega) (by omega) (fun c38 => ?_) (fun c38 => by omega)
      refine as_iload_n d147_72 rfl ?_
      refine an_if_eq 91 d147_73 (by decide) (by have := clB_le (Nat.le_refl 1) (fun k => decide (A (d + 1 + k) d - tmR A d (d + 1 + k) * A d d = 0)) k; omega) (fun c73 => ?_) (fun c73 => ?_)
      · have hf : clB 1 (fun k => decide (A (d + 1 + k) d - tmR A d (d + 1 + k) * A d d = 0)) (k + 1) = 0 := clB_0 c73
        refine an_iconst 0 d147_91 rfl ?_
        refine as_istore_n d147_92 (by decide) ?_
        refine an_iinc 1 d147_93 rfl rfl (by decide) ?_
        refine as_goto 6 d147_96 (by decide) ?_
        refine AW.loc [(0, .ref (189)), (1, .int (nI (d))), (2, .int (nI (0))), (3, .int (nI (d + 1 + k + 1)))] (am_pick [2, 3, 1, 0] rfl rfl) ?_
        have ihk := ihk (U) (⟨hJX.1, hJX.2.eq (fun i _ j hj => by rw [show d + (C - d) = C by omega]; exact (rdI_e (A := A) (show d < d + 1 + k by omega) hj).symm)⟩)
        have e2 : clB 1 (fun k => decide (A (d + 1 + k) d - tmR A d (d + 1 + k) * A d d = 0)) (k + 1) = 0 := by exact hf
        rw [e2] at ihk
        exact ihk
      · refine as_aload_n d147_76 rfl ?_
        refine as_iload_n d147_77 rfl ?_
        refine as_iload_n d147_78 rfl ?_
        refine ac_v2 d147_79 c147_173 (by decide) rfl (Nat.le_of_ble_eq_true rfl) (mc_cell X U (d + 1 + k) d (by omega) (by omega)) ?_
        refine an_topl (e' := Int64.ofInt (A (d + 1 + k) d - tmR A d (d + 1 + k) * A d d)) ((hJX.2.2.2 (d + 1 + k) (by omega) d hd2).trans (congrArg Int64.ofInt (if_pos (by omega)))) ?_
        refine as_lconst d147_82 ?_
        refine as_lcmp d147_83 ?_
        refine as_if_ne 91 d147_84 (by decide) (fun c84 => ?_) (fun c84 => ?_)
        · have hf : clB 1 (fun k => decide (A (d + 1 + k) d - tmR A d (d + 1 + k) * A d d = 0)) (k + 1) = 0 := clB_n (fun q => c84 ((lg_z _ _).mpr ((i64_z (sm_tm (hs1 _ (by omega)))).mpr (of_decide_eq_true q))))
          refine an_iconst 0 d147_91 rfl ?_
          refine as_istore_n d147_92 (by decide) ?_
          refine an_iinc 1 d147_93 rfl rfl (by decide) ?_
          refine as_goto 6 d147_96 (by decide) ?_
          refine AW.loc [(0, .ref (189)), (1, .int (nI (d))), (2, .int (nI (0))), (3, .int (nI (d + 1 + k + 1)))] (am_pick [2, 3, 1, 0] rfl rfl) ?_
          have ihk := ihk (U) (⟨hJX.1, hJX.2.eq (fun i _ j hj => by rw [show d + (C - d) = C by omega]; exact (rdI_e (A := A) (show d < d + 1 + k by omega) hj).symm)⟩)
          have e2 : clB 1 (fun k => decide (A (d + 1 + k) d - tmR A d (d + 1 + k) * A d d = 0)) (k + 1) = 0 := by exact hf
          rw [e2] at ihk
          exact ihk
        · have hf : clB 1 (fun k => decide (A (d + 1 + k) d - tmR A d (d + 1 + k) * A d d = 0)) (k + 1) = 1 := clB_1 (Nat.le_refl 1) (decide_eq_true ((i64_z (sm_tm (hs1 _ (by omega)))).mp ((lg_z _ _).mp c84))) c73
          refine an_iconst 1 d147_87 rfl ?_
          refine as_goto 92 d147_88 (by decide) ?_
          refine as_istore_n d147_92 (by decide) ?_
          refine an_iinc 1 d147_93 rfl rfl (by decide) ?_
          refine as_goto 6 d147_96 (by decide) ?_
          refine AW.loc [(0, .ref (189)), (1, .int (nI (d))), (2, .int (nI (1))), (3, .int (nI (d + 1 + k + 1)))] (am_pick [2, 3, 1, 0] rfl rfl) ?_
          have ihk := ihk (U) (⟨hJX.1, hJX.2.eq (fun i _ j hj => by rw [show d + (C - d) = C by omega]; exact (rdI_e (A := A) (show d < d + 1 + k by omega) hj).symm)⟩)
          have e2 : clB 1 (fun k => decide (A (d + 1 + k) d - tmR A d (d + 1 + k) * A d d = 0)) (k + 1) = 1 := by exact hf
          rw [e2] at ihk
          exact ihk
  · have hs2b : ∀ j, j < C → sm ((rdR A d R) d j) := fun j hj => by rw [rdR_d]; exact hs2 j hj
    refine as_iload_n d147_6 rfl ?_
    refine as_aload_n d147_7 rfl ?_
    refine ap_get d147_8 f147_162 (by decide) rfl rfl ?_
    refine an_top (e' := nI (R)) (hX.2.1) ?_
    refine an_icmp_ge 99 d147_11 (by decide) (by omega) (by omega) (fun c11 => ?_) (fun c11 => by omega)
    refine as_iload_n d147_99 rfl ?_
    refine an_iconst 1 d147_100 rfl ?_
    refine an_iadd d147_101 ?_
    refine as_istore_n d147_102 (by decide) ?_
    refine AW.loc [(0, .ref (189)), (1, .int (nI (d))), (2, .int (nI (clB 1 (fun k => decide (A (d + 1 + k) d - tmR A d (d + 1 + k) * A d d = 0)) ((R - (d + 1)))))), (3, .int (nI ((d) + (1))))] (am_pick [1, 2, 3, 0] rfl rfl) ?_
    refine aw_fromE (fun k T => ((103, [(0, .ref (189)), (1, .int (nI (d))), (2, .int (nI (clB (clB 1 (fun k => decide (A (d + 1 + k) d - tmR A d (d + 1 + k) * A d d = 0)) (R - (d + 1))) (fun k => decide ((rdR A d R) d (d + 1 + k) - tmR (trM (rdR A d R)) d (d + 1 + k) * (rdR A d R) d d = 0)) (k)))), (3, .int (nI (d + 1 + k)))], [], 208, HP (T), 0, 0) : am_Z)) (fun k T => tKeep S T ∧ MXr T R C (fun i j => rdR (trM (rdR A d R)) d (d + 1 + k) j i)) (0) (C - (d + 1)) (by omega) (T) (rfl) (⟨hX.1, hX.2.eq (fun i hi j _ => by rw [show d + 1 + (R - (d + 1)) = R by omega]; exact rdR_0 (trM (rdR A d R)) d j i)⟩) (fun k T hk0 hk hI ihk => ?_) (fun T hX2 => ?_)
    · have q1 := (hI.2.2.2 d hd (d + 1 + k) (by omega)).trans (congrArg Int64.ofInt (rdR_at (A := trM (rdR A d R))))
      have q2 := (hI.2.2.2 d hd d hd2).trans (congrArg Int64.ofInt (rdR_d (A := trM (rdR A d R))))
      refine as_iload_n d147_103 rfl ?_
      refine as_aload_n d147_104 rfl ?_
      refine ap_get d147_105 f147_159 (by decide) rfl rfl ?_
      refine an_top (e' := nI (C)) (hI.2.2.1) ?_
      refine an_icmp_ge 196 d147_108 (by decide) (by omega) (by omega) (fun c108 => by omega) (fun c108 => ?_)
      refine as_aload_n d147_111 rfl ?_
      refine as_iload_n d147_112 rfl ?_
      refine as_iload_n d147_113 rfl ?_
      refine ac_v2 d147_114 c147_173 (by decide) rfl (Nat.le_of_ble_eq_true rfl) (mc_cell X T d (d + 1 + k) (by omega) (by omega)) ?_
      refine an_topl (e' := Int64.ofInt ((rdR A d R) d (d + 1 + k))) (q1) ?_
      refine as_aload_n d147_117 rfl ?_
      refine as_iload_n d147_118 rfl ?_
      refine as_iload_n d147_119 rfl ?_
      refine ac_v2 d147_120 c147_173 (by decide) rfl (Nat.le_of_ble_eq_true rfl) (mc_cell X T d d (by omega) (by omega)) ?_
      refine an_topl (e' := Int64.ofInt ((rdR A d R) d d)) (q2) ?_
      refine as_ldiv d147_123 (fun q => hdd (by rw [← e22]; exact q)) ?_
      refine an_topl (e' := Int64.ofInt (tmR (trM (rdR A d R)) d (d + 1 + k))) (i64_div (hs2b _ (by omega)) (hs2b _ hd2)) ?_
      refine as_lstore d147_124 (by decide) ?_
      refine as_iload_n d147_126 rfl ?_
      refine as_istore d147_127 (by decide) ?_
      refine AW.loc [(0, .ref (189)), (1, .int (nI (d))), (2, .int (nI (clB (clB 1 (fun k => decide (A (d + 1 + k) d - tmR A d (d + 1 + k) * A d d = 0)) (R - (d + 1))) (fun k => decide ((rdR A d R) d (d + 1 + k) - tmR (trM (rdR A d R)) d (d + 1 + k) * (rdR A d R) d d = 0)) (k)))), (3, .int (nI (d + 1 + k))), (4, .long (Int64.ofInt (tmR (trM (rdR A d R)) d (d + 1 + k)))), (6, .int (nI (d)))] (am_pick [2, 3, 4, 5, 1, 0] rfl rfl) ?_
      refine aw_fromE (fun c U => ((129, [(0, .ref (189)), (1, .int (nI (d))), (2, .int (nI (clB (clB 1 (fun k => decide (A (d + 1 + k) d - tmR A d (d + 1 + k) * A d d = 0)) (R - (d + 1))) (fun k => decide ((rdR A d R) d (d + 1 + k) - tmR (trM (rdR A d R)) d (d + 1 + k) * (rdR A d R) d d = 0)) (k)))), (3, .int (nI (d + 1 + k))), (4, .long (Int64.ofInt (tmR (trM (rdR A d R)) d (d + 1 + k)))), (6, .int (nI (d + c)))], [], 208, HP (U), 0, 0) : am_Z)) (fun c U => tKeep S U ∧ MXr U R C (fun i j => rdI (trM (rdR A d R)) d (d + 1 + k) (d + c) j i)) (0) (R - d) (by omega) (T) (rfl) (⟨hI.1, hI.2.eq (fun r _ c _ => rdI_0 (trM (rdR A d R)) d _ c r)⟩) (fun c U hc0 hc hJ ihc => ?_) (fun U hJX => ?_)
      · have q3 := (hJ.2.2.2 (d + c) (by omega) (d + 1 + k) (by omega)).trans (congrArg Int64.ofInt (rdI_at (A := trM (rdR A d R))))
        have q4 := (hJ.2.2.2 (d + c) (by omega) d hd2).trans (congrArg Int64.ofInt (rdI_d (A := trM (rdR A d R)) (show d < d + 1 + k by omega)))
        refine as_iload d147_129 rfl ?_
        refine as_aload_n d147_131 rfl ?_
        refine ap_get d147_132 f147_162 (by decide) rfl rfl ?_
        refine an_top (e' := nI (R)) (hJ.2.1) ?_
        refine an_icmp_ge 169 d147_135 (by decide) (by omega) (by omega) (fun c135 => by omega) (fun c135 => ?_)
        refine as_aload_n d147_138 rfl ?_
        refine ap_get d147_139 f147_34 (by decide) rfl rfl ?_
        refine an_bipush 6 d147_142 rfl ?_
        refine as_iload d147_144 rfl ?_
        refine an_imul d147_146 ?_
        refine as_iload_n d147_147 rfl ?_
        refine an_iadd d147_148 ?_
        refine as_dup2 d147_149 rfl rfl ?_
        refine ap_lald d147_150 (fun _ _ _ _ => rfl) (by decide) (by omega) (by decide) ?_
        refine an_topl (e' := Int64.ofInt ((rdR A d R) (d + c) (d + 1 + k))) (q3) ?_
        refine as_lload d147_151 rfl ?_
        refine as_aload_n d147_153 rfl ?_
        refine as_iload d147_154 rfl ?_
        refine as_iload_n d147_156 rfl ?_
        refine ac_v2 d147_157 c147_173 (by decide) rfl (Nat.le_of_ble_eq_true rfl) (mc_cell X U (d + c) d (by omega) (by omega)) ?_
        refine an_topl (e' := Int64.ofInt ((rdR A d R) (d + c) d)) (q4) ?_
        refine as_lmul d147_160 ?_
        refine as_lsub d147_161 ?_
        refine ap_last d147_162 (fun _ _ _ _ => rfl) (by decide) (by omega) (by decide) ?_
        have hst := hJ.2.sl hC (r := d + c) (c := d + 1 + k) (by omega) (y := Int64.ofInt ((rdR A d R) (d + c) (d + 1 + k)) - Int64.ofInt (tmR (trM (rdR A d R)) d (d + 1 + k)) * Int64.ofInt ((rdR A d R) (d + c) d)) (v := (rdR A d R) (d + c) (d + 1 + k) - tmR (trM (rdR A d R)) d (d + 1 + k) * (rdR A d R) (d + c) d) (by rw [Int64.ofInt_sub, Int64.ofInt_mul])
        refine an_iinc 1 d147_163 rfl rfl (by decide) ?_
        refine as_goto 129 d147_166 (by decide) ?_
        refine AW.loc [(0, .ref (189)), (1, .int (nI (d))), (2, .int (nI (clB (clB 1 (fun k => decide (A (d + 1 + k) d - tmR A d (d + 1 + k) * A d d = 0)) (R - (d + 1))) (fun k => decide ((rdR A d R) d (d + 1 + k) - tmR (trM (rdR A d R)) d (d + 1 + k) * (rdR A d R) d d = 0)) (k)))), (3, .int (nI (d + 1 + k))), (4, .long (Int64.ofInt (tmR (trM (rdR A d R)) d (d + 1 + k)))), (6, .int (nI (d + c + 1)))] (am_pick [1, 2, 3, 4, 5, 0] rfl rfl) ?_
        have ihc := ihc ((U).sl 198 (((6) * (d + c)) + (d + 1 + k)) ((Int64.ofInt ((rdR A d R) (d + c) (d + 1 + k))) - ((Int64.ofInt (tmR (trM (rdR A d R)) d (d + 1 + k))) * (Int64.ofInt ((rdR A d R) (d + c) d))))) (⟨hJ.1.sl _ _, hst.eq (fun i _ j _ => rdI_sT (show d ≤ d + c by omega) i j)⟩)
        exact ihc
      · refine as_iload d147_129 rfl ?_
        refine as_aload_n d147_131 rfl ?_
        refine ap_get d147_132 f147_162 (by decide) rfl rfl ?_
        refine an_top (e' := nI (R)) (hJX.2.1) ?_
        refine an_icmp_ge 169 d147_135 (by decide) (by omega) (by omega) (fun c135 => ?_) (fun c135 => by omega)
        refine as_iload_n d147_169 rfl ?_
        refine an_if_eq 188 d147_170 (by decide) (by have := clB_le (hD1) (fun k => decide ((rdR A d R) d (d + 1 + k) - tmR (trM (rdR A d R)) d (d + 1 + k) * (rdR A d R) d d = 0)) k; omega) (fun c170 => ?_) (fun c170 => ?_)
        · have hf : clB (clB 1 (fun k => decide (A (d + 1 + k) d - tmR A d (d + 1 + k) * A d d = 0)) (R - (d + 1))) (fun k => decide ((rdR A d R) d (d + 1 + k) - tmR (trM (rdR A d R)) d (d + 1 + k) * (rdR A d R) d d = 0)) (k + 1) = 0 := clB_0 c170
          refine an_iconst 0 d147_188 rfl ?_
          refine as_istore_n d147_189 (by decide) ?_
          refine an_iinc 1 d147_190 rfl rfl (by decide) ?_
          refine as_goto 103 d147_193 (by decide) ?_
          refine AW.loc [(0, .ref (189)), (1, .int (nI (d))), (2, .int (nI (0))), (3, .int (nI (d + 1 + k + 1)))] (am_pick [2, 3, 1, 0] rfl rfl) ?_
          have ihk := ihk (U) (⟨hJX.1, hJX.2.eq (fun i hi j _ => by rw [show d + (R - d) = R by omega]; exact (rdI_e (A := trM (rdR A d R)) (show d < d + 1 + k by omega) hi).symm)⟩)
          have e2 : clB (clB 1 (fun k => decide (A (d + 1 + k) d - tmR A d (d + 1 + k) * A d d = 0)) (R - (d + 1))) (fun k => decide ((rdR A d R) d (d + 1 + k) - tmR (trM (rdR A d R)) d (d + 1 + k) * (rdR A d R) d d = 0)) (k + 1) = 0 := by exact hf
          rw [e2] at ihk
          exact ihk
        · refine as_aload_n d147_173 rfl ?_
          refine as_iload_n d147_174 rfl ?_
          refine as_iload_n d147_175 rfl ?_
          refine ac_v2 d147_176 c147_173 (by decide) rfl (Nat.le_of_ble_eq_true rfl) (mc_cell X U d (d + 1 + k) (by omega) (by omega)) ?_
          refine an_topl (e' := Int64.ofInt ((rdR A d R) d (d + 1 + k) - tmR (trM (rdR A d R)) d (d + 1 + k) * (rdR A d R) d d)) ((hJX.2.2.2 d hd (d + 1 + k) (by omega)).trans (congrArg Int64.ofInt (if_pos (by omega)))) ?_
          refine as_lconst d147_179 ?_
          refine as_lcmp d147_180 ?_
          refine as_if_ne 188 d147_181 (by decide) (fun c181 => ?_) (fun c181 => ?_)
          · have hf : clB (clB 1 (fun k => decide (A (d + 1 + k) d - tmR A d (d + 1 + k) * A d d = 0)) (R - (d + 1))) (fun k => decide ((rdR A d R) d (d + 1 + k) - tmR (trM (rdR A d R)) d (d + 1 + k) * (rdR A d R) d d = 0)) (k + 1) = 0 := clB_n (fun q => c181 ((lg_z _ _).mpr ((i64_z (sm_tm (hs2b _ (by omega)))).mpr (of_decide_eq_true q))))
            refine an_iconst 0 d147_188 rfl ?_
            refine as_istore_n d147_189 (by decide) ?_
            refine an_iinc 1 d147_190 rfl rfl (by decide) ?_
            refine as_goto 103 d147_193 (by decide) ?_
            refine AW.loc [(0, .ref (189)), (1, .int (nI (d))), (2, .int (nI (0))), (3, .int (nI (d + 1 + k + 1)))] (am_pick [2, 3, 1, 0] rfl rfl) ?_
            have ihk := ihk (U) (⟨hJX.1, hJX.2.eq (fun i hi j _ => by rw [show d + (R - d) = R by omega]; exact (rdI_e (A := trM (rdR A d R)) (show d < d + 1 + k by omega) hi).symm)⟩)
            have e2 : clB (clB 1 (fun k => decide (A (d + 1 + k) d - tmR A d (d + 1 + k) * A d d = 0)) (R - (d + 1))) (fun k => decide ((rdR A d R) d (d + 1 + k) - tmR (trM (rdR A d R)) d (d + 1 + k) * (rdR A d R) d d = 0)) (k + 1) = 0 := by exact hf
            rw [e2] at ihk
            exact ihk
          · have hf : clB (clB 1 (fun k => decide (A (d + 1 + k) d - tmR A d (d + 1 + k) * A d d = 0)) (R - (d + 1))) (fun k => decide ((rdR A d R) d (d + 1 + k) - tmR (trM (rdR A d R)) d (d + 1 + k) * (rdR A d R) d d = 0)) (k + 1) = 1 := clB_1 (hD1) (decide_eq_true ((i64_z (sm_tm (hs2b _ (by omega)))).mp ((lg_z _ _).mp c181))) c170
            refine an_iconst 1 d147_184 rfl ?_
            refine as_goto 189 d147_185 (by decide) ?_
            refine as_istore_n d147_189 (by decide) ?_
            refine an_iinc 1 d147_190 rfl rfl (by decide) ?_
            refine as_goto 103 d147_193 (by decide) ?_
            refine AW.loc [(0, .ref (189)), (1, .int (nI (d))), (2, .int (nI (1))), (3, .int (nI (d + 1 + k + 1)))] (am_pick [2, 3, 1, 0] rfl rfl) ?_
            have ihk := ihk (U) (⟨hJX.1, hJX.2.eq (fun i hi j _ => by rw [show d + (R - d) = R by omega]; exact (rdI_e (A := trM (rdR A d R)) (show d < d + 1 + k by omega) hi).symm)⟩)
            have e2 : clB (clB 1 (fun k => decide (A (d + 1 + k) d - tmR A d (d + 1 + k) * A d d = 0)) (R - (d + 1))) (fun k => decide ((rdR A d R) d (d + 1 + k) - tmR (trM (rdR A d R)) d (d + 1 + k) * (rdR A d R) d d = 0)) (k + 1) = 1 := by exact hf
            rw [e2] at ihk
            exact ihk
    · refine as_iload_n d147_103 rfl ?_
      refine as_aload_n d147_104 rfl ?_
      refine ap_get d147_105 f147_159 (by decide) rfl rfl ?_
      refine an_top (e' := nI (C)) (hX2.2.2.1) ?_
      refine an_icmp_ge 196 d147_108 (by decide) (by omega) (by omega) (fun c108 => ?_) (fun c108 => by omega)
      have hM3 : MXr T R C (rcM (rdR A d R) d C) := hX2.2.eq (fun i _ j _ => by rw [show d + 1 + (C - (d + 1)) = C by omega]; rfl)
      by_cases hD : clB (clB 1 (fun k => decide (A (d + 1 + k) d - tmR A d (d + 1 + k) * A d d = 0)) (R - (d + 1))) (fun k => decide ((rdR A d R) d (d + 1 + k) - tmR (trM (rdR A d R)) d (d + 1 + k) * (rdR A d R) d d = 0)) (C - (d + 1)) = 0
      · have hbad : (∃ i, d < i ∧ i < R ∧ (rdR A d R) i d ≠ 0) ∨ ∃ j, d < j ∧ j < C ∧ (rcM (rdR A d R) d C) d j ≠ 0 := by
          rcases clB_dec hD1 (fun k => decide ((rdR A d R) d (d + 1 + k) - tmR (trM (rdR A d R)) d (d + 1 + k) * (rdR A d R) d d = 0)) (C - (d + 1)) with ⟨w, _⟩ | ⟨_, w⟩
          · omega
          · rcases w with w | w
            · rcases clB_dec (Nat.le_refl 1) (fun k => decide (A (d + 1 + k) d - tmR A d (d + 1 + k) * A d d = 0)) (R - (d + 1)) with ⟨w2, _⟩ | ⟨_, w2⟩
              · omega
              · exact Or.inl (rr_ex (w2.resolve_left (by omega)))
            · exact Or.inr (rr_ex (B := trM (rdR A d R)) w)
        refine as_iload_n d147_196 rfl ?_
        refine an_iconst 1 d147_197 rfl ?_
        refine an_iadd d147_198 ?_
        refine as_istore_n d147_199 (by decide) ?_
        refine as_iload_n d147_200 rfl ?_
        refine as_aload_n d147_201 rfl ?_
        refine ap_get d147_202 f147_162 (by decide) rfl rfl ?_
        refine an_top (e' := nI (R)) (hX2.2.1) ?_
        refine an_icmp_ge 303 d147_205 (by decide) (by omega) (by omega) (fun c205 => ?_) (fun c205 => ?_)
        · refine as_iload_n d147_303 rfl ?_
          refine as_ireturn d147_304 (by rw [t147, hD]; rfl) ?_
          rw [hD]
          exact ⟨_, _, rfl, hX2.1, Or.inl ⟨rfl, hbad, hM3⟩⟩
        · refine as_iload_n d147_208 rfl ?_
          refine an_if_eq 303 d147_209 (by decide) (by omega) (fun c209 => ?_) (fun c209 => absurd hD c209)
          refine as_iload_n d147_303 rfl ?_
          refine as_ireturn d147_304 (by rw [t147, hD]; rfl) ?_
          rw [hD]
          exact ⟨_, _, rfl, hX2.1, Or.inl ⟨rfl, hbad, hM3⟩⟩
      · have hD' : clB (clB 1 (fun k => decide (A (d + 1 + k) d - tmR A d (d + 1 + k) * A d d = 0)) (R - (d + 1))) (fun k => decide ((rdR A d R) d (d + 1 + k) - tmR (trM (rdR A d R)) d (d + 1 + k) * (rdR A d R) d d = 0)) (C - (d + 1)) = 1 := by omega
        have hcl1 : ∀ i, d < i → i < R → (rdR A d R) i d = 0 := by
          rcases clB_dec hD1 (fun k => decide ((rdR A d R) d (d + 1 + k) - tmR (trM (rdR A d R)) d (d + 1 + k) * (rdR A d R) d d = 0)) (C - (d + 1)) with ⟨_, w, _⟩ | ⟨w, _⟩
          · rcases clB_dec (Nat.le_refl 1) (fun k => decide (A (d + 1 + k) d - tmR A d (d + 1 + k) * A d d = 0)) (R - (d + 1)) with ⟨_, _, w2⟩ | ⟨w2, _⟩
            · exact rr_all w2
            · omega
          · omega
        have hcl2 : ∀ j, d < j → j < C → (rcM (rdR A d R) d C) d j = 0 := by
          rcases clB_dec hD1 (fun k => decide ((rdR A d R) d (d + 1 + k) - tmR (trM (rdR A d R)) d (d + 1 + k) * (rdR A d R) d d = 0)) (C - (d + 1)) with ⟨_, _, w⟩ | ⟨w, _⟩
          · exact rr_all (B := trM (rdR A d R)) w
          · omega
        refine as_iload_n d147_196 rfl ?_
        refine an_iconst 1 d147_197 rfl ?_
        refine an_iadd d147_198 ?_
        refine as_istore_n d147_199 (by decide) ?_
        refine AW.loc [(0, .ref (189)), (1, .int (nI (d))), (2, .int (nI (clB (clB 1 (fun k => decide (A (d + 1 + k) d - tmR A d (d + 1 + k) * A d d = 0)) (R - (d + 1))) (fun k => decide ((rdR A d R) d (d + 1 + k) - tmR (trM (rdR A d R)) d (d + 1 + k) * (rdR A d R) d d = 0)) ((C - (d + 1)))))), (3, .int (nI ((d) + (1))))] (am_pick [1, 2, 3, 0] rfl rfl) ?_
        refine aw_fromE (fun k V => ((200, [(0, .ref (189)), (1, .int (nI (d))), (2, .int (nI (clB (clB 1 (fun k => decide (A (d + 1 + k) d - tmR A d (d + 1 + k) * A d d = 0)) (R - (d + 1))) (fun k => decide ((rdR A d R) d (d + 1 + k) - tmR (trM (rdR A d R)) d (d + 1 + k) * (rdR A d R) d d = 0)) (C - (d + 1))))), (3, .int (nI (d + 1 + k)))], [], 208, HP (V), 0, 0) : am_Z)) (fun k V => tKeep S V ∧ MXr V R C (rcM (rdR A d R) d C) ∧ ∀ r, d < r → r < d + 1 + k → ∀ c, d < c → c < C → dvP (rcM (rdR A d R) d C) d r c) (0) (R - (d + 1)) (by omega) (T) (rfl) (⟨hX2.1, hM3, fun r q1 q2 => by omega⟩) (fun k V hk0 hk hK ihk => ?_) (fun V hX3 => ?_)
        · refine as_iload_n d147_200 rfl ?_
          refine as_aload_n d147_201 rfl ?_
          refine ap_get d147_202 f147_162 (by decide) rfl rfl ?_
          refine an_top (e' := nI (R)) (hK.2.1.1) ?_
          refine an_icmp_ge 303 d147_205 (by decide) (by omega) (by omega) (fun c205 => by omega) (fun c205 => ?_)
          refine as_iload_n d147_208 rfl ?_
          refine an_if_eq 303 d147_209 (by decide) (by omega) (fun c209 => absurd c209 hD) (fun c209 => ?_)
          refine as_iload_n d147_212 rfl ?_
          refine an_iconst 1 d147_213 rfl ?_
          refine an_iadd d147_214 ?_
          refine as_istore d147_215 (by decide) ?_
          refine AW.loc [(0, .ref (189)), (1, .int (nI (d))), (2, .int (nI (clB (clB 1 (fun k => decide (A (d + 1 + k) d - tmR A d (d + 1 + k) * A d d = 0)) (R - (d + 1))) (fun k => decide ((rdR A d R) d (d + 1 + k) - tmR (trM (rdR A d R)) d (d + 1 + k) * (rdR A d R) d d = 0)) (C - (d + 1))))), (3, .int (nI (d + 1 + k))), (4, .int (nI ((d) + (1))))] (am_pick [1, 2, 3, 4, 0] rfl rfl) ?_
          refine aw_fromE (fun c W => ((217, [(0, .ref (189)), (1, .int (nI (d))), (2, .int (nI (clB (clB 1 (fun k => decide (A (d + 1 + k) d - tmR A d (d + 1 + k) * A d d = 0)) (R - (d + 1))) (fun k => decide ((rdR A d R) d (d + 1 + k) - tmR (trM (rdR A d R)) d (d + 1 + k) * (rdR A d R) d d = 0)) (C - (d + 1))))), (3, .int (nI (d + 1 + k))), (4, .int (nI (d + 1 + c)))], [], 208, HP (W), 0, 0) : am_Z)) (fun c W => tKeep S W ∧ MXr W R C (rcM (rdR A d R) d C) ∧ ∀ e, d < e → e < d + 1 + c → dvP (rcM (rdR A d R) d C) d (d + 1 + k) e) (0) (C - (d + 1)) (by omega) (V) (rfl) (⟨hK.1, hK.2.1, fun r q1 q2 => by omega⟩) (fun c W hc0 hc hL ihc => ?_) (fun W hX4 => ?_)
          · have hs5 := hs3 (d + 1 + k) (by omega) (by omega) (d + 1 + c) (by omega) (by omega)
            have hs6 := hs3 d (Nat.le_refl d) hd d (Nat.le_refl d) hd2
            refine as_iload d147_217 rfl ?_
            refine as_aload_n d147_219 rfl ?_
            refine ap_get d147_220 f147_159 (by decide) rfl rfl ?_
            refine an_top (e' := nI (C)) (hL.2.1.2.1) ?_
            refine an_icmp_ge 297 d147_223 (by decide) (by omega) (by omega) (fun c223 => by omega) (fun c223 => ?_)
            refine as_iload_n d147_226 rfl ?_
            refine an_if_eq 297 d147_227 (by decide) (by omega) (fun c227 => absurd c227 hD) (fun c227 => ?_)
            refine as_aload_n d147_230 rfl ?_
            refine as_iload_n d147_231 rfl ?_
            refine as_iload d147_232 rfl ?_
            refine ac_v2 d147_234 c147_173 (by decide) rfl (Nat.le_of_ble_eq_true rfl) (hL.2.1.cell X hR hC (show d + 1 + k < R by omega) (show d + 1 + c < C by omega)) ?_
            refine as_aload_n d147_237 rfl ?_
            refine as_iload_n d147_238 rfl ?_
            refine as_iload_n d147_239 rfl ?_
            refine ac_v2 d147_240 c147_173 (by decide) rfl (Nat.le_of_ble_eq_true rfl) (hL.2.1.cell X hR hC hd hd2) ?_
            refine as_lrem d147_243 (fun q => hdd (by rw [← e33]; exact q)) ?_
            refine an_topl (e' := Int64.ofInt ((rcM (rdR A d R) d C) (d + 1 + k) (d + 1 + c) - ((rcM (rdR A d R) d C) (d + 1 + k) (d + 1 + c)).tdiv ((rcM (rdR A d R) d C) d d) * (rcM (rdR A d R) d C) d d)) (i64_rem hs5 hs6) ?_
            refine as_lconst d147_244 ?_
            refine as_lcmp d147_245 ?_
            refine as_if_eq 291 d147_246 (by decide) (fun c246 => ?_) (fun c246 => ?_)
            · have hdv : dvP (rcM (rdR A d R) d C) d (d + 1 + k) (d + 1 + c) := by
                have := (i64_z (sm_tm hs5)).mp ((lg_z _ _).mp c246)
                unfold dvP
                omega
              refine an_iinc 1 d147_291 rfl rfl (by decide) ?_
              refine as_goto 217 d147_294 (by decide) ?_
              refine AW.loc [(0, .ref (189)), (1, .int (nI (d))), (2, .int (nI (clB (clB 1 (fun k => decide (A (d + 1 + k) d - tmR A d (d + 1 + k) * A d d = 0)) (R - (d + 1))) (fun k => decide ((rdR A d R) d (d + 1 + k) - tmR (trM (rdR A d R)) d (d + 1 + k) * (rdR A d R) d d = 0)) (C - (d + 1))))), (3, .int (nI (d + 1 + k))), (4, .int (nI (d + 1 + c + 1)))] (am_pick [1, 2, 3, 4, 0] rfl rfl) ?_
              have ihc := ihc (W) (⟨hL.1, hL.2.1, fun e q1 q2 => by
                  by_cases w : e = d + 1 + c
                  · subst w; exact hdv
                  · exact hL.2.2 e q1 (by omega)⟩)
              exact ihc
            · have hnd : ¬ dvP (rcM (rdR A d R) d C) d (d + 1 + k) (d + 1 + c) := fun q => c246 ((lg_z _ _).mpr ((i64_z (sm_tm hs5)).mpr (by unfold dvP at q; omega)))
              refine as_iload_n d147_249 rfl ?_
              refine as_istore d147_250 (by decide) ?_
              refine AW.loc [(0, .ref (189)), (1, .int (nI (d))), (2, .int (nI (clB (clB 1 (fun k => decide (A (d + 1 + k) d - tmR A d (d + 1 + k) * A d d = 0)) (R - (d + 1))) (fun k => decide ((rdR A d R) d (d + 1 + k) - tmR (trM (rdR A d R)) d (d + 1 + k) * (rdR A d R) d d = 0)) (C - (d + 1))))), (3, .int (nI (d + 1 + k))), (4, .int (nI (d + 1 + c))), (5, .int (nI (d)))] (am_pick [1, 2, 3, 4, 5, 0] rfl rfl) ?_
              refine aw_fromE (fun e Y => ((252, [(0, .ref (189)), (1, .int (nI (d))), (2, .int (nI (clB (clB 1 (fun k => decide (A (d + 1 + k) d - tmR A d (d + 1 + k) * A d d = 0)) (R - (d + 1))) (fun k => decide ((rdR A d R) d (d + 1 + k) - tmR (trM (rdR A d R)) d (d + 1 + k) * (rdR A d R) d d = 0)) (C - (d + 1))))), (3, .int (nI (d + 1 + k))), (4, .int (nI (d + 1 + c))), (5, .int (nI (d + e)))], [], 208, HP (Y), 0, 0) : am_Z)) (fun e Y => tKeep S Y ∧ MXr Y R C (adS (rcM (rdR A d R) d C) d (d + 1 + k) (d + e))) (0) (C - d) (by omega) (W) (rfl) (⟨hL.1, hL.2.1.eq (fun i _ j _ => if_neg (by omega))⟩) (fun e Y he0 he hM ihe => ?_) (fun Y hX5 => ?_)
              · have q1 := hM.2.2.2 d hd (d + e) (by omega)
                have q2 := hM.2.2.2 (d + 1 + k) (by omega) (d + e) (by omega)
                rw [show adS (rcM (rdR A d R) d C) d (d + 1 + k) (d + e) d (d + e) = (rcM (rdR A d R) d C) d (d + e) from if_neg (by omega)] at q1
                rw [show adS (rcM (rdR A d R) d C) d (d + 1 + k) (d + e) (d + 1 + k) (d + e) = (rcM (rdR A d R) d C) (d + 1 + k) (d + e) from if_neg (by omega)] at q2
                refine as_iload d147_252 rfl ?_
                refine as_aload_n d147_254 rfl ?_
                refine ap_get d147_255 f147_159 (by decide) rfl rfl ?_
                refine an_top (e' := nI (C)) (hM.2.2.1) ?_
                refine an_icmp_ge 289 d147_258 (by decide) (by omega) (by omega) (fun c258 => by omega) (fun c258 => ?_)
                refine as_aload_n d147_261 rfl ?_
                refine ap_get d147_262 f147_34 (by decide) rfl rfl ?_
                refine an_bipush 6 d147_265 rfl ?_
                refine as_iload_n d147_267 rfl ?_
                refine an_imul d147_268 ?_
                refine as_iload d147_269 rfl ?_
                refine an_iadd d147_271 ?_
                refine as_dup2 d147_272 rfl rfl ?_
                refine ap_lald d147_273 (fun _ _ _ _ => rfl) (by decide) (by omega) (by decide) ?_
                refine an_topl (e' := Int64.ofInt ((rcM (rdR A d R) d C) d (d + e))) (q1) ?_
                refine as_aload_n d147_274 rfl ?_
                refine as_iload_n d147_275 rfl ?_
                refine as_iload d147_276 rfl ?_
                refine ac_v2 d147_278 c147_173 (by decide) rfl (Nat.le_of_ble_eq_true rfl) (mc_cell X Y (d + 1 + k) (d + e) (by omega) (by omega)) ?_
                refine an_topl (e' := Int64.ofInt ((rcM (rdR A d R) d C) (d + 1 + k) (d + e))) (q2) ?_
                refine as_ladd d147_281 ?_
                refine ap_last d147_282 (fun _ _ _ _ => rfl) (by decide) (by omega) (by decide) ?_
                have hst := hM.2.sl hC (r := d) (c := d + e) (by omega) (y := Int64.ofInt ((rcM (rdR A d R) d C) d (d + e)) + Int64.ofInt ((rcM (rdR A d R) d C) (d + 1 + k) (d + e))) (v := (rcM (rdR A d R) d C) d (d + e) + (rcM (rdR A d R) d C) (d + 1 + k) (d + e)) (Int64.ofInt_add _ _).symm
                refine an_iinc 1 d147_283 rfl rfl (by decide) ?_
                refine as_goto 252 d147_286 (by decide) ?_
                refine AW.loc [(0, .ref (189)), (1, .int (nI (d))), (2, .int (nI (clB (clB 1 (fun k => decide (A (d + 1 + k) d - tmR A d (d + 1 + k) * A d d = 0)) (R - (d + 1))) (fun k => decide ((rdR A d R) d (d + 1 + k) - tmR (trM (rdR A d R)) d (d + 1 + k) * (rdR A d R) d d = 0)) (C - (d + 1))))), (3, .int (nI (d + 1 + k))), (4, .int (nI (d + 1 + c))), (5, .int (nI (d + e + 1)))] (am_pick [1, 2, 3, 4, 5, 0] rfl rfl) ?_
                have ihe := ihe ((Y).sl 198 (((6) * (d)) + (d + e)) ((Int64.ofInt ((rcM (rdR A d R) d C) d (d + e))) + (Int64.ofInt ((rcM (rdR A d R) d C) (d + 1 + k) (d + e))))) (⟨hM.1.sl _ _, hst.eq (fun i _ j _ => by
                  unfold adS
                  by_cases w : i = d ∧ j = d + e
                  · rw [if_pos w, if_pos (by omega), w.2]
                  · rw [if_neg w]
                    by_cases w2 : i = d ∧ d ≤ j ∧ j < d + e
                    · rw [if_pos w2, if_pos (by omega)]
                    · rw [if_neg w2, if_neg (by omega)])⟩)
                exact ihe
              · refine as_iload d147_252 rfl ?_
                refine as_aload_n d147_254 rfl ?_
                refine ap_get d147_255 f147_159 (by decide) rfl rfl ?_
                refine an_top (e' := nI (C)) (hX5.2.2.1) ?_
                refine an_icmp_ge 289 d147_258 (by decide) (by omega) (by omega) (fun c258 => ?_) (fun c258 => by omega)
                refine an_iconst 0 d147_289 rfl ?_
                refine as_istore_n d147_290 (by decide) ?_
                refine an_iinc 1 d147_291 rfl rfl (by decide) ?_
                refine as_goto 217 d147_294 (by decide) ?_
                refine as_iload d147_217 rfl ?_
                refine as_aload_n d147_219 rfl ?_
                refine ap_get d147_220 f147_159 (by decide) rfl rfl ?_
                refine an_top (e' := nI (C)) (hX5.2.2.1) ?_
                refine an_icmp_ge 297 d147_223 (by decide) (by omega) (by omega) (fun c223 => ?_) (fun c223 => ?_)
                · refine an_iinc 1 d147_297 rfl rfl (by decide) ?_
                  refine as_goto 200 d147_300 (by decide) ?_
                  refine as_iload_n d147_200 rfl ?_
                  refine as_aload_n d147_201 rfl ?_
                  refine ap_get d147_202 f147_162 (by decide) rfl rfl ?_
                  refine an_top (e' := nI (R)) (hX5.2.1) ?_
                  refine an_icmp_ge 303 d147_205 (by decide) (by omega) (by omega) (fun c205 => ?_) (fun c205 => ?_)
                  · refine as_iload_n d147_303 rfl ?_
                    refine as_ireturn d147_304 (by rw [t147]; rfl) ?_
                    exact ⟨_, _, rfl, hX5.1, Or.inr ⟨hcl1, hcl2, Or.inr ⟨rfl, d + 1 + k, d + 1 + c, by omega, by omega, by omega, by omega, hnd, hX5.2.eq (fun i _ j _ => by rw [show d + (C - d) = C by omega])⟩⟩⟩
                  · refine as_iload_n d147_208 rfl ?_
                    refine an_if_eq 303 d147_209 (by decide) (by omega) (fun c209 => ?_) (fun c209 => absurd rfl c209)
                    refine as_iload_n d147_303 rfl ?_
                    refine as_ireturn d147_304 (by rw [t147]; rfl) ?_
                    exact ⟨_, _, rfl, hX5.1, Or.inr ⟨hcl1, hcl2, Or.inr ⟨rfl, d + 1 + k, d + 1 + c, by omega, by omega, by omega, by omega, hnd, hX5.2.eq (fun i _ j _ => by rw [show d + (C - d) = C by omega])⟩⟩⟩
                · refine as_iload_n d147_226 rfl ?_
                  refine an_if_eq 297 d147_227 (by decide) (by omega) (fun c227 => ?_) (fun c227 => absurd rfl c227)
                  refine an_iinc 1 d147_297 rfl rfl (by decide) ?_
                  refine as_goto 200 d147_300 (by decide) ?_
                  refine as_iload_n d147_200 rfl ?_
                  refine as_aload_n d147_201 rfl ?_
                  refine ap_get d147_202 f147_162 (by decide) rfl rfl ?_
                  refine an_top (e' := nI (R)) (hX5.2.1) ?_
                  refine an_icmp_ge 303 d147_205 (by decide) (by omega) (by omega) (fun c205 => ?_) (fun c205 => ?_)
                  · refine as_iload_n d147_303 rfl ?_
                    refine as_ireturn d147_304 (by rw [t147]; rfl) ?_
                    exact ⟨_, _, rfl, hX5.1, Or.inr ⟨hcl1, hcl2, Or.inr ⟨rfl, d + 1 + k, d + 1 + c, by omega, by omega, by omega, by omega, hnd, hX5.2.eq (fun i _ j _ => by rw [show d + (C - d) = C by omega])⟩⟩⟩
                  · refine as_iload_n d147_208 rfl ?_
                    refine an_if_eq 303 d147_209 (by decide) (by omega) (fun c209 => ?_) (fun c209 => absurd rfl c209)
                    refine as_iload_n d147_303 rfl ?_
                    refine as_ireturn d147_304 (by rw [t147]; rfl) ?_
                    exact ⟨_, _, rfl, hX5.1, Or.inr ⟨hcl1, hcl2, Or.inr ⟨rfl, d + 1 + k, d + 1 + c, by omega, by omega, by omega, by omega, hnd, hX5.2.eq (fun i _ j _ => by rw [show d + (C - d) = C by omega])⟩⟩⟩
          · refine as_iload d147_217 rfl ?_
            refine as_aload_n d147_219 rfl ?_
            refine ap_get d147_220 f147_159 (by decide) rfl rfl ?_
            refine an_top (e' := nI (C)) (hX4.2.1.2.1) ?_
            refine an_icmp_ge 297 d147_223 (by decide) (by omega) (by omega) (fun c223 => ?_) (fun c223 => by omega)
            refine an_iinc 1 d147_297 rfl rfl (by decide) ?_
            refine as_goto 200 d147_300 (by decide) ?_
            refine AW.loc [(0, .ref (189)), (1, .int (nI (d))), (2, .int (nI (clB (clB 1 (fun k => decide (A (d + 1 + k) d - tmR A d (d + 1 + k) * A d d = 0)) (R - (d + 1))) (fun k => decide ((rdR A d R) d (d + 1 + k) - tmR (trM (rdR A d R)) d (d + 1 + k) * (rdR A d R) d d = 0)) (C - (d + 1))))), (3, .int (nI (d + 1 + k + 1)))] (am_pick [1, 2, 3, 0] rfl rfl) ?_
            have ihk := ihk (W) (⟨hX4.1, hX4.2.1, fun r q1 q2 e q3 q4 => by
              by_cases w : r = d + 1 + k
              · subst w; exact hX4.2.2 e q3 (by omega)
              · exact hK.2.2 r q1 (by omega) e q3 q4⟩)
            exact ihk
        · refine as_iload_n d147_200 rfl ?_
          refine as_aload_n d147_201 rfl ?_
          refine ap_get d147_202 f147_162 (by decide) rfl rfl ?_
          refine an_top (e' := nI (R)) (hX3.2.1.1) ?_
          refine an_icmp_ge 303 d147_205 (by decide) (by omega) (by omega) (fun c205 => ?_) (fun c205 => by omega)
          refine as_iload_n d147_303 rfl ?_
          refine as_ireturn d147_304 (by rw [t147, hD']; rfl) ?_
          rw [hD']
          exact ⟨_, _, rfl, hX3.1, Or.inr ⟨hcl1, hcl2, Or.inl ⟨rfl, fun r q1 q2 => hX3.2.2 r q1 (by omega), hX3.2.1⟩⟩⟩
