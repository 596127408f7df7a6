/-! the reference: put, meets, looks -/
abbrev isNm (P : Nat) (i : Int32) : Prop := 0 ≤ i ∧ i < nI (7 * P)
theorem nI7 {P : Nat} (hP : P ≤ 3) : (nI (7 * P)).toInt = 7 * (P : Int) ∧ (nI (7 * P) - nI 1).toInt = 7 * (P : Int) - 1 := by
  rcases (show P = 0 ∨ P = 1 ∨ P = 2 ∨ P = 3 by omega) with rfl | rfl | rfl | rfl <;> decide
theorem isNm_iff {P : Nat} (hP : P ≤ 3) (i : Int32) : (nI 0 ≤ i ∧ i ≤ nI (7 * P) - nI 1) ↔ isNm P i := by
  unfold isNm
  rw [nI_0]
  simp only [Int32.lt_iff_toInt_lt, Int32.le_iff_toInt_le, (nI7 hP).1, (nI7 hP).2]
  omega
theorem nat_of {i : Int32} {n : Nat} (hn : n < 2 ^ 31) (h : 0 ≤ i ∧ i < nI n) : ∃ j, j < n ∧ i = nI j := by
  obtain ⟨j, hj, rfl⟩ := nI_of (x := i) (fun g => by
    have := h.1
    simp only [Int32.lt_iff_toInt_lt, Int32.le_iff_toInt_le] at *
    omega)
  exact ⟨j, (nI_ltI hj hn).mp h.2, rfl⟩
theorem nat_le {i : Int32} {n : Nat} (hn : n < 2 ^ 31) (h : 0 ≤ i ∧ i ≤ nI n) : ∃ j, j ≤ n ∧ i = nI j := by
  obtain ⟨j, hj, rfl⟩ := nI_of (x := i) (fun g => by
    have := h.1
    simp only [Int32.lt_iff_toInt_lt, Int32.le_iff_toInt_le] at *
    omega)
  exact ⟨j, (nI_leI hj hn).mp h.2, rfl⟩
abbrev putOk (P : Nat) (i v : Int32) : Prop := isNm P i ∧ 0 ≤ v ∧ v ≤ 1000
def putA (S : MS) (P : Nat) (i v : Int32) : Int32 := if putOk P i v then S.2.1 192 i.toNatClampNeg else -2
def putM (S : MS) (P : Nat) (i v : Int32) : MS := if putOk P i v then S.sa 192 i.toNatClampNeg v else S
theorem mc_put (X : am_X) (S : MS) (P : Nat) (hP : P ≤ 3) (hp : S.1 189 0 = nI P) (i v : Int32) : MC X 163 [.ref (189), .int (i), .int (v)] S (some (.int (putA S P i v))) (putM S P i v) := by
  by_cases hv : putOk P i v
  · obtain ⟨a, ha, rfl⟩ := nat_of (by omega) hv.1
    obtain ⟨b, hb, rfl⟩ := nat_le (n := 1000) (by decide) hv.2
    refine MC.of (Nat.le_of_ble_eq_true rfl) ?_
    refine as_iload_n d163_0 rfl ?_
    refine an_iconst 0 d163_1 rfl ?_
    refine an_bipush 7 d163_2 rfl ?_
    refine as_aload_n d163_4 rfl ?_
    refine ap_get d163_5 f163_67 (by decide) rfl rfl ?_
    refine an_top (e' := nI (P)) (hp) ?_
    refine an_imul d163_8 ?_
    refine an_iconst 1 d163_9 rfl ?_
    refine as_isub d163_10 ?_
    refine ac_s3 d163_11 c163_71 (by decide) (Nat.le_of_ble_eq_true rfl) (mc_in X _ _ _ _) ?_
    refine as_if_eq 28 d163_14 (by decide) (fun c1 => absurd ((isNm_iff hP _).mpr hv.1) (am_b01.mp c1)) (fun c1 => ?_)
    refine as_iload_n d163_17 rfl ?_
    refine an_iconst 0 d163_18 rfl ?_
    refine an_sipush 1000 d163_19 rfl ?_
    refine ac_s3 d163_22 c163_71 (by decide) (Nat.le_of_ble_eq_true rfl) (mc_in X _ _ _ _) ?_
    refine as_if_ne 31 d163_25 (by decide) (fun c2 => ?_) (fun c2 => absurd hv.2 (am_b01.mp c2))
    refine as_aload_n d163_31 rfl ?_
    refine ap_get d163_32 f163_16 (by decide) rfl rfl ?_
    refine as_iload_n d163_35 rfl ?_
    refine ap_iald d163_36 (fun _ _ _ _ => rfl) (by decide) (by omega) (by decide) ?_
    refine as_istore_n d163_37 (by decide) ?_
    refine as_aload_n d163_38 rfl ?_
    refine ap_get d163_39 f163_16 (by decide) rfl rfl ?_
    refine as_iload_n d163_42 rfl ?_
    refine as_iload_n d163_43 rfl ?_
    refine ap_iast d163_44 (fun _ _ _ _ => rfl) (by decide) (by omega) (by decide) ?_
    refine as_iload_n d163_45 rfl ?_
    refine as_ireturn d163_46 (by rw [t163]; rfl) ?_
    refine am_rr ?_ ?_
    · unfold putA
      rw [if_pos hv, nI_clamp (by omega)]
    · unfold putM
      rw [if_pos hv, nI_clamp (by omega)]
  · refine MC.of (Nat.le_of_ble_eq_true rfl) ?_
    refine as_iload_n d163_0 rfl ?_
    refine an_iconst 0 d163_1 rfl ?_
    refine an_bipush 7 d163_2 rfl ?_
    refine as_aload_n d163_4 rfl ?_
    refine ap_get d163_5 f163_67 (by decide) rfl rfl ?_
    refine an_top (e' := nI (P)) (hp) ?_
    refine an_imul d163_8 ?_
    refine an_iconst 1 d163_9 rfl ?_
    refine as_isub d163_10 ?_
    refine ac_s3 d163_11 c163_71 (by decide) (Nat.le_of_ble_eq_true rfl) (mc_in X _ _ _ _) ?_
    refine as_if_eq 28 d163_14 (by decide) (fun c1 => ?_) (fun c1 => ?_)
    · refine an_bipushI (-2) d163_28 rfl ?_
      refine as_ireturn d163_30 (by rw [t163]; rfl) ?_
      refine am_rr ?_ ?_
      · unfold putA
        rw [if_neg hv]
      · unfold putM
        rw [if_neg hv]
    · refine as_iload_n d163_17 rfl ?_
      refine an_iconst 0 d163_18 rfl ?_
      refine an_sipush 1000 d163_19 rfl ?_
      refine ac_s3 d163_22 c163_71 (by decide) (Nat.le_of_ble_eq_true rfl) (mc_in X _ _ _ _) ?_
      refine as_if_ne 31 d163_25 (by decide) (fun c2 => ?_) (fun c2 => ?_)
      · exact absurd ⟨(isNm_iff hP _).mp (am_b1 c1), am_b1 c2⟩ hv
      · refine an_bipushI (-2) d163_28 rfl ?_
        refine as_ireturn d163_30 (by rw [t163]; rfl) ?_
        refine am_rr ?_ ?_
        · unfold putA
          rw [if_neg hv]
        · unfold putM
          rw [if_neg hv]
theorem mc_looks (X : am_X) (S : MS) (s c i : Nat) (hs : s < 12) (hc : c < 4) (hi : i < 3000) (hS : SHN S) : MC X 171 [.ref (189), .int (nI (s)), .int (nI (c)), .int (nI (i))] S (some (.int (if i < sv S (7 * (s / 4) + c) ∨ c = 0 ∨ s % 4 = 0 then 1 else 0))) S := by
  refine MC.of (Nat.le_of_ble_eq_true rfl) ?_
  have h1 := (hS (7 * (s / 4) + c) (by omega)).2
  refine as_iload_n d171_0 rfl ?_
  refine as_aload_n d171_1 rfl ?_
  refine ap_get d171_2 f171_16 (by decide) rfl rfl ?_
  refine an_bipush 7 d171_5 rfl ?_
  refine as_iload_n d171_7 rfl ?_
  refine an_iconst 4 d171_8 rfl ?_
  refine an_idiv d171_9 (by omega) (by omega) (by omega) ?_
  refine an_imul d171_10 ?_
  refine as_iload_n d171_11 rfl ?_
  refine an_iadd d171_12 ?_
  refine ap_iald d171_13 (fun _ _ _ _ => rfl) (by decide) (by omega) (by decide) ?_
  refine an_top (e' := nI (sv S (7 * (s / 4) + c))) ((hS _ (by omega)).1) ?_
  refine an_icmp_lt 27 d171_14 (by decide) (by omega) (by omega) (fun c1 => ?_) (fun c1 => ?_)
  · refine an_iconst 1 d171_27 rfl ?_
    refine as_goto 32 d171_28 (by decide) ?_
    refine as_ireturn d171_32 (by rw [t171]; rfl) ?_
    refine am_req ?_
    first | (rw [if_pos (show i < sv S (7 * (s / 4) + c) ∨ c = 0 ∨ s % 4 = 0 by omega)]; rfl) | (rw [if_neg (show ¬ (i < sv S (7 * (s / 4) + c) ∨ c = 0 ∨ s % 4 = 0) by omega)]; rfl)
  · refine as_iload_n d171_17 rfl ?_
    refine an_if_eq 27 d171_18 (by decide) (by omega) (fun c2 => ?_) (fun c2 => ?_)
    · refine an_iconst 1 d171_27 rfl ?_
      refine as_goto 32 d171_28 (by decide) ?_
      refine as_ireturn d171_32 (by rw [t171]; rfl) ?_
      refine am_req ?_
      first | (rw [if_pos (show i < sv S (7 * (s / 4) + c) ∨ c = 0 ∨ s % 4 = 0 by omega)]; rfl) | (rw [if_neg (show ¬ (i < sv S (7 * (s / 4) + c) ∨ c = 0 ∨ s % 4 = 0) by omega)]; rfl)
    · refine as_iload_n d171_21 rfl ?_
      refine an_iconst 4 d171_22 rfl ?_
      refine an_irem d171_23 (by omega) (by omega) (by omega) ?_
      refine an_if_ne 31 d171_24 (by decide) (by omega) (fun c3 => ?_) (fun c3 => ?_)
      · refine an_iconst 0 d171_31 rfl ?_
        refine as_ireturn d171_32 (by rw [t171]; rfl) ?_
        refine am_req ?_
        first | (rw [if_pos (show i < sv S (7 * (s / 4) + c) ∨ c = 0 ∨ s % 4 = 0 by omega)]; rfl) | (rw [if_neg (show ¬ (i < sv S (7 * (s / 4) + c) ∨ c = 0 ∨ s % 4 = 0) by omega)]; rfl)
      · refine an_iconst 1 d171_27 rfl ?_
        refine as_goto 32 d171_28 (by decide) ?_
        refine as_ireturn d171_32 (by rw [t171]; rfl) ?_
        refine am_req ?_
        first | (rw [if_pos (show i < sv S (7 * (s / 4) + c) ∨ c = 0 ∨ s % 4 = 0 by omega)]; rfl) | (rw [if_neg (show ¬ (i < sv S (7 * (s / 4) + c) ∨ c = 0 ∨ s % 4 = 0) by omega)]; rfl)
