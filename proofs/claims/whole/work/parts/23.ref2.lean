/-! the reference: labels -/
theorem am_rst {v : Option Value} {S S1 : MS} (h : S = S1) : ((v, 208, HP S, 0, 0) : am_R) = (v, 208, HP S1, 0, 0) := by rw [h]
def endI (p a b : Nat) : Nat := 12 * p + 2 * eOf a b + if a < b then 0 else 1
theorem endI_lt {p a b : Nat} (hp : p < 3) (ha : a < 4) (hb : b < 4) : endI p a b < 36 := by
  have := eOf_lt a ha b hb
  unfold endI
  split <;> omega
theorem mc_endOf (X : am_X) (S : MS) (p a b : Nat) (hp : p < 3) (ha : a < 4) (hb : b < 4) (hab : a ≠ b) : MC X 113 [.ref 189, .int (nI p), .int (nI a), .int (nI b)] S (some (.int (nI (endI p a b)))) S := by
  refine MC.of (Nat.le_of_ble_eq_true rfl) ?_
  have he := eOf_lt a ha b hb
  refine an_bipush 12 d113_0 rfl ?_
  refine as_iload_n d113_2 rfl ?_
  refine an_imul d113_3 ?_
  refine an_iconst 2 d113_4 rfl ?_
  refine as_aload_n d113_5 rfl ?_
  refine as_iload_n d113_6 rfl ?_
  refine as_iload_n d113_7 rfl ?_
  refine ac_v2 d113_8 c113_79 (by decide) rfl (Nat.le_of_ble_eq_true rfl) (mc_edgeOf X _ _ _ (by omega) (by omega) (by omega)) ?_
  refine an_imul d113_11 ?_
  refine an_iadd d113_12 ?_
  refine as_iload_n d113_13 rfl ?_
  refine as_iload_n d113_14 rfl ?_
  refine an_icmp_ge 22 d113_15 (by decide) (by omega) (by omega) (fun c1 => ?_) (fun c1 => ?_)
  · refine an_iconst 1 d113_22 rfl ?_
    refine an_iadd d113_23 ?_
    refine as_ireturn d113_24 (by rw [t113]; rfl) ?_
    refine am_req (congrArg nI ?_)
    unfold endI
    split <;> omega
  · refine an_iconst 0 d113_18 rfl ?_
    refine as_goto 23 d113_19 (by decide) ?_
    refine an_iadd d113_23 ?_
    refine as_ireturn d113_24 (by rw [t113]; rfl) ?_
    refine am_req (congrArg nI ?_)
    unfold endI
    split <;> omega
/-- what join does to the row at A -/
def rjv (S : MS) (A a b : Nat) : Int32 := if S.2.1 A a < S.2.1 A b then S.2.1 A a else S.2.1 A b
def rjoin (S : MS) (A a b : Nat) : MS := ((S.sf 189 9 (if S.1 189 9 = 0 ∧ S.2.1 A a = rjv S A a b ∧ S.2.1 A b = rjv S A a b then 0 else 1)).sa A a (rjv S A a b)).sa A b (rjv S A a b)
theorem mc_join195 (X : am_X) (S : MS) (a b : Nat) (ha : a < 36) (hb : b < 36) : MC X 115 [.ref 189, .ref 195, .int (nI a), .int (nI b)] S none (rjoin S 195 a b) := by
  refine MC.of (Nat.le_of_ble_eq_true rfl) ?_
  refine as_aload_n d115_0 rfl ?_
  refine as_iload_n d115_1 rfl ?_
  refine ap_iald d115_2 (fun _ _ _ _ => rfl) (by decide) (by omega) (by decide) ?_
  refine as_aload_n d115_3 rfl ?_
  refine as_iload_n d115_4 rfl ?_
  refine ap_iald d115_5 (fun _ _ _ _ => rfl) (by decide) (by omega) (by decide) ?_
  refine ac_s2 d115_6 c115_83 (by decide) (Nat.le_of_ble_eq_true rfl) (mc_lesser X _ _ _) ?_
  refine an_top (e' := rjv S 195 a b) (rfl) ?_
  refine as_istore d115_9 (by decide) ?_
  refine as_aload_n d115_11 rfl ?_
  refine as_aload_n d115_12 rfl ?_
  refine ap_get d115_13 f115_86 (by decide) rfl rfl ?_
  refine as_if_ne 35 d115_16 (by decide) (fun c1 => ?_) (fun c1 => ?_)
  · refine an_iconst 1 d115_35 rfl ?_
    refine as_goto 40 d115_36 (by decide) ?_
    refine ap_put d115_40 f115_86 (by decide) rfl (Nat.le_of_ble_eq_true rfl) (rfl) rfl rfl ?_
    refine as_aload_n d115_43 rfl ?_
    refine as_iload_n d115_44 rfl ?_
    refine as_iload d115_45 rfl ?_
    refine ap_iast d115_47 (fun _ _ _ _ => rfl) (by decide) (by omega) (by decide) ?_
    refine as_aload_n d115_48 rfl ?_
    refine as_iload_n d115_49 rfl ?_
    refine as_iload d115_50 rfl ?_
    refine ap_iast d115_52 (fun _ _ _ _ => rfl) (by decide) (by omega) (by decide) ?_
    refine as_return d115_53 t115 ?_
    refine am_rst ?_
    unfold rjoin
    first | (rw [if_pos ⟨c1, c2, c3⟩]; rfl) | (rw [if_neg (fun q => c3 q.2.2)]; rfl) | (rw [if_neg (fun q => c2 q.2.1)]; rfl) | (rw [if_neg (fun q => c1 q.1)]; rfl)
  · refine as_aload_n d115_19 rfl ?_
    refine as_iload_n d115_20 rfl ?_
    refine ap_iald d115_21 (fun _ _ _ _ => rfl) (by decide) (by omega) (by decide) ?_
    refine as_iload d115_22 rfl ?_
    refine as_icmp_ne 35 d115_24 (by decide) (fun c2 => ?_) (fun c2 => ?_)
    · refine an_iconst 1 d115_35 rfl ?_
      refine as_goto 40 d115_36 (by decide) ?_
      refine ap_put d115_40 f115_86 (by decide) rfl (Nat.le_of_ble_eq_true rfl) (rfl) rfl rfl ?_
      refine as_aload_n d115_43 rfl ?_
      refine as_iload_n d115_44 rfl ?_
      refine as_iload d115_45 rfl ?_
      refine ap_iast d115_47 (fun _ _ _ _ => rfl) (by decide) (by omega) (by decide) ?_
      refine as_aload_n d115_48 rfl ?_
      refine as_iload_n d115_49 rfl ?_
      refine as_iload d115_50 rfl ?_
      refine ap_iast d115_52 (fun _ _ _ _ => rfl) (by decide) (by omega) (by decide) ?_
      refine as_return d115_53 t115 ?_
      refine am_rst ?_
      unfold rjoin
      first | (rw [if_pos ⟨c1, c2, c3⟩]; rfl) | (rw [if_neg (fun q => c3 q.2.2)]; rfl) | (rw [if_neg (fun q => c2 q.2.1)]; rfl) | (rw [if_neg (fun q => c1 q.1)]; rfl)
    · refine as_aload_n d115_27 rfl ?_
      refine as_iload_n d115_28 rfl ?_
      refine ap_iald d115_29 (fun _ _ _ _ => rfl) (by decide) (by omega) (by decide) ?_
      refine as_iload d115_30 rfl ?_
      refine as_icmp_eq 39 d115_32 (by decide) (fun c3 => ?_) (fun c3 => ?_)
      · refine an_iconst 0 d115_39 rfl ?_
        refine ap_put d115_40 f115_86 (by decide) rfl (Nat.le_of_ble_eq_true rfl) (rfl) rfl rfl ?_
        refine as_aload_n d115_43 rfl ?_
        refine as_iload_n d115_44 rfl ?_
        refine as_iload d115_45 rfl ?_
        refine ap_iast d115_47 (fun _ _ _ _ => rfl) (by decide) (by omega) (by decide) ?_
        refine as_aload_n d115_48 rfl ?_
        refine as_iload_n d115_49 rfl ?_
        refine as_iload d115_50 rfl ?_
        refine ap_iast d115_52 (fun _ _ _ _ => rfl) (by decide) (by omega) (by decide) ?_
        refine as_return d115_53 t115 ?_
        refine am_rst ?_
        unfold rjoin
        first | (rw [if_pos ⟨c1, c2, c3⟩]; rfl) | (rw [if_neg (fun q => c3 q.2.2)]; rfl) | (rw [if_neg (fun q => c2 q.2.1)]; rfl) | (rw [if_neg (fun q => c1 q.1)]; rfl)
      · refine an_iconst 1 d115_35 rfl ?_
        refine as_goto 40 d115_36 (by decide) ?_
        refine ap_put d115_40 f115_86 (by decide) rfl (Nat.le_of_ble_eq_true rfl) (rfl) rfl rfl ?_
        refine as_aload_n d115_43 rfl ?_
        refine as_iload_n d115_44 rfl ?_
        refine as_iload d115_45 rfl ?_
        refine ap_iast d115_47 (fun _ _ _ _ => rfl) (by decide) (by omega) (by decide) ?_
        refine as_aload_n d115_48 rfl ?_
        refine as_iload_n d115_49 rfl ?_
        refine as_iload d115_50 rfl ?_
        refine ap_iast d115_52 (fun _ _ _ _ => rfl) (by decide) (by omega) (by decide) ?_
        refine as_return d115_53 t115 ?_
        refine am_rst ?_
        unfold rjoin
        first | (rw [if_pos ⟨c1, c2, c3⟩]; rfl) | (rw [if_neg (fun q => c3 q.2.2)]; rfl) | (rw [if_neg (fun q => c2 q.2.1)]; rfl) | (rw [if_neg (fun q => c1 q.1)]; rfl)
theorem mc_join196 (X : am_X) (S : MS) (a b : Nat) (ha : a < 12) (hb : b < 12) : MC X 115 [.ref 189, .ref 196, .int (nI a), .int (nI b)] S none (rjoin S 196 a b) := by
  refine MC.of (Nat.le_of_ble_eq_true rfl) ?_
  refine as_aload_n d115_0 rfl ?_
  refine as_iload_n d115_1 rfl ?_
  refine ap_iald d115_2 (fun _ _ _ _ => rfl) (by decide) (by omega) (by decide) ?_
  refine as_aload_n d115_3 rfl ?_
  refine as_iload_n d115_4 rfl ?_
  refine ap_iald d115_5 (fun _ _ _ _ => rfl) (by decide) (by omega) (by decide) ?_
  refine ac_s2 d115_6 c115_83 (by decide) (Nat.le_of_ble_eq_true rfl) (mc_lesser X _ _ _) ?_
  refine an_top (e' := rjv S 196 a b) (rfl) ?_
  refine as_istore d115_9 (by decide) ?_
  refine as_aload_n d115_11 rfl ?_
  refine as_aload_n d115_12 rfl ?_
  refine ap_get d115_13 f115_86 (by decide) rfl rfl ?_
  refine as_if_ne 35 d115_16 (by decide) (fun c1 => ?_) (fun c1 => ?_)
  · refine an_iconst 1 d115_35 rfl ?_
    refine as_goto 40 d115_36 (by decide) ?_
    refine ap_put d115_40 f115_86 (by decide) rfl (Nat.le_of_ble_eq_true rfl) (rfl) rfl rfl ?_
    refine as_aload_n d115_43 rfl ?_
    refine as_iload_n d115_44 rfl ?_
    refine as_iload d115_45 rfl ?_
    refine ap_iast d115_47 (fun _ _ _ _ => rfl) (by decide) (by omega) (by decide) ?_
    refine as_aload_n d115_48 rfl ?_
    refine as_iload_n d115_49 rfl ?_
    refine as_iload d115_50 rfl ?_
    refine ap_iast d115_52 (fun _ _ _ _ => rfl) (by decide) (by omega) (by decide) ?_
    refine as_return d115_53 t115 ?_
    refine am_rst ?_
    unfold rjoin
    first | (rw [if_pos ⟨c1, c2, c3⟩]; rfl) | (rw [if_neg (fun q => c3 q.2.2)]; rfl) | (rw [if_neg (fun q => c2 q.2.1)]; rfl) | (rw [if_neg (fun q => c1 q.1)]; rfl)
  · refine as_aload_n d115_19 rfl ?_
    refine as_iload_n d115_20 rfl ?_
    refine ap_iald d115_21 (fun _ _ _ _ => rfl) (by decide) (by omega) (by decide) ?_
    refine as_iload d115_22 rfl ?_
    refine as_icmp_ne 35 d115_24 (by decide) (fun c2 => ?_) (fun c2 => ?_)
    · refine an_iconst 1 d115_35 rfl ?_
      refine as_goto 40 d115_36 (by decide) ?_
      refine ap_put d115_40 f115_86 (by decide) rfl (Nat.le_of_ble_eq_true rfl) (rfl) rfl rfl ?_
      refine as_aload_n d115_43 rfl ?_
      refine as_iload_n d115_44 rfl ?_
      refine as_iload d115_45 rfl ?_
      refine ap_iast d115_47 (fun _ _ _ _ => rfl) (by decide) (by omega) (by decide) ?_
      refine as_aload_n d115_48 rfl ?_
      refine as_iload_n d115_49 rfl ?_
      refine as_iload d115_50 rfl ?_
      refine ap_iast d115_52 (fun _ _ _ _ => rfl) (by decide) (by omega) (by decide) ?_
      refine as_return d115_53 t115 ?_
      refine am_rst ?_
      unfold rjoin
      first | (rw [if_pos ⟨c1, c2, c3⟩]; rfl) | (rw [if_neg (fun q => c3 q.2.2)]; rfl) | (rw [if_neg (fun q => c2 q.2.1)]; rfl) | (rw [if_neg (fun q => c1 q.1)]; rfl)
    · refine as_aload_n d115_27 rfl ?_
      refine as_iload_n d115_28 rfl ?_
      refine ap_iald d115_29 (fun _ _ _ _ => rfl) (by decide) (by omega) (by decide) ?_
      refine as_iload d115_30 rfl ?_
      refine as_icmp_eq 39 d115_32 (by decide) (fun c3 => ?_) (fun c3 => ?_)
      · refine an_iconst 0 d115_39 rfl ?_
        refine ap_put d115_40 f115_86 (by decide) rfl (Nat.le_of_ble_eq_true rfl) (rfl) rfl rfl ?_
        refine as_aload_n d115_43 rfl ?_
        refine as_iload_n d115_44 rfl ?_
        refine as_iload d115_45 rfl ?_
        refine ap_iast d115_47 (fun _ _ _ _ => rfl) (by decide) (by omega) (by decide) ?_
        refine as_aload_n d115_48 rfl ?_
        refine as_iload_n d115_49 rfl ?_
        refine as_iload d115_50 rfl ?_
        refine ap_iast d115_52 (fun _ _ _ _ => rfl) (by decide) (by omega) (by decide) ?_
        refine as_return d115_53 t115 ?_
        refine am_rst ?_
        unfold rjoin
        first | (rw [if_pos ⟨c1, c2, c3⟩]; rfl) | (rw [if_neg (fun q => c3 q.2.2)]; rfl) | (rw [if_neg (fun q => c2 q.2.1)]; rfl) | (rw [if_neg (fun q => c1 q.1)]; rfl)
      · refine an_iconst 1 d115_35 rfl ?_
        refine as_goto 40 d115_36 (by decide) ?_
        refine ap_put d115_40 f115_86 (by decide) rfl (Nat.le_of_ble_eq_true rfl) (rfl) rfl rfl ?_
        refine as_aload_n d115_43 rfl ?_
        refine as_iload_n d115_44 rfl ?_
        refine as_iload d115_45 rfl ?_
        refine ap_iast d115_47 (fun _ _ _ _ => rfl) (by decide) (by omega) (by decide) ?_
        refine as_aload_n d115_48 rfl ?_
        refine as_iload_n d115_49 rfl ?_
        refine as_iload d115_50 rfl ?_
        refine ap_iast d115_52 (fun _ _ _ _ => rfl) (by decide) (by omega) (by decide) ?_
        refine as_return d115_53 t115 ?_
        refine am_rst ?_
        unfold rjoin
        first | (rw [if_pos ⟨c1, c2, c3⟩]; rfl) | (rw [if_neg (fun q => c3 q.2.2)]; rfl) | (rw [if_neg (fun q => c2 q.2.1)]; rfl) | (rw [if_neg (fun q => c1 q.1)]; rfl)
theorem mc_join197 (X : am_X) (S : MS) (a b : Nat) (ha : a < 3) (hb : b < 3) : MC X 115 [.ref 189, .ref 197, .int (nI a), .int (nI b)] S none (rjoin S 197 a b) := by
  refine MC.of (Nat.le_of_ble_eq_true rfl) ?_
  refine as_aload_n d115_0 rfl ?_
  refine as_iload_n d115_1 rfl ?_
  refine ap_iald d115_2 (fun _ _ _ _ => rfl) (by decide) (by omega) (by decide) ?_
  refine as_aload_n d115_3 rfl ?_
  refine as_iload_n d115_4 rfl ?_
  refine ap_iald d115_5 (fun _ _ _ _ => rfl) (by decide) (by omega) (by decide) ?_
  refine ac_s2 d115_6 c115_83 (by decide) (Nat.le_of_ble_eq_true rfl) (mc_lesser X _ _ _) ?_
  refine an_top (e' := rjv S 197 a b) (rfl) ?_
  refine as_istore d115_9 (by decide) ?_
  refine as_aload_n d115_11 rfl ?_
  refine as_aload_n d115_12 rfl ?_
  refine ap_get d115_13 f115_86 (by decide) rfl rfl ?_
  refine as_if_ne 35 d115_16 (by decide) (fun c1 => ?_) (fun c1 => ?_)
  · refine an_iconst 1 d115_35 rfl ?_
    refine as_goto 40 d115_36 (by decide) ?_
    refine ap_put d115_40 f115_86 (by decide) rfl (Nat.le_of_ble_eq_true rfl) (rfl) rfl rfl ?_
    refine as_aload_n d115_43 rfl ?_
    refine as_iload_n d115_44 rfl ?_
    refine as_iload d115_45 rfl ?_
    refine ap_iast d115_47 (fun _ _ _ _ => rfl) (by decide) (by omega) (by decide) ?_
    refine as_aload_n d115_48 rfl ?_
    refine as_iload_n d115_49 rfl ?_
    refine as_iload d115_50 rfl ?_
    refine ap_iast d115_52 (fun _ _ _ _ => rfl) (by decide) (by omega) (by decide) ?_
    refine as_return d115_53 t115 ?_
    refine am_rst ?_
    unfold rjoin
    first | (rw [if_pos ⟨c1, c2, c3⟩]; rfl) | (rw [if_neg (fun q => c3 q.2.2)]; rfl) | (rw [if_neg (fun q => c2 q.2.1)]; rfl) | (rw [if_neg (fun q => c1 q.1)]; rfl)
  · refine as_aload_n d115_19 rfl ?_
    refine as_iload_n d115_20 rfl ?_
    refine ap_iald d115_21 (fun _ _ _ _ => rfl) (by decide) (by omega) (by decide) ?_
    refine as_iload d115_22 rfl ?_
    refine as_icmp_ne 35 d115_24 (by decide) (fun c2 => ?_) (fun c2 => ?_)
    · refine an_iconst 1 d115_35 rfl ?_
      refine as_goto 40 d115_36 (by decide) ?_
      refine ap_put d115_40 f115_86 (by decide) rfl (Nat.le_of_ble_eq_true rfl) (rfl) rfl rfl ?_
      refine as_aload_n d115_43 rfl ?_
      refine as_iload_n d115_44 rfl ?_
      refine as_iload d115_45 rfl ?_
      refine ap_iast d115_47 (fun _ _ _ _ => rfl) (by decide) (by omega) (by decide) ?_
      refine as_aload_n d115_48 rfl ?_
      refine as_iload_n d115_49 rfl ?_
      refine as_iload d115_50 rfl ?_
      refine ap_iast d115_52 (fun _ _ _ _ => rfl) (by decide) (by omega) (by decide) ?_
      refine as_return d115_53 t115 ?_
      refine am_rst ?_
      unfold rjoin
      first | (rw [if_pos ⟨c1, c2, c3⟩]; rfl) | (rw [if_neg (fun q => c3 q.2.2)]; rfl) | (rw [if_neg (fun q => c2 q.2.1)]; rfl) | (rw [if_neg (fun q => c1 q.1)]; rfl)
    · refine as_aload_n d115_27 rfl ?_
      refine as_iload_n d115_28 rfl ?_
      refine ap_iald d115_29 (fun _ _ _ _ => rfl) (by decide) (by omega) (by decide) ?_
      refine as_iload d115_30 rfl ?_
      refine as_icmp_eq 39 d115_32 (by decide) (fun c3 => ?_) (fun c3 => ?_)
      · refine an_iconst 0 d115_39 rfl ?_
        refine ap_put d115_40 f115_86 (by decide) rfl (Nat.le_of_ble_eq_true rfl) (rfl) rfl rfl ?_
        refine as_aload_n d115_43 rfl ?_
        refine as_iload_n d115_44 rfl ?_
        refine as_iload d115_45 rfl ?_
        refine ap_iast d115_47 (fun _ _ _ _ => rfl) (by decide) (by omega) (by decide) ?_
        refine as_aload_n d115_48 rfl ?_
        refine as_iload_n d115_49 rfl ?_
        refine as_iload d115_50 rfl ?_
        refine ap_iast d115_52 (fun _ _ _ _ => rfl) (by decide) (by omega) (by decide) ?_
        refine as_return d115_53 t115 ?_
        refine am_rst ?_
        unfold rjoin
        first | (rw [if_pos ⟨c1, c2, c3⟩]; rfl) | (rw [if_neg (fun q => c3 q.2.2)]; rfl) | (rw [if_neg (fun q => c2 q.2.1)]; rfl) | (rw [if_neg (fun q => c1 q.1)]; rfl)
      · refine an_iconst 1 d115_35 rfl ?_
        refine as_goto 40 d115_36 (by decide) ?_
        refine ap_put d115_40 f115_86 (by decide) rfl (Nat.le_of_ble_eq_true rfl) (rfl) rfl rfl ?_
        refine as_aload_n d115_43 rfl ?_
        refine as_iload_n d115_44 rfl ?_
        refine as_iload d115_45 rfl ?_
        refine ap_iast d115_47 (fun _ _ _ _ => rfl) (by decide) (by omega) (by decide) ?_
        refine as_aload_n d115_48 rfl ?_
        refine as_iload_n d115_49 rfl ?_
        refine as_iload d115_50 rfl ?_
        refine ap_iast d115_52 (fun _ _ _ _ => rfl) (by decide) (by omega) (by decide) ?_
        refine as_return d115_53 t115 ?_
        refine am_rst ?_
        unfold rjoin
        first | (rw [if_pos ⟨c1, c2, c3⟩]; rfl) | (rw [if_neg (fun q => c3 q.2.2)]; rfl) | (rw [if_neg (fun q => c2 q.2.1)]; rfl) | (rw [if_neg (fun q => c1 q.1)]; rfl)
theorem rjoin_ar (S : MS) (A a b k : Nat) (h : k ≠ A) : (rjoin S A a b).2.1 k = S.2.1 k := by
  unfold rjoin
  show u2 (u2 S.2.1 A a _) A b _ k = _
  rw [u2_ne _ _ _ h, u2_ne _ _ _ h]
theorem rjoin_la (S : MS) (A a b : Nat) : (rjoin S A a b).2.2 = S.2.2 := rfl
theorem rjoin_fi (S : MS) (A a b i j : Nat) (h : ¬ (i = 189 ∧ j = 9)) : (rjoin S A a b).1 i j = S.1 i j := by
  unfold rjoin
  show u2 S.1 189 9 _ i j = _
  rw [u2_at, if_neg h]
theorem rjoin_at (S : MS) (A a b k : Nat) : (rjoin S A a b).2.1 A k = if k = a ∨ k = b then rjv S A a b else S.2.1 A k := by
  unfold rjoin
  show u2 (u2 S.2.1 A a _) A b _ A k = _
  rw [u2_at, u2_at]
  by_cases h1 : k = b <;> by_cases h2 : k = a <;> simp [h1, h2]
theorem rjoin_more (S : MS) (A a b : Nat) : (rjoin S A a b).1 189 9 = if S.1 189 9 = 0 ∧ S.2.1 A a = rjv S A a b ∧ S.2.1 A b = rjv S A a b then 0 else 1 := by
  unfold rjoin
  show u2 S.1 189 9 _ 189 9 = _
  rw [u2_at]
  exact if_pos ⟨rfl, rfl⟩
def jsB (T : MS) (s t a : Nat) (go : Nat → Nat) : Nat → MS
  | 0 => T
  | b + 1 => if b = a ∨ b = s % 4 then jsB T s t a go b else rjoin (jsB T s t a go b) 195 (endI (s / 4) a b) (endI (t / 4) (go (4 * s + a)) (go (4 * s + b)))
def jsA (S : MS) (s t : Nat) (go : Nat → Nat) : Nat → MS
  | 0 => rjoin S 197 (s / 4) (t / 4)
  | a + 1 => if a = s % 4 then jsA S s t go a else jsB (rjoin (jsA S s t go a) 196 (4 * (s / 4) + a) (4 * (t / 4) + go (4 * s + a))) s t a go 4
theorem jsA_s (S : MS) (s t : Nat) (go : Nat → Nat) (a : Nat) : jsA S s t go (a + 1) = if a = s % 4 then jsA S s t go a else jsB (rjoin (jsA S s t go a) 196 (4 * (s / 4) + a) (4 * (t / 4) + go (4 * s + a))) s t a go 4 := rfl
theorem jsB_s (T : MS) (s t a : Nat) (go : Nat → Nat) (b : Nat) : jsB T s t a go (b + 1) = if b = a ∨ b = s % 4 then jsB T s t a go b else rjoin (jsB T s t a go b) 195 (endI (s / 4) a b) (endI (t / 4) (go (4 * s + a)) (go (4 * s + b))) := rfl
/-- what else stays -/
def rKeep (S T : MS) : Prop := (∀ k, k ≠ 195 → k ≠ 196 → k ≠ 197 → T.2.1 k = S.2.1 k) ∧ T.2.2 = S.2.2 ∧ (∀ i j, ¬ (i = 189 ∧ j = 9) → T.1 i j = S.1 i j)
theorem rKeep.rf (S : MS) : rKeep S S := ⟨fun _ _ _ _ => rfl, rfl, fun _ _ _ => rfl⟩
theorem rKeep.join {S T : MS} (h : rKeep S T) {A : Nat} (hA : A = 195 ∨ A = 196 ∨ A = 197) (a b : Nat) : rKeep S (rjoin T A a b) :=
  ⟨fun k h1 h2 h3 => (rjoin_ar T A a b k (by omega)).trans (h.1 k h1 h2 h3), (rjoin_la T A a b).trans h.2.1, fun i j hij => (rjoin_fi T A a b i j hij).trans (h.2.2 i j hij)⟩
theorem rKeep_jsB {S T : MS} (h : rKeep S T) (s t a : Nat) (go : Nat → Nat) : ∀ b, rKeep S (jsB T s t a go b)
  | 0 => h
  | b + 1 => by
    rw [jsB_s]
    split
    · exact rKeep_jsB h s t a go b
    · exact (rKeep_jsB h s t a go b).join (Or.inl rfl) _ _
theorem rKeep_jsA {S T : MS} (h : rKeep S T) (s t : Nat) (go : Nat → Nat) : ∀ a, rKeep S (jsA T s t go a)
  | 0 => h.join (Or.inr (Or.inr rfl)) _ _
  | a + 1 => by
    rw [jsA_s]
    split
    · exact rKeep_jsA h s t go a
    · exact rKeep_jsB ((rKeep_jsA h s t go a).join (Or.inr (Or.inl rfl)) _ _) s t a go 4
theorem jsA_keep (S : MS) (s t : Nat) (go : Nat → Nat) (a : Nat) : rKeep S (jsA S s t go a) := rKeep_jsA (rKeep.rf S) s t go a
theorem mc_joinSide (X : am_X) (S : MS) (s t : Nat) (go : Nat → Nat) (hs : s < 12) (ht : t < 12) (hg : S.2.1 190 s = nI t) (hgo : ∀ c, c < 4 → S.2.1 191 (4 * s + c) = nI (go (4 * s + c)) ∧ go (4 * s + c) < 4) (hinj : ∀ c d, c < 4 → d < 4 → go (4 * s + c) = go (4 * s + d) → c = d) : MC X 117 [.ref 189, .int (nI s)] S none (jsA S s t go 4) := by
  refine MC.of (Nat.le_of_ble_eq_true rfl) ?_
  refine as_iload_n d117_0 rfl ?_
  refine an_iconst 4 d117_1 rfl ?_
  refine an_idiv d117_2 (by omega) (by omega) (by omega) ?_
  refine as_istore_n d117_3 (by decide) ?_
  refine as_aload_n d117_4 rfl ?_
  refine ap_get d117_5 f117_7 (by decide) rfl rfl ?_
  refine as_iload_n d117_8 rfl ?_
  refine ap_iald d117_9 (fun _ _ _ _ => rfl) (by decide) (by omega) (by decide) ?_
  refine an_top (e' := nI (t)) (hg) ?_
  refine an_iconst 4 d117_10 rfl ?_
  refine an_idiv d117_11 (by omega) (by omega) (by omega) ?_
  refine as_istore_n d117_12 (by decide) ?_
  refine as_aload_n d117_13 rfl ?_
  refine as_aload_n d117_14 rfl ?_
  refine ap_get d117_15 f117_31 (by decide) rfl rfl ?_
  refine as_iload_n d117_18 rfl ?_
  refine as_iload_n d117_19 rfl ?_
  refine ac_v3 d117_20 c117_94 (by decide) rfl (Nat.le_of_ble_eq_true rfl) (mc_join197 X _ _ _ (by omega) (by omega)) ?_
  refine an_iconst 0 d117_23 rfl ?_
  refine as_istore d117_24 (by decide) ?_
  refine AW.loc [(0, .ref (189)), (1, .int (nI (s))), (2, .int (nI ((s) / (4)))), (3, .int (nI ((t) / (4)))), (4, .int (nI (0)))] (am_pick [3, 4, 2, 1, 0] rfl rfl) ?_
  refine aw_for (fun i => ((26, [(0, .ref (189)), (1, .int (nI (s))), (2, .int (nI (s / 4))), (3, .int (nI (t / 4))), (4, .int (nI (i)))], [], 208, HP (jsA S s t go (i)), 0, 0) : am_Z)) (4) (rfl) (fun i hi ih => ?_) ?_
  · have hgi := (hgo i hi).2
    refine as_iload d117_26 rfl ?_
    refine an_iconst 4 d117_28 rfl ?_
    refine an_icmp_ge 152 d117_29 (by decide) (by omega) (by omega) (fun c1 => by omega) (fun c1 => ?_)
    refine as_iload d117_32 rfl ?_
    refine as_iload_n d117_34 rfl ?_
    refine an_iconst 4 d117_35 rfl ?_
    refine an_irem d117_36 (by omega) (by omega) (by omega) ?_
    refine an_icmp_ne 43 d117_37 (by decide) (by omega) (by omega) (fun c2 => ?_) (fun c2 => ?_)
    · refine as_aload_n d117_43 rfl ?_
      refine as_aload_n d117_44 rfl ?_
      refine ap_get d117_45 f117_28 (by decide) rfl rfl ?_
      refine an_iconst 4 d117_48 rfl ?_
      refine as_iload_n d117_49 rfl ?_
      refine an_imul d117_50 ?_
      refine as_iload d117_51 rfl ?_
      refine an_iadd d117_53 ?_
      refine an_iconst 4 d117_54 rfl ?_
      refine as_iload_n d117_55 rfl ?_
      refine an_imul d117_56 ?_
      refine as_aload_n d117_57 rfl ?_
      refine ap_get d117_58 f117_13 (by decide) rfl rfl ?_
      refine an_iconst 4 d117_61 rfl ?_
      refine as_iload_n d117_62 rfl ?_
      refine an_imul d117_63 ?_
      refine as_iload d117_64 rfl ?_
      refine an_iadd d117_66 ?_
      refine ap_iald d117_67 (fun _ _ _ _ => rfl) (by decide) (by omega) (by decide) ?_
      refine an_top (e' := nI (go (4 * s + i))) (by rw [(jsA_keep S s t go i).1 191 (by decide) (by decide) (by decide)]; exact (hgo _ (by omega)).1) ?_
      refine an_iadd d117_68 ?_
      refine ac_v3 d117_69 c117_94 (by decide) rfl (Nat.le_of_ble_eq_true rfl) (mc_join196 X _ _ _ (by omega) (by omega)) ?_
      refine an_iconst 0 d117_72 rfl ?_
      refine as_istore d117_73 (by decide) ?_
      refine AW.loc [(0, .ref (189)), (1, .int (nI (s))), (2, .int (nI (s / 4))), (3, .int (nI (t / 4))), (4, .int (nI (i))), (5, .int (nI (0)))] (am_pick [1, 2, 3, 4, 5, 0] rfl rfl) ?_
      refine aw_for (fun b => ((75, [(0, .ref (189)), (1, .int (nI (s))), (2, .int (nI (s / 4))), (3, .int (nI (t / 4))), (4, .int (nI (i))), (5, .int (nI (b)))], [], 208, HP (jsB (rjoin (jsA S s t go i) 196 (4 * (s / 4) + i) (4 * (t / 4) + go (4 * s + i))) s t i go (b)), 0, 0) : am_Z)) (4) (rfl) (fun b hb ihb => ?_) ?_
      · have hgb := (hgo b hb).2
        refine as_iload d117_75 rfl ?_
        refine an_iconst 4 d117_77 rfl ?_
        refine an_icmp_ge 146 d117_78 (by decide) (by omega) (by omega) (fun c3 => by omega) (fun c3 => ?_)
        refine as_iload d117_81 rfl ?_
        refine as_iload d117_83 rfl ?_
        refine an_icmp_eq 140 d117_85 (by decide) (by omega) (by omega) (fun c3 => ?_) (fun c3 => ?_)
        · refine an_iinc 1 d117_140 rfl rfl (by decide) ?_
          refine as_goto 75 d117_143 (by decide) ?_
          refine AW.loc [(0, .ref (189)), (1, .int (nI (s))), (2, .int (nI (s / 4))), (3, .int (nI (t / 4))), (4, .int (nI (i))), (5, .int (nI (b + 1)))] (am_pick [1, 2, 3, 4, 5, 0] rfl rfl) ?_
          refine an_mem (congrArg HP (show _ = jsB (rjoin (jsA S s t go i) 196 (4 * (s / 4) + i) (4 * (t / 4) + go (4 * s + i))) s t i go (b + 1) from ?_)) ihb
          rw [jsB_s]
          first | (rw [if_pos (Or.inl c3)]) | (rw [if_pos (Or.inr c4)]) | (rw [if_neg (fun q => q.elim c3 c4)])
        · refine as_iload d117_88 rfl ?_
          refine as_iload_n d117_90 rfl ?_
          refine an_iconst 4 d117_91 rfl ?_
          refine an_irem d117_92 (by omega) (by omega) (by omega) ?_
          refine an_icmp_eq 140 d117_93 (by decide) (by omega) (by omega) (fun c4 => ?_) (fun c4 => ?_)
          · refine an_iinc 1 d117_140 rfl rfl (by decide) ?_
            refine as_goto 75 d117_143 (by decide) ?_
            refine AW.loc [(0, .ref (189)), (1, .int (nI (s))), (2, .int (nI (s / 4))), (3, .int (nI (t / 4))), (4, .int (nI (i))), (5, .int (nI (b + 1)))] (am_pick [1, 2, 3, 4, 5, 0] rfl rfl) ?_
            refine an_mem (congrArg HP (show _ = jsB (rjoin (jsA S s t go i) 196 (4 * (s / 4) + i) (4 * (t / 4) + go (4 * s + i))) s t i go (b + 1) from ?_)) ihb
            rw [jsB_s]
            first | (rw [if_pos (Or.inl c3)]) | (rw [if_pos (Or.inr c4)]) | (rw [if_neg (fun q => q.elim c3 c4)])
          · refine as_aload_n d117_96 rfl ?_
            refine as_aload_n d117_97 rfl ?_
            refine ap_get d117_98 f117_25 (by decide) rfl rfl ?_
            refine as_aload_n d117_101 rfl ?_
            refine as_iload_n d117_102 rfl ?_
            refine as_iload d117_103 rfl ?_
            refine as_iload d117_105 rfl ?_
            refine ac_v3 d117_107 c117_98 (by decide) rfl (Nat.le_of_ble_eq_true rfl) (mc_endOf X _ _ _ _ (by omega) (by omega) (by omega) (by omega)) ?_
            refine as_aload_n d117_110 rfl ?_
            refine as_iload_n d117_111 rfl ?_
            refine as_aload_n d117_112 rfl ?_
            refine ap_get d117_113 f117_13 (by decide) rfl rfl ?_
            refine an_iconst 4 d117_116 rfl ?_
            refine as_iload_n d117_117 rfl ?_
            refine an_imul d117_118 ?_
            refine as_iload d117_119 rfl ?_
            refine an_iadd d117_121 ?_
            refine ap_iald d117_122 (fun _ _ _ _ => rfl) (by decide) (by omega) (by decide) ?_
            refine an_top (e' := nI (go (4 * s + i))) (by rw [(rKeep_jsB ((jsA_keep S s t go i).join (Or.inr (Or.inl rfl)) _ _) s t i go b).1 191 (by decide) (by decide) (by decide)]; exact (hgo _ (by omega)).1) ?_
            refine as_aload_n d117_123 rfl ?_
            refine ap_get d117_124 f117_13 (by decide) rfl rfl ?_
            refine an_iconst 4 d117_127 rfl ?_
            refine as_iload_n d117_128 rfl ?_
            refine an_imul d117_129 ?_
            refine as_iload d117_130 rfl ?_
            refine an_iadd d117_132 ?_
            refine ap_iald d117_133 (fun _ _ _ _ => rfl) (by decide) (by omega) (by decide) ?_
            refine an_top (e' := nI (go (4 * s + b))) (by rw [(rKeep_jsB ((jsA_keep S s t go i).join (Or.inr (Or.inl rfl)) _ _) s t i go b).1 191 (by decide) (by decide) (by decide)]; exact (hgo _ (by omega)).1) ?_
            refine ac_v3 d117_134 c117_98 (by decide) rfl (Nat.le_of_ble_eq_true rfl) (mc_endOf X _ _ _ _ (by omega) (by omega) (by omega) (fun q => c3 (hinj _ _ hi hb q).symm)) ?_
            refine ac_v3 d117_137 c117_94 (by decide) rfl (Nat.le_of_ble_eq_true rfl) (mc_join195 X _ _ _ (endI_lt (by omega) (by omega) (by omega)) (endI_lt (by omega) (by omega) (by omega))) ?_
            refine an_iinc 1 d117_140 rfl rfl (by decide) ?_
            refine as_goto 75 d117_143 (by decide) ?_
            refine AW.loc [(0, .ref (189)), (1, .int (nI (s))), (2, .int (nI (s / 4))), (3, .int (nI (t / 4))), (4, .int (nI (i))), (5, .int (nI (b + 1)))] (am_pick [1, 2, 3, 4, 5, 0] rfl rfl) ?_
            refine an_mem (congrArg HP (show _ = jsB (rjoin (jsA S s t go i) 196 (4 * (s / 4) + i) (4 * (t / 4) + go (4 * s + i))) s t i go (b + 1) from ?_)) ihb
            rw [jsB_s]
            first | (rw [if_pos (Or.inl c3)]) | (rw [if_pos (Or.inr c4)]) | (rw [if_neg (fun q => q.elim c3 c4)])
      · refine as_iload d117_75 rfl ?_
        refine an_iconst 4 d117_77 rfl ?_
        refine an_icmp_ge 146 d117_78 (by decide) (by omega) (by omega) (fun c6 => ?_) (fun c6 => by omega)
        refine an_iinc 1 d117_146 rfl rfl (by decide) ?_
        refine as_goto 26 d117_149 (by decide) ?_
        refine AW.loc [(0, .ref (189)), (1, .int (nI (s))), (2, .int (nI (s / 4))), (3, .int (nI (t / 4))), (4, .int (nI (i + 1)))] (am_pick [1, 2, 3, 4, 0] rfl rfl) ?_
        refine an_mem (congrArg HP (show _ = jsA S s t go (i + 1) from ?_)) ih
        rw [jsA_s]
        first | rw [if_pos c2] | rw [if_neg c2]
    · refine as_goto 146 d117_40 (by decide) ?_
      refine an_iinc 1 d117_146 rfl rfl (by decide) ?_
      refine as_goto 26 d117_149 (by decide) ?_
      refine AW.loc [(0, .ref (189)), (1, .int (nI (s))), (2, .int (nI (s / 4))), (3, .int (nI (t / 4))), (4, .int (nI (i + 1)))] (am_pick [1, 2, 3, 4, 0] rfl rfl) ?_
      refine an_mem (congrArg HP (show _ = jsA S s t go (i + 1) from ?_)) ih
      rw [jsA_s]
      first | rw [if_pos c2] | rw [if_neg c2]
  · refine as_iload d117_26 rfl ?_
    refine an_iconst 4 d117_28 rfl ?_
    refine an_icmp_ge 152 d117_29 (by decide) (by omega) (by omega) (fun c7 => ?_) (fun c7 => by omega)
    refine as_return d117_152 t117 ?_
    rfl
