/-! the reference: hasOneKind -/
def fours (x : Int32) (p : Nat) : Int32 := (x >>> (nI (7 * p + 4) &&& 31)) &&& nI 7
def twoK (x : Int32) (p : Nat) : Bool := decide (¬ fours x p &&& (fours x p - nI 1) = 0)
theorem mc_hasOneKind (X : am_X) (S : MS) (P : Nat) (x : Int32) (hP : P ≤ 3) (hp : S.1 189 0 = nI P) : MC X 153 [.ref 189, .int x] S (some (.int (nI (1 - anyN (twoK x) P)))) S := by
  refine MC.of (Nat.le_of_ble_eq_true rfl) ?_
  refine an_iconst 1 d153_0 rfl ?_
  refine as_istore_n d153_1 (by decide) ?_
  refine an_iconst 0 d153_2 rfl ?_
  refine as_istore_n d153_3 (by decide) ?_
  refine AW.loc [(0, .ref (189)), (1, .int (x)), (2, .int (nI (1))), (3, .int (nI (0)))] (am_pick [2, 3, 1, 0] rfl rfl) ?_
  refine aw_for (fun i => ((4, [(0, .ref (189)), (1, .int (x)), (2, .int (nI (1 - anyN (twoK x) (i)))), (3, .int (nI (i)))], [], 208, HP (S), 0, 0) : am_Z)) (P) (rfl) (fun i hi ih => ?_) ?_
  · refine as_iload_n d153_4 rfl ?_
    refine as_aload_n d153_5 rfl ?_
    refine ap_get d153_6 f153_67 (by decide) rfl rfl ?_
    refine an_top (e' := nI (P)) (hp) ?_
    refine an_icmp_ge 51 d153_9 (by decide) (by omega) (by omega) (fun c1 => by omega) (fun c1 => ?_)
    refine as_iload_n d153_12 rfl ?_
    refine an_bipush 7 d153_13 rfl ?_
    refine as_iload_n d153_15 rfl ?_
    refine an_imul d153_16 ?_
    refine an_iconst 4 d153_17 rfl ?_
    refine an_iadd d153_18 ?_
    refine as_ishr d153_19 ?_
    refine an_bipush 7 d153_20 rfl ?_
    refine as_iand d153_22 ?_
    refine an_top (e' := fours x i) (rfl) ?_
    refine as_istore d153_23 (by decide) ?_
    refine as_iload_n d153_25 rfl ?_
    refine an_if_eq 43 d153_26 (by decide) (by omega) (fun c1 => ?_) (fun c1 => ?_)
    · refine an_iconst 0 d153_43 rfl ?_
      refine as_istore_n d153_44 (by decide) ?_
      refine an_iinc 1 d153_45 rfl rfl (by decide) ?_
      refine as_goto 4 d153_48 (by decide) ?_
      refine AW.loc [(0, .ref (189)), (1, .int (x)), (2, .int (nI (0))), (3, .int (nI (i + 1)))] (am_pick [3, 4, 1, 0] rfl rfl) ?_
      first | (rw [anyN_s (show anyN (twoK x) i ≠ 0 by omega)] at ih; exact ih) | (rw [anyN_t (show twoK x i = true from decide_eq_true c2)] at ih; exact ih) | (rw [anyN_f (show anyN (twoK x) i = 0 by have := anyN_lt (twoK x) i; omega) (show ¬ twoK x i = true from fun h => (of_decide_eq_true (p := ¬ fours x i &&& (fours x i - nI 1) = 0) h) c2)] at ih; exact ih)
    · refine as_iload d153_29 rfl ?_
      refine as_iload d153_31 rfl ?_
      refine an_iconst 1 d153_33 rfl ?_
      refine as_isub d153_34 ?_
      refine as_iand d153_35 ?_
      refine as_if_ne 43 d153_36 (by decide) (fun c2 => ?_) (fun c2 => ?_)
      · refine an_iconst 0 d153_43 rfl ?_
        refine as_istore_n d153_44 (by decide) ?_
        refine an_iinc 1 d153_45 rfl rfl (by decide) ?_
        refine as_goto 4 d153_48 (by decide) ?_
        refine AW.loc [(0, .ref (189)), (1, .int (x)), (2, .int (nI (0))), (3, .int (nI (i + 1)))] (am_pick [3, 4, 1, 0] rfl rfl) ?_
        first | (rw [anyN_s (show anyN (twoK x) i ≠ 0 by omega)] at ih; exact ih) | (rw [anyN_t (show twoK x i = true from decide_eq_true c2)] at ih; exact ih) | (rw [anyN_f (show anyN (twoK x) i = 0 by have := anyN_lt (twoK x) i; omega) (show ¬ twoK x i = true from fun h => (of_decide_eq_true (p := ¬ fours x i &&& (fours x i - nI 1) = 0) h) c2)] at ih; exact ih)
      · refine an_iconst 1 d153_39 rfl ?_
        refine as_goto 44 d153_40 (by decide) ?_
        refine as_istore_n d153_44 (by decide) ?_
        refine an_iinc 1 d153_45 rfl rfl (by decide) ?_
        refine as_goto 4 d153_48 (by decide) ?_
        refine AW.loc [(0, .ref (189)), (1, .int (x)), (2, .int (nI (1))), (3, .int (nI (i + 1)))] (am_pick [3, 4, 1, 0] rfl rfl) ?_
        first | (rw [anyN_s (show anyN (twoK x) i ≠ 0 by omega)] at ih; exact ih) | (rw [anyN_t (show twoK x i = true from decide_eq_true c2)] at ih; exact ih) | (rw [anyN_f (show anyN (twoK x) i = 0 by have := anyN_lt (twoK x) i; omega) (show ¬ twoK x i = true from fun h => (of_decide_eq_true (p := ¬ fours x i &&& (fours x i - nI 1) = 0) h) c2)] at ih; exact ih)
  · refine as_iload_n d153_4 rfl ?_
    refine as_aload_n d153_5 rfl ?_
    refine ap_get d153_6 f153_67 (by decide) rfl rfl ?_
    refine an_top (e' := nI (P)) (hp) ?_
    refine an_icmp_ge 51 d153_9 (by decide) (by omega) (by omega) (fun c4 => ?_) (fun c4 => by omega)
    refine as_iload_n d153_51 rfl ?_
    refine as_ireturn d153_52 (by rw [t153]; have := anyN_lt (twoK x) P; rcases (show 1 - anyN (twoK x) P = 0 ∨ 1 - anyN (twoK x) P = 1 by omega) with e | e <;> rw [e] <;> rfl) ?_
    rfl
