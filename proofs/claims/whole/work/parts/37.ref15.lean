/-! the reference: side, supportOf -/
def sideS (S : MS) (r : Nat) : Nat → Int32
  | 0 => nI 0
  | i + 1 => sideS S r i + S.2.1 202 i * S.2.1 200 (21 * r + i)
def suppS (S : MS) (r : Nat) : Nat → Int32
  | 0 => nI 0
  | i + 1 => suppS S r i ||| (if S.2.1 200 (21 * r + i) = 0 then nI 0 else nI 1 <<< (nI i &&& 31))
theorem sideS_s (S : MS) (r i : Nat) : sideS S r (i + 1) = sideS S r i + S.2.1 202 i * S.2.1 200 (21 * r + i) := rfl
theorem suppS_s (S : MS) (r i : Nat) : suppS S r (i + 1) = suppS S r i ||| (if S.2.1 200 (21 * r + i) = 0 then nI 0 else nI 1 <<< (nI i &&& 31)) := rfl
theorem mc_side (X : am_X) (S : MS) (P r : Nat) (hP : P ≤ 3) (hp : S.1 189 0 = nI P) (hr : r < 2000) : MC X 151 [.ref 189, .int (nI r)] S (some (.int (sideS S r (7 * P)))) S := by
  refine MC.of (Nat.le_of_ble_eq_true rfl) ?_
  refine an_iconst 0 d151_0 rfl ?_
  refine as_istore_n d151_1 (by decide) ?_
  refine an_iconst 0 d151_2 rfl ?_
  refine as_istore_n d151_3 (by decide) ?_
  refine AW.loc [(0, .ref (189)), (1, .int (nI (r))), (2, .int (nI (0))), (3, .int (nI (0)))] (am_pick [2, 3, 1, 0] rfl rfl) ?_
  refine aw_for (fun i => ((4, [(0, .ref (189)), (1, .int (nI (r))), (2, .int (sideS S r (i))), (3, .int (nI (i)))], [], 208, HP (S), 0, 0) : am_Z)) (7 * P) (rfl) (fun i hi ih => ?_) ?_
  · refine as_iload_n d151_4 rfl ?_
    refine an_bipush 7 d151_5 rfl ?_
    refine as_aload_n d151_7 rfl ?_
    refine ap_get d151_8 f151_67 (by decide) rfl rfl ?_
    refine an_top (e' := nI (P)) (hp) ?_
    refine an_imul d151_11 ?_
    refine an_icmp_ge 42 d151_12 (by decide) (by omega) (by omega) (fun c1 => by omega) (fun c1 => ?_)
    refine as_iload_n d151_15 rfl ?_
    refine as_aload_n d151_16 rfl ?_
    refine ap_get d151_17 f151_48 (by decide) rfl rfl ?_
    refine as_iload_n d151_20 rfl ?_
    refine ap_iald d151_21 (fun _ _ _ _ => rfl) (by decide) (by omega) (by decide) ?_
    refine as_aload_n d151_22 rfl ?_
    refine ap_get d151_23 f151_42 (by decide) rfl rfl ?_
    refine an_bipush 21 d151_26 rfl ?_
    refine as_iload_n d151_28 rfl ?_
    refine an_imul d151_29 ?_
    refine as_iload_n d151_30 rfl ?_
    refine an_iadd d151_31 ?_
    refine ap_iald d151_32 (fun _ _ _ _ => rfl) (by decide) (by omega) (by decide) ?_
    refine as_imul d151_33 ?_
    refine as_iadd d151_34 ?_
    refine as_istore_n d151_35 (by decide) ?_
    refine an_iinc 1 d151_36 rfl rfl (by decide) ?_
    refine as_goto 4 d151_39 (by decide) ?_
    refine AW.loc [(0, .ref (189)), (1, .int (nI (r))), (2, .int ((sideS S r (i)) + (((S).2.1 202 (i)) * ((S).2.1 200 (((21) * (r)) + (i)))))), (3, .int (nI (i + 1)))] (am_pick [2, 3, 1, 0] rfl rfl) ?_
    rw [sideS_s] at ih
    exact ih
  · refine as_iload_n d151_4 rfl ?_
    refine an_bipush 7 d151_5 rfl ?_
    refine as_aload_n d151_7 rfl ?_
    refine ap_get d151_8 f151_67 (by decide) rfl rfl ?_
    refine an_top (e' := nI (P)) (hp) ?_
    refine an_imul d151_11 ?_
    refine an_icmp_ge 42 d151_12 (by decide) (by omega) (by omega) (fun c2 => ?_) (fun c2 => by omega)
    refine as_iload_n d151_42 rfl ?_
    refine as_ireturn d151_43 (by rw [t151]; rfl) ?_
    rfl
theorem mc_supportOf (X : am_X) (S : MS) (P r : Nat) (hP : P ≤ 3) (hp : S.1 189 0 = nI P) (hr : r < 2000) : MC X 152 [.ref 189, .int (nI r)] S (some (.int (suppS S r (7 * P)))) S := by
  refine MC.of (Nat.le_of_ble_eq_true rfl) ?_
  refine an_iconst 0 d152_0 rfl ?_
  refine as_istore_n d152_1 (by decide) ?_
  refine an_iconst 0 d152_2 rfl ?_
  refine as_istore_n d152_3 (by decide) ?_
  refine AW.loc [(0, .ref (189)), (1, .int (nI (r))), (2, .int (nI (0))), (3, .int (nI (0)))] (am_pick [2, 3, 1, 0] rfl rfl) ?_
  refine aw_for (fun i => ((4, [(0, .ref (189)), (1, .int (nI (r))), (2, .int (suppS S r (i))), (3, .int (nI (i)))], [], 208, HP (S), 0, 0) : am_Z)) (7 * P) (rfl) (fun i hi ih => ?_) ?_
  · refine as_iload_n d152_4 rfl ?_
    refine an_bipush 7 d152_5 rfl ?_
    refine as_aload_n d152_7 rfl ?_
    refine ap_get d152_8 f152_67 (by decide) rfl rfl ?_
    refine an_top (e' := nI (P)) (hp) ?_
    refine an_imul d152_11 ?_
    refine an_icmp_ge 45 d152_12 (by decide) (by omega) (by omega) (fun c1 => by omega) (fun c1 => ?_)
    refine as_iload_n d152_15 rfl ?_
    refine as_aload_n d152_16 rfl ?_
    refine ap_get d152_17 f152_42 (by decide) rfl rfl ?_
    refine an_bipush 21 d152_20 rfl ?_
    refine as_iload_n d152_22 rfl ?_
    refine an_imul d152_23 ?_
    refine as_iload_n d152_24 rfl ?_
    refine an_iadd d152_25 ?_
    refine ap_iald d152_26 (fun _ _ _ _ => rfl) (by decide) (by omega) (by decide) ?_
    refine as_if_eq 36 d152_27 (by decide) (fun c1 => ?_) (fun c1 => ?_)
    · refine an_iconst 0 d152_36 rfl ?_
      refine as_ior d152_37 ?_
      refine as_istore_n d152_38 (by decide) ?_
      refine an_iinc 1 d152_39 rfl rfl (by decide) ?_
      refine as_goto 4 d152_42 (by decide) ?_
      refine AW.loc [(0, .ref (189)), (1, .int (nI (r))), (2, .int ((suppS S r (i)) ||| nI (0))), (3, .int (nI (i + 1)))] (am_pick [2, 3, 1, 0] rfl rfl) ?_
      rw [suppS_s] at ih
      first | (rw [if_pos c1] at ih; exact ih) | (rw [if_neg c1] at ih; exact ih)
    · refine an_iconst 1 d152_30 rfl ?_
      refine as_iload_n d152_31 rfl ?_
      refine as_ishl d152_32 ?_
      refine as_goto 37 d152_33 (by decide) ?_
      refine as_ior d152_37 ?_
      refine as_istore_n d152_38 (by decide) ?_
      refine an_iinc 1 d152_39 rfl rfl (by decide) ?_
      refine as_goto 4 d152_42 (by decide) ?_
      refine AW.loc [(0, .ref (189)), (1, .int (nI (r))), (2, .int ((suppS S r (i)) ||| (nI (1) <<< (nI (i) &&& 31)))), (3, .int (nI (i + 1)))] (am_pick [2, 3, 1, 0] rfl rfl) ?_
      rw [suppS_s] at ih
      first | (rw [if_pos c1] at ih; exact ih) | (rw [if_neg c1] at ih; exact ih)
  · refine as_iload_n d152_4 rfl ?_
    refine an_bipush 7 d152_5 rfl ?_
    refine as_aload_n d152_7 rfl ?_
    refine ap_get d152_8 f152_67 (by decide) rfl rfl ?_
    refine an_top (e' := nI (P)) (hp) ?_
    refine an_imul d152_11 ?_
    refine an_icmp_ge 45 d152_12 (by decide) (by omega) (by omega) (fun c3 => ?_) (fun c3 => by omega)
    refine as_iload_n d152_45 rfl ?_
    refine as_ireturn d152_46 (by rw [t152]; rfl) ?_
    rfl
