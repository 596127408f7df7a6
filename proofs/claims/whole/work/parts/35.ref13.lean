/-! the reference: meets -/
def fE (e : Nat) : Nat := ([0, 0, 0, 1, 1, 2] : List Nat).getD e 0
def tE (e : Nat) : Nat := ([1, 2, 3, 2, 3, 3] : List Nat).getD e 0
theorem fE_ok : ∀ e, e < 6 → c_from e = nI (fE e) ∧ c_to e = nI (tE e) ∧ fE e < 4 ∧ tE e < 4 ∧ fE e < tE e := by decide
def mtS (k e : Nat) : Bool := if k < 4 then decide (fE e = k ∨ tE e = k) else decide (kO (fE e) (tE e) ≠ k - 4)
theorem mc_meets (X : am_X) (S : MS) (k e : Nat) (hk : k < 7) (he : e < 6) : MC X 168 [.ref (189), .int (nI (k)), .int (nI (e))] S (some (.int (if mtS k e then 1 else 0))) S := by
  refine MC.of (Nat.le_of_ble_eq_true rfl) ?_
  obtain ⟨h1, h2, h3, h4, h5⟩ := fE_ok e he
  have h6 := kO_lt h3 h4 (by omega)
  refine as_iload_n d168_0 rfl ?_
  refine an_iconst 4 d168_1 rfl ?_
  refine an_icmp_ge 33 d168_2 (by decide) (by omega) (by omega) (fun c1 => ?_) (fun c1 => ?_)
  · refine as_aload_n d168_33 rfl ?_
    refine ap_get d168_34 f168_19 (by decide) rfl rfl ?_
    refine as_iload_n d168_37 rfl ?_
    refine ap_cald d168_38 rfl (by decide) (by omega) (by decide) ?_
    refine an_top (e' := nI (fE e)) (h1) ?_
    refine as_aload_n d168_39 rfl ?_
    refine ap_get d168_40 f168_22 (by decide) rfl rfl ?_
    refine as_iload_n d168_43 rfl ?_
    refine ap_cald d168_44 rfl (by decide) (by omega) (by decide) ?_
    refine an_top (e' := nI (tE e)) (h2) ?_
    refine ac_s2 d168_45 c168_186 (by decide) (Nat.le_of_ble_eq_true rfl) (mc_kindOf X _ _ _ (by omega) (by omega) (by omega)) ?_
    refine as_iload_n d168_48 rfl ?_
    refine an_iconst 4 d168_49 rfl ?_
    refine an_isub d168_50 (by omega) ?_
    refine an_icmp_eq 58 d168_51 (by decide) (by omega) (by omega) (fun c4 => ?_) (fun c4 => ?_)
    · refine an_iconst 0 d168_58 rfl ?_
      refine as_ireturn d168_59 (by rw [t168]; rfl) ?_
      refine am_req ?_
      first | (rw [if_pos (show mtS k e = true by unfold mtS; rw [if_pos (show k < 4 by omega)]; exact decide_eq_true (by omega))]; rfl) | (rw [if_neg (show ¬ mtS k e = true by unfold mtS; rw [if_pos (show k < 4 by omega), decide_eq_false (by omega)]; decide)]; rfl) | (rw [if_pos (show mtS k e = true by unfold mtS; rw [if_neg (show ¬ k < 4 by omega)]; exact decide_eq_true (by omega))]; rfl) | (rw [if_neg (show ¬ mtS k e = true by unfold mtS; rw [if_neg (show ¬ k < 4 by omega), decide_eq_false (by omega)]; decide)]; rfl)
    · refine an_iconst 1 d168_54 rfl ?_
      refine as_goto 59 d168_55 (by decide) ?_
      refine as_ireturn d168_59 (by rw [t168]; rfl) ?_
      refine am_req ?_
      first | (rw [if_pos (show mtS k e = true by unfold mtS; rw [if_pos (show k < 4 by omega)]; exact decide_eq_true (by omega))]; rfl) | (rw [if_neg (show ¬ mtS k e = true by unfold mtS; rw [if_pos (show k < 4 by omega), decide_eq_false (by omega)]; decide)]; rfl) | (rw [if_pos (show mtS k e = true by unfold mtS; rw [if_neg (show ¬ k < 4 by omega)]; exact decide_eq_true (by omega))]; rfl) | (rw [if_neg (show ¬ mtS k e = true by unfold mtS; rw [if_neg (show ¬ k < 4 by omega), decide_eq_false (by omega)]; decide)]; rfl)
  · refine as_aload_n d168_5 rfl ?_
    refine ap_get d168_6 f168_19 (by decide) rfl rfl ?_
    refine as_iload_n d168_9 rfl ?_
    refine ap_cald d168_10 rfl (by decide) (by omega) (by decide) ?_
    refine an_top (e' := nI (fE e)) (h1) ?_
    refine as_iload_n d168_11 rfl ?_
    refine an_icmp_eq 25 d168_12 (by decide) (by omega) (by omega) (fun c2 => ?_) (fun c2 => ?_)
    · refine an_iconst 1 d168_25 rfl ?_
      refine as_goto 59 d168_26 (by decide) ?_
      refine as_ireturn d168_59 (by rw [t168]; rfl) ?_
      refine am_req ?_
      first | (rw [if_pos (show mtS k e = true by unfold mtS; rw [if_pos (show k < 4 by omega)]; exact decide_eq_true (by omega))]; rfl) | (rw [if_neg (show ¬ mtS k e = true by unfold mtS; rw [if_pos (show k < 4 by omega), decide_eq_false (by omega)]; decide)]; rfl) | (rw [if_pos (show mtS k e = true by unfold mtS; rw [if_neg (show ¬ k < 4 by omega)]; exact decide_eq_true (by omega))]; rfl) | (rw [if_neg (show ¬ mtS k e = true by unfold mtS; rw [if_neg (show ¬ k < 4 by omega), decide_eq_false (by omega)]; decide)]; rfl)
    · refine as_aload_n d168_15 rfl ?_
      refine ap_get d168_16 f168_22 (by decide) rfl rfl ?_
      refine as_iload_n d168_19 rfl ?_
      refine ap_cald d168_20 rfl (by decide) (by omega) (by decide) ?_
      refine an_top (e' := nI (tE e)) (h2) ?_
      refine as_iload_n d168_21 rfl ?_
      refine an_icmp_ne 29 d168_22 (by decide) (by omega) (by omega) (fun c3 => ?_) (fun c3 => ?_)
      · refine an_iconst 0 d168_29 rfl ?_
        refine as_goto 59 d168_30 (by decide) ?_
        refine as_ireturn d168_59 (by rw [t168]; rfl) ?_
        refine am_req ?_
        first | (rw [if_pos (show mtS k e = true by unfold mtS; rw [if_pos (show k < 4 by omega)]; exact decide_eq_true (by omega))]; rfl) | (rw [if_neg (show ¬ mtS k e = true by unfold mtS; rw [if_pos (show k < 4 by omega), decide_eq_false (by omega)]; decide)]; rfl) | (rw [if_pos (show mtS k e = true by unfold mtS; rw [if_neg (show ¬ k < 4 by omega)]; exact decide_eq_true (by omega))]; rfl) | (rw [if_neg (show ¬ mtS k e = true by unfold mtS; rw [if_neg (show ¬ k < 4 by omega), decide_eq_false (by omega)]; decide)]; rfl)
      · refine an_iconst 1 d168_25 rfl ?_
        refine as_goto 59 d168_26 (by decide) ?_
        refine as_ireturn d168_59 (by rw [t168]; rfl) ?_
        refine am_req ?_
        first | (rw [if_pos (show mtS k e = true by unfold mtS; rw [if_pos (show k < 4 by omega)]; exact decide_eq_true (by omega))]; rfl) | (rw [if_neg (show ¬ mtS k e = true by unfold mtS; rw [if_pos (show k < 4 by omega), decide_eq_false (by omega)]; decide)]; rfl) | (rw [if_pos (show mtS k e = true by unfold mtS; rw [if_neg (show ¬ k < 4 by omega)]; exact decide_eq_true (by omega))]; rfl) | (rw [if_neg (show ¬ mtS k e = true by unfold mtS; rw [if_neg (show ¬ k < 4 by omega), decide_eq_false (by omega)]; decide)]; rfl)
