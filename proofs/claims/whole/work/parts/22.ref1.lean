/-! the reference: small methods -/
theorem am_req {v w : Int32} {S : MS} (h : v = w) : ((some (.int v), 208, HP S, 0, 0) : am_R) = (some (.int w), 208, HP S, 0, 0) := by rw [h]
theorem mc_in (X : am_X) (S : MS) (v lo hi : Int32) : MC X 109 [.int v, .int lo, .int hi] S (some (.int (if lo ≤ v ∧ v ≤ hi then 1 else 0))) S := by
  refine MC.of (Nat.le_of_ble_eq_true rfl) ?_
  refine as_iload_n d109_0 rfl ?_
  refine as_iload_n d109_1 rfl ?_
  refine as_icmp_lt 14 d109_2 (by decide) (fun c1 => ?_) (fun c1 => ?_)
  · refine an_iconst 0 d109_14 rfl ?_
    refine as_ireturn d109_15 (by rw [t109]; rfl) ?_
    refine am_req ?_
    simp only [Int32.lt_iff_toInt_lt, Int32.le_iff_toInt_le] at *
    split <;> first | rfl | (exfalso; omega)
  · refine as_iload_n d109_5 rfl ?_
    refine as_iload_n d109_6 rfl ?_
    refine as_icmp_gt 14 d109_7 (by decide) (fun c2 => ?_) (fun c2 => ?_)
    · refine an_iconst 0 d109_14 rfl ?_
      refine as_ireturn d109_15 (by rw [t109]; rfl) ?_
      refine am_req ?_
      simp only [Int32.lt_iff_toInt_lt, Int32.le_iff_toInt_le] at *
      split <;> first | rfl | (exfalso; omega)
    · refine an_iconst 1 d109_10 rfl ?_
      refine as_goto 15 d109_11 (by decide) ?_
      refine as_ireturn d109_15 (by rw [t109]; rfl) ?_
      refine am_req ?_
      simp only [Int32.lt_iff_toInt_lt, Int32.le_iff_toInt_le] at *
      split <;> first | rfl | (exfalso; omega)
theorem mc_lesser (X : am_X) (S : MS) (a b : Int32) : MC X 114 [.int a, .int b] S (some (.int (if a < b then a else b))) S := by
  refine MC.of (Nat.le_of_ble_eq_true rfl) ?_
  refine as_iload_n d114_0 rfl ?_
  refine as_iload_n d114_1 rfl ?_
  refine as_icmp_ge 9 d114_2 (by decide) (fun c1 => ?_) (fun c1 => ?_)
  · refine as_iload_n d114_9 rfl ?_
    refine as_ireturn d114_10 (by rw [t114]; rfl) ?_
    refine am_req ?_
    simp only [Int32.lt_iff_toInt_lt, Int32.le_iff_toInt_le] at *
    split <;> first | rfl | (exfalso; omega)
  · refine as_iload_n d114_5 rfl ?_
    refine as_goto 10 d114_6 (by decide) ?_
    refine as_ireturn d114_10 (by rw [t114]; rfl) ?_
    refine am_req ?_
    simp only [Int32.lt_iff_toInt_lt, Int32.le_iff_toInt_le] at *
    split <;> first | rfl | (exfalso; omega)
theorem mc_isPiece (X : am_X) (S : MS) (p : Int32) : MC X 110 [.ref 189, .int p] S (some (.int (if 0 ≤ p ∧ p ≤ S.1 189 0 - 1 then 1 else 0))) S := by
  refine MC.of (Nat.le_of_ble_eq_true rfl) ?_
  refine as_iload_n d110_0 rfl ?_
  refine an_iconst 0 d110_1 rfl ?_
  refine as_aload_n d110_2 rfl ?_
  refine ap_get d110_3 f110_67 (by decide) rfl rfl ?_
  refine an_iconst 1 d110_6 rfl ?_
  refine as_isub d110_7 ?_
  refine ac_s3 d110_8 c110_71 (by decide) (Nat.le_of_ble_eq_true rfl) (mc_in X _ _ _ _) ?_
  refine as_ireturn d110_11 (by rw [t110]; split <;> rfl) ?_
  rfl
theorem am_b01 {P : Prop} [Decidable P] : (if P then (1 : Int32) else 0) = 0 ↔ ¬ P := by by_cases h : P <;> simp [h]
theorem mc_isSide (X : am_X) (S : MS) (p f : Int32) : MC X 111 [.ref 189, .int p, .int f] S (some (.int (if (0 ≤ p ∧ p ≤ S.1 189 0 - 1) ∧ 0 ≤ f ∧ f ≤ 3 then 1 else 0))) S := by
  refine MC.of (Nat.le_of_ble_eq_true rfl) ?_
  refine as_aload_n d111_0 rfl ?_
  refine as_iload_n d111_1 rfl ?_
  refine ac_v1 d111_2 c111_75 (by decide) rfl (Nat.le_of_ble_eq_true rfl) (mc_isPiece X _ _) ?_
  refine as_if_eq 21 d111_5 (by decide) (fun c1 => ?_) (fun c1 => ?_)
  · refine an_iconst 0 d111_21 rfl ?_
    refine as_ireturn d111_22 (by rw [t111]; rfl) ?_
    refine am_req ?_
    simp only [am_b01] at *
    first | (rw [if_pos ⟨Classical.not_not.mp c1, Classical.not_not.mp c2⟩]; rfl) | (rw [if_neg (fun q => c2 q.2)]; rfl) | (rw [if_neg (fun q => c1 q.1)]; rfl)
  · refine as_iload_n d111_8 rfl ?_
    refine an_iconst 0 d111_9 rfl ?_
    refine an_iconst 3 d111_10 rfl ?_
    refine ac_s3 d111_11 c111_71 (by decide) (Nat.le_of_ble_eq_true rfl) (mc_in X _ _ _ _) ?_
    refine as_if_eq 21 d111_14 (by decide) (fun c2 => ?_) (fun c2 => ?_)
    · refine an_iconst 0 d111_21 rfl ?_
      refine as_ireturn d111_22 (by rw [t111]; rfl) ?_
      refine am_req ?_
      simp only [am_b01] at *
      first | (rw [if_pos ⟨Classical.not_not.mp c1, Classical.not_not.mp c2⟩]; rfl) | (rw [if_neg (fun q => c2 q.2)]; rfl) | (rw [if_neg (fun q => c1 q.1)]; rfl)
    · refine an_iconst 1 d111_17 rfl ?_
      refine as_goto 22 d111_18 (by decide) ?_
      refine as_ireturn d111_22 (by rw [t111]; rfl) ?_
      refine am_req ?_
      simp only [am_b01] at *
      first | (rw [if_pos ⟨Classical.not_not.mp c1, Classical.not_not.mp c2⟩]; rfl) | (rw [if_neg (fun q => c2 q.2)]; rfl) | (rw [if_neg (fun q => c1 q.1)]; rfl)
/-- the edge with the corners a and b -/
def eOf (a b : Nat) : Nat := ([[0, 0, 1, 2], [0, 0, 3, 4], [1, 3, 0, 5], [2, 4, 5, 0]] : List (List Nat)).getD a [] |>.getD b 0
theorem eOf_lt : ∀ a, a < 4 → ∀ b, b < 4 → eOf a b < 6 := by decide
def eHit (e a b : Nat) : Bool := (c_from e == nI a && c_to e == nI b) || (c_from e == nI b && c_to e == nI a)
theorem eHit_ok : ∀ a, a < 4 → ∀ b, b < 4 → a ≠ b → (∀ e, e < eOf a b → eHit e a b = false) ∧ eHit (eOf a b) a b = true := by decide
theorem mc_edgeOf (X : am_X) (S : MS) (a b : Nat) (ha : a < 4) (hb : b < 4) (hab : a ≠ b) : MC X 112 [.ref 189, .int (nI a), .int (nI b)] S (some (.int (nI (eOf a b)))) S := by
  refine MC.of (Nat.le_of_ble_eq_true rfl) ?_
  have hE := eHit_ok a ha b hb hab
  have hlt := eOf_lt a ha b hb
  refine an_iconst 0 d112_0 rfl ?_
  refine as_istore_n d112_1 (by decide) ?_
  refine AW.loc [(0, .ref (189)), (1, .int (nI (a))), (2, .int (nI (b))), (3, .int (nI (0)))] (am_pick [1, 2, 3, 0] rfl rfl) ?_
  refine aw_for (fun i => ((2, [(0, .ref (189)), (1, .int (nI (a))), (2, .int (nI (b))), (3, .int (nI (i)))], [], 208, HP (S), 0, 0) : am_Z)) (eOf a b) (rfl) (fun i hi ih => ?_) ?_
  · have hh := hE.1 i hi
    unfold eHit at hh
    simp only [Bool.or_eq_false_iff, Bool.and_eq_false_iff, beq_eq_false_iff_ne] at hh
    refine as_aload_n d112_2 rfl ?_
    refine ap_get d112_3 f112_19 (by decide) rfl rfl ?_
    refine as_iload_n d112_6 rfl ?_
    refine ap_cald d112_7 rfl (by decide) (by omega) (by decide) ?_
    refine as_iload_n d112_8 rfl ?_
    refine as_icmp_ne 22 d112_9 (by decide) (fun c1 => ?_) (fun c1 => ?_)
    · refine as_aload_n d112_22 rfl ?_
      refine ap_get d112_23 f112_19 (by decide) rfl rfl ?_
      refine as_iload_n d112_26 rfl ?_
      refine ap_cald d112_27 rfl (by decide) (by omega) (by decide) ?_
      refine as_iload_n d112_28 rfl ?_
      refine as_icmp_ne 42 d112_29 (by decide) (fun c2 => ?_) (fun c2 => ?_)
      · refine an_iinc 1 d112_42 rfl rfl (by decide) ?_
        refine as_goto 2 d112_45 (by decide) ?_
        refine AW.loc [(0, .ref (189)), (1, .int (nI (a))), (2, .int (nI (b))), (3, .int (nI (i + 1)))] (am_pick [1, 2, 3, 0] rfl rfl) ?_
        exact ih
      · refine as_aload_n d112_32 rfl ?_
        refine ap_get d112_33 f112_22 (by decide) rfl rfl ?_
        refine as_iload_n d112_36 rfl ?_
        refine ap_cald d112_37 rfl (by decide) (by omega) (by decide) ?_
        refine as_iload_n d112_38 rfl ?_
        refine as_icmp_eq 48 d112_39 (by decide) (fun c3 => ?_) (fun c3 => ?_)
        · refine as_iload_n d112_48 rfl ?_
          refine as_ireturn d112_49 (by rw [t112]; rfl) ?_
          exfalso
          rcases hh with ⟨h1, h2⟩
          simp_all
        · refine an_iinc 1 d112_42 rfl rfl (by decide) ?_
          refine as_goto 2 d112_45 (by decide) ?_
          refine AW.loc [(0, .ref (189)), (1, .int (nI (a))), (2, .int (nI (b))), (3, .int (nI (i + 1)))] (am_pick [1, 2, 3, 0] rfl rfl) ?_
          exact ih
    · refine as_aload_n d112_12 rfl ?_
      refine ap_get d112_13 f112_22 (by decide) rfl rfl ?_
      refine as_iload_n d112_16 rfl ?_
      refine ap_cald d112_17 rfl (by decide) (by omega) (by decide) ?_
      refine as_iload_n d112_18 rfl ?_
      refine as_icmp_eq 48 d112_19 (by decide) (fun c4 => ?_) (fun c4 => ?_)
      · refine as_iload_n d112_48 rfl ?_
        refine as_ireturn d112_49 (by rw [t112]; rfl) ?_
        exfalso
        rcases hh with ⟨h1, h2⟩
        simp_all
      · refine as_aload_n d112_22 rfl ?_
        refine ap_get d112_23 f112_19 (by decide) rfl rfl ?_
        refine as_iload_n d112_26 rfl ?_
        refine ap_cald d112_27 rfl (by decide) (by omega) (by decide) ?_
        refine as_iload_n d112_28 rfl ?_
        refine as_icmp_ne 42 d112_29 (by decide) (fun c5 => ?_) (fun c5 => ?_)
        · refine an_iinc 1 d112_42 rfl rfl (by decide) ?_
          refine as_goto 2 d112_45 (by decide) ?_
          refine AW.loc [(0, .ref (189)), (1, .int (nI (a))), (2, .int (nI (b))), (3, .int (nI (i + 1)))] (am_pick [1, 2, 3, 0] rfl rfl) ?_
          exact ih
        · refine as_aload_n d112_32 rfl ?_
          refine ap_get d112_33 f112_22 (by decide) rfl rfl ?_
          refine as_iload_n d112_36 rfl ?_
          refine ap_cald d112_37 rfl (by decide) (by omega) (by decide) ?_
          refine as_iload_n d112_38 rfl ?_
          refine as_icmp_eq 48 d112_39 (by decide) (fun c6 => ?_) (fun c6 => ?_)
          · refine as_iload_n d112_48 rfl ?_
            refine as_ireturn d112_49 (by rw [t112]; rfl) ?_
            exfalso
            rcases hh with ⟨h1, h2⟩
            simp_all
          · refine an_iinc 1 d112_42 rfl rfl (by decide) ?_
            refine as_goto 2 d112_45 (by decide) ?_
            refine AW.loc [(0, .ref (189)), (1, .int (nI (a))), (2, .int (nI (b))), (3, .int (nI (i + 1)))] (am_pick [1, 2, 3, 0] rfl rfl) ?_
            exact ih
  · refine as_aload_n d112_2 rfl ?_
    refine ap_get d112_3 f112_19 (by decide) rfl rfl ?_
    refine as_iload_n d112_6 rfl ?_
    refine ap_cald d112_7 rfl (by decide) (by omega) (by decide) ?_
    refine as_iload_n d112_8 rfl ?_
    refine as_icmp_ne 22 d112_9 (by decide) (fun c7 => ?_) (fun c7 => ?_)
    · refine as_aload_n d112_22 rfl ?_
      refine ap_get d112_23 f112_19 (by decide) rfl rfl ?_
      refine as_iload_n d112_26 rfl ?_
      refine ap_cald d112_27 rfl (by decide) (by omega) (by decide) ?_
      refine as_iload_n d112_28 rfl ?_
      refine as_icmp_ne 42 d112_29 (by decide) (fun c8 => ?_) (fun c8 => ?_)
      · exfalso
        have hh := hE.2
        unfold eHit at hh
        simp only [Bool.or_eq_true, Bool.and_eq_true, beq_iff_eq] at hh
        rcases hh with ⟨h1, h2⟩ | ⟨h1, h2⟩ <;> simp_all
      · refine as_aload_n d112_32 rfl ?_
        refine ap_get d112_33 f112_22 (by decide) rfl rfl ?_
        refine as_iload_n d112_36 rfl ?_
        refine ap_cald d112_37 rfl (by decide) (by omega) (by decide) ?_
        refine as_iload_n d112_38 rfl ?_
        refine as_icmp_eq 48 d112_39 (by decide) (fun c9 => ?_) (fun c9 => ?_)
        · refine as_iload_n d112_48 rfl ?_
          refine as_ireturn d112_49 (by rw [t112]; rfl) ?_
          rfl
        · exfalso
          have hh := hE.2
          unfold eHit at hh
          simp only [Bool.or_eq_true, Bool.and_eq_true, beq_iff_eq] at hh
          rcases hh with ⟨h1, h2⟩ | ⟨h1, h2⟩ <;> simp_all
    · refine as_aload_n d112_12 rfl ?_
      refine ap_get d112_13 f112_22 (by decide) rfl rfl ?_
      refine as_iload_n d112_16 rfl ?_
      refine ap_cald d112_17 rfl (by decide) (by omega) (by decide) ?_
      refine as_iload_n d112_18 rfl ?_
      refine as_icmp_eq 48 d112_19 (by decide) (fun c10 => ?_) (fun c10 => ?_)
      · refine as_iload_n d112_48 rfl ?_
        refine as_ireturn d112_49 (by rw [t112]; rfl) ?_
        rfl
      · refine as_aload_n d112_22 rfl ?_
        refine ap_get d112_23 f112_19 (by decide) rfl rfl ?_
        refine as_iload_n d112_26 rfl ?_
        refine ap_cald d112_27 rfl (by decide) (by omega) (by decide) ?_
        refine as_iload_n d112_28 rfl ?_
        refine as_icmp_ne 42 d112_29 (by decide) (fun c11 => ?_) (fun c11 => ?_)
        · exfalso
          have hh := hE.2
          unfold eHit at hh
          simp only [Bool.or_eq_true, Bool.and_eq_true, beq_iff_eq] at hh
          rcases hh with ⟨h1, h2⟩ | ⟨h1, h2⟩ <;> simp_all
        · refine as_aload_n d112_32 rfl ?_
          refine ap_get d112_33 f112_22 (by decide) rfl rfl ?_
          refine as_iload_n d112_36 rfl ?_
          refine ap_cald d112_37 rfl (by decide) (by omega) (by decide) ?_
          refine as_iload_n d112_38 rfl ?_
          refine as_icmp_eq 48 d112_39 (by decide) (fun c12 => ?_) (fun c12 => ?_)
          · refine as_iload_n d112_48 rfl ?_
            refine as_ireturn d112_49 (by rw [t112]; rfl) ?_
            rfl
          · exfalso
            have hh := hE.2
            unfold eHit at hh
            simp only [Bool.or_eq_true, Bool.and_eq_true, beq_iff_eq] at hh
            rcases hh with ⟨h1, h2⟩ | ⟨h1, h2⟩ <;> simp_all
