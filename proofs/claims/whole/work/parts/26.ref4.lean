/-! the reference: classes -/
def lb (T : MS) (k : Nat) : Nat := (T.2.1 195 k).toNatClampNeg
def cb (T : MS) (k : Nat) : Nat := (T.2.1 196 k).toNatClampNeg
def sb (T : MS) (k : Nat) : Nat := (T.2.1 197 k).toNatClampNeg
def eL (T : MS) (k : Nat) : Nat := min (lb T (2 * k)) (lb T (2 * k + 1)) / 2
def LN (T : MS) : Prop := (∀ k, k < 36 → T.2.1 195 k = nI (lb T k) ∧ lb T k ≤ k) ∧ (∀ k, k < 12 → T.2.1 196 k = nI (cb T k) ∧ cb T k ≤ k) ∧ ∀ k, k < 3 → T.2.1 197 k = nI (sb T k) ∧ sb T k ≤ k
theorem LabI.n {f : Nat → Int32} {prs : List (Nat × Nat)} {n : Nat} (h : LabI f prs n) (hn : n ≤ 1000) : ∀ k, k < n → f k = nI (f k).toNatClampNeg ∧ (f k).toNatClampNeg ≤ k := by
  intro k hk
  obtain ⟨m, h1, h2, -⟩ := h k hk
  rw [h1, nI_clamp (by omega)]
  exact ⟨rfl, h2⟩
theorem LabS.n {T : MS} {P : Nat} {mt : Nat → Option Nat} {go : Nat → Nat} (h : LabS T P mt go) : LN T := ⟨h.1.1.n (by decide), h.2.1.1.n (by decide), h.2.2.1.n (by decide)⟩
theorem nI_min {x y : Nat} (hx : x < 2 ^ 31) (hy : y < 2 ^ 31) : (if nI x < nI y then nI x else nI y) = nI (min x y) := by
  by_cases h : x < y
  · rw [if_pos ((nI_ltI hx hy).mpr h), Nat.min_eq_left (by omega)]
  · rw [if_neg (fun q => h ((nI_ltI hx hy).mp q)), Nat.min_eq_right (by omega)]
theorem cnt_t {p : Nat → Bool} {i : Nat} (h : p i = true) : cnt p (i + 1) = cnt p i + 1 := by
  show cnt p i + (if p i then 1 else 0) = _
  rw [if_pos h]
theorem cnt_f {p : Nat → Bool} {i : Nat} (h : ¬ p i = true) : cnt p (i + 1) = cnt p i + 0 := by
  show cnt p i + (if p i then 1 else 0) = _
  rw [if_neg h]
theorem mc_edgeLabel (X : am_X) (S : MS) (p e : Nat) (hp : p < 3) (he : e < 6) (hL : LN S) : MC X 118 [.ref (189), .int (nI (p)), .int (nI (e))] S (some (.int (nI (eL S (6 * p + e))))) S := by
  refine MC.of (Nat.le_of_ble_eq_true rfl) ?_
  have h1 := (hL.1 (12 * p + 2 * e) (by omega)).2
  have h2 := (hL.1 (12 * p + 2 * e + 1) (by omega)).2
  refine as_aload_n d118_0 rfl ?_
  refine ap_get d118_1 f118_25 (by decide) rfl rfl ?_
  refine an_bipush 12 d118_4 rfl ?_
  refine as_iload_n d118_6 rfl ?_
  refine an_imul d118_7 ?_
  refine an_iconst 2 d118_8 rfl ?_
  refine as_iload_n d118_9 rfl ?_
  refine an_imul d118_10 ?_
  refine an_iadd d118_11 ?_
  refine ap_iald d118_12 (fun _ _ _ _ => rfl) (by decide) (by omega) (by decide) ?_
  refine an_top (e' := nI (lb S (12 * p + 2 * e))) ((hL.1 _ (by omega)).1) ?_
  refine as_aload_n d118_13 rfl ?_
  refine ap_get d118_14 f118_25 (by decide) rfl rfl ?_
  refine an_bipush 12 d118_17 rfl ?_
  refine as_iload_n d118_19 rfl ?_
  refine an_imul d118_20 ?_
  refine an_iconst 2 d118_21 rfl ?_
  refine as_iload_n d118_22 rfl ?_
  refine an_imul d118_23 ?_
  refine an_iadd d118_24 ?_
  refine an_iconst 1 d118_25 rfl ?_
  refine an_iadd d118_26 ?_
  refine ap_iald d118_27 (fun _ _ _ _ => rfl) (by decide) (by omega) (by decide) ?_
  refine an_top (e' := nI (lb S (12 * p + 2 * e + 1))) ((hL.1 _ (by omega)).1) ?_
  refine ac_s2 d118_28 c118_83 (by decide) (Nat.le_of_ble_eq_true rfl) (mc_lesser X _ _ _) ?_
  refine an_top (e' := nI (min (lb S (12 * p + 2 * e)) (lb S (12 * p + 2 * e + 1)))) (nI_min (by omega) (by omega)) ?_
  refine an_iconst 2 d118_31 rfl ?_
  refine an_idiv d118_32 (by omega) (by omega) (by omega) ?_
  refine as_ireturn d118_33 (by rw [t118]; rfl) ?_
  refine am_req (congrArg nI ?_)
  unfold eL
  rw [show 2 * (6 * p + e) = 12 * p + 2 * e by omega]
theorem eL_lt {T : MS} (hL : LN T) {k : Nat} (hk : k < 18) : eL T k ≤ k := by
  have h1 := (hL.1 (2 * k) (by omega)).2
  unfold eL
  omega
theorem mc_isFirstEdge (X : am_X) (S : MS) (k : Nat) (hk : k < 18) (hL : LN S) : MC X 119 [.ref (189), .int (nI (k))] S (some (.int (if eL S k = k then 1 else 0))) S := by
  refine MC.of (Nat.le_of_ble_eq_true rfl) ?_
  have h1 := eL_lt hL hk
  refine as_aload_n d119_0 rfl ?_
  refine as_iload_n d119_1 rfl ?_
  refine an_bipush 6 d119_2 rfl ?_
  refine an_idiv d119_4 (by omega) (by omega) (by omega) ?_
  refine as_iload_n d119_5 rfl ?_
  refine an_bipush 6 d119_6 rfl ?_
  refine an_irem d119_8 (by omega) (by omega) (by omega) ?_
  refine ac_v2 d119_9 c119_102 (by decide) rfl (Nat.le_of_ble_eq_true rfl) (mc_edgeLabel X _ _ _ (by omega) (by omega) hL) ?_
  refine an_top (e' := nI (eL S k)) (by rw [show 6 * (k / 6) + k % 6 = k by omega]) ?_
  refine as_iload_n d119_12 rfl ?_
  refine an_icmp_ne 20 d119_13 (by decide) (by omega) (by omega) (fun c1 => ?_) (fun c1 => ?_)
  · refine an_iconst 0 d119_20 rfl ?_
    refine as_ireturn d119_21 (by rw [t119]; rfl) ?_
    refine am_req ?_
    first | (rw [if_neg c1]; rfl) | (rw [if_pos c1]; rfl)
  · refine an_iconst 1 d119_16 rfl ?_
    refine as_goto 21 d119_17 (by decide) ?_
    refine as_ireturn d119_21 (by rw [t119]; rfl) ?_
    refine am_req ?_
    first | (rw [if_neg c1]; rfl) | (rw [if_pos c1]; rfl)
theorem mc_edgeClasses (X : am_X) (S : MS) (P : Nat) (hP : P ≤ 3) (hp : S.1 189 0 = nI P) (hL : LN S) : MC X 120 [.ref (189)] S (some (.int (nI (cnt (fun k => decide (eL S k = k)) (6 * P))))) S := by
  refine MC.of (Nat.le_of_ble_eq_true rfl) ?_
  refine an_iconst 0 d120_0 rfl ?_
  refine as_istore_n d120_1 (by decide) ?_
  refine an_iconst 0 d120_2 rfl ?_
  refine as_istore_n d120_3 (by decide) ?_
  refine AW.loc [(0, .ref (189)), (1, .int (nI (0))), (2, .int (nI (0)))] (am_pick [2, 1, 0] rfl rfl) ?_
  refine aw_for (fun i => ((4, [(0, .ref (189)), (1, .int (nI (cnt (fun k => decide (eL S k = k)) (i)))), (2, .int (nI (i)))], [], 208, HP (S), 0, 0) : am_Z)) (6 * P) (rfl) (fun i hi ih => ?_) ?_
  · refine as_iload_n d120_4 rfl ?_
    refine an_bipush 6 d120_5 rfl ?_
    refine as_aload_n d120_7 rfl ?_
    refine ap_get d120_8 f120_67 (by decide) rfl rfl ?_
    refine an_top (e' := nI (P)) (hp) ?_
    refine an_imul d120_11 ?_
    refine an_icmp_ge 37 d120_12 (by decide) (by omega) (by omega) (fun c1 => by omega) (fun c1 => ?_)
    refine as_iload_n d120_15 rfl ?_
    refine as_aload_n d120_16 rfl ?_
    refine as_iload_n d120_17 rfl ?_
    refine ac_v1 d120_18 c120_105 (by decide) rfl (Nat.le_of_ble_eq_true rfl) (mc_isFirstEdge X _ _ (by omega) hL) ?_
    refine as_if_eq 28 d120_21 (by decide) (fun c1 => ?_) (fun c1 => ?_)
    · refine an_iconst 0 d120_28 rfl ?_
      refine an_iadd d120_29 ?_
      refine as_istore_n d120_30 (by decide) ?_
      refine an_iinc 1 d120_31 rfl rfl (by decide) ?_
      refine as_goto 4 d120_34 (by decide) ?_
      refine AW.loc [(0, .ref (189)), (1, .int (nI ((cnt (fun k => decide (eL S k = k)) (i)) + (0)))), (2, .int (nI (i + 1)))] (am_pick [2, 1, 0] rfl rfl) ?_
      first | (rw [cnt_t (by first | exact decide_eq_true c1 | (simp only [am_b01] at c1; simpa using c1))] at ih; exact ih) | (rw [cnt_f (by first | (simpa using c1) | (simp only [am_b01] at c1; simpa using c1))] at ih; exact ih)
    · refine an_iconst 1 d120_24 rfl ?_
      refine as_goto 29 d120_25 (by decide) ?_
      refine an_iadd d120_29 ?_
      refine as_istore_n d120_30 (by decide) ?_
      refine an_iinc 1 d120_31 rfl rfl (by decide) ?_
      refine as_goto 4 d120_34 (by decide) ?_
      refine AW.loc [(0, .ref (189)), (1, .int (nI ((cnt (fun k => decide (eL S k = k)) (i)) + (1)))), (2, .int (nI (i + 1)))] (am_pick [2, 1, 0] rfl rfl) ?_
      first | (rw [cnt_t (by first | exact decide_eq_true c1 | (simp only [am_b01] at c1; simpa using c1))] at ih; exact ih) | (rw [cnt_f (by first | (simpa using c1) | (simp only [am_b01] at c1; simpa using c1))] at ih; exact ih)
  · refine as_iload_n d120_4 rfl ?_
    refine an_bipush 6 d120_5 rfl ?_
    refine as_aload_n d120_7 rfl ?_
    refine ap_get d120_8 f120_67 (by decide) rfl rfl ?_
    refine an_top (e' := nI (P)) (hp) ?_
    refine an_imul d120_11 ?_
    refine an_icmp_ge 37 d120_12 (by decide) (by omega) (by omega) (fun c3 => ?_) (fun c3 => by omega)
    refine as_iload_n d120_37 rfl ?_
    refine as_ireturn d120_38 (by rw [t120]; rfl) ?_
    rfl
theorem mc_cornerClasses (X : am_X) (S : MS) (P : Nat) (hP : P ≤ 3) (hp : S.1 189 0 = nI P) (hL : LN S) : MC X 121 [.ref (189)] S (some (.int (nI (cnt (fun k => decide (cb S k = k)) (4 * P))))) S := by
  refine MC.of (Nat.le_of_ble_eq_true rfl) ?_
  refine an_iconst 0 d121_0 rfl ?_
  refine as_istore_n d121_1 (by decide) ?_
  refine an_iconst 0 d121_2 rfl ?_
  refine as_istore_n d121_3 (by decide) ?_
  refine AW.loc [(0, .ref (189)), (1, .int (nI (0))), (2, .int (nI (0)))] (am_pick [2, 1, 0] rfl rfl) ?_
  refine aw_for (fun i => ((4, [(0, .ref (189)), (1, .int (nI (cnt (fun k => decide (cb S k = k)) (i)))), (2, .int (nI (i)))], [], 208, HP (S), 0, 0) : am_Z)) (4 * P) (rfl) (fun i hi ih => ?_) ?_
  · refine as_iload_n d121_4 rfl ?_
    refine an_iconst 4 d121_5 rfl ?_
    refine as_aload_n d121_6 rfl ?_
    refine ap_get d121_7 f121_67 (by decide) rfl rfl ?_
    refine an_top (e' := nI (P)) (hp) ?_
    refine an_imul d121_10 ?_
    refine an_icmp_ge 38 d121_11 (by decide) (by omega) (by omega) (fun c1 => by omega) (fun c1 => ?_)
    refine as_iload_n d121_14 rfl ?_
    refine as_aload_n d121_15 rfl ?_
    refine ap_get d121_16 f121_28 (by decide) rfl rfl ?_
    refine as_iload_n d121_19 rfl ?_
    refine ap_iald d121_20 (fun _ _ _ _ => rfl) (by decide) (by omega) (by decide) ?_
    refine an_top (e' := nI (cb S i)) ((hL.2.1 _ (by omega)).1) ?_
    refine as_iload_n d121_21 rfl ?_
    refine an_icmp_ne 29 d121_22 (by decide) (by have := (hL.2.1 i (by omega)).2; omega) (by omega) (fun c1 => ?_) (fun c1 => ?_)
    · refine an_iconst 0 d121_29 rfl ?_
      refine an_iadd d121_30 ?_
      refine as_istore_n d121_31 (by decide) ?_
      refine an_iinc 1 d121_32 rfl rfl (by decide) ?_
      refine as_goto 4 d121_35 (by decide) ?_
      refine AW.loc [(0, .ref (189)), (1, .int (nI ((cnt (fun k => decide (cb S k = k)) (i)) + (0)))), (2, .int (nI (i + 1)))] (am_pick [2, 1, 0] rfl rfl) ?_
      first | (rw [cnt_t (by first | exact decide_eq_true c1 | (simp only [am_b01] at c1; simpa using c1))] at ih; exact ih) | (rw [cnt_f (by first | (simpa using c1) | (simp only [am_b01] at c1; simpa using c1))] at ih; exact ih)
    · refine an_iconst 1 d121_25 rfl ?_
      refine as_goto 30 d121_26 (by decide) ?_
      refine an_iadd d121_30 ?_
      refine as_istore_n d121_31 (by decide) ?_
      refine an_iinc 1 d121_32 rfl rfl (by decide) ?_
      refine as_goto 4 d121_35 (by decide) ?_
      refine AW.loc [(0, .ref (189)), (1, .int (nI ((cnt (fun k => decide (cb S k = k)) (i)) + (1)))), (2, .int (nI (i + 1)))] (am_pick [2, 1, 0] rfl rfl) ?_
      first | (rw [cnt_t (by first | exact decide_eq_true c1 | (simp only [am_b01] at c1; simpa using c1))] at ih; exact ih) | (rw [cnt_f (by first | (simpa using c1) | (simp only [am_b01] at c1; simpa using c1))] at ih; exact ih)
  · refine as_iload_n d121_4 rfl ?_
    refine an_iconst 4 d121_5 rfl ?_
    refine as_aload_n d121_6 rfl ?_
    refine ap_get d121_7 f121_67 (by decide) rfl rfl ?_
    refine an_top (e' := nI (P)) (hp) ?_
    refine an_imul d121_10 ?_
    refine an_icmp_ge 38 d121_11 (by decide) (by omega) (by omega) (fun c3 => ?_) (fun c3 => by omega)
    refine as_iload_n d121_38 rfl ?_
    refine as_ireturn d121_39 (by rw [t121]; rfl) ?_
    rfl
theorem mc_setMany (X : am_X) (S : MS) (P : Nat) (hP : P ≤ 3) (hp : S.1 189 0 = nI P) (hL : LN S) : MC X 140 [.ref (189)] S (some (.int (nI (cnt (fun k => decide (sb S k = k)) P)))) S := by
  refine MC.of (Nat.le_of_ble_eq_true rfl) ?_
  refine an_iconst 0 d140_0 rfl ?_
  refine as_istore_n d140_1 (by decide) ?_
  refine an_iconst 0 d140_2 rfl ?_
  refine as_istore_n d140_3 (by decide) ?_
  refine AW.loc [(0, .ref (189)), (1, .int (nI (0))), (2, .int (nI (0)))] (am_pick [2, 1, 0] rfl rfl) ?_
  refine aw_for (fun i => ((4, [(0, .ref (189)), (1, .int (nI (cnt (fun k => decide (sb S k = k)) (i)))), (2, .int (nI (i)))], [], 208, HP (S), 0, 0) : am_Z)) (P) (rfl) (fun i hi ih => ?_) ?_
  · refine as_iload_n d140_4 rfl ?_
    refine as_aload_n d140_5 rfl ?_
    refine ap_get d140_6 f140_67 (by decide) rfl rfl ?_
    refine an_top (e' := nI (P)) (hp) ?_
    refine an_icmp_ge 36 d140_9 (by decide) (by omega) (by omega) (fun c1 => by omega) (fun c1 => ?_)
    refine as_iload_n d140_12 rfl ?_
    refine as_aload_n d140_13 rfl ?_
    refine ap_get d140_14 f140_31 (by decide) rfl rfl ?_
    refine as_iload_n d140_17 rfl ?_
    refine ap_iald d140_18 (fun _ _ _ _ => rfl) (by decide) (by omega) (by decide) ?_
    refine an_top (e' := nI (sb S i)) ((hL.2.2 _ (by omega)).1) ?_
    refine as_iload_n d140_19 rfl ?_
    refine an_icmp_ne 27 d140_20 (by decide) (by have := (hL.2.2 i (by omega)).2; omega) (by omega) (fun c1 => ?_) (fun c1 => ?_)
    · refine an_iconst 0 d140_27 rfl ?_
      refine an_iadd d140_28 ?_
      refine as_istore_n d140_29 (by decide) ?_
      refine an_iinc 1 d140_30 rfl rfl (by decide) ?_
      refine as_goto 4 d140_33 (by decide) ?_
      refine AW.loc [(0, .ref (189)), (1, .int (nI ((cnt (fun k => decide (sb S k = k)) (i)) + (0)))), (2, .int (nI (i + 1)))] (am_pick [2, 1, 0] rfl rfl) ?_
      first | (rw [cnt_t (by first | exact decide_eq_true c1 | (simp only [am_b01] at c1; simpa using c1))] at ih; exact ih) | (rw [cnt_f (by first | (simpa using c1) | (simp only [am_b01] at c1; simpa using c1))] at ih; exact ih)
    · refine an_iconst 1 d140_23 rfl ?_
      refine as_goto 28 d140_24 (by decide) ?_
      refine an_iadd d140_28 ?_
      refine as_istore_n d140_29 (by decide) ?_
      refine an_iinc 1 d140_30 rfl rfl (by decide) ?_
      refine as_goto 4 d140_33 (by decide) ?_
      refine AW.loc [(0, .ref (189)), (1, .int (nI ((cnt (fun k => decide (sb S k = k)) (i)) + (1)))), (2, .int (nI (i + 1)))] (am_pick [2, 1, 0] rfl rfl) ?_
      first | (rw [cnt_t (by first | exact decide_eq_true c1 | (simp only [am_b01] at c1; simpa using c1))] at ih; exact ih) | (rw [cnt_f (by first | (simpa using c1) | (simp only [am_b01] at c1; simpa using c1))] at ih; exact ih)
  · refine as_iload_n d140_4 rfl ?_
    refine as_aload_n d140_5 rfl ?_
    refine ap_get d140_6 f140_67 (by decide) rfl rfl ?_
    refine an_top (e' := nI (P)) (hp) ?_
    refine an_icmp_ge 36 d140_9 (by decide) (by omega) (by omega) (fun c3 => ?_) (fun c3 => by omega)
    refine as_iload_n d140_36 rfl ?_
    refine as_ireturn d140_37 (by rw [t140]; rfl) ?_
    rfl
theorem mc_isBent (X : am_X) (S : MS) (k : Nat) (hk : k < 18) (hL : LN S) : MC X 124 [.ref (189), .int (nI (k))] S (some (.int (if lb S (2 * k) = lb S (2 * k + 1) then 1 else 0))) S := by
  refine MC.of (Nat.le_of_ble_eq_true rfl) ?_
  have h1 := (hL.1 (2 * k) (by omega)).2
  have h2 := (hL.1 (2 * k + 1) (by omega)).2
  refine as_aload_n d124_0 rfl ?_
  refine ap_get d124_1 f124_25 (by decide) rfl rfl ?_
  refine an_iconst 2 d124_4 rfl ?_
  refine as_iload_n d124_5 rfl ?_
  refine an_imul d124_6 ?_
  refine ap_iald d124_7 (fun _ _ _ _ => rfl) (by decide) (by omega) (by decide) ?_
  refine an_top (e' := nI (lb S (2 * k))) ((hL.1 _ (by omega)).1) ?_
  refine as_aload_n d124_8 rfl ?_
  refine ap_get d124_9 f124_25 (by decide) rfl rfl ?_
  refine an_iconst 2 d124_12 rfl ?_
  refine as_iload_n d124_13 rfl ?_
  refine an_imul d124_14 ?_
  refine an_iconst 1 d124_15 rfl ?_
  refine an_iadd d124_16 ?_
  refine ap_iald d124_17 (fun _ _ _ _ => rfl) (by decide) (by omega) (by decide) ?_
  refine an_top (e' := nI (lb S (2 * k + 1))) ((hL.1 _ (by omega)).1) ?_
  refine an_icmp_ne 25 d124_18 (by decide) (by omega) (by omega) (fun c1 => ?_) (fun c1 => ?_)
  · refine an_iconst 0 d124_25 rfl ?_
    refine as_ireturn d124_26 (by rw [t124]; rfl) ?_
    refine am_req ?_
    first | (rw [if_neg c1]; rfl) | (rw [if_pos c1]; rfl)
  · refine an_iconst 1 d124_21 rfl ?_
    refine as_goto 26 d124_22 (by decide) ?_
    refine as_ireturn d124_26 (by rw [t124]; rfl) ?_
    refine am_req ?_
    first | (rw [if_neg c1]; rfl) | (rw [if_pos c1]; rfl)
/-- a row with zeros -/
def zRow (S : MS) (A : Nat) : Nat → MS
  | 0 => S
  | i + 1 => (zRow S A i).sa A i (nI 0)
theorem zRow_0 (S : MS) (A : Nat) : zRow S A 0 = S := rfl
theorem mc_empty (X : am_X) (S : MS)  : MC X 127 [.ref (189)] S none (zRow S 192 21) := by
  refine MC.of (Nat.le_of_ble_eq_true rfl) ?_
  refine an_iconst 0 d127_0 rfl ?_
  refine as_istore_n d127_1 (by decide) ?_
  refine AW.loc [(0, .ref (189)), (1, .int (nI (0)))] (am_pick [1, 0] rfl rfl) ?_
  refine aw_for (fun i => ((2, [(0, .ref (189)), (1, .int (nI (i)))], [], 208, HP (zRow S 192 (i)), 0, 0) : am_Z)) (21) (by simp only [zRow_0]) (fun i hi ih => ?_) ?_
  · refine as_iload_n d127_2 rfl ?_
    refine an_bipush 21 d127_3 rfl ?_
    refine an_icmp_ge 21 d127_5 (by decide) (by omega) (by omega) (fun c1 => by omega) (fun c1 => ?_)
    refine as_aload_n d127_8 rfl ?_
    refine ap_get d127_9 f127_16 (by decide) rfl rfl ?_
    refine as_iload_n d127_12 rfl ?_
    refine an_iconst 0 d127_13 rfl ?_
    refine ap_iast d127_14 (fun _ _ _ _ => rfl) (by decide) (by omega) (by decide) ?_
    refine an_iinc 1 d127_15 rfl rfl (by decide) ?_
    refine as_goto 2 d127_18 (by decide) ?_
    refine AW.loc [(0, .ref (189)), (1, .int (nI (i + 1)))] (am_pick [1, 0] rfl rfl) ?_
    exact ih
  · refine as_iload_n d127_2 rfl ?_
    refine an_bipush 21 d127_3 rfl ?_
    refine an_icmp_ge 21 d127_5 (by decide) (by omega) (by omega) (fun c2 => ?_) (fun c2 => by omega)
    refine as_return d127_21 t127 ?_
    rfl
