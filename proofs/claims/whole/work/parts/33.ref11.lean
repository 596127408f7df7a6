/-! the reference: link, the sheet's numbers -/
def kO (a b : Nat) : Nat := if a = 0 ∨ b = 0 then a + b - 1 else 5 - (a + b)
theorem kO_lt {a b : Nat} (ha : a < 4) (hb : b < 4) (h : a ≠ b) : kO a b < 3 := by
  unfold kO
  split <;> omega
def sv (S : MS) (i : Nat) : Nat := (S.2.1 192 i).toNatClampNeg
def SHN (S : MS) : Prop := ∀ i, i < 21 → S.2.1 192 i = nI (sv S i) ∧ sv S i ≤ 1000
def arcN (S : MS) (p f c : Nat) : Nat := sv S (7 * p + c) + sv S (7 * p + 4 + kO c f)
theorem mc_kindOf (X : am_X) (S : MS) (a b : Nat) (ha : a < 4) (hb : b < 4) (hab : a ≠ b) : MC X 149 [.int (nI (a)), .int (nI (b))] S (some (.int (nI (kO a b)))) S := by
  refine MC.of (Nat.le_of_ble_eq_true rfl) ?_
  refine as_iload_n d149_0 rfl ?_
  refine as_iload_n d149_1 rfl ?_
  refine an_iadd d149_2 ?_
  refine as_istore_n d149_3 (by decide) ?_
  refine as_iload_n d149_4 rfl ?_
  refine an_if_eq 12 d149_5 (by decide) (by omega) (fun c1 => ?_) (fun c1 => ?_)
  · refine as_iload_n d149_12 rfl ?_
    refine an_iconst 1 d149_13 rfl ?_
    refine an_isub d149_14 (by omega) ?_
    refine as_goto 21 d149_15 (by decide) ?_
    refine as_ireturn d149_21 (by rw [t149]; rfl) ?_
    refine am_req (congrArg nI ?_)
    unfold kO
    first | (rw [if_pos (show a = 0 ∨ b = 0 by omega)]) | (rw [if_neg (show ¬ (a = 0 ∨ b = 0) by omega)])
  · refine as_iload_n d149_8 rfl ?_
    refine an_if_ne 18 d149_9 (by decide) (by omega) (fun c2 => ?_) (fun c2 => ?_)
    · refine an_iconst 5 d149_18 rfl ?_
      refine as_iload_n d149_19 rfl ?_
      refine an_isub d149_20 (by omega) ?_
      refine as_ireturn d149_21 (by rw [t149]; rfl) ?_
      refine am_req (congrArg nI ?_)
      unfold kO
      first | (rw [if_pos (show a = 0 ∨ b = 0 by omega)]) | (rw [if_neg (show ¬ (a = 0 ∨ b = 0) by omega)])
    · refine as_iload_n d149_12 rfl ?_
      refine an_iconst 1 d149_13 rfl ?_
      refine an_isub d149_14 (by omega) ?_
      refine as_goto 21 d149_15 (by decide) ?_
      refine as_ireturn d149_21 (by rw [t149]; rfl) ?_
      refine am_req (congrArg nI ?_)
      unfold kO
      first | (rw [if_pos (show a = 0 ∨ b = 0 by omega)]) | (rw [if_neg (show ¬ (a = 0 ∨ b = 0) by omega)])
theorem mc_arcs (X : am_X) (S : MS) (p f c : Nat) (hp : p < 3) (hf : f < 4) (hc : c < 4) (hcf : c ≠ f) (hS : SHN S) : MC X 166 [.ref (189), .int (nI (p)), .int (nI (f)), .int (nI (c))] S (some (.int (nI (arcN S p f c)))) S := by
  refine MC.of (Nat.le_of_ble_eq_true rfl) ?_
  have hk := kO_lt hc hf hcf
  refine as_aload_n d166_0 rfl ?_
  refine ap_get d166_1 f166_16 (by decide) rfl rfl ?_
  refine an_bipush 7 d166_4 rfl ?_
  refine as_iload_n d166_6 rfl ?_
  refine an_imul d166_7 ?_
  refine as_iload_n d166_8 rfl ?_
  refine an_iadd d166_9 ?_
  refine ap_iald d166_10 (fun _ _ _ _ => rfl) (by decide) (by omega) (by decide) ?_
  refine an_top (e' := nI (sv S (7 * p + c))) ((hS _ (by omega)).1) ?_
  refine as_aload_n d166_11 rfl ?_
  refine ap_get d166_12 f166_16 (by decide) rfl rfl ?_
  refine an_bipush 7 d166_15 rfl ?_
  refine as_iload_n d166_17 rfl ?_
  refine an_imul d166_18 ?_
  refine an_iconst 4 d166_19 rfl ?_
  refine an_iadd d166_20 ?_
  refine as_iload_n d166_21 rfl ?_
  refine as_iload_n d166_22 rfl ?_
  refine ac_s2 d166_23 c166_186 (by decide) (Nat.le_of_ble_eq_true rfl) (mc_kindOf X _ _ _ hc hf hcf) ?_
  refine an_iadd d166_26 ?_
  refine ap_iald d166_27 (fun _ _ _ _ => rfl) (by decide) (by omega) (by decide) ?_
  refine an_top (e' := nI (sv S (7 * p + 4 + kO c f))) ((hS _ (by omega)).1) ?_
  refine an_iadd d166_28 ?_
  refine as_ireturn d166_29 (by rw [t166]; rfl) ?_
  rfl
theorem mc_cell (X : am_X) (S : MS) (r c : Nat) (hr : r < 18) (hc : c < 6) : MC X 145 [.ref (189), .int (nI (r)), .int (nI (c))] S (some (.long (S.2.2.1 198 (6 * r + c)))) S := by
  refine MC.of (Nat.le_of_ble_eq_true rfl) ?_
  refine as_aload_n d145_0 rfl ?_
  refine ap_get d145_1 f145_34 (by decide) rfl rfl ?_
  refine an_bipush 6 d145_4 rfl ?_
  refine as_iload_n d145_6 rfl ?_
  refine an_imul d145_7 ?_
  refine as_iload_n d145_8 rfl ?_
  refine an_iadd d145_9 ?_
  refine ap_lald d145_10 (fun _ _ _ _ => rfl) (by decide) (by omega) (by decide) ?_
  refine as_lreturn d145_11 t145 ?_
  rfl
theorem mc_drop (X : am_X) (S : MS)  : MC X 165 [.ref (189)] S (some (.int (nI (cnt (fun i => decide (¬ S.2.1 192 i = 0)) 21)))) (zRow S 192 21) := by
  refine MC.of (Nat.le_of_ble_eq_true rfl) ?_
  refine an_iconst 0 d165_0 rfl ?_
  refine as_istore_n d165_1 (by decide) ?_
  refine an_iconst 0 d165_2 rfl ?_
  refine as_istore_n d165_3 (by decide) ?_
  refine AW.loc [(0, .ref (189)), (1, .int (nI (0))), (2, .int (nI (0)))] (am_pick [2, 1, 0] rfl rfl) ?_
  refine aw_for (fun i => ((4, [(0, .ref (189)), (1, .int (nI (cnt (fun i => decide (¬ S.2.1 192 i = 0)) (i)))), (2, .int (nI (i)))], [], 208, HP (S), 0, 0) : am_Z)) (21) (rfl) (fun i hi ih => ?_) ?_
  · refine as_iload_n d165_4 rfl ?_
    refine an_bipush 21 d165_5 rfl ?_
    refine an_icmp_ge 33 d165_7 (by decide) (by omega) (by omega) (fun c1 => by omega) (fun c1 => ?_)
    refine as_iload_n d165_10 rfl ?_
    refine as_aload_n d165_11 rfl ?_
    refine ap_get d165_12 f165_16 (by decide) rfl rfl ?_
    refine as_iload_n d165_15 rfl ?_
    refine ap_iald d165_16 (fun _ _ _ _ => rfl) (by decide) (by omega) (by decide) ?_
    refine as_if_eq 24 d165_17 (by decide) (fun c1 => ?_) (fun c1 => ?_)
    · refine an_iconst 0 d165_24 rfl ?_
      refine an_iadd d165_25 ?_
      refine as_istore_n d165_26 (by decide) ?_
      refine an_iinc 1 d165_27 rfl rfl (by decide) ?_
      refine as_goto 4 d165_30 (by decide) ?_
      refine AW.loc [(0, .ref (189)), (1, .int (nI ((cnt (fun i => decide (¬ S.2.1 192 i = 0)) (i)) + (0)))), (2, .int (nI (i + 1)))] (am_pick [2, 1, 0] rfl rfl) ?_
      first | (rw [cnt_t (decide_eq_true c1)] at ih; exact ih) | (rw [cnt_f (show ¬ (fun i => decide (¬ S.2.1 192 i = 0)) i = true from fun h => (of_decide_eq_true (p := ¬ S.2.1 192 i = 0) h) c1)] at ih; exact ih)
    · refine an_iconst 1 d165_20 rfl ?_
      refine as_goto 25 d165_21 (by decide) ?_
      refine an_iadd d165_25 ?_
      refine as_istore_n d165_26 (by decide) ?_
      refine an_iinc 1 d165_27 rfl rfl (by decide) ?_
      refine as_goto 4 d165_30 (by decide) ?_
      refine AW.loc [(0, .ref (189)), (1, .int (nI ((cnt (fun i => decide (¬ S.2.1 192 i = 0)) (i)) + (1)))), (2, .int (nI (i + 1)))] (am_pick [2, 1, 0] rfl rfl) ?_
      first | (rw [cnt_t (decide_eq_true c1)] at ih; exact ih) | (rw [cnt_f (show ¬ (fun i => decide (¬ S.2.1 192 i = 0)) i = true from fun h => (of_decide_eq_true (p := ¬ S.2.1 192 i = 0) h) c1)] at ih; exact ih)
  · refine as_iload_n d165_4 rfl ?_
    refine an_bipush 21 d165_5 rfl ?_
    refine an_icmp_ge 33 d165_7 (by decide) (by omega) (by omega) (fun c3 => ?_) (fun c3 => by omega)
    refine as_aload_n d165_33 rfl ?_
    refine ac_v0 d165_34 c165_111 (by decide) rfl (Nat.le_of_ble_eq_true rfl) (mc_empty X _) ?_
    refine as_iload_n d165_37 rfl ?_
    refine as_ireturn d165_38 (by rw [t165]; rfl) ?_
    rfl
def linkA (T : MS) (P : Nat) (mt : Nat → Option Nat) (k : Int32) : Int32 := if k < 0 then -2147483648 else match fnd (fun k => decide (cb T k = k)) k.toNatClampNeg (4 * P) with | none => -2147483648 | some e => lkA T P mt e
theorem linkA_none {T : MS} {P : Nat} {mt : Nat → Option Nat} {k : Int32} (h : k < 0 ∨ fnd (fun k => decide (cb T k = k)) k.toNatClampNeg (4 * P) = none) : linkA T P mt k = -2147483648 := by
  unfold linkA
  rcases h with h | h
  · rw [if_pos h]
  · rw [h]
    split <;> rfl
theorem mc_link (X : am_X) (S : MS) (P : Nat) (mt : Nat → Option Nat) (go : Nat → Nat) (k : Int32) (hG : GW P mt go) (hR : RG S P mt go) : ∃ T, MC X 135 [.ref (189), .int (k)] S (some (.int (linkA T P mt k))) T ∧ rKeep S T ∧ LabS T P mt go := by
  obtain ⟨T, hM, hK, hLS⟩ := mc_label X S P mt go hG hR
  have hL := hLS.n
  have hRT := hR.keep hK
  have hp := hRT.1
  have hP := hG.1
  refine ⟨T, ?_, hK, hLS⟩
  refine MC.of (Nat.le_of_ble_eq_true rfl) ?_
  refine as_aload_n d135_0 rfl ?_
  refine ac_v0 d135_1 c135_118 (by decide) rfl (Nat.le_of_ble_eq_true rfl) (hM) ?_
  refine as_aload_n d135_4 rfl ?_
  refine as_iload_n d135_5 rfl ?_
  refine ac_v1 d135_6 c135_125 (by decide) rfl (Nat.le_of_ble_eq_true rfl) (mc_cornerOfClass X _ P _ hP hp hL) ?_
  refine as_istore_n d135_9 (by decide) ?_
  refine as_iload_n d135_10 rfl ?_
  refine an_iconstI (-1) d135_11 rfl ?_
  refine as_icmp_ne 20 d135_12 (by decide) (fun c1 => ?_) (fun c1 => ?_)
  · obtain ⟨hk, e, he⟩ := fnd_ne c1
    have hel := fnd_lt he
    refine as_aload_n d135_20 rfl ?_
    refine as_iload_n d135_21 rfl ?_
    refine an_top (e' := nI (e)) (by rw [if_neg hk, he]; rfl) ?_
    refine ac_v1 d135_22 c135_129 (by decide) rfl (Nat.le_of_ble_eq_true rfl) (mc_linkOf X _ P mt go e (by omega) hG hRT hL) ?_
    refine as_ireturn d135_25 (by rw [t135]; rfl) ?_
    refine am_req ?_
    first | (exact (linkA_none (fnd_eq (by omega) c1)).symm) | (unfold linkA; rw [if_neg hk, he])
  · refine as_ldc (v := (-2147483648)) d135_15 (by decide +kernel) ?_
    refine as_goto 25 d135_17 (by decide) ?_
    refine as_ireturn d135_25 (by rw [t135]; rfl) ?_
    refine am_req ?_
    first | (exact (linkA_none (fnd_eq (by omega) c1)).symm) | (unfold linkA; rw [if_neg hk, he])
