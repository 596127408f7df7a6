/-! the reference: bent, classOf, isEvenChange -/
def bentA (T : MS) (P : Nat) (k : Int32) : Int32 := if k < 0 then -2 else match fnd (fun k => decide (eL T k = k)) k.toNatClampNeg (6 * P) with | none => -2 | some e => if lb T (2 * e) = lb T (2 * e + 1) then 1 else 0
theorem fnd_lt {p : Nat → Bool} {m n e : Nat} (h : fnd p m n = some e) : e < n := by
  rcases fnd_spec p m n with ⟨k, h1, h2, -⟩ | ⟨h1, -⟩
  · rw [h1] at h
    cases h
    exact h2
  · rw [h1] at h
    cases h
theorem fnd_ne {p : Nat → Bool} {n : Nat} {k : Int32} (h : ¬ (if k < 0 then (-1 : Int32) else mI (fnd p k.toNatClampNeg n)) = -1) : ¬ k < 0 ∧ ∃ e, fnd p k.toNatClampNeg n = some e := by
  by_cases hk : k < 0
  · rw [if_pos hk] at h
    exact absurd rfl h
  · rw [if_neg hk] at h
    exact ⟨hk, mt_some (mt := fun _ => fnd p k.toNatClampNeg n) (s := 0) h⟩
theorem fnd_eq {p : Nat → Bool} {n : Nat} (hn : n ≤ 100) {k : Int32} (h : (if k < 0 then (-1 : Int32) else mI (fnd p k.toNatClampNeg n)) = -1) : k < 0 ∨ fnd p k.toNatClampNeg n = none := by
  by_cases hk : k < 0
  · exact Or.inl hk
  · rw [if_neg hk] at h
    exact Or.inr ((mI_none (fun t e => by have := fnd_lt e; omega)).mp h)
theorem bentA_none {T : MS} {P : Nat} {k : Int32} (h : k < 0 ∨ fnd (fun k => decide (eL T k = k)) k.toNatClampNeg (6 * P) = none) : bentA T P k = -2 := by
  unfold bentA
  rcases h with h | h
  · rw [if_pos h]
  · rw [h]
    split <;> rfl
theorem mc_bent (X : am_X) (S : MS) (P : Nat) (mt : Nat → Option Nat) (go : Nat → Nat) (k : Int32) (hG : GW P mt go) (hR : RG S P mt go) : ∃ T, MC X 133 [.ref (189), .int (k)] S (some (.int (bentA T P k))) T ∧ rKeep S T ∧ LabS T P mt go := by
  obtain ⟨T, hM, hK, hLS⟩ := mc_label X S P mt go hG hR
  have hL := hLS.n
  have hRT := hR.keep hK
  have hp := hRT.1
  have hP := hG.1
  refine ⟨T, ?_, hK, hLS⟩
  refine MC.of (Nat.le_of_ble_eq_true rfl) ?_
  refine as_aload_n d133_0 rfl ?_
  refine ac_v0 d133_1 c133_118 (by decide) rfl (Nat.le_of_ble_eq_true rfl) (hM) ?_
  refine as_aload_n d133_4 rfl ?_
  refine as_iload_n d133_5 rfl ?_
  refine ac_v1 d133_6 c133_121 (by decide) rfl (Nat.le_of_ble_eq_true rfl) (mc_edgeOfClass X _ P _ hP hp hL) ?_
  refine as_istore_n d133_9 (by decide) ?_
  refine as_iload_n d133_10 rfl ?_
  refine an_iconstI (-1) d133_11 rfl ?_
  refine as_icmp_ne 20 d133_12 (by decide) (fun c1 => ?_) (fun c1 => ?_)
  · obtain ⟨hk, e, he⟩ := fnd_ne c1
    have hel := fnd_lt he
    refine as_aload_n d133_20 rfl ?_
    refine as_iload_n d133_21 rfl ?_
    refine an_top (e' := nI (e)) (by rw [if_neg hk, he]; rfl) ?_
    refine ac_v1 d133_22 c133_108 (by decide) rfl (Nat.le_of_ble_eq_true rfl) (mc_isBent X _ _ (by omega) hL) ?_
    refine as_if_eq 32 d133_25 (by decide) (fun c2 => ?_) (fun c2 => ?_)
    · refine an_iconst 0 d133_32 rfl ?_
      refine as_ireturn d133_33 (by rw [t133]; rfl) ?_
      refine am_req ?_
      first | (exact (bentA_none (fnd_eq (by omega) c1)).symm) | (unfold bentA; rw [if_neg hk, he]; show _ = if _ then _ else _; rw [if_neg (am_b01.mp c2)]; rfl) | (unfold bentA; rw [if_neg hk, he]; show _ = if _ then _ else _; rw [if_pos (am_b1 c2)]; rfl)
    · refine an_iconst 1 d133_28 rfl ?_
      refine as_goto 33 d133_29 (by decide) ?_
      refine as_ireturn d133_33 (by rw [t133]; rfl) ?_
      refine am_req ?_
      first | (exact (bentA_none (fnd_eq (by omega) c1)).symm) | (unfold bentA; rw [if_neg hk, he]; show _ = if _ then _ else _; rw [if_neg (am_b01.mp c2)]; rfl) | (unfold bentA; rw [if_neg hk, he]; show _ = if _ then _ else _; rw [if_pos (am_b1 c2)]; rfl)
  · refine an_bipushI (-2) d133_15 rfl ?_
    refine as_goto 33 d133_17 (by decide) ?_
    refine as_ireturn d133_33 (by rw [t133]; rfl) ?_
    refine am_req ?_
    first | (exact (bentA_none (fnd_eq (by omega) c1)).symm) | (unfold bentA; rw [if_neg hk, he]; show _ = if _ then _ else _; rw [if_neg (am_b01.mp c2)]; rfl) | (unfold bentA; rw [if_neg hk, he]; show _ = if _ then _ else _; rw [if_pos (am_b1 c2)]; rfl)
def swp (go : Nat → Nat) (s a : Nat) (b : Nat) : Bool := decide (a < b) && decide (go (4 * s + b) < go (4 * s + a))
def swI (go : Nat → Nat) (s a b : Nat) : Nat := cnt (swp go s a) b
def swO (go : Nat → Nat) (s : Nat) : Nat → Nat
  | 0 => 0
  | a + 1 => swO go s a + swI go s a 4
theorem swI_0 {go : Nat → Nat} {s a : Nat} : ∀ b, b ≤ a + 1 → swI go s a b = 0
  | 0, _ => rfl
  | b + 1, h => by
    unfold swI
    rw [cnt_f (by unfold swp; simp; omega)]
    have := swI_0 (go := go) (s := s) (a := a) b (by omega)
    unfold swI at this
    omega
theorem swI_le (go : Nat → Nat) (s a b : Nat) : swI go s a b ≤ b := cnt_le _ _
theorem swO_le (go : Nat → Nat) (s : Nat) : ∀ a, swO go s a ≤ 4 * a
  | 0 => Nat.le_refl _
  | a + 1 => by
    have := swO_le go s a
    have := swI_le go s a 4
    unfold swO
    omega
theorem swO_s (go : Nat → Nat) (s a : Nat) : swO go s (a + 1) = swO go s a + swI go s a 4 := rfl
theorem swI_t {go : Nat → Nat} {s a b : Nat} (h : a < b) (h2 : go (4 * s + b) < go (4 * s + a)) : swI go s a (b + 1) = swI go s a b + 1 := cnt_t (by unfold swp; simp [h, h2])
theorem swI_f {go : Nat → Nat} {s a b : Nat} (h2 : ¬ go (4 * s + b) < go (4 * s + a)) : swI go s a (b + 1) = swI go s a b + 0 := cnt_f (by unfold swp; simp; omega)
theorem mc_isEvenChange (X : am_X) (S : MS) (s : Nat) (go : Nat → Nat) (hs : s < 12) (hgo : ∀ c, c < 4 → S.2.1 191 (4 * s + c) = nI (go (4 * s + c)) ∧ go (4 * s + c) < 4) : MC X 138 [.ref (189), .int (nI (s))] S (some (.int (if swO go s 4 % 2 = 0 then 1 else 0))) S := by
  refine MC.of (Nat.le_of_ble_eq_true rfl) ?_
  refine an_iconst 0 d138_0 rfl ?_
  refine as_istore_n d138_1 (by decide) ?_
  refine an_iconst 0 d138_2 rfl ?_
  refine as_istore_n d138_3 (by decide) ?_
  refine AW.loc [(0, .ref (189)), (1, .int (nI (s))), (2, .int (nI (0))), (3, .int (nI (0)))] (am_pick [2, 3, 1, 0] rfl rfl) ?_
  refine aw_for (fun a => ((4, [(0, .ref (189)), (1, .int (nI (s))), (2, .int (nI (swO go s (a)))), (3, .int (nI (a)))], [], 208, HP (S), 0, 0) : am_Z)) (4) (rfl) (fun a ha iha => ?_) ?_
  · have hga := (hgo a ha).2
    have hoa := swO_le go s a
    refine as_iload_n d138_4 rfl ?_
    refine an_iconst 4 d138_5 rfl ?_
    refine an_icmp_ge 64 d138_6 (by decide) (by omega) (by omega) (fun c1 => by omega) (fun c1 => ?_)
    refine as_iload_n d138_9 rfl ?_
    refine an_iconst 1 d138_10 rfl ?_
    refine an_iadd d138_11 ?_
    refine as_istore d138_12 (by decide) ?_
    refine AW.loc [(0, .ref (189)), (1, .int (nI (s))), (2, .int (nI (swO go s (a)))), (3, .int (nI (a))), (4, .int (nI ((a) + (1))))] (am_pick [1, 2, 3, 4, 0] rfl rfl) ?_
    refine aw_from (fun b => ((14, [(0, .ref (189)), (1, .int (nI (s))), (2, .int (nI (swO go s a + swI go s a (b)))), (3, .int (nI (a))), (4, .int (nI (b)))], [], 208, HP (S), 0, 0) : am_Z)) (a + 1) (4) (by omega) (by simp only [swI_0 (a + 1) (Nat.le_refl _), Nat.add_zero]) (fun b hb0 hb ihb => ?_) ?_
    · have hgb := (hgo b hb).2
      refine as_iload d138_14 rfl ?_
      refine an_iconst 4 d138_16 rfl ?_
      refine an_icmp_ge 58 d138_17 (by decide) (by omega) (by omega) (fun c2 => by omega) (fun c2 => ?_)
      refine as_iload_n d138_20 rfl ?_
      refine as_aload_n d138_21 rfl ?_
      refine ap_get d138_22 f138_13 (by decide) rfl rfl ?_
      refine an_iconst 4 d138_25 rfl ?_
      refine as_iload_n d138_26 rfl ?_
      refine an_imul d138_27 ?_
      refine as_iload_n d138_28 rfl ?_
      refine an_iadd d138_29 ?_
      refine ap_iald d138_30 (fun _ _ _ _ => rfl) (by decide) (by omega) (by decide) ?_
      refine an_top (e' := nI (go (4 * s + a))) ((hgo _ (by omega)).1) ?_
      refine as_aload_n d138_31 rfl ?_
      refine ap_get d138_32 f138_13 (by decide) rfl rfl ?_
      refine an_iconst 4 d138_35 rfl ?_
      refine as_iload_n d138_36 rfl ?_
      refine an_imul d138_37 ?_
      refine as_iload d138_38 rfl ?_
      refine an_iadd d138_40 ?_
      refine ap_iald d138_41 (fun _ _ _ _ => rfl) (by decide) (by omega) (by decide) ?_
      refine an_top (e' := nI (go (4 * s + b))) ((hgo _ (by omega)).1) ?_
      refine an_icmp_le 49 d138_42 (by decide) (by omega) (by omega) (fun c1 => ?_) (fun c1 => ?_)
      · refine an_iconst 0 d138_49 rfl ?_
        refine an_iadd d138_50 ?_
        refine as_istore_n d138_51 (by decide) ?_
        refine an_iinc 1 d138_52 rfl rfl (by decide) ?_
        refine as_goto 14 d138_55 (by decide) ?_
        refine AW.loc [(0, .ref (189)), (1, .int (nI (s))), (2, .int (nI ((swO go s a + swI go s a (b)) + (0)))), (3, .int (nI (a))), (4, .int (nI (b + 1)))] (am_pick [2, 3, 1, 4, 0] rfl rfl) ?_
        first | (rw [swI_f (by omega), ← Nat.add_assoc] at ihb; exact ihb) | (rw [swI_t (by omega) (by omega), ← Nat.add_assoc] at ihb; exact ihb)
      · refine an_iconst 1 d138_45 rfl ?_
        refine as_goto 50 d138_46 (by decide) ?_
        refine an_iadd d138_50 ?_
        refine as_istore_n d138_51 (by decide) ?_
        refine an_iinc 1 d138_52 rfl rfl (by decide) ?_
        refine as_goto 14 d138_55 (by decide) ?_
        refine AW.loc [(0, .ref (189)), (1, .int (nI (s))), (2, .int (nI ((swO go s a + swI go s a (b)) + (1)))), (3, .int (nI (a))), (4, .int (nI (b + 1)))] (am_pick [2, 3, 1, 4, 0] rfl rfl) ?_
        first | (rw [swI_f (by omega), ← Nat.add_assoc] at ihb; exact ihb) | (rw [swI_t (by omega) (by omega), ← Nat.add_assoc] at ihb; exact ihb)
    · refine as_iload d138_14 rfl ?_
      refine an_iconst 4 d138_16 rfl ?_
      refine an_icmp_ge 58 d138_17 (by decide) (by omega) (by omega) (fun c4 => ?_) (fun c4 => by omega)
      refine an_iinc 1 d138_58 rfl rfl (by decide) ?_
      refine as_goto 4 d138_61 (by decide) ?_
      refine AW.loc [(0, .ref (189)), (1, .int (nI (s))), (2, .int (nI (swO go s a + swI go s a ((4))))), (3, .int (nI (a + 1)))] (am_pick [1, 2, 3, 0] rfl rfl) ?_
      exact iha
  · refine as_iload_n d138_4 rfl ?_
    refine an_iconst 4 d138_5 rfl ?_
    refine an_icmp_ge 64 d138_6 (by decide) (by omega) (by omega) (fun c5 => ?_) (fun c5 => by omega)
    refine as_iload_n d138_64 rfl ?_
    refine an_iconst 2 d138_65 rfl ?_
    refine an_irem d138_66 (by have := swO_le go s 4; omega) (by omega) (by omega) ?_
    refine an_if_ne 74 d138_67 (by decide) (by omega) (fun c2 => ?_) (fun c2 => ?_)
    · refine an_iconst 0 d138_74 rfl ?_
      refine as_ireturn d138_75 (by rw [t138]; rfl) ?_
      refine am_req ?_
      first | (rw [if_neg c2]; rfl) | (rw [if_pos c2]; rfl)
    · refine an_iconst 1 d138_70 rfl ?_
      refine as_goto 75 d138_71 (by decide) ?_
      refine as_ireturn d138_75 (by rw [t138]; rfl) ?_
      refine am_req ?_
      first | (rw [if_neg c2]; rfl) | (rw [if_pos c2]; rfl)
