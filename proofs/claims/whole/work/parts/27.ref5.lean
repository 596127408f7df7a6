/-! the reference: classes by number, the simple calls -/
def fnd (p : Nat → Bool) (m : Nat) : Nat → Option Nat
  | 0 => none
  | n + 1 => match fnd p m n with
    | some k => some k
    | none => if p n = true ∧ cnt p n = m then some n else none
theorem fnd_spec (p : Nat → Bool) (m : Nat) : ∀ n, (∃ k, fnd p m n = some k ∧ k < n ∧ p k = true ∧ cnt p k = m ∧ ∀ j, j < k → ¬ (p j = true ∧ cnt p j = m)) ∨ (fnd p m n = none ∧ ∀ j, j < n → ¬ (p j = true ∧ cnt p j = m))
  | 0 => Or.inr ⟨rfl, fun j h => by omega⟩
  | n + 1 => by
    rcases fnd_spec p m n with ⟨k, h1, h2, h3, h4, h5⟩ | ⟨h1, h2⟩
    · exact Or.inl ⟨k, by unfold fnd; rw [h1], by omega, h3, h4, h5⟩
    · by_cases h : p n = true ∧ cnt p n = m
      · exact Or.inl ⟨n, by unfold fnd; rw [h1]; exact if_pos h, by omega, h.1, h.2, h2⟩
      · refine Or.inr ⟨by unfold fnd; rw [h1]; exact if_neg h, fun j hj => ?_⟩
        by_cases e : j = n
        · rw [e]; exact h
        · exact h2 j (by omega)
theorem fnd_le {p : Nat → Bool} {m : Nat} : ∀ i, (∀ j, j < i → ¬ (p j = true ∧ cnt p j = m)) → cnt p i ≤ m
  | 0, _ => Nat.zero_le _
  | i + 1, h => by
    have h1 := fnd_le i (fun j hj => h j (by omega))
    have h2 := h i (by omega)
    by_cases e : p i = true
    · rw [cnt_t e]
      have : cnt p i ≠ m := fun q => h2 ⟨e, q⟩
      omega
    · rw [cnt_f e]
      omega
theorem nI_dec {a : Nat} (h : 0 < a) : nI a + Int32.ofInt (-1) = nI (a - 1) := by
  obtain ⟨b, rfl⟩ : ∃ b, a = b + 1 := ⟨a - 1, by omega⟩
  exact pk_m1 b
theorem neg1_ne {m : Nat} (h : m < 2 ^ 31) : ¬ nI m < 0 := nI_pos h
set_option maxHeartbeats 4000000 in
theorem edgeOfClass_K (X : am_X) (S : MS) (P m K : Nat) (R : Int32) (hP : P ≤ 3) (hm : m < 2 ^ 31) (hp : S.1 189 0 = nI P) (hL : LN S) (hK : ∀ j, j < K → ¬ ((fun k => decide (eL S k = k)) j = true ∧ cnt (fun k => decide (eL S k = k)) j = m)) (hKl : K ≤ 6 * P) (hend : (K = 6 * P ∧ R = -1) ∨ (K < 6 * P ∧ (fun k => decide (eL S k = k)) K = true ∧ cnt (fun k => decide (eL S k = k)) K = m ∧ R = nI K)) : MC X 122 [.ref (189), .int (nI (m))] S (some (.int R)) S := by
  refine MC.of (Nat.le_of_ble_eq_true rfl) ?_
  refine as_iload_n d122_0 rfl ?_
  refine as_istore_n d122_1 (by decide) ?_
  refine an_iconst 0 d122_2 rfl ?_
  refine as_istore_n d122_3 (by decide) ?_
  refine AW.loc [(0, .ref (189)), (1, .int (nI (m))), (2, .int (nI (m))), (3, .int (nI (0)))] (am_pick [2, 3, 1, 0] rfl rfl) ?_
  refine aw_for (fun i => ((4, [(0, .ref (189)), (1, .int (nI (m))), (2, .int (nI (m - cnt (fun k => decide (eL S k = k)) (i)))), (3, .int (nI (i)))], [], 208, HP (S), 0, 0) : am_Z)) (K) (rfl) (fun i hi ih => ?_) ?_
  · have hn := hK i hi
    have hle := fnd_le (p := (fun k => decide (eL S k = k))) (m := m) i (fun j hj => hK j (by omega))
    refine as_iload_n d122_4 rfl ?_
    refine an_bipush 6 d122_5 rfl ?_
    refine as_aload_n d122_7 rfl ?_
    refine ap_get d122_8 f122_67 (by decide) rfl rfl ?_
    refine an_top (e' := nI (P)) (hp) ?_
    refine an_imul d122_11 ?_
    refine an_icmp_ge 42 d122_12 (by decide) (by omega) (by omega) (fun c1 => by omega) (fun c1 => ?_)
    refine as_iload_n d122_15 rfl ?_
    refine as_if_lt 42 d122_16 (by decide) (fun c9 => absurd c9 (neg1_ne hm)) (fun c9 => ?_)
    refine as_aload_n d122_19 rfl ?_
    refine as_iload_n d122_20 rfl ?_
    refine ac_v1 d122_21 c122_105 (by decide) rfl (Nat.le_of_ble_eq_true rfl) (mc_isFirstEdge X _ _ (by omega) hL) ?_
    refine as_if_eq 36 d122_24 (by decide) (fun c1 => ?_) (fun c1 => ?_)
    · refine an_iinc 1 d122_36 rfl rfl (by decide) ?_
      refine as_goto 4 d122_39 (by decide) ?_
      refine AW.loc [(0, .ref (189)), (1, .int (nI (m))), (2, .int (nI (m - cnt (fun k => decide (eL S k = k)) (i)))), (3, .int (nI (i + 1)))] (am_pick [1, 2, 3, 0] rfl rfl) ?_
      first | (have q1 : (fun k => decide (eL S k = k)) i = true := (by simp only [am_b01] at c1; simpa using c1); have q2 : cnt (fun k => decide (eL S k = k)) i ≠ m := (fun q => hn ⟨q1, q⟩); rw [nI_dec (by omega)]; rw [cnt_t q1, ← Nat.sub_sub] at ih; exact ih) | (have q1 : ¬ (fun k => decide (eL S k = k)) i = true := (by simp only [am_b01] at c1; simpa using c1); rw [cnt_f q1, Nat.add_zero] at ih; exact ih)
    · refine as_iload_n d122_27 rfl ?_
      refine an_if_ne 33 d122_28 (by decide) (by omega) (fun c2 => ?_) (fun c2 => ?_)
      · refine as_iinc d122_33 rfl (by decide) ?_
        refine an_iinc 1 d122_36 rfl rfl (by decide) ?_
        refine as_goto 4 d122_39 (by decide) ?_
        refine AW.loc [(0, .ref (189)), (1, .int (nI (m))), (2, .int (nI (m - cnt (fun k => decide (eL S k = k)) (i)) + Int32.ofInt (-1))), (3, .int (nI (i + 1)))] (am_pick [2, 3, 1, 0] rfl rfl) ?_
        first | (have q1 : (fun k => decide (eL S k = k)) i = true := (by simp only [am_b01] at c1; simpa using c1); have q2 : cnt (fun k => decide (eL S k = k)) i ≠ m := (fun q => hn ⟨q1, q⟩); rw [nI_dec (by omega)]; rw [cnt_t q1, ← Nat.sub_sub] at ih; exact ih) | (have q1 : ¬ (fun k => decide (eL S k = k)) i = true := (by simp only [am_b01] at c1; simpa using c1); rw [cnt_f q1, Nat.add_zero] at ih; exact ih)
      · refine as_iload_n d122_31 rfl ?_
        refine as_ireturn d122_32 (by rw [t122]; rfl) ?_
        exfalso
        have q1 : (fun k => decide (eL S k = k)) i = true := (by simp only [am_b01] at c1; simpa using c1)
        exact hn ⟨q1, by omega⟩
  · have hle := fnd_le (p := (fun k => decide (eL S k = k))) (m := m) K hK
    refine as_iload_n d122_4 rfl ?_
    refine an_bipush 6 d122_5 rfl ?_
    refine as_aload_n d122_7 rfl ?_
    refine ap_get d122_8 f122_67 (by decide) rfl rfl ?_
    refine an_top (e' := nI (P)) (hp) ?_
    refine an_imul d122_11 ?_
    refine an_icmp_ge 42 d122_12 (by decide) (by omega) (by omega) (fun c8 => ?_) (fun c8 => ?_)
    · refine an_iconstI (-1) d122_42 rfl ?_
      refine as_ireturn d122_43 (by rw [t122]; rfl) ?_
      refine am_req ?_
      rcases hend with ⟨e1, e2⟩ | ⟨e1, e2, e3, e4⟩
      · first | exact e2.symm | (exfalso; omega)
      · first | exact e4.symm | (exfalso; omega)
    · refine as_iload_n d122_15 rfl ?_
      refine as_if_lt 42 d122_16 (by decide) (fun c9 => absurd c9 (neg1_ne hm)) (fun c9 => ?_)
      refine as_aload_n d122_19 rfl ?_
      refine as_iload_n d122_20 rfl ?_
      refine ac_v1 d122_21 c122_105 (by decide) rfl (Nat.le_of_ble_eq_true rfl) (mc_isFirstEdge X _ _ (by omega) hL) ?_
      refine as_if_eq 36 d122_24 (by decide) (fun c1 => ?_) (fun c1 => ?_)
      · exfalso
        rcases hend with ⟨e1, e2⟩ | ⟨e1, e2, e3, e4⟩
        · omega
        · have q1 : ¬ (fun k => decide (eL S k = k)) K = true := (by simp only [am_b01] at c1; simpa using c1)
          exact q1 e2
      · refine as_iload_n d122_27 rfl ?_
        refine an_if_ne 33 d122_28 (by decide) (by omega) (fun c2 => ?_) (fun c2 => ?_)
        · exfalso
          rcases hend with ⟨e1, e2⟩ | ⟨e1, e2, e3, e4⟩ <;> omega
        · refine as_iload_n d122_31 rfl ?_
          refine as_ireturn d122_32 (by rw [t122]; rfl) ?_
          refine am_req ?_
          rcases hend with ⟨e1, e2⟩ | ⟨e1, e2, e3, e4⟩
          · first | exact e2.symm | (exfalso; omega)
          · first | exact e4.symm | (exfalso; omega)
theorem mc_edgeOfClass (X : am_X) (S : MS) (P : Nat) (c : Int32) (hP : P ≤ 3) (hp : S.1 189 0 = nI P) (hL : LN S) : MC X 122 [.ref 189, .int c] S (some (.int (if c < 0 then -1 else mI (fnd (fun k => decide (eL S k = k)) c.toNatClampNeg (6 * P))))) S := by
  by_cases hc : c < 0
  · rw [if_pos hc]
    refine MC.of (Nat.le_of_ble_eq_true rfl) ?_
    refine as_iload_n d122_0 rfl ?_
    refine as_istore_n d122_1 (by decide) ?_
    refine an_iconst 0 d122_2 rfl ?_
    refine as_istore_n d122_3 (by decide) ?_
    refine as_iload_n d122_4 rfl ?_
    refine an_bipush 6 d122_5 rfl ?_
    refine as_aload_n d122_7 rfl ?_
    refine ap_get d122_8 f122_67 (by decide) rfl rfl ?_
    refine an_top (e' := nI (P)) (hp) ?_
    refine an_imul d122_11 ?_
    refine an_icmp_ge 42 d122_12 (by decide) (by omega) (by omega) (fun c1 => ?_) (fun c1 => ?_)
    · refine an_iconstI (-1) d122_42 rfl ?_
      refine as_ireturn d122_43 (by rw [t122]; rfl) ?_
      rfl
    · refine as_iload_n d122_15 rfl ?_
      refine as_if_lt 42 d122_16 (by decide) (fun c9 => ?_) (fun c9 => absurd hc c9)
      refine an_iconstI (-1) d122_42 rfl ?_
      refine as_ireturn d122_43 (by rw [t122]; rfl) ?_
      rfl
  · rw [if_neg hc]
    obtain ⟨m, hm, rfl⟩ := nI_of hc
    rw [nI_clamp hm]
    rcases fnd_spec (fun k => decide (eL S k = k)) m (6 * P) with ⟨q, h1, h2, h3, h4, h5⟩ | ⟨h1, h2⟩
    · rw [h1]
      exact edgeOfClass_K X S P m q _ hP hm hp hL h5 (by omega) (Or.inr ⟨h2, h3, h4, rfl⟩)
    · rw [h1]
      exact edgeOfClass_K X S P m (6 * P) _ hP hm hp hL h2 (Nat.le_refl _) (Or.inl ⟨rfl, rfl⟩)
set_option maxHeartbeats 4000000 in
theorem cornerOfClass_K (X : am_X) (S : MS) (P m K : Nat) (R : Int32) (hP : P ≤ 3) (hm : m < 2 ^ 31) (hp : S.1 189 0 = nI P) (hL : LN S) (hK : ∀ j, j < K → ¬ ((fun k => decide (cb S k = k)) j = true ∧ cnt (fun k => decide (cb S k = k)) j = m)) (hKl : K ≤ 4 * P) (hend : (K = 4 * P ∧ R = -1) ∨ (K < 4 * P ∧ (fun k => decide (cb S k = k)) K = true ∧ cnt (fun k => decide (cb S k = k)) K = m ∧ R = nI K)) : MC X 123 [.ref (189), .int (nI (m))] S (some (.int R)) S := by
  refine MC.of (Nat.le_of_ble_eq_true rfl) ?_
  refine as_iload_n d123_0 rfl ?_
  refine as_istore_n d123_1 (by decide) ?_
  refine an_iconst 0 d123_2 rfl ?_
  refine as_istore_n d123_3 (by decide) ?_
  refine AW.loc [(0, .ref (189)), (1, .int (nI (m))), (2, .int (nI (m))), (3, .int (nI (0)))] (am_pick [2, 3, 1, 0] rfl rfl) ?_
  refine aw_for (fun i => ((4, [(0, .ref (189)), (1, .int (nI (m))), (2, .int (nI (m - cnt (fun k => decide (cb S k = k)) (i)))), (3, .int (nI (i)))], [], 208, HP (S), 0, 0) : am_Z)) (K) (rfl) (fun i hi ih => ?_) ?_
  · have hn := hK i hi
    have hle := fnd_le (p := (fun k => decide (cb S k = k))) (m := m) i (fun j hj => hK j (by omega))
    refine as_iload_n d123_4 rfl ?_
    refine an_iconst 4 d123_5 rfl ?_
    refine as_aload_n d123_6 rfl ?_
    refine ap_get d123_7 f123_67 (by decide) rfl rfl ?_
    refine an_top (e' := nI (P)) (hp) ?_
    refine an_imul d123_10 ?_
    refine an_icmp_ge 43 d123_11 (by decide) (by omega) (by omega) (fun c1 => by omega) (fun c1 => ?_)
    refine as_iload_n d123_14 rfl ?_
    refine as_if_lt 43 d123_15 (by decide) (fun c9 => absurd c9 (neg1_ne hm)) (fun c9 => ?_)
    refine as_aload_n d123_18 rfl ?_
    refine ap_get d123_19 f123_28 (by decide) rfl rfl ?_
    refine as_iload_n d123_22 rfl ?_
    refine ap_iald d123_23 (fun _ _ _ _ => rfl) (by decide) (by omega) (by decide) ?_
    refine an_top (e' := nI (cb S i)) ((hL.2.1 _ (by omega)).1) ?_
    refine as_iload_n d123_24 rfl ?_
    refine an_icmp_ne 37 d123_25 (by decide) (by have := (hL.2.1 i (by omega)).2; omega) (by omega) (fun c1 => ?_) (fun c1 => ?_)
    · refine an_iinc 1 d123_37 rfl rfl (by decide) ?_
      refine as_goto 4 d123_40 (by decide) ?_
      refine AW.loc [(0, .ref (189)), (1, .int (nI (m))), (2, .int (nI (m - cnt (fun k => decide (cb S k = k)) (i)))), (3, .int (nI (i + 1)))] (am_pick [1, 2, 3, 0] rfl rfl) ?_
      first | (have q1 : (fun k => decide (cb S k = k)) i = true := (by simpa using c1); have q2 : cnt (fun k => decide (cb S k = k)) i ≠ m := (fun q => hn ⟨q1, q⟩); rw [nI_dec (by omega)]; rw [cnt_t q1, ← Nat.sub_sub] at ih; exact ih) | (have q1 : ¬ (fun k => decide (cb S k = k)) i = true := (by simpa using c1); rw [cnt_f q1, Nat.add_zero] at ih; exact ih)
    · refine as_iload_n d123_28 rfl ?_
      refine an_if_ne 34 d123_29 (by decide) (by omega) (fun c2 => ?_) (fun c2 => ?_)
      · refine as_iinc d123_34 rfl (by decide) ?_
        refine an_iinc 1 d123_37 rfl rfl (by decide) ?_
        refine as_goto 4 d123_40 (by decide) ?_
        refine AW.loc [(0, .ref (189)), (1, .int (nI (m))), (2, .int (nI (m - cnt (fun k => decide (cb S k = k)) (i)) + Int32.ofInt (-1))), (3, .int (nI (i + 1)))] (am_pick [2, 3, 1, 0] rfl rfl) ?_
        first | (have q1 : (fun k => decide (cb S k = k)) i = true := (by simpa using c1); have q2 : cnt (fun k => decide (cb S k = k)) i ≠ m := (fun q => hn ⟨q1, q⟩); rw [nI_dec (by omega)]; rw [cnt_t q1, ← Nat.sub_sub] at ih; exact ih) | (have q1 : ¬ (fun k => decide (cb S k = k)) i = true := (by simpa using c1); rw [cnt_f q1, Nat.add_zero] at ih; exact ih)
      · refine as_iload_n d123_32 rfl ?_
        refine as_ireturn d123_33 (by rw [t123]; rfl) ?_
        exfalso
        have q1 : (fun k => decide (cb S k = k)) i = true := (by simpa using c1)
        exact hn ⟨q1, by omega⟩
  · have hle := fnd_le (p := (fun k => decide (cb S k = k))) (m := m) K hK
    refine as_iload_n d123_4 rfl ?_
    refine an_iconst 4 d123_5 rfl ?_
    refine as_aload_n d123_6 rfl ?_
    refine ap_get d123_7 f123_67 (by decide) rfl rfl ?_
    refine an_top (e' := nI (P)) (hp) ?_
    refine an_imul d123_10 ?_
    refine an_icmp_ge 43 d123_11 (by decide) (by omega) (by omega) (fun c8 => ?_) (fun c8 => ?_)
    · refine an_iconstI (-1) d123_43 rfl ?_
      refine as_ireturn d123_44 (by rw [t123]; rfl) ?_
      refine am_req ?_
      rcases hend with ⟨e1, e2⟩ | ⟨e1, e2, e3, e4⟩
      · first | exact e2.symm | (exfalso; omega)
      · first | exact e4.symm | (exfalso; omega)
    · refine as_iload_n d123_14 rfl ?_
      refine as_if_lt 43 d123_15 (by decide) (fun c9 => absurd c9 (neg1_ne hm)) (fun c9 => ?_)
      refine as_aload_n d123_18 rfl ?_
      refine ap_get d123_19 f123_28 (by decide) rfl rfl ?_
      refine as_iload_n d123_22 rfl ?_
      refine ap_iald d123_23 (fun _ _ _ _ => rfl) (by decide) (by omega) (by decide) ?_
      refine an_top (e' := nI (cb S K)) ((hL.2.1 _ (by omega)).1) ?_
      refine as_iload_n d123_24 rfl ?_
      refine an_icmp_ne 37 d123_25 (by decide) (by have := (hL.2.1 K (by omega)).2; omega) (by omega) (fun c1 => ?_) (fun c1 => ?_)
      · exfalso
        rcases hend with ⟨e1, e2⟩ | ⟨e1, e2, e3, e4⟩
        · omega
        · have q1 : ¬ (fun k => decide (cb S k = k)) K = true := (by simpa using c1)
          exact q1 e2
      · refine as_iload_n d123_28 rfl ?_
        refine an_if_ne 34 d123_29 (by decide) (by omega) (fun c2 => ?_) (fun c2 => ?_)
        · exfalso
          rcases hend with ⟨e1, e2⟩ | ⟨e1, e2, e3, e4⟩ <;> omega
        · refine as_iload_n d123_32 rfl ?_
          refine as_ireturn d123_33 (by rw [t123]; rfl) ?_
          refine am_req ?_
          rcases hend with ⟨e1, e2⟩ | ⟨e1, e2, e3, e4⟩
          · first | exact e2.symm | (exfalso; omega)
          · first | exact e4.symm | (exfalso; omega)
theorem mc_cornerOfClass (X : am_X) (S : MS) (P : Nat) (c : Int32) (hP : P ≤ 3) (hp : S.1 189 0 = nI P) (hL : LN S) : MC X 123 [.ref 189, .int c] S (some (.int (if c < 0 then -1 else mI (fnd (fun k => decide (cb S k = k)) c.toNatClampNeg (4 * P))))) S := by
  by_cases hc : c < 0
  · rw [if_pos hc]
    refine MC.of (Nat.le_of_ble_eq_true rfl) ?_
    refine as_iload_n d123_0 rfl ?_
    refine as_istore_n d123_1 (by decide) ?_
    refine an_iconst 0 d123_2 rfl ?_
    refine as_istore_n d123_3 (by decide) ?_
    refine as_iload_n d123_4 rfl ?_
    refine an_iconst 4 d123_5 rfl ?_
    refine as_aload_n d123_6 rfl ?_
    refine ap_get d123_7 f123_67 (by decide) rfl rfl ?_
    refine an_top (e' := nI (P)) (hp) ?_
    refine an_imul d123_10 ?_
    refine an_icmp_ge 43 d123_11 (by decide) (by omega) (by omega) (fun c1 => ?_) (fun c1 => ?_)
    · refine an_iconstI (-1) d123_43 rfl ?_
      refine as_ireturn d123_44 (by rw [t123]; rfl) ?_
      rfl
    · refine as_iload_n d123_14 rfl ?_
      refine as_if_lt 43 d123_15 (by decide) (fun c9 => ?_) (fun c9 => absurd hc c9)
      refine an_iconstI (-1) d123_43 rfl ?_
      refine as_ireturn d123_44 (by rw [t123]; rfl) ?_
      rfl
  · rw [if_neg hc]
    obtain ⟨m, hm, rfl⟩ := nI_of hc
    rw [nI_clamp hm]
    rcases fnd_spec (fun k => decide (cb S k = k)) m (4 * P) with ⟨q, h1, h2, h3, h4, h5⟩ | ⟨h1, h2⟩
    · rw [h1]
      exact cornerOfClass_K X S P m q _ hP hm hp hL h5 (by omega) (Or.inr ⟨h2, h3, h4, rfl⟩)
    · rw [h1]
      exact cornerOfClass_K X S P m (4 * P) _ hP hm hp hL h2 (Nat.le_refl _) (Or.inl ⟨rfl, rfl⟩)
