/-! holes: one number of the diagonal (class), by a property G that the steps keep -/
theorem sm_tm {a b : Int} (h : sm a) : sm (a - a.tdiv b * b) := by
  have h1 : a - a.tdiv b * b = a.tmod b := by
    have := Int.mul_tdiv_add_tmod a b
    rw [Int.mul_comm b] at this
    omega
  have h2 : (a.tmod b).natAbs ≤ a.natAbs := by
    rw [Int.natAbs_tmod]
    exact Nat.mod_le _ _
  have := h.1
  have := h.2
  rw [h1]
  exact ⟨by omega, by omega⟩
theorem clN_dec (f : Nat → Bool) : ∀ n, (clN f n = 1 ∧ ∀ k, k < n → f k = true) ∨ (clN f n = 0 ∧ ∃ k, k < n ∧ ¬ f k = true)
  | 0 => Or.inl ⟨rfl, fun k h => by omega⟩
  | n + 1 => by
    by_cases h : f n = true
    · have e : clN f (n + 1) = clN f n := if_pos h
      rw [e]
      rcases clN_dec f n with ⟨h1, h2⟩ | ⟨h1, k, h2, h3⟩
      · refine Or.inl ⟨h1, fun k hk => ?_⟩
        by_cases w : k = n
        · rw [w]; exact h
        · exact h2 k (by omega)
      · exact Or.inr ⟨h1, k, by omega, h3⟩
    · exact Or.inr ⟨if_neg h, n, by omega, h⟩
abbrev MT := Nat → Nat → Int
/-- the columns too -/
def rcM (A : MT) (d C : Nat) : MT := fun i j => rdR (trM A) d C j i
theorem rr_all {B : MT} {d R : Nat} (h : ∀ k, k < R - (d + 1) → decide (B (d + 1 + k) d - tmR B d (d + 1 + k) * B d d = 0) = true) : ∀ i, d < i → i < R → rdR B d R i d = 0 := by
  intro i h1 h2
  have := of_decide_eq_true (h (i - (d + 1)) (by omega))
  rw [show d + 1 + (i - (d + 1)) = i by omega] at this
  unfold rdR
  rw [if_pos ⟨⟨h1, h2⟩, Nat.le_refl _⟩]
  exact this
theorem rr_ex {B : MT} {d R : Nat} (h : ∃ k, k < R - (d + 1) ∧ ¬ decide (B (d + 1 + k) d - tmR B d (d + 1 + k) * B d d = 0) = true) : ∃ i, d < i ∧ i < R ∧ rdR B d R i d ≠ 0 := by
  obtain ⟨k, h1, h2⟩ := h
  refine ⟨d + 1 + k, by omega, by omega, fun g => h2 (decide_eq_true ?_)⟩
  unfold rdR at g
  rw [if_pos ⟨⟨by omega, by omega⟩, Nat.le_refl _⟩] at g
  exact g
theorem rcM_row {A : MT} {d C j : Nat} (hd : j ≤ d) (i : Nat) : rcM A d C i j = A i j := if_neg (by omega)
def smB (A : MT) (d R C : Nat) : Prop := ∀ i, d ≤ i → i < R → ∀ j, d ≤ j → j < C → sm (A i j)
/-- the steps of the class keep G -/
def HC (R C : Nat) (G : Nat → Nat → MT → Prop) : Prop := ∀ d n A, G d n A → d < R → d < C → smB A d R C ∧ ∀ r c, isLe A d R C r c → ∀ B, B = brM A d r c C → ((∀ i, i < R → sm (B i d)) ∧ (∀ j, j < C → sm (B d j))) ∧ ((∃ i, d < i ∧ i < R ∧ rdR B d R i d ≠ 0) → ∃ n', n' < n ∧ G d n' (rdR B d R)) ∧ ((∀ i, d < i → i < R → rdR B d R i d = 0) → ∀ D, D = rcM (rdR B d R) d C → smB D d R C ∧ ((∃ j, d < j ∧ j < C ∧ D d j ≠ 0) → ∃ n', n' < n ∧ G d n' D) ∧ ((∀ j, d < j → j < C → D d j = 0) → (∀ r c, d < r → r < R → d < c → c < C → ¬ dvP D d r c → ∃ n', n' < n ∧ G d n' (adR D d r)) ∧ ((∀ r, d < r → r < R → ∀ c, d < c → c < C → dvP D d r c) → ∃ n', n' < 100000 ∧ G (d + 1) n' D)))
theorem mx_makeDiagC (X : am_X) (S : MS) (R C : Nat) (A : Nat → Nat → Int) (hR : R ≤ 18) (hC : C ≤ 6) (h : MXc S R C A) (G : Nat → Nat → MT → Prop) (hG : HC R C G) (d n0 : Nat) (hd : d < R) (hd2 : d < C) (hn0 : n0 < 100000) (h0 : G d n0 A) : ∃ v T, MC X 25 [.ref (22), .int (nI (d))] S v T ∧ dKeep S T ∧ ((v = some (.int (nI 0)) ∧ ∃ n B, G d n B ∧ MXc T R C B ∧ ∀ i j, d ≤ i → i < R → d ≤ j → j < C → B i j = 0) ∨ (v = some (.int (nI 1)) ∧ ∃ n B, n < 100000 ∧ G (d + 1) n B ∧ MXc T R C B)) := by
  refine MX.mc (X := X) (mj := 25) (as := [.ref (22), .int (nI (d))]) (S := S) (Post := fun v T => dKeep S T ∧ ((v = some (.int (nI 0)) ∧ ∃ n B, G d n B ∧ MXc T R C B ∧ ∀ i j, d ≤ i → i < R → d ≤ j → j < C → B i j = 0) ∨ (v = some (.int (nI 1)) ∧ ∃ n B, n < 100000 ∧ G (d + 1) n B ∧ MXc T R C B))) ?_
  refine MX.of (Nat.le_of_ble_eq_true rfl) ?_
  refine an_iconst 0 d25_0 rfl ?_
  refine as_istore_n d25_1 (by decide) ?_
  refine AW.loc [(0, .ref (22)), (1, .int (nI (d))), (2, .int (nI (0)))] (am_pick [1, 2, 0] rfl rfl) ?_
  refine aw_fromE (fun t T => ((2, [(0, .ref (22)), (1, .int (nI (d))), (2, .int (nI (t)))], [], 208, HP (T), 0, 0) : am_Z)) (fun t T => dKeep S T ∧ ∃ n B, G d n B ∧ MXc T R C B ∧ n + (t) < 100000) (0) (100000) (by omega) (S) (rfl) (⟨dKeep.rf S, n0, A, h0, h, by omega⟩) (fun t T ht0 ht hI iht => ?_) (fun T hX => ?_)
  · refine as_iload_n d25_2 rfl ?_
    refine as_ldc (v := (100000)) d25_3 (by decide +kernel) ?_
    refine an_top (e' := nI 100000) rfl ?_
    refine an_icmp_ge 51 d25_5 (by decide) (by omega) (by omega) (fun c5 => by omega) (fun c5 => ?_)
    obtain ⟨n1, A1, g1, M1, hn1⟩ := hI.2
    obtain ⟨hsm, hst⟩ := hG d n1 A1 g1 hd hd2
    obtain ⟨v1, T1, m1, k1, q1⟩ := mx_bringC X T R C A1 hR hC M1 d hd hd2 hsm
    rcases q1 with ⟨rfl, q2, q3⟩ | ⟨rfl, r, c, hle, q2⟩
    · skip
      refine as_aload_n d25_8 rfl ?_
      refine as_iload_n d25_9 rfl ?_
      refine ac_v1 d25_10 c25_95 (by decide) rfl (Nat.le_of_ble_eq_true rfl) (m1) ?_
      refine an_if_ne 18 d25_13 (by decide) (by omega) (fun c13 => absurd c13 (by decide)) (fun c13 => ?_)
      refine an_iconst 0 d25_16 rfl ?_
      refine as_ireturn d25_17 (by rw [t25]; rfl) ?_
      exact ⟨_, _, rfl, hI.1.trans k1, Or.inl ⟨rfl, n1, A1, g1, q2, q3⟩⟩
    · skip
      refine as_aload_n d25_8 rfl ?_
      refine as_iload_n d25_9 rfl ?_
      refine ac_v1 d25_10 c25_95 (by decide) rfl (Nat.le_of_ble_eq_true rfl) (m1) ?_
      refine an_if_ne 18 d25_13 (by decide) (by omega) (fun c13 => ?_) (fun c13 => absurd c13 (by decide))
      obtain ⟨e1, e2, e3⟩ := hst r c hle _ rfl
      obtain ⟨v2, T2, m2, rfl, k2, -, q4⟩ := mx_reduceRowsC X T1 R C (brM A1 d r c C) hR hC q2 d hd hd2 e1.1 (fun i hi => sm_tm (e1.1 i hi))
      rcases clN_dec _ _ with ⟨z1, z2⟩ | ⟨z1, z2⟩
      all_goals rw [z1] at m2
      · skip
        refine as_aload_n d25_18 rfl ?_
        refine as_iload_n d25_19 rfl ?_
        refine ac_v1 d25_20 c25_98 (by decide) rfl (Nat.le_of_ble_eq_true rfl) (m2) ?_
        refine an_if_eq 45 d25_23 (by decide) (by omega) (fun c23 => absurd c23 (by decide)) (fun c23 => ?_)
        obtain ⟨e6, e7, e8⟩ := e3 (rr_all z2) _ rfl
        obtain ⟨v3, T3, m3, rfl, k3, -, q5⟩ := mx_reduceColsC X T2 R C (rdR (brM A1 d r c C) d R) hR hC q4 d hd hd2 (fun j hj => by rw [rdR_d]; exact e1.2 j hj) (fun j hj => sm_tm (a := rdR (brM A1 d r c C) d R d j) (b := rdR (brM A1 d r c C) d R d d) (by rw [rdR_d]; exact e1.2 j hj))
        have q5 : MXc T3 R C (rcM (rdR (brM A1 d r c C) d R) d C) := q5
        rcases clN_dec _ _ with ⟨w1, w2⟩ | ⟨w1, w2⟩
        all_goals rw [w1] at m3
        · skip
          refine as_aload_n d25_26 rfl ?_
          refine as_iload_n d25_27 rfl ?_
          refine ac_v1 d25_28 c25_101 (by decide) rfl (Nat.le_of_ble_eq_true rfl) (m3) ?_
          refine an_if_eq 45 d25_31 (by decide) (by omega) (fun c31 => absurd c31 (by decide)) (fun c31 => ?_)
          obtain ⟨v4, T4, m4, k4, -, q6⟩ := mx_dividesRestC X T3 R C _ hR hC q5 d hd hd2 e6
          rcases q6 with ⟨rfl, q7, q8⟩ | ⟨rfl, r4, c4, b1, b2, b3, b4, b5, q7⟩
          · obtain ⟨n5, x1, x2⟩ := (e8 (rr_all (B := trM (rdR (brM A1 d r c C) d R)) w2)).2 q8
            refine as_aload_n d25_34 rfl ?_
            refine as_iload_n d25_35 rfl ?_
            refine ac_v1 d25_36 c25_104 (by decide) rfl (Nat.le_of_ble_eq_true rfl) (m4) ?_
            refine an_if_eq 45 d25_39 (by decide) (by omega) (fun c39 => absurd c39 (by decide)) (fun c39 => ?_)
            refine as_goto 51 d25_42 (by decide) ?_
            refine an_iconst 1 d25_51 rfl ?_
            refine as_ireturn d25_52 (by rw [t25]; rfl) ?_
            exact ⟨_, _, rfl, (((hI.1.trans k1).trans k2).trans k3).trans k4, Or.inr ⟨rfl, n5, _, x1, x2, q7⟩⟩
          · obtain ⟨n5, x1, x2⟩ := (e8 (rr_all (B := trM (rdR (brM A1 d r c C) d R)) w2)).1 r4 c4 b1 b2 b3 b4 b5
            have hnext : dKeep S T4 ∧ ∃ n B, G d n B ∧ MXc T4 R C B ∧ n + (t + 1) < 100000 := ⟨(((hI.1.trans k1).trans k2).trans k3).trans k4, n5, _, x2, q7, by omega⟩
            refine as_aload_n d25_34 rfl ?_
            refine as_iload_n d25_35 rfl ?_
            refine ac_v1 d25_36 c25_104 (by decide) rfl (Nat.le_of_ble_eq_true rfl) (m4) ?_
            refine an_if_eq 45 d25_39 (by decide) (by omega) (fun c39 => ?_) (fun c39 => absurd c39 (by decide))
            refine an_iinc 1 d25_45 rfl rfl (by decide) ?_
            refine as_goto 2 d25_48 (by decide) ?_
            refine AW.loc [(0, .ref (22)), (1, .int (nI (d))), (2, .int (nI (t + 1)))] (am_pick [1, 2, 0] rfl rfl) ?_
            have iht := iht (T4) (hnext)
            exact iht
        · obtain ⟨n4, y1, y2⟩ := e7 (rr_ex (B := trM (rdR (brM A1 d r c C) d R)) w2)
          have hnext : dKeep S T3 ∧ ∃ n B, G d n B ∧ MXc T3 R C B ∧ n + (t + 1) < 100000 := ⟨((hI.1.trans k1).trans k2).trans k3, n4, _, y2, q5, by omega⟩
          refine as_aload_n d25_26 rfl ?_
          refine as_iload_n d25_27 rfl ?_
          refine ac_v1 d25_28 c25_101 (by decide) rfl (Nat.le_of_ble_eq_true rfl) (m3) ?_
          refine an_if_eq 45 d25_31 (by decide) (by omega) (fun c31 => ?_) (fun c31 => absurd c31 (by decide))
          refine an_iinc 1 d25_45 rfl rfl (by decide) ?_
          refine as_goto 2 d25_48 (by decide) ?_
          refine AW.loc [(0, .ref (22)), (1, .int (nI (d))), (2, .int (nI (t + 1)))] (am_pick [1, 2, 0] rfl rfl) ?_
          have iht := iht (T3) (hnext)
          exact iht
      · obtain ⟨n4, y1, y2⟩ := e2 (rr_ex z2)
        have hnext : dKeep S T2 ∧ ∃ n B, G d n B ∧ MXc T2 R C B ∧ n + (t + 1) < 100000 := ⟨(hI.1.trans k1).trans k2, n4, _, y2, q4, by omega⟩
        refine as_aload_n d25_18 rfl ?_
        refine as_iload_n d25_19 rfl ?_
        refine ac_v1 d25_20 c25_98 (by decide) rfl (Nat.le_of_ble_eq_true rfl) (m2) ?_
        refine an_if_eq 45 d25_23 (by decide) (by omega) (fun c23 => ?_) (fun c23 => absurd c23 (by decide))
        refine an_iinc 1 d25_45 rfl rfl (by decide) ?_
        refine as_goto 2 d25_48 (by decide) ?_
        refine AW.loc [(0, .ref (22)), (1, .int (nI (d))), (2, .int (nI (t + 1)))] (am_pick [1, 2, 0] rfl rfl) ?_
        have iht := iht (T2) (hnext)
        exact iht
  · refine as_iload_n d25_2 rfl ?_
    refine as_ldc (v := (100000)) d25_3 (by decide +kernel) ?_
    refine an_top (e' := nI 100000) rfl ?_
    refine an_icmp_ge 51 d25_5 (by decide) (by omega) (by omega) (fun c5 => ?_) (fun c5 => by omega)
    exfalso
    obtain ⟨n1, -, -, -, hn1⟩ := hX.2
    omega
