/-! the class: the search as a whole -/
def HoldD (T : MS) (P : Nat) (D : DS) : Prop := LRf T ∧ ((LCf T 44 109 111 176 ∧ RC T 44 109 P D.1 D.2) ∨ (LCf T 111 176 44 109 ∧ RC T 111 176 P D.1 D.2))
def HoldF (T : MS) : Prop := LRf T ∧ (LCf T 44 109 111 176 ∨ LCf T 111 176 44 109)
/-- what the search leaves -/
def HoldW (T : MS) (P n : Nat) (R : Nat → Nat → Nat) : Prop := LRf T ∧ T.1 43 0 = nI (7 * P) ∧ T.1 43 1 = nI n ∧ ((LCf T 44 109 111 176 ∧ RW T 44 n R) ∨ (LCf T 111 176 44 109 ∧ RW T 111 n R))
theorem LRf.eq {S T : MS} (h : LRf S) (g : T.2.2 = S.2.2) : LRf T := by unfold LRf; rw [g]; exact h
theorem LCf.eq {S T : MS} {a b c d : Nat} (h : LCf S a b c d) (g : T.2.2 = S.2.2) : LCf T a b c d := by unfold LCf; rw [g]; exact h
theorem mx_startW (X : am_X) (S : MS) (P : Nat) (hP : P ≤ 3) (h : HoldF S) : ∃ T, MC X 9 [.ref (43), .int (nI (7 * P))] S none T ∧ leK S T ∧ HoldD T P (7 * P, unitR) := by
  rcases h with ⟨hL, hf | hf⟩
  · obtain ⟨T, a1, a2, a3, a4⟩ := mx_startW44 X S P hP hL hf
    exact ⟨T, a1, a2, hL.eq a3, Or.inl ⟨hf.eq a3, a4⟩⟩
  · obtain ⟨T, a1, a2, a3, a4⟩ := mx_startW111 X S P hP hL hf
    exact ⟨T, a1, a2, hL.eq a3, Or.inr ⟨hf.eq a3, a4⟩⟩
theorem mx_wStep (X : am_X) (S : MS) (P s t c d : Nat) (D : DS) (hP : P ≤ 3) (h : HoldD S P D) (hok : DOk P D) (hok2 : DOk P (ddStep P D (s, t, c, d))) (hpr : RP P D.1 D.2) (hz : RZ P D.1 D.2) (hs : s < 4 * P) (ht : t < 4 * P) (hc : c < 4) (hd : d < 4) (hcs : c ≠ s % 4) (hdt : d ≠ t % 4) : ∃ T U, MC X 10 [.ref (43), .int (nI (s)), .int (nI (c)), .int (nI (t)), .int (nI (d))] S none T ∧ MC X 11 [.ref (43)] T none U ∧ leK S U ∧ HoldD U P (ddStep P D (s, t, c, d)) := by
  have k1 := eqA_lt hs hc hcs
  have k2 := eqA_lt ht hd hdt
  have heb : ∀ i, i < D.1 → -40000 ≤ exV s t c d (D.2 i) ∧ exV s t c d (D.2 i) ≤ 40000 := fun i hi => by
    have := exV_b (s := s) (t := t) (c := c) (d := d) hok.2.1 hi k1.1 k1.2 k2.1 k2.2
    omega
  rcases h with ⟨hL, ⟨hf, hr⟩ | ⟨hf, hr⟩⟩
  · obtain ⟨T, a1, a2, a3, a4, a5⟩ := mx_weigh44 X S P D.1 s t c d D.2 hok.1 hL hf hr (by omega) (by omega) hc hd hcs hdt
    obtain ⟨U, b1, b2, b3, b4, b5⟩ := mx_fitAcross44 X T P D.1 D.2 (fun r => exV s t c d (D.2 r)) hP hok.1 (hL.eq a3) (hf.eq a3) a4 hz hok.2.2 hok.2.1 hpr a5 heb hok2.1
    exact ⟨T, U, a1, b1, a2.trans b2, b3, Or.inr ⟨b4, b5⟩⟩
  · obtain ⟨T, a1, a2, a3, a4, a5⟩ := mx_weigh111 X S P D.1 s t c d D.2 hok.1 hL hf hr (by omega) (by omega) hc hd hcs hdt
    obtain ⟨U, b1, b2, b3, b4, b5⟩ := mx_fitAcross111 X T P D.1 D.2 (fun r => exV s t c d (D.2 r)) hP hok.1 (hL.eq a3) (hf.eq a3) a4 hz hok.2.2 hok.2.1 hpr a5 heb hok2.1
    exact ⟨T, U, a1, b1, a2.trans b2, b3, Or.inl ⟨b4, b5⟩⟩
theorem mx_sortW (X : am_X) (S : MS) (P : Nat) (D : DS) (hP : P ≤ 3) (h : HoldD S P D) (hok : DOk P D) : ∃ T, MC X 18 [.ref (43)] S none T ∧ leK S T ∧ HoldW T P D.1 (sortR (7 * P) D.2 (D.1 - 1)) := by
  rcases h with ⟨hL, ⟨hf, hr⟩ | ⟨hf, hr⟩⟩
  · obtain ⟨T, a1, ⟨a2, a3, a4⟩, a5, a6⟩ := mx_sortRows44 X S P D.1 D.2 hP hok.1 hL hf hr.1 hr.2.1 hr.2.2.1 hok.2.1
    exact ⟨T, a1, a2, a5, by rw [a4]; exact hr.1, by rw [a4]; exact hr.2.1, Or.inl ⟨a3, a6⟩⟩
  · obtain ⟨T, a1, ⟨a2, a3, a4⟩, a5, a6⟩ := mx_sortRows111 X S P D.1 D.2 hP hok.1 hL hf hr.1 hr.2.1 hr.2.2.1 hok.2.1
    exact ⟨T, a1, a2, a5, by rw [a4]; exact hr.1, by rw [a4]; exact hr.2.1, Or.inr ⟨a3, a6⟩⟩
theorem dd_inv' {P : Nat} {mt : Nat → Option Nat} {go : Nat → Nat} (hD : DAll P mt go) {s t c : Nat} (hs : s < 4 * P) (e0 : mt s = some t) (hst : s < t) (hc : c ≤ 4) : RP P (dd P (eqs mt go s ++ eqsC s t go c)).1 (dd P (eqs mt go s ++ eqsC s t go c)).2 ∧ RZ P (dd P (eqs mt go s ++ eqsC s t go c)).1 (dd P (eqs mt go s ++ eqsC s t go c)).2 := by
  obtain ⟨l1, h1⟩ := eqs_pre mt go (show s + 1 ≤ 4 * P by omega)
  obtain ⟨l2, h2⟩ := eqsC_pre s t go hc
  refine dd_inv hD _ (l2 ++ l1) ?_
  have h3 : eqsS mt go s = eqsC s t go 4 := by
    unfold eqsS
    rw [e0]
    exact if_pos hst
  rw [← h1, show eqs mt go (s + 1) = eqs mt go s ++ eqsS mt go s from rfl, h3, ← h2]
  simp only [List.append_assoc]
theorem mt_pr (mt : Nat → Option Nat) (go : Nat → Nat) (s : Nat) : (¬ prN mt s = true ∧ eqs mt go (s + 1) = eqs mt go s) ∨ ∃ t, mt s = some t ∧ s < t := by
  rcases mt_or mt s with e0 | ⟨t, e0⟩
  · exact Or.inl ⟨prN_n e0, eqsS_n e0⟩
  · by_cases h : s < t
    · exact Or.inr ⟨t, e0, h⟩
    · exact Or.inl ⟨prN_g e0 h, eqsS_g e0 (by omega)⟩
set_option maxHeartbeats 4000000 in
theorem mx_buildL (X : am_X) (S : MS) (P : Nat) (mt : Nat → Option Nat) (go : Nat → Nat) (hG : GW P mt go) (hC : CG S P mt go) (hH : HoldF S) (hD : DAll P mt go) : ∃ T, MC X 8 [.ref (43), .ref (1)] S none T ∧ leK S T ∧ HoldW T P (dd P (eqs mt go (4 * P))).1 (sortR (7 * P) (dd P (eqs mt go (4 * P))).2 ((dd P (eqs mt go (4 * P))).1 - 1)) := by
  have hP := hG.1
  obtain ⟨T0, a1, a2, a3⟩ := mx_startW X S P hP hH
  have hC0 := hC.le a2
  have key := MX.mc (X := X) (mj := 8) (as := [.ref (43), .ref (1)]) (S := S) (Post := fun v T => v = none ∧ leK S T ∧ HoldW T P (dd P (eqs mt go (4 * P))).1 (sortR (7 * P) (dd P (eqs mt go (4 * P))).2 ((dd P (eqs mt go (4 * P))).1 - 1))) ?_
  · obtain ⟨v, T, g1, g2, g3⟩ := key
    subst g2
    exact ⟨T, g1, g3⟩
  refine MX.of (Nat.le_of_ble_eq_true rfl) ?_
  refine as_aload_n d8_0 rfl ?_
  refine an_bipush 7 d8_1 rfl ?_
  refine as_aload_n d8_3 rfl ?_
  refine ap_get d8_4 f8_29 (by decide) rfl rfl ?_
  refine an_top (e' := nI (P)) (hC.1) ?_
  refine an_imul d8_7 ?_
  refine ac_v1 d8_8 c8_35 (by decide) rfl (Nat.le_of_ble_eq_true rfl) (a1) ?_
  refine an_iconst 0 d8_11 rfl ?_
  refine as_istore_n d8_12 (by decide) ?_
  refine AW.loc [(0, .ref (43)), (1, .ref (1)), (2, .int (nI (0)))] (am_pick [1, 2, 0] rfl rfl) ?_
  refine aw_fromE (fun s T => ((13, [(0, .ref (43)), (1, .ref (1)), (2, .int (nI (s)))], [], 208, HP (T), 0, 0) : am_Z)) (fun s T => leK S T ∧ HoldD T P (dd P (eqs mt go (s)))) (0) (4 * P) (by omega) (T0) (rfl) (⟨a2, a3⟩) (fun s T hs0 hs hI ihs => ?_) (fun T hX => ?_)
  · have hCT := hC.le hI.1
    refine as_iload_n d8_13 rfl ?_
    refine an_iconst 4 d8_14 rfl ?_
    refine as_aload_n d8_15 rfl ?_
    refine ap_get d8_16 f8_29 (by decide) rfl rfl ?_
    refine an_top (e' := nI (P)) (hCT.1) ?_
    refine an_imul d8_19 ?_
    refine an_icmp_ge 83 d8_20 (by decide) (by omega) (by omega) (fun c20 => by omega) (fun c20 => ?_)
    rcases (show (¬ prN mt s = true ∧ eqs mt go (s + 1) = eqs mt go s) ∨ (∃ t, mt s = some t ∧ s < t) from mt_pr mt go s) with ⟨hnp, hv⟩ | ⟨t, e0, hst⟩
    · skip
      refine an_iconst 0 d8_23 rfl ?_
      refine as_istore_n d8_24 (by decide) ?_
      refine as_iload_n d8_25 rfl ?_
      refine an_iconst 4 d8_26 rfl ?_
      refine an_icmp_ge 77 d8_27 (by decide) (by omega) (by omega) (fun c27 => by omega) (fun c27 => ?_)
      refine as_aload_n d8_30 rfl ?_
      refine as_iload_n d8_31 rfl ?_
      refine ac_v1 d8_32 c8_39 (by decide) rfl (Nat.le_of_ble_eq_true rfl) (mc_isLesser X _ P mt go _ hG hCT hs) ?_
      refine as_if_eq 77 d8_35 (by decide) (fun c35 => ?_) (fun c35 => absurd (am_b1 c35) hnp)
      refine an_iinc 1 d8_77 rfl rfl (by decide) ?_
      refine as_goto 13 d8_80 (by decide) ?_
      refine AW.loc [(0, .ref (43)), (1, .ref (1)), (2, .int (nI (s + 1)))] (am_pick [2, 3, 0] rfl rfl) ?_
      have ihs := ihs (T) (by first | exact ⟨hI.1, by rw [hv]; exact hI.2⟩ | exact ⟨hJX.1, by rw [hv]; exact hJX.2⟩)
      exact ihs
    · have hv := eqsS_l (go := go) e0 hst
      have ht := mt_lt hG hs e0
      refine an_iconst 0 d8_23 rfl ?_
      refine as_istore_n d8_24 (by decide) ?_
      refine AW.loc [(0, .ref (43)), (1, .ref (1)), (2, .int (nI (s))), (3, .int (nI (0)))] (am_pick [1, 2, 3, 0] rfl rfl) ?_
      refine aw_fromE (fun c T2 => ((25, [(0, .ref (43)), (1, .ref (1)), (2, .int (nI (s))), (3, .int (nI (c)))], [], 208, HP (T2), 0, 0) : am_Z)) (fun c T2 => leK S T2 ∧ HoldD T2 P (dd P (eqs mt go s ++ eqsC s t go (c)))) (0) (4) (by omega) (T) (rfl) (⟨hI.1, by show HoldD T P (dd P (eqs mt go s ++ [])); rw [List.append_nil]; exact hI.2⟩) (fun c T2 hc0 hc hJ ihc => ?_) (fun T2 hJX => ?_)
      · have hC2 := hC.le hJ.1
        refine as_iload_n d8_25 rfl ?_
        refine an_iconst 4 d8_26 rfl ?_
        refine an_icmp_ge 77 d8_27 (by decide) (by omega) (by omega) (fun c27 => by omega) (fun c27 => ?_)
        refine as_aload_n d8_30 rfl ?_
        refine as_iload_n d8_31 rfl ?_
        refine ac_v1 d8_32 c8_39 (by decide) rfl (Nat.le_of_ble_eq_true rfl) (mc_isLesser X _ P mt go _ hG hC2 hs) ?_
        refine as_if_eq 77 d8_35 (by decide) (fun c35 => absurd (prN_t e0 hst) (am_b01.mp c35)) (fun c35 => ?_)
        refine as_iload_n d8_38 rfl ?_
        refine as_iload_n d8_39 rfl ?_
        refine an_iconst 4 d8_40 rfl ?_
        refine an_irem d8_41 (by omega) (by omega) (by omega) ?_
        refine an_icmp_eq 71 d8_42 (by decide) (by omega) (by omega) (fun c42 => ?_) (fun c42 => ?_)
        · have hw := eqsC_e (t := t) (go := go) c42
          refine an_iinc 1 d8_71 rfl rfl (by decide) ?_
          refine as_goto 25 d8_74 (by decide) ?_
          refine AW.loc [(0, .ref (43)), (1, .ref (1)), (2, .int (nI (s))), (3, .int (nI (c + 1)))] (am_pick [1, 2, 3, 0] rfl rfl) ?_
          have ihc := ihc (T2) (by first | exact ⟨hJ.1, by rw [hw]; exact hJ.2⟩ | exact ⟨hvv, by rw [hw, ← List.append_assoc, dd_app]; exact g4⟩)
          exact ihc
        · have hw := eqsC_s (t := t) (go := go) c42
          have hgl := hG.go_lt hs e0 hc
          have hgn := hG.go_ne hs e0 hc c42
          have hok := hD.at hs e0 hst (show c ≤ 4 by omega)
          have hok2 := hD.at hs e0 hst (show c + 1 ≤ 4 by omega)
          rw [hw, ← List.append_assoc, dd_app] at hok2
          have hpz := dd_inv' hD hs e0 hst (show c ≤ 4 by omega)
          obtain ⟨T3, T4, g1, g2, g3, g4⟩ := mx_wStep X T2 P s t c (go (4 * s + c)) _ hP hJ.2 hok hok2 hpz.1 hpz.2 hs ht.1 hc hgl c42 hgn
          have hvv := hJ.1.trans g3
          refine as_aload_n d8_45 rfl ?_
          refine as_iload_n d8_46 rfl ?_
          refine as_iload_n d8_47 rfl ?_
          refine as_aload_n d8_48 rfl ?_
          refine ap_get d8_49 f8_43 (by decide) rfl rfl ?_
          refine as_iload_n d8_52 rfl ?_
          refine ap_iald d8_53 (fun _ _ _ _ => rfl) (by decide) (by omega) (by decide) ?_
          refine an_top (e' := nI (t)) (by rw [hC2.2.2.1 _ (by omega), e0]; rfl) ?_
          refine as_aload_n d8_54 rfl ?_
          refine ap_get d8_55 f8_46 (by decide) rfl rfl ?_
          refine an_iconst 4 d8_58 rfl ?_
          refine as_iload_n d8_59 rfl ?_
          refine an_imul d8_60 ?_
          refine as_iload_n d8_61 rfl ?_
          refine an_iadd d8_62 ?_
          refine ap_iald d8_63 (fun _ _ _ _ => rfl) (by decide) (by omega) (by decide) ?_
          refine an_top (e' := nI (go (((4) * (s)) + (c)))) (hC2.2.2.2.2 _ _ _ (by omega) e0 (by omega)) ?_
          refine ac_v4 d8_64 c8_49 (by decide) rfl (Nat.le_of_ble_eq_true rfl) (g1) ?_
          refine as_aload_n d8_67 rfl ?_
          refine ac_v0 d8_68 c8_53 (by decide) rfl (Nat.le_of_ble_eq_true rfl) (g2) ?_
          refine an_iinc 1 d8_71 rfl rfl (by decide) ?_
          refine as_goto 25 d8_74 (by decide) ?_
          refine AW.loc [(0, .ref (43)), (1, .ref (1)), (2, .int (nI (s))), (3, .int (nI (c + 1)))] (am_pick [1, 2, 3, 0] rfl rfl) ?_
          have ihc := ihc (T4) (by first | exact ⟨hJ.1, by rw [hw]; exact hJ.2⟩ | exact ⟨hvv, by rw [hw, ← List.append_assoc, dd_app]; exact g4⟩)
          exact ihc
      · refine as_iload_n d8_25 rfl ?_
        refine an_iconst 4 d8_26 rfl ?_
        refine an_icmp_ge 77 d8_27 (by decide) (by omega) (by omega) (fun c27 => ?_) (fun c27 => by omega)
        refine an_iinc 1 d8_77 rfl rfl (by decide) ?_
        refine as_goto 13 d8_80 (by decide) ?_
        refine AW.loc [(0, .ref (43)), (1, .ref (1)), (2, .int (nI (s + 1)))] (am_pick [1, 2, 0] rfl rfl) ?_
        have ihs := ihs (T2) (by first | exact ⟨hI.1, by rw [hv]; exact hI.2⟩ | exact ⟨hJX.1, by rw [hv]; exact hJX.2⟩)
        exact ihs
  · refine as_iload_n d8_13 rfl ?_
    refine an_iconst 4 d8_14 rfl ?_
    refine as_aload_n d8_15 rfl ?_
    refine ap_get d8_16 f8_29 (by decide) rfl rfl ?_
    refine an_top (e' := nI (P)) ((hC.le hX.1).1) ?_
    refine an_imul d8_19 ?_
    refine an_icmp_ge 83 d8_20 (by decide) (by omega) (by omega) (fun c20 => ?_) (fun c20 => by omega)
    obtain ⟨T9, z1, z2, z3⟩ := mx_sortW X T P _ hP hX.2 (hD.at0 (Nat.le_refl (4 * P)))
    refine as_aload_n d8_83 rfl ?_
    refine ac_v0 d8_84 c8_56 (by decide) rfl (Nat.le_of_ble_eq_true rfl) (z1) ?_
    refine as_return d8_87 t8 ?_
    exact ⟨_, _, rfl, rfl, hX.1.trans z2, z3⟩
