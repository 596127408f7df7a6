/-! the class: the sheet -/
def SHC (S : MS) (sh : Nat → Nat) : Prop := ∀ i, i < 21 → S.2.1 178 i = nI (sh i) ∧ sh i ≤ 1000
theorem mc_arcsAround (X : am_X) (S : MS) (a s c : Nat) (v : Nat → Nat) (ha : a < 208) (hI : isI a 21) (hv : ∀ i, i < 21 → S.2.1 a i = nI (v i)) (hs : s < 12) (hc : c < 4) (hcs : c ≠ s % 4) : MC X 106 [.ref (a), .int (nI (s)), .int (nI (c))] S (some (.int (nI (arcP v (s / 4) (s % 4) c)))) S := by
  have hk := kO_lt hc (show s % 4 < 4 by omega) hcs
  refine MC.of (Nat.le_of_ble_eq_true rfl) ?_
  refine an_bipush 7 d106_0 rfl ?_
  refine as_iload_n d106_2 rfl ?_
  refine an_iconst 4 d106_3 rfl ?_
  refine an_idiv d106_4 (by omega) (by omega) (by omega) ?_
  refine an_imul d106_5 ?_
  refine as_istore_n d106_6 (by decide) ?_
  refine as_aload_n d106_7 rfl ?_
  refine as_iload_n d106_8 rfl ?_
  refine as_iload_n d106_9 rfl ?_
  refine an_iadd d106_10 ?_
  refine ap_iald d106_11 hI ha (by omega) (by decide) (an_top (e' := nI (v (7 * (s / 4) + c))) (hv _ (by omega)) ?_)
  refine as_aload_n d106_12 rfl ?_
  refine as_iload_n d106_13 rfl ?_
  refine an_iconst 4 d106_14 rfl ?_
  refine an_iadd d106_15 ?_
  refine as_gets d106_16 g106_216 ?_
  refine an_iconst 4 d106_19 rfl ?_
  refine as_iload_n d106_20 rfl ?_
  refine an_imul d106_21 ?_
  refine as_iload_n d106_22 rfl ?_
  refine an_iconst 4 d106_23 rfl ?_
  refine an_irem d106_24 (by omega) (by omega) (by omega) ?_
  refine an_iadd d106_25 ?_
  refine an_stat d106_26 (by decide) (by show _ < 16; omega) ?_
  refine an_top (e' := nI (kO c (s % 4))) (sl_four hc (by omega) hcs) ?_
  refine an_iadd d106_27 ?_
  refine ap_iald d106_28 hI ha (by omega) (by decide) (an_top (e' := nI (v (7 * (s / 4) + 4 + kO c (s % 4)))) (hv _ (by omega)) ?_)
  refine an_iadd d106_29 ?_
  refine as_ireturn d106_30 (by rw [t106]; rfl) ?_
  rfl
theorem mtS_t1 {k e : Nat} (h : k < 4) (g : k = fE e ∨ k = tE e) : mtS k e = true := by
  unfold mtS
  rw [if_pos h]
  exact decide_eq_true (by omega)
theorem mtS_f1 {k e : Nat} (h : k < 4) (g : k ≠ fE e ∧ k ≠ tE e) : ¬ mtS k e = true := by
  unfold mtS
  rw [if_pos h]
  exact fun q => by have := of_decide_eq_true q; omega
theorem mtS_t2 {k e : Nat} (h : 4 ≤ k) (g : k - 4 ≠ kO (fE e) (tE e)) : mtS k e = true := by
  unfold mtS
  rw [if_neg (by omega)]
  exact decide_eq_true (fun q => g q.symm)
theorem mtS_f2 {k e : Nat} (h : 4 ≤ k) (g : k - 4 = kO (fE e) (tE e)) : ¬ mtS k e = true := by
  unfold mtS
  rw [if_neg (by omega)]
  exact fun q => (of_decide_eq_true q) g.symm
theorem mc_meetsC (X : am_X) (S : MS) (k e : Nat) (hk : k < 7) (he : e < 6) : MC X 107 [.int (nI (k)), .int (nI (e))] S (some (.int (if mtS k e then 1 else 0))) S := by
  have b1 := (sl_low he).2
  have b2 := (sl_high he).2
  have b3 := kO_lt b1 b2.1 (by omega)
  refine MC.of (Nat.le_of_ble_eq_true rfl) ?_
  refine as_iload_n d107_0 rfl ?_
  refine an_iconst 4 d107_1 rfl ?_
  refine an_icmp_ge 29 d107_2 (by decide) (by omega) (by omega) (fun c2 => ?_) (fun c2 => ?_)
  · refine as_iload_n d107_29 rfl ?_
    refine an_iconst 4 d107_30 rfl ?_
    refine an_isub d107_31 (by omega) ?_
    refine as_gets d107_32 g107_216 ?_
    refine an_iconst 4 d107_35 rfl ?_
    refine as_gets d107_36 g107_219 ?_
    refine as_iload_n d107_39 rfl ?_
    refine an_stat d107_40 (by decide) (by show _ < 6; omega) ?_
    refine an_top (e' := nI (fE e)) ((sl_low he).1) ?_
    refine an_imul d107_41 ?_
    refine as_gets d107_42 g107_222 ?_
    refine as_iload_n d107_45 rfl ?_
    refine an_stat d107_46 (by decide) (by show _ < 6; omega) ?_
    refine an_top (e' := nI (tE e)) ((sl_high he).1) ?_
    refine an_iadd d107_47 ?_
    refine an_stat d107_48 (by decide) (by show _ < 16; have := (sl_low he).2; have := (sl_high he).2.1; omega) ?_
    refine an_top (e' := nI (kO (fE e) (tE e))) (sl_four (sl_low he).2 (sl_high he).2.1 (by have := (sl_high he).2.2; omega)) ?_
    refine an_icmp_eq 56 d107_49 (by decide) (by omega) (by omega) (fun c49 => ?_) (fun c49 => ?_)
    · refine an_iconst 0 d107_56 rfl ?_
      refine as_ireturn d107_57 (by rw [t107]; rfl) ?_
      refine am_req ?_
      first | exact (if_pos (mtS_t1 (by omega) (by omega))).symm | exact (if_neg (mtS_f1 (by omega) (by omega))).symm | exact (if_pos (mtS_t2 (by omega) (by omega))).symm | exact (if_neg (mtS_f2 (by omega) (by omega))).symm
    · refine an_iconst 1 d107_52 rfl ?_
      refine as_goto 57 d107_53 (by decide) ?_
      refine as_ireturn d107_57 (by rw [t107]; rfl) ?_
      refine am_req ?_
      first | exact (if_pos (mtS_t1 (by omega) (by omega))).symm | exact (if_neg (mtS_f1 (by omega) (by omega))).symm | exact (if_pos (mtS_t2 (by omega) (by omega))).symm | exact (if_neg (mtS_f2 (by omega) (by omega))).symm
  · refine as_iload_n d107_5 rfl ?_
    refine as_gets d107_6 g107_219 ?_
    refine as_iload_n d107_9 rfl ?_
    refine an_stat d107_10 (by decide) (by show _ < 6; omega) ?_
    refine an_top (e' := nI (fE e)) ((sl_low he).1) ?_
    refine an_icmp_eq 23 d107_11 (by decide) (by omega) (by omega) (fun c11 => ?_) (fun c11 => ?_)
    · refine an_iconst 1 d107_23 rfl ?_
      refine as_goto 28 d107_24 (by decide) ?_
      refine as_ireturn d107_28 (by rw [t107]; rfl) ?_
      refine am_req ?_
      first | exact (if_pos (mtS_t1 (by omega) (by omega))).symm | exact (if_neg (mtS_f1 (by omega) (by omega))).symm | exact (if_pos (mtS_t2 (by omega) (by omega))).symm | exact (if_neg (mtS_f2 (by omega) (by omega))).symm
    · refine as_iload_n d107_14 rfl ?_
      refine as_gets d107_15 g107_222 ?_
      refine as_iload_n d107_18 rfl ?_
      refine an_stat d107_19 (by decide) (by show _ < 6; omega) ?_
      refine an_top (e' := nI (tE e)) ((sl_high he).1) ?_
      refine an_icmp_ne 27 d107_20 (by decide) (by omega) (by omega) (fun c20 => ?_) (fun c20 => ?_)
      · refine an_iconst 0 d107_27 rfl ?_
        refine as_ireturn d107_28 (by rw [t107]; rfl) ?_
        refine am_req ?_
        first | exact (if_pos (mtS_t1 (by omega) (by omega))).symm | exact (if_neg (mtS_f1 (by omega) (by omega))).symm | exact (if_pos (mtS_t2 (by omega) (by omega))).symm | exact (if_neg (mtS_f2 (by omega) (by omega))).symm
      · refine an_iconst 1 d107_23 rfl ?_
        refine as_goto 28 d107_24 (by decide) ?_
        refine as_ireturn d107_28 (by rw [t107]; rfl) ?_
        refine am_req ?_
        first | exact (if_pos (mtS_t1 (by omega) (by omega))).symm | exact (if_neg (mtS_f1 (by omega) (by omega))).symm | exact (if_pos (mtS_t2 (by omega) (by omega))).symm | exact (if_neg (mtS_f2 (by omega) (by omega))).symm
theorem mc_notZero (X : am_X) (S : MS) (sh : Nat → Nat) (hS : SHC S sh) : MC X 46 [.ref (177)] S (some (.int (nI (cnt (fun i => decide (sh i ≠ 0)) 21)))) S := by
  refine MC.of (Nat.le_of_ble_eq_true rfl) ?_
  refine an_iconst 0 d46_0 rfl ?_
  refine as_istore_n d46_1 (by decide) ?_
  refine as_aload_n d46_2 rfl ?_
  refine ap_get d46_3 f46_9 (by decide) rfl rfl ?_
  refine as_astore_n d46_6 (by decide) ?_
  refine as_aload_n d46_7 rfl ?_
  refine as_alen d46_8 (by decide) rfl (by decide) ?_
  refine an_top (e' := nI 21) rfl ?_
  refine as_istore_n d46_9 (by decide) ?_
  refine an_iconst 0 d46_10 rfl ?_
  refine as_istore d46_11 (by decide) ?_
  refine AW.loc [(1, .int (nI (0))), (2, .ref (178)), (3, .int (nI (21))), (4, .int (nI (0)))] (am_pick [3, 2, 1, 0] rfl rfl) ?_
  refine aw_for (fun i => ((13, [(1, .int (nI (cnt (fun i => decide (sh i ≠ 0)) (i)))), (2, .ref (178)), (3, .int (nI (21))), (4, .int (nI (i)))], [], 208, HP (S), 0, 0) : am_Z)) (21) (rfl) (fun i hi ih => ?_) ?_
  · refine as_iload d46_13 rfl ?_
    refine as_iload_n d46_15 rfl ?_
    refine an_icmp_ge 39 d46_16 (by decide) (by omega) (by omega) (fun c16 => by omega) (fun c16 => ?_)
    refine as_aload_n d46_19 rfl ?_
    refine as_iload d46_20 rfl ?_
    refine ap_iald d46_22 (fun _ _ _ _ => rfl) (by decide) (by omega) (by decide) ?_
    refine an_top (e' := nI (sh (i))) ((hS _ (by omega)).1) ?_
    refine as_istore d46_23 (by decide) ?_
    refine as_iload d46_25 rfl ?_
    refine an_if_eq 33 d46_27 (by decide) (by have := (hS i hi).2; omega) (fun c27 => ?_) (fun c27 => ?_)
    · refine an_iinc 1 d46_33 rfl rfl (by decide) ?_
      refine as_goto 13 d46_36 (by decide) ?_
      refine AW.loc [(1, .int (nI (cnt (fun i => decide (sh i ≠ 0)) (i)))), (2, .ref (178)), (3, .int (nI (21))), (4, .int (nI (i + 1)))] (am_pick [2, 3, 4, 0] rfl rfl) ?_
      have e1 : cnt (fun i => decide (sh i ≠ 0)) (i + 1) = cnt (fun i => decide (sh i ≠ 0)) (i) := by first | exact cnt_t (decide_eq_true c27) | exact cnt_f (fun g => of_decide_eq_true g c27)
      rw [e1] at ih
      exact ih
    · refine an_iinc 1 d46_30 rfl rfl (by decide) ?_
      refine an_iinc 1 d46_33 rfl rfl (by decide) ?_
      refine as_goto 13 d46_36 (by decide) ?_
      refine AW.loc [(1, .int (nI (cnt (fun i => decide (sh i ≠ 0)) (i) + 1))), (2, .ref (178)), (3, .int (nI (21))), (4, .int (nI (i + 1)))] (am_pick [1, 3, 4, 0] rfl rfl) ?_
      have e1 : cnt (fun i => decide (sh i ≠ 0)) (i + 1) = cnt (fun i => decide (sh i ≠ 0)) (i) + 1 := by first | exact cnt_t (decide_eq_true c27) | exact cnt_f (fun g => of_decide_eq_true g c27)
      rw [e1] at ih
      exact ih
  · refine as_iload d46_13 rfl ?_
    refine as_iload_n d46_15 rfl ?_
    refine an_icmp_ge 39 d46_16 (by decide) (by omega) (by omega) (fun c16 => ?_) (fun c16 => by omega)
    refine as_iload_n d46_39 rfl ?_
    refine as_ireturn d46_40 (by rw [t46]; rfl) ?_
    rfl
theorem mc_cutCount (X : am_X) (S : MS) (sh : Nat → Nat) (hS : SHC S sh) : MC X 47 [.ref (177)] S (some (.int (nI (fsum sh 21)))) S := by
  refine MC.of (Nat.le_of_ble_eq_true rfl) ?_
  refine an_iconst 0 d47_0 rfl ?_
  refine as_istore_n d47_1 (by decide) ?_
  refine as_aload_n d47_2 rfl ?_
  refine ap_get d47_3 f47_9 (by decide) rfl rfl ?_
  refine as_astore_n d47_6 (by decide) ?_
  refine as_aload_n d47_7 rfl ?_
  refine as_alen d47_8 (by decide) rfl (by decide) ?_
  refine an_top (e' := nI 21) rfl ?_
  refine as_istore_n d47_9 (by decide) ?_
  refine an_iconst 0 d47_10 rfl ?_
  refine as_istore d47_11 (by decide) ?_
  refine AW.loc [(1, .int (nI (0))), (2, .ref (178)), (3, .int (nI (21))), (4, .int (nI (0)))] (am_pick [3, 2, 1, 0] rfl rfl) ?_
  refine aw_for (fun i => ((13, [(1, .int (nI (fsum sh (i)))), (2, .ref (178)), (3, .int (nI (21))), (4, .int (nI (i)))], [], 208, HP (S), 0, 0) : am_Z)) (21) (rfl) (fun i hi ih => ?_) ?_
  · refine as_iload d47_13 rfl ?_
    refine as_iload_n d47_15 rfl ?_
    refine an_icmp_ge 36 d47_16 (by decide) (by omega) (by omega) (fun c16 => by omega) (fun c16 => ?_)
    refine as_aload_n d47_19 rfl ?_
    refine as_iload d47_20 rfl ?_
    refine ap_iald d47_22 (fun _ _ _ _ => rfl) (by decide) (by omega) (by decide) ?_
    refine an_top (e' := nI (sh (i))) ((hS _ (by omega)).1) ?_
    refine as_istore d47_23 (by decide) ?_
    refine as_iload_n d47_25 rfl ?_
    refine as_iload d47_26 rfl ?_
    refine an_iadd d47_28 ?_
    refine as_istore_n d47_29 (by decide) ?_
    refine an_iinc 1 d47_30 rfl rfl (by decide) ?_
    refine as_goto 13 d47_33 (by decide) ?_
    refine AW.loc [(1, .int (nI ((fsum sh (i)) + (sh (i))))), (2, .ref (178)), (3, .int (nI (21))), (4, .int (nI (i + 1)))] (am_pick [1, 3, 4, 0] rfl rfl) ?_
    have e1 : fsum sh (i + 1) = (fsum sh (i)) + (sh (i)) := by rfl
    rw [e1] at ih
    exact ih
  · refine as_iload d47_13 rfl ?_
    refine as_iload_n d47_15 rfl ?_
    refine an_icmp_ge 36 d47_16 (by decide) (by omega) (by omega) (fun c16 => ?_) (fun c16 => by omega)
    refine as_iload_n d47_36 rfl ?_
    refine as_ireturn d47_37 (by rw [t47]; rfl) ?_
    rfl
def FitA (mt : Nat → Option Nat) (go : Nat → Nat) (sh : Nat → Nat) (s a : Nat) : Prop := (a = 1 ∧ ∀ c, c < 4 → ¬ misf mt go sh s c) ∨ (a = 0 ∧ ∃ c, c < 4 ∧ misf mt go sh s c)
theorem FitA_ex (mt : Nat → Option Nat) (go : Nat → Nat) (sh : Nat → Nat) (s : Nat) : ∃ a, FitA mt go sh s a := by
  by_cases h : ∃ c, c < 4 ∧ misf mt go sh s c
  · exact ⟨0, Or.inr ⟨rfl, h⟩⟩
  · exact ⟨1, Or.inl ⟨rfl, fun c hc g => h ⟨c, hc, g⟩⟩⟩
theorem FitA.lt {mt : Nat → Option Nat} {go : Nat → Nat} {sh : Nat → Nat} {s a : Nat} (h : FitA mt go sh s a) : a < 2 := by
  rcases h with h | h <;> omega
theorem mc_fitsAt (X : am_X) (S : MS) (P : Nat) (mt : Nat → Option Nat) (go : Nat → Nat) (s t a : Nat) (sh : Nat → Nat) (hG : GW P mt go) (hC : CG S P mt go) (hS : SHC S sh) (hs : s < 4 * P) (e0 : mt s = some t) (ha : FitA mt go sh s a) : MC X 52 [.ref (177), .ref (1), .int (nI (s))] S (some (.int (nI a))) S := by
  have hP := hG.1
  have ht := mt_lt hG hs e0
  refine MC.of (Nat.le_of_ble_eq_true rfl) ?_
  refine an_iconst 0 d52_0 rfl ?_
  refine as_istore_n d52_1 (by decide) ?_
  refine AW.loc [(0, .ref (177)), (1, .ref (1)), (2, .int (nI (s))), (3, .int (nI (0)))] (am_pick [1, 2, 3, 0] rfl rfl) ?_
  refine aw_fromI (fun c => ((2, [(0, .ref (177)), (1, .ref (1)), (2, .int (nI (s))), (3, .int (nI (c)))], [], 208, HP (S), 0, 0) : am_Z)) (fun c => ∀ d, d < c → ¬ misf mt go sh s d) (0) (4) (by omega) (rfl) (fun d hd => by omega) (fun c hc0 hc hI ihc => ?_) (fun hX => ?_)
  · refine as_iload_n d52_2 rfl ?_
    refine an_iconst 4 d52_3 rfl ?_
    refine an_icmp_ge 61 d52_4 (by decide) (by omega) (by omega) (fun c4 => by omega) (fun c4 => ?_)
    refine as_iload_n d52_7 rfl ?_
    refine as_iload_n d52_8 rfl ?_
    refine an_iconst 4 d52_9 rfl ?_
    refine an_irem d52_10 (by omega) (by omega) (by omega) ?_
    refine an_icmp_eq 55 d52_11 (by decide) (by omega) (by omega) (fun c11 => ?_) (fun c11 => ?_)
    · refine an_iinc 1 d52_55 rfl rfl (by decide) ?_
      refine as_goto 2 d52_58 (by decide) ?_
      refine AW.loc [(0, .ref (177)), (1, .ref (1)), (2, .int (nI (s))), (3, .int (nI (c + 1)))] (am_pick [1, 2, 3, 0] rfl rfl) ?_
      have ihc := ihc (fun d hd => by
        by_cases e : d = c
        · subst e
          rintro ⟨t', e1, e2, e3⟩
          rw [e0] at e1
          cases e1
          first | exact e2 c11 | exact e3 c50
        · exact hI d (by omega))
      exact ihc
    · have hgl := hG.go_lt hs e0 hc
      have hgn := hG.go_ne hs e0 hc c11
      have q1 := arcP_le (fun i hi => (hS i hi).2) (p := s / 4) (f := s % 4) (c := c) (by omega) (by omega) hc c11
      have q2 := arcP_le (fun i hi => (hS i hi).2) (p := t / 4) (f := t % 4) (c := go (4 * s + c)) (by omega) (by omega) hgl hgn
      refine as_aload_n d52_14 rfl ?_
      refine ap_get d52_15 f52_9 (by decide) rfl rfl ?_
      refine as_aload_n d52_18 rfl ?_
      refine ap_get d52_19 f52_45 (by decide) rfl rfl ?_
      refine as_iload_n d52_22 rfl ?_
      refine ap_iald d52_23 (fun _ _ _ _ => rfl) (by decide) (by omega) (by decide) ?_
      refine an_top (e' := nI (t)) (by rw [hC.2.2.1 _ (by omega), e0]; rfl) ?_
      refine as_aload_n d52_24 rfl ?_
      refine ap_get d52_25 f52_48 (by decide) rfl rfl ?_
      refine an_iconst 4 d52_28 rfl ?_
      refine as_iload_n d52_29 rfl ?_
      refine an_imul d52_30 ?_
      refine as_iload_n d52_31 rfl ?_
      refine an_iadd d52_32 ?_
      refine ap_iald d52_33 (fun _ _ _ _ => rfl) (by decide) (by omega) (by decide) ?_
      refine an_top (e' := nI (go (((4) * (s)) + (c)))) (hC.2.2.2.2 _ _ _ (by omega) e0 (by omega)) ?_
      refine ac_s3 d52_34 c52_51 (by decide) (Nat.le_of_ble_eq_true rfl) (mc_arcsAround X _ _ _ _ sh (by decide) isI178 (fun i hi => (hS i hi).1) (by omega) (by omega) (by omega)) ?_
      refine as_istore d52_37 (by decide) ?_
      refine as_aload_n d52_39 rfl ?_
      refine ap_get d52_40 f52_9 (by decide) rfl rfl ?_
      refine as_iload_n d52_43 rfl ?_
      refine as_iload_n d52_44 rfl ?_
      refine ac_s3 d52_45 c52_51 (by decide) (Nat.le_of_ble_eq_true rfl) (mc_arcsAround X _ _ _ _ sh (by decide) isI178 (fun i hi => (hS i hi).1) (by omega) (by omega) (by omega)) ?_
      refine as_iload d52_48 rfl ?_
      refine an_icmp_eq 55 d52_50 (by decide) (by omega) (by omega) (fun c50 => ?_) (fun c50 => ?_)
      · refine an_iinc 1 d52_55 rfl rfl (by decide) ?_
        refine as_goto 2 d52_58 (by decide) ?_
        refine AW.loc [(0, .ref (177)), (1, .ref (1)), (2, .int (nI (s))), (3, .int (nI (c + 1)))] (am_pick [2, 3, 4, 0] rfl rfl) ?_
        have ihc := ihc (fun d hd => by
          by_cases e : d = c
          · subst e
            rintro ⟨t', e1, e2, e3⟩
            rw [e0] at e1
            cases e1
            first | exact e2 c11 | exact e3 c50
          · exact hI d (by omega))
        exact ihc
      · have hmis : misf mt go sh s c := ⟨t, e0, c11, c50⟩
        refine an_iconst 0 d52_53 rfl ?_
        refine as_ireturn d52_54 (by rw [t52]; rfl) ?_
        refine am_req (congrArg nI ?_)
        rcases ha with ⟨q, h⟩ | ⟨q, c', hc', h⟩
        · first | exact q.symm | exact absurd hmis (h c hc)
        · first | exact q.symm | exact absurd h (hX c' hc')
  · refine as_iload_n d52_2 rfl ?_
    refine an_iconst 4 d52_3 rfl ?_
    refine an_icmp_ge 61 d52_4 (by decide) (by omega) (by omega) (fun c4 => ?_) (fun c4 => by omega)
    refine an_iconst 1 d52_61 rfl ?_
    refine as_ireturn d52_62 (by rw [t52]; rfl) ?_
    refine am_req (congrArg nI ?_)
    rcases ha with ⟨q, h⟩ | ⟨q, c', hc', h⟩
    · first | exact q.symm | exact absurd hmis (h c hc)
    · first | exact q.symm | exact absurd h (hX c' hc')
theorem Fits_less {P : Nat} {mt : Nat → Option Nat} {go : Nat → Nat} {sh : Nat → Nat} (hG : GW P mt go) (h : ∀ s, s < 4 * P → prN mt s = true → ∀ c, c < 4 → ¬ misf mt go sh s c) : Fits P mt go sh := by
  intro s hs c hc hm
  obtain ⟨t, e0, hcs, hne⟩ := hm
  obtain ⟨g1, g2, g3, g4, g5⟩ := hG.2 s hs t e0
  by_cases hst : s < t
  · exact h s hs (prN_t e0 hst) c hc ⟨t, e0, hcs, hne⟩
  · refine h t g1 (prN_t g3 (by omega)) (go (4 * s + c)) (hG.go_lt hs e0 hc) ⟨s, g3, hG.go_ne hs e0 hc hcs, ?_⟩
    rw [(g4 c hc).2]
    exact fun q => hne q.symm
/-- whether the sheet fits -/
def FiA (P : Nat) (mt : Nat → Option Nat) (go : Nat → Nat) (sh : Nat → Nat) (a : Nat) : Prop := (a = 1 ∧ Fits P mt go sh) ∨ (a = 0 ∧ ¬ Fits P mt go sh)
theorem FiA_ex (P : Nat) (mt : Nat → Option Nat) (go : Nat → Nat) (sh : Nat → Nat) : ∃ a, FiA P mt go sh a := by
  by_cases h : Fits P mt go sh
  · exact ⟨1, Or.inl ⟨rfl, h⟩⟩
  · exact ⟨0, Or.inr ⟨rfl, h⟩⟩
theorem FiA.lt {P : Nat} {mt : Nat → Option Nat} {go : Nat → Nat} {sh : Nat → Nat} {a : Nat} (h : FiA P mt go sh a) : a < 2 := by
  rcases h with h | h <;> omega
theorem mc_fits (X : am_X) (S : MS) (P : Nat) (mt : Nat → Option Nat) (go : Nat → Nat) (sh : Nat → Nat) (hG : GW P mt go) (hC : CG S P mt go) (hS : SHC S sh) (a : Nat) (ha : FiA P mt go sh a) : MC X 51 [.ref (177), .ref (1)] S (some (.int (nI a))) S := by
  have hP := hG.1
  refine MC.of (Nat.le_of_ble_eq_true rfl) ?_
  refine an_iconst 0 d51_0 rfl ?_
  refine as_istore_n d51_1 (by decide) ?_
  refine AW.loc [(0, .ref (177)), (1, .ref (1)), (2, .int (nI (0)))] (am_pick [1, 2, 0] rfl rfl) ?_
  refine aw_fromI (fun s => ((2, [(0, .ref (177)), (1, .ref (1)), (2, .int (nI (s)))], [], 208, HP (S), 0, 0) : am_Z)) (fun s => ∀ r, r < s → prN mt r = true → ∀ c, c < 4 → ¬ misf mt go sh r c) (0) (4 * P) (by omega) (rfl) (fun r hr => by omega) (fun s hs0 hs hI ihs => ?_) (fun hX => ?_)
  · refine as_iload_n d51_2 rfl ?_
    refine an_iconst 4 d51_3 rfl ?_
    refine as_aload_n d51_4 rfl ?_
    refine ap_get d51_5 f51_31 (by decide) rfl rfl ?_
    refine an_top (e' := nI (P)) (hC.1) ?_
    refine an_imul d51_8 ?_
    refine an_icmp_ge 37 d51_9 (by decide) (by omega) (by omega) (fun c9 => by omega) (fun c9 => ?_)
    refine as_aload_n d51_12 rfl ?_
    refine as_iload_n d51_13 rfl ?_
    refine ac_v1 d51_14 c51_37 (by decide) rfl (Nat.le_of_ble_eq_true rfl) (mc_isLesser X _ P mt go _ hG hC (by omega)) ?_
    refine as_if_eq 31 d51_17 (by decide) (fun c17 => ?_) (fun c17 => ?_)
    · have hnp := am_b01.mp c17
      refine an_iinc 1 d51_31 rfl rfl (by decide) ?_
      refine as_goto 2 d51_34 (by decide) ?_
      refine AW.loc [(0, .ref (177)), (1, .ref (1)), (2, .int (nI (s + 1)))] (am_pick [1, 2, 0] rfl rfl) ?_
      have ihs := ihs (fun r hr hp => by
        by_cases e : r = s
        · subst e
          first | exact hok | exact absurd hp hnp
        · exact hI r (by omega) hp)
      exact ihs
    · obtain ⟨t, e0, hst⟩ := prN_ex (am_b1 c17)
      obtain ⟨b, hb⟩ := FitA_ex mt go sh s
      have hbl := hb.lt
      refine as_aload_n d51_20 rfl ?_
      refine as_aload_n d51_21 rfl ?_
      refine as_iload_n d51_22 rfl ?_
      refine ac_v2 d51_23 c51_41 (by decide) rfl (Nat.le_of_ble_eq_true rfl) (mc_fitsAt X _ P mt go s t b sh hG hC hS hs e0 hb) ?_
      refine an_if_ne 31 d51_26 (by decide) (by omega) (fun c26 => ?_) (fun c26 => ?_)
      · have hok : ∀ c, c < 4 → ¬ misf mt go sh s c := by
          rcases hb with ⟨_, q⟩ | ⟨q, _⟩
          · exact q
          · exact absurd q c26
        refine an_iinc 1 d51_31 rfl rfl (by decide) ?_
        refine as_goto 2 d51_34 (by decide) ?_
        refine AW.loc [(0, .ref (177)), (1, .ref (1)), (2, .int (nI (s + 1)))] (am_pick [1, 2, 0] rfl rfl) ?_
        have ihs := ihs (fun r hr hp => by
          by_cases e : r = s
          · subst e
            first | exact hok | exact absurd hp hnp
          · exact hI r (by omega) hp)
        exact ihs
      · have hno : ¬ Fits P mt go sh := fun h => by
          rcases hb with ⟨q, _⟩ | ⟨_, c, hc, q⟩
          · omega
          · exact h s hs c hc q
        refine an_iconst 0 d51_29 rfl ?_
        refine as_ireturn d51_30 (by rw [t51]; rfl) ?_
        refine am_req (congrArg nI ?_)
        rcases ha with ⟨q, h⟩ | ⟨q, h⟩
        · first | exact q.symm | exact absurd h hno
        · first | exact q.symm | exact absurd (Fits_less hG hX) h
  · refine as_iload_n d51_2 rfl ?_
    refine an_iconst 4 d51_3 rfl ?_
    refine as_aload_n d51_4 rfl ?_
    refine ap_get d51_5 f51_31 (by decide) rfl rfl ?_
    refine an_top (e' := nI (P)) (hC.1) ?_
    refine an_imul d51_8 ?_
    refine an_icmp_ge 37 d51_9 (by decide) (by omega) (by omega) (fun c9 => ?_) (fun c9 => by omega)
    refine an_iconst 1 d51_37 rfl ?_
    refine as_ireturn d51_38 (by rw [t51]; rfl) ?_
    refine am_req (congrArg nI ?_)
    rcases ha with ⟨q, h⟩ | ⟨q, h⟩
    · first | exact q.symm | exact absurd h hno
    · first | exact q.symm | exact absurd (Fits_less hG hX) h
/-- a piece with two kinds of fours -/
def mxI (sh : Nat → Nat) (p : Nat) (k : Nat) : Bool := decide (sh (7 * p + (4 + k)) ≠ 0)
def mxP (sh : Nat → Nat) (p : Nat) : Prop := 1 < cnt (mxI sh p) 3
def MxA (sh : Nat → Nat) (a : Nat) : Prop := (a = 1 ∧ ∃ p, p < 3 ∧ mxP sh p) ∨ (a = 0 ∧ ∀ p, p < 3 → ¬ mxP sh p)
theorem MxA_ex (sh : Nat → Nat) : ∃ a, MxA sh a := by
  by_cases h : ∃ p, p < 3 ∧ mxP sh p
  · exact ⟨1, Or.inl ⟨rfl, h⟩⟩
  · exact ⟨0, Or.inr ⟨rfl, fun p hp g => h ⟨p, hp, g⟩⟩⟩
theorem MxA.lt {sh : Nat → Nat} {a : Nat} (h : MxA sh a) : a < 2 := by
  rcases h with h | h <;> omega
theorem mc_mixesC (X : am_X) (S : MS) (sh : Nat → Nat) (hS : SHC S sh) (a : Nat) (ha : MxA sh a) : MC X 53 [.ref (177)] S (some (.int (nI a))) S := by
  refine MC.of (Nat.le_of_ble_eq_true rfl) ?_
  refine an_iconst 0 d53_0 rfl ?_
  refine as_istore_n d53_1 (by decide) ?_
  refine AW.loc [(0, .ref (177)), (1, .int (nI (0)))] (am_pick [1, 0] rfl rfl) ?_
  refine aw_fromI (fun p => ((2, [(0, .ref (177)), (1, .int (nI (p)))], [], 208, HP (S), 0, 0) : am_Z)) (fun p => ∀ r, r < p → ¬ mxP sh r) (0) (3) (by omega) (rfl) (fun r hr => by omega) (fun p hp0 hp hI ihp => ?_) (fun hX => ?_)
  · refine as_iload_n d53_2 rfl ?_
    refine an_iconst 3 d53_3 rfl ?_
    refine an_icmp_ge 53 d53_4 (by decide) (by omega) (by omega) (fun c4 => by omega) (fun c4 => ?_)
    refine an_iconst 0 d53_7 rfl ?_
    refine as_istore_n d53_8 (by decide) ?_
    refine an_iconst 4 d53_9 rfl ?_
    refine as_istore_n d53_10 (by decide) ?_
    refine AW.loc [(0, .ref (177)), (1, .int (nI (p))), (2, .int (nI (0))), (3, .int (nI (4)))] (am_pick [2, 3, 1, 0] rfl rfl) ?_
    refine aw_for (fun q => ((11, [(0, .ref (177)), (1, .int (nI (p))), (2, .int (nI (cnt (mxI sh p) (q)))), (3, .int (nI (4 + (q))))], [], 208, HP (S), 0, 0) : am_Z)) (3) (rfl) (fun q hq ihq => ?_) ?_
    · refine as_iload_n d53_11 rfl ?_
      refine an_bipush 7 d53_12 rfl ?_
      refine an_icmp_ge 40 d53_14 (by decide) (by omega) (by omega) (fun c14 => by omega) (fun c14 => ?_)
      refine as_aload_n d53_17 rfl ?_
      refine ap_get d53_18 f53_9 (by decide) rfl rfl ?_
      refine an_bipush 7 d53_21 rfl ?_
      refine as_iload_n d53_23 rfl ?_
      refine an_imul d53_24 ?_
      refine as_iload_n d53_25 rfl ?_
      refine an_iadd d53_26 ?_
      refine ap_iald d53_27 (fun _ _ _ _ => rfl) (by decide) (by omega) (by decide) ?_
      refine an_top (e' := nI (sh (((7) * (p)) + (4 + (q))))) ((hS _ (by omega)).1) ?_
      refine an_if_eq 34 d53_28 (by decide) (by have := (hS (7 * p + (4 + q)) (by omega)).2; omega) (fun c28 => ?_) (fun c28 => ?_)
      · refine an_iinc 1 d53_34 rfl rfl (by decide) ?_
        refine as_goto 11 d53_37 (by decide) ?_
        refine AW.loc [(0, .ref (177)), (1, .int (nI (p))), (2, .int (nI (cnt (mxI sh p) (q)))), (3, .int (nI (4 + (q) + 1)))] (am_pick [1, 2, 3, 0] rfl rfl) ?_
        have e2 : cnt (mxI sh p) (q + 1) = cnt (mxI sh p) (q) := by first | exact cnt_t (decide_eq_true c28) | exact cnt_f (fun g => of_decide_eq_true g c28)
        have e3 : 4 + (q + 1) = 4 + (q) + 1 := by omega
        rw [e2, e3] at ihq
        exact ihq
      · refine an_iinc 1 d53_31 rfl rfl (by decide) ?_
        refine an_iinc 1 d53_34 rfl rfl (by decide) ?_
        refine as_goto 11 d53_37 (by decide) ?_
        refine AW.loc [(0, .ref (177)), (1, .int (nI (p))), (2, .int (nI (cnt (mxI sh p) (q) + 1))), (3, .int (nI (4 + (q) + 1)))] (am_pick [2, 3, 1, 0] rfl rfl) ?_
        have e2 : cnt (mxI sh p) (q + 1) = cnt (mxI sh p) (q) + 1 := by first | exact cnt_t (decide_eq_true c28) | exact cnt_f (fun g => of_decide_eq_true g c28)
        have e3 : 4 + (q + 1) = 4 + (q) + 1 := by omega
        rw [e2, e3] at ihq
        exact ihq
    · refine as_iload_n d53_11 rfl ?_
      refine an_bipush 7 d53_12 rfl ?_
      refine an_icmp_ge 40 d53_14 (by decide) (by omega) (by omega) (fun c14 => ?_) (fun c14 => by omega)
      refine as_iload_n d53_40 rfl ?_
      refine an_iconst 1 d53_41 rfl ?_
      refine an_icmp_le 47 d53_42 (by decide) (by have := cnt_le (mxI sh p) 3; omega) (by omega) (fun c42 => ?_) (fun c42 => ?_)
      · refine an_iinc 1 d53_47 rfl rfl (by decide) ?_
        refine as_goto 2 d53_50 (by decide) ?_
        refine AW.loc [(0, .ref (177)), (1, .int (nI (p + 1)))] (am_pick [1, 0] rfl rfl) ?_
        have ihp := ihp (fun r hr => by
          by_cases e : r = p
          · subst e; exact Nat.not_lt.mpr c42
          · exact hI r (by omega))
        exact ihp
      · have hyes : mxP sh p := c42
        refine an_iconst 1 d53_45 rfl ?_
        refine as_ireturn d53_46 (by rw [t53]; rfl) ?_
        refine am_req (congrArg nI ?_)
        rcases ha with ⟨q, p', hp', h⟩ | ⟨q, h⟩
        · first | exact q.symm | exact absurd h (hX p' hp')
        · first | exact q.symm | exact absurd hyes (h p hp)
  · refine as_iload_n d53_2 rfl ?_
    refine an_iconst 3 d53_3 rfl ?_
    refine an_icmp_ge 53 d53_4 (by decide) (by omega) (by omega) (fun c4 => ?_) (fun c4 => by omega)
    refine an_iconst 0 d53_53 rfl ?_
    refine as_ireturn d53_54 (by rw [t53]; rfl) ?_
    refine am_req (congrArg nI ?_)
    rcases ha with ⟨q, p', hp', h⟩ | ⟨q, h⟩
    · first | exact q.symm | exact absurd h (hX p' hp')
    · first | exact q.symm | exact absurd hyes (h p hp)
theorem mc_isLegalC (X : am_X) (S : MS) (P : Nat) (mt : Nat → Option Nat) (go : Nat → Nat) (sh : Nat → Nat) (hG : GW P mt go) (hC : CG S P mt go) (hS : SHC S sh) (a b : Nat) (ha : FiA P mt go sh a) (hb : MxA sh b) : MC X 50 [.ref (177), .ref (1)] S (some (.int (if a = 1 ∧ b = 0 then 1 else 0))) S := by
  have hal := ha.lt
  have hbl := hb.lt
  refine MC.of (Nat.le_of_ble_eq_true rfl) ?_
  refine as_aload_n d50_0 rfl ?_
  refine as_aload_n d50_1 rfl ?_
  refine ac_v1 d50_2 c50_23 (by decide) rfl (Nat.le_of_ble_eq_true rfl) (mc_fits X _ P mt go sh hG hC hS a ha) ?_
  refine an_if_eq 19 d50_5 (by decide) (by omega) (fun c5 => ?_) (fun c5 => ?_)
  · refine an_iconst 0 d50_19 rfl ?_
    refine as_ireturn d50_20 (by rw [t50]; rfl) ?_
    refine am_req ?_
    first | (rw [if_pos (by omega)]; rfl) | (rw [if_neg (by omega)]; rfl)
  · refine as_aload_n d50_8 rfl ?_
    refine ac_v0 d50_9 c50_27 (by decide) rfl (Nat.le_of_ble_eq_true rfl) (mc_mixesC X _ sh hS b hb) ?_
    refine an_if_ne 19 d50_12 (by decide) (by omega) (fun c12 => ?_) (fun c12 => ?_)
    · refine an_iconst 0 d50_19 rfl ?_
      refine as_ireturn d50_20 (by rw [t50]; rfl) ?_
      refine am_req ?_
      first | (rw [if_pos (by omega)]; rfl) | (rw [if_neg (by omega)]; rfl)
    · refine an_iconst 1 d50_15 rfl ?_
      refine as_goto 20 d50_16 (by decide) ?_
      refine as_ireturn d50_20 (by rw [t50]; rfl) ?_
      refine am_req ?_
      first | (rw [if_pos (by omega)]; rfl) | (rw [if_neg (by omega)]; rfl)
theorem mc_legalC (X : am_X) (S : MS) (P : Nat) (mt : Nat → Option Nat) (go : Nat → Nat) (sh : Nat → Nat) (hG : GW P mt go) (hC : CG S P mt go) (hS : SHC S sh) (a b : Nat) (ha : FiA P mt go sh a) (hb : MxA sh b) : MC X 94 [.ref (0)] S (some (.int (nI (if a = 0 then 1 else if b = 0 then 0 else 2)))) S := by
  have hal := ha.lt
  have hbl := hb.lt
  refine MC.of (Nat.le_of_ble_eq_true rfl) ?_
  refine as_aload_n d94_0 rfl ?_
  refine ap_get d94_1 f94_33 (by decide) rfl rfl ?_
  refine as_aload_n d94_4 rfl ?_
  refine ap_get d94_5 f94_10 (by decide) rfl rfl ?_
  refine ac_v1 d94_8 c94_181 (by decide) rfl (Nat.le_of_ble_eq_true rfl) (mc_fits X _ P mt go sh hG hC hS a ha) ?_
  refine an_if_ne 16 d94_11 (by decide) (by omega) (fun c11 => ?_) (fun c11 => ?_)
  · refine as_aload_n d94_16 rfl ?_
    refine ap_get d94_17 f94_33 (by decide) rfl rfl ?_
    refine ac_v0 d94_20 c94_185 (by decide) rfl (Nat.le_of_ble_eq_true rfl) (mc_mixesC X _ sh hS b hb) ?_
    refine an_if_eq 30 d94_23 (by decide) (by omega) (fun c23 => ?_) (fun c23 => ?_)
    · refine an_iconst 0 d94_30 rfl ?_
      refine as_ireturn d94_31 (by rw [t94]; rfl) ?_
      refine am_req (congrArg nI ?_)
      first | (rw [if_pos (by omega)]) | (rw [if_neg (by omega), if_pos (by omega)]) | (rw [if_neg (by omega), if_neg (by omega)])
    · refine an_iconst 2 d94_26 rfl ?_
      refine as_goto 31 d94_27 (by decide) ?_
      refine as_ireturn d94_31 (by rw [t94]; rfl) ?_
      refine am_req (congrArg nI ?_)
      first | (rw [if_pos (by omega)]) | (rw [if_neg (by omega), if_pos (by omega)]) | (rw [if_neg (by omega), if_neg (by omega)])
  · refine an_iconst 1 d94_14 rfl ?_
    refine as_ireturn d94_15 (by rw [t94]; rfl) ?_
    refine am_req (congrArg nI ?_)
    first | (rw [if_pos (by omega)]) | (rw [if_neg (by omega), if_pos (by omega)]) | (rw [if_neg (by omega), if_neg (by omega)])
theorem arO_0 {mt : Nat → Option Nat} {sh : Nat → Nat} {s : Nat} (h : ¬ sdP mt 0 s = true) : arO mt sh s = 0 := by
  have z : ∀ c, arI mt sh s c = 0 := fun c => if_neg (fun g => h g.2)
  show fsum (arI mt sh s) 4 = 0
  simp [fsum, z]
noncomputable def ptC (P : Nat) (mt : Nat → Option Nat) (go : Nat → Nat) (sh : Nat → Nat) : Nat := fsum (fun m => if fs (EJ P mt go) m = true then fsum (ptI sh m) 7 else 0) (6 * P)
theorem mc_points (X : am_X) (S : MS) (P : Nat) (mt : Nat → Option Nat) (go : Nat → Nat) (sh : Nat → Nat) (hG : GW P mt go) (hD : SD S P mt go) (hS : SHC S sh) : MC X 55 [.ref (177), .ref (1)] S (some (.int (nI (ptC P mt go sh)))) S := by
  have hP := hG.1
  have hcl := cnt_le (fs (EJ P mt go)) (6 * P)
  refine MC.of (Nat.le_of_ble_eq_true rfl) ?_
  refine an_iconst 0 d55_0 rfl ?_
  refine as_istore_n d55_1 (by decide) ?_
  refine an_iconst 0 d55_2 rfl ?_
  refine as_istore_n d55_3 (by decide) ?_
  refine AW.loc [(0, .ref (177)), (1, .ref (1)), (2, .int (nI (0))), (3, .int (nI (0)))] (am_pick [2, 3, 1, 0] rfl rfl) ?_
  refine aw_for (fun e => ((4, [(0, .ref (177)), (1, .ref (1)), (2, .int (nI (fsum (fun e => fsum (ptI sh (nth (fs (EJ P mt go)) e)) 7) (e)))), (3, .int (nI (e)))], [], 208, HP (S), 0, 0) : am_Z)) (cnt (fs (EJ P mt go)) (6 * P)) (rfl) (fun e he ihe => ?_) ?_
  · obtain ⟨n1, n2, n3⟩ := nth_spec he
    have hg3 := hD.2.2.1.2.2 _ n1 n2
    have hfst : S.2.1 15 e = nI (nth (fs (EJ P mt go)) e) := by
      have q := hg3.1
      rw [n3] at q
      exact q
    refine as_iload_n d55_4 rfl ?_
    refine as_aload_n d55_5 rfl ?_
    refine ap_get d55_6 f55_66 (by decide) rfl rfl ?_
    refine ap_get d55_9 f55_70 (by decide) rfl rfl ?_
    refine an_top (e' := nI (cnt (fs (EJ P mt go)) (6 * P))) (hD.2.2.1.1) ?_
    refine an_icmp_ge 80 d55_12 (by decide) (by omega) (by omega) (fun c12 => by omega) (fun c12 => ?_)
    refine as_aload_n d55_15 rfl ?_
    refine ap_get d55_16 f55_66 (by decide) rfl rfl ?_
    refine ap_get d55_19 f55_75 (by decide) rfl rfl ?_
    refine as_iload_n d55_22 rfl ?_
    refine ap_iald d55_23 (fun _ _ _ _ => rfl) (by decide) (by omega) (by decide) ?_
    refine an_top (e' := nI (nth (fs (EJ P mt go)) e)) (hfst) ?_
    refine as_istore d55_24 (by decide) ?_
    refine an_iconst 0 d55_26 rfl ?_
    refine as_istore d55_27 (by decide) ?_
    refine AW.loc [(0, .ref (177)), (1, .ref (1)), (2, .int (nI (fsum (fun e => fsum (ptI sh (nth (fs (EJ P mt go)) e)) 7) (e)))), (3, .int (nI (e))), (4, .int (nI (nth (fs (EJ P mt go)) e))), (5, .int (nI (0)))] (am_pick [2, 3, 4, 5, 1, 0] rfl rfl) ?_
    refine aw_for (fun q => ((29, [(0, .ref (177)), (1, .ref (1)), (2, .int (nI (fsum (fun e => fsum (ptI sh (nth (fs (EJ P mt go)) e)) 7) e + fsum (ptI sh (nth (fs (EJ P mt go)) e)) (q)))), (3, .int (nI (e))), (4, .int (nI (nth (fs (EJ P mt go)) e))), (5, .int (nI (q)))], [], 208, HP (S), 0, 0) : am_Z)) (7) (rfl) (fun q hq ihq => ?_) ?_
    · refine as_iload d55_29 rfl ?_
      refine an_bipush 7 d55_31 rfl ?_
      refine an_icmp_ge 74 d55_33 (by decide) (by omega) (by omega) (fun c33 => by omega) (fun c33 => ?_)
      refine as_iload d55_36 rfl ?_
      refine as_iload d55_38 rfl ?_
      refine an_bipush 6 d55_40 rfl ?_
      refine an_irem d55_42 (by omega) (by omega) (by omega) ?_
      refine ac_s2 d55_43 c55_78 (by decide) (Nat.le_of_ble_eq_true rfl) (mc_meetsC X _ _ _ (by omega) (by omega)) ?_
      refine as_if_eq 68 d55_46 (by decide) (fun c46 => ?_) (fun c46 => ?_)
      · refine an_iinc 1 d55_68 rfl rfl (by decide) ?_
        refine as_goto 29 d55_71 (by decide) ?_
        refine AW.loc [(0, .ref (177)), (1, .ref (1)), (2, .int (nI (fsum (fun e => fsum (ptI sh (nth (fs (EJ P mt go)) e)) 7) e + fsum (ptI sh (nth (fs (EJ P mt go)) e)) (q)))), (3, .int (nI (e))), (4, .int (nI (nth (fs (EJ P mt go)) e))), (5, .int (nI (q + 1)))] (am_pick [1, 2, 3, 4, 5, 0] rfl rfl) ?_
        have e2 : fsum (fun e => fsum (ptI sh (nth (fs (EJ P mt go)) e)) 7) e + fsum (ptI sh (nth (fs (EJ P mt go)) e)) (q + 1) = fsum (fun e => fsum (ptI sh (nth (fs (EJ P mt go)) e)) 7) e + fsum (ptI sh (nth (fs (EJ P mt go)) e)) (q) := by first | exact fs_a (ptI_t (am_b1 c46)) | exact fs_a (ptI_f (am_b01.mp c46))
        rw [e2] at ihq
        exact ihq
      · refine as_iload_n d55_49 rfl ?_
        refine as_aload_n d55_50 rfl ?_
        refine ap_get d55_51 f55_9 (by decide) rfl rfl ?_
        refine an_bipush 7 d55_54 rfl ?_
        refine as_iload d55_56 rfl ?_
        refine an_bipush 6 d55_58 rfl ?_
        refine an_idiv d55_60 (by omega) (by omega) (by omega) ?_
        refine an_imul d55_61 ?_
        refine as_iload d55_62 rfl ?_
        refine an_iadd d55_64 ?_
        refine ap_iald d55_65 (fun _ _ _ _ => rfl) (by decide) (by omega) (by decide) ?_
        refine an_top (e' := nI (sh (((7) * ((nth (fs (EJ P mt go)) e) / (6))) + (q)))) ((hS _ (by omega)).1) ?_
        refine an_iadd d55_66 ?_
        refine as_istore_n d55_67 (by decide) ?_
        refine an_iinc 1 d55_68 rfl rfl (by decide) ?_
        refine as_goto 29 d55_71 (by decide) ?_
        refine AW.loc [(0, .ref (177)), (1, .ref (1)), (2, .int (nI ((fsum (fun e => fsum (ptI sh (nth (fs (EJ P mt go)) e)) 7) e + fsum (ptI sh (nth (fs (EJ P mt go)) e)) (q)) + (sh (((7) * ((nth (fs (EJ P mt go)) e) / (6))) + (q)))))), (3, .int (nI (e))), (4, .int (nI (nth (fs (EJ P mt go)) e))), (5, .int (nI (q + 1)))] (am_pick [2, 3, 1, 4, 5, 0] rfl rfl) ?_
        have e2 : fsum (fun e => fsum (ptI sh (nth (fs (EJ P mt go)) e)) 7) e + fsum (ptI sh (nth (fs (EJ P mt go)) e)) (q + 1) = (fsum (fun e => fsum (ptI sh (nth (fs (EJ P mt go)) e)) 7) e + fsum (ptI sh (nth (fs (EJ P mt go)) e)) (q)) + (sh (((7) * ((nth (fs (EJ P mt go)) e) / (6))) + (q))) := by first | exact fs_a (ptI_t (am_b1 c46)) | exact fs_a (ptI_f (am_b01.mp c46))
        rw [e2] at ihq
        exact ihq
    · refine as_iload d55_29 rfl ?_
      refine an_bipush 7 d55_31 rfl ?_
      refine an_icmp_ge 74 d55_33 (by decide) (by omega) (by omega) (fun c33 => ?_) (fun c33 => by omega)
      refine an_iinc 1 d55_74 rfl rfl (by decide) ?_
      refine as_goto 4 d55_77 (by decide) ?_
      refine AW.loc [(0, .ref (177)), (1, .ref (1)), (2, .int (nI (fsum (fun e => fsum (ptI sh (nth (fs (EJ P mt go)) e)) 7) e + fsum (ptI sh (nth (fs (EJ P mt go)) e)) ((7))))), (3, .int (nI (e + 1)))] (am_pick [1, 2, 3, 0] rfl rfl) ?_
      have e2 : fsum (fun e => fsum (ptI sh (nth (fs (EJ P mt go)) e)) 7) (e + 1) = fsum (fun e => fsum (ptI sh (nth (fs (EJ P mt go)) e)) 7) e + fsum (ptI sh (nth (fs (EJ P mt go)) e)) ((7)) := by rfl
      rw [e2] at ihe
      exact ihe
  · refine as_iload_n d55_4 rfl ?_
    refine as_aload_n d55_5 rfl ?_
    refine ap_get d55_6 f55_66 (by decide) rfl rfl ?_
    refine ap_get d55_9 f55_70 (by decide) rfl rfl ?_
    refine an_top (e' := nI (cnt (fs (EJ P mt go)) (6 * P))) (hD.2.2.1.1) ?_
    refine an_icmp_ge 80 d55_12 (by decide) (by omega) (by omega) (fun c12 => ?_) (fun c12 => by omega)
    refine as_iload_n d55_80 rfl ?_
    refine as_ireturn d55_81 (by rw [t55]; rfl) ?_
    refine am_req (congrArg nI ?_)
    exact fsum_nth (fs (EJ P mt go)) (fun m => fsum (ptI sh m) 7) (6 * P)
theorem mc_arcsC (X : am_X) (S : MS) (P : Nat) (mt : Nat → Option Nat) (go : Nat → Nat) (sh : Nat → Nat) (hG : GW P mt go) (hD : SD S P mt go) (hS : SHC S sh) : MC X 56 [.ref (177), .ref (1)] S (some (.int (nI (fsum (arO mt sh) (4 * P))))) S := by
  have hP := hG.1
  refine MC.of (Nat.le_of_ble_eq_true rfl) ?_
  refine an_iconst 0 d56_0 rfl ?_
  refine as_istore_n d56_1 (by decide) ?_
  refine an_iconst 0 d56_2 rfl ?_
  refine as_istore_n d56_3 (by decide) ?_
  refine AW.loc [(0, .ref (177)), (1, .ref (1)), (2, .int (nI (0))), (3, .int (nI (0)))] (am_pick [2, 3, 1, 0] rfl rfl) ?_
  refine aw_for (fun s => ((4, [(0, .ref (177)), (1, .ref (1)), (2, .int (nI (fsum (arO mt sh) (s)))), (3, .int (nI (s)))], [], 208, HP (S), 0, 0) : am_Z)) (4 * P) (rfl) (fun s hs ihs => ?_) ?_
  · refine as_iload_n d56_4 rfl ?_
    refine an_iconst 4 d56_5 rfl ?_
    refine as_aload_n d56_6 rfl ?_
    refine ap_get d56_7 f56_31 (by decide) rfl rfl ?_
    refine an_top (e' := nI (P)) (hD.1.1) ?_
    refine an_imul d56_10 ?_
    refine an_icmp_ge 84 d56_11 (by decide) (by omega) (by omega) (fun c11 => by omega) (fun c11 => ?_)
    by_cases hsd : sdP mt 0 s = true
    · have hfs := fs_eq (f := arO mt sh) (n := s) rfl
      refine as_aload_n d56_14 rfl ?_
      refine as_iload_n d56_15 rfl ?_
      refine ac_v1 d56_16 c56_82 (by decide) rfl (Nat.le_of_ble_eq_true rfl) (mc_isGlued X _ P mt go _ hG hD.1 (by omega)) ?_
      refine as_if_eq 30 d56_19 (by decide) (fun c19 => ?_) (fun c19 => ?_)
      · refine an_iconst 1 d56_30 rfl ?_
        refine as_goto 35 d56_31 (by decide) ?_
        refine as_istore d56_35 (by decide) ?_
        refine an_iconst 0 d56_37 rfl ?_
        refine as_istore d56_38 (by decide) ?_
        refine AW.loc [(0, .ref (177)), (1, .ref (1)), (2, .int (nI (fsum (arO mt sh) (s)))), (3, .int (nI (s))), (4, .int (nI (1))), (5, .int (nI (0)))] (am_pick [2, 3, 4, 5, 1, 0] rfl rfl) ?_
        refine aw_for (fun c => ((40, [(0, .ref (177)), (1, .ref (1)), (2, .int (nI (fsum (arO mt sh) s + fsum (arI mt sh s) (c)))), (3, .int (nI (s))), (4, .int (nI (1))), (5, .int (nI (c)))], [], 208, HP (S), 0, 0) : am_Z)) (4) (rfl) (fun c hc ihc => ?_) ?_
        · refine as_iload d56_40 rfl ?_
          refine an_iconst 4 d56_42 rfl ?_
          refine an_icmp_ge 78 d56_43 (by decide) (by omega) (by omega) (fun c43 => by omega) (fun c43 => ?_)
          refine as_iload d56_46 rfl ?_
          refine an_if_eq 78 d56_48 (by decide) (by omega) (fun c48 => absurd c48 (by decide)) (fun c48 => ?_)
          refine as_iload d56_51 rfl ?_
          refine as_iload_n d56_53 rfl ?_
          refine an_iconst 4 d56_54 rfl ?_
          refine an_irem d56_55 (by omega) (by omega) (by omega) ?_
          refine an_icmp_eq 72 d56_56 (by decide) (by omega) (by omega) (fun c56 => ?_) (fun c56 => ?_)
          · refine an_iinc 1 d56_72 rfl rfl (by decide) ?_
            refine as_goto 40 d56_75 (by decide) ?_
            refine AW.loc [(0, .ref (177)), (1, .ref (1)), (2, .int (nI (fsum (arO mt sh) s + fsum (arI mt sh s) (c)))), (3, .int (nI (s))), (4, .int (nI (1))), (5, .int (nI (c + 1)))] (am_pick [1, 2, 3, 4, 5, 0] rfl rfl) ?_
            have e2 : fsum (arO mt sh) s + fsum (arI mt sh s) (c + 1) = fsum (arO mt sh) s + fsum (arI mt sh s) (c) := by first | exact fs_a (arI_0 c56) | exact fs_a (if_pos ⟨c56, hsd⟩)
            rw [e2] at ihc
            exact ihc
          · refine as_iload_n d56_59 rfl ?_
            refine as_aload_n d56_60 rfl ?_
            refine ap_get d56_61 f56_9 (by decide) rfl rfl ?_
            refine as_iload_n d56_64 rfl ?_
            refine as_iload d56_65 rfl ?_
            refine ac_s3 d56_67 c56_51 (by decide) (Nat.le_of_ble_eq_true rfl) (mc_arcsAround X _ _ _ _ sh (by decide) isI178 (fun i hi => (hS i hi).1) (by omega) (by omega) (by omega)) ?_
            refine an_iadd d56_70 ?_
            refine as_istore_n d56_71 (by decide) ?_
            refine an_iinc 1 d56_72 rfl rfl (by decide) ?_
            refine as_goto 40 d56_75 (by decide) ?_
            refine AW.loc [(0, .ref (177)), (1, .ref (1)), (2, .int (nI ((fsum (arO mt sh) s + fsum (arI mt sh s) (c)) + (arcP sh ((s) / 4) ((s) % 4) (c))))), (3, .int (nI (s))), (4, .int (nI (1))), (5, .int (nI (c + 1)))] (am_pick [2, 3, 1, 4, 5, 0] rfl rfl) ?_
            have e2 : fsum (arO mt sh) s + fsum (arI mt sh s) (c + 1) = (fsum (arO mt sh) s + fsum (arI mt sh s) (c)) + (arcP sh ((s) / 4) ((s) % 4) (c)) := by first | exact fs_a (arI_0 c56) | exact fs_a (if_pos ⟨c56, hsd⟩)
            rw [e2] at ihc
            exact ihc
        · refine as_iload d56_40 rfl ?_
          refine an_iconst 4 d56_42 rfl ?_
          refine an_icmp_ge 78 d56_43 (by decide) (by omega) (by omega) (fun c43 => ?_) (fun c43 => by omega)
          refine an_iinc 1 d56_78 rfl rfl (by decide) ?_
          refine as_goto 4 d56_81 (by decide) ?_
          refine AW.loc [(0, .ref (177)), (1, .ref (1)), (2, .int (nI (fsum (arO mt sh) s + fsum (arI mt sh s) ((4))))), (3, .int (nI (s + 1)))] (am_pick [1, 2, 3, 0] rfl rfl) ?_
          have e2 : fsum (arO mt sh) (s + 1) = fsum (arO mt sh) s + fsum (arI mt sh s) ((4)) := by exact hfs
          rw [e2] at ihs
          exact ihs
      · have hnn := (sdP0_iff.mp hsd).resolve_left (fun q => c19 (by rw [if_pos q]))
        refine as_aload_n d56_22 rfl ?_
        refine as_iload_n d56_23 rfl ?_
        refine ac_v1 d56_24 c56_37 (by decide) rfl (Nat.le_of_ble_eq_true rfl) (mc_isLesser X _ P mt go _ hG hD.1 (by omega)) ?_
        refine as_if_eq 34 d56_27 (by decide) (fun c27 => absurd hnn (am_b01.mp c27)) (fun c27 => ?_)
        refine an_iconst 1 d56_30 rfl ?_
        refine as_goto 35 d56_31 (by decide) ?_
        refine as_istore d56_35 (by decide) ?_
        refine an_iconst 0 d56_37 rfl ?_
        refine as_istore d56_38 (by decide) ?_
        refine AW.loc [(0, .ref (177)), (1, .ref (1)), (2, .int (nI (fsum (arO mt sh) (s)))), (3, .int (nI (s))), (4, .int (nI (1))), (5, .int (nI (0)))] (am_pick [2, 3, 4, 5, 1, 0] rfl rfl) ?_
        refine aw_for (fun c => ((40, [(0, .ref (177)), (1, .ref (1)), (2, .int (nI (fsum (arO mt sh) s + fsum (arI mt sh s) (c)))), (3, .int (nI (s))), (4, .int (nI (1))), (5, .int (nI (c)))], [], 208, HP (S), 0, 0) : am_Z)) (4) (rfl) (fun c hc ihc => ?_) ?_
        · refine as_iload d56_40 rfl ?_
          refine an_iconst 4 d56_42 rfl ?_
          refine an_icmp_ge 78 d56_43 (by decide) (by omega) (by omega) (fun c43 => by omega) (fun c43 => ?_)
          refine as_iload d56_46 rfl ?_
          refine an_if_eq 78 d56_48 (by decide) (by omega) (fun c48 => absurd c48 (by decide)) (fun c48 => ?_)
          refine as_iload d56_51 rfl ?_
          refine as_iload_n d56_53 rfl ?_
          refine an_iconst 4 d56_54 rfl ?_
          refine an_irem d56_55 (by omega) (by omega) (by omega) ?_
          refine an_icmp_eq 72 d56_56 (by decide) (by omega) (by omega) (fun c56 => ?_) (fun c56 => ?_)
          · refine an_iinc 1 d56_72 rfl rfl (by decide) ?_
            refine as_goto 40 d56_75 (by decide) ?_
            refine AW.loc [(0, .ref (177)), (1, .ref (1)), (2, .int (nI (fsum (arO mt sh) s + fsum (arI mt sh s) (c)))), (3, .int (nI (s))), (4, .int (nI (1))), (5, .int (nI (c + 1)))] (am_pick [1, 2, 3, 4, 5, 0] rfl rfl) ?_
            have e2 : fsum (arO mt sh) s + fsum (arI mt sh s) (c + 1) = fsum (arO mt sh) s + fsum (arI mt sh s) (c) := by first | exact fs_a (arI_0 c56) | exact fs_a (if_pos ⟨c56, hsd⟩)
            rw [e2] at ihc
            exact ihc
          · refine as_iload_n d56_59 rfl ?_
            refine as_aload_n d56_60 rfl ?_
            refine ap_get d56_61 f56_9 (by decide) rfl rfl ?_
            refine as_iload_n d56_64 rfl ?_
            refine as_iload d56_65 rfl ?_
            refine ac_s3 d56_67 c56_51 (by decide) (Nat.le_of_ble_eq_true rfl) (mc_arcsAround X _ _ _ _ sh (by decide) isI178 (fun i hi => (hS i hi).1) (by omega) (by omega) (by omega)) ?_
            refine an_iadd d56_70 ?_
            refine as_istore_n d56_71 (by decide) ?_
            refine an_iinc 1 d56_72 rfl rfl (by decide) ?_
            refine as_goto 40 d56_75 (by decide) ?_
            refine AW.loc [(0, .ref (177)), (1, .ref (1)), (2, .int (nI ((fsum (arO mt sh) s + fsum (arI mt sh s) (c)) + (arcP sh ((s) / 4) ((s) % 4) (c))))), (3, .int (nI (s))), (4, .int (nI (1))), (5, .int (nI (c + 1)))] (am_pick [2, 3, 1, 4, 5, 0] rfl rfl) ?_
            have e2 : fsum (arO mt sh) s + fsum (arI mt sh s) (c + 1) = (fsum (arO mt sh) s + fsum (arI mt sh s) (c)) + (arcP sh ((s) / 4) ((s) % 4) (c)) := by first | exact fs_a (arI_0 c56) | exact fs_a (if_pos ⟨c56, hsd⟩)
            rw [e2] at ihc
            exact ihc
        · refine as_iload d56_40 rfl ?_
          refine an_iconst 4 d56_42 rfl ?_
          refine an_icmp_ge 78 d56_43 (by decide) (by omega) (by omega) (fun c43 => ?_) (fun c43 => by omega)
          refine an_iinc 1 d56_78 rfl rfl (by decide) ?_
          refine as_goto 4 d56_81 (by decide) ?_
          refine AW.loc [(0, .ref (177)), (1, .ref (1)), (2, .int (nI (fsum (arO mt sh) s + fsum (arI mt sh s) ((4))))), (3, .int (nI (s + 1)))] (am_pick [1, 2, 3, 0] rfl rfl) ?_
          have e2 : fsum (arO mt sh) (s + 1) = fsum (arO mt sh) s + fsum (arI mt sh s) ((4)) := by exact hfs
          rw [e2] at ihs
          exact ihs
    · have hfs : fsum (arO mt sh) (s + 1) = fsum (arO mt sh) s := fs_eq (arO_0 hsd)
      refine as_aload_n d56_14 rfl ?_
      refine as_iload_n d56_15 rfl ?_
      refine ac_v1 d56_16 c56_82 (by decide) rfl (Nat.le_of_ble_eq_true rfl) (mc_isGlued X _ P mt go _ hG hD.1 (by omega)) ?_
      refine as_if_eq 30 d56_19 (by decide) (fun c19 => ?_) (fun c19 => ?_)
      · exact absurd (sdP0_iff.mpr (Or.inl (Classical.byContradiction (fun q => by rw [if_neg q] at c19; cases c19)))) hsd
      · refine as_aload_n d56_22 rfl ?_
        refine as_iload_n d56_23 rfl ?_
        refine ac_v1 d56_24 c56_37 (by decide) rfl (Nat.le_of_ble_eq_true rfl) (mc_isLesser X _ P mt go _ hG hD.1 (by omega)) ?_
        refine as_if_eq 34 d56_27 (by decide) (fun c27 => ?_) (fun c27 => absurd (sdP0_iff.mpr (Or.inr (am_b1 c27))) hsd)
        refine an_iconst 0 d56_34 rfl ?_
        refine as_istore d56_35 (by decide) ?_
        refine an_iconst 0 d56_37 rfl ?_
        refine as_istore d56_38 (by decide) ?_
        refine as_iload d56_40 rfl ?_
        refine an_iconst 4 d56_42 rfl ?_
        refine an_icmp_ge 78 d56_43 (by decide) (by omega) (by omega) (fun c43 => ?_) (fun c43 => ?_)
        · refine an_iinc 1 d56_78 rfl rfl (by decide) ?_
          refine as_goto 4 d56_81 (by decide) ?_
          refine AW.loc [(0, .ref (177)), (1, .ref (1)), (2, .int (nI (fsum (arO mt sh) (s)))), (3, .int (nI (s + 1)))] (am_pick [3, 4, 5, 0] rfl rfl) ?_
          have e2 : fsum (arO mt sh) (s + 1) = fsum (arO mt sh) (s) := by exact hfs
          rw [e2] at ihs
          exact ihs
        · refine as_iload d56_46 rfl ?_
          refine an_if_eq 78 d56_48 (by decide) (by omega) (fun c48 => ?_) (fun c48 => absurd c48 (by decide))
          refine an_iinc 1 d56_78 rfl rfl (by decide) ?_
          refine as_goto 4 d56_81 (by decide) ?_
          refine AW.loc [(0, .ref (177)), (1, .ref (1)), (2, .int (nI (fsum (arO mt sh) (s)))), (3, .int (nI (s + 1)))] (am_pick [3, 4, 5, 0] rfl rfl) ?_
          have e2 : fsum (arO mt sh) (s + 1) = fsum (arO mt sh) (s) := by exact hfs
          rw [e2] at ihs
          exact ihs
  · refine as_iload_n d56_4 rfl ?_
    refine an_iconst 4 d56_5 rfl ?_
    refine as_aload_n d56_6 rfl ?_
    refine ap_get d56_7 f56_31 (by decide) rfl rfl ?_
    refine an_top (e' := nI (P)) (hD.1.1) ?_
    refine an_imul d56_10 ?_
    refine an_icmp_ge 84 d56_11 (by decide) (by omega) (by omega) (fun c11 => ?_) (fun c11 => by omega)
    refine as_iload_n d56_84 rfl ?_
    refine as_ireturn d56_85 (by rw [t56]; rfl) ?_
    rfl
noncomputable def eulC (P : Nat) (mt : Nat → Option Nat) (go : Nat → Nat) (sh : Nat → Nat) : Int32 := nI (ptC P mt go sh) - nI (fsum (arO mt sh) (4 * P)) + nI (fsum sh 21)
theorem mc_eulerN2 (X : am_X) (S : MS) (P : Nat) (mt : Nat → Option Nat) (go : Nat → Nat) (sh : Nat → Nat) (hG : GW P mt go) (hD : SD S P mt go) (hS : SHC S sh) : MC X 54 [.ref (177), .ref (1)] S (some (.int (eulC P mt go sh))) S := by
  refine MC.of (Nat.le_of_ble_eq_true rfl) ?_
  refine as_aload_n d54_0 rfl ?_
  refine as_aload_n d54_1 rfl ?_
  refine ac_v1 d54_2 c54_55 (by decide) rfl (Nat.le_of_ble_eq_true rfl) (mc_points X _ P mt go sh hG hD hS) ?_
  refine as_aload_n d54_5 rfl ?_
  refine as_aload_n d54_6 rfl ?_
  refine ac_v1 d54_7 c54_59 (by decide) rfl (Nat.le_of_ble_eq_true rfl) (mc_arcsC X _ P mt go sh hG hD hS) ?_
  refine as_isub d54_10 ?_
  refine as_aload_n d54_11 rfl ?_
  refine ac_v0 d54_12 c54_62 (by decide) rfl (Nat.le_of_ble_eq_true rfl) (mc_cutCount X _ sh hS) ?_
  refine as_iadd d54_15 ?_
  refine as_ireturn d54_16 (by rw [t54]; rfl) ?_
  rfl
theorem mc_eulerT (X : am_X) (S : MS) (P : Nat) (mt : Nat → Option Nat) (go : Nat → Nat) (sh : Nat → Nat) (hG : GW P mt go) (hD : SD S P mt go) (hS : SHC S sh) (a b : Nat) (ha : FiA P mt go sh a) (hb : MxA sh b) : MC X 95 [.ref (0)] S (some (.int (if a = 1 ∧ b = 0 then eulC P mt go sh else -2147483648))) S := by
  refine MC.of (Nat.le_of_ble_eq_true rfl) ?_
  refine as_aload_n d95_0 rfl ?_
  refine ap_get d95_1 f95_33 (by decide) rfl rfl ?_
  refine as_aload_n d95_4 rfl ?_
  refine ap_get d95_5 f95_10 (by decide) rfl rfl ?_
  refine ac_v1 d95_8 c95_188 (by decide) rfl (Nat.le_of_ble_eq_true rfl) (mc_isLegalC X _ P mt go sh hG hD.1 hS a b ha hb) ?_
  refine as_if_eq 28 d95_11 (by decide) (fun c11 => ?_) (fun c11 => ?_)
  · refine as_ldc (v := (-2147483648)) d95_28 (by decide +kernel) ?_
    refine as_ireturn d95_30 (by rw [t95]; rfl) ?_
    refine am_req ?_
    first | (rw [if_pos (am_b1 c11)]) | (rw [if_neg (am_b01.mp c11)])
  · refine as_aload_n d95_14 rfl ?_
    refine ap_get d95_15 f95_33 (by decide) rfl rfl ?_
    refine as_aload_n d95_18 rfl ?_
    refine ap_get d95_19 f95_10 (by decide) rfl rfl ?_
    refine ac_v1 d95_22 c95_191 (by decide) rfl (Nat.le_of_ble_eq_true rfl) (mc_eulerN2 X _ P mt go sh hG hD hS) ?_
    refine as_goto 30 d95_25 (by decide) ?_
    refine as_ireturn d95_30 (by rw [t95]; rfl) ?_
    refine am_req ?_
    first | (rw [if_pos (am_b1 c11)]) | (rw [if_neg (am_b01.mp c11)])
theorem mc_putB (X : am_X) (S : MS) (P : Nat) (hp : S.1 1 0 = nI P) (i v : Int32) (h : ¬ putOk P i v) : MC X 91 [.ref (0), .int (i), .int (v)] S (some (.int (-2))) S := by
  refine MC.of (Nat.le_of_ble_eq_true rfl) ?_
  refine as_aload_n d91_0 rfl ?_
  refine as_iload_n d91_1 rfl ?_
  refine ac_v1 d91_2 c91_161 (by decide) rfl (Nat.le_of_ble_eq_true rfl) (mc_hasNumber X _ P hp _) ?_
  refine as_if_eq 19 d91_5 (by decide) (fun c5 => ?_) (fun c5 => ?_)
  · refine an_bipushI (-2) d91_19 rfl ?_
    refine as_ireturn d91_21 (by rw [t91]; rfl) ?_
    rfl
  · refine as_iload_n d91_8 rfl ?_
    refine as_if_lt 19 d91_9 (by decide) (fun c9 => ?_) (fun c9 => ?_)
    · refine an_bipushI (-2) d91_19 rfl ?_
      refine as_ireturn d91_21 (by rw [t91]; rfl) ?_
      rfl
    · refine as_iload_n d91_12 rfl ?_
      refine an_sipush 1000 d91_13 rfl ?_
      refine as_icmp_le 22 d91_16 (by decide) (fun c16 => absurd ⟨am_b1 c5, i32_le c9, c16⟩ h) (fun c16 => ?_)
      refine an_bipushI (-2) d91_19 rfl ?_
      refine as_ireturn d91_21 (by rw [t91]; rfl) ?_
      rfl
theorem mc_putY (X : am_X) (S : MS) (P i v : Nat) (sh : Nat → Nat) (hP : P ≤ 3) (hp : S.1 1 0 = nI P) (hS : SHC S sh) (hi : i < 7 * P) (hv : v ≤ 1000) : MC X 91 [.ref (0), .int (nI (i)), .int (nI (v))] S (some (.int (nI (sh i)))) ((S.sa 178 i (nI v)).sf 0 6 (nI 1)) := by
  refine MC.of (Nat.le_of_ble_eq_true rfl) ?_
  refine as_aload_n d91_0 rfl ?_
  refine as_iload_n d91_1 rfl ?_
  refine ac_v1 d91_2 c91_161 (by decide) rfl (Nat.le_of_ble_eq_true rfl) (mc_hasNumber X _ P hp _) ?_
  refine as_if_eq 19 d91_5 (by decide) (fun c5 => absurd (show isNm P (nI i) from ⟨nI_pos' (by omega), nI_lt hi (by omega)⟩) (am_b01.mp c5)) (fun c5 => ?_)
  refine as_iload_n d91_8 rfl ?_
  refine as_if_lt 19 d91_9 (by decide) (fun c9 => absurd c9 (nI_pos (by omega))) (fun c9 => ?_)
  refine as_iload_n d91_12 rfl ?_
  refine an_sipush 1000 d91_13 rfl ?_
  refine an_icmp_le 22 d91_16 (by decide) (by omega) (by omega) (fun c16 => ?_) (fun c16 => by omega)
  refine as_aload_n d91_22 rfl ?_
  refine ap_get d91_23 f91_33 (by decide) rfl rfl ?_
  refine ap_get d91_26 f91_168 (by decide) rfl rfl ?_
  refine as_iload_n d91_29 rfl ?_
  refine ap_iald d91_30 (fun _ _ _ _ => rfl) (by decide) (by omega) (by decide) ?_
  refine an_top (e' := nI (sh (i))) ((hS _ (by omega)).1) ?_
  refine as_istore_n d91_31 (by decide) ?_
  refine as_aload_n d91_32 rfl ?_
  refine ap_get d91_33 f91_33 (by decide) rfl rfl ?_
  refine ap_get d91_36 f91_168 (by decide) rfl rfl ?_
  refine as_iload_n d91_39 rfl ?_
  refine as_iload_n d91_40 rfl ?_
  refine ap_iast d91_41 (fun _ _ _ _ => rfl) (by decide) (by omega) (by decide) ?_
  refine as_aload_n d91_42 rfl ?_
  refine an_iconst 1 d91_43 rfl ?_
  refine ap_put d91_44 f91_48 (by decide) rfl (Nat.le_of_ble_eq_true rfl) (rfl) rfl rfl ?_
  refine as_iload_n d91_47 rfl ?_
  refine as_ireturn d91_48 (by rw [t91]; rfl) ?_
  rfl
theorem mc_dropC (X : am_X) (S : MS) (sh : Nat → Nat) (hS : SHC S sh) : MC X 93 [.ref (0)] S (some (.int (nI (cnt (fun i => decide (sh i ≠ 0)) 21)))) ((sRow S 178 0 (fun _ => nI 0) 21).sf 0 6 (nI 1)) := by
  refine MC.of (Nat.le_of_ble_eq_true rfl) ?_
  refine as_aload_n d93_0 rfl ?_
  refine ap_get d93_1 f93_33 (by decide) rfl rfl ?_
  refine ac_v0 d93_4 c93_178 (by decide) rfl (Nat.le_of_ble_eq_true rfl) (mc_notZero X _ sh hS) ?_
  refine as_istore_n d93_7 (by decide) ?_
  refine as_aload_n d93_8 rfl ?_
  refine ap_get d93_9 f93_33 (by decide) rfl rfl ?_
  refine ac_v0 d93_12 c93_58 (by decide) rfl (Nat.le_of_ble_eq_true rfl) (mc_wipe X _) ?_
  refine as_aload_n d93_15 rfl ?_
  refine an_iconst 1 d93_16 rfl ?_
  refine ap_put d93_17 f93_48 (by decide) rfl (Nat.le_of_ble_eq_true rfl) (rfl) rfl rfl ?_
  refine as_iload_n d93_20 rfl ?_
  refine as_ireturn d93_21 (by rw [t93]; rfl) ?_
  rfl
