/-! the class: links, whole -/
noncomputable def nth (p : Nat → Bool) (e : Nat) : Nat := @dite _ (∃ m, p m = true ∧ cnt p m = e) (Classical.propDecidable _) (fun h => Classical.choose h) (fun _ => 0)
theorem cnt_inj {p : Nat → Bool} {m m' : Nat} (h : p m = true) (h' : p m' = true) (e : cnt p m = cnt p m') : m = m' := by
  rcases Nat.lt_trichotomy m m' with g | g | g
  · have := cnt_mono p (show m + 1 ≤ m' by omega)
    rw [cnt_t h] at this
    omega
  · exact g
  · have := cnt_mono p (show m' + 1 ≤ m by omega)
    rw [cnt_t h'] at this
    omega
theorem nth_eq {p : Nat → Bool} {m : Nat} (h : p m = true) : nth p (cnt p m) = m := by
  have hx : ∃ m', p m' = true ∧ cnt p m' = cnt p m := ⟨m, h, rfl⟩
  unfold nth
  rw [dif_pos hx]
  have := Classical.choose_spec hx
  exact cnt_inj this.1 h this.2
theorem nth_spec {p : Nat → Bool} {n e : Nat} (h : e < cnt p n) : nth p e < n ∧ p (nth p e) = true ∧ cnt p (nth p e) = e := by
  obtain ⟨m, h1, h2, h3⟩ := cnt_find n e h
  have := nth_eq h2
  rw [h3] at this
  rw [this]
  exact ⟨h1, h2, h3⟩
theorem fsum_nth (p : Nat → Bool) (G : Nat → Nat) : ∀ n, fsum (fun e => G (nth p e)) (cnt p n) = fsum (fun m => if p m = true then G m else 0) n
  | 0 => rfl
  | n + 1 => by
    rw [fsum_s, ← fsum_nth p G n]
    by_cases h : p n = true
    · rw [cnt_t h, fsum_s, nth_eq h, if_pos h]
    · rw [cnt_f h, if_neg h]
      rfl
noncomputable def twB (J : LRel) (m : Nat) : Bool := @decide (Tws J m) (Classical.propDecidable _)
theorem twB_iff {J : LRel} {m : Nat} : twB J m = true ↔ Tws J m := by
  unfold twB
  exact @decide_eq_true_iff _ (Classical.propDecidable _)
/-- the ends of an edge class at a corner class -/
noncomputable def enI (JC JE : LRel) (g m : Nat) : Nat := (if gno JC (4 * (m / 6) + fE (m % 6)) = g then 1 else 0) + (if twB JE m = true then 0 else if gno JC (4 * (m / 6) + tE (m % 6)) = g then 1 else 0)
section EN
variable {JC JE : LRel} {g m : Nat}
theorem enI_a (h1 : gno JC (4 * (m / 6) + fE (m % 6)) = g) (h2 : twB JE m = true) : enI JC JE g m = 1 := by unfold enI; rw [if_pos h1, if_pos h2]
theorem enI_b (h1 : ¬ gno JC (4 * (m / 6) + fE (m % 6)) = g) (h2 : twB JE m = true) : enI JC JE g m = 0 := by unfold enI; rw [if_neg h1, if_pos h2]
theorem enI_c (h1 : gno JC (4 * (m / 6) + fE (m % 6)) = g) (h2 : ¬ twB JE m = true) (h3 : gno JC (4 * (m / 6) + tE (m % 6)) = g) : enI JC JE g m = 2 := by unfold enI; rw [if_pos h1, if_neg h2, if_pos h3]
theorem enI_d (h1 : gno JC (4 * (m / 6) + fE (m % 6)) = g) (h2 : ¬ twB JE m = true) (h3 : ¬ gno JC (4 * (m / 6) + tE (m % 6)) = g) : enI JC JE g m = 1 := by unfold enI; rw [if_pos h1, if_neg h2, if_neg h3]
theorem enI_e (h1 : ¬ gno JC (4 * (m / 6) + fE (m % 6)) = g) (h2 : ¬ twB JE m = true) (h3 : gno JC (4 * (m / 6) + tE (m % 6)) = g) : enI JC JE g m = 1 := by unfold enI; rw [if_neg h1, if_neg h2, if_pos h3]
theorem enI_f (h1 : ¬ gno JC (4 * (m / 6) + fE (m % 6)) = g) (h2 : ¬ twB JE m = true) (h3 : ¬ gno JC (4 * (m / 6) + tE (m % 6)) = g) : enI JC JE g m = 0 := by unfold enI; rw [if_neg h1, if_neg h2, if_neg h3]
end EN
noncomputable def enD (JC JE : LRel) (g n : Nat) : Nat := fsum (fun m => if fs JE m = true then enI JC JE g m else 0) n
theorem mc_endsAt (X : am_X) (S : MS) (P : Nat) (mt : Nat → Option Nat) (go : Nat → Nat) (hG : GW P mt go) (hD : SD S P mt go) (g : Nat) (hg : g < 12) : MC X 75 [.ref (1), .int (nI (g))] S (some (.int (nI (enD (CJ P mt go) (EJ P mt go) g (6 * P))))) S := by
  have hP := hG.1
  have hcl := cnt_le (fs (EJ P mt go)) (6 * P)
  refine MC.of (Nat.le_of_ble_eq_true rfl) ?_
  refine an_iconst 0 d75_0 rfl ?_
  refine as_istore_n d75_1 (by decide) ?_
  refine an_iconst 0 d75_2 rfl ?_
  refine as_istore_n d75_3 (by decide) ?_
  refine AW.loc [(0, .ref (1)), (1, .int (nI (g))), (2, .int (nI (0))), (3, .int (nI (0)))] (am_pick [2, 3, 1, 0] rfl rfl) ?_
  refine aw_for (fun e => ((4, [(0, .ref (1)), (1, .int (nI (g))), (2, .int (nI (fsum (fun e => enI (CJ P mt go) (EJ P mt go) g (nth (fs (EJ P mt go)) e)) (e)))), (3, .int (nI (e)))], [], 208, HP (S), 0, 0) : am_Z)) (cnt (fs (EJ P mt go)) (6 * P)) (rfl) (fun e he ihe => ?_) ?_
  · obtain ⟨n1, n2, n3⟩ := nth_spec he
    have hg3 := hD.2.2.1.2.2 _ n1 n2
    have hfst : S.2.1 15 e = nI (nth (fs (EJ P mt go)) e) := by
      have q := hg3.1
      rw [n3] at q
      exact q
    have hlo := (sl_low (show nth (fs (EJ P mt go)) e % 6 < 6 by omega))
    have hhi := (sl_high (show nth (fs (EJ P mt go)) e % 6 < 6 by omega))
    have b1 := gno_le (CJ P mt go) (4 * (nth (fs (EJ P mt go)) e / 6) + fE (nth (fs (EJ P mt go)) e % 6))
    have b2 := gno_le (CJ P mt go) (4 * (nth (fs (EJ P mt go)) e / 6) + tE (nth (fs (EJ P mt go)) e % 6))
    refine as_iload_n d75_4 rfl ?_
    refine as_aload_n d75_5 rfl ?_
    refine ap_get d75_6 f75_27 (by decide) rfl rfl ?_
    refine ap_get d75_9 f75_82 (by decide) rfl rfl ?_
    refine an_top (e' := nI (cnt (fs (EJ P mt go)) (6 * P))) (hD.2.2.1.1) ?_
    refine an_icmp_ge 106 d75_12 (by decide) (by omega) (by omega) (fun c12 => by omega) (fun c12 => ?_)
    refine as_aload_n d75_15 rfl ?_
    refine ap_get d75_16 f75_27 (by decide) rfl rfl ?_
    refine ap_get d75_19 f75_109 (by decide) rfl rfl ?_
    refine as_iload_n d75_22 rfl ?_
    refine ap_iald d75_23 (fun _ _ _ _ => rfl) (by decide) (by omega) (by decide) ?_
    refine an_top (e' := nI (nth (fs (EJ P mt go)) e)) (hfst) ?_
    refine as_istore d75_24 (by decide) ?_
    refine an_iconst 4 d75_26 rfl ?_
    refine as_iload d75_27 rfl ?_
    refine an_bipush 6 d75_29 rfl ?_
    refine an_idiv d75_31 (by omega) (by omega) (by omega) ?_
    refine an_imul d75_32 ?_
    refine as_istore d75_33 (by decide) ?_
    refine as_aload_n d75_35 rfl ?_
    refine ap_get d75_36 f75_23 (by decide) rfl rfl ?_
    refine ap_get d75_39 f75_112 (by decide) rfl rfl ?_
    refine as_iload d75_42 rfl ?_
    refine as_gets d75_44 g75_73 ?_
    refine as_iload d75_47 rfl ?_
    refine an_bipush 6 d75_49 rfl ?_
    refine an_irem d75_51 (by omega) (by omega) (by omega) ?_
    refine an_stat d75_52 (by decide) (by show _ < 6; omega) ?_
    refine an_top (e' := nI (fE (nth (fs (EJ P mt go)) e % 6))) (hlo.1) ?_
    refine an_iadd d75_53 ?_
    refine ap_iald d75_54 (fun _ _ _ _ => rfl) (by decide) (by omega) (by decide) ?_
    refine an_top (e' := nI (gno (CJ P mt go) (((4) * ((nth (fs (EJ P mt go)) e) / (6))) + (fE (nth (fs (EJ P mt go)) e % 6))))) (hD.2.1.2.1 _ (by omega)) ?_
    refine as_iload_n d75_55 rfl ?_
    refine an_icmp_ne 62 d75_56 (by decide) (by omega) (by omega) (fun c56 => ?_) (fun c56 => ?_)
    · refine as_aload_n d75_62 rfl ?_
      refine ap_get d75_63 f75_27 (by decide) rfl rfl ?_
      refine as_iload_n d75_66 rfl ?_
      refine ac_v1 d75_67 c75_115 (by decide) rfl (Nat.le_of_ble_eq_true rfl) (mc_clashes10 X _ (6 * P) (EJ P mt go) (by omega) hD.2.2.1 (nth (fs (EJ P mt go)) e) e n1 n2 n3) ?_
      refine as_if_ne 100 d75_70 (by decide) (fun c70 => ?_) (fun c70 => ?_)
      · have htw : twB (EJ P mt go) (nth (fs (EJ P mt go)) e) = true := twB_iff.mpr (by
          rcases hg3.2 with q | q
          · exact q.2
          · exact absurd q.1 c70)
        refine an_iinc 1 d75_100 rfl rfl (by decide) ?_
        refine as_goto 4 d75_103 (by decide) ?_
        refine AW.loc [(0, .ref (1)), (1, .int (nI (g))), (2, .int (nI (fsum (fun e => enI (CJ P mt go) (EJ P mt go) g (nth (fs (EJ P mt go)) e)) (e)))), (3, .int (nI (e + 1)))] (am_pick [3, 4, 5, 0] rfl rfl) ?_
        have e2 : fsum (fun e => enI (CJ P mt go) (EJ P mt go) g (nth (fs (EJ P mt go)) e)) (e + 1) = fsum (fun e => enI (CJ P mt go) (EJ P mt go) g (nth (fs (EJ P mt go)) e)) (e) := by first | exact fs_eq (f := (fun e => enI (CJ P mt go) (EJ P mt go) g (nth (fs (EJ P mt go)) e))) (n := e) (enI_a c56 htw) | exact fs_eq (f := (fun e => enI (CJ P mt go) (EJ P mt go) g (nth (fs (EJ P mt go)) e))) (n := e) (enI_b c56 htw) | exact fs_eq (f := (fun e => enI (CJ P mt go) (EJ P mt go) g (nth (fs (EJ P mt go)) e))) (n := e) (enI_c c56 htw c94) | exact fs_eq (f := (fun e => enI (CJ P mt go) (EJ P mt go) g (nth (fs (EJ P mt go)) e))) (n := e) (enI_d c56 htw c94) | exact fs_eq (f := (fun e => enI (CJ P mt go) (EJ P mt go) g (nth (fs (EJ P mt go)) e))) (n := e) (enI_e c56 htw c94) | exact fs_eq (f := (fun e => enI (CJ P mt go) (EJ P mt go) g (nth (fs (EJ P mt go)) e))) (n := e) (enI_f c56 htw c94)
        rw [e2] at ihe
        exact ihe
      · have htw : ¬ twB (EJ P mt go) (nth (fs (EJ P mt go)) e) = true := fun w => by
          rcases hg3.2 with q | q
          · rw [show S.2.1 13 (nth (fs (EJ P mt go)) e) = _ from q.1] at c70
            cases c70
          · exact q.2 (twB_iff.mp w)
        refine as_aload_n d75_73 rfl ?_
        refine ap_get d75_74 f75_23 (by decide) rfl rfl ?_
        refine ap_get d75_77 f75_112 (by decide) rfl rfl ?_
        refine as_iload d75_80 rfl ?_
        refine as_gets d75_82 g75_76 ?_
        refine as_iload d75_85 rfl ?_
        refine an_bipush 6 d75_87 rfl ?_
        refine an_irem d75_89 (by omega) (by omega) (by omega) ?_
        refine an_stat d75_90 (by decide) (by show _ < 6; omega) ?_
        refine an_top (e' := nI (tE (nth (fs (EJ P mt go)) e % 6))) (hhi.1) ?_
        refine an_iadd d75_91 ?_
        refine ap_iald d75_92 (fun _ _ _ _ => rfl) (by decide) (by omega) (by decide) ?_
        refine an_top (e' := nI (gno (CJ P mt go) (((4) * ((nth (fs (EJ P mt go)) e) / (6))) + (tE (nth (fs (EJ P mt go)) e % 6))))) (hD.2.1.2.1 _ (by omega)) ?_
        refine as_iload_n d75_93 rfl ?_
        refine an_icmp_ne 100 d75_94 (by decide) (by omega) (by omega) (fun c94 => ?_) (fun c94 => ?_)
        · refine an_iinc 1 d75_100 rfl rfl (by decide) ?_
          refine as_goto 4 d75_103 (by decide) ?_
          refine AW.loc [(0, .ref (1)), (1, .int (nI (g))), (2, .int (nI (fsum (fun e => enI (CJ P mt go) (EJ P mt go) g (nth (fs (EJ P mt go)) e)) (e)))), (3, .int (nI (e + 1)))] (am_pick [3, 4, 5, 0] rfl rfl) ?_
          have e2 : fsum (fun e => enI (CJ P mt go) (EJ P mt go) g (nth (fs (EJ P mt go)) e)) (e + 1) = fsum (fun e => enI (CJ P mt go) (EJ P mt go) g (nth (fs (EJ P mt go)) e)) (e) := by first | exact fs_eq (f := (fun e => enI (CJ P mt go) (EJ P mt go) g (nth (fs (EJ P mt go)) e))) (n := e) (enI_a c56 htw) | exact fs_eq (f := (fun e => enI (CJ P mt go) (EJ P mt go) g (nth (fs (EJ P mt go)) e))) (n := e) (enI_b c56 htw) | exact fs_eq (f := (fun e => enI (CJ P mt go) (EJ P mt go) g (nth (fs (EJ P mt go)) e))) (n := e) (enI_c c56 htw c94) | exact fs_eq (f := (fun e => enI (CJ P mt go) (EJ P mt go) g (nth (fs (EJ P mt go)) e))) (n := e) (enI_d c56 htw c94) | exact fs_eq (f := (fun e => enI (CJ P mt go) (EJ P mt go) g (nth (fs (EJ P mt go)) e))) (n := e) (enI_e c56 htw c94) | exact fs_eq (f := (fun e => enI (CJ P mt go) (EJ P mt go) g (nth (fs (EJ P mt go)) e))) (n := e) (enI_f c56 htw c94)
          rw [e2] at ihe
          exact ihe
        · refine an_iinc 1 d75_97 rfl rfl (by decide) ?_
          refine an_iinc 1 d75_100 rfl rfl (by decide) ?_
          refine as_goto 4 d75_103 (by decide) ?_
          refine AW.loc [(0, .ref (1)), (1, .int (nI (g))), (2, .int (nI (fsum (fun e => enI (CJ P mt go) (EJ P mt go) g (nth (fs (EJ P mt go)) e)) (e) + 1))), (3, .int (nI (e + 1)))] (am_pick [4, 5, 1, 0] rfl rfl) ?_
          have e2 : fsum (fun e => enI (CJ P mt go) (EJ P mt go) g (nth (fs (EJ P mt go)) e)) (e + 1) = fsum (fun e => enI (CJ P mt go) (EJ P mt go) g (nth (fs (EJ P mt go)) e)) (e) + 1 := by first | exact fs_eq (f := (fun e => enI (CJ P mt go) (EJ P mt go) g (nth (fs (EJ P mt go)) e))) (n := e) (enI_a c56 htw) | exact fs_eq (f := (fun e => enI (CJ P mt go) (EJ P mt go) g (nth (fs (EJ P mt go)) e))) (n := e) (enI_b c56 htw) | exact fs_eq (f := (fun e => enI (CJ P mt go) (EJ P mt go) g (nth (fs (EJ P mt go)) e))) (n := e) (enI_c c56 htw c94) | exact fs_eq (f := (fun e => enI (CJ P mt go) (EJ P mt go) g (nth (fs (EJ P mt go)) e))) (n := e) (enI_d c56 htw c94) | exact fs_eq (f := (fun e => enI (CJ P mt go) (EJ P mt go) g (nth (fs (EJ P mt go)) e))) (n := e) (enI_e c56 htw c94) | exact fs_eq (f := (fun e => enI (CJ P mt go) (EJ P mt go) g (nth (fs (EJ P mt go)) e))) (n := e) (enI_f c56 htw c94)
          rw [e2] at ihe
          exact ihe
    · refine an_iinc 1 d75_59 rfl rfl (by decide) ?_
      refine as_aload_n d75_62 rfl ?_
      refine ap_get d75_63 f75_27 (by decide) rfl rfl ?_
      refine as_iload_n d75_66 rfl ?_
      refine ac_v1 d75_67 c75_115 (by decide) rfl (Nat.le_of_ble_eq_true rfl) (mc_clashes10 X _ (6 * P) (EJ P mt go) (by omega) hD.2.2.1 (nth (fs (EJ P mt go)) e) e n1 n2 n3) ?_
      refine as_if_ne 100 d75_70 (by decide) (fun c70 => ?_) (fun c70 => ?_)
      · have htw : twB (EJ P mt go) (nth (fs (EJ P mt go)) e) = true := twB_iff.mpr (by
          rcases hg3.2 with q | q
          · exact q.2
          · exact absurd q.1 c70)
        refine an_iinc 1 d75_100 rfl rfl (by decide) ?_
        refine as_goto 4 d75_103 (by decide) ?_
        refine AW.loc [(0, .ref (1)), (1, .int (nI (g))), (2, .int (nI (fsum (fun e => enI (CJ P mt go) (EJ P mt go) g (nth (fs (EJ P mt go)) e)) (e) + 1))), (3, .int (nI (e + 1)))] (am_pick [4, 5, 1, 0] rfl rfl) ?_
        have e2 : fsum (fun e => enI (CJ P mt go) (EJ P mt go) g (nth (fs (EJ P mt go)) e)) (e + 1) = fsum (fun e => enI (CJ P mt go) (EJ P mt go) g (nth (fs (EJ P mt go)) e)) (e) + 1 := by first | exact fs_eq (f := (fun e => enI (CJ P mt go) (EJ P mt go) g (nth (fs (EJ P mt go)) e))) (n := e) (enI_a c56 htw) | exact fs_eq (f := (fun e => enI (CJ P mt go) (EJ P mt go) g (nth (fs (EJ P mt go)) e))) (n := e) (enI_b c56 htw) | exact fs_eq (f := (fun e => enI (CJ P mt go) (EJ P mt go) g (nth (fs (EJ P mt go)) e))) (n := e) (enI_c c56 htw c94) | exact fs_eq (f := (fun e => enI (CJ P mt go) (EJ P mt go) g (nth (fs (EJ P mt go)) e))) (n := e) (enI_d c56 htw c94) | exact fs_eq (f := (fun e => enI (CJ P mt go) (EJ P mt go) g (nth (fs (EJ P mt go)) e))) (n := e) (enI_e c56 htw c94) | exact fs_eq (f := (fun e => enI (CJ P mt go) (EJ P mt go) g (nth (fs (EJ P mt go)) e))) (n := e) (enI_f c56 htw c94)
        rw [e2] at ihe
        exact ihe
      · have htw : ¬ twB (EJ P mt go) (nth (fs (EJ P mt go)) e) = true := fun w => by
          rcases hg3.2 with q | q
          · rw [show S.2.1 13 (nth (fs (EJ P mt go)) e) = _ from q.1] at c70
            cases c70
          · exact q.2 (twB_iff.mp w)
        refine as_aload_n d75_73 rfl ?_
        refine ap_get d75_74 f75_23 (by decide) rfl rfl ?_
        refine ap_get d75_77 f75_112 (by decide) rfl rfl ?_
        refine as_iload d75_80 rfl ?_
        refine as_gets d75_82 g75_76 ?_
        refine as_iload d75_85 rfl ?_
        refine an_bipush 6 d75_87 rfl ?_
        refine an_irem d75_89 (by omega) (by omega) (by omega) ?_
        refine an_stat d75_90 (by decide) (by show _ < 6; omega) ?_
        refine an_top (e' := nI (tE (nth (fs (EJ P mt go)) e % 6))) (hhi.1) ?_
        refine an_iadd d75_91 ?_
        refine ap_iald d75_92 (fun _ _ _ _ => rfl) (by decide) (by omega) (by decide) ?_
        refine an_top (e' := nI (gno (CJ P mt go) (((4) * ((nth (fs (EJ P mt go)) e) / (6))) + (tE (nth (fs (EJ P mt go)) e % 6))))) (hD.2.1.2.1 _ (by omega)) ?_
        refine as_iload_n d75_93 rfl ?_
        refine an_icmp_ne 100 d75_94 (by decide) (by omega) (by omega) (fun c94 => ?_) (fun c94 => ?_)
        · refine an_iinc 1 d75_100 rfl rfl (by decide) ?_
          refine as_goto 4 d75_103 (by decide) ?_
          refine AW.loc [(0, .ref (1)), (1, .int (nI (g))), (2, .int (nI (fsum (fun e => enI (CJ P mt go) (EJ P mt go) g (nth (fs (EJ P mt go)) e)) (e) + 1))), (3, .int (nI (e + 1)))] (am_pick [4, 5, 1, 0] rfl rfl) ?_
          have e2 : fsum (fun e => enI (CJ P mt go) (EJ P mt go) g (nth (fs (EJ P mt go)) e)) (e + 1) = fsum (fun e => enI (CJ P mt go) (EJ P mt go) g (nth (fs (EJ P mt go)) e)) (e) + 1 := by first | exact fs_eq (f := (fun e => enI (CJ P mt go) (EJ P mt go) g (nth (fs (EJ P mt go)) e))) (n := e) (enI_a c56 htw) | exact fs_eq (f := (fun e => enI (CJ P mt go) (EJ P mt go) g (nth (fs (EJ P mt go)) e))) (n := e) (enI_b c56 htw) | exact fs_eq (f := (fun e => enI (CJ P mt go) (EJ P mt go) g (nth (fs (EJ P mt go)) e))) (n := e) (enI_c c56 htw c94) | exact fs_eq (f := (fun e => enI (CJ P mt go) (EJ P mt go) g (nth (fs (EJ P mt go)) e))) (n := e) (enI_d c56 htw c94) | exact fs_eq (f := (fun e => enI (CJ P mt go) (EJ P mt go) g (nth (fs (EJ P mt go)) e))) (n := e) (enI_e c56 htw c94) | exact fs_eq (f := (fun e => enI (CJ P mt go) (EJ P mt go) g (nth (fs (EJ P mt go)) e))) (n := e) (enI_f c56 htw c94)
          rw [e2] at ihe
          exact ihe
        · refine an_iinc 1 d75_97 rfl rfl (by decide) ?_
          refine an_iinc 1 d75_100 rfl rfl (by decide) ?_
          refine as_goto 4 d75_103 (by decide) ?_
          refine AW.loc [(0, .ref (1)), (1, .int (nI (g))), (2, .int (nI (fsum (fun e => enI (CJ P mt go) (EJ P mt go) g (nth (fs (EJ P mt go)) e)) (e) + 1 + 1))), (3, .int (nI (e + 1)))] (am_pick [4, 5, 1, 0] rfl rfl) ?_
          have e2 : fsum (fun e => enI (CJ P mt go) (EJ P mt go) g (nth (fs (EJ P mt go)) e)) (e + 1) = fsum (fun e => enI (CJ P mt go) (EJ P mt go) g (nth (fs (EJ P mt go)) e)) (e) + 1 + 1 := by first | exact fs_eq (f := (fun e => enI (CJ P mt go) (EJ P mt go) g (nth (fs (EJ P mt go)) e))) (n := e) (enI_a c56 htw) | exact fs_eq (f := (fun e => enI (CJ P mt go) (EJ P mt go) g (nth (fs (EJ P mt go)) e))) (n := e) (enI_b c56 htw) | exact fs_eq (f := (fun e => enI (CJ P mt go) (EJ P mt go) g (nth (fs (EJ P mt go)) e))) (n := e) (enI_c c56 htw c94) | exact fs_eq (f := (fun e => enI (CJ P mt go) (EJ P mt go) g (nth (fs (EJ P mt go)) e))) (n := e) (enI_d c56 htw c94) | exact fs_eq (f := (fun e => enI (CJ P mt go) (EJ P mt go) g (nth (fs (EJ P mt go)) e))) (n := e) (enI_e c56 htw c94) | exact fs_eq (f := (fun e => enI (CJ P mt go) (EJ P mt go) g (nth (fs (EJ P mt go)) e))) (n := e) (enI_f c56 htw c94)
          rw [e2] at ihe
          exact ihe
  · refine as_iload_n d75_4 rfl ?_
    refine as_aload_n d75_5 rfl ?_
    refine ap_get d75_6 f75_27 (by decide) rfl rfl ?_
    refine ap_get d75_9 f75_82 (by decide) rfl rfl ?_
    refine an_top (e' := nI (cnt (fs (EJ P mt go)) (6 * P))) (hD.2.2.1.1) ?_
    refine an_icmp_ge 106 d75_12 (by decide) (by omega) (by omega) (fun c12 => ?_) (fun c12 => by omega)
    refine as_iload_n d75_106 rfl ?_
    refine as_ireturn d75_107 (by rw [t75]; rfl) ?_
    refine am_req (congrArg nI ?_)
    exact fsum_nth (fs (EJ P mt go)) (fun m => enI (CJ P mt go) (EJ P mt go) g m) (6 * P)
noncomputable def lnkC (P : Nat) (mt : Nat → Option Nat) (go : Nat → Nat) (g : Nat) : Int32 := nI (enD (CJ P mt go) (EJ P mt go) g (6 * P)) - nI (siD (CJ P mt go) mt g (4 * P)) + nI (cnt (coB (CJ P mt go) g) (4 * P))
theorem mc_linkC (X : am_X) (S : MS) (P : Nat) (mt : Nat → Option Nat) (go : Nat → Nat) (hG : GW P mt go) (hD : SD S P mt go) (g : Nat) (hg : g < 12) : MC X 74 [.ref (1), .int (nI (g))] S (some (.int (lnkC P mt go g))) S := by
  refine MC.of (Nat.le_of_ble_eq_true rfl) ?_
  refine as_aload_n d74_0 rfl ?_
  refine as_iload_n d74_1 rfl ?_
  refine ac_v1 d74_2 c74_100 (by decide) rfl (Nat.le_of_ble_eq_true rfl) (mc_endsAt X _ P mt go hG hD g hg) ?_
  refine as_aload_n d74_5 rfl ?_
  refine as_iload_n d74_6 rfl ?_
  refine ac_v1 d74_7 c74_103 (by decide) rfl (Nat.le_of_ble_eq_true rfl) (mc_sidesAt X _ P mt go hG hD g hg) ?_
  refine as_isub d74_10 ?_
  refine as_aload_n d74_11 rfl ?_
  refine as_iload_n d74_12 rfl ?_
  refine ac_v1 d74_13 c74_106 (by decide) rfl (Nat.le_of_ble_eq_true rfl) (mc_cornersOf X _ P mt go hG hD g hg) ?_
  refine as_iadd d74_16 ?_
  refine as_ireturn d74_17 (by rw [t74]; rfl) ?_
  rfl
def WhC (P : Nat) (mt : Nat → Option Nat) (go : Nat → Nat) : Prop := P ≠ 0 ∧ nI (4 * P) - nI (2 * cnt (prN mt) (4 * P)) = 0 ∧ (∀ m, m < 6 * P → fs (EJ P mt go) m = true → ¬ Tws (EJ P mt go) m) ∧ ∀ g, g < cnt (fs (CJ P mt go)) (4 * P) → lnkC P mt go g = nI 2
def WhCA (P : Nat) (mt : Nat → Option Nat) (go : Nat → Nat) (a : Nat) : Prop := (a = 1 ∧ WhC P mt go) ∨ (a = 0 ∧ ¬ WhC P mt go)
theorem WhCA_ex (P : Nat) (mt : Nat → Option Nat) (go : Nat → Nat) : ∃ a, WhCA P mt go a := by
  by_cases h : WhC P mt go
  · exact ⟨1, Or.inl ⟨rfl, h⟩⟩
  · exact ⟨0, Or.inr ⟨rfl, h⟩⟩
theorem mc_isWholeC (X : am_X) (S : MS) (P : Nat) (mt : Nat → Option Nat) (go : Nat → Nat) (hG : GW P mt go) (hD : SD S P mt go) (w : Nat) (hw : WhCA P mt go w) : MC X 73 [.ref (1)] S (some (.int (nI w))) S := by
  have hP := hG.1
  have hcl := cnt_le (fs (CJ P mt go)) (4 * P)
  obtain ⟨a, ha⟩ := AnyT_ex (6 * P) (EJ P mt go)
  have hal := ha.lt
  refine MC.of (Nat.le_of_ble_eq_true rfl) ?_
  refine as_aload_n d73_0 rfl ?_
  refine ap_get d73_1 f73_39 (by decide) rfl rfl ?_
  refine an_top (e' := nI (P)) (hD.1.1) ?_
  refine an_if_eq 24 d73_4 (by decide) (by omega) (fun c4 => ?_) (fun c4 => ?_)
  · have hno : ¬ WhC P mt go := fun h => h.1 c4
    refine an_iconst 0 d73_24 rfl ?_
    refine as_ireturn d73_25 (by rw [t73]; rfl) ?_
    refine am_req (congrArg nI ?_)
    rcases hw with ⟨q, h⟩ | ⟨q, h⟩
    · first | exact q.symm | exact absurd h hno
    · first | exact q.symm | exact absurd hyes h
  · refine as_aload_n d73_7 rfl ?_
    refine ac_v0 d73_8 c73_93 (by decide) rfl (Nat.le_of_ble_eq_true rfl) (mc_openCount X _ P mt go hG hD) ?_
    refine as_if_ne 24 d73_11 (by decide) (fun c11 => ?_) (fun c11 => ?_)
    · have hno : ¬ WhC P mt go := fun h => c11 h.2.1
      refine an_iconst 0 d73_24 rfl ?_
      refine as_ireturn d73_25 (by rw [t73]; rfl) ?_
      refine am_req (congrArg nI ?_)
      rcases hw with ⟨q, h⟩ | ⟨q, h⟩
      · first | exact q.symm | exact absurd h hno
      · first | exact q.symm | exact absurd hyes h
    · refine as_aload_n d73_14 rfl ?_
      refine ap_get d73_15 f73_27 (by decide) rfl rfl ?_
      refine ac_v0 d73_18 c73_89 (by decide) rfl (Nat.le_of_ble_eq_true rfl) (mc_anyClashes10 X _ (6 * P) (EJ P mt go) (by omega) hD.2.2.1 a ha) ?_
      refine an_if_eq 26 d73_21 (by decide) (by omega) (fun c21 => ?_) (fun c21 => ?_)
      · have hnt : ∀ m, m < 6 * P → fs (EJ P mt go) m = true → ¬ Tws (EJ P mt go) m := by
          rcases ha with ⟨q, _⟩ | ⟨_, q⟩
          · omega
          · exact q
        refine an_iconst 0 d73_26 rfl ?_
        refine as_istore_n d73_27 (by decide) ?_
        refine AW.loc [(0, .ref (1)), (1, .int (nI (0)))] (am_pick [1, 0] rfl rfl) ?_
        refine aw_fromI (fun g => ((28, [(0, .ref (1)), (1, .int (nI (g)))], [], 208, HP (S), 0, 0) : am_Z)) (fun g => ∀ q, q < g → lnkC P mt go q = nI 2) (0) (cnt (fs (CJ P mt go)) (4 * P)) (by omega) (rfl) (fun q hq => by omega) (fun g hg0 hg hI ihg => ?_) (fun hX => ?_)
        · refine as_iload_n d73_28 rfl ?_
          refine as_aload_n d73_29 rfl ?_
          refine ap_get d73_30 f73_23 (by decide) rfl rfl ?_
          refine ap_get d73_33 f73_82 (by decide) rfl rfl ?_
          refine an_top (e' := nI (cnt (fs (CJ P mt go)) (4 * P))) (hD.2.1.1) ?_
          refine an_icmp_ge 56 d73_36 (by decide) (by omega) (by omega) (fun c36 => by omega) (fun c36 => ?_)
          refine as_aload_n d73_39 rfl ?_
          refine as_iload_n d73_40 rfl ?_
          refine ac_v1 d73_41 c73_96 (by decide) rfl (Nat.le_of_ble_eq_true rfl) (mc_linkC X _ P mt go hG hD g (by omega)) ?_
          refine an_iconst 2 d73_44 rfl ?_
          refine as_icmp_eq 50 d73_45 (by decide) (fun c45 => ?_) (fun c45 => ?_)
          · refine an_iinc 1 d73_50 rfl rfl (by decide) ?_
            refine as_goto 28 d73_53 (by decide) ?_
            refine AW.loc [(0, .ref (1)), (1, .int (nI (g + 1)))] (am_pick [1, 0] rfl rfl) ?_
            have ihg := ihg (fun q hq => by
              by_cases e : q = g
              · rw [e]; exact c45
              · exact hI q (by omega))
            exact ihg
          · have hno : ¬ WhC P mt go := fun h => c45 (h.2.2.2 g hg)
            refine an_iconst 0 d73_48 rfl ?_
            refine as_ireturn d73_49 (by rw [t73]; rfl) ?_
            refine am_req (congrArg nI ?_)
            rcases hw with ⟨q, h⟩ | ⟨q, h⟩
            · first | exact q.symm | exact absurd h hno
            · first | exact q.symm | exact absurd hyes h
        · refine as_iload_n d73_28 rfl ?_
          refine as_aload_n d73_29 rfl ?_
          refine ap_get d73_30 f73_23 (by decide) rfl rfl ?_
          refine ap_get d73_33 f73_82 (by decide) rfl rfl ?_
          refine an_top (e' := nI (cnt (fs (CJ P mt go)) (4 * P))) (hD.2.1.1) ?_
          refine an_icmp_ge 56 d73_36 (by decide) (by omega) (by omega) (fun c36 => ?_) (fun c36 => by omega)
          have hyes : WhC P mt go := ⟨c4, c11 , hnt, hX⟩
          refine an_iconst 1 d73_56 rfl ?_
          refine as_ireturn d73_57 (by rw [t73]; rfl) ?_
          refine am_req (congrArg nI ?_)
          rcases hw with ⟨q, h⟩ | ⟨q, h⟩
          · first | exact q.symm | exact absurd h hno
          · first | exact q.symm | exact absurd hyes h
      · have hno : ¬ WhC P mt go := fun h => by
          rcases ha with ⟨_, m, q1, q2, q3⟩ | ⟨q, _⟩
          · exact h.2.2.1 m q1 q2 q3
          · exact c21 q
        refine an_iconst 0 d73_24 rfl ?_
        refine as_ireturn d73_25 (by rw [t73]; rfl) ?_
        refine am_req (congrArg nI ?_)
        rcases hw with ⟨q, h⟩ | ⟨q, h⟩
        · first | exact q.symm | exact absurd h hno
        · first | exact q.symm | exact absurd hyes h
