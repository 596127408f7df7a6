/-! the class: parts counted -/
theorem gno_lt {J : LRel} {n x : Nat} (h : x < n) : gno J x < cnt (fs J) n := by
  obtain ⟨h1, h2, -⟩ := lst_spec J x
  have := cnt_mono (fs J) (show lst J x + 1 ≤ n by omega)
  rw [cnt_t h2] at this
  exact this
theorem coB_t {J : LRel} {g c : Nat} (h : gno J c = g) : coB J g c = true := decide_eq_true h
theorem coB_f {J : LRel} {g c : Nat} (h : ¬ gno J c = g) : ¬ coB J g c = true := fun q => h (of_decide_eq_true q)
theorem cnt_co {J : LRel} {g c : Nat} : cnt (coB J g) (c + 1) = cnt (coB J g) c + (if gno J c = g then 1 else 0) := by
  by_cases h : gno J c = g
  · rw [cnt_t (coB_t h), if_pos h]
  · rw [cnt_f (coB_f h), if_neg h]
noncomputable def caB (J : LRel) (sh : Nat → Nat) (s c k i : Nat) : Bool := decide (gno J (cutN sh s c i) = k)
noncomputable def caI (J : LRel) (mt : Nat → Option Nat) (sh : Nat → Nat) (k s c : Nat) : Nat := if c ≠ s % 4 ∧ sdP mt 0 s = true then cnt (caB J sh s c k) (arcP sh (s / 4) (s % 4) c) else 0
noncomputable def caO (J : LRel) (mt : Nat → Option Nat) (sh : Nat → Nat) (k s : Nat) : Nat := fsum (caI J mt sh k s) 4
noncomputable def cpB (J : LRel) (sh : Nat → Nat) (m q k i : Nat) : Bool := decide (gno J (fsum sh (7 * (m / 6) + q) + i) = k)
noncomputable def cpI (J : LRel) (sh : Nat → Nat) (k m q : Nat) : Nat := if mtS q (m % 6) = true then cnt (cpB J sh m q k) (sh (7 * (m / 6) + q)) else 0
theorem caO_0 {J : LRel} {mt : Nat → Option Nat} {sh : Nat → Nat} {k s : Nat} (h : ¬ sdP mt 0 s = true) : caO J mt sh k s = 0 := by
  have z : ∀ c, caI J mt sh k s c = 0 := fun c => if_neg (fun g => h g.2)
  show fsum (caI J mt sh k s) 4 = 0
  simp [fsum, z]
theorem cnt_cb {p : Nat → Bool} {i : Nat} : cnt p (i + 1) = cnt p i + (if p i = true then 1 else 0) := rfl
/-- one place of a row raised or lowered -/
theorem sa_if {T : MS} {A g : Nat} {x : Int32} (k : Nat) : (T.sa A g x).2.1 A k = if k = g then x else T.2.1 A k := sa_at _ _ _ _ _
theorem mx_countCuts (X : am_X) (S : MS) (P : Nat) (mt : Nat → Option Nat) (go : Nat → Nat) (sh : Nat → Nat) (hG : GW P mt go) (hD : SD S P mt go) (hS : SHC S sh) (hFt : Fits P mt go sh) (hz : fsum sh 21 = fsum sh (7 * P)) (hN : fsum sh 21 ≤ 400) (hF : PFC S sh) (hJ : GS S 180 (fsum sh 21) (PJ P mt go sh)) : ∃ T, MC X 41 [.ref (179), .int (nI ((fsum sh 21)))] S none T ∧ pcKeep S T ∧ GS T 180 (fsum sh 21) (PJ P mt go sh) ∧ PFC T sh ∧ ∀ k, k < (cnt (fs (PJ P mt go sh)) (fsum sh 21)) → T.2.1 187 k = nI (cnt (coB (PJ P mt go sh) k) (fsum sh 21)) ∧ T.2.1 188 k = nI (cnt (coB (PJ P mt go sh) k) (fsum sh 21)) := by
  have hP := hG.1
  have hcl := cnt_le (fs (PJ P mt go sh)) (fsum sh 21)
  have key := MX.mc (X := X) (mj := 41) (as := [.ref (179), .int (nI ((fsum sh 21)))]) (S := S) (Post := fun v T => v = none ∧ pcKeep S T ∧ GS T 180 (fsum sh 21) (PJ P mt go sh) ∧ PFC T sh ∧ ∀ k, k < (cnt (fs (PJ P mt go sh)) (fsum sh 21)) → T.2.1 187 k = nI (cnt (coB (PJ P mt go sh) k) (fsum sh 21)) ∧ T.2.1 188 k = nI (cnt (coB (PJ P mt go sh) k) (fsum sh 21))) ?_
  · obtain ⟨v, T, g1, g2, g3⟩ := key
    subst g2
    exact ⟨T, g1, g3⟩
  refine MX.of (Nat.le_of_ble_eq_true rfl) ?_
  refine an_iconst 0 d41_0 rfl ?_
  refine as_istore_n d41_1 (by decide) ?_
  refine AW.loc [(0, .ref (179)), (1, .int (nI ((fsum sh 21)))), (2, .int (nI (0)))] (am_pick [1, 2, 0] rfl rfl) ?_
  refine aw_fromE (fun i T => ((2, [(0, .ref (179)), (1, .int (nI ((fsum sh 21)))), (2, .int (nI (i)))], [], 208, HP (T), 0, 0) : am_Z)) (fun i T => (pcKeep S T ∧ GS T 180 (fsum sh 21) (PJ P mt go sh) ∧ PFC T sh) ∧ ∀ k, k < i → T.2.1 187 k = nI 0) (0) ((cnt (fs (PJ P mt go sh)) (fsum sh 21))) (by omega) (S) (rfl) (⟨⟨pcKeep.rf S, hJ, hF⟩, fun k hk => by omega⟩) (fun i T hi0 hi hI ih => ?_) (fun T hX => ?_)
  · refine as_iload_n d41_2 rfl ?_
    refine as_aload_n d41_3 rfl ?_
    refine ap_get d41_4 f41_14 (by decide) rfl rfl ?_
    refine ap_get d41_7 f41_99 (by decide) rfl rfl ?_
    refine an_top (e' := nI ((cnt (fs (PJ P mt go sh)) (fsum sh 21)))) (hI.1.2.1.1) ?_
    refine an_icmp_ge 26 d41_10 (by decide) (by omega) (by omega) (fun c10 => by omega) (fun c10 => ?_)
    refine as_aload_n d41_13 rfl ?_
    refine ap_get d41_14 f41_24 (by decide) rfl rfl ?_
    refine as_iload_n d41_17 rfl ?_
    refine an_iconst 0 d41_18 rfl ?_
    refine ap_iast d41_19 (fun _ _ _ _ => rfl) (by decide) (by omega) (by decide) ?_
    refine an_iinc 1 d41_20 rfl rfl (by decide) ?_
    refine as_goto 2 d41_23 (by decide) ?_
    refine AW.loc [(0, .ref (179)), (1, .int (nI ((fsum sh 21)))), (2, .int (nI (i + 1)))] (am_pick [1, 2, 0] rfl rfl) ?_
    have ih := ih ((T).sa 187 (i) (nI (0))) (⟨⟨hI.1.1.sa (by omega) _ _, hI.1.2.1.keep (sa_row _ _ _ _ (by decide)) (sa_row _ _ _ _ (by decide)) (sa_row _ _ _ _ (by decide)) rfl, hI.1.2.2.keep (sa_row _ _ _ _ (by decide))⟩, fun k hk => by
      rw [sa_at]
      by_cases e : k = i
      · rw [if_pos e]
      · rw [if_neg e]; exact hI.2 k (by omega)⟩)
    exact ih
  · refine as_iload_n d41_2 rfl ?_
    refine as_aload_n d41_3 rfl ?_
    refine ap_get d41_4 f41_14 (by decide) rfl rfl ?_
    refine ap_get d41_7 f41_99 (by decide) rfl rfl ?_
    refine an_top (e' := nI ((cnt (fs (PJ P mt go sh)) (fsum sh 21)))) (hX.1.2.1.1) ?_
    refine an_icmp_ge 26 d41_10 (by decide) (by omega) (by omega) (fun c10 => ?_) (fun c10 => by omega)
    refine an_iconst 0 d41_26 rfl ?_
    refine as_istore_n d41_27 (by decide) ?_
    refine AW.loc [(0, .ref (179)), (1, .int (nI ((fsum sh 21)))), (2, .int (nI (0)))] (am_pick [1, 2, 0] rfl rfl) ?_
    refine aw_fromE (fun x T1 => ((28, [(0, .ref (179)), (1, .int (nI ((fsum sh 21)))), (2, .int (nI (x)))], [], 208, HP (T1), 0, 0) : am_Z)) (fun x T1 => (pcKeep S T1 ∧ GS T1 180 (fsum sh 21) (PJ P mt go sh) ∧ PFC T1 sh) ∧ ∀ k, k < (cnt (fs (PJ P mt go sh)) (fsum sh 21)) → T1.2.1 187 k = nI (cnt (coB (PJ P mt go sh) k) (x))) (0) ((fsum sh 21)) (by omega) (T) (rfl) (hX) (fun x T1 hx0 hx hI1 ihx => ?_) (fun T1 hX1 => ?_)
    · have hgx := gno_lt (J := (PJ P mt go sh)) hx
      refine as_iload_n d41_28 rfl ?_
      refine as_iload_n d41_29 rfl ?_
      refine an_icmp_ge 57 d41_30 (by decide) (by omega) (by omega) (fun c30 => by omega) (fun c30 => ?_)
      refine as_aload_n d41_33 rfl ?_
      refine ap_get d41_34 f41_24 (by decide) rfl rfl ?_
      refine as_aload_n d41_37 rfl ?_
      refine ap_get d41_38 f41_14 (by decide) rfl rfl ?_
      refine ap_get d41_41 f41_102 (by decide) rfl rfl ?_
      refine as_iload_n d41_44 rfl ?_
      refine ap_iald d41_45 (fun _ _ _ _ => rfl) (by decide) (by omega) (by decide) ?_
      refine an_top (e' := nI (gno (PJ P mt go sh) x)) (hI1.1.2.1.2.1 x hx) ?_
      refine as_dup2 d41_46 rfl rfl ?_
      refine ap_iald d41_47 (fun _ _ _ _ => rfl) (by decide) (by omega) (by decide) ?_
      refine an_top (e' := nI (cnt (coB (PJ P mt go sh) (gno (PJ P mt go sh) x)) x)) (hI1.2 _ hgx) ?_
      refine an_iconst 1 d41_48 rfl ?_
      refine an_iadd d41_49 ?_
      refine ap_iast d41_50 (fun _ _ _ _ => rfl) (by decide) (by omega) (by decide) ?_
      refine an_iinc 1 d41_51 rfl rfl (by decide) ?_
      refine as_goto 28 d41_54 (by decide) ?_
      refine AW.loc [(0, .ref (179)), (1, .int (nI ((fsum sh 21)))), (2, .int (nI (x + 1)))] (am_pick [1, 2, 0] rfl rfl) ?_
      have ihx := ihx ((T1).sa 187 (gno (PJ P mt go sh) x) (nI ((cnt (coB (PJ P mt go sh) (gno (PJ P mt go sh) x)) x) + (1)))) (⟨⟨hI1.1.1.sa (by omega) _ _, hI1.1.2.1.keep (sa_row _ _ _ _ (by decide)) (sa_row _ _ _ _ (by decide)) (sa_row _ _ _ _ (by decide)) rfl, hI1.1.2.2.keep (sa_row _ _ _ _ (by decide))⟩, fun k hk => by
        rw [sa_at, cnt_co]
        by_cases e : k = gno (PJ P mt go sh) x
        · rw [if_pos e, if_pos e.symm, e]
        · rw [if_neg e, if_neg (fun q => e q.symm)]; exact hI1.2 k hk⟩)
      exact ihx
    · refine as_iload_n d41_28 rfl ?_
      refine as_iload_n d41_29 rfl ?_
      refine an_icmp_ge 57 d41_30 (by decide) (by omega) (by omega) (fun c30 => ?_) (fun c30 => by omega)
      refine an_iconst 0 d41_57 rfl ?_
      refine as_istore_n d41_58 (by decide) ?_
      refine AW.loc [(0, .ref (179)), (2, .int (nI (0)))] (am_pick [1, 0] rfl rfl) ?_
      refine aw_fromE (fun i T2 => ((59, [(0, .ref (179)), (2, .int (nI (i)))], [], 208, HP (T2), 0, 0) : am_Z)) (fun i T2 => (pcKeep S T2 ∧ GS T2 180 (fsum sh 21) (PJ P mt go sh) ∧ PFC T2 sh) ∧ (∀ k, k < (cnt (fs (PJ P mt go sh)) (fsum sh 21)) → T2.2.1 187 k = nI (cnt (coB (PJ P mt go sh) k) (fsum sh 21))) ∧ ∀ k, k < i → T2.2.1 188 k = nI (cnt (coB (PJ P mt go sh) k) (fsum sh 21))) (0) ((cnt (fs (PJ P mt go sh)) (fsum sh 21))) (by omega) (T1) (rfl) (⟨hX1.1, hX1.2, fun k hk => by omega⟩) (fun i T2 hi0 hi hI2 ih => ?_) (fun T2 hX2 => ?_)
      · refine as_iload_n d41_59 rfl ?_
        refine as_aload_n d41_60 rfl ?_
        refine ap_get d41_61 f41_14 (by decide) rfl rfl ?_
        refine ap_get d41_64 f41_99 (by decide) rfl rfl ?_
        refine an_top (e' := nI ((cnt (fs (PJ P mt go sh)) (fsum sh 21)))) (hI2.1.2.1.1) ?_
        refine an_icmp_ge 88 d41_67 (by decide) (by omega) (by omega) (fun c67 => by omega) (fun c67 => ?_)
        refine as_aload_n d41_70 rfl ?_
        refine ap_get d41_71 f41_27 (by decide) rfl rfl ?_
        refine as_iload_n d41_74 rfl ?_
        refine as_aload_n d41_75 rfl ?_
        refine ap_get d41_76 f41_24 (by decide) rfl rfl ?_
        refine as_iload_n d41_79 rfl ?_
        refine ap_iald d41_80 (fun _ _ _ _ => rfl) (by decide) (by omega) (by decide) ?_
        refine an_top (e' := nI (cnt (coB (PJ P mt go sh) i) (fsum sh 21))) (hI2.2.1 i hi) ?_
        refine ap_iast d41_81 (fun _ _ _ _ => rfl) (by decide) (by omega) (by decide) ?_
        refine an_iinc 1 d41_82 rfl rfl (by decide) ?_
        refine as_goto 59 d41_85 (by decide) ?_
        refine AW.loc [(0, .ref (179)), (2, .int (nI (i + 1)))] (am_pick [1, 0] rfl rfl) ?_
        have ih := ih ((T2).sa 188 (i) (nI (cnt (coB (PJ P mt go sh) i) (fsum sh 21)))) (⟨⟨hI2.1.1.sa (by omega) _ _, hI2.1.2.1.keep (sa_row _ _ _ _ (by decide)) (sa_row _ _ _ _ (by decide)) (sa_row _ _ _ _ (by decide)) rfl, hI2.1.2.2.keep (sa_row _ _ _ _ (by decide))⟩, fun k hk => by rw [sa_row _ _ _ _ (by decide)]; exact hI2.2.1 k hk, fun k hk => by
          rw [sa_at]
          by_cases e : k = i
          · rw [if_pos e, e]
          · rw [if_neg e]; exact hI2.2.2 k (by omega)⟩)
        exact ih
      · refine as_iload_n d41_59 rfl ?_
        refine as_aload_n d41_60 rfl ?_
        refine ap_get d41_61 f41_14 (by decide) rfl rfl ?_
        refine ap_get d41_64 f41_99 (by decide) rfl rfl ?_
        refine an_top (e' := nI ((cnt (fs (PJ P mt go sh)) (fsum sh 21)))) (hX2.1.2.1.1) ?_
        refine an_icmp_ge 88 d41_67 (by decide) (by omega) (by omega) (fun c67 => ?_) (fun c67 => by omega)
        refine as_return d41_88 t41 ?_
        exact ⟨_, _, rfl, rfl, hX2.1.1, hX2.1.2.1, hX2.1.2.2, fun k hk => ⟨hX2.2.1 k hk, hX2.2.2 k hk⟩⟩
theorem mx_countArcs (X : am_X) (S : MS) (P : Nat) (mt : Nat → Option Nat) (go : Nat → Nat) (sh : Nat → Nat) (hG : GW P mt go) (hD : SD S P mt go) (hS : SHC S sh) (hFt : Fits P mt go sh) (hz : fsum sh 21 = fsum sh (7 * P)) (hN : fsum sh 21 ≤ 400) (hF : PFC S sh) (hJ : GS S 180 (fsum sh 21) (PJ P mt go sh)) (z : Nat → Int32) (hz0 : ∀ k, k < (cnt (fs (PJ P mt go sh)) (fsum sh 21)) → S.2.1 188 k = z k) : ∃ T, MC X 42 [.ref (179), .ref (1), .ref (178)] S none T ∧ (pcKeep S T ∧ GS T 180 (fsum sh 21) (PJ P mt go sh) ∧ PFC T sh ∧ T.2.1 187 = S.2.1 187) ∧ ∀ k, k < (cnt (fs (PJ P mt go sh)) (fsum sh 21)) → T.2.1 188 k = z k - nI (fsum (caO (PJ P mt go sh) mt sh k) (4 * P)) := by
  have hP := hG.1
  have hcl := cnt_le (fs (PJ P mt go sh)) (fsum sh 21)
  have key := MX.mc (X := X) (mj := 42) (as := [.ref (179), .ref (1), .ref (178)]) (S := S) (Post := fun v T => v = none ∧ (pcKeep S T ∧ GS T 180 (fsum sh 21) (PJ P mt go sh) ∧ PFC T sh ∧ T.2.1 187 = S.2.1 187) ∧ ∀ k, k < (cnt (fs (PJ P mt go sh)) (fsum sh 21)) → T.2.1 188 k = z k - nI (fsum (caO (PJ P mt go sh) mt sh k) (4 * P))) ?_
  · obtain ⟨v, T, g1, g2, g3⟩ := key
    subst g2
    exact ⟨T, g1, g3⟩
  refine MX.of (Nat.le_of_ble_eq_true rfl) ?_
  refine an_iconst 0 d42_0 rfl ?_
  refine as_istore_n d42_1 (by decide) ?_
  refine AW.loc [(0, .ref (179)), (1, .ref (1)), (2, .ref (178)), (3, .int (nI (0)))] (am_pick [1, 2, 3, 0] rfl rfl) ?_
  refine aw_fromE (fun s T => ((2, [(0, .ref (179)), (1, .ref (1)), (2, .ref (178)), (3, .int (nI (s)))], [], 208, HP (T), 0, 0) : am_Z)) (fun s T => (pcKeep S T ∧ GS T 180 (fsum sh 21) (PJ P mt go sh) ∧ PFC T sh ∧ T.2.1 187 = S.2.1 187) ∧ ∀ k, k < (cnt (fs (PJ P mt go sh)) (fsum sh 21)) → T.2.1 188 k = z k - nI (fsum (caO (PJ P mt go sh) mt sh k) (s))) (0) (4 * P) (by omega) (S) (rfl) (⟨⟨pcKeep.rf S, hJ, hF, rfl⟩, fun k hk => by show _ = z k - nI 0; rw [nI_0, Int32.sub_zero]; exact hz0 k hk⟩) (fun s T hs0 hs hI ihs => ?_) (fun T hX => ?_)
  · have hDT := hD.pc hI.1.1
    refine as_iload_n d42_2 rfl ?_
    refine an_iconst 4 d42_3 rfl ?_
    refine as_aload_n d42_4 rfl ?_
    refine ap_get d42_5 f42_37 (by decide) rfl rfl ?_
    refine an_top (e' := nI (P)) (hDT.1.1) ?_
    refine an_imul d42_8 ?_
    refine an_icmp_ge 125 d42_9 (by decide) (by omega) (by omega) (fun c9 => by omega) (fun c9 => ?_)
    by_cases hsd : sdP mt 0 s = true
    · have hco : ∀ k, fsum (caO (PJ P mt go sh) mt sh k) (s + 1) = fsum (caO (PJ P mt go sh) mt sh k) s + fsum (caI (PJ P mt go sh) mt sh k s) 4 := fun k => rfl
      refine as_aload_n d42_12 rfl ?_
      refine as_iload_n d42_13 rfl ?_
      refine ac_v1 d42_14 c42_105 (by decide) rfl (Nat.le_of_ble_eq_true rfl) (mc_isGlued X _ P mt go _ hG hDT.1 (by omega)) ?_
      refine as_if_eq 28 d42_17 (by decide) (fun c17 => ?_) (fun c17 => ?_)
      · refine an_iconst 1 d42_28 rfl ?_
        refine as_goto 33 d42_29 (by decide) ?_
        refine as_istore d42_33 (by decide) ?_
        refine an_iconst 0 d42_35 rfl ?_
        refine as_istore d42_36 (by decide) ?_
        refine AW.loc [(0, .ref (179)), (1, .ref (1)), (2, .ref (178)), (3, .int (nI (s))), (4, .int (nI (1))), (5, .int (nI (0)))] (am_pick [2, 3, 4, 5, 1, 0] rfl rfl) ?_
        refine aw_fromE (fun c T1 => ((38, [(0, .ref (179)), (1, .ref (1)), (2, .ref (178)), (3, .int (nI (s))), (4, .int (nI (1))), (5, .int (nI (c)))], [], 208, HP (T1), 0, 0) : am_Z)) (fun c T1 => (pcKeep S T1 ∧ GS T1 180 (fsum sh 21) (PJ P mt go sh) ∧ PFC T1 sh ∧ T1.2.1 187 = S.2.1 187) ∧ ∀ k, k < (cnt (fs (PJ P mt go sh)) (fsum sh 21)) → T1.2.1 188 k = z k - nI (fsum (caO (PJ P mt go sh) mt sh k) s + fsum (caI (PJ P mt go sh) mt sh k s) (c))) (0) (4) (by omega) (T) (rfl) (hI) (fun c T1 hc0 hc hI1 ihc => ?_) (fun T1 hX1 => ?_)
        · have hST1 := hS.pc hI1.1.1
          refine as_iload d42_38 rfl ?_
          refine an_iconst 4 d42_40 rfl ?_
          refine an_icmp_ge 119 d42_41 (by decide) (by omega) (by omega) (fun c41 => by omega) (fun c41 => ?_)
          refine as_iload d42_44 rfl ?_
          refine an_if_eq 119 d42_46 (by decide) (by omega) (fun c46 => absurd c46 (by decide)) (fun c46 => ?_)
          by_cases hcs : c = s % 4
          · have hca : ∀ k, caI (PJ P mt go sh) mt sh k s c = 0 := fun k => if_neg (fun g => g.1 hcs)
            refine as_iload d42_49 rfl ?_
            refine as_iload_n d42_51 rfl ?_
            refine an_iconst 4 d42_52 rfl ?_
            refine an_irem d42_53 (by omega) (by omega) (by omega) ?_
            refine an_icmp_ne 61 d42_54 (by decide) (by omega) (by omega) (fun c54 => absurd hcs c54) (fun c54 => ?_)
            refine an_iconst 0 d42_57 rfl ?_
            refine as_goto 68 d42_58 (by decide) ?_
            refine as_istore d42_68 (by decide) ?_
            refine an_iconst 0 d42_70 rfl ?_
            refine as_istore d42_71 (by decide) ?_
            refine as_iload d42_73 rfl ?_
            refine as_iload d42_75 rfl ?_
            refine an_icmp_ge 113 d42_77 (by decide) (by omega) (by omega) (fun c77 => ?_) (fun c77 => by omega)
            refine an_iinc 1 d42_113 rfl rfl (by decide) ?_
            refine as_goto 38 d42_116 (by decide) ?_
            refine AW.loc [(0, .ref (179)), (1, .ref (1)), (2, .ref (178)), (3, .int (nI (s))), (4, .int (nI (1))), (5, .int (nI (c + 1)))] (am_pick [3, 4, 5, 6, 7, 0] rfl rfl) ?_
            have ihc := ihc (T1) (by first | exact ⟨hX2.1, fun k hk => by rw [fsum_s, hca, ← Nat.add_assoc]; exact hX2.2 k hk⟩ | exact ⟨hI1.1, fun k hk => by rw [fsum_s, hca]; exact hI1.2 k hk⟩)
            exact ihc
          · have hca : ∀ k, caI (PJ P mt go sh) mt sh k s c = cnt (caB (PJ P mt go sh) sh s c k) (arcP sh (s / 4) (s % 4) c) := fun k => if_pos ⟨hcs, hsd⟩
            have hb1 := arcP_le (fun i hi => (hS i hi).2) (p := s / 4) (f := s % 4) (c := c) (by omega) (by omega) hc hcs
            refine as_iload d42_49 rfl ?_
            refine as_iload_n d42_51 rfl ?_
            refine an_iconst 4 d42_52 rfl ?_
            refine an_irem d42_53 (by omega) (by omega) (by omega) ?_
            refine an_icmp_ne 61 d42_54 (by decide) (by omega) (by omega) (fun c54 => ?_) (fun c54 => absurd c54 hcs)
            refine as_aload_n d42_61 rfl ?_
            refine as_iload_n d42_62 rfl ?_
            refine as_iload d42_63 rfl ?_
            refine ac_s3 d42_65 c42_76 (by decide) (Nat.le_of_ble_eq_true rfl) (mc_arcsAround X _ _ _ _ sh (by decide) isI178 (fun i hi => (hST1 i hi).1) (by omega) (by omega) (by omega)) ?_
            refine as_istore d42_68 (by decide) ?_
            refine an_iconst 0 d42_70 rfl ?_
            refine as_istore d42_71 (by decide) ?_
            refine AW.loc [(0, .ref (179)), (1, .ref (1)), (2, .ref (178)), (3, .int (nI (s))), (4, .int (nI (1))), (5, .int (nI (c))), (6, .int (nI (arcP sh (s / 4) (s % 4) c))), (7, .int (nI (0)))] (am_pick [2, 3, 4, 5, 6, 7, 1, 0] rfl rfl) ?_
            refine aw_fromE (fun i T2 => ((73, [(0, .ref (179)), (1, .ref (1)), (2, .ref (178)), (3, .int (nI (s))), (4, .int (nI (1))), (5, .int (nI (c))), (6, .int (nI (arcP sh (s / 4) (s % 4) c))), (7, .int (nI (i)))], [], 208, HP (T2), 0, 0) : am_Z)) (fun i T2 => (pcKeep S T2 ∧ GS T2 180 (fsum sh 21) (PJ P mt go sh) ∧ PFC T2 sh ∧ T2.2.1 187 = S.2.1 187) ∧ ∀ k, k < (cnt (fs (PJ P mt go sh)) (fsum sh 21)) → T2.2.1 188 k = z k - nI (fsum (caO (PJ P mt go sh) mt sh k) s + fsum (caI (PJ P mt go sh) mt sh k s) c + cnt (caB (PJ P mt go sh) sh s c k) (i))) (0) (arcP sh (s / 4) (s % 4) c) (by omega) (T1) (rfl) (hI1) (fun i T2 hi0 hi hI2 ihi => ?_) (fun T2 hX2 => ?_)
            · have hST2 := hS.pc hI2.1.1
              have hx1 := cutN_lt12 hz hs hc hcs hi
              have hgx := gno_lt (J := (PJ P mt go sh)) hx1
              refine as_iload d42_73 rfl ?_
              refine as_iload d42_75 rfl ?_
              refine an_icmp_ge 113 d42_77 (by decide) (by omega) (by omega) (fun c77 => by omega) (fun c77 => ?_)
              refine as_aload_n d42_80 rfl ?_
              refine ap_get d42_81 f42_27 (by decide) rfl rfl ?_
              refine as_aload_n d42_84 rfl ?_
              refine ap_get d42_85 f42_14 (by decide) rfl rfl ?_
              refine ap_get d42_88 f42_102 (by decide) rfl rfl ?_
              refine as_aload_n d42_91 rfl ?_
              refine as_aload_n d42_92 rfl ?_
              refine as_iload_n d42_93 rfl ?_
              refine as_iload d42_94 rfl ?_
              refine as_iload d42_96 rfl ?_
              refine ac_v4 d42_98 c42_84 (by decide) rfl (Nat.le_of_ble_eq_true rfl) (mc_cutAtC X _ s c i sh hST2 hI2.1.2.2.1 (by omega) hc hcs hi) ?_
              refine ap_iald d42_101 (fun _ _ _ _ => rfl) (by decide) (by omega) (by decide) ?_
              refine an_top (e' := nI (gno (PJ P mt go sh) (cutN sh s c i))) (hI2.1.2.1.2.1 _ hx1) ?_
              refine as_dup2 d42_102 rfl rfl ?_
              refine ap_iald d42_103 (fun _ _ _ _ => rfl) (by decide) (by omega) (by decide) ?_
              refine an_iconst 1 d42_104 rfl ?_
              refine as_isub d42_105 ?_
              refine ap_iast d42_106 (fun _ _ _ _ => rfl) (by decide) (by omega) (by decide) ?_
              refine an_iinc 1 d42_107 rfl rfl (by decide) ?_
              refine as_goto 73 d42_110 (by decide) ?_
              refine AW.loc [(0, .ref (179)), (1, .ref (1)), (2, .ref (178)), (3, .int (nI (s))), (4, .int (nI (1))), (5, .int (nI (c))), (6, .int (nI (arcP sh (s / 4) (s % 4) c))), (7, .int (nI (i + 1)))] (am_pick [1, 2, 3, 4, 5, 6, 7, 0] rfl rfl) ?_
              have ihi := ihi ((T2).sa 188 (gno (PJ P mt go sh) (cutN sh s c i)) (((T2).2.1 188 (gno (PJ P mt go sh) (cutN sh s c i))) - nI (1))) (⟨⟨hI2.1.1.sa (by omega) _ _, hI2.1.2.1.keep (sa_row _ _ _ _ (by decide)) (sa_row _ _ _ _ (by decide)) (sa_row _ _ _ _ (by decide)) rfl, hI2.1.2.2.1.keep (sa_row _ _ _ _ (by decide)), by rw [sa_row _ _ _ _ (by decide)]; exact hI2.1.2.2.2⟩, fun k hk => by
                rw [sa_at, cnt_cb]
                by_cases e : k = gno (PJ P mt go sh) (cutN sh s c i)
                · subst e
                  rw [if_pos rfl, hI2.2 _ hgx, if_pos (show caB (PJ P mt go sh) sh s c _ i = true from decide_eq_true rfl), ← Nat.add_assoc]
                  exact (nI_subS _ _ _).symm
                · rw [if_neg e, if_neg (show ¬ caB (PJ P mt go sh) sh s c k i = true from fun q => e (of_decide_eq_true q).symm)]; exact hI2.2 k hk⟩)
              exact ihi
            · refine as_iload d42_73 rfl ?_
              refine as_iload d42_75 rfl ?_
              refine an_icmp_ge 113 d42_77 (by decide) (by omega) (by omega) (fun c77 => ?_) (fun c77 => by omega)
              refine an_iinc 1 d42_113 rfl rfl (by decide) ?_
              refine as_goto 38 d42_116 (by decide) ?_
              refine AW.loc [(0, .ref (179)), (1, .ref (1)), (2, .ref (178)), (3, .int (nI (s))), (4, .int (nI (1))), (5, .int (nI (c + 1)))] (am_pick [1, 2, 3, 4, 5, 0] rfl rfl) ?_
              have ihc := ihc (T2) (by first | exact ⟨hX2.1, fun k hk => by rw [fsum_s, hca, ← Nat.add_assoc]; exact hX2.2 k hk⟩ | exact ⟨hI1.1, fun k hk => by rw [fsum_s, hca]; exact hI1.2 k hk⟩)
              exact ihc
        · refine as_iload d42_38 rfl ?_
          refine an_iconst 4 d42_40 rfl ?_
          refine an_icmp_ge 119 d42_41 (by decide) (by omega) (by omega) (fun c41 => ?_) (fun c41 => by omega)
          refine an_iinc 1 d42_119 rfl rfl (by decide) ?_
          refine as_goto 2 d42_122 (by decide) ?_
          refine AW.loc [(0, .ref (179)), (1, .ref (1)), (2, .ref (178)), (3, .int (nI (s + 1)))] (am_pick [1, 2, 3, 0] rfl rfl) ?_
          have ihs := ihs (T1) (by first | exact ⟨hX1.1, fun k hk => by rw [hco]; exact hX1.2 k hk⟩ | exact ⟨hI.1, fun k hk => by rw [hco]; exact hI.2 k hk⟩)
          exact ihs
      · have hnn := (sdP0_iff.mp hsd).resolve_left (fun q => c17 (by rw [if_pos q]))
        refine as_aload_n d42_20 rfl ?_
        refine as_iload_n d42_21 rfl ?_
        refine ac_v1 d42_22 c42_43 (by decide) rfl (Nat.le_of_ble_eq_true rfl) (mc_isLesser X _ P mt go _ hG hDT.1 (by omega)) ?_
        refine as_if_eq 32 d42_25 (by decide) (fun c25 => absurd hnn (am_b01.mp c25)) (fun c25 => ?_)
        refine an_iconst 1 d42_28 rfl ?_
        refine as_goto 33 d42_29 (by decide) ?_
        refine as_istore d42_33 (by decide) ?_
        refine an_iconst 0 d42_35 rfl ?_
        refine as_istore d42_36 (by decide) ?_
        refine AW.loc [(0, .ref (179)), (1, .ref (1)), (2, .ref (178)), (3, .int (nI (s))), (4, .int (nI (1))), (5, .int (nI (0)))] (am_pick [2, 3, 4, 5, 1, 0] rfl rfl) ?_
        refine aw_fromE (fun c T1 => ((38, [(0, .ref (179)), (1, .ref (1)), (2, .ref (178)), (3, .int (nI (s))), (4, .int (nI (1))), (5, .int (nI (c)))], [], 208, HP (T1), 0, 0) : am_Z)) (fun c T1 => (pcKeep S T1 ∧ GS T1 180 (fsum sh 21) (PJ P mt go sh) ∧ PFC T1 sh ∧ T1.2.1 187 = S.2.1 187) ∧ ∀ k, k < (cnt (fs (PJ P mt go sh)) (fsum sh 21)) → T1.2.1 188 k = z k - nI (fsum (caO (PJ P mt go sh) mt sh k) s + fsum (caI (PJ P mt go sh) mt sh k s) (c))) (0) (4) (by omega) (T) (rfl) (hI) (fun c T1 hc0 hc hI1 ihc => ?_) (fun T1 hX1 => ?_)
        · have hST1 := hS.pc hI1.1.1
          refine as_iload d42_38 rfl ?_
          refine an_iconst 4 d42_40 rfl ?_
          refine an_icmp_ge 119 d42_41 (by decide) (by omega) (by omega) (fun c41 => by omega) (fun c41 => ?_)
          refine as_iload d42_44 rfl ?_
          refine an_if_eq 119 d42_46 (by decide) (by omega) (fun c46 => absurd c46 (by decide)) (fun c46 => ?_)
          by_cases hcs : c = s % 4
          · have hca : ∀ k, caI (PJ P mt go sh) mt sh k s c = 0 := fun k => if_neg (fun g => g.1 hcs)
            refine as_iload d42_49 rfl ?_
            refine as_iload_n d42_51 rfl ?_
            refine an_iconst 4 d42_52 rfl ?_
            refine an_irem d42_53 (by omega) (by omega) (by omega) ?_
            refine an_icmp_ne 61 d42_54 (by decide) (by omega) (by omega) (fun c54 => absurd hcs c54) (fun c54 => ?_)
            refine an_iconst 0 d42_57 rfl ?_
            refine as_goto 68 d42_58 (by decide) ?_
            refine as_istore d42_68 (by decide) ?_
            refine an_iconst 0 d42_70 rfl ?_
            refine as_istore d42_71 (by decide) ?_
            refine as_iload d42_73 rfl ?_
            refine as_iload d42_75 rfl ?_
            refine an_icmp_ge 113 d42_77 (by decide) (by omega) (by omega) (fun c77 => ?_) (fun c77 => by omega)
            refine an_iinc 1 d42_113 rfl rfl (by decide) ?_
            refine as_goto 38 d42_116 (by decide) ?_
            refine AW.loc [(0, .ref (179)), (1, .ref (1)), (2, .ref (178)), (3, .int (nI (s))), (4, .int (nI (1))), (5, .int (nI (c + 1)))] (am_pick [3, 4, 5, 6, 7, 0] rfl rfl) ?_
            have ihc := ihc (T1) (by first | exact ⟨hX2.1, fun k hk => by rw [fsum_s, hca, ← Nat.add_assoc]; exact hX2.2 k hk⟩ | exact ⟨hI1.1, fun k hk => by rw [fsum_s, hca]; exact hI1.2 k hk⟩)
            exact ihc
          · have hca : ∀ k, caI (PJ P mt go sh) mt sh k s c = cnt (caB (PJ P mt go sh) sh s c k) (arcP sh (s / 4) (s % 4) c) := fun k => if_pos ⟨hcs, hsd⟩
            have hb1 := arcP_le (fun i hi => (hS i hi).2) (p := s / 4) (f := s % 4) (c := c) (by omega) (by omega) hc hcs
            refine as_iload d42_49 rfl ?_
            refine as_iload_n d42_51 rfl ?_
            refine an_iconst 4 d42_52 rfl ?_
            refine an_irem d42_53 (by omega) (by omega) (by omega) ?_
            refine an_icmp_ne 61 d42_54 (by decide) (by omega) (by omega) (fun c54 => ?_) (fun c54 => absurd c54 hcs)
            refine as_aload_n d42_61 rfl ?_
            refine as_iload_n d42_62 rfl ?_
            refine as_iload d42_63 rfl ?_
            refine ac_s3 d42_65 c42_76 (by decide) (Nat.le_of_ble_eq_true rfl) (mc_arcsAround X _ _ _ _ sh (by decide) isI178 (fun i hi => (hST1 i hi).1) (by omega) (by omega) (by omega)) ?_
            refine as_istore d42_68 (by decide) ?_
            refine an_iconst 0 d42_70 rfl ?_
            refine as_istore d42_71 (by decide) ?_
            refine AW.loc [(0, .ref (179)), (1, .ref (1)), (2, .ref (178)), (3, .int (nI (s))), (4, .int (nI (1))), (5, .int (nI (c))), (6, .int (nI (arcP sh (s / 4) (s % 4) c))), (7, .int (nI (0)))] (am_pick [2, 3, 4, 5, 6, 7, 1, 0] rfl rfl) ?_
            refine aw_fromE (fun i T2 => ((73, [(0, .ref (179)), (1, .ref (1)), (2, .ref (178)), (3, .int (nI (s))), (4, .int (nI (1))), (5, .int (nI (c))), (6, .int (nI (arcP sh (s / 4) (s % 4) c))), (7, .int (nI (i)))], [], 208, HP (T2), 0, 0) : am_Z)) (fun i T2 => (pcKeep S T2 ∧ GS T2 180 (fsum sh 21) (PJ P mt go sh) ∧ PFC T2 sh ∧ T2.2.1 187 = S.2.1 187) ∧ ∀ k, k < (cnt (fs (PJ P mt go sh)) (fsum sh 21)) → T2.2.1 188 k = z k - nI (fsum (caO (PJ P mt go sh) mt sh k) s + fsum (caI (PJ P mt go sh) mt sh k s) c + cnt (caB (PJ P mt go sh) sh s c k) (i))) (0) (arcP sh (s / 4) (s % 4) c) (by omega) (T1) (rfl) (hI1) (fun i T2 hi0 hi hI2 ihi => ?_) (fun T2 hX2 => ?_)
            · have hST2 := hS.pc hI2.1.1
              have hx1 := cutN_lt12 hz hs hc hcs hi
              have hgx := gno_lt (J := (PJ P mt go sh)) hx1
              refine as_iload d42_73 rfl ?_
              refine as_iload d42_75 rfl ?_
              refine an_icmp_ge 113 d42_77 (by decide) (by omega) (by omega) (fun c77 => by omega) (fun c77 => ?_)
              refine as_aload_n d42_80 rfl ?_
              refine ap_get d42_81 f42_27 (by decide) rfl rfl ?_
              refine as_aload_n d42_84 rfl ?_
              refine ap_get d42_85 f42_14 (by decide) rfl rfl ?_
              refine ap_get d42_88 f42_102 (by decide) rfl rfl ?_
              refine as_aload_n d42_91 rfl ?_
              refine as_aload_n d42_92 rfl ?_
              refine as_iload_n d42_93 rfl ?_
              refine as_iload d42_94 rfl ?_
              refine as_iload d42_96 rfl ?_
              refine ac_v4 d42_98 c42_84 (by decide) rfl (Nat.le_of_ble_eq_true rfl) (mc_cutAtC X _ s c i sh hST2 hI2.1.2.2.1 (by omega) hc hcs hi) ?_
              refine ap_iald d42_101 (fun _ _ _ _ => rfl) (by decide) (by omega) (by decide) ?_
              refine an_top (e' := nI (gno (PJ P mt go sh) (cutN sh s c i))) (hI2.1.2.1.2.1 _ hx1) ?_
              refine as_dup2 d42_102 rfl rfl ?_
              refine ap_iald d42_103 (fun _ _ _ _ => rfl) (by decide) (by omega) (by decide) ?_
              refine an_iconst 1 d42_104 rfl ?_
              refine as_isub d42_105 ?_
              refine ap_iast d42_106 (fun _ _ _ _ => rfl) (by decide) (by omega) (by decide) ?_
              refine an_iinc 1 d42_107 rfl rfl (by decide) ?_
              refine as_goto 73 d42_110 (by decide) ?_
              refine AW.loc [(0, .ref (179)), (1, .ref (1)), (2, .ref (178)), (3, .int (nI (s))), (4, .int (nI (1))), (5, .int (nI (c))), (6, .int (nI (arcP sh (s / 4) (s % 4) c))), (7, .int (nI (i + 1)))] (am_pick [1, 2, 3, 4, 5, 6, 7, 0] rfl rfl) ?_
              have ihi := ihi ((T2).sa 188 (gno (PJ P mt go sh) (cutN sh s c i)) (((T2).2.1 188 (gno (PJ P mt go sh) (cutN sh s c i))) - nI (1))) (⟨⟨hI2.1.1.sa (by omega) _ _, hI2.1.2.1.keep (sa_row _ _ _ _ (by decide)) (sa_row _ _ _ _ (by decide)) (sa_row _ _ _ _ (by decide)) rfl, hI2.1.2.2.1.keep (sa_row _ _ _ _ (by decide)), by rw [sa_row _ _ _ _ (by decide)]; exact hI2.1.2.2.2⟩, fun k hk => by
                rw [sa_at, cnt_cb]
                by_cases e : k = gno (PJ P mt go sh) (cutN sh s c i)
                · subst e
                  rw [if_pos rfl, hI2.2 _ hgx, if_pos (show caB (PJ P mt go sh) sh s c _ i = true from decide_eq_true rfl), ← Nat.add_assoc]
                  exact (nI_subS _ _ _).symm
                · rw [if_neg e, if_neg (show ¬ caB (PJ P mt go sh) sh s c k i = true from fun q => e (of_decide_eq_true q).symm)]; exact hI2.2 k hk⟩)
              exact ihi
            · refine as_iload d42_73 rfl ?_
              refine as_iload d42_75 rfl ?_
              refine an_icmp_ge 113 d42_77 (by decide) (by omega) (by omega) (fun c77 => ?_) (fun c77 => by omega)
              refine an_iinc 1 d42_113 rfl rfl (by decide) ?_
              refine as_goto 38 d42_116 (by decide) ?_
              refine AW.loc [(0, .ref (179)), (1, .ref (1)), (2, .ref (178)), (3, .int (nI (s))), (4, .int (nI (1))), (5, .int (nI (c + 1)))] (am_pick [1, 2, 3, 4, 5, 0] rfl rfl) ?_
              have ihc := ihc (T2) (by first | exact ⟨hX2.1, fun k hk => by rw [fsum_s, hca, ← Nat.add_assoc]; exact hX2.2 k hk⟩ | exact ⟨hI1.1, fun k hk => by rw [fsum_s, hca]; exact hI1.2 k hk⟩)
              exact ihc
        · refine as_iload d42_38 rfl ?_
          refine an_iconst 4 d42_40 rfl ?_
          refine an_icmp_ge 119 d42_41 (by decide) (by omega) (by omega) (fun c41 => ?_) (fun c41 => by omega)
          refine an_iinc 1 d42_119 rfl rfl (by decide) ?_
          refine as_goto 2 d42_122 (by decide) ?_
          refine AW.loc [(0, .ref (179)), (1, .ref (1)), (2, .ref (178)), (3, .int (nI (s + 1)))] (am_pick [1, 2, 3, 0] rfl rfl) ?_
          have ihs := ihs (T1) (by first | exact ⟨hX1.1, fun k hk => by rw [hco]; exact hX1.2 k hk⟩ | exact ⟨hI.1, fun k hk => by rw [hco]; exact hI.2 k hk⟩)
          exact ihs
    · have hco : ∀ k, fsum (caO (PJ P mt go sh) mt sh k) (s + 1) = fsum (caO (PJ P mt go sh) mt sh k) s := fun k => fs_eq (caO_0 hsd)
      refine as_aload_n d42_12 rfl ?_
      refine as_iload_n d42_13 rfl ?_
      refine ac_v1 d42_14 c42_105 (by decide) rfl (Nat.le_of_ble_eq_true rfl) (mc_isGlued X _ P mt go _ hG hDT.1 (by omega)) ?_
      refine as_if_eq 28 d42_17 (by decide) (fun c17 => ?_) (fun c17 => ?_)
      · exact absurd (sdP0_iff.mpr (Or.inl (Classical.byContradiction (fun q => by rw [if_neg q] at c17; cases c17)))) hsd
      · refine as_aload_n d42_20 rfl ?_
        refine as_iload_n d42_21 rfl ?_
        refine ac_v1 d42_22 c42_43 (by decide) rfl (Nat.le_of_ble_eq_true rfl) (mc_isLesser X _ P mt go _ hG hDT.1 (by omega)) ?_
        refine as_if_eq 32 d42_25 (by decide) (fun c25 => ?_) (fun c25 => absurd (sdP0_iff.mpr (Or.inr (am_b1 c25))) hsd)
        refine an_iconst 0 d42_32 rfl ?_
        refine as_istore d42_33 (by decide) ?_
        refine an_iconst 0 d42_35 rfl ?_
        refine as_istore d42_36 (by decide) ?_
        refine as_iload d42_38 rfl ?_
        refine an_iconst 4 d42_40 rfl ?_
        refine an_icmp_ge 119 d42_41 (by decide) (by omega) (by omega) (fun c41 => by omega) (fun c41 => ?_)
        refine as_iload d42_44 rfl ?_
        refine an_if_eq 119 d42_46 (by decide) (by omega) (fun c46 => ?_) (fun c46 => absurd c46 (by decide))
        refine an_iinc 1 d42_119 rfl rfl (by decide) ?_
        refine as_goto 2 d42_122 (by decide) ?_
        refine AW.loc [(0, .ref (179)), (1, .ref (1)), (2, .ref (178)), (3, .int (nI (s + 1)))] (am_pick [3, 4, 5, 0] rfl rfl) ?_
        have ihs := ihs (T) (by first | exact ⟨hX1.1, fun k hk => by rw [hco]; exact hX1.2 k hk⟩ | exact ⟨hI.1, fun k hk => by rw [hco]; exact hI.2 k hk⟩)
        exact ihs
  · refine as_iload_n d42_2 rfl ?_
    refine an_iconst 4 d42_3 rfl ?_
    refine as_aload_n d42_4 rfl ?_
    refine ap_get d42_5 f42_37 (by decide) rfl rfl ?_
    refine an_top (e' := nI (P)) ((hD.pc hX.1.1).1.1) ?_
    refine an_imul d42_8 ?_
    refine an_icmp_ge 125 d42_9 (by decide) (by omega) (by omega) (fun c9 => ?_) (fun c9 => by omega)
    refine as_return d42_125 t42 ?_
    exact ⟨_, _, rfl, rfl, hX⟩
theorem mx_countPoints (X : am_X) (S : MS) (P : Nat) (mt : Nat → Option Nat) (go : Nat → Nat) (sh : Nat → Nat) (hG : GW P mt go) (hD : SD S P mt go) (hS : SHC S sh) (hFt : Fits P mt go sh) (hz : fsum sh 21 = fsum sh (7 * P)) (hN : fsum sh 21 ≤ 400) (hF : PFC S sh) (hJ : GS S 180 (fsum sh 21) (PJ P mt go sh)) (z : Nat → Int32) (hz0 : ∀ k, k < (cnt (fs (PJ P mt go sh)) (fsum sh 21)) → S.2.1 188 k = z k) : ∃ T, MC X 43 [.ref (179), .ref (1), .ref (178)] S none T ∧ (pcKeep S T ∧ GS T 180 (fsum sh 21) (PJ P mt go sh) ∧ PFC T sh ∧ T.2.1 187 = S.2.1 187) ∧ ∀ k, k < (cnt (fs (PJ P mt go sh)) (fsum sh 21)) → T.2.1 188 k = z k + nI (fsum (fun m => if fs (EJ P mt go) m = true then fsum (cpI (PJ P mt go sh) sh k m) 7 else 0) (6 * P)) := by
  have hP := hG.1
  have hcl := cnt_le (fs (PJ P mt go sh)) (fsum sh 21)
  have hce := cnt_le (fs (EJ P mt go)) (6 * P)
  have key := MX.mc (X := X) (mj := 43) (as := [.ref (179), .ref (1), .ref (178)]) (S := S) (Post := fun v T => v = none ∧ (pcKeep S T ∧ GS T 180 (fsum sh 21) (PJ P mt go sh) ∧ PFC T sh ∧ T.2.1 187 = S.2.1 187) ∧ ∀ k, k < (cnt (fs (PJ P mt go sh)) (fsum sh 21)) → T.2.1 188 k = z k + nI (fsum (fun m => if fs (EJ P mt go) m = true then fsum (cpI (PJ P mt go sh) sh k m) 7 else 0) (6 * P))) ?_
  · obtain ⟨v, T, g1, g2, g3⟩ := key
    subst g2
    exact ⟨T, g1, g3⟩
  refine MX.of (Nat.le_of_ble_eq_true rfl) ?_
  refine an_iconst 0 d43_0 rfl ?_
  refine as_istore_n d43_1 (by decide) ?_
  refine AW.loc [(0, .ref (179)), (1, .ref (1)), (2, .ref (178)), (3, .int (nI (0)))] (am_pick [1, 2, 3, 0] rfl rfl) ?_
  refine aw_fromE (fun e T => ((2, [(0, .ref (179)), (1, .ref (1)), (2, .ref (178)), (3, .int (nI (e)))], [], 208, HP (T), 0, 0) : am_Z)) (fun e T => (pcKeep S T ∧ GS T 180 (fsum sh 21) (PJ P mt go sh) ∧ PFC T sh ∧ T.2.1 187 = S.2.1 187) ∧ ∀ k, k < (cnt (fs (PJ P mt go sh)) (fsum sh 21)) → T.2.1 188 k = z k + nI (fsum (fun e9 => fsum (cpI (PJ P mt go sh) sh k (nth (fs (EJ P mt go)) e9)) 7) (e))) (0) (cnt (fs (EJ P mt go)) (6 * P)) (by omega) (S) (rfl) (⟨⟨pcKeep.rf S, hJ, hF, rfl⟩, fun k hk => by show _ = z k + nI 0; rw [nI_0, Int32.add_zero]; exact hz0 k hk⟩) (fun e T he0 he hI ihe => ?_) (fun T hX => ?_)
  · have hDT := hD.pc hI.1.1
    obtain ⟨n1, n2, n3⟩ := nth_spec he
    have hfst : T.2.1 15 e = nI (nth (fs (EJ P mt go)) e) := by
      have q := (hDT.2.2.1.2.2 _ n1 n2).1
      rw [n3] at q
      exact q
    refine as_iload_n d43_2 rfl ?_
    refine as_aload_n d43_3 rfl ?_
    refine ap_get d43_4 f43_108 (by decide) rfl rfl ?_
    refine ap_get d43_7 f43_99 (by decide) rfl rfl ?_
    refine an_top (e' := nI (cnt (fs (EJ P mt go)) (6 * P))) (hDT.2.2.1.1) ?_
    refine an_icmp_ge 125 d43_10 (by decide) (by omega) (by omega) (fun c10 => by omega) (fun c10 => ?_)
    refine as_aload_n d43_13 rfl ?_
    refine ap_get d43_14 f43_108 (by decide) rfl rfl ?_
    refine ap_get d43_17 f43_111 (by decide) rfl rfl ?_
    refine as_iload_n d43_20 rfl ?_
    refine ap_iald d43_21 (fun _ _ _ _ => rfl) (by decide) (by omega) (by decide) ?_
    refine an_top (e' := nI (nth (fs (EJ P mt go)) e)) (hfst) ?_
    refine as_istore d43_22 (by decide) ?_
    refine an_iconst 0 d43_24 rfl ?_
    refine as_istore d43_25 (by decide) ?_
    refine AW.loc [(0, .ref (179)), (1, .ref (1)), (2, .ref (178)), (3, .int (nI (e))), (4, .int (nI (nth (fs (EJ P mt go)) e))), (5, .int (nI (0)))] (am_pick [2, 3, 4, 5, 1, 0] rfl rfl) ?_
    refine aw_fromE (fun q T1 => ((27, [(0, .ref (179)), (1, .ref (1)), (2, .ref (178)), (3, .int (nI (e))), (4, .int (nI (nth (fs (EJ P mt go)) e))), (5, .int (nI (q)))], [], 208, HP (T1), 0, 0) : am_Z)) (fun q T1 => (pcKeep S T1 ∧ GS T1 180 (fsum sh 21) (PJ P mt go sh) ∧ PFC T1 sh ∧ T1.2.1 187 = S.2.1 187) ∧ ∀ k, k < (cnt (fs (PJ P mt go sh)) (fsum sh 21)) → T1.2.1 188 k = z k + nI (fsum (fun e9 => fsum (cpI (PJ P mt go sh) sh k (nth (fs (EJ P mt go)) e9)) 7) e + fsum (cpI (PJ P mt go sh) sh k (nth (fs (EJ P mt go)) e)) (q))) (0) (7) (by omega) (T) (rfl) (hI) (fun q T1 hq0 hq hI1 ihq => ?_) (fun T1 hX1 => ?_)
    · have hST1 := hS.pc hI1.1.1
      have b9 := (hS (7 * (nth (fs (EJ P mt go)) e / 6) + q) (by omega)).2
      refine as_iload d43_27 rfl ?_
      refine an_bipush 7 d43_29 rfl ?_
      refine an_icmp_ge 119 d43_31 (by decide) (by omega) (by omega) (fun c31 => by omega) (fun c31 => ?_)
      refine an_bipush 7 d43_34 rfl ?_
      refine as_iload d43_36 rfl ?_
      refine an_bipush 6 d43_38 rfl ?_
      refine an_idiv d43_40 (by omega) (by omega) (by omega) ?_
      refine an_imul d43_41 ?_
      refine as_iload d43_42 rfl ?_
      refine an_iadd d43_44 ?_
      refine as_istore d43_45 (by decide) ?_
      refine as_iload d43_47 rfl ?_
      refine as_iload d43_49 rfl ?_
      refine an_bipush 6 d43_51 rfl ?_
      refine an_irem d43_53 (by omega) (by omega) (by omega) ?_
      refine ac_s2 d43_54 c43_114 (by decide) (Nat.le_of_ble_eq_true rfl) (mc_meetsC X _ _ _ (by omega) (by omega)) ?_
      refine as_if_eq 67 d43_57 (by decide) (fun c57 => ?_) (fun c57 => ?_)
      · have hca : ∀ k, cpI (PJ P mt go sh) sh k (nth (fs (EJ P mt go)) e) q = 0 := fun k => if_neg (am_b01.mp c57)
        refine an_iconst 0 d43_67 rfl ?_
        refine as_istore d43_68 (by decide) ?_
        refine an_iconst 0 d43_70 rfl ?_
        refine as_istore d43_71 (by decide) ?_
        refine as_iload d43_73 rfl ?_
        refine as_iload d43_75 rfl ?_
        refine an_icmp_ge 113 d43_77 (by decide) (by omega) (by omega) (fun c77 => ?_) (fun c77 => by omega)
        refine an_iinc 1 d43_113 rfl rfl (by decide) ?_
        refine as_goto 27 d43_116 (by decide) ?_
        refine AW.loc [(0, .ref (179)), (1, .ref (1)), (2, .ref (178)), (3, .int (nI (e))), (4, .int (nI (nth (fs (EJ P mt go)) e))), (5, .int (nI (q + 1)))] (am_pick [4, 5, 6, 7, 8, 0] rfl rfl) ?_
        have ihq := ihq (T1) (by first | exact ⟨hX2.1, fun k hk => by rw [fsum_s, hca, ← Nat.add_assoc]; exact hX2.2 k hk⟩ | exact ⟨hI1.1, fun k hk => by rw [fsum_s, hca]; exact hI1.2 k hk⟩)
        exact ihq
      · have hca : ∀ k, cpI (PJ P mt go sh) sh k (nth (fs (EJ P mt go)) e) q = cnt (cpB (PJ P mt go sh) sh (nth (fs (EJ P mt go)) e) q k) (sh (7 * (nth (fs (EJ P mt go)) e / 6) + q)) := fun k => if_pos (am_b1 c57)
        refine as_aload_n d43_60 rfl ?_
        refine as_iload d43_61 rfl ?_
        refine ap_iald d43_63 (fun _ _ _ _ => rfl) (by decide) (by omega) (by decide) ?_
        refine an_top (e' := nI (sh (7 * (nth (fs (EJ P mt go)) e / 6) + q))) ((hST1 _ (by omega)).1) ?_
        refine as_goto 68 d43_64 (by decide) ?_
        refine as_istore d43_68 (by decide) ?_
        refine an_iconst 0 d43_70 rfl ?_
        refine as_istore d43_71 (by decide) ?_
        refine AW.loc [(0, .ref (179)), (1, .ref (1)), (2, .ref (178)), (3, .int (nI (e))), (4, .int (nI (nth (fs (EJ P mt go)) e))), (5, .int (nI (q))), (6, .int (nI (((7) * ((nth (fs (EJ P mt go)) e) / (6))) + (q)))), (7, .int (nI (sh (7 * (nth (fs (EJ P mt go)) e / 6) + q)))), (8, .int (nI (0)))] (am_pick [3, 4, 5, 6, 7, 8, 2, 1, 0] rfl rfl) ?_
        refine aw_fromE (fun i T2 => ((73, [(0, .ref (179)), (1, .ref (1)), (2, .ref (178)), (3, .int (nI (e))), (4, .int (nI (nth (fs (EJ P mt go)) e))), (5, .int (nI (q))), (6, .int (nI (7 * (nth (fs (EJ P mt go)) e / 6) + q))), (7, .int (nI (sh (7 * (nth (fs (EJ P mt go)) e / 6) + q)))), (8, .int (nI (i)))], [], 208, HP (T2), 0, 0) : am_Z)) (fun i T2 => (pcKeep S T2 ∧ GS T2 180 (fsum sh 21) (PJ P mt go sh) ∧ PFC T2 sh ∧ T2.2.1 187 = S.2.1 187) ∧ ∀ k, k < (cnt (fs (PJ P mt go sh)) (fsum sh 21)) → T2.2.1 188 k = z k + nI (fsum (fun e9 => fsum (cpI (PJ P mt go sh) sh k (nth (fs (EJ P mt go)) e9)) 7) e + fsum (cpI (PJ P mt go sh) sh k (nth (fs (EJ P mt go)) e)) q + cnt (cpB (PJ P mt go sh) sh (nth (fs (EJ P mt go)) e) q k) (i))) (0) (sh (7 * (nth (fs (EJ P mt go)) e / 6) + q)) (by omega) (T1) (rfl) (hI1) (fun i T2 hi0 hi hI2 ihi => ?_) (fun T2 hX2 => ?_)
        · have hx1 : fsum sh (7 * (nth (fs (EJ P mt go)) e / 6) + q) + i < fsum sh 21 := by
            have := fsum_step sh (show 7 * (nth (fs (EJ P mt go)) e / 6) + q < 21 by omega)
            omega
          have hgx := gno_lt (J := (PJ P mt go sh)) hx1
          refine as_iload d43_73 rfl ?_
          refine as_iload d43_75 rfl ?_
          refine an_icmp_ge 113 d43_77 (by decide) (by omega) (by omega) (fun c77 => by omega) (fun c77 => ?_)
          refine as_aload_n d43_80 rfl ?_
          refine ap_get d43_81 f43_27 (by decide) rfl rfl ?_
          refine as_aload_n d43_84 rfl ?_
          refine ap_get d43_85 f43_14 (by decide) rfl rfl ?_
          refine ap_get d43_88 f43_102 (by decide) rfl rfl ?_
          refine as_aload_n d43_91 rfl ?_
          refine ap_get d43_92 f43_20 (by decide) rfl rfl ?_
          refine as_iload d43_95 rfl ?_
          refine ap_iald d43_97 (fun _ _ _ _ => rfl) (by decide) (by omega) (by decide) ?_
          refine an_top (e' := nI (fsum sh (7 * (nth (fs (EJ P mt go)) e / 6) + q))) (hI2.1.2.2.1 _ (by omega)) ?_
          refine as_iload d43_98 rfl ?_
          refine an_iadd d43_100 ?_
          refine ap_iald d43_101 (fun _ _ _ _ => rfl) (by decide) (by omega) (by decide) ?_
          refine an_top (e' := nI ((gno (PJ P mt go sh) (fsum sh (7 * (nth (fs (EJ P mt go)) e / 6) + q) + i)))) (hI2.1.2.1.2.1 _ hx1) ?_
          refine as_dup2 d43_102 rfl rfl ?_
          refine ap_iald d43_103 (fun _ _ _ _ => rfl) (by decide) (by omega) (by decide) ?_
          refine an_iconst 1 d43_104 rfl ?_
          refine as_iadd d43_105 ?_
          refine ap_iast d43_106 (fun _ _ _ _ => rfl) (by decide) (by omega) (by decide) ?_
          refine an_iinc 1 d43_107 rfl rfl (by decide) ?_
          refine as_goto 73 d43_110 (by decide) ?_
          refine AW.loc [(0, .ref (179)), (1, .ref (1)), (2, .ref (178)), (3, .int (nI (e))), (4, .int (nI (nth (fs (EJ P mt go)) e))), (5, .int (nI (q))), (6, .int (nI (7 * (nth (fs (EJ P mt go)) e / 6) + q))), (7, .int (nI (sh (7 * (nth (fs (EJ P mt go)) e / 6) + q)))), (8, .int (nI (i + 1)))] (am_pick [1, 2, 3, 4, 5, 6, 7, 8, 0] rfl rfl) ?_
          have ihi := ihi ((T2).sa 188 ((gno (PJ P mt go sh) (fsum sh (7 * (nth (fs (EJ P mt go)) e / 6) + q) + i))) (((T2).2.1 188 ((gno (PJ P mt go sh) (fsum sh (7 * (nth (fs (EJ P mt go)) e / 6) + q) + i)))) + nI (1))) (⟨⟨hI2.1.1.sa (by omega) _ _, hI2.1.2.1.keep (sa_row _ _ _ _ (by decide)) (sa_row _ _ _ _ (by decide)) (sa_row _ _ _ _ (by decide)) rfl, hI2.1.2.2.1.keep (sa_row _ _ _ _ (by decide)), by rw [sa_row _ _ _ _ (by decide)]; exact hI2.1.2.2.2⟩, fun k hk => by
            rw [sa_at, cnt_cb]
            by_cases e8 : k = (gno (PJ P mt go sh) (fsum sh (7 * (nth (fs (EJ P mt go)) e / 6) + q) + i))
            · subst e8
              rw [if_pos rfl, hI2.2 _ hgx, if_pos (show cpB (PJ P mt go sh) sh (nth (fs (EJ P mt go)) e) q _ i = true from decide_eq_true rfl), ← Nat.add_assoc]
              exact (nI_addS _ _ _).symm
            · rw [if_neg e8, if_neg (show ¬ cpB (PJ P mt go sh) sh (nth (fs (EJ P mt go)) e) q k i = true from fun w => e8 (of_decide_eq_true w).symm)]; exact hI2.2 k hk⟩)
          exact ihi
        · refine as_iload d43_73 rfl ?_
          refine as_iload d43_75 rfl ?_
          refine an_icmp_ge 113 d43_77 (by decide) (by omega) (by omega) (fun c77 => ?_) (fun c77 => by omega)
          refine an_iinc 1 d43_113 rfl rfl (by decide) ?_
          refine as_goto 27 d43_116 (by decide) ?_
          refine AW.loc [(0, .ref (179)), (1, .ref (1)), (2, .ref (178)), (3, .int (nI (e))), (4, .int (nI (nth (fs (EJ P mt go)) e))), (5, .int (nI (q + 1)))] (am_pick [1, 2, 3, 4, 5, 0] rfl rfl) ?_
          have ihq := ihq (T2) (by first | exact ⟨hX2.1, fun k hk => by rw [fsum_s, hca, ← Nat.add_assoc]; exact hX2.2 k hk⟩ | exact ⟨hI1.1, fun k hk => by rw [fsum_s, hca]; exact hI1.2 k hk⟩)
          exact ihq
    · refine as_iload d43_27 rfl ?_
      refine an_bipush 7 d43_29 rfl ?_
      refine an_icmp_ge 119 d43_31 (by decide) (by omega) (by omega) (fun c31 => ?_) (fun c31 => by omega)
      refine an_iinc 1 d43_119 rfl rfl (by decide) ?_
      refine as_goto 2 d43_122 (by decide) ?_
      refine AW.loc [(0, .ref (179)), (1, .ref (1)), (2, .ref (178)), (3, .int (nI (e + 1)))] (am_pick [1, 2, 3, 0] rfl rfl) ?_
      have ihe := ihe (T1) (hX1)
      exact ihe
  · refine as_iload_n d43_2 rfl ?_
    refine as_aload_n d43_3 rfl ?_
    refine ap_get d43_4 f43_108 (by decide) rfl rfl ?_
    refine ap_get d43_7 f43_99 (by decide) rfl rfl ?_
    refine an_top (e' := nI (cnt (fs (EJ P mt go)) (6 * P))) ((hD.pc hX.1.1).2.2.1.1) ?_
    refine an_icmp_ge 125 d43_10 (by decide) (by omega) (by omega) (fun c10 => ?_) (fun c10 => by omega)
    refine as_return d43_125 t43 ?_
    exact ⟨_, _, rfl, rfl, hX.1, fun k hk => by rw [hX.2 k hk]; exact congrArg (fun w => z k + nI w) (fsum_nth (fs (EJ P mt go)) (fun m => fsum (cpI (PJ P mt go sh) sh k m) 7) (6 * P))⟩
