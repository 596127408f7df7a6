/-! the class: fill, sortOut, counts -/
theorem mc_fill (X : am_X) (S : MS) (a len : Nat) (v : Int32) (ha : a < 208) (hI : isI a len) (hl : len < 2 ^ 31) : MC X 180 [.ref (a), .int (v)] S none (sRow S a 0 (fun _ => v) len) := by
  refine MC.of (Nat.le_of_ble_eq_true rfl) ?_
  refine an_iconst 0 d180_0 rfl ?_
  refine as_istore_n d180_1 (by decide) ?_
  refine as_aload_n d180_2 rfl ?_
  refine as_alen d180_3 ha (hI _ _ _ _) (by decide) (an_top (e' := nI len) rfl ?_)
  refine as_istore_n d180_4 (by decide) ?_
  refine AW.loc [(0, .ref (a)), (1, .int (v)), (2, .int (nI (0))), (3, .int (nI (len)))] (am_pick [2, 3, 1, 0] rfl rfl) ?_
  refine aw_for (fun i => ((5, [(0, .ref (a)), (1, .int (v)), (2, .int (nI (i))), (3, .int (nI (len)))], [], 208, HP (sRow S a 0 (fun _ => v) (i)), 0, 0) : am_Z)) (len) (by rw [sRow_0]) (fun i hi ih => ?_) ?_
  · refine as_iload_n d180_5 rfl ?_
    refine as_iload_n d180_6 rfl ?_
    refine an_icmp_ge 20 d180_7 (by decide) (by omega) (by omega) (fun c7 => by omega) (fun c7 => ?_)
    refine as_aload_n d180_10 rfl ?_
    refine as_iload_n d180_11 rfl ?_
    refine as_iload_n d180_12 rfl ?_
    refine ap_iast d180_13 hI ha (by omega) hl ?_
    refine an_iinc 1 d180_14 rfl rfl (by decide) ?_
    refine as_goto 5 d180_17 (by decide) ?_
    refine AW.loc [(0, .ref (a)), (1, .int (v)), (2, .int (nI (i + 1))), (3, .int (nI (len)))] (am_pick [1, 2, 0, 3] rfl rfl) ?_
    have eS : sRow S a 0 (fun _ => v) (i + 1) = (sRow S a 0 (fun _ => v) (i)).sa a (i) v := by rw [sRow_s, Nat.zero_add]
    rw [eS] at ih
    exact ih
  · refine as_iload_n d180_5 rfl ?_
    refine as_iload_n d180_6 rfl ?_
    refine an_icmp_ge 20 d180_7 (by decide) (by omega) (by omega) (fun c7 => ?_) (fun c7 => by omega)
    refine as_return d180_20 t180 ?_
    rfl
def CJ (P : Nat) (mt : Nat → Option Nat) (go : Nat → Nat) : LRel := cjR P mt go (4 * P) 0
def EJ (P : Nat) (mt : Nat → Option Nat) (go : Nat → Nat) : LRel := ejR P mt go (4 * P) 0
def SJ (P : Nat) (mt : Nat → Option Nat) (go : Nat → Nat) : LRel := sjR P mt go (4 * P)
/-- the space, sorted out -/
def SD (S : MS) (P : Nat) (mt : Nat → Option Nat) (go : Nat → Nat) : Prop := CG S P mt go ∧ GS S 4 (4 * P) (CJ P mt go) ∧ GS S 10 (6 * P) (EJ P mt go) ∧ GS S 16 P (SJ P mt go)
def spKeep (S T : MS) : Prop := (∀ k, ¬ (4 < k ∧ k ≤ 9) → ¬ (10 < k ∧ k ≤ 15) → ¬ (16 < k ∧ k ≤ 21) → T.2.1 k = S.2.1 k) ∧ T.2.2 = S.2.2 ∧ (∀ i j, ¬ ((i = 4 ∨ i = 10 ∨ i = 16) ∧ (j = 5 ∨ j = 6)) → T.1 i j = S.1 i j)
theorem spKeep.rf (S : MS) : spKeep S S := ⟨fun _ _ _ _ => rfl, rfl, fun _ _ _ => rfl⟩
theorem spKeep.trans {S T U : MS} (h : spKeep S T) (g : spKeep T U) : spKeep S U := ⟨fun k a b c => (g.1 k a b c).trans (h.1 k a b c), g.2.1.trans h.2.1, fun i j a => (g.2.2 i j a).trans (h.2.2 i j a)⟩
theorem sKeep.sp {B : Nat} {S T : MS} (hB : B = 4 ∨ B = 10 ∨ B = 16) (h : sKeep B S T) : spKeep S T := ⟨fun k a b c => h.1 k (by omega), h.2.1, fun i j a => h.2.2 i j (by omega)⟩
theorem CG.sp {S T : MS} {P : Nat} {mt : Nat → Option Nat} {go : Nat → Nat} (h : CG S P mt go) (g : spKeep S T) : CG T P mt go := h.keep (g.2.2 1 0 (by omega)) (g.2.2 1 1 (by omega)) (g.1 2 (by omega) (by omega) (by omega)) (g.1 3 (by omega) (by omega) (by omega))
theorem UG.g {S T : MS} {B B' n : Nat} {J : LRel} (h : UG S B n J) (g : gKeep B' S T) (hB : B + 5 < B' ∨ B' + 5 < B) : UG T B n J := h.keep (by rw [g.2.2]) (g.1 _ (by omega) (by omega) (by omega)) (g.1 _ (by omega) (by omega) (by omega)) (g.1 _ (by omega) (by omega) (by omega))
theorem UG.s {S T : MS} {B B' n : Nat} {J : LRel} (h : UG S B n J) (g : sKeep B' S T) (hB : B + 5 < B' ∨ B' + 5 < B) : UG T B n J := h.keep (g.2.2 _ _ (by omega)) (g.1 _ (by omega)) (g.1 _ (by omega)) (g.1 _ (by omega))
theorem GS.s {S T : MS} {B B' n : Nat} {J : LRel} (h : GS S B n J) (g : sKeep B' S T) (hB : B + 5 < B' ∨ B' + 5 < B) : GS T B n J := h.keep (g.1 _ (by omega)) (g.1 _ (by omega)) (g.1 _ (by omega)) (g.2.2 _ _ (by omega))
theorem UG.zero {S : MS} {B n : Nat} {J : LRel} (h : UM S B n (fun x => x) (fun _ => 0) (fun _ => 0)) (hJ : ∀ x y b, ¬ J x y b) : UG S B n J := by
  have e : UG S B n (fun _ _ _ => False) := ⟨_, _, _, _, _, h, UP.zero⟩
  exact e.eq (fun x y b => ⟨fun g => g.elim, fun g => hJ x y b g⟩)
theorem mx_settleU4 (X : am_X) (S : MS) (n : Nat) (J : LRel) (hn : n ≤ 12) (h : UG S 4 n J) : ∃ T, MC X 4 [.ref (4)] S none T ∧ sKeep 4 S T ∧ GS T 4 n J := by
  obtain ⟨pa, un, cl, rt, ph, g1, g2⟩ := h
  exact mx_settle4 X S n J pa un cl rt ph hn g1 g2
theorem mx_settleU10 (X : am_X) (S : MS) (n : Nat) (J : LRel) (hn : n ≤ 18) (h : UG S 10 n J) : ∃ T, MC X 4 [.ref (10)] S none T ∧ sKeep 10 S T ∧ GS T 10 n J := by
  obtain ⟨pa, un, cl, rt, ph, g1, g2⟩ := h
  exact mx_settle10 X S n J pa un cl rt ph hn g1 g2
theorem mx_settleU16 (X : am_X) (S : MS) (n : Nat) (J : LRel) (hn : n ≤ 3) (h : UG S 16 n J) : ∃ T, MC X 4 [.ref (16)] S none T ∧ sKeep 16 S T ∧ GS T 16 n J := by
  obtain ⟨pa, un, cl, rt, ph, g1, g2⟩ := h
  exact mx_settle16 X S n J pa un cl rt ph hn g1 g2
theorem mx_settleU180 (X : am_X) (S : MS) (n : Nat) (J : LRel) (hn : n ≤ 400) (h : UG S 180 n J) : ∃ T, MC X 4 [.ref (180)] S none T ∧ sKeep 180 S T ∧ GS T 180 n J := by
  obtain ⟨pa, un, cl, rt, ph, g1, g2⟩ := h
  exact mx_settle180 X S n J pa un cl rt ph hn g1 g2
theorem mx_sortOut (X : am_X) (S : MS) (P : Nat) (mt : Nat → Option Nat) (go : Nat → Nat) (hG : GW P mt go) (hC : CG S P mt go) : ∃ T, MC X 65 [.ref (1)] S none T ∧ spKeep S T ∧ SD T P mt go := by
  have hP := hG.1
  obtain ⟨T1, a1, a2, a3⟩ := mx_start4 X S (4 * P) (by omega)
  obtain ⟨T2, b1, b2, b3⟩ := mx_start10 X T1 (6 * P) (by omega)
  obtain ⟨T3, c1, c2, c3⟩ := mx_start16 X T2 P (by omega)
  have k1 := a2.sp (by omega)
  have k2 := k1.trans (b2.sp (by omega))
  have k3 := k2.trans (c2.sp (by omega))
  have hp := hC.1
  have v1 : UG T3 4 (4 * P) (cjR P mt go 0 0) := ((UG.zero a3 (fun x y b ⟨s, t, c, h, _⟩ => by omega)).s b2 (by omega)).s c2 (by omega)
  have v2 : UG T3 10 (6 * P) (ejR P mt go 0 0) := (UG.zero b3 (fun x y b ⟨s, t, c, h, _⟩ => by omega)).s c2 (by omega)
  have v3 : UG T3 16 P (sjR P mt go 0) := UG.zero c3 (fun x y b ⟨s, t, h, _⟩ => by omega)
  have key := MX.mc (X := X) (mj := 65) (as := [.ref (1)]) (S := S) (Post := fun v T => v = none ∧ spKeep S T ∧ SD T P mt go) ?_
  · obtain ⟨v, T, g1, g2, g3⟩ := key
    subst g2
    exact ⟨T, g1, g3⟩
  refine MX.of (Nat.le_of_ble_eq_true rfl) ?_
  refine as_aload_n d65_0 rfl ?_
  refine ap_get d65_1 f65_23 (by decide) rfl rfl ?_
  refine an_iconst 4 d65_4 rfl ?_
  refine as_aload_n d65_5 rfl ?_
  refine ap_get d65_6 f65_39 (by decide) rfl rfl ?_
  refine an_top (e' := nI (P)) (hp) ?_
  refine an_imul d65_9 ?_
  refine ac_v1 d65_10 c65_50 (by decide) rfl (Nat.le_of_ble_eq_true rfl) (a1) ?_
  refine as_aload_n d65_13 rfl ?_
  refine ap_get d65_14 f65_27 (by decide) rfl rfl ?_
  refine an_bipush 6 d65_17 rfl ?_
  refine as_aload_n d65_19 rfl ?_
  refine ap_get d65_20 f65_39 (by decide) rfl rfl ?_
  refine an_top (e' := nI (P)) ((k1.2.2 1 0 (by omega)).trans hp) ?_
  refine an_imul d65_23 ?_
  refine ac_v1 d65_24 c65_50 (by decide) rfl (Nat.le_of_ble_eq_true rfl) (b1) ?_
  refine as_aload_n d65_27 rfl ?_
  refine ap_get d65_28 f65_30 (by decide) rfl rfl ?_
  refine as_aload_n d65_31 rfl ?_
  refine ap_get d65_32 f65_39 (by decide) rfl rfl ?_
  refine an_top (e' := nI (P)) ((k2.2.2 1 0 (by omega)).trans hp) ?_
  refine ac_v1 d65_35 c65_50 (by decide) rfl (Nat.le_of_ble_eq_true rfl) (c1) ?_
  refine an_iconst 0 d65_38 rfl ?_
  refine as_istore_n d65_39 (by decide) ?_
  refine AW.loc [(0, .ref (1)), (1, .int (nI (0)))] (am_pick [1, 0] rfl rfl) ?_
  refine aw_fromE (fun s T => ((40, [(0, .ref (1)), (1, .int (nI (s)))], [], 208, HP (T), 0, 0) : am_Z)) (fun s T => spKeep S T ∧ UG T 4 (4 * P) (cjR P mt go (s) 0) ∧ UG T 10 (6 * P) (ejR P mt go (s) 0) ∧ UG T 16 P (sjR P mt go (s))) (0) (4 * P) (by omega) (T3) (rfl) (⟨k3, v1, v2, v3⟩) (fun s T hs0 hs hI ihs => ?_) (fun T hX => ?_)
  · have hCT := hC.sp hI.1
    refine as_iload_n d65_40 rfl ?_
    refine an_iconst 4 d65_41 rfl ?_
    refine as_aload_n d65_42 rfl ?_
    refine ap_get d65_43 f65_39 (by decide) rfl rfl ?_
    refine an_top (e' := nI (P)) ((hI.1.2.2 1 0 (by omega)).trans hp) ?_
    refine an_imul d65_46 ?_
    refine an_icmp_ge 97 d65_47 (by decide) (by omega) (by omega) (fun c47 => by omega) (fun c47 => ?_)
    refine as_aload_n d65_50 rfl ?_
    refine as_iload_n d65_51 rfl ?_
    refine ac_v1 d65_52 c65_53 (by decide) rfl (Nat.le_of_ble_eq_true rfl) (mc_isLesser X _ P mt go _ hG hCT hs) ?_
    refine as_if_eq 91 d65_55 (by decide) (fun c55 => ?_) (fun c55 => ?_)
    · have hnp := am_b01.mp c55
      refine an_iinc 1 d65_91 rfl rfl (by decide) ?_
      refine as_goto 40 d65_94 (by decide) ?_
      refine AW.loc [(0, .ref (1)), (1, .int (nI (s + 1)))] (am_pick [1, 0] rfl rfl) ?_
      have ihs := ihs (T) (by
        first
        | exact ⟨hI.1, hI.2.1.eq (cjR.no hnp), hI.2.2.1.eq (ejR.no hnp), hI.2.2.2.eq (sjR.no hnp)⟩
        | exact ⟨((hI.1.trans (p2.s.sp (by omega))).trans (q2.s.sp (by omega))).trans (r2.s.sp (by omega)), ((p3.g q2 (by omega)).g r2 (by omega)), q3.g r2 (by omega), r3.eq (sjR.step hs e0 hst)⟩)
      exact ihs
    · obtain ⟨t, e0, hst⟩ := prN_ex (am_b1 c55)
      have ht := mt_lt hG hs e0
      obtain ⟨U1, p1, p2, p3⟩ := mx_joinCorners X T P mt go s t hG hCT hs e0 hst hI.2.1
      have hC1 := hCT.sp (p2.s.sp (by omega))
      obtain ⟨U2, q1, q2, q3⟩ := mx_joinEdges X U1 P mt go s t hG hC1 hs e0 hst (hI.2.2.1.g p2 (by omega))
      have hC2 := hC1.sp (q2.s.sp (by omega))
      have ev := mc_isEvenC X U2 P mt go s t hG hC2 hs e0 hst
      obtain ⟨U3, r1, r2, r3⟩ := mx_joinU16 X U2 P _ (by omega) ((hI.2.2.2.g p2 (by omega)).g q2 (by omega)) (s / 4) (t / 4) (decide (cnt (ejS go s) 6 % 2 = 0)) (by omega) (by omega)
      refine as_aload_n d65_58 rfl ?_
      refine as_iload_n d65_59 rfl ?_
      refine ac_v1 d65_60 c65_57 (by decide) rfl (Nat.le_of_ble_eq_true rfl) (p1) ?_
      refine as_aload_n d65_63 rfl ?_
      refine as_iload_n d65_64 rfl ?_
      refine ac_v1 d65_65 c65_60 (by decide) rfl (Nat.le_of_ble_eq_true rfl) (q1) ?_
      refine as_aload_n d65_68 rfl ?_
      refine ap_get d65_69 f65_30 (by decide) rfl rfl ?_
      refine as_iload_n d65_72 rfl ?_
      refine an_iconst 4 d65_73 rfl ?_
      refine an_idiv d65_74 (by omega) (by omega) (by omega) ?_
      refine as_aload_n d65_75 rfl ?_
      refine ap_get d65_76 f65_9 (by decide) rfl rfl ?_
      refine as_iload_n d65_79 rfl ?_
      refine ap_iald d65_80 (fun _ _ _ _ => rfl) (by decide) (by omega) (by decide) ?_
      refine an_top (e' := nI (t)) (by rw [hC2.2.2.1 _ (by omega), e0]; rfl) ?_
      refine an_iconst 4 d65_81 rfl ?_
      refine an_idiv d65_82 (by omega) (by omega) (by omega) ?_
      refine as_aload_n d65_83 rfl ?_
      refine as_iload_n d65_84 rfl ?_
      refine ac_v1 d65_85 c65_63 (by decide) rfl (Nat.le_of_ble_eq_true rfl) (ev) ?_
      refine ac_v3 d65_88 c65_66 (by decide) rfl (Nat.le_of_ble_eq_true rfl) (r1) ?_
      refine an_iinc 1 d65_91 rfl rfl (by decide) ?_
      refine as_goto 40 d65_94 (by decide) ?_
      refine AW.loc [(0, .ref (1)), (1, .int (nI (s + 1)))] (am_pick [1, 0] rfl rfl) ?_
      have ihs := ihs (U3) (by
        first
        | exact ⟨hI.1, hI.2.1.eq (cjR.no hnp), hI.2.2.1.eq (ejR.no hnp), hI.2.2.2.eq (sjR.no hnp)⟩
        | exact ⟨((hI.1.trans (p2.s.sp (by omega))).trans (q2.s.sp (by omega))).trans (r2.s.sp (by omega)), ((p3.g q2 (by omega)).g r2 (by omega)), q3.g r2 (by omega), r3.eq (sjR.step hs e0 hst)⟩)
      exact ihs
  · refine as_iload_n d65_40 rfl ?_
    refine an_iconst 4 d65_41 rfl ?_
    refine as_aload_n d65_42 rfl ?_
    refine ap_get d65_43 f65_39 (by decide) rfl rfl ?_
    refine an_top (e' := nI (P)) ((hX.1.2.2 1 0 (by omega)).trans hp) ?_
    refine an_imul d65_46 ?_
    refine an_icmp_ge 97 d65_47 (by decide) (by omega) (by omega) (fun c47 => ?_) (fun c47 => by omega)
    obtain ⟨W1, d1, d2, d3⟩ := mx_settleU4 X T (4 * P) _ (by omega) hX.2.1
    obtain ⟨W2, f1, f2, f3⟩ := mx_settleU10 X W1 (6 * P) _ (by omega) (hX.2.2.1.s d2 (by omega))
    obtain ⟨W3, g1, g2, g3⟩ := mx_settleU16 X W2 P _ (by omega) ((hX.2.2.2.s d2 (by omega)).s f2 (by omega))
    have kk : spKeep S W3 := ((hX.1.trans (d2.sp (by omega))).trans (f2.sp (by omega))).trans (g2.sp (by omega))
    refine as_aload_n d65_97 rfl ?_
    refine ap_get d65_98 f65_23 (by decide) rfl rfl ?_
    refine ac_v0 d65_101 c65_70 (by decide) rfl (Nat.le_of_ble_eq_true rfl) (d1) ?_
    refine as_aload_n d65_104 rfl ?_
    refine ap_get d65_105 f65_27 (by decide) rfl rfl ?_
    refine ac_v0 d65_108 c65_70 (by decide) rfl (Nat.le_of_ble_eq_true rfl) (f1) ?_
    refine as_aload_n d65_111 rfl ?_
    refine ap_get d65_112 f65_30 (by decide) rfl rfl ?_
    refine ac_v0 d65_115 c65_70 (by decide) rfl (Nat.le_of_ble_eq_true rfl) (g1) ?_
    refine as_return d65_118 t65 ?_
    exact ⟨_, _, rfl, rfl, kk, hC.sp kk, (d3.s f2 (by omega)).s g2 (by omega), f3.s g2 (by omega), g3⟩
theorem mc_sideCount (X : am_X) (S : MS) (P : Nat) (mt : Nat → Option Nat) (go : Nat → Nat) (hG : GW P mt go) (hD : SD S P mt go) : MC X 69 [.ref (1)] S (some (.int (nI (4 * P) - nI (cnt (prN mt) (4 * P))))) S := by
  refine MC.of (Nat.le_of_ble_eq_true rfl) ?_
  refine an_iconst 4 d69_0 rfl ?_
  refine as_aload_n d69_1 rfl ?_
  refine ap_get d69_2 f69_39 (by decide) rfl rfl ?_
  refine an_top (e' := nI (P)) (hD.1.1) ?_
  refine an_imul d69_5 ?_
  refine as_aload_n d69_6 rfl ?_
  refine ap_get d69_7 f69_43 (by decide) rfl rfl ?_
  refine an_top (e' := nI (cnt (prN mt) (4 * P))) (hD.1.2.1) ?_
  refine as_isub d69_10 ?_
  refine as_ireturn d69_11 (by rw [t69]; rfl) ?_
  rfl
theorem mc_openCount (X : am_X) (S : MS) (P : Nat) (mt : Nat → Option Nat) (go : Nat → Nat) (hG : GW P mt go) (hD : SD S P mt go) : MC X 70 [.ref (1)] S (some (.int (nI (4 * P) - nI (2 * cnt (prN mt) (4 * P))))) S := by
  refine MC.of (Nat.le_of_ble_eq_true rfl) ?_
  refine an_iconst 4 d70_0 rfl ?_
  refine as_aload_n d70_1 rfl ?_
  refine ap_get d70_2 f70_39 (by decide) rfl rfl ?_
  refine an_top (e' := nI (P)) (hD.1.1) ?_
  refine an_imul d70_5 ?_
  refine an_iconst 2 d70_6 rfl ?_
  refine as_aload_n d70_7 rfl ?_
  refine ap_get d70_8 f70_43 (by decide) rfl rfl ?_
  refine an_top (e' := nI (cnt (prN mt) (4 * P))) (hD.1.2.1) ?_
  refine an_imul d70_11 ?_
  refine as_isub d70_12 ?_
  refine as_ireturn d70_13 (by rw [t70]; rfl) ?_
  rfl
theorem mc_eulerC (X : am_X) (S : MS) (P : Nat) (mt : Nat → Option Nat) (go : Nat → Nat) (hG : GW P mt go) (hD : SD S P mt go) : MC X 71 [.ref (1)] S (some (.int (nI (cnt (fs (CJ P mt go)) (4 * P)) - nI (cnt (fs (EJ P mt go)) (6 * P)) + (nI (4 * P) - nI (cnt (prN mt) (4 * P))) - nI P))) S := by
  refine MC.of (Nat.le_of_ble_eq_true rfl) ?_
  refine as_aload_n d71_0 rfl ?_
  refine ap_get d71_1 f71_23 (by decide) rfl rfl ?_
  refine ap_get d71_4 f71_82 (by decide) rfl rfl ?_
  refine an_top (e' := nI (cnt (fs (CJ P mt go)) (4 * P))) (hD.2.1.1) ?_
  refine as_aload_n d71_7 rfl ?_
  refine ap_get d71_8 f71_27 (by decide) rfl rfl ?_
  refine ap_get d71_11 f71_82 (by decide) rfl rfl ?_
  refine an_top (e' := nI (cnt (fs (EJ P mt go)) (6 * P))) (hD.2.2.1.1) ?_
  refine as_isub d71_14 ?_
  refine as_aload_n d71_15 rfl ?_
  refine ac_v0 d71_16 c71_85 (by decide) rfl (Nat.le_of_ble_eq_true rfl) (mc_sideCount X _ P mt go hG hD) ?_
  refine as_iadd d71_19 ?_
  refine as_aload_n d71_20 rfl ?_
  refine ap_get d71_21 f71_39 (by decide) rfl rfl ?_
  refine an_top (e' := nI (P)) (hD.1.1) ?_
  refine as_isub d71_24 ?_
  refine as_ireturn d71_25 (by rw [t71]; rfl) ?_
  rfl
/-- some group clashes -/
def AnyT (n : Nat) (J : LRel) (a : Nat) : Prop := (a = 1 ∧ ∃ m, m < n ∧ fs J m = true ∧ Tws J m) ∨ (a = 0 ∧ ∀ m, m < n → fs J m = true → ¬ Tws J m)
theorem AnyT_ex (n : Nat) (J : LRel) : ∃ a, AnyT n J a := by
  by_cases h : ∃ m, m < n ∧ fs J m = true ∧ Tws J m
  · exact ⟨1, Or.inl ⟨rfl, h⟩⟩
  · exact ⟨0, Or.inr ⟨rfl, fun m h1 h2 h3 => h ⟨m, h1, h2, h3⟩⟩⟩
theorem AnyT.lt {n : Nat} {J : LRel} {a : Nat} (h : AnyT n J a) : a < 2 := by
  rcases h with h | h <;> omega
theorem mc_isEvenS (X : am_X) (S : MS) (P : Nat) (mt : Nat → Option Nat) (go : Nat → Nat) (hG : GW P mt go) (hD : SD S P mt go) (a : Nat) (ha : AnyT P (SJ P mt go) a) : MC X 72 [.ref (1)] S (some (.int (nI (1 - a)))) S := by
  have hal := ha.lt
  refine MC.of (Nat.le_of_ble_eq_true rfl) ?_
  refine as_aload_n d72_0 rfl ?_
  refine ap_get d72_1 f72_30 (by decide) rfl rfl ?_
  refine ac_v0 d72_4 c72_89 (by decide) rfl (Nat.le_of_ble_eq_true rfl) (mc_anyClashes16 X _ P (SJ P mt go) (by have := hG.1; omega) hD.2.2.2 a ha) ?_
  refine an_if_ne 14 d72_7 (by decide) (by omega) (fun c7 => ?_) (fun c7 => ?_)
  · refine an_iconst 0 d72_14 rfl ?_
    refine as_ireturn d72_15 (by rw [t72]; rfl) ?_
    refine am_req (congrArg nI ?_)
    omega
  · refine an_iconst 1 d72_10 rfl ?_
    refine as_goto 15 d72_11 (by decide) ?_
    refine as_ireturn d72_15 (by rw [t72]; rfl) ?_
    refine am_req (congrArg nI ?_)
    omega
noncomputable def coB (J : LRel) (g c : Nat) : Bool := decide (gno J c = g)
noncomputable def siI (J : LRel) (mt : Nat → Option Nat) (g s c : Nat) : Bool := decide (c ≠ s % 4) && (sdP mt 0 s && decide (gno J (4 * (s / 4) + c) = g))
noncomputable def siN (J : LRel) (mt : Nat → Option Nat) (g : Nat) (s : Nat) : Nat := cnt (siI J mt g s) 4
noncomputable def siD (J : LRel) (mt : Nat → Option Nat) (g : Nat) (n : Nat) : Nat := fsum (siN J mt g) n
theorem mc_cornersOf (X : am_X) (S : MS) (P : Nat) (mt : Nat → Option Nat) (go : Nat → Nat) (hG : GW P mt go) (hD : SD S P mt go) (g : Nat) (hg : g < 12) : MC X 77 [.ref (1), .int (nI (g))] S (some (.int (nI (cnt (coB (CJ P mt go) g) (4 * P))))) S := by
  have hP := hG.1
  refine MC.of (Nat.le_of_ble_eq_true rfl) ?_
  refine an_iconst 0 d77_0 rfl ?_
  refine as_istore_n d77_1 (by decide) ?_
  refine an_iconst 0 d77_2 rfl ?_
  refine as_istore_n d77_3 (by decide) ?_
  refine AW.loc [(0, .ref (1)), (1, .int (nI (g))), (2, .int (nI (0))), (3, .int (nI (0)))] (am_pick [2, 3, 1, 0] rfl rfl) ?_
  refine aw_for (fun i => ((4, [(0, .ref (1)), (1, .int (nI (g))), (2, .int (nI (cnt (coB (CJ P mt go) g) (i)))), (3, .int (nI (i)))], [], 208, HP (S), 0, 0) : am_Z)) (4 * P) (rfl) (fun i hi ih => ?_) ?_
  · refine as_iload_n d77_4 rfl ?_
    refine an_iconst 4 d77_5 rfl ?_
    refine as_aload_n d77_6 rfl ?_
    refine ap_get d77_7 f77_39 (by decide) rfl rfl ?_
    refine an_top (e' := nI (P)) (hD.1.1) ?_
    refine an_imul d77_10 ?_
    refine an_icmp_ge 36 d77_11 (by decide) (by omega) (by omega) (fun c11 => by omega) (fun c11 => ?_)
    refine as_aload_n d77_14 rfl ?_
    refine ap_get d77_15 f77_23 (by decide) rfl rfl ?_
    refine ap_get d77_18 f77_112 (by decide) rfl rfl ?_
    refine as_iload_n d77_21 rfl ?_
    refine ap_iald d77_22 (fun _ _ _ _ => rfl) (by decide) (by omega) (by decide) ?_
    refine an_top (e' := nI (gno (CJ P mt go) (i))) (hD.2.1.2.1 _ (by omega)) ?_
    refine as_iload_n d77_23 rfl ?_
    refine an_icmp_ne 30 d77_24 (by decide) (by have := gno_le (CJ P mt go) i; omega) (by omega) (fun c24 => ?_) (fun c24 => ?_)
    · refine an_iinc 1 d77_30 rfl rfl (by decide) ?_
      refine as_goto 4 d77_33 (by decide) ?_
      refine AW.loc [(0, .ref (1)), (1, .int (nI (g))), (2, .int (nI (cnt (coB (CJ P mt go) g) (i)))), (3, .int (nI (i + 1)))] (am_pick [1, 2, 3, 0] rfl rfl) ?_
      have e2 : cnt (coB (CJ P mt go) g) (i + 1) = cnt (coB (CJ P mt go) g) (i) := by first | exact cnt_t (decide_eq_true c24) | exact cnt_f (fun h => c24 (of_decide_eq_true h))
      rw [e2] at ih
      exact ih
    · refine an_iinc 1 d77_27 rfl rfl (by decide) ?_
      refine an_iinc 1 d77_30 rfl rfl (by decide) ?_
      refine as_goto 4 d77_33 (by decide) ?_
      refine AW.loc [(0, .ref (1)), (1, .int (nI (g))), (2, .int (nI (cnt (coB (CJ P mt go) g) (i) + 1))), (3, .int (nI (i + 1)))] (am_pick [2, 3, 1, 0] rfl rfl) ?_
      have e2 : cnt (coB (CJ P mt go) g) (i + 1) = cnt (coB (CJ P mt go) g) (i) + 1 := by first | exact cnt_t (decide_eq_true c24) | exact cnt_f (fun h => c24 (of_decide_eq_true h))
      rw [e2] at ih
      exact ih
  · refine as_iload_n d77_4 rfl ?_
    refine an_iconst 4 d77_5 rfl ?_
    refine as_aload_n d77_6 rfl ?_
    refine ap_get d77_7 f77_39 (by decide) rfl rfl ?_
    refine an_top (e' := nI (P)) (hD.1.1) ?_
    refine an_imul d77_10 ?_
    refine an_icmp_ge 36 d77_11 (by decide) (by omega) (by omega) (fun c11 => ?_) (fun c11 => by omega)
    refine as_iload_n d77_36 rfl ?_
    refine as_ireturn d77_37 (by rw [t77]; rfl) ?_
    rfl
theorem sdP0_iff {mt : Nat → Option Nat} {s : Nat} : sdP mt 0 s = true ↔ mt s = none ∨ prN mt s = true := by
  cases e : mt s with
  | none => exact ⟨fun _ => Or.inl rfl, fun _ => sdP_none e⟩
  | some t =>
    rw [sdP_some e, decide_eq_true_iff]
    constructor
    · exact fun h => Or.inr (prN_t e h)
    · rintro (h | h)
      · cases h
      · obtain ⟨t', h1, h2⟩ := prN_ex h
        rw [e] at h1
        cases h1
        exact h2
theorem siI_t {J : LRel} {mt : Nat → Option Nat} {g s c : Nat} (h1 : c ≠ s % 4) (h2 : sdP mt 0 s = true) (h3 : gno J (4 * (s / 4) + c) = g) : siI J mt g s c = true := by
  unfold siI
  simp [h1, h2, h3]
theorem siI_f1 {J : LRel} {mt : Nat → Option Nat} {g s c : Nat} (h1 : c = s % 4) : ¬ siI J mt g s c = true := by
  unfold siI
  simp [h1]
theorem siI_f3 {J : LRel} {mt : Nat → Option Nat} {g s c : Nat} (h1 : ¬ gno J (4 * (s / 4) + c) = g) : ¬ siI J mt g s c = true := by
  unfold siI
  simp [h1]
theorem siN_0 {J : LRel} {mt : Nat → Option Nat} {g s : Nat} (h : ¬ sdP mt 0 s = true) : siN J mt g s = 0 := by
  unfold siN
  have : ∀ n, cnt (siI J mt g s) n = 0 := by
    intro n
    induction n with
    | zero => rfl
    | succ n ih =>
      rw [cnt_f (by unfold siI; simp [h]), ih]
  exact this 4
theorem mc_sidesAt (X : am_X) (S : MS) (P : Nat) (mt : Nat → Option Nat) (go : Nat → Nat) (hG : GW P mt go) (hD : SD S P mt go) (g : Nat) (hg : g < 12) : MC X 76 [.ref (1), .int (nI (g))] S (some (.int (nI (siD (CJ P mt go) mt g (4 * P))))) S := by
  have hP := hG.1
  refine MC.of (Nat.le_of_ble_eq_true rfl) ?_
  refine an_iconst 0 d76_0 rfl ?_
  refine as_istore_n d76_1 (by decide) ?_
  refine an_iconst 0 d76_2 rfl ?_
  refine as_istore_n d76_3 (by decide) ?_
  refine AW.loc [(0, .ref (1)), (1, .int (nI (g))), (2, .int (nI (0))), (3, .int (nI (0)))] (am_pick [2, 3, 1, 0] rfl rfl) ?_
  refine aw_for (fun s => ((4, [(0, .ref (1)), (1, .int (nI (g))), (2, .int (nI (fsum (siN (CJ P mt go) mt g) (s)))), (3, .int (nI (s)))], [], 208, HP (S), 0, 0) : am_Z)) (4 * P) (rfl) (fun s hs ihs => ?_) ?_
  · refine as_iload_n d76_4 rfl ?_
    refine an_iconst 4 d76_5 rfl ?_
    refine as_aload_n d76_6 rfl ?_
    refine ap_get d76_7 f76_39 (by decide) rfl rfl ?_
    refine an_top (e' := nI (P)) (hD.1.1) ?_
    refine an_imul d76_10 ?_
    refine an_icmp_ge 94 d76_11 (by decide) (by omega) (by omega) (fun c11 => by omega) (fun c11 => ?_)
    by_cases hsd : sdP mt 0 s = true
    · have hfs := fs_eq (f := siN (CJ P mt go) mt g) (n := s) rfl
      refine as_aload_n d76_14 rfl ?_
      refine as_iload_n d76_15 rfl ?_
      refine ac_v1 d76_16 c76_118 (by decide) rfl (Nat.le_of_ble_eq_true rfl) (mc_isGlued X _ P mt go _ hG hD.1 (by omega)) ?_
      refine as_if_eq 30 d76_19 (by decide) (fun c19 => ?_) (fun c19 => ?_)
      · refine an_iconst 1 d76_30 rfl ?_
        refine as_goto 35 d76_31 (by decide) ?_
        refine as_istore d76_35 (by decide) ?_
        refine an_iconst 0 d76_37 rfl ?_
        refine as_istore d76_38 (by decide) ?_
        refine AW.loc [(0, .ref (1)), (1, .int (nI (g))), (2, .int (nI (fsum (siN (CJ P mt go) mt g) (s)))), (3, .int (nI (s))), (4, .int (nI (1))), (5, .int (nI (0)))] (am_pick [2, 3, 4, 5, 1, 0] rfl rfl) ?_
        refine aw_for (fun c => ((40, [(0, .ref (1)), (1, .int (nI (g))), (2, .int (nI (fsum (siN (CJ P mt go) mt g) s + cnt (siI (CJ P mt go) mt g s) (c)))), (3, .int (nI (s))), (4, .int (nI (1))), (5, .int (nI (c)))], [], 208, HP (S), 0, 0) : am_Z)) (4) (rfl) (fun c hc ihc => ?_) ?_
        · refine as_iload d76_40 rfl ?_
          refine an_iconst 4 d76_42 rfl ?_
          refine an_icmp_ge 88 d76_43 (by decide) (by omega) (by omega) (fun c43 => by omega) (fun c43 => ?_)
          refine as_iload d76_46 rfl ?_
          refine an_if_eq 88 d76_48 (by decide) (by omega) (fun c48 => absurd c48 (by decide)) (fun c48 => ?_)
          refine as_iload d76_51 rfl ?_
          refine as_iload_n d76_53 rfl ?_
          refine an_iconst 4 d76_54 rfl ?_
          refine an_irem d76_55 (by omega) (by omega) (by omega) ?_
          refine an_icmp_eq 82 d76_56 (by decide) (by omega) (by omega) (fun c56 => ?_) (fun c56 => ?_)
          · refine an_iinc 1 d76_82 rfl rfl (by decide) ?_
            refine as_goto 40 d76_85 (by decide) ?_
            refine AW.loc [(0, .ref (1)), (1, .int (nI (g))), (2, .int (nI (fsum (siN (CJ P mt go) mt g) s + cnt (siI (CJ P mt go) mt g s) (c)))), (3, .int (nI (s))), (4, .int (nI (1))), (5, .int (nI (c + 1)))] (am_pick [1, 2, 3, 4, 5, 0] rfl rfl) ?_
            have e2 : fsum (siN (CJ P mt go) mt g) s + cnt (siI (CJ P mt go) mt g s) (c + 1) = fsum (siN (CJ P mt go) mt g) s + cnt (siI (CJ P mt go) mt g s) (c) := by first | exact cn_f (siI_f1 c56) | exact cn_t (siI_t c56 hsd c76) | exact cn_f (siI_f3 c76)
            rw [e2] at ihc
            exact ihc
          · refine as_aload_n d76_59 rfl ?_
            refine ap_get d76_60 f76_23 (by decide) rfl rfl ?_
            refine ap_get d76_63 f76_112 (by decide) rfl rfl ?_
            refine an_iconst 4 d76_66 rfl ?_
            refine as_iload_n d76_67 rfl ?_
            refine an_iconst 4 d76_68 rfl ?_
            refine an_idiv d76_69 (by omega) (by omega) (by omega) ?_
            refine an_imul d76_70 ?_
            refine as_iload d76_71 rfl ?_
            refine an_iadd d76_73 ?_
            refine ap_iald d76_74 (fun _ _ _ _ => rfl) (by decide) (by omega) (by decide) ?_
            refine an_top (e' := nI (gno (CJ P mt go) (((4) * ((s) / (4))) + (c)))) (hD.2.1.2.1 _ (by omega)) ?_
            refine as_iload_n d76_75 rfl ?_
            refine an_icmp_ne 82 d76_76 (by decide) (by have := gno_le (CJ P mt go) (4 * (s / 4) + c); omega) (by omega) (fun c76 => ?_) (fun c76 => ?_)
            · refine an_iinc 1 d76_82 rfl rfl (by decide) ?_
              refine as_goto 40 d76_85 (by decide) ?_
              refine AW.loc [(0, .ref (1)), (1, .int (nI (g))), (2, .int (nI (fsum (siN (CJ P mt go) mt g) s + cnt (siI (CJ P mt go) mt g s) (c)))), (3, .int (nI (s))), (4, .int (nI (1))), (5, .int (nI (c + 1)))] (am_pick [1, 2, 3, 4, 5, 0] rfl rfl) ?_
              have e2 : fsum (siN (CJ P mt go) mt g) s + cnt (siI (CJ P mt go) mt g s) (c + 1) = fsum (siN (CJ P mt go) mt g) s + cnt (siI (CJ P mt go) mt g s) (c) := by first | exact cn_f (siI_f1 c56) | exact cn_t (siI_t c56 hsd c76) | exact cn_f (siI_f3 c76)
              rw [e2] at ihc
              exact ihc
            · refine an_iinc 1 d76_79 rfl rfl (by decide) ?_
              refine an_iinc 1 d76_82 rfl rfl (by decide) ?_
              refine as_goto 40 d76_85 (by decide) ?_
              refine AW.loc [(0, .ref (1)), (1, .int (nI (g))), (2, .int (nI (fsum (siN (CJ P mt go) mt g) s + cnt (siI (CJ P mt go) mt g s) (c) + 1))), (3, .int (nI (s))), (4, .int (nI (1))), (5, .int (nI (c + 1)))] (am_pick [2, 3, 1, 4, 5, 0] rfl rfl) ?_
              have e2 : fsum (siN (CJ P mt go) mt g) s + cnt (siI (CJ P mt go) mt g s) (c + 1) = fsum (siN (CJ P mt go) mt g) s + cnt (siI (CJ P mt go) mt g s) (c) + 1 := by first | exact cn_f (siI_f1 c56) | exact cn_t (siI_t c56 hsd c76) | exact cn_f (siI_f3 c76)
              rw [e2] at ihc
              exact ihc
        · refine as_iload d76_40 rfl ?_
          refine an_iconst 4 d76_42 rfl ?_
          refine an_icmp_ge 88 d76_43 (by decide) (by omega) (by omega) (fun c43 => ?_) (fun c43 => by omega)
          refine an_iinc 1 d76_88 rfl rfl (by decide) ?_
          refine as_goto 4 d76_91 (by decide) ?_
          refine AW.loc [(0, .ref (1)), (1, .int (nI (g))), (2, .int (nI (fsum (siN (CJ P mt go) mt g) s + cnt (siI (CJ P mt go) mt g s) ((4))))), (3, .int (nI (s + 1)))] (am_pick [1, 2, 3, 0] rfl rfl) ?_
          have e2 : fsum (siN (CJ P mt go) mt g) (s + 1) = fsum (siN (CJ P mt go) mt g) s + cnt (siI (CJ P mt go) mt g s) ((4)) := by exact hfs
          rw [e2] at ihs
          exact ihs
      · have hnn := (sdP0_iff.mp hsd).resolve_left (fun q => c19 (by rw [if_pos q]))
        refine as_aload_n d76_22 rfl ?_
        refine as_iload_n d76_23 rfl ?_
        refine ac_v1 d76_24 c76_53 (by decide) rfl (Nat.le_of_ble_eq_true rfl) (mc_isLesser X _ P mt go _ hG hD.1 (by omega)) ?_
        refine as_if_eq 34 d76_27 (by decide) (fun c27 => absurd hnn (am_b01.mp c27)) (fun c27 => ?_)
        refine an_iconst 1 d76_30 rfl ?_
        refine as_goto 35 d76_31 (by decide) ?_
        refine as_istore d76_35 (by decide) ?_
        refine an_iconst 0 d76_37 rfl ?_
        refine as_istore d76_38 (by decide) ?_
        refine AW.loc [(0, .ref (1)), (1, .int (nI (g))), (2, .int (nI (fsum (siN (CJ P mt go) mt g) (s)))), (3, .int (nI (s))), (4, .int (nI (1))), (5, .int (nI (0)))] (am_pick [2, 3, 4, 5, 1, 0] rfl rfl) ?_
        refine aw_for (fun c => ((40, [(0, .ref (1)), (1, .int (nI (g))), (2, .int (nI (fsum (siN (CJ P mt go) mt g) s + cnt (siI (CJ P mt go) mt g s) (c)))), (3, .int (nI (s))), (4, .int (nI (1))), (5, .int (nI (c)))], [], 208, HP (S), 0, 0) : am_Z)) (4) (rfl) (fun c hc ihc => ?_) ?_
        · refine as_iload d76_40 rfl ?_
          refine an_iconst 4 d76_42 rfl ?_
          refine an_icmp_ge 88 d76_43 (by decide) (by omega) (by omega) (fun c43 => by omega) (fun c43 => ?_)
          refine as_iload d76_46 rfl ?_
          refine an_if_eq 88 d76_48 (by decide) (by omega) (fun c48 => absurd c48 (by decide)) (fun c48 => ?_)
          refine as_iload d76_51 rfl ?_
          refine as_iload_n d76_53 rfl ?_
          refine an_iconst 4 d76_54 rfl ?_
          refine an_irem d76_55 (by omega) (by omega) (by omega) ?_
          refine an_icmp_eq 82 d76_56 (by decide) (by omega) (by omega) (fun c56 => ?_) (fun c56 => ?_)
          · refine an_iinc 1 d76_82 rfl rfl (by decide) ?_
            refine as_goto 40 d76_85 (by decide) ?_
            refine AW.loc [(0, .ref (1)), (1, .int (nI (g))), (2, .int (nI (fsum (siN (CJ P mt go) mt g) s + cnt (siI (CJ P mt go) mt g s) (c)))), (3, .int (nI (s))), (4, .int (nI (1))), (5, .int (nI (c + 1)))] (am_pick [1, 2, 3, 4, 5, 0] rfl rfl) ?_
            have e2 : fsum (siN (CJ P mt go) mt g) s + cnt (siI (CJ P mt go) mt g s) (c + 1) = fsum (siN (CJ P mt go) mt g) s + cnt (siI (CJ P mt go) mt g s) (c) := by first | exact cn_f (siI_f1 c56) | exact cn_t (siI_t c56 hsd c76) | exact cn_f (siI_f3 c76)
            rw [e2] at ihc
            exact ihc
          · refine as_aload_n d76_59 rfl ?_
            refine ap_get d76_60 f76_23 (by decide) rfl rfl ?_
            refine ap_get d76_63 f76_112 (by decide) rfl rfl ?_
            refine an_iconst 4 d76_66 rfl ?_
            refine as_iload_n d76_67 rfl ?_
            refine an_iconst 4 d76_68 rfl ?_
            refine an_idiv d76_69 (by omega) (by omega) (by omega) ?_
            refine an_imul d76_70 ?_
            refine as_iload d76_71 rfl ?_
            refine an_iadd d76_73 ?_
            refine ap_iald d76_74 (fun _ _ _ _ => rfl) (by decide) (by omega) (by decide) ?_
            refine an_top (e' := nI (gno (CJ P mt go) (((4) * ((s) / (4))) + (c)))) (hD.2.1.2.1 _ (by omega)) ?_
            refine as_iload_n d76_75 rfl ?_
            refine an_icmp_ne 82 d76_76 (by decide) (by have := gno_le (CJ P mt go) (4 * (s / 4) + c); omega) (by omega) (fun c76 => ?_) (fun c76 => ?_)
            · refine an_iinc 1 d76_82 rfl rfl (by decide) ?_
              refine as_goto 40 d76_85 (by decide) ?_
              refine AW.loc [(0, .ref (1)), (1, .int (nI (g))), (2, .int (nI (fsum (siN (CJ P mt go) mt g) s + cnt (siI (CJ P mt go) mt g s) (c)))), (3, .int (nI (s))), (4, .int (nI (1))), (5, .int (nI (c + 1)))] (am_pick [1, 2, 3, 4, 5, 0] rfl rfl) ?_
              have e2 : fsum (siN (CJ P mt go) mt g) s + cnt (siI (CJ P mt go) mt g s) (c + 1) = fsum (siN (CJ P mt go) mt g) s + cnt (siI (CJ P mt go) mt g s) (c) := by first | exact cn_f (siI_f1 c56) | exact cn_t (siI_t c56 hsd c76) | exact cn_f (siI_f3 c76)
              rw [e2] at ihc
              exact ihc
            · refine an_iinc 1 d76_79 rfl rfl (by decide) ?_
              refine an_iinc 1 d76_82 rfl rfl (by decide) ?_
              refine as_goto 40 d76_85 (by decide) ?_
              refine AW.loc [(0, .ref (1)), (1, .int (nI (g))), (2, .int (nI (fsum (siN (CJ P mt go) mt g) s + cnt (siI (CJ P mt go) mt g s) (c) + 1))), (3, .int (nI (s))), (4, .int (nI (1))), (5, .int (nI (c + 1)))] (am_pick [2, 3, 1, 4, 5, 0] rfl rfl) ?_
              have e2 : fsum (siN (CJ P mt go) mt g) s + cnt (siI (CJ P mt go) mt g s) (c + 1) = fsum (siN (CJ P mt go) mt g) s + cnt (siI (CJ P mt go) mt g s) (c) + 1 := by first | exact cn_f (siI_f1 c56) | exact cn_t (siI_t c56 hsd c76) | exact cn_f (siI_f3 c76)
              rw [e2] at ihc
              exact ihc
        · refine as_iload d76_40 rfl ?_
          refine an_iconst 4 d76_42 rfl ?_
          refine an_icmp_ge 88 d76_43 (by decide) (by omega) (by omega) (fun c43 => ?_) (fun c43 => by omega)
          refine an_iinc 1 d76_88 rfl rfl (by decide) ?_
          refine as_goto 4 d76_91 (by decide) ?_
          refine AW.loc [(0, .ref (1)), (1, .int (nI (g))), (2, .int (nI (fsum (siN (CJ P mt go) mt g) s + cnt (siI (CJ P mt go) mt g s) ((4))))), (3, .int (nI (s + 1)))] (am_pick [1, 2, 3, 0] rfl rfl) ?_
          have e2 : fsum (siN (CJ P mt go) mt g) (s + 1) = fsum (siN (CJ P mt go) mt g) s + cnt (siI (CJ P mt go) mt g s) ((4)) := by exact hfs
          rw [e2] at ihs
          exact ihs
    · have hfs : fsum (siN (CJ P mt go) mt g) (s + 1) = fsum (siN (CJ P mt go) mt g) s := fs_eq (siN_0 hsd)
      refine as_aload_n d76_14 rfl ?_
      refine as_iload_n d76_15 rfl ?_
      refine ac_v1 d76_16 c76_118 (by decide) rfl (Nat.le_of_ble_eq_true rfl) (mc_isGlued X _ P mt go _ hG hD.1 (by omega)) ?_
      refine as_if_eq 30 d76_19 (by decide) (fun c19 => ?_) (fun c19 => ?_)
      · exact absurd (sdP0_iff.mpr (Or.inl (Classical.byContradiction (fun q => by rw [if_neg q] at c19; cases c19)))) hsd
      · refine as_aload_n d76_22 rfl ?_
        refine as_iload_n d76_23 rfl ?_
        refine ac_v1 d76_24 c76_53 (by decide) rfl (Nat.le_of_ble_eq_true rfl) (mc_isLesser X _ P mt go _ hG hD.1 (by omega)) ?_
        refine as_if_eq 34 d76_27 (by decide) (fun c27 => ?_) (fun c27 => absurd (sdP0_iff.mpr (Or.inr (am_b1 c27))) hsd)
        refine an_iconst 0 d76_34 rfl ?_
        refine as_istore d76_35 (by decide) ?_
        refine an_iconst 0 d76_37 rfl ?_
        refine as_istore d76_38 (by decide) ?_
        refine as_iload d76_40 rfl ?_
        refine an_iconst 4 d76_42 rfl ?_
        refine an_icmp_ge 88 d76_43 (by decide) (by omega) (by omega) (fun c43 => ?_) (fun c43 => ?_)
        · refine an_iinc 1 d76_88 rfl rfl (by decide) ?_
          refine as_goto 4 d76_91 (by decide) ?_
          refine AW.loc [(0, .ref (1)), (1, .int (nI (g))), (2, .int (nI (fsum (siN (CJ P mt go) mt g) (s)))), (3, .int (nI (s + 1)))] (am_pick [3, 4, 5, 0] rfl rfl) ?_
          have e2 : fsum (siN (CJ P mt go) mt g) (s + 1) = fsum (siN (CJ P mt go) mt g) (s) := by exact hfs
          rw [e2] at ihs
          exact ihs
        · refine as_iload d76_46 rfl ?_
          refine an_if_eq 88 d76_48 (by decide) (by omega) (fun c48 => ?_) (fun c48 => absurd c48 (by decide))
          refine an_iinc 1 d76_88 rfl rfl (by decide) ?_
          refine as_goto 4 d76_91 (by decide) ?_
          refine AW.loc [(0, .ref (1)), (1, .int (nI (g))), (2, .int (nI (fsum (siN (CJ P mt go) mt g) (s)))), (3, .int (nI (s + 1)))] (am_pick [3, 4, 5, 0] rfl rfl) ?_
          have e2 : fsum (siN (CJ P mt go) mt g) (s + 1) = fsum (siN (CJ P mt go) mt g) (s) := by exact hfs
          rw [e2] at ihs
          exact ihs
  · refine as_iload_n d76_4 rfl ?_
    refine an_iconst 4 d76_5 rfl ?_
    refine as_aload_n d76_6 rfl ?_
    refine ap_get d76_7 f76_39 (by decide) rfl rfl ?_
    refine an_top (e' := nI (P)) (hD.1.1) ?_
    refine an_imul d76_10 ?_
    refine an_icmp_ge 94 d76_11 (by decide) (by omega) (by omega) (fun c11 => ?_) (fun c11 => by omega)
    refine as_iload_n d76_94 rfl ?_
    refine as_ireturn d76_95 (by rw [t76]; rfl) ?_
    rfl
