/-! holes: the pairs get numbers -/
/-- the pairs below n have their numbers -/
def PO (mt : Nat → Option Nat) (f : Nat → Int32) (P n : Nat) : Prop := ∀ x, x < 4 * P → ∀ y, mt x = some y → min x y < n → f x = nI (cnt (prN mt) (min x y))
theorem PO.zero (mt : Nat → Option Nat) (f : Nat → Int32) (P : Nat) : PO mt f P 0 := fun x _ y _ h => by omega
theorem PO.no {mt : Nat → Option Nat} {go : Nat → Nat} {f : Nat → Int32} {P s : Nat} (hG : GW P mt go) (hn : ¬ prN mt s = true) (h : PO mt f P s) : PO mt f P (s + 1) := by
  intro x hx y e hy
  obtain ⟨g1, g2, g3, -⟩ := hG.2 x hx y e
  refine h x hx y e ?_
  by_cases q : min x y = s
  · exfalso
    by_cases q2 : x = s
    · subst q2
      exact hn (prN_t e (by omega))
    · have q3 : y = s := by omega
      subst q3
      exact hn (prN_t g3 (by omega))
  · omega
theorem PO.yes {mt : Nat → Option Nat} {go : Nat → Nat} {f g : Nat → Int32} {P s t : Nat} (hG : GW P mt go) (hs : s < 4 * P) (e0 : mt s = some t) (hst : s < t) (h : PO mt f P s) (h1 : g s = nI (cnt (prN mt) s)) (h2 : g t = nI (cnt (prN mt) s)) (h3 : ∀ x, x ≠ s → x ≠ t → g x = f x) : PO mt g P (s + 1) := by
  intro x hx y e hy
  obtain ⟨g1, g2, g3, -⟩ := hG.2 x hx y e
  by_cases q : x = s
  · subst q
    rw [e0] at e
    cases e
    rw [h1, show min x t = x by omega]
  · by_cases q2 : x = t
    · subst q2
      obtain ⟨-, -, k3, -⟩ := hG.2 s hs x e0
      rw [k3] at e
      cases e
      rw [h2, show min x s = s by omega]
    · rw [h3 x q q2]
      refine h x hx y e ?_
      have : y ≠ s := fun w => by
        subst w
        rw [e0] at g3
        cases g3
        exact q2 rfl
      omega
/-- what the reference changes for holes -/
def hKeep (S T : MS) : Prop := (∀ k, k ≠ 199 → T.2.1 k = S.2.1 k) ∧ (∀ k, k ≠ 198 → T.2.2.1 k = S.2.2.1 k) ∧ T.2.2.2 = S.2.2.2 ∧ (∀ i j, ¬ (i = 189 ∧ (j = 11 ∨ j = 12)) → T.1 i j = S.1 i j)
theorem hKeep.rf (S : MS) : hKeep S S := ⟨fun _ _ => rfl, fun _ _ => rfl, rfl, fun _ _ _ => rfl⟩
theorem hKeep.trans {S T U : MS} (h : hKeep S T) (g : hKeep T U) : hKeep S U := ⟨fun k a => (g.1 k a).trans (h.1 k a), fun k a => (g.2.1 k a).trans (h.2.1 k a), g.2.2.1.trans h.2.2.1, fun i j a => (g.2.2.2 i j a).trans (h.2.2.2 i j a)⟩
theorem hKeep.sa {S T : MS} (h : hKeep S T) (i : Nat) (x : Int32) : hKeep S (T.sa 199 i x) := ⟨fun k a => by rw [sa_row _ _ _ _ a]; exact h.1 k a, h.2.1, h.2.2.1, h.2.2.2⟩
theorem hKeep.sf {S T : MS} (h : hKeep S T) {j : Nat} (hj : j = 11 ∨ j = 12) (x : Int32) : hKeep S (T.sf 189 j x) := ⟨h.1, h.2.1, h.2.2.1, fun i k a => by rw [sf_at, if_neg (by omega)]; exact h.2.2.2 i k a⟩
theorem RG.hk {S T : MS} {P : Nat} {mt : Nat → Option Nat} {go : Nat → Nat} (h : RG S P mt go) (g : hKeep S T) : RG T P mt go := by
  unfold RG
  rw [g.1 190 (by decide), g.1 191 (by decide), g.2.2.2 189 0 (by omega)]
  exact h
/-- what the class changes for holes -/
def oKeep (S T : MS) : Prop := (∀ k, k ≠ 42 → T.2.1 k = S.2.1 k) ∧ (∀ k, ¬ (24 ≤ k ∧ k < 42) → T.2.2.1 k = S.2.2.1 k) ∧ (∀ k, k ≠ 23 → T.2.2.2 k = S.2.2.2 k) ∧ (∀ i j, ¬ (i = 22 ∧ (j = 2 ∨ j = 3 ∨ j = 4)) → T.1 i j = S.1 i j)
theorem oKeep.rf (S : MS) : oKeep S S := ⟨fun _ _ => rfl, fun _ _ => rfl, fun _ _ => rfl, fun _ _ _ => rfl⟩
theorem oKeep.trans {S T U : MS} (h : oKeep S T) (g : oKeep T U) : oKeep S U := ⟨fun k a => (g.1 k a).trans (h.1 k a), fun k a => (g.2.1 k a).trans (h.2.1 k a), fun k a => (g.2.2.1 k a).trans (h.2.2.1 k a), fun i j a => (g.2.2.2 i j a).trans (h.2.2.2 i j a)⟩
theorem oKeep.sa {S T : MS} (h : oKeep S T) (i : Nat) (x : Int32) : oKeep S (T.sa 42 i x) := ⟨fun k a => by rw [sa_row _ _ _ _ a]; exact h.1 k a, h.2.1, h.2.2.1, h.2.2.2⟩
theorem oKeep.sf {S T : MS} (h : oKeep S T) {j : Nat} (hj : j = 2 ∨ j = 3 ∨ j = 4) (x : Int32) : oKeep S (T.sf 22 j x) := ⟨h.1, h.2.1, h.2.2.1, fun i k a => by rw [sf_at, if_neg (by omega)]; exact h.2.2.2 i k a⟩
theorem CG.ok {S T : MS} {P : Nat} {mt : Nat → Option Nat} {go : Nat → Nat} (h : CG S P mt go) (g : oKeep S T) : CG T P mt go := h.keep (g.2.2.2 1 0 (by omega)) (g.2.2.2 1 1 (by omega)) (g.1 2 (by omega)) (g.1 3 (by omega))
theorem mx_findPairs (X : am_X) (S : MS) (P : Nat) (mt : Nat → Option Nat) (go : Nat → Nat) (hG : GW P mt go) (hR : RG S P mt go) : ∃ T, MC X 142 [.ref (189)] S none T ∧ hKeep S T ∧ T.1 189 12 = nI (cnt (prN mt) (4 * P)) ∧ PO mt (T.2.1 199) P (4 * P) := by
  have hP := hG.1
  have key := MX.mc (X := X) (mj := 142) (as := [.ref (189)]) (S := S) (Post := fun v T => v = none ∧ hKeep S T ∧ T.1 189 12 = nI (cnt (prN mt) (4 * P)) ∧ PO mt (T.2.1 199) P (4 * P)) ?_
  · obtain ⟨v, T, g1, g2, g3⟩ := key
    subst g2
    exact ⟨T, g1, g3⟩
  refine MX.of (Nat.le_of_ble_eq_true rfl) ?_
  refine as_aload_n d142_0 rfl ?_
  refine an_iconst 0 d142_1 rfl ?_
  refine ap_put d142_2 f142_159 (by decide) rfl (Nat.le_of_ble_eq_true rfl) (rfl) rfl rfl ?_
  refine an_iconst 0 d142_5 rfl ?_
  refine as_istore_n d142_6 (by decide) ?_
  refine AW.loc [(0, .ref (189)), (1, .int (nI (0)))] (am_pick [1, 0] rfl rfl) ?_
  refine aw_fromE (fun s T => ((7, [(0, .ref (189)), (1, .int (nI (s)))], [], 208, HP (T), 0, 0) : am_Z)) (fun s T => hKeep S T ∧ T.1 189 12 = nI (cnt (prN mt) (s)) ∧ PO mt (T.2.1 199) P (s)) (0) (4 * P) (by omega) ((S).sf 189 12 (nI (0))) (rfl) (⟨(hKeep.rf S).sf (Or.inr rfl) _, by rw [sf_at, if_pos ⟨rfl, rfl⟩]; rfl, PO.zero _ _ _⟩) (fun s T hs0 hs hI ihs => ?_) (fun T hX => ?_)
  · have hRT := hR.hk hI.1
    refine as_iload_n d142_7 rfl ?_
    refine an_iconst 4 d142_8 rfl ?_
    refine as_aload_n d142_9 rfl ?_
    refine ap_get d142_10 f142_67 (by decide) rfl rfl ?_
    refine an_top (e' := nI (P)) (hRT.1) ?_
    refine an_imul d142_13 ?_
    refine an_icmp_ge 78 d142_14 (by decide) (by omega) (by omega) (fun c14 => by omega) (fun c14 => ?_)
    rcases mt_or mt (s) with e0 | ⟨t, e0⟩
    · have hnp := prN_n e0
      refine as_aload_n d142_17 rfl ?_
      refine ap_get d142_18 f142_7 (by decide) rfl rfl ?_
      refine as_iload_n d142_21 rfl ?_
      refine ap_iald d142_22 (fun _ _ _ _ => rfl) (by decide) (by omega) (by decide) ?_
      refine an_top (e' := (-1)) (by rw [hRT.2.1 _ (by omega), e0]; rfl) ?_
      refine an_iconstI (-1) d142_23 rfl ?_
      refine as_icmp_eq 72 d142_24 (by decide) (fun c24 => ?_) (fun c24 => absurd rfl c24)
      refine an_iinc 1 d142_72 rfl rfl (by decide) ?_
      refine as_goto 7 d142_75 (by decide) ?_
      refine AW.loc [(0, .ref (189)), (1, .int (nI (s + 1)))] (am_pick [1, 0] rfl rfl) ?_
      have ihs := ihs (T) (by first | exact ⟨hI.1, by rw [cnt_f hnp]; exact hI.2.1, hI.2.2.no hG hnp⟩ | exact ⟨((hI.1.sa _ _).sa _ _).sf (Or.inr rfl) _, by rw [sf_at, if_pos ⟨rfl, rfl⟩, hcn], PO.yes hG hs e0 c34 hI.2.2 (by show ((T.sa 199 s _).sa 199 t _).2.1 199 s = _; rw [sa_at, sa_at]; simp) (by show ((T.sa 199 s _).sa 199 t _).2.1 199 t = _; rw [sa_at]; simp) (fun x q1 q2 => by show ((T.sa 199 s _).sa 199 t _).2.1 199 x = _; rw [sa_at, sa_at, if_neg (by omega), if_neg (by omega)])⟩)
      exact ihs
    · have ht := mt_lt hG hs e0
      refine as_aload_n d142_17 rfl ?_
      refine ap_get d142_18 f142_7 (by decide) rfl rfl ?_
      refine as_iload_n d142_21 rfl ?_
      refine ap_iald d142_22 (fun _ _ _ _ => rfl) (by decide) (by omega) (by decide) ?_
      refine an_top (e' := nI (t)) (by rw [hRT.2.1 _ (by omega), e0]; rfl) ?_
      refine an_iconstI (-1) d142_23 rfl ?_
      refine as_icmp_eq 72 d142_24 (by decide) (fun c24 => absurd c24 (nI_ne1 (by omega))) (fun c24 => ?_)
      refine as_iload_n d142_27 rfl ?_
      refine as_aload_n d142_28 rfl ?_
      refine ap_get d142_29 f142_7 (by decide) rfl rfl ?_
      refine as_iload_n d142_32 rfl ?_
      refine ap_iald d142_33 (fun _ _ _ _ => rfl) (by decide) (by omega) (by decide) ?_
      refine an_top (e' := nI (t)) (by rw [hRT.2.1 _ (by omega), e0]; rfl) ?_
      refine an_icmp_ge 72 d142_34 (by decide) (by omega) (by omega) (fun c34 => ?_) (fun c34 => ?_)
      · have hnp := prN_g e0 (show ¬ s < t by omega)
        refine an_iinc 1 d142_72 rfl rfl (by decide) ?_
        refine as_goto 7 d142_75 (by decide) ?_
        refine AW.loc [(0, .ref (189)), (1, .int (nI (s + 1)))] (am_pick [1, 0] rfl rfl) ?_
        have ihs := ihs (T) (by first | exact ⟨hI.1, by rw [cnt_f hnp]; exact hI.2.1, hI.2.2.no hG hnp⟩ | exact ⟨((hI.1.sa _ _).sa _ _).sf (Or.inr rfl) _, by rw [sf_at, if_pos ⟨rfl, rfl⟩, hcn], PO.yes hG hs e0 c34 hI.2.2 (by show ((T.sa 199 s _).sa 199 t _).2.1 199 s = _; rw [sa_at, sa_at]; simp) (by show ((T.sa 199 s _).sa 199 t _).2.1 199 t = _; rw [sa_at]; simp) (fun x q1 q2 => by show ((T.sa 199 s _).sa 199 t _).2.1 199 x = _; rw [sa_at, sa_at, if_neg (by omega), if_neg (by omega)])⟩)
        exact ihs
      · have hyp := prN_t e0 c34
        have hcn := cnt_t hyp
        refine as_aload_n d142_37 rfl ?_
        refine ap_get d142_38 f142_38 (by decide) rfl rfl ?_
        refine as_iload_n d142_41 rfl ?_
        refine as_aload_n d142_42 rfl ?_
        refine ap_get d142_43 f142_159 (by decide) rfl rfl ?_
        refine an_top (e' := nI (cnt (prN mt) (s))) (hI.2.1) ?_
        refine ap_iast d142_46 (fun _ _ _ _ => rfl) (by decide) (by omega) (by decide) ?_
        refine as_aload_n d142_47 rfl ?_
        refine ap_get d142_48 f142_38 (by decide) rfl rfl ?_
        refine as_aload_n d142_51 rfl ?_
        refine ap_get d142_52 f142_7 (by decide) rfl rfl ?_
        refine as_iload_n d142_55 rfl ?_
        refine ap_iald d142_56 (fun _ _ _ _ => rfl) (by decide) (by omega) (by decide) ?_
        refine an_top (e' := nI (t)) (by rw [sa_row _ _ _ _ (by decide), hRT.2.1 _ (by omega), e0]; rfl) ?_
        refine as_aload_n d142_57 rfl ?_
        refine ap_get d142_58 f142_159 (by decide) rfl rfl ?_
        refine an_top (e' := nI (cnt (prN mt) (s))) (hI.2.1) ?_
        refine ap_iast d142_61 (fun _ _ _ _ => rfl) (by decide) (by omega) (by decide) ?_
        refine as_aload_n d142_62 rfl ?_
        refine as_dup d142_63 rfl ?_
        refine ap_get d142_64 f142_159 (by decide) rfl rfl ?_
        refine an_top (e' := nI (cnt (prN mt) (s))) (hI.2.1) ?_
        refine an_iconst 1 d142_67 rfl ?_
        refine an_iadd d142_68 ?_
        refine ap_put d142_69 f142_159 (by decide) rfl (Nat.le_of_ble_eq_true rfl) (rfl) rfl rfl ?_
        refine an_iinc 1 d142_72 rfl rfl (by decide) ?_
        refine as_goto 7 d142_75 (by decide) ?_
        refine AW.loc [(0, .ref (189)), (1, .int (nI (s + 1)))] (am_pick [1, 0] rfl rfl) ?_
        have ihs := ihs ((((T).sa 199 (s) (nI (cnt (prN mt) (s)))).sa 199 (t) (nI (cnt (prN mt) (s)))).sf 189 12 (nI ((cnt (prN mt) (s)) + (1)))) (by first | exact ⟨hI.1, by rw [cnt_f hnp]; exact hI.2.1, hI.2.2.no hG hnp⟩ | exact ⟨((hI.1.sa _ _).sa _ _).sf (Or.inr rfl) _, by rw [sf_at, if_pos ⟨rfl, rfl⟩, hcn], PO.yes hG hs e0 c34 hI.2.2 (by show ((T.sa 199 s _).sa 199 t _).2.1 199 s = _; rw [sa_at, sa_at]; simp) (by show ((T.sa 199 s _).sa 199 t _).2.1 199 t = _; rw [sa_at]; simp) (fun x q1 q2 => by show ((T.sa 199 s _).sa 199 t _).2.1 199 x = _; rw [sa_at, sa_at, if_neg (by omega), if_neg (by omega)])⟩)
        exact ihs
  · refine as_iload_n d142_7 rfl ?_
    refine an_iconst 4 d142_8 rfl ?_
    refine as_aload_n d142_9 rfl ?_
    refine ap_get d142_10 f142_67 (by decide) rfl rfl ?_
    refine an_top (e' := nI (P)) ((hR.hk hX.1).1) ?_
    refine an_imul d142_13 ?_
    refine an_icmp_ge 78 d142_14 (by decide) (by omega) (by omega) (fun c14 => ?_) (fun c14 => by omega)
    refine as_return d142_78 t142 ?_
    exact ⟨_, _, rfl, rfl, hX⟩
theorem mx_numberPairs (X : am_X) (S : MS) (P : Nat) (mt : Nat → Option Nat) (go : Nat → Nat) (hG : GW P mt go) (hC : CG S P mt go) : ∃ T, MC X 23 [.ref (22), .ref (1)] S none T ∧ oKeep S T ∧ T.2.2 = S.2.2 ∧ T.1 22 3 = nI (cnt (prN mt) (4 * P)) ∧ PO mt (T.2.1 42) P (4 * P) := by
  have hP := hG.1
  have key := MX.mc (X := X) (mj := 23) (as := [.ref (22), .ref (1)]) (S := S) (Post := fun v T => v = none ∧ oKeep S T ∧ T.2.2 = S.2.2 ∧ T.1 22 3 = nI (cnt (prN mt) (4 * P)) ∧ PO mt (T.2.1 42) P (4 * P)) ?_
  · obtain ⟨v, T, g1, g2, g3⟩ := key
    subst g2
    exact ⟨T, g1, g3⟩
  refine MX.of (Nat.le_of_ble_eq_true rfl) ?_
  refine as_aload_n d23_0 rfl ?_
  refine an_iconst 0 d23_1 rfl ?_
  refine ap_put d23_2 f23_49 (by decide) rfl (Nat.le_of_ble_eq_true rfl) (rfl) rfl rfl ?_
  refine an_iconst 0 d23_5 rfl ?_
  refine as_istore_n d23_6 (by decide) ?_
  refine AW.loc [(0, .ref (22)), (1, .ref (1)), (2, .int (nI (0)))] (am_pick [1, 2, 0] rfl rfl) ?_
  refine aw_fromE (fun s T => ((7, [(0, .ref (22)), (1, .ref (1)), (2, .int (nI (s)))], [], 208, HP (T), 0, 0) : am_Z)) (fun s T => oKeep S T ∧ T.2.2 = S.2.2 ∧ T.1 22 3 = nI (cnt (prN mt) (s)) ∧ PO mt (T.2.1 42) P (s)) (0) (4 * P) (by omega) ((S).sf 22 3 (nI (0))) (rfl) (⟨(oKeep.rf S).sf (by omega) _, rfl, by rw [sf_at, if_pos ⟨rfl, rfl⟩]; rfl, PO.zero _ _ _⟩) (fun s T hs0 hs hI ihs => ?_) (fun T hX => ?_)
  · have hCT := hC.ok hI.1
    refine as_iload_n d23_7 rfl ?_
    refine an_iconst 4 d23_8 rfl ?_
    refine as_aload_n d23_9 rfl ?_
    refine ap_get d23_10 f23_62 (by decide) rfl rfl ?_
    refine an_top (e' := nI (P)) (hCT.1) ?_
    refine an_imul d23_13 ?_
    refine an_icmp_ge 66 d23_14 (by decide) (by omega) (by omega) (fun c14 => by omega) (fun c14 => ?_)
    refine as_aload_n d23_17 rfl ?_
    refine as_iload_n d23_18 rfl ?_
    refine ac_v1 d23_19 c23_65 (by decide) rfl (Nat.le_of_ble_eq_true rfl) (mc_isLesser X _ P mt go _ hG hCT hs) ?_
    refine as_if_eq 60 d23_22 (by decide) (fun c22 => ?_) (fun c22 => ?_)
    · have hnp := am_b01.mp c22
      refine an_iinc 1 d23_60 rfl rfl (by decide) ?_
      refine as_goto 7 d23_63 (by decide) ?_
      refine AW.loc [(0, .ref (22)), (1, .ref (1)), (2, .int (nI (s + 1)))] (am_pick [1, 2, 0] rfl rfl) ?_
      have ihs := ihs (T) (by first | exact ⟨hI.1, hI.2.1, by rw [cnt_f hnp]; exact hI.2.2.1, hI.2.2.2.no hG hnp⟩ | exact ⟨((hI.1.sa _ _).sa _ _).sf (by omega) _, hI.2.1, by rw [sf_at, if_pos ⟨rfl, rfl⟩, hcn], PO.yes hG hs e0 hst hI.2.2.2 (by show ((T.sa 42 s _).sa 42 t _).2.1 42 s = _; rw [sa_at, sa_at]; simp) (by show ((T.sa 42 s _).sa 42 t _).2.1 42 t = _; rw [sa_at]; simp) (fun x q1 q2 => by show ((T.sa 42 s _).sa 42 t _).2.1 42 x = _; rw [sa_at, sa_at, if_neg (by omega), if_neg (by omega)])⟩)
      exact ihs
    · obtain ⟨t, e0, hst⟩ := prN_ex (am_b1 c22)
      have hcn := cnt_t (am_b1 c22)
      have ht := mt_lt hG hs e0
      refine as_aload_n d23_25 rfl ?_
      refine ap_get d23_26 f23_16 (by decide) rfl rfl ?_
      refine as_iload_n d23_29 rfl ?_
      refine as_aload_n d23_30 rfl ?_
      refine ap_get d23_31 f23_49 (by decide) rfl rfl ?_
      refine an_top (e' := nI (cnt (prN mt) (s))) (hI.2.2.1) ?_
      refine ap_iast d23_34 (fun _ _ _ _ => rfl) (by decide) (by omega) (by decide) ?_
      refine as_aload_n d23_35 rfl ?_
      refine ap_get d23_36 f23_16 (by decide) rfl rfl ?_
      refine as_aload_n d23_39 rfl ?_
      refine ap_get d23_40 f23_68 (by decide) rfl rfl ?_
      refine as_iload_n d23_43 rfl ?_
      refine ap_iald d23_44 (fun _ _ _ _ => rfl) (by decide) (by omega) (by decide) ?_
      refine an_top (e' := nI (t)) (by rw [sa_row _ _ _ _ (by decide), hCT.2.2.1 _ (by omega), e0]; rfl) ?_
      refine as_aload_n d23_45 rfl ?_
      refine ap_get d23_46 f23_49 (by decide) rfl rfl ?_
      refine an_top (e' := nI (cnt (prN mt) (s))) (hI.2.2.1) ?_
      refine ap_iast d23_49 (fun _ _ _ _ => rfl) (by decide) (by omega) (by decide) ?_
      refine as_aload_n d23_50 rfl ?_
      refine as_dup d23_51 rfl ?_
      refine ap_get d23_52 f23_49 (by decide) rfl rfl ?_
      refine an_top (e' := nI (cnt (prN mt) (s))) (hI.2.2.1) ?_
      refine an_iconst 1 d23_55 rfl ?_
      refine an_iadd d23_56 ?_
      refine ap_put d23_57 f23_49 (by decide) rfl (Nat.le_of_ble_eq_true rfl) (rfl) rfl rfl ?_
      refine an_iinc 1 d23_60 rfl rfl (by decide) ?_
      refine as_goto 7 d23_63 (by decide) ?_
      refine AW.loc [(0, .ref (22)), (1, .ref (1)), (2, .int (nI (s + 1)))] (am_pick [1, 2, 0] rfl rfl) ?_
      have ihs := ihs ((((T).sa 42 (s) (nI (cnt (prN mt) (s)))).sa 42 (t) (nI (cnt (prN mt) (s)))).sf 22 3 (nI ((cnt (prN mt) (s)) + (1)))) (by first | exact ⟨hI.1, hI.2.1, by rw [cnt_f hnp]; exact hI.2.2.1, hI.2.2.2.no hG hnp⟩ | exact ⟨((hI.1.sa _ _).sa _ _).sf (by omega) _, hI.2.1, by rw [sf_at, if_pos ⟨rfl, rfl⟩, hcn], PO.yes hG hs e0 hst hI.2.2.2 (by show ((T.sa 42 s _).sa 42 t _).2.1 42 s = _; rw [sa_at, sa_at]; simp) (by show ((T.sa 42 s _).sa 42 t _).2.1 42 t = _; rw [sa_at]; simp) (fun x q1 q2 => by show ((T.sa 42 s _).sa 42 t _).2.1 42 x = _; rw [sa_at, sa_at, if_neg (by omega), if_neg (by omega)])⟩)
      exact ihs
  · refine as_iload_n d23_7 rfl ?_
    refine an_iconst 4 d23_8 rfl ?_
    refine as_aload_n d23_9 rfl ?_
    refine ap_get d23_10 f23_62 (by decide) rfl rfl ?_
    refine an_top (e' := nI (P)) ((hC.ok hX.1).1) ?_
    refine an_imul d23_13 ?_
    refine an_icmp_ge 66 d23_14 (by decide) (by omega) (by omega) (fun c14 => ?_) (fun c14 => by omega)
    refine as_return d23_66 t23 ?_
    exact ⟨_, _, rfl, rfl, hX⟩
