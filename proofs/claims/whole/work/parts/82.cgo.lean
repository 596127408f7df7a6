/-! holes: the class's goAround -/
theorem isQ23 : isQ 4 23 18 := fun _ _ _ _ => rfl
/-- the row q is being filled -/
def GRc (S T : MS) (q m : Nat) (f : Nat → Int) : Prop := T.1 = S.1 ∧ T.2.1 = S.2.1 ∧ T.2.2.2 = S.2.2.2 ∧ (∀ y, y ≠ q → T.2.2.1 y = S.2.2.1 y) ∧ ∀ c, c < m → T.2.2.1 q c = Int64.ofInt (f c)
theorem GRc.zero (S : MS) (q : Nat) : GRc S S q 0 (fun _ => 0) := ⟨rfl, rfl, rfl, fun _ _ => rfl, fun _ h => absurd h (Nat.not_lt_zero _)⟩
theorem GRc.set {S T : MS} {q m : Nat} (h : GRc S T q m (fun _ => 0)) {y : Int64} (hy : y = Int64.ofInt 0) : GRc S (T.sl q m y) q (m + 1) (fun _ => 0) := by
  refine ⟨h.1, h.2.1, h.2.2.1, fun z g => ?_, fun c hc => ?_⟩
  · show u2 T.2.2.1 q m y z = _
    rw [u2_ne _ _ _ g]
    exact h.2.2.2.1 z g
  · rw [sl_at]
    by_cases e : c = m
    · rw [if_pos ⟨rfl, e⟩, hy]
    · rw [if_neg (fun w => e w.2)]
      exact h.2.2.2.2 c (by omega)
theorem GRc.step {S T : MS} {r m : Nat} {f : Nat → Int} (h : GRc S T r m f) {q : Nat} (hq : q < m) {d : Int} {y : Int64} (hy : y = T.2.2.1 r q + Int64.ofInt d) : GRc S (T.sl r q y) r m (fun c => f c + if q = c then d else 0) := by
  refine ⟨h.1, h.2.1, h.2.2.1, fun z g => ?_, fun c hc => ?_⟩
  · show u2 T.2.2.1 r q y z = _
    rw [u2_ne _ _ _ g]
    exact h.2.2.2.1 z g
  · rw [sl_at]
    by_cases e : q = c
    · subst e
      rw [if_pos ⟨rfl, rfl⟩, hy, h.2.2.2.2 q hq]
      show _ = Int64.ofInt (f q + if q = q then d else 0)
      rw [if_pos rfl, Int64.ofInt_add]
    · rw [if_neg (fun w => e w.2.symm)]
      show _ = Int64.ofInt (f c + if q = c then d else 0)
      rw [if_neg e, Int.add_zero]
      exact h.2.2.2.2 c hc
theorem CG.gc {S T : MS} {P q m : Nat} {mt : Nat → Option Nat} {go : Nat → Nat} {f : Nat → Int} (h : CG S P mt go) (g : GRc S T q m f) : CG T P mt go := h.keep (by rw [g.1]) (by rw [g.1]) (by rw [g.2.1]) (by rw [g.2.1])
theorem WX.l {P : Nat} {mt : Nat → Option Nat} {go L : Nat → Nat} (hG : GW P mt go) (hN : NB P mt go L) {k n : Nat} {x : Nat → WS} (h : WX mt go k n x) (hk : k < 6 * P) : ∀ i, i ≤ n → wL L (x i) = wL L (ws k)
  | 0, _ => by rw [h.1]
  | i + 1, hi => (wL_st hG hN (h.v hG hk i (by omega)) (h.2.1 i (by omega)).1).trans (WX.l hG hN h hk i (by omega))
theorem ws_e {k : Nat} : wE (ws k) = k := by
  have h : ∀ e, e < 6 → eOf (fE e) (tE e) = e := by decide
  have h1 := fE_opp (k % 6) (by omega)
  show 6 * ((4 * (k / 6) + fE (5 - k % 6)) / 4) + eOf (fE (k % 6)) (tE (k % 6)) = k
  rw [h _ (by omega)]
  omega
/-- the class sees only the edge and the side: it is enough -/
theorem ws_eq2 {P : Nat} {L : Nat → Nat} (hN : ∀ k, k < 6 * P → L (2 * k) ≠ L (2 * k + 1)) {k : Nat} {w : WS} (h : WV P w) (hk : k < 6 * P) (hl : wL L w = wL L (ws k)) (h1 : w.1 = (ws k).1) (h2 : wE w = k) : w = ws k := by
  rcases wE_eq hN h (ws_v hk) (h2.trans ws_e.symm) hl with q | q
  · exact q
  · exfalso
    have e := congrArg Prod.fst q
    rw [← h1] at e
    obtain ⟨a1, a2, a3, a4, a5, a6⟩ := h
    have o := oth4 a2 a3 (show w.1 % 4 < 4 by omega) a4 a5 a6
    have e2 : w.1 = 4 * (w.1 / 4) + (6 - w.2.1 - w.2.2 - w.1 % 4) := e
    omega
theorem mx_fillL (X : am_X) (S : MS) (q : Nat) (hq : 24 ≤ q ∧ q < 42) : ∃ T, MC X 179 [.ref (q), .long (Int64.ofNat 0)] S none T ∧ GRc S T q 6 (fun _ => 0) := by
  have key := MX.mc (X := X) (mj := 179) (as := [.ref (q), .long (Int64.ofNat 0)]) (S := S) (Post := fun v T => v = none ∧ GRc S T q 6 (fun _ => 0)) ?_
  · obtain ⟨v, T, g1, g2, g3⟩ := key
    subst g2
    exact ⟨T, g1, g3⟩
  refine MX.of (Nat.le_of_ble_eq_true rfl) ?_
  refine an_iconst 0 d179_0 rfl ?_
  refine as_istore_n d179_1 (by decide) ?_
  refine as_aload_n d179_2 rfl ?_
  refine as_alen d179_3 (by omega) (isJ_row hq _ _ _ _) (by decide) (an_top (e' := nI 6) rfl ?_)
  refine as_istore d179_4 (by decide) ?_
  refine AW.loc [(0, .ref (q)), (1, .long (Int64.ofNat 0)), (3, .int (nI (0))), (4, .int (nI (6)))] (am_pick [2, 3, 1, 0] rfl rfl) ?_
  refine aw_fromE (fun i T => ((6, [(0, .ref (q)), (1, .long (Int64.ofNat 0)), (3, .int (nI (i))), (4, .int (nI (6)))], [], 208, HP (T), 0, 0) : am_Z)) (fun i T => GRc S T q (i) (fun _ => 0)) (0) (6) (by omega) (S) (rfl) (GRc.zero S q) (fun i T hi0 hi hI ih => ?_) (fun T hX => ?_)
  · refine as_iload_n d179_6 rfl ?_
    refine as_iload d179_7 rfl ?_
    refine an_icmp_ge 22 d179_9 (by decide) (by omega) (by omega) (fun c9 => by omega) (fun c9 => ?_)
    refine as_aload_n d179_12 rfl ?_
    refine as_iload_n d179_13 rfl ?_
    refine as_lload_n d179_14 rfl ?_
    refine ap_last d179_15 (isJ_row hq) (by omega) (by omega) (by decide) ?_
    refine an_iinc 1 d179_16 rfl rfl (by decide) ?_
    refine as_goto 6 d179_19 (by decide) ?_
    refine AW.loc [(0, .ref (q)), (1, .long (Int64.ofNat 0)), (3, .int (nI (i + 1))), (4, .int (nI (6)))] (am_pick [1, 2, 0, 3] rfl rfl) ?_
    have ih := ih (T.sl (q) (i) (Int64.ofNat 0)) (hI.set rfl)
    exact ih
  · refine as_iload_n d179_6 rfl ?_
    refine as_iload d179_7 rfl ?_
    refine an_icmp_ge 22 d179_9 (by decide) (by omega) (by omega) (fun c9 => ?_) (fun c9 => by omega)
    refine as_return d179_22 t179 ?_
    exact ⟨_, _, rfl, rfl, hX⟩
set_option maxHeartbeats 1000000 in
theorem mx_goAroundC (X : am_X) (S : MS) (P : Nat) (mt : Nat → Option Nat) (go L : Nat → Nat) (hG : GW P mt go) (hC : CG S P mt go) (hN : NB P mt go L) (r q : Nat) (hr : r < 18) (hr1 : S.1 22 2 = nI r) (hq : S.2.2.2 23 r = q) (hq2 : 24 ≤ q ∧ q < 42) (hm : cnt (prN mt) (4 * P) ≤ 6) (hPO : PO mt (S.2.1 42) P (4 * P)) (k n : Nat) (hk : k < 6 * P) (hn : n < 6 * P) (x : Nat → WS) (hx : WX mt go k n x) : ∃ v T, MC X 24 [.ref (22), .ref (1), .int (nI (k))] S v T ∧ ((v = some (.int (nI 0)) ∧ mt (x n).1 = none ∧ ∃ f, GRc S T q 6 f) ∨ (v = some (.int (nI 1)) ∧ wst mt go (x n) = some (ws k) ∧ GRc S T q 6 (rwX mt x (n + 1)))) := by
  have hP := hG.1
  have hf := fE_ok (k % 6) (by omega)
  have ho := fE_opp (k % 6) (by omega)
  have z1 : (x 0).1 = 4 * (k / 6) + fE (5 - k % 6) := by rw [hx.1]; rfl
  have z2 : (x 0).2.1 = fE (k % 6) := by rw [hx.1]; rfl
  have z3 : (x 0).2.2 = tE (k % 6) := by rw [hx.1]; rfl
  obtain ⟨T0, m1, m2⟩ := mx_fillL X S q hq2
  refine MX.mc (X := X) (mj := 24) (as := [.ref (22), .ref (1), .int (nI (k))]) (S := S) (Post := fun v T => ((v = some (.int (nI 0)) ∧ mt (x n).1 = none ∧ ∃ f, GRc S T q 6 f) ∨ (v = some (.int (nI 1)) ∧ wst mt go (x n) = some (ws k) ∧ GRc S T q 6 (rwX mt x (n + 1))))) ?_
  refine MX.of (Nat.le_of_ble_eq_true rfl) ?_
  refine as_aload_n d24_0 rfl ?_
  refine ap_get d24_1 f24_13 (by decide) rfl rfl ?_
  refine as_aload_n d24_4 rfl ?_
  refine ap_get d24_5 f24_24 (by decide) rfl rfl ?_
  refine an_top (e' := nI (r)) (hr1) ?_
  refine ap_aald d24_8 isQ23 (Or.inr rfl) (by decide) (by omega) (by decide) (an_topr hq ?_)
  refine as_astore_n d24_9 (by decide) ?_
  refine as_aload_n d24_10 rfl ?_
  refine as_lconst d24_11 ?_
  refine ac_s2 d24_12 c24_71 (by decide) (Nat.le_of_ble_eq_true rfl) (m1) ?_
  refine an_iconst 4 d24_15 rfl ?_
  refine as_iload_n d24_16 rfl ?_
  refine an_bipush 6 d24_17 rfl ?_
  refine an_idiv d24_19 (by omega) (by omega) (by omega) ?_
  refine an_imul d24_20 ?_
  refine as_gets d24_21 g24_77 ?_
  refine an_iconst 5 d24_24 rfl ?_
  refine as_iload_n d24_25 rfl ?_
  refine an_bipush 6 d24_26 rfl ?_
  refine an_irem d24_28 (by omega) (by omega) (by omega) ?_
  refine an_isub d24_29 (by omega) ?_
  refine an_stat d24_30 (by decide) (by show _ < 6; omega) ?_
  refine an_top (e' := nI (fE (5 - k % 6))) ((sl_low (by omega)).1) ?_
  refine an_iadd d24_31 ?_
  refine as_istore d24_32 (by decide) ?_
  refine AW.loc [(4, .int (nI (((4) * ((k) / (6))) + (fE (5 - k % 6))))), (3, .ref (q)), (0, .ref (22)), (1, .ref (1)), (2, .int (nI (k)))] (am_pick [0, 1, 2, 3, 4] rfl rfl) ?_
  refine as_iload d24_34 rfl ?_
  refine as_istore d24_36 (by decide) ?_
  refine as_gets d24_38 g24_77 ?_
  refine as_iload_n d24_41 rfl ?_
  refine an_bipush 6 d24_42 rfl ?_
  refine an_irem d24_44 (by omega) (by omega) (by omega) ?_
  refine an_stat d24_45 (by decide) (by show _ < 6; omega) ?_
  refine an_top (e' := nI (fE (k % 6))) ((sl_low (by omega)).1) ?_
  refine as_istore d24_46 (by decide) ?_
  refine AW.loc [(6, .int (nI (fE (k % 6)))), (5, .int (nI (((4) * ((k) / (6))) + (fE (5 - k % 6))))), (4, .int (nI (((4) * ((k) / (6))) + (fE (5 - k % 6))))), (3, .ref (q)), (0, .ref (22)), (1, .ref (1)), (2, .int (nI (k)))] (am_pick [0, 1, 2, 3, 4, 5, 6] rfl rfl) ?_
  refine as_gets d24_48 g24_80 ?_
  refine as_iload_n d24_51 rfl ?_
  refine an_bipush 6 d24_52 rfl ?_
  refine an_irem d24_54 (by omega) (by omega) (by omega) ?_
  refine an_stat d24_55 (by decide) (by show _ < 6; omega) ?_
  refine an_top (e' := nI (tE (k % 6))) ((sl_high (by omega)).1) ?_
  refine as_istore d24_56 (by decide) ?_
  refine an_iconst 0 d24_58 rfl ?_
  refine as_istore d24_59 (by decide) ?_
  refine AW.loc [(0, .ref (22)), (1, .ref (1)), (2, .int (nI (k))), (3, .ref (q)), (4, .int (nI (((4) * ((k) / (6))) + (fE (5 - k % 6))))), (5, .int (nI (((4) * ((k) / (6))) + (fE (5 - k % 6))))), (6, .int (nI (fE (k % 6)))), (7, .int (nI (tE (k % 6)))), (8, .int (nI (0)))] (am_pick [6, 7, 8, 5, 4, 3, 2, 1, 0] rfl rfl) ?_
  refine aw_fromE (fun i T => ((61, [(0, .ref (22)), (1, .ref (1)), (2, .int (nI (k))), (3, .ref (q)), (4, .int (nI (4 * (k / 6) + fE (5 - k % 6)))), (5, .int (nI ((x (i)).1))), (6, .int (nI ((x (i)).2.1))), (7, .int (nI ((x (i)).2.2))), (8, .int (nI (i)))], [], 208, HP (T), 0, 0) : am_Z)) (fun i T => GRc S T q 6 (rwX mt x (i))) (0) (n) (by omega) (T0) (by rw [z1, z2, z3]; rfl) (m2) (fun i T hi0 hi hI ih => ?_) (fun T hX => ?_)
  · have hv := hx.v hG hk (i) (by omega)
    obtain ⟨t, e0, b2, b3, b4, b5, b6, b7, b8, b9, d1, d2, d3, d4, d5⟩ := wst_f hG hv (hx.2.1 i hi).1
    have hpr := prOf_lt hG hv.1 e0
    have hpo : T.2.1 42 (x i).1 = nI (prOf mt (x i).1) := by rw [hI.2.1, prOf_s e0]; exact hPO _ hv.1 _ e0 (by have := hv.1; omega)
    have hs12 := hv.1
    obtain ⟨-, w1, w2, w3, w4, w5⟩ := hv
    have ho4 := oth4 b9 d1 (show t % 4 < 4 by omega) d2 d3 d4
    have hsum : (x (i + 1)).2.1 + (x (i + 1)).2.2 + t % 4 ≤ 6 := by omega
    have hCT := hC.gc hI
    have heo := eOf_lt _ b9 _ d1
    refine as_iload d24_61 rfl ?_
    refine an_bipush 18 d24_63 rfl ?_
    refine an_icmp_ge 218 d24_65 (by decide) (by omega) (by omega) (fun c65 => by omega) (fun c65 => ?_)
    refine as_aload_n d24_68 rfl ?_
    refine as_iload d24_69 rfl ?_
    refine ac_v1 d24_71 c24_83 (by decide) rfl (Nat.le_of_ble_eq_true rfl) (mc_isGlued X _ P mt go _ hG hCT hs12) ?_
    refine as_if_ne 79 d24_74 (by decide) (fun c74 => ?_) (fun c74 => absurd (c74.symm.trans (if_neg (by rw [e0]; exact fun g => by cases g))) (by decide))
    refine as_aload_n d24_79 rfl ?_
    refine as_aload_n d24_80 rfl ?_
    refine ap_get d24_81 f24_16 (by decide) rfl rfl ?_
    refine as_iload d24_84 rfl ?_
    refine ap_iald d24_86 (fun _ _ _ _ => rfl) (by decide) (by omega) (by decide) ?_
    refine an_top (e' := nI (prOf mt (x i).1)) (hpo) ?_
    refine as_dup2 d24_87 rfl rfl ?_
    refine ap_lald d24_88 (isJ_row hq2) (by omega) (by omega) (by decide) ?_
    refine as_aload_n d24_89 rfl ?_
    refine as_iload d24_90 rfl ?_
    refine ac_v1 d24_92 c24_65 (by decide) rfl (Nat.le_of_ble_eq_true rfl) (mc_isLesser X _ P mt go _ hG hCT hs12) ?_
    refine as_if_eq 102 d24_95 (by decide) (fun c95 => ?_) (fun c95 => ?_)
    · have hsg : Int64.ofInt (sgW mt (x i).1) = (-1) := by unfold sgW; rw [if_neg (am_b01.mp c95)]; rfl
      refine as_ldc2 (v := (-1)) d24_102 (by decide +kernel) ?_
      refine as_ladd d24_105 ?_
      refine ap_last d24_106 (isJ_row hq2) (by omega) (by omega) (by decide) ?_
      have hst := hI.step (d := sgW mt (x i).1) (show prOf mt (x i).1 < 6 by omega) (congrArg (fun z => T.2.2.1 q (prOf mt (x i).1) + z) hsg.symm)
      refine as_aload_n d24_107 rfl ?_
      refine ap_get d24_108 f24_88 (by decide) rfl rfl ?_
      refine an_iconst 4 d24_111 rfl ?_
      refine as_iload d24_112 rfl ?_
      refine an_imul d24_114 ?_
      refine as_iload d24_115 rfl ?_
      refine an_iadd d24_117 ?_
      refine ap_iald d24_118 (fun _ _ _ _ => rfl) (by decide) (by omega) (by decide) ?_
      refine an_top (e' := nI ((x (i + 1)).2.1)) ((hCT.2.2.2.2 _ _ _ hs12 e0 (by omega)).trans (congrArg nI b5.symm)) ?_
      refine as_istore d24_119 (by decide) ?_
      refine AW.loc [(9, .int (nI ((x (i + 1)).2.1))), (0, .ref (22)), (1, .ref (1)), (2, .int (nI (k))), (3, .ref (q)), (4, .int (nI (4 * (k / 6) + fE (5 - k % 6)))), (5, .int (nI ((x (i)).1))), (6, .int (nI ((x (i)).2.1))), (7, .int (nI ((x (i)).2.2))), (8, .int (nI (i)))] (am_pick [0, 1, 2, 3, 4, 5, 6, 7, 8, 9] rfl rfl) ?_
      refine as_aload_n d24_121 rfl ?_
      refine ap_get d24_122 f24_88 (by decide) rfl rfl ?_
      refine an_iconst 4 d24_125 rfl ?_
      refine as_iload d24_126 rfl ?_
      refine an_imul d24_128 ?_
      refine as_iload d24_129 rfl ?_
      refine an_iadd d24_131 ?_
      refine ap_iald d24_132 (fun _ _ _ _ => rfl) (by decide) (by omega) (by decide) ?_
      refine an_top (e' := nI ((x (i + 1)).2.2)) ((hCT.2.2.2.2 _ _ _ hs12 e0 (by omega)).trans (congrArg nI b6.symm)) ?_
      refine as_istore d24_133 (by decide) ?_
      refine AW.loc [(10, .int (nI ((x (i + 1)).2.2))), (9, .int (nI ((x (i + 1)).2.1))), (0, .ref (22)), (1, .ref (1)), (2, .int (nI (k))), (3, .ref (q)), (4, .int (nI (4 * (k / 6) + fE (5 - k % 6)))), (5, .int (nI ((x (i)).1))), (6, .int (nI ((x (i)).2.1))), (7, .int (nI ((x (i)).2.2))), (8, .int (nI (i)))] (am_pick [0, 1, 2, 3, 4, 5, 6, 7, 8, 9, 10] rfl rfl) ?_
      refine as_aload_n d24_135 rfl ?_
      refine ap_get d24_136 f24_68 (by decide) rfl rfl ?_
      refine as_iload d24_139 rfl ?_
      refine ap_iald d24_141 (fun _ _ _ _ => rfl) (by decide) (by omega) (by decide) ?_
      refine an_top (e' := nI (t)) ((hCT.2.2.1 _ hs12).trans (by rw [e0]; rfl)) ?_
      refine as_istore d24_142 (by decide) ?_
      refine AW.loc [(11, .int (nI (t))), (10, .int (nI ((x (i + 1)).2.2))), (9, .int (nI ((x (i + 1)).2.1))), (0, .ref (22)), (1, .ref (1)), (2, .int (nI (k))), (3, .ref (q)), (4, .int (nI (4 * (k / 6) + fE (5 - k % 6)))), (5, .int (nI ((x (i)).1))), (6, .int (nI ((x (i)).2.1))), (7, .int (nI ((x (i)).2.2))), (8, .int (nI (i)))] (am_pick [0, 1, 2, 3, 4, 5, 6, 7, 8, 9, 10, 11] rfl rfl) ?_
      refine as_iload d24_144 rfl ?_
      refine as_istore d24_146 (by decide) ?_
      refine AW.loc [(6, .int (nI ((x (i + 1)).2.1))), (11, .int (nI (t))), (10, .int (nI ((x (i + 1)).2.2))), (9, .int (nI ((x (i + 1)).2.1))), (0, .ref (22)), (1, .ref (1)), (2, .int (nI (k))), (3, .ref (q)), (4, .int (nI (4 * (k / 6) + fE (5 - k % 6)))), (5, .int (nI ((x (i)).1))), (7, .int (nI ((x (i)).2.2))), (8, .int (nI (i)))] (am_pick [0, 1, 2, 3, 4, 5, 6, 7, 8, 9, 10, 11] rfl rfl) ?_
      refine as_iload d24_148 rfl ?_
      refine as_istore d24_150 (by decide) ?_
      refine AW.loc [(7, .int (nI ((x (i + 1)).2.2))), (6, .int (nI ((x (i + 1)).2.1))), (11, .int (nI (t))), (10, .int (nI ((x (i + 1)).2.2))), (9, .int (nI ((x (i + 1)).2.1))), (0, .ref (22)), (1, .ref (1)), (2, .int (nI (k))), (3, .ref (q)), (4, .int (nI (4 * (k / 6) + fE (5 - k % 6)))), (5, .int (nI ((x (i)).1))), (8, .int (nI (i)))] (am_pick [0, 1, 2, 3, 4, 5, 6, 7, 8, 9, 10, 11] rfl rfl) ?_
      refine as_iload d24_152 rfl ?_
      refine as_iload d24_154 rfl ?_
      refine an_iconst 4 d24_156 rfl ?_
      refine an_irem d24_157 (by omega) (by omega) (by omega) ?_
      refine an_isub d24_158 (by omega) ?_
      refine an_bipush 6 d24_159 rfl ?_
      refine an_iadd d24_161 ?_
      refine as_iload d24_162 rfl ?_
      refine an_isub d24_164 (by omega) ?_
      refine as_iload d24_165 rfl ?_
      refine an_isub d24_167 (by omega) ?_
      refine as_iload d24_168 rfl ?_
      refine an_iconst 4 d24_170 rfl ?_
      refine an_irem d24_171 (by omega) (by omega) (by omega) ?_
      refine an_isub d24_172 (by omega) ?_
      refine an_top (e' := nI ((x (i + 1)).1)) (congrArg nI (by omega)) ?_
      refine as_istore d24_173 (by decide) ?_
      refine AW.loc [(5, .int (nI ((x (i + 1)).1))), (7, .int (nI ((x (i + 1)).2.2))), (6, .int (nI ((x (i + 1)).2.1))), (11, .int (nI (t))), (10, .int (nI ((x (i + 1)).2.2))), (9, .int (nI ((x (i + 1)).2.1))), (0, .ref (22)), (1, .ref (1)), (2, .int (nI (k))), (3, .ref (q)), (4, .int (nI (4 * (k / 6) + fE (5 - k % 6)))), (8, .int (nI (i)))] (am_pick [0, 1, 2, 3, 4, 5, 6, 7, 8, 9, 10, 11] rfl rfl) ?_
      refine an_bipush 6 d24_175 rfl ?_
      refine as_iload d24_177 rfl ?_
      refine an_iconst 4 d24_179 rfl ?_
      refine an_idiv d24_180 (by omega) (by omega) (by omega) ?_
      refine an_imul d24_181 ?_
      refine as_gets d24_182 g24_91 ?_
      refine an_iconst 4 d24_185 rfl ?_
      refine as_iload d24_186 rfl ?_
      refine an_imul d24_188 ?_
      refine as_iload d24_189 rfl ?_
      refine an_iadd d24_191 ?_
      refine an_stat d24_192 (by decide) (by show _ < 16; omega) ?_
      refine an_top (e' := nI (eOf (x (i + 1)).2.1 (x (i + 1)).2.2)) ((sl_of b9 d1).1) ?_
      refine an_iadd d24_193 ?_
      refine as_istore d24_194 (by decide) ?_
      refine AW.loc [(12, .int (nI (((6) * (((x (i + 1)).1) / (4))) + (eOf (x (i + 1)).2.1 (x (i + 1)).2.2)))), (5, .int (nI ((x (i + 1)).1))), (7, .int (nI ((x (i + 1)).2.2))), (6, .int (nI ((x (i + 1)).2.1))), (11, .int (nI (t))), (10, .int (nI ((x (i + 1)).2.2))), (9, .int (nI ((x (i + 1)).2.1))), (0, .ref (22)), (1, .ref (1)), (2, .int (nI (k))), (3, .ref (q)), (4, .int (nI (4 * (k / 6) + fE (5 - k % 6)))), (8, .int (nI (i)))] (am_pick [0, 1, 2, 3, 4, 5, 6, 7, 8, 9, 10, 11, 12] rfl rfl) ?_
      refine as_iload d24_196 rfl ?_
      refine as_iload d24_198 rfl ?_
      refine an_icmp_ne 212 d24_200 (by decide) (by omega) (by omega) (fun c200 => ?_) (fun c200 => ?_)
      · refine AW.loc [(12, .int (nI (((6) * (((x (i + 1)).1) / (4))) + (eOf (x (i + 1)).2.1 (x (i + 1)).2.2)))), (5, .int (nI ((x (i + 1)).1))), (7, .int (nI ((x (i + 1)).2.2))), (6, .int (nI ((x (i + 1)).2.1))), (11, .int (nI (t))), (10, .int (nI ((x (i + 1)).2.2))), (9, .int (nI ((x (i + 1)).2.1))), (0, .ref (22)), (1, .ref (1)), (2, .int (nI (k))), (3, .ref (q)), (4, .int (nI (4 * (k / 6) + fE (5 - k % 6)))), (8, .int (nI (i)))] (am_pick [0, 1, 2, 3, 4, 5, 6, 7, 8, 9, 10, 11, 12] rfl rfl) ?_
        refine an_iinc 1 d24_212 rfl rfl (by decide) ?_
        refine as_goto 61 d24_215 (by decide) ?_
        refine AW.loc [(0, .ref (22)), (1, .ref (1)), (2, .int (nI (k))), (3, .ref (q)), (4, .int (nI (4 * (k / 6) + fE (5 - k % 6)))), (5, .int (nI ((x (i + 1)).1))), (6, .int (nI ((x (i + 1)).2.1))), (7, .int (nI ((x (i + 1)).2.2))), (8, .int (nI (i + 1)))] (am_pick [8, 9, 10, 11, 12, 2, 4, 3, 0] rfl rfl) ?_
        have ih := ih (T.sl (q) (prOf mt (x i).1) ((T.2.2.1 (q) (prOf mt (x i).1)) + ((-1)))) (hst)
        exact ih
      · refine as_iload d24_203 rfl ?_
        refine as_iload_n d24_205 rfl ?_
        refine an_icmp_ne 212 d24_206 (by decide) (by omega) (by omega) (fun c206 => ?_) (fun c206 => absurd (ws_eq2 hN.2 (hx.v hG hk (i + 1) (by omega)) hk (hx.l hG hN hk (i + 1) (by omega)) c200 c206) (hx.2.1 i hi).2)
        refine AW.loc [(12, .int (nI (((6) * (((x (i + 1)).1) / (4))) + (eOf (x (i + 1)).2.1 (x (i + 1)).2.2)))), (5, .int (nI ((x (i + 1)).1))), (7, .int (nI ((x (i + 1)).2.2))), (6, .int (nI ((x (i + 1)).2.1))), (11, .int (nI (t))), (10, .int (nI ((x (i + 1)).2.2))), (9, .int (nI ((x (i + 1)).2.1))), (0, .ref (22)), (1, .ref (1)), (2, .int (nI (k))), (3, .ref (q)), (4, .int (nI (4 * (k / 6) + fE (5 - k % 6)))), (8, .int (nI (i)))] (am_pick [0, 1, 2, 3, 4, 5, 6, 7, 8, 9, 10, 11, 12] rfl rfl) ?_
        refine an_iinc 1 d24_212 rfl rfl (by decide) ?_
        refine as_goto 61 d24_215 (by decide) ?_
        refine AW.loc [(0, .ref (22)), (1, .ref (1)), (2, .int (nI (k))), (3, .ref (q)), (4, .int (nI (4 * (k / 6) + fE (5 - k % 6)))), (5, .int (nI ((x (i + 1)).1))), (6, .int (nI ((x (i + 1)).2.1))), (7, .int (nI ((x (i + 1)).2.2))), (8, .int (nI (i + 1)))] (am_pick [8, 9, 10, 11, 12, 2, 4, 3, 0] rfl rfl) ?_
        have ih := ih (T.sl (q) (prOf mt (x i).1) ((T.2.2.1 (q) (prOf mt (x i).1)) + ((-1)))) (hst)
        exact ih
    · have hsg : Int64.ofInt (sgW mt (x i).1) = Int64.ofNat 1 := by unfold sgW; rw [if_pos (am_b1 c95)]; rfl
      refine as_lconst d24_98 ?_
      refine as_goto 105 d24_99 (by decide) ?_
      refine as_ladd d24_105 ?_
      refine ap_last d24_106 (isJ_row hq2) (by omega) (by omega) (by decide) ?_
      have hst := hI.step (d := sgW mt (x i).1) (show prOf mt (x i).1 < 6 by omega) (congrArg (fun z => T.2.2.1 q (prOf mt (x i).1) + z) hsg.symm)
      refine as_aload_n d24_107 rfl ?_
      refine ap_get d24_108 f24_88 (by decide) rfl rfl ?_
      refine an_iconst 4 d24_111 rfl ?_
      refine as_iload d24_112 rfl ?_
      refine an_imul d24_114 ?_
      refine as_iload d24_115 rfl ?_
      refine an_iadd d24_117 ?_
      refine ap_iald d24_118 (fun _ _ _ _ => rfl) (by decide) (by omega) (by decide) ?_
      refine an_top (e' := nI ((x (i + 1)).2.1)) ((hCT.2.2.2.2 _ _ _ hs12 e0 (by omega)).trans (congrArg nI b5.symm)) ?_
      refine as_istore d24_119 (by decide) ?_
      refine AW.loc [(9, .int (nI ((x (i + 1)).2.1))), (0, .ref (22)), (1, .ref (1)), (2, .int (nI (k))), (3, .ref (q)), (4, .int (nI (4 * (k / 6) + fE (5 - k % 6)))), (5, .int (nI ((x (i)).1))), (6, .int (nI ((x (i)).2.1))), (7, .int (nI ((x (i)).2.2))), (8, .int (nI (i)))] (am_pick [0, 1, 2, 3, 4, 5, 6, 7, 8, 9] rfl rfl) ?_
      refine as_aload_n d24_121 rfl ?_
      refine ap_get d24_122 f24_88 (by decide) rfl rfl ?_
      refine an_iconst 4 d24_125 rfl ?_
      refine as_iload d24_126 rfl ?_
      refine an_imul d24_128 ?_
      refine as_iload d24_129 rfl ?_
      refine an_iadd d24_131 ?_
      refine ap_iald d24_132 (fun _ _ _ _ => rfl) (by decide) (by omega) (by decide) ?_
      refine an_top (e' := nI ((x (i + 1)).2.2)) ((hCT.2.2.2.2 _ _ _ hs12 e0 (by omega)).trans (congrArg nI b6.symm)) ?_
      refine as_istore d24_133 (by decide) ?_
      refine AW.loc [(10, .int (nI ((x (i + 1)).2.2))), (9, .int (nI ((x (i + 1)).2.1))), (0, .ref (22)), (1, .ref (1)), (2, .int (nI (k))), (3, .ref (q)), (4, .int (nI (4 * (k / 6) + fE (5 - k % 6)))), (5, .int (nI ((x (i)).1))), (6, .int (nI ((x (i)).2.1))), (7, .int (nI ((x (i)).2.2))), (8, .int (nI (i)))] (am_pick [0, 1, 2, 3, 4, 5, 6, 7, 8, 9, 10] rfl rfl) ?_
      refine as_aload_n d24_135 rfl ?_
      refine ap_get d24_136 f24_68 (by decide) rfl rfl ?_
      refine as_iload d24_139 rfl ?_
      refine ap_iald d24_141 (fun _ _ _ _ => rfl) (by decide) (by omega) (by decide) ?_
      refine an_top (e' := nI (t)) ((hCT.2.2.1 _ hs12).trans (by rw [e0]; rfl)) ?_
      refine as_istore d24_142 (by decide) ?_
      refine AW.loc [(11, .int (nI (t))), (10, .int (nI ((x (i + 1)).2.2))), (9, .int (nI ((x (i + 1)).2.1))), (0, .ref (22)), (1, .ref (1)), (2, .int (nI (k))), (3, .ref (q)), (4, .int (nI (4 * (k / 6) + fE (5 - k % 6)))), (5, .int (nI ((x (i)).1))), (6, .int (nI ((x (i)).2.1))), (7, .int (nI ((x (i)).2.2))), (8, .int (nI (i)))] (am_pick [0, 1, 2, 3, 4, 5, 6, 7, 8, 9, 10, 11] rfl rfl) ?_
      refine as_iload d24_144 rfl ?_
      refine as_istore d24_146 (by decide) ?_
      refine AW.loc [(6, .int (nI ((x (i + 1)).2.1))), (11, .int (nI (t))), (10, .int (nI ((x (i + 1)).2.2))), (9, .int (nI ((x (i + 1)).2.1))), (0, .ref (22)), (1, .ref (1)), (2, .int (nI (k))), (3, .ref (q)), (4, .int (nI (4 * (k / 6) + fE (5 - k % 6)))), (5, .int (nI ((x (i)).1))), (7, .int (nI ((x (i)).2.2))), (8, .int (nI (i)))] (am_pick [0, 1, 2, 3, 4, 5, 6, 7, 8, 9, 10, 11] rfl rfl) ?_
      refine as_iload d24_148 rfl ?_
      refine as_istore d24_150 (by decide) ?_
      refine AW.loc [(7, .int (nI ((x (i + 1)).2.2))), (6, .int (nI ((x (i + 1)).2.1))), (11, .int (nI (t))), (10, .int (nI ((x (i + 1)).2.2))), (9, .int (nI ((x (i + 1)).2.1))), (0, .ref (22)), (1, .ref (1)), (2, .int (nI (k))), (3, .ref (q)), (4, .int (nI (4 * (k / 6) + fE (5 - k % 6)))), (5, .int (nI ((x (i)).1))), (8, .int (nI (i)))] (am_pick [0, 1, 2, 3, 4, 5, 6, 7, 8, 9, 10, 11] rfl rfl) ?_
      refine as_iload d24_152 rfl ?_
      refine as_iload d24_154 rfl ?_
      refine an_iconst 4 d24_156 rfl ?_
      refine an_irem d24_157 (by omega) (by omega) (by omega) ?_
      refine an_isub d24_158 (by omega) ?_
      refine an_bipush 6 d24_159 rfl ?_
      refine an_iadd d24_161 ?_
      refine as_iload d24_162 rfl ?_
      refine an_isub d24_164 (by omega) ?_
      refine as_iload d24_165 rfl ?_
      refine an_isub d24_167 (by omega) ?_
      refine as_iload d24_168 rfl ?_
      refine an_iconst 4 d24_170 rfl ?_
      refine an_irem d24_171 (by omega) (by omega) (by omega) ?_
      refine an_isub d24_172 (by omega) ?_
      refine an_top (e' := nI ((x (i + 1)).1)) (congrArg nI (by omega)) ?_
      refine as_istore d24_173 (by decide) ?_
      refine AW.loc [(5, .int (nI ((x (i + 1)).1))), (7, .int (nI ((x (i + 1)).2.2))), (6, .int (nI ((x (i + 1)).2.1))), (11, .int (nI (t))), (10, .int (nI ((x (i + 1)).2.2))), (9, .int (nI ((x (i + 1)).2.1))), (0, .ref (22)), (1, .ref (1)), (2, .int (nI (k))), (3, .ref (q)), (4, .int (nI (4 * (k / 6) + fE (5 - k % 6)))), (8, .int (nI (i)))] (am_pick [0, 1, 2, 3, 4, 5, 6, 7, 8, 9, 10, 11] rfl rfl) ?_
      refine an_bipush 6 d24_175 rfl ?_
      refine as_iload d24_177 rfl ?_
      refine an_iconst 4 d24_179 rfl ?_
      refine an_idiv d24_180 (by omega) (by omega) (by omega) ?_
      refine an_imul d24_181 ?_
      refine as_gets d24_182 g24_91 ?_
      refine an_iconst 4 d24_185 rfl ?_
      refine as_iload d24_186 rfl ?_
      refine an_imul d24_188 ?_
      refine as_iload d24_189 rfl ?_
      refine an_iadd d24_191 ?_
      refine an_stat d24_192 (by decide) (by show _ < 16; omega) ?_
      refine an_top (e' := nI (eOf (x (i + 1)).2.1 (x (i + 1)).2.2)) ((sl_of b9 d1).1) ?_
      refine an_iadd d24_193 ?_
      refine as_istore d24_194 (by decide) ?_
      refine AW.loc [(12, .int (nI (((6) * (((x (i + 1)).1) / (4))) + (eOf (x (i + 1)).2.1 (x (i + 1)).2.2)))), (5, .int (nI ((x (i + 1)).1))), (7, .int (nI ((x (i + 1)).2.2))), (6, .int (nI ((x (i + 1)).2.1))), (11, .int (nI (t))), (10, .int (nI ((x (i + 1)).2.2))), (9, .int (nI ((x (i + 1)).2.1))), (0, .ref (22)), (1, .ref (1)), (2, .int (nI (k))), (3, .ref (q)), (4, .int (nI (4 * (k / 6) + fE (5 - k % 6)))), (8, .int (nI (i)))] (am_pick [0, 1, 2, 3, 4, 5, 6, 7, 8, 9, 10, 11, 12] rfl rfl) ?_
      refine as_iload d24_196 rfl ?_
      refine as_iload d24_198 rfl ?_
      refine an_icmp_ne 212 d24_200 (by decide) (by omega) (by omega) (fun c200 => ?_) (fun c200 => ?_)
      · refine AW.loc [(12, .int (nI (((6) * (((x (i + 1)).1) / (4))) + (eOf (x (i + 1)).2.1 (x (i + 1)).2.2)))), (5, .int (nI ((x (i + 1)).1))), (7, .int (nI ((x (i + 1)).2.2))), (6, .int (nI ((x (i + 1)).2.1))), (11, .int (nI (t))), (10, .int (nI ((x (i + 1)).2.2))), (9, .int (nI ((x (i + 1)).2.1))), (0, .ref (22)), (1, .ref (1)), (2, .int (nI (k))), (3, .ref (q)), (4, .int (nI (4 * (k / 6) + fE (5 - k % 6)))), (8, .int (nI (i)))] (am_pick [0, 1, 2, 3, 4, 5, 6, 7, 8, 9, 10, 11, 12] rfl rfl) ?_
        refine an_iinc 1 d24_212 rfl rfl (by decide) ?_
        refine as_goto 61 d24_215 (by decide) ?_
        refine AW.loc [(0, .ref (22)), (1, .ref (1)), (2, .int (nI (k))), (3, .ref (q)), (4, .int (nI (4 * (k / 6) + fE (5 - k % 6)))), (5, .int (nI ((x (i + 1)).1))), (6, .int (nI ((x (i + 1)).2.1))), (7, .int (nI ((x (i + 1)).2.2))), (8, .int (nI (i + 1)))] (am_pick [8, 9, 10, 11, 12, 2, 4, 3, 0] rfl rfl) ?_
        have ih := ih (T.sl (q) (prOf mt (x i).1) ((T.2.2.1 (q) (prOf mt (x i).1)) + (Int64.ofNat 1))) (hst)
        exact ih
      · refine as_iload d24_203 rfl ?_
        refine as_iload_n d24_205 rfl ?_
        refine an_icmp_ne 212 d24_206 (by decide) (by omega) (by omega) (fun c206 => ?_) (fun c206 => absurd (ws_eq2 hN.2 (hx.v hG hk (i + 1) (by omega)) hk (hx.l hG hN hk (i + 1) (by omega)) c200 c206) (hx.2.1 i hi).2)
        refine AW.loc [(12, .int (nI (((6) * (((x (i + 1)).1) / (4))) + (eOf (x (i + 1)).2.1 (x (i + 1)).2.2)))), (5, .int (nI ((x (i + 1)).1))), (7, .int (nI ((x (i + 1)).2.2))), (6, .int (nI ((x (i + 1)).2.1))), (11, .int (nI (t))), (10, .int (nI ((x (i + 1)).2.2))), (9, .int (nI ((x (i + 1)).2.1))), (0, .ref (22)), (1, .ref (1)), (2, .int (nI (k))), (3, .ref (q)), (4, .int (nI (4 * (k / 6) + fE (5 - k % 6)))), (8, .int (nI (i)))] (am_pick [0, 1, 2, 3, 4, 5, 6, 7, 8, 9, 10, 11, 12] rfl rfl) ?_
        refine an_iinc 1 d24_212 rfl rfl (by decide) ?_
        refine as_goto 61 d24_215 (by decide) ?_
        refine AW.loc [(0, .ref (22)), (1, .ref (1)), (2, .int (nI (k))), (3, .ref (q)), (4, .int (nI (4 * (k / 6) + fE (5 - k % 6)))), (5, .int (nI ((x (i + 1)).1))), (6, .int (nI ((x (i + 1)).2.1))), (7, .int (nI ((x (i + 1)).2.2))), (8, .int (nI (i + 1)))] (am_pick [8, 9, 10, 11, 12, 2, 4, 3, 0] rfl rfl) ?_
        have ih := ih (T.sl (q) (prOf mt (x i).1) ((T.2.2.1 (q) (prOf mt (x i).1)) + (Int64.ofNat 1))) (hst)
        exact ih
  · rcases hx.2.2 with e0 | he
    · have hv := hx.v hG hk n (Nat.le_refl n)
      have hs12 := hv.1
      have hCT := hC.gc hX
      refine as_iload d24_61 rfl ?_
      refine an_bipush 18 d24_63 rfl ?_
      refine an_icmp_ge 218 d24_65 (by decide) (by omega) (by omega) (fun c65 => by omega) (fun c65 => ?_)
      refine as_aload_n d24_68 rfl ?_
      refine as_iload d24_69 rfl ?_
      refine ac_v1 d24_71 c24_83 (by decide) rfl (Nat.le_of_ble_eq_true rfl) (mc_isGlued X _ P mt go _ hG hCT hs12) ?_
      refine as_if_ne 79 d24_74 (by decide) (fun c74 => absurd (if_pos e0) c74) (fun c74 => ?_)
      refine an_iconst 0 d24_77 rfl ?_
      refine as_ireturn d24_78 (by rw [t24]; rfl) ?_
      exact ⟨_, _, rfl, Or.inl ⟨rfl, e0, _, hX⟩⟩
    · have hv := hx.v hG hk (n) (by omega)
      obtain ⟨t, e0, b2, b3, b4, b5, b6, b7, b8, b9, d1, d2, d3, d4, d5⟩ := wst_f hG hv he
      have hpr := prOf_lt hG hv.1 e0
      have hpo : T.2.1 42 (x n).1 = nI (prOf mt (x n).1) := by rw [hX.2.1, prOf_s e0]; exact hPO _ hv.1 _ e0 (by have := hv.1; omega)
      have hs12 := hv.1
      obtain ⟨-, w1, w2, w3, w4, w5⟩ := hv
      have ho4 := oth4 b9 d1 (show t % 4 < 4 by omega) d2 d3 d4
      have hsum : (ws k).2.1 + (ws k).2.2 + t % 4 ≤ 6 := by omega
      have hCT := hC.gc hX
      have heo := eOf_lt _ b9 _ d1
      refine as_iload d24_61 rfl ?_
      refine an_bipush 18 d24_63 rfl ?_
      refine an_icmp_ge 218 d24_65 (by decide) (by omega) (by omega) (fun c65 => by omega) (fun c65 => ?_)
      refine as_aload_n d24_68 rfl ?_
      refine as_iload d24_69 rfl ?_
      refine ac_v1 d24_71 c24_83 (by decide) rfl (Nat.le_of_ble_eq_true rfl) (mc_isGlued X _ P mt go _ hG hCT hs12) ?_
      refine as_if_ne 79 d24_74 (by decide) (fun c74 => ?_) (fun c74 => absurd (c74.symm.trans (if_neg (by rw [e0]; exact fun g => by cases g))) (by decide))
      refine as_aload_n d24_79 rfl ?_
      refine as_aload_n d24_80 rfl ?_
      refine ap_get d24_81 f24_16 (by decide) rfl rfl ?_
      refine as_iload d24_84 rfl ?_
      refine ap_iald d24_86 (fun _ _ _ _ => rfl) (by decide) (by omega) (by decide) ?_
      refine an_top (e' := nI (prOf mt (x n).1)) (hpo) ?_
      refine as_dup2 d24_87 rfl rfl ?_
      refine ap_lald d24_88 (isJ_row hq2) (by omega) (by omega) (by decide) ?_
      refine as_aload_n d24_89 rfl ?_
      refine as_iload d24_90 rfl ?_
      refine ac_v1 d24_92 c24_65 (by decide) rfl (Nat.le_of_ble_eq_true rfl) (mc_isLesser X _ P mt go _ hG hCT hs12) ?_
      refine as_if_eq 102 d24_95 (by decide) (fun c95 => ?_) (fun c95 => ?_)
      · have hsg : Int64.ofInt (sgW mt (x n).1) = (-1) := by unfold sgW; rw [if_neg (am_b01.mp c95)]; rfl
        refine as_ldc2 (v := (-1)) d24_102 (by decide +kernel) ?_
        refine as_ladd d24_105 ?_
        refine ap_last d24_106 (isJ_row hq2) (by omega) (by omega) (by decide) ?_
        have hst := hX.step (d := sgW mt (x n).1) (show prOf mt (x n).1 < 6 by omega) (congrArg (fun z => T.2.2.1 q (prOf mt (x n).1) + z) hsg.symm)
        refine as_aload_n d24_107 rfl ?_
        refine ap_get d24_108 f24_88 (by decide) rfl rfl ?_
        refine an_iconst 4 d24_111 rfl ?_
        refine as_iload d24_112 rfl ?_
        refine an_imul d24_114 ?_
        refine as_iload d24_115 rfl ?_
        refine an_iadd d24_117 ?_
        refine ap_iald d24_118 (fun _ _ _ _ => rfl) (by decide) (by omega) (by decide) ?_
        refine an_top (e' := nI ((ws k).2.1)) ((hCT.2.2.2.2 _ _ _ hs12 e0 (by omega)).trans (congrArg nI b5.symm)) ?_
        refine as_istore d24_119 (by decide) ?_
        refine AW.loc [(9, .int (nI ((ws k).2.1))), (0, .ref (22)), (1, .ref (1)), (2, .int (nI (k))), (3, .ref (q)), (4, .int (nI (4 * (k / 6) + fE (5 - k % 6)))), (5, .int (nI ((x ((n))).1))), (6, .int (nI ((x ((n))).2.1))), (7, .int (nI ((x ((n))).2.2))), (8, .int (nI ((n))))] (am_pick [0, 1, 2, 3, 4, 5, 6, 7, 8, 9] rfl rfl) ?_
        refine as_aload_n d24_121 rfl ?_
        refine ap_get d24_122 f24_88 (by decide) rfl rfl ?_
        refine an_iconst 4 d24_125 rfl ?_
        refine as_iload d24_126 rfl ?_
        refine an_imul d24_128 ?_
        refine as_iload d24_129 rfl ?_
        refine an_iadd d24_131 ?_
        refine ap_iald d24_132 (fun _ _ _ _ => rfl) (by decide) (by omega) (by decide) ?_
        refine an_top (e' := nI ((ws k).2.2)) ((hCT.2.2.2.2 _ _ _ hs12 e0 (by omega)).trans (congrArg nI b6.symm)) ?_
        refine as_istore d24_133 (by decide) ?_
        refine AW.loc [(10, .int (nI ((ws k).2.2))), (9, .int (nI ((ws k).2.1))), (0, .ref (22)), (1, .ref (1)), (2, .int (nI (k))), (3, .ref (q)), (4, .int (nI (4 * (k / 6) + fE (5 - k % 6)))), (5, .int (nI ((x ((n))).1))), (6, .int (nI ((x ((n))).2.1))), (7, .int (nI ((x ((n))).2.2))), (8, .int (nI ((n))))] (am_pick [0, 1, 2, 3, 4, 5, 6, 7, 8, 9, 10] rfl rfl) ?_
        refine as_aload_n d24_135 rfl ?_
        refine ap_get d24_136 f24_68 (by decide) rfl rfl ?_
        refine as_iload d24_139 rfl ?_
        refine ap_iald d24_141 (fun _ _ _ _ => rfl) (by decide) (by omega) (by decide) ?_
        refine an_top (e' := nI (t)) ((hCT.2.2.1 _ hs12).trans (by rw [e0]; rfl)) ?_
        refine as_istore d24_142 (by decide) ?_
        refine AW.loc [(11, .int (nI (t))), (10, .int (nI ((ws k).2.2))), (9, .int (nI ((ws k).2.1))), (0, .ref (22)), (1, .ref (1)), (2, .int (nI (k))), (3, .ref (q)), (4, .int (nI (4 * (k / 6) + fE (5 - k % 6)))), (5, .int (nI ((x ((n))).1))), (6, .int (nI ((x ((n))).2.1))), (7, .int (nI ((x ((n))).2.2))), (8, .int (nI ((n))))] (am_pick [0, 1, 2, 3, 4, 5, 6, 7, 8, 9, 10, 11] rfl rfl) ?_
        refine as_iload d24_144 rfl ?_
        refine as_istore d24_146 (by decide) ?_
        refine AW.loc [(6, .int (nI ((ws k).2.1))), (11, .int (nI (t))), (10, .int (nI ((ws k).2.2))), (9, .int (nI ((ws k).2.1))), (0, .ref (22)), (1, .ref (1)), (2, .int (nI (k))), (3, .ref (q)), (4, .int (nI (4 * (k / 6) + fE (5 - k % 6)))), (5, .int (nI ((x ((n))).1))), (7, .int (nI ((x ((n))).2.2))), (8, .int (nI ((n))))] (am_pick [0, 1, 2, 3, 4, 5, 6, 7, 8, 9, 10, 11] rfl rfl) ?_
        refine as_iload d24_148 rfl ?_
        refine as_istore d24_150 (by decide) ?_
        refine AW.loc [(7, .int (nI ((ws k).2.2))), (6, .int (nI ((ws k).2.1))), (11, .int (nI (t))), (10, .int (nI ((ws k).2.2))), (9, .int (nI ((ws k).2.1))), (0, .ref (22)), (1, .ref (1)), (2, .int (nI (k))), (3, .ref (q)), (4, .int (nI (4 * (k / 6) + fE (5 - k % 6)))), (5, .int (nI ((x ((n))).1))), (8, .int (nI ((n))))] (am_pick [0, 1, 2, 3, 4, 5, 6, 7, 8, 9, 10, 11] rfl rfl) ?_
        refine as_iload d24_152 rfl ?_
        refine as_iload d24_154 rfl ?_
        refine an_iconst 4 d24_156 rfl ?_
        refine an_irem d24_157 (by omega) (by omega) (by omega) ?_
        refine an_isub d24_158 (by omega) ?_
        refine an_bipush 6 d24_159 rfl ?_
        refine an_iadd d24_161 ?_
        refine as_iload d24_162 rfl ?_
        refine an_isub d24_164 (by omega) ?_
        refine as_iload d24_165 rfl ?_
        refine an_isub d24_167 (by omega) ?_
        refine as_iload d24_168 rfl ?_
        refine an_iconst 4 d24_170 rfl ?_
        refine an_irem d24_171 (by omega) (by omega) (by omega) ?_
        refine an_isub d24_172 (by omega) ?_
        refine an_top (e' := nI ((ws k).1)) (congrArg nI (by omega)) ?_
        refine as_istore d24_173 (by decide) ?_
        refine AW.loc [(5, .int (nI ((ws k).1))), (7, .int (nI ((ws k).2.2))), (6, .int (nI ((ws k).2.1))), (11, .int (nI (t))), (10, .int (nI ((ws k).2.2))), (9, .int (nI ((ws k).2.1))), (0, .ref (22)), (1, .ref (1)), (2, .int (nI (k))), (3, .ref (q)), (4, .int (nI (4 * (k / 6) + fE (5 - k % 6)))), (8, .int (nI ((n))))] (am_pick [0, 1, 2, 3, 4, 5, 6, 7, 8, 9, 10, 11] rfl rfl) ?_
        refine an_bipush 6 d24_175 rfl ?_
        refine as_iload d24_177 rfl ?_
        refine an_iconst 4 d24_179 rfl ?_
        refine an_idiv d24_180 (by omega) (by omega) (by omega) ?_
        refine an_imul d24_181 ?_
        refine as_gets d24_182 g24_91 ?_
        refine an_iconst 4 d24_185 rfl ?_
        refine as_iload d24_186 rfl ?_
        refine an_imul d24_188 ?_
        refine as_iload d24_189 rfl ?_
        refine an_iadd d24_191 ?_
        refine an_stat d24_192 (by decide) (by show _ < 16; omega) ?_
        refine an_top (e' := nI (eOf (ws k).2.1 (ws k).2.2)) ((sl_of b9 d1).1) ?_
        refine an_iadd d24_193 ?_
        refine as_istore d24_194 (by decide) ?_
        refine AW.loc [(12, .int (nI (((6) * (((ws k).1) / (4))) + (eOf (ws k).2.1 (ws k).2.2)))), (5, .int (nI ((ws k).1))), (7, .int (nI ((ws k).2.2))), (6, .int (nI ((ws k).2.1))), (11, .int (nI (t))), (10, .int (nI ((ws k).2.2))), (9, .int (nI ((ws k).2.1))), (0, .ref (22)), (1, .ref (1)), (2, .int (nI (k))), (3, .ref (q)), (4, .int (nI (4 * (k / 6) + fE (5 - k % 6)))), (8, .int (nI ((n))))] (am_pick [0, 1, 2, 3, 4, 5, 6, 7, 8, 9, 10, 11, 12] rfl rfl) ?_
        refine as_iload d24_196 rfl ?_
        refine as_iload d24_198 rfl ?_
        refine an_icmp_ne 212 d24_200 (by decide) (by omega) (by omega) (fun c200 => absurd rfl c200) (fun c200 => ?_)
        refine as_iload d24_203 rfl ?_
        refine as_iload_n d24_205 rfl ?_
        refine an_icmp_ne 212 d24_206 (by decide) (by omega) (by omega) (fun c206 => absurd (ws_e (k := k)) c206) (fun c206 => ?_)
        refine as_goto 218 d24_209 (by decide) ?_
        refine an_iconst 1 d24_218 rfl ?_
        refine as_ireturn d24_219 (by rw [t24]; rfl) ?_
        exact ⟨_, _, rfl, Or.inr ⟨rfl, he, hst⟩⟩
      · have hsg : Int64.ofInt (sgW mt (x n).1) = Int64.ofNat 1 := by unfold sgW; rw [if_pos (am_b1 c95)]; rfl
        refine as_lconst d24_98 ?_
        refine as_goto 105 d24_99 (by decide) ?_
        refine as_ladd d24_105 ?_
        refine ap_last d24_106 (isJ_row hq2) (by omega) (by omega) (by decide) ?_
        have hst := hX.step (d := sgW mt (x n).1) (show prOf mt (x n).1 < 6 by omega) (congrArg (fun z => T.2.2.1 q (prOf mt (x n).1) + z) hsg.symm)
        refine as_aload_n d24_107 rfl ?_
        refine ap_get d24_108 f24_88 (by decide) rfl rfl ?_
        refine an_iconst 4 d24_111 rfl ?_
        refine as_iload d24_112 rfl ?_
        refine an_imul d24_114 ?_
        refine as_iload d24_115 rfl ?_
        refine an_iadd d24_117 ?_
        refine ap_iald d24_118 (fun _ _ _ _ => rfl) (by decide) (by omega) (by decide) ?_
        refine an_top (e' := nI ((ws k).2.1)) ((hCT.2.2.2.2 _ _ _ hs12 e0 (by omega)).trans (congrArg nI b5.symm)) ?_
        refine as_istore d24_119 (by decide) ?_
        refine AW.loc [(9, .int (nI ((ws k).2.1))), (0, .ref (22)), (1, .ref (1)), (2, .int (nI (k))), (3, .ref (q)), (4, .int (nI (4 * (k / 6) + fE (5 - k % 6)))), (5, .int (nI ((x ((n))).1))), (6, .int (nI ((x ((n))).2.1))), (7, .int (nI ((x ((n))).2.2))), (8, .int (nI ((n))))] (am_pick [0, 1, 2, 3, 4, 5, 6, 7, 8, 9] rfl rfl) ?_
        refine as_aload_n d24_121 rfl ?_
        refine ap_get d24_122 f24_88 (by decide) rfl rfl ?_
        refine an_iconst 4 d24_125 rfl ?_
        refine as_iload d24_126 rfl ?_
        refine an_imul d24_128 ?_
        refine as_iload d24_129 rfl ?_
        refine an_iadd d24_131 ?_
        refine ap_iald d24_132 (fun _ _ _ _ => rfl) (by decide) (by omega) (by decide) ?_
        refine an_top (e' := nI ((ws k).2.2)) ((hCT.2.2.2.2 _ _ _ hs12 e0 (by omega)).trans (congrArg nI b6.symm)) ?_
        refine as_istore d24_133 (by decide) ?_
        refine AW.loc [(10, .int (nI ((ws k).2.2))), (9, .int (nI ((ws k).2.1))), (0, .ref (22)), (1, .ref (1)), (2, .int (nI (k))), (3, .ref (q)), (4, .int (nI (4 * (k / 6) + fE (5 - k % 6)))), (5, .int (nI ((x ((n))).1))), (6, .int (nI ((x ((n))).2.1))), (7, .int (nI ((x ((n))).2.2))), (8, .int (nI ((n))))] (am_pick [0, 1, 2, 3, 4, 5, 6, 7, 8, 9, 10] rfl rfl) ?_
        refine as_aload_n d24_135 rfl ?_
        refine ap_get d24_136 f24_68 (by decide) rfl rfl ?_
        refine as_iload d24_139 rfl ?_
        refine ap_iald d24_141 (fun _ _ _ _ => rfl) (by decide) (by omega) (by decide) ?_
        refine an_top (e' := nI (t)) ((hCT.2.2.1 _ hs12).trans (by rw [e0]; rfl)) ?_
        refine as_istore d24_142 (by decide) ?_
        refine AW.loc [(11, .int (nI (t))), (10, .int (nI ((ws k).2.2))), (9, .int (nI ((ws k).2.1))), (0, .ref (22)), (1, .ref (1)), (2, .int (nI (k))), (3, .ref (q)), (4, .int (nI (4 * (k / 6) + fE (5 - k % 6)))), (5, .int (nI ((x ((n))).1))), (6, .int (nI ((x ((n))).2.1))), (7, .int (nI ((x ((n))).2.2))), (8, .int (nI ((n))))] (am_pick [0, 1, 2, 3, 4, 5, 6, 7, 8, 9, 10, 11] rfl rfl) ?_
        refine as_iload d24_144 rfl ?_
        refine as_istore d24_146 (by decide) ?_
        refine AW.loc [(6, .int (nI ((ws k).2.1))), (11, .int (nI (t))), (10, .int (nI ((ws k).2.2))), (9, .int (nI ((ws k).2.1))), (0, .ref (22)), (1, .ref (1)), (2, .int (nI (k))), (3, .ref (q)), (4, .int (nI (4 * (k / 6) + fE (5 - k % 6)))), (5, .int (nI ((x ((n))).1))), (7, .int (nI ((x ((n))).2.2))), (8, .int (nI ((n))))] (am_pick [0, 1, 2, 3, 4, 5, 6, 7, 8, 9, 10, 11] rfl rfl) ?_
        refine as_iload d24_148 rfl ?_
        refine as_istore d24_150 (by decide) ?_
        refine AW.loc [(7, .int (nI ((ws k).2.2))), (6, .int (nI ((ws k).2.1))), (11, .int (nI (t))), (10, .int (nI ((ws k).2.2))), (9, .int (nI ((ws k).2.1))), (0, .ref (22)), (1, .ref (1)), (2, .int (nI (k))), (3, .ref (q)), (4, .int (nI (4 * (k / 6) + fE (5 - k % 6)))), (5, .int (nI ((x ((n))).1))), (8, .int (nI ((n))))] (am_pick [0, 1, 2, 3, 4, 5, 6, 7, 8, 9, 10, 11] rfl rfl) ?_
        refine as_iload d24_152 rfl ?_
        refine as_iload d24_154 rfl ?_
        refine an_iconst 4 d24_156 rfl ?_
        refine an_irem d24_157 (by omega) (by omega) (by omega) ?_
        refine an_isub d24_158 (by omega) ?_
        refine an_bipush 6 d24_159 rfl ?_
        refine an_iadd d24_161 ?_
        refine as_iload d24_162 rfl ?_
        refine an_isub d24_164 (by omega) ?_
        refine as_iload d24_165 rfl ?_
        refine an_isub d24_167 (by omega) ?_
        refine as_iload d24_168 rfl ?_
        refine an_iconst 4 d24_170 rfl ?_
        refine an_irem d24_171 (by omega) (by omega) (by omega) ?_
        refine an_isub d24_172 (by omega) ?_
        refine an_top (e' := nI ((ws k).1)) (congrArg nI (by omega)) ?_
        refine as_istore d24_173 (by decide) ?_
        refine AW.loc [(5, .int (nI ((ws k).1))), (7, .int (nI ((ws k).2.2))), (6, .int (nI ((ws k).2.1))), (11, .int (nI (t))), (10, .int (nI ((ws k).2.2))), (9, .int (nI ((ws k).2.1))), (0, .ref (22)), (1, .ref (1)), (2, .int (nI (k))), (3, .ref (q)), (4, .int (nI (4 * (k / 6) + fE (5 - k % 6)))), (8, .int (nI ((n))))] (am_pick [0, 1, 2, 3, 4, 5, 6, 7, 8, 9, 10, 11] rfl rfl) ?_
        refine an_bipush 6 d24_175 rfl ?_
        refine as_iload d24_177 rfl ?_
        refine an_iconst 4 d24_179 rfl ?_
        refine an_idiv d24_180 (by omega) (by omega) (by omega) ?_
        refine an_imul d24_181 ?_
        refine as_gets d24_182 g24_91 ?_
        refine an_iconst 4 d24_185 rfl ?_
        refine as_iload d24_186 rfl ?_
        refine an_imul d24_188 ?_
        refine as_iload d24_189 rfl ?_
        refine an_iadd d24_191 ?_
        refine an_stat d24_192 (by decide) (by show _ < 16; omega) ?_
        refine an_top (e' := nI (eOf (ws k).2.1 (ws k).2.2)) ((sl_of b9 d1).1) ?_
        refine an_iadd d24_193 ?_
        refine as_istore d24_194 (by decide) ?_
        refine AW.loc [(12, .int (nI (((6) * (((ws k).1) / (4))) + (eOf (ws k).2.1 (ws k).2.2)))), (5, .int (nI ((ws k).1))), (7, .int (nI ((ws k).2.2))), (6, .int (nI ((ws k).2.1))), (11, .int (nI (t))), (10, .int (nI ((ws k).2.2))), (9, .int (nI ((ws k).2.1))), (0, .ref (22)), (1, .ref (1)), (2, .int (nI (k))), (3, .ref (q)), (4, .int (nI (4 * (k / 6) + fE (5 - k % 6)))), (8, .int (nI ((n))))] (am_pick [0, 1, 2, 3, 4, 5, 6, 7, 8, 9, 10, 11, 12] rfl rfl) ?_
        refine as_iload d24_196 rfl ?_
        refine as_iload d24_198 rfl ?_
        refine an_icmp_ne 212 d24_200 (by decide) (by omega) (by omega) (fun c200 => absurd rfl c200) (fun c200 => ?_)
        refine as_iload d24_203 rfl ?_
        refine as_iload_n d24_205 rfl ?_
        refine an_icmp_ne 212 d24_206 (by decide) (by omega) (by omega) (fun c206 => absurd (ws_e (k := k)) c206) (fun c206 => ?_)
        refine as_goto 218 d24_209 (by decide) ?_
        refine an_iconst 1 d24_218 rfl ?_
        refine as_ireturn d24_219 (by rw [t24]; rfl) ?_
        exact ⟨_, _, rfl, Or.inr ⟨rfl, he, hst⟩⟩
