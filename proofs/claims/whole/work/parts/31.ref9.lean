/-! the reference: classOf -/
def clsA (T : MS) (u p c : Nat) : Nat := if u = 0 then cnt (fun k => decide (cb T k = k)) (cb T (4 * p + c)) else cnt (fun k => decide (eL T k = k)) (eL T (6 * p + c))
abbrev clsOk (P : Nat) (way p c : Int32) : Prop := (0 ≤ way ∧ way ≤ 1) ∧ isPc P p ∧ 0 ≤ c ∧ c ≤ (if way = 0 then 3 else 5)
theorem mc_classOfN (X : am_X) (S : MS) (P : Nat) (mt : Nat → Option Nat) (go : Nat → Nat) (u p c : Nat) (hG : GW P mt go) (hR : RG S P mt go) (hu : u < 2) (h1 : p < P) (hc : c < (if u = 0 then 4 else 6)) : ∃ T, MC X 132 [.ref (189), .int (nI (u)), .int (nI (p)), .int (nI (c))] S (some (.int (nI (clsA T u p c)))) T ∧ rKeep S T ∧ LabS T P mt go := by
  obtain ⟨T, hM, hK, hLS⟩ := mc_label X S P mt go hG hR
  have hL := hLS.n
  have hP := hG.1
  have hp := hR.1
  have g1 : (0 : Int32) ≤ nI u ∧ nI u ≤ nI 1 := ⟨nI_pos' (by omega), nI_le (by omega) (by decide)⟩
  have g2 : isPc P (nI p) := ⟨nI_pos' (by omega), nI_lt h1 (by omega)⟩
  refine ⟨T, ?_, hK, hLS⟩
  refine MC.of (Nat.le_of_ble_eq_true rfl) ?_
  refine as_iload_n d132_0 rfl ?_
  refine an_iconst 0 d132_1 rfl ?_
  refine an_iconst 1 d132_2 rfl ?_
  refine ac_s3 d132_3 c132_71 (by decide) (Nat.le_of_ble_eq_true rfl) (mc_in X _ _ _ _) ?_
  refine as_if_eq 34 d132_6 (by decide) (fun c1 => absurd g1 (am_b01.mp c1)) (fun c1 => ?_)
  refine as_aload_n d132_9 rfl ?_
  refine as_iload_n d132_10 rfl ?_
  refine ac_v1 d132_11 c132_75 (by decide) rfl (Nat.le_of_ble_eq_true rfl) (mc_isPieceP X _ P hP hp _) ?_
  refine as_if_eq 34 d132_14 (by decide) (fun c2 => absurd g2 (am_b01.mp c2)) (fun c2 => ?_)
  refine as_iload_n d132_17 rfl ?_
  refine an_iconst 0 d132_18 rfl ?_
  refine as_iload_n d132_19 rfl ?_
  refine an_if_ne 27 d132_20 (by decide) (by omega) (fun w0 => ?_) (fun w0 => ?_)
  · refine an_iconst 5 d132_27 rfl ?_
    refine ac_s3 d132_28 c132_71 (by decide) (Nat.le_of_ble_eq_true rfl) (mc_in X _ _ _ _) ?_
    refine as_if_ne 37 d132_31 (by decide) (fun c3 => ?_) (fun c3 => by exfalso; first | (rw [if_pos w0] at hc; exact am_b01.mp c3 ⟨nI_pos' (by omega), nI_le (by omega) (by decide)⟩) | (rw [if_neg w0] at hc; exact am_b01.mp c3 ⟨nI_pos' (by omega), nI_le (by omega) (by decide)⟩))
    refine as_aload_n d132_37 rfl ?_
    refine ac_v0 d132_38 c132_118 (by decide) rfl (Nat.le_of_ble_eq_true rfl) (hM) ?_
    refine an_iconst 0 d132_41 rfl ?_
    refine as_istore d132_42 (by decide) ?_
    refine as_iload_n d132_44 rfl ?_
    refine an_if_ne 97 d132_45 (by decide) (by omega) (fun w1 => ?_) (fun w1 => ?_)
    · rw [if_neg w1] at hc
      have hel := eL_lt hL (show 6 * p + c < 18 by omega)
      refine an_iconst 0 d132_97 rfl ?_
      refine as_istore d132_98 (by decide) ?_
      refine AW.loc [(0, .ref (189)), (1, .int (nI (u))), (2, .int (nI (p))), (3, .int (nI (c))), (4, .int (nI (0))), (5, .int (nI (0)))] (am_pick [2, 3, 4, 5, 1, 0] rfl rfl) ?_
      refine aw_for (fun i => ((100, [(0, .ref (189)), (1, .int (nI (u))), (2, .int (nI (p))), (3, .int (nI (c))), (4, .int (nI (cnt (fun k => decide (eL T k = k)) (i)))), (5, .int (nI (i)))], [], 208, HP (T), 0, 0) : am_Z)) (eL T (6 * p + c)) (rfl) (fun i hi ih => ?_) ?_
      · refine as_iload d132_100 rfl ?_
        refine as_aload_n d132_102 rfl ?_
        refine as_iload_n d132_103 rfl ?_
        refine as_iload_n d132_104 rfl ?_
        refine ac_v2 d132_105 c132_102 (by decide) rfl (Nat.le_of_ble_eq_true rfl) (mc_edgeLabel X _ _ _ (by omega) (by omega) hL) ?_
        refine an_icmp_ge 136 d132_108 (by decide) (by omega) (by omega) (fun z1 => by omega) (fun z1 => ?_)
        refine as_iload d132_111 rfl ?_
        refine as_aload_n d132_113 rfl ?_
        refine as_iload d132_114 rfl ?_
        refine ac_v1 d132_116 c132_105 (by decide) rfl (Nat.le_of_ble_eq_true rfl) (mc_isFirstEdge X _ _ (by omega) hL) ?_
        refine as_if_eq 126 d132_119 (by decide) (fun d1 => ?_) (fun d1 => ?_)
        · refine an_iconst 0 d132_126 rfl ?_
          refine an_iadd d132_127 ?_
          refine as_istore d132_128 (by decide) ?_
          refine an_iinc 1 d132_130 rfl rfl (by decide) ?_
          refine as_goto 100 d132_133 (by decide) ?_
          refine AW.loc [(0, .ref (189)), (1, .int (nI (u))), (2, .int (nI (p))), (3, .int (nI (c))), (4, .int (nI ((cnt (fun k => decide (eL T k = k)) (i)) + (0)))), (5, .int (nI (i + 1)))] (am_pick [2, 3, 4, 5, 1, 0] rfl rfl) ?_
          first | (rw [cnt_t (by first | exact decide_eq_true d1 | (simp only [am_b01] at d1; simpa using d1))] at ih; exact ih) | (rw [cnt_f (by first | (simpa using d1) | (simp only [am_b01] at d1; simpa using d1))] at ih; exact ih)
        · refine an_iconst 1 d132_122 rfl ?_
          refine as_goto 127 d132_123 (by decide) ?_
          refine an_iadd d132_127 ?_
          refine as_istore d132_128 (by decide) ?_
          refine an_iinc 1 d132_130 rfl rfl (by decide) ?_
          refine as_goto 100 d132_133 (by decide) ?_
          refine AW.loc [(0, .ref (189)), (1, .int (nI (u))), (2, .int (nI (p))), (3, .int (nI (c))), (4, .int (nI ((cnt (fun k => decide (eL T k = k)) (i)) + (1)))), (5, .int (nI (i + 1)))] (am_pick [2, 3, 4, 5, 1, 0] rfl rfl) ?_
          first | (rw [cnt_t (by first | exact decide_eq_true d1 | (simp only [am_b01] at d1; simpa using d1))] at ih; exact ih) | (rw [cnt_f (by first | (simpa using d1) | (simp only [am_b01] at d1; simpa using d1))] at ih; exact ih)
      · refine as_iload d132_100 rfl ?_
        refine as_aload_n d132_102 rfl ?_
        refine as_iload_n d132_103 rfl ?_
        refine as_iload_n d132_104 rfl ?_
        refine ac_v2 d132_105 c132_102 (by decide) rfl (Nat.le_of_ble_eq_true rfl) (mc_edgeLabel X _ _ _ (by omega) (by omega) hL) ?_
        refine an_icmp_ge 136 d132_108 (by decide) (by omega) (by omega) (fun c8 => ?_) (fun c8 => by omega)
        refine as_iload d132_136 rfl ?_
        refine as_ireturn d132_138 (by rw [t132]; rfl) ?_
        refine am_req (congrArg nI ?_)
        unfold clsA
        first | rw [if_pos w1] | rw [if_neg w1]
    · rw [if_pos w1] at hc
      have hcl := (hL.2.1 (4 * p + c) (by omega)).2
      refine an_iconst 0 d132_48 rfl ?_
      refine as_istore d132_49 (by decide) ?_
      refine AW.loc [(0, .ref (189)), (1, .int (nI (u))), (2, .int (nI (p))), (3, .int (nI (c))), (4, .int (nI (0))), (5, .int (nI (0)))] (am_pick [2, 3, 4, 5, 1, 0] rfl rfl) ?_
      refine aw_for (fun i => ((51, [(0, .ref (189)), (1, .int (nI (u))), (2, .int (nI (p))), (3, .int (nI (c))), (4, .int (nI (cnt (fun k => decide (cb T k = k)) (i)))), (5, .int (nI (i)))], [], 208, HP (T), 0, 0) : am_Z)) (cb T (4 * p + c)) (rfl) (fun i hi ih => ?_) ?_
      · refine as_iload d132_51 rfl ?_
        refine as_aload_n d132_53 rfl ?_
        refine ap_get d132_54 f132_28 (by decide) rfl rfl ?_
        refine an_iconst 4 d132_57 rfl ?_
        refine as_iload_n d132_58 rfl ?_
        refine an_imul d132_59 ?_
        refine as_iload_n d132_60 rfl ?_
        refine an_iadd d132_61 ?_
        refine ap_iald d132_62 (fun _ _ _ _ => rfl) (by decide) (by omega) (by decide) ?_
        refine an_top (e' := nI (cb T (4 * p + c))) ((hL.2.1 _ (by omega)).1) ?_
        refine an_icmp_ge 94 d132_63 (by decide) (by omega) (by omega) (fun z1 => by omega) (fun z1 => ?_)
        refine as_iload d132_66 rfl ?_
        refine as_aload_n d132_68 rfl ?_
        refine ap_get d132_69 f132_28 (by decide) rfl rfl ?_
        refine as_iload d132_72 rfl ?_
        refine ap_iald d132_74 (fun _ _ _ _ => rfl) (by decide) (by omega) (by decide) ?_
        refine an_top (e' := nI (cb T i)) ((hL.2.1 _ (by omega)).1) ?_
        refine as_iload d132_75 rfl ?_
        refine an_icmp_ne 84 d132_77 (by decide) (by have := (hL.2.1 i (by omega)).2; omega) (by omega) (fun d1 => ?_) (fun d1 => ?_)
        · refine an_iconst 0 d132_84 rfl ?_
          refine an_iadd d132_85 ?_
          refine as_istore d132_86 (by decide) ?_
          refine an_iinc 1 d132_88 rfl rfl (by decide) ?_
          refine as_goto 51 d132_91 (by decide) ?_
          refine AW.loc [(0, .ref (189)), (1, .int (nI (u))), (2, .int (nI (p))), (3, .int (nI (c))), (4, .int (nI ((cnt (fun k => decide (cb T k = k)) (i)) + (0)))), (5, .int (nI (i + 1)))] (am_pick [2, 3, 4, 5, 1, 0] rfl rfl) ?_
          first | (rw [cnt_t (by first | exact decide_eq_true d1 | (simp only [am_b01] at d1; simpa using d1))] at ih; exact ih) | (rw [cnt_f (by first | (simpa using d1) | (simp only [am_b01] at d1; simpa using d1))] at ih; exact ih)
        · refine an_iconst 1 d132_80 rfl ?_
          refine as_goto 85 d132_81 (by decide) ?_
          refine an_iadd d132_85 ?_
          refine as_istore d132_86 (by decide) ?_
          refine an_iinc 1 d132_88 rfl rfl (by decide) ?_
          refine as_goto 51 d132_91 (by decide) ?_
          refine AW.loc [(0, .ref (189)), (1, .int (nI (u))), (2, .int (nI (p))), (3, .int (nI (c))), (4, .int (nI ((cnt (fun k => decide (cb T k = k)) (i)) + (1)))), (5, .int (nI (i + 1)))] (am_pick [2, 3, 4, 5, 1, 0] rfl rfl) ?_
          first | (rw [cnt_t (by first | exact decide_eq_true d1 | (simp only [am_b01] at d1; simpa using d1))] at ih; exact ih) | (rw [cnt_f (by first | (simpa using d1) | (simp only [am_b01] at d1; simpa using d1))] at ih; exact ih)
      · refine as_iload d132_51 rfl ?_
        refine as_aload_n d132_53 rfl ?_
        refine ap_get d132_54 f132_28 (by decide) rfl rfl ?_
        refine an_iconst 4 d132_57 rfl ?_
        refine as_iload_n d132_58 rfl ?_
        refine an_imul d132_59 ?_
        refine as_iload_n d132_60 rfl ?_
        refine an_iadd d132_61 ?_
        refine ap_iald d132_62 (fun _ _ _ _ => rfl) (by decide) (by omega) (by decide) ?_
        refine an_top (e' := nI (cb T (4 * p + c))) ((hL.2.1 _ (by omega)).1) ?_
        refine an_icmp_ge 94 d132_63 (by decide) (by omega) (by omega) (fun c11 => ?_) (fun c11 => by omega)
        refine as_iload d132_94 rfl ?_
        refine as_ireturn d132_96 (by rw [t132]; rfl) ?_
        refine am_req (congrArg nI ?_)
        unfold clsA
        first | rw [if_pos w1] | rw [if_neg w1]
  · refine an_iconst 3 d132_23 rfl ?_
    refine as_goto 28 d132_24 (by decide) ?_
    refine ac_s3 d132_28 c132_71 (by decide) (Nat.le_of_ble_eq_true rfl) (mc_in X _ _ _ _) ?_
    refine as_if_ne 37 d132_31 (by decide) (fun c3 => ?_) (fun c3 => by exfalso; first | (rw [if_pos w0] at hc; exact am_b01.mp c3 ⟨nI_pos' (by omega), nI_le (by omega) (by decide)⟩) | (rw [if_neg w0] at hc; exact am_b01.mp c3 ⟨nI_pos' (by omega), nI_le (by omega) (by decide)⟩))
    refine as_aload_n d132_37 rfl ?_
    refine ac_v0 d132_38 c132_118 (by decide) rfl (Nat.le_of_ble_eq_true rfl) (hM) ?_
    refine an_iconst 0 d132_41 rfl ?_
    refine as_istore d132_42 (by decide) ?_
    refine as_iload_n d132_44 rfl ?_
    refine an_if_ne 97 d132_45 (by decide) (by omega) (fun w1 => ?_) (fun w1 => ?_)
    · rw [if_neg w1] at hc
      have hel := eL_lt hL (show 6 * p + c < 18 by omega)
      refine an_iconst 0 d132_97 rfl ?_
      refine as_istore d132_98 (by decide) ?_
      refine AW.loc [(0, .ref (189)), (1, .int (nI (u))), (2, .int (nI (p))), (3, .int (nI (c))), (4, .int (nI (0))), (5, .int (nI (0)))] (am_pick [2, 3, 4, 5, 1, 0] rfl rfl) ?_
      refine aw_for (fun i => ((100, [(0, .ref (189)), (1, .int (nI (u))), (2, .int (nI (p))), (3, .int (nI (c))), (4, .int (nI (cnt (fun k => decide (eL T k = k)) (i)))), (5, .int (nI (i)))], [], 208, HP (T), 0, 0) : am_Z)) (eL T (6 * p + c)) (rfl) (fun i hi ih => ?_) ?_
      · refine as_iload d132_100 rfl ?_
        refine as_aload_n d132_102 rfl ?_
        refine as_iload_n d132_103 rfl ?_
        refine as_iload_n d132_104 rfl ?_
        refine ac_v2 d132_105 c132_102 (by decide) rfl (Nat.le_of_ble_eq_true rfl) (mc_edgeLabel X _ _ _ (by omega) (by omega) hL) ?_
        refine an_icmp_ge 136 d132_108 (by decide) (by omega) (by omega) (fun z1 => by omega) (fun z1 => ?_)
        refine as_iload d132_111 rfl ?_
        refine as_aload_n d132_113 rfl ?_
        refine as_iload d132_114 rfl ?_
        refine ac_v1 d132_116 c132_105 (by decide) rfl (Nat.le_of_ble_eq_true rfl) (mc_isFirstEdge X _ _ (by omega) hL) ?_
        refine as_if_eq 126 d132_119 (by decide) (fun d1 => ?_) (fun d1 => ?_)
        · refine an_iconst 0 d132_126 rfl ?_
          refine an_iadd d132_127 ?_
          refine as_istore d132_128 (by decide) ?_
          refine an_iinc 1 d132_130 rfl rfl (by decide) ?_
          refine as_goto 100 d132_133 (by decide) ?_
          refine AW.loc [(0, .ref (189)), (1, .int (nI (u))), (2, .int (nI (p))), (3, .int (nI (c))), (4, .int (nI ((cnt (fun k => decide (eL T k = k)) (i)) + (0)))), (5, .int (nI (i + 1)))] (am_pick [2, 3, 4, 5, 1, 0] rfl rfl) ?_
          first | (rw [cnt_t (by first | exact decide_eq_true d1 | (simp only [am_b01] at d1; simpa using d1))] at ih; exact ih) | (rw [cnt_f (by first | (simpa using d1) | (simp only [am_b01] at d1; simpa using d1))] at ih; exact ih)
        · refine an_iconst 1 d132_122 rfl ?_
          refine as_goto 127 d132_123 (by decide) ?_
          refine an_iadd d132_127 ?_
          refine as_istore d132_128 (by decide) ?_
          refine an_iinc 1 d132_130 rfl rfl (by decide) ?_
          refine as_goto 100 d132_133 (by decide) ?_
          refine AW.loc [(0, .ref (189)), (1, .int (nI (u))), (2, .int (nI (p))), (3, .int (nI (c))), (4, .int (nI ((cnt (fun k => decide (eL T k = k)) (i)) + (1)))), (5, .int (nI (i + 1)))] (am_pick [2, 3, 4, 5, 1, 0] rfl rfl) ?_
          first | (rw [cnt_t (by first | exact decide_eq_true d1 | (simp only [am_b01] at d1; simpa using d1))] at ih; exact ih) | (rw [cnt_f (by first | (simpa using d1) | (simp only [am_b01] at d1; simpa using d1))] at ih; exact ih)
      · refine as_iload d132_100 rfl ?_
        refine as_aload_n d132_102 rfl ?_
        refine as_iload_n d132_103 rfl ?_
        refine as_iload_n d132_104 rfl ?_
        refine ac_v2 d132_105 c132_102 (by decide) rfl (Nat.le_of_ble_eq_true rfl) (mc_edgeLabel X _ _ _ (by omega) (by omega) hL) ?_
        refine an_icmp_ge 136 d132_108 (by decide) (by omega) (by omega) (fun c16 => ?_) (fun c16 => by omega)
        refine as_iload d132_136 rfl ?_
        refine as_ireturn d132_138 (by rw [t132]; rfl) ?_
        refine am_req (congrArg nI ?_)
        unfold clsA
        first | rw [if_pos w1] | rw [if_neg w1]
    · rw [if_pos w1] at hc
      have hcl := (hL.2.1 (4 * p + c) (by omega)).2
      refine an_iconst 0 d132_48 rfl ?_
      refine as_istore d132_49 (by decide) ?_
      refine AW.loc [(0, .ref (189)), (1, .int (nI (u))), (2, .int (nI (p))), (3, .int (nI (c))), (4, .int (nI (0))), (5, .int (nI (0)))] (am_pick [2, 3, 4, 5, 1, 0] rfl rfl) ?_
      refine aw_for (fun i => ((51, [(0, .ref (189)), (1, .int (nI (u))), (2, .int (nI (p))), (3, .int (nI (c))), (4, .int (nI (cnt (fun k => decide (cb T k = k)) (i)))), (5, .int (nI (i)))], [], 208, HP (T), 0, 0) : am_Z)) (cb T (4 * p + c)) (rfl) (fun i hi ih => ?_) ?_
      · refine as_iload d132_51 rfl ?_
        refine as_aload_n d132_53 rfl ?_
        refine ap_get d132_54 f132_28 (by decide) rfl rfl ?_
        refine an_iconst 4 d132_57 rfl ?_
        refine as_iload_n d132_58 rfl ?_
        refine an_imul d132_59 ?_
        refine as_iload_n d132_60 rfl ?_
        refine an_iadd d132_61 ?_
        refine ap_iald d132_62 (fun _ _ _ _ => rfl) (by decide) (by omega) (by decide) ?_
        refine an_top (e' := nI (cb T (4 * p + c))) ((hL.2.1 _ (by omega)).1) ?_
        refine an_icmp_ge 94 d132_63 (by decide) (by omega) (by omega) (fun z1 => by omega) (fun z1 => ?_)
        refine as_iload d132_66 rfl ?_
        refine as_aload_n d132_68 rfl ?_
        refine ap_get d132_69 f132_28 (by decide) rfl rfl ?_
        refine as_iload d132_72 rfl ?_
        refine ap_iald d132_74 (fun _ _ _ _ => rfl) (by decide) (by omega) (by decide) ?_
        refine an_top (e' := nI (cb T i)) ((hL.2.1 _ (by omega)).1) ?_
        refine as_iload d132_75 rfl ?_
        refine an_icmp_ne 84 d132_77 (by decide) (by have := (hL.2.1 i (by omega)).2; omega) (by omega) (fun d1 => ?_) (fun d1 => ?_)
        · refine an_iconst 0 d132_84 rfl ?_
          refine an_iadd d132_85 ?_
          refine as_istore d132_86 (by decide) ?_
          refine an_iinc 1 d132_88 rfl rfl (by decide) ?_
          refine as_goto 51 d132_91 (by decide) ?_
          refine AW.loc [(0, .ref (189)), (1, .int (nI (u))), (2, .int (nI (p))), (3, .int (nI (c))), (4, .int (nI ((cnt (fun k => decide (cb T k = k)) (i)) + (0)))), (5, .int (nI (i + 1)))] (am_pick [2, 3, 4, 5, 1, 0] rfl rfl) ?_
          first | (rw [cnt_t (by first | exact decide_eq_true d1 | (simp only [am_b01] at d1; simpa using d1))] at ih; exact ih) | (rw [cnt_f (by first | (simpa using d1) | (simp only [am_b01] at d1; simpa using d1))] at ih; exact ih)
        · refine an_iconst 1 d132_80 rfl ?_
          refine as_goto 85 d132_81 (by decide) ?_
          refine an_iadd d132_85 ?_
          refine as_istore d132_86 (by decide) ?_
          refine an_iinc 1 d132_88 rfl rfl (by decide) ?_
          refine as_goto 51 d132_91 (by decide) ?_
          refine AW.loc [(0, .ref (189)), (1, .int (nI (u))), (2, .int (nI (p))), (3, .int (nI (c))), (4, .int (nI ((cnt (fun k => decide (cb T k = k)) (i)) + (1)))), (5, .int (nI (i + 1)))] (am_pick [2, 3, 4, 5, 1, 0] rfl rfl) ?_
          first | (rw [cnt_t (by first | exact decide_eq_true d1 | (simp only [am_b01] at d1; simpa using d1))] at ih; exact ih) | (rw [cnt_f (by first | (simpa using d1) | (simp only [am_b01] at d1; simpa using d1))] at ih; exact ih)
      · refine as_iload d132_51 rfl ?_
        refine as_aload_n d132_53 rfl ?_
        refine ap_get d132_54 f132_28 (by decide) rfl rfl ?_
        refine an_iconst 4 d132_57 rfl ?_
        refine as_iload_n d132_58 rfl ?_
        refine an_imul d132_59 ?_
        refine as_iload_n d132_60 rfl ?_
        refine an_iadd d132_61 ?_
        refine ap_iald d132_62 (fun _ _ _ _ => rfl) (by decide) (by omega) (by decide) ?_
        refine an_top (e' := nI (cb T (4 * p + c))) ((hL.2.1 _ (by omega)).1) ?_
        refine an_icmp_ge 94 d132_63 (by decide) (by omega) (by omega) (fun c19 => ?_) (fun c19 => by omega)
        refine as_iload d132_94 rfl ?_
        refine as_ireturn d132_96 (by rw [t132]; rfl) ?_
        refine am_req (congrArg nI ?_)
        unfold clsA
        first | rw [if_pos w1] | rw [if_neg w1]
theorem mc_classOfB (X : am_X) (S : MS) (P : Nat) (hP : P ≤ 3) (hp : S.1 189 0 = nI P) (way p c : Int32) (hv : ¬ clsOk P way p c) : MC X 132 [.ref (189), .int (way), .int (p), .int (c)] S (some (.int (-2))) S := by
  refine MC.of (Nat.le_of_ble_eq_true rfl) ?_
  refine as_iload_n d132_0 rfl ?_
  refine an_iconst 0 d132_1 rfl ?_
  refine an_iconst 1 d132_2 rfl ?_
  refine ac_s3 d132_3 c132_71 (by decide) (Nat.le_of_ble_eq_true rfl) (mc_in X _ _ _ _) ?_
  refine as_if_eq 34 d132_6 (by decide) (fun c1 => ?_) (fun c1 => ?_)
  · refine an_bipushI (-2) d132_34 rfl ?_
    refine as_ireturn d132_36 (by rw [t132]; rfl) ?_
    rfl
  · refine as_aload_n d132_9 rfl ?_
    refine as_iload_n d132_10 rfl ?_
    refine ac_v1 d132_11 c132_75 (by decide) rfl (Nat.le_of_ble_eq_true rfl) (mc_isPieceP X _ P hP hp _) ?_
    refine as_if_eq 34 d132_14 (by decide) (fun c2 => ?_) (fun c2 => ?_)
    · refine an_bipushI (-2) d132_34 rfl ?_
      refine as_ireturn d132_36 (by rw [t132]; rfl) ?_
      rfl
    · refine as_iload_n d132_17 rfl ?_
      refine an_iconst 0 d132_18 rfl ?_
      refine as_iload_n d132_19 rfl ?_
      refine as_if_ne 27 d132_20 (by decide) (fun w0 => ?_) (fun w0 => ?_)
      · refine an_iconst 5 d132_27 rfl ?_
        refine ac_s3 d132_28 c132_71 (by decide) (Nat.le_of_ble_eq_true rfl) (mc_in X _ _ _ _) ?_
        refine as_if_ne 37 d132_31 (by decide) (fun c3 => ?_) (fun c3 => ?_)
        · exact absurd ⟨am_b1 c1, am_b1 c2, by first | (rw [if_pos w0]; exact am_b1 c3) | (rw [if_neg w0]; exact am_b1 c3)⟩ hv
        · refine an_bipushI (-2) d132_34 rfl ?_
          refine as_ireturn d132_36 (by rw [t132]; rfl) ?_
          rfl
      · refine an_iconst 3 d132_23 rfl ?_
        refine as_goto 28 d132_24 (by decide) ?_
        refine ac_s3 d132_28 c132_71 (by decide) (Nat.le_of_ble_eq_true rfl) (mc_in X _ _ _ _) ?_
        refine as_if_ne 37 d132_31 (by decide) (fun c3 => ?_) (fun c3 => ?_)
        · exact absurd ⟨am_b1 c1, am_b1 c2, by first | (rw [if_pos w0]; exact am_b1 c3) | (rw [if_neg w0]; exact am_b1 c3)⟩ hv
        · refine an_bipushI (-2) d132_34 rfl ?_
          refine as_ireturn d132_36 (by rw [t132]; rfl) ?_
          rfl
