/-! the reference: links -/
def osum (q : Nat → Bool) (f : Nat → Nat) : Nat → Nat
  | 0 => 0
  | n + 1 => osum q f n + if q n then f n else 0
theorem osum_t {q : Nat → Bool} {f : Nat → Nat} {n : Nat} (h : q n = true) : osum q f (n + 1) = osum q f n + f n := by
  show osum q f n + (if q n then f n else 0) = _
  rw [if_pos h]
theorem osum_f {q : Nat → Bool} {f : Nat → Nat} {n : Nat} (h : ¬ q n = true) : osum q f (n + 1) = osum q f n := by
  show osum q f n + (if q n then f n else 0) = _
  rw [if_neg h]
  omega
theorem osum_le {q : Nat → Bool} {f : Nat → Nat} {b : Nat} (hf : ∀ k, f k ≤ b) : ∀ n, osum q f n ≤ b * n
  | 0 => Nat.zero_le _
  | n + 1 => by
    have h1 := osum_le (q := q) hf n
    have h2 := hf n
    show osum q f n + (if q n then f n else 0) ≤ _
    rw [Nat.mul_succ]
    split <;> omega
def lkE (T : MS) (k x : Nat) : Bool := decide (x ≠ k % 4) && decide (lb T (endI (k / 4) (k % 4) x) = endI (k / 4) (k % 4) x)
def lkS (mt : Nat → Option Nat) (k x : Nat) : Bool := decide (x ≠ k % 4) && sdP mt 0 (4 * (k / 4) + x)
def lkQ (T : MS) (m k : Nat) : Bool := decide (cb T k = m)
def lkEn (T : MS) (m n : Nat) : Nat := osum (lkQ T m) (fun k => cnt (lkE T k) 4) n
def lkSn (T : MS) (mt : Nat → Option Nat) (m n : Nat) : Nat := osum (lkQ T m) (fun k => cnt (lkS mt k) 4) n
def lkA (T : MS) (P : Nat) (mt : Nat → Option Nat) (m : Nat) : Int32 := nI (lkEn T m (4 * P)) - nI (lkSn T mt m (4 * P)) + nI (cnt (lkQ T m) (4 * P))
theorem sdP_none {mt : Nat → Option Nat} {s : Nat} (h : mt s = none) : sdP mt 0 s = true := by unfold sdP; rw [h]
theorem sdP_some {mt : Nat → Option Nat} {s t : Nat} (h : mt s = some t) : sdP mt 0 s = decide (s < t) := by unfold sdP; rw [h]; simp
theorem lkE_f1 {T : MS} {k x : Nat} (h : x = k % 4) : ¬ lkE T k x = true := by unfold lkE; simp [h]
theorem lkE_f2 {T : MS} {k x : Nat} (h : lb T (endI (k / 4) (k % 4) x) ≠ endI (k / 4) (k % 4) x) : ¬ lkE T k x = true := by unfold lkE; simp [h]
theorem lkE_t {T : MS} {k x : Nat} (h1 : x ≠ k % 4) (h : lb T (endI (k / 4) (k % 4) x) = endI (k / 4) (k % 4) x) : lkE T k x = true := by unfold lkE; simp [h1, h]
theorem lkS_f1 {mt : Nat → Option Nat} {k x : Nat} (h : x = k % 4) : ¬ lkS mt k x = true := by unfold lkS; simp [h]
theorem lkS_t1 {mt : Nat → Option Nat} {k x : Nat} (h1 : x ≠ k % 4) (h : mt (4 * (k / 4) + x) = none) : lkS mt k x = true := by unfold lkS; rw [sdP_none h]; simp [h1]
theorem lkS_t2 {mt : Nat → Option Nat} {k x t : Nat} (h1 : x ≠ k % 4) (h : mt (4 * (k / 4) + x) = some t) (h2 : 4 * (k / 4) + x < t) : lkS mt k x = true := by unfold lkS; rw [sdP_some h]; simp [h1, h2]
theorem lkS_f2 {mt : Nat → Option Nat} {k x t : Nat} (h : mt (4 * (k / 4) + x) = some t) (h2 : t ≤ 4 * (k / 4) + x) : ¬ lkS mt k x = true := by unfold lkS; rw [sdP_some h, decide_eq_false (Nat.not_lt.mpr h2)]; simp
theorem cnt_a {p q : Nat → Bool} {i c : Nat} (h : p i = true) : c + cnt p (i + 1) = c + cnt p i + 1 := by rw [cnt_t h]; omega
theorem cnt_b {p q : Nat → Bool} {i c : Nat} (h : ¬ p i = true) : c + cnt p (i + 1) = c + cnt p i + 0 := by rw [cnt_f h]; omega
set_option maxHeartbeats 4000000 in
theorem mc_linkOf (X : am_X) (S : MS) (P : Nat) (mt : Nat → Option Nat) (go : Nat → Nat) (m : Nat) (hm : m < 12) (hG : GW P mt go) (hR : RG S P mt go) (hL : LN S) : MC X 134 [.ref (189), .int (nI (m))] S (some (.int (lkA S P mt m))) S := by
  refine MC.of (Nat.le_of_ble_eq_true rfl) ?_
  have hp := hR.1
  have hP := hG.1
  refine an_iconst 0 d134_0 rfl ?_
  refine as_istore_n d134_1 (by decide) ?_
  refine an_iconst 0 d134_2 rfl ?_
  refine as_istore_n d134_3 (by decide) ?_
  refine an_iconst 0 d134_4 rfl ?_
  refine as_istore d134_5 (by decide) ?_
  refine an_iconst 0 d134_7 rfl ?_
  refine as_istore d134_8 (by decide) ?_
  refine AW.loc [(0, .ref (189)), (1, .int (nI (m))), (2, .int (nI (0))), (3, .int (nI (0))), (4, .int (nI (0))), (5, .int (nI (0)))] (am_pick [4, 5, 3, 2, 1, 0] rfl rfl) ?_
  refine aw_for (fun i => ((10, [(0, .ref (189)), (1, .int (nI (m))), (2, .int (nI (lkEn S m (i)))), (3, .int (nI (lkSn S mt m (i)))), (4, .int (nI (cnt (lkQ S m) (i)))), (5, .int (nI (i)))], [], 208, HP (S), 0, 0) : am_Z)) (4 * P) (rfl) (fun i hi ih => ?_) ?_
  · refine as_iload d134_10 rfl ?_
    refine an_iconst 4 d134_12 rfl ?_
    refine as_aload_n d134_13 rfl ?_
    refine ap_get d134_14 f134_67 (by decide) rfl rfl ?_
    refine an_top (e' := nI (P)) (hp) ?_
    refine an_imul d134_17 ?_
    refine an_icmp_ge 148 d134_18 (by decide) (by omega) (by omega) (fun c1 => by omega) (fun c1 => ?_)
    refine as_aload_n d134_21 rfl ?_
    refine ap_get d134_22 f134_28 (by decide) rfl rfl ?_
    refine as_iload d134_25 rfl ?_
    refine ap_iald d134_27 (fun _ _ _ _ => rfl) (by decide) (by omega) (by decide) ?_
    refine an_top (e' := nI (cb S i)) ((hL.2.1 _ (by omega)).1) ?_
    refine as_iload_n d134_28 rfl ?_
    refine an_icmp_eq 35 d134_29 (by decide) (by have := (hL.2.1 i (by omega)).2; omega) (by omega) (fun b1 => ?_) (fun b1 => ?_)
    · refine an_iinc 1 d134_35 rfl rfl (by decide) ?_
      refine as_iload d134_38 rfl ?_
      refine an_iconst 4 d134_40 rfl ?_
      refine an_idiv d134_41 (by omega) (by omega) (by omega) ?_
      refine as_istore d134_42 (by decide) ?_
      refine an_iconst 0 d134_44 rfl ?_
      refine as_istore d134_45 (by decide) ?_
      refine AW.loc [(0, .ref (189)), (1, .int (nI (m))), (2, .int (nI (lkEn S m (i)))), (3, .int (nI (lkSn S mt m (i)))), (4, .int (nI (cnt (lkQ S m) (i) + 1))), (5, .int (nI (i))), (6, .int (nI ((i) / (4)))), (7, .int (nI (0)))] (am_pick [3, 4, 5, 6, 2, 7, 1, 0] rfl rfl) ?_
      refine aw_for (fun x => ((47, [(0, .ref (189)), (1, .int (nI (m))), (2, .int (nI (lkEn S m i + cnt (lkE S i) (x)))), (3, .int (nI (lkSn S mt m i + cnt (lkS mt i) (x)))), (4, .int (nI (cnt (lkQ S m) i + 1))), (5, .int (nI (i))), (6, .int (nI (i / 4))), (7, .int (nI (x)))], [], 208, HP (S), 0, 0) : am_Z)) (4) (rfl) (fun x hx ihx => ?_) ?_
      · refine as_iload d134_47 rfl ?_
        refine an_iconst 4 d134_49 rfl ?_
        refine an_icmp_ge 142 d134_50 (by decide) (by omega) (by omega) (fun c3 => by omega) (fun c3 => ?_)
        refine as_iload d134_53 rfl ?_
        refine as_iload d134_55 rfl ?_
        refine an_iconst 4 d134_57 rfl ?_
        refine an_irem d134_58 (by omega) (by omega) (by omega) ?_
        refine an_icmp_eq 136 d134_59 (by decide) (by omega) (by omega) (fun d1 => ?_) (fun d1 => ?_)
        · refine an_iinc 1 d134_136 rfl rfl (by decide) ?_
          refine as_goto 47 d134_139 (by decide) ?_
          refine AW.loc [(0, .ref (189)), (1, .int (nI (m))), (2, .int (nI (lkEn S m i + cnt (lkE S i) (x)))), (3, .int (nI (lkSn S mt m i + cnt (lkS mt i) (x)))), (4, .int (nI (cnt (lkQ S m) i + 1))), (5, .int (nI (i))), (6, .int (nI (i / 4))), (7, .int (nI (x + 1)))] (am_pick [1, 2, 3, 4, 5, 6, 7, 0] rfl rfl) ?_
          have eE : lkEn S m i + cnt (lkE S i) (x + 1) = lkEn S m i + cnt (lkE S i) (x) := by first | (rw [cnt_f (lkE_f1 d1)]; rfl) | (rw [cnt_t (lkE_t d1 d2)]; rfl) | (rw [cnt_f (lkE_f2 d2)]; rfl)
          have eS : lkSn S mt m i + cnt (lkS mt i) (x + 1) = lkSn S mt m i + cnt (lkS mt i) (x) := by first | (rw [cnt_f (lkS_f1 d1)]; rfl) | (rw [cnt_t (lkS_t1 d1 (mt_none hG (by omega) d3))]; rfl) | (rw [cnt_t (lkS_t2 d1 e0 d4)]; rfl) | (rw [cnt_f (lkS_f2 e0 d4)]; rfl)
          rw [eE, eS] at ihx
          exact ihx
        · refine as_aload_n d134_62 rfl ?_
          refine as_iload d134_63 rfl ?_
          refine as_iload d134_65 rfl ?_
          refine an_iconst 4 d134_67 rfl ?_
          refine an_irem d134_68 (by omega) (by omega) (by omega) ?_
          refine as_iload d134_69 rfl ?_
          refine ac_v3 d134_71 c134_98 (by decide) rfl (Nat.le_of_ble_eq_true rfl) (mc_endOf X _ _ _ _ (by omega) (by omega) (by omega) (fun h => d1 h.symm)) ?_
          refine as_istore d134_74 (by decide) ?_
          have hel := endI_lt (p := i / 4) (a := i % 4) (b := x) (by omega) (by omega) (by omega)
          have hll := (hL.1 _ hel).2
          refine as_iload_n d134_76 rfl ?_
          refine as_aload_n d134_77 rfl ?_
          refine ap_get d134_78 f134_25 (by decide) rfl rfl ?_
          refine as_iload d134_81 rfl ?_
          refine ap_iald d134_83 (fun _ _ _ _ => rfl) (by decide) (by omega) (by decide) ?_
          refine an_top (e' := nI (lb S (endI (i / 4) (i % 4) x))) ((hL.1 _ hel).1) ?_
          refine as_iload d134_84 rfl ?_
          refine an_icmp_ne 93 d134_86 (by decide) (by omega) (by omega) (fun d2 => ?_) (fun d2 => ?_)
          · refine an_iconst 0 d134_93 rfl ?_
            refine an_iadd d134_94 ?_
            refine as_istore_n d134_95 (by decide) ?_
            refine an_iconst 4 d134_96 rfl ?_
            refine as_iload d134_97 rfl ?_
            refine an_imul d134_99 ?_
            refine as_iload d134_100 rfl ?_
            refine an_iadd d134_102 ?_
            refine as_istore d134_103 (by decide) ?_
            refine as_iload_n d134_105 rfl ?_
            refine as_aload_n d134_106 rfl ?_
            refine ap_get d134_107 f134_7 (by decide) rfl rfl ?_
            refine as_iload d134_110 rfl ?_
            refine ap_iald d134_112 (fun _ _ _ _ => rfl) (by decide) (by omega) (by decide) ?_
            refine an_top (e' := mI (mt (4 * (i / 4) + x))) (hR.2.1 _ (by omega)) ?_
            refine an_iconstI (-1) d134_113 rfl ?_
            refine as_icmp_eq 129 d134_114 (by decide) (fun d3 => ?_) (fun d3 => ?_)
            · refine an_iconst 1 d134_129 rfl ?_
              refine as_goto 134 d134_130 (by decide) ?_
              refine an_iadd d134_134 ?_
              refine as_istore_n d134_135 (by decide) ?_
              refine an_iinc 1 d134_136 rfl rfl (by decide) ?_
              refine as_goto 47 d134_139 (by decide) ?_
              refine AW.loc [(0, .ref (189)), (1, .int (nI (m))), (2, .int (nI ((lkEn S m i + cnt (lkE S i) (x)) + (0)))), (3, .int (nI ((lkSn S mt m i + cnt (lkS mt i) (x)) + (1)))), (4, .int (nI (cnt (lkQ S m) i + 1))), (5, .int (nI (i))), (6, .int (nI (i / 4))), (7, .int (nI (x + 1)))] (am_pick [5, 6, 3, 1, 7, 8, 9, 0] rfl rfl) ?_
              have eE : lkEn S m i + cnt (lkE S i) (x + 1) = (lkEn S m i + cnt (lkE S i) (x)) + (0) := by first | (rw [cnt_f (lkE_f1 d1)]; rfl) | (rw [cnt_t (lkE_t d1 d2)]; rfl) | (rw [cnt_f (lkE_f2 d2)]; rfl)
              have eS : lkSn S mt m i + cnt (lkS mt i) (x + 1) = (lkSn S mt m i + cnt (lkS mt i) (x)) + (1) := by first | (rw [cnt_f (lkS_f1 d1)]; rfl) | (rw [cnt_t (lkS_t1 d1 (mt_none hG (by omega) d3))]; rfl) | (rw [cnt_t (lkS_t2 d1 e0 d4)]; rfl) | (rw [cnt_f (lkS_f2 e0 d4)]; rfl)
              rw [eE, eS] at ihx
              exact ihx
            · obtain ⟨t, e0⟩ := mt_some d3
              have htl := (hG.2 (4 * (i / 4) + x) (by omega) t e0).1
              refine as_iload d134_117 rfl ?_
              refine as_aload_n d134_119 rfl ?_
              refine ap_get d134_120 f134_7 (by decide) rfl rfl ?_
              refine as_iload d134_123 rfl ?_
              refine ap_iald d134_125 (fun _ _ _ _ => rfl) (by decide) (by omega) (by decide) ?_
              refine an_top (e' := nI (t)) (by rw [hR.2.1 _ (by omega), e0]; rfl) ?_
              refine an_icmp_ge 133 d134_126 (by decide) (by omega) (by omega) (fun d4 => ?_) (fun d4 => ?_)
              · refine an_iconst 0 d134_133 rfl ?_
                refine an_iadd d134_134 ?_
                refine as_istore_n d134_135 (by decide) ?_
                refine an_iinc 1 d134_136 rfl rfl (by decide) ?_
                refine as_goto 47 d134_139 (by decide) ?_
                refine AW.loc [(0, .ref (189)), (1, .int (nI (m))), (2, .int (nI ((lkEn S m i + cnt (lkE S i) (x)) + (0)))), (3, .int (nI ((lkSn S mt m i + cnt (lkS mt i) (x)) + (0)))), (4, .int (nI (cnt (lkQ S m) i + 1))), (5, .int (nI (i))), (6, .int (nI (i / 4))), (7, .int (nI (x + 1)))] (am_pick [5, 6, 3, 1, 7, 8, 9, 0] rfl rfl) ?_
                have eE : lkEn S m i + cnt (lkE S i) (x + 1) = (lkEn S m i + cnt (lkE S i) (x)) + (0) := by first | (rw [cnt_f (lkE_f1 d1)]; rfl) | (rw [cnt_t (lkE_t d1 d2)]; rfl) | (rw [cnt_f (lkE_f2 d2)]; rfl)
                have eS : lkSn S mt m i + cnt (lkS mt i) (x + 1) = (lkSn S mt m i + cnt (lkS mt i) (x)) + (0) := by first | (rw [cnt_f (lkS_f1 d1)]; rfl) | (rw [cnt_t (lkS_t1 d1 (mt_none hG (by omega) d3))]; rfl) | (rw [cnt_t (lkS_t2 d1 e0 d4)]; rfl) | (rw [cnt_f (lkS_f2 e0 d4)]; rfl)
                rw [eE, eS] at ihx
                exact ihx
              · refine an_iconst 1 d134_129 rfl ?_
                refine as_goto 134 d134_130 (by decide) ?_
                refine an_iadd d134_134 ?_
                refine as_istore_n d134_135 (by decide) ?_
                refine an_iinc 1 d134_136 rfl rfl (by decide) ?_
                refine as_goto 47 d134_139 (by decide) ?_
                refine AW.loc [(0, .ref (189)), (1, .int (nI (m))), (2, .int (nI ((lkEn S m i + cnt (lkE S i) (x)) + (0)))), (3, .int (nI ((lkSn S mt m i + cnt (lkS mt i) (x)) + (1)))), (4, .int (nI (cnt (lkQ S m) i + 1))), (5, .int (nI (i))), (6, .int (nI (i / 4))), (7, .int (nI (x + 1)))] (am_pick [5, 6, 3, 1, 7, 8, 9, 0] rfl rfl) ?_
                have eE : lkEn S m i + cnt (lkE S i) (x + 1) = (lkEn S m i + cnt (lkE S i) (x)) + (0) := by first | (rw [cnt_f (lkE_f1 d1)]; rfl) | (rw [cnt_t (lkE_t d1 d2)]; rfl) | (rw [cnt_f (lkE_f2 d2)]; rfl)
                have eS : lkSn S mt m i + cnt (lkS mt i) (x + 1) = (lkSn S mt m i + cnt (lkS mt i) (x)) + (1) := by first | (rw [cnt_f (lkS_f1 d1)]; rfl) | (rw [cnt_t (lkS_t1 d1 (mt_none hG (by omega) d3))]; rfl) | (rw [cnt_t (lkS_t2 d1 e0 d4)]; rfl) | (rw [cnt_f (lkS_f2 e0 d4)]; rfl)
                rw [eE, eS] at ihx
                exact ihx
          · refine an_iconst 1 d134_89 rfl ?_
            refine as_goto 94 d134_90 (by decide) ?_
            refine an_iadd d134_94 ?_
            refine as_istore_n d134_95 (by decide) ?_
            refine an_iconst 4 d134_96 rfl ?_
            refine as_iload d134_97 rfl ?_
            refine an_imul d134_99 ?_
            refine as_iload d134_100 rfl ?_
            refine an_iadd d134_102 ?_
            refine as_istore d134_103 (by decide) ?_
            refine as_iload_n d134_105 rfl ?_
            refine as_aload_n d134_106 rfl ?_
            refine ap_get d134_107 f134_7 (by decide) rfl rfl ?_
            refine as_iload d134_110 rfl ?_
            refine ap_iald d134_112 (fun _ _ _ _ => rfl) (by decide) (by omega) (by decide) ?_
            refine an_top (e' := mI (mt (4 * (i / 4) + x))) (hR.2.1 _ (by omega)) ?_
            refine an_iconstI (-1) d134_113 rfl ?_
            refine as_icmp_eq 129 d134_114 (by decide) (fun d3 => ?_) (fun d3 => ?_)
            · refine an_iconst 1 d134_129 rfl ?_
              refine as_goto 134 d134_130 (by decide) ?_
              refine an_iadd d134_134 ?_
              refine as_istore_n d134_135 (by decide) ?_
              refine an_iinc 1 d134_136 rfl rfl (by decide) ?_
              refine as_goto 47 d134_139 (by decide) ?_
              refine AW.loc [(0, .ref (189)), (1, .int (nI (m))), (2, .int (nI ((lkEn S m i + cnt (lkE S i) (x)) + (1)))), (3, .int (nI ((lkSn S mt m i + cnt (lkS mt i) (x)) + (1)))), (4, .int (nI (cnt (lkQ S m) i + 1))), (5, .int (nI (i))), (6, .int (nI (i / 4))), (7, .int (nI (x + 1)))] (am_pick [5, 6, 3, 1, 7, 8, 9, 0] rfl rfl) ?_
              have eE : lkEn S m i + cnt (lkE S i) (x + 1) = (lkEn S m i + cnt (lkE S i) (x)) + (1) := by first | (rw [cnt_f (lkE_f1 d1)]; rfl) | (rw [cnt_t (lkE_t d1 d2)]; rfl) | (rw [cnt_f (lkE_f2 d2)]; rfl)
              have eS : lkSn S mt m i + cnt (lkS mt i) (x + 1) = (lkSn S mt m i + cnt (lkS mt i) (x)) + (1) := by first | (rw [cnt_f (lkS_f1 d1)]; rfl) | (rw [cnt_t (lkS_t1 d1 (mt_none hG (by omega) d3))]; rfl) | (rw [cnt_t (lkS_t2 d1 e0 d4)]; rfl) | (rw [cnt_f (lkS_f2 e0 d4)]; rfl)
              rw [eE, eS] at ihx
              exact ihx
            · obtain ⟨t, e0⟩ := mt_some d3
              have htl := (hG.2 (4 * (i / 4) + x) (by omega) t e0).1
              refine as_iload d134_117 rfl ?_
              refine as_aload_n d134_119 rfl ?_
              refine ap_get d134_120 f134_7 (by decide) rfl rfl ?_
              refine as_iload d134_123 rfl ?_
              refine ap_iald d134_125 (fun _ _ _ _ => rfl) (by decide) (by omega) (by decide) ?_
              refine an_top (e' := nI (t)) (by rw [hR.2.1 _ (by omega), e0]; rfl) ?_
              refine an_icmp_ge 133 d134_126 (by decide) (by omega) (by omega) (fun d4 => ?_) (fun d4 => ?_)
              · refine an_iconst 0 d134_133 rfl ?_
                refine an_iadd d134_134 ?_
                refine as_istore_n d134_135 (by decide) ?_
                refine an_iinc 1 d134_136 rfl rfl (by decide) ?_
                refine as_goto 47 d134_139 (by decide) ?_
                refine AW.loc [(0, .ref (189)), (1, .int (nI (m))), (2, .int (nI ((lkEn S m i + cnt (lkE S i) (x)) + (1)))), (3, .int (nI ((lkSn S mt m i + cnt (lkS mt i) (x)) + (0)))), (4, .int (nI (cnt (lkQ S m) i + 1))), (5, .int (nI (i))), (6, .int (nI (i / 4))), (7, .int (nI (x + 1)))] (am_pick [5, 6, 3, 1, 7, 8, 9, 0] rfl rfl) ?_
                have eE : lkEn S m i + cnt (lkE S i) (x + 1) = (lkEn S m i + cnt (lkE S i) (x)) + (1) := by first | (rw [cnt_f (lkE_f1 d1)]; rfl) | (rw [cnt_t (lkE_t d1 d2)]; rfl) | (rw [cnt_f (lkE_f2 d2)]; rfl)
                have eS : lkSn S mt m i + cnt (lkS mt i) (x + 1) = (lkSn S mt m i + cnt (lkS mt i) (x)) + (0) := by first | (rw [cnt_f (lkS_f1 d1)]; rfl) | (rw [cnt_t (lkS_t1 d1 (mt_none hG (by omega) d3))]; rfl) | (rw [cnt_t (lkS_t2 d1 e0 d4)]; rfl) | (rw [cnt_f (lkS_f2 e0 d4)]; rfl)
                rw [eE, eS] at ihx
                exact ihx
              · refine an_iconst 1 d134_129 rfl ?_
                refine as_goto 134 d134_130 (by decide) ?_
                refine an_iadd d134_134 ?_
                refine as_istore_n d134_135 (by decide) ?_
                refine an_iinc 1 d134_136 rfl rfl (by decide) ?_
                refine as_goto 47 d134_139 (by decide) ?_
                refine AW.loc [(0, .ref (189)), (1, .int (nI (m))), (2, .int (nI ((lkEn S m i + cnt (lkE S i) (x)) + (1)))), (3, .int (nI ((lkSn S mt m i + cnt (lkS mt i) (x)) + (1)))), (4, .int (nI (cnt (lkQ S m) i + 1))), (5, .int (nI (i))), (6, .int (nI (i / 4))), (7, .int (nI (x + 1)))] (am_pick [5, 6, 3, 1, 7, 8, 9, 0] rfl rfl) ?_
                have eE : lkEn S m i + cnt (lkE S i) (x + 1) = (lkEn S m i + cnt (lkE S i) (x)) + (1) := by first | (rw [cnt_f (lkE_f1 d1)]; rfl) | (rw [cnt_t (lkE_t d1 d2)]; rfl) | (rw [cnt_f (lkE_f2 d2)]; rfl)
                have eS : lkSn S mt m i + cnt (lkS mt i) (x + 1) = (lkSn S mt m i + cnt (lkS mt i) (x)) + (1) := by first | (rw [cnt_f (lkS_f1 d1)]; rfl) | (rw [cnt_t (lkS_t1 d1 (mt_none hG (by omega) d3))]; rfl) | (rw [cnt_t (lkS_t2 d1 e0 d4)]; rfl) | (rw [cnt_f (lkS_f2 e0 d4)]; rfl)
                rw [eE, eS] at ihx
                exact ihx
      · refine as_iload d134_47 rfl ?_
        refine an_iconst 4 d134_49 rfl ?_
        refine an_icmp_ge 142 d134_50 (by decide) (by omega) (by omega) (fun c10 => ?_) (fun c10 => by omega)
        refine an_iinc 1 d134_142 rfl rfl (by decide) ?_
        refine as_goto 10 d134_145 (by decide) ?_
        refine AW.loc [(0, .ref (189)), (1, .int (nI (m))), (2, .int (nI (lkEn S m i + cnt (lkE S i) ((4))))), (3, .int (nI (lkSn S mt m i + cnt (lkS mt i) ((4))))), (4, .int (nI (cnt (lkQ S m) i + 1))), (5, .int (nI (i + 1)))] (am_pick [1, 2, 3, 4, 5, 0] rfl rfl) ?_
        have eE : lkEn S m (i + 1) = lkEn S m i + cnt (lkE S i) ((4)) := by first | exact osum_f (by unfold lkQ; simpa using b1) | exact osum_t (by unfold lkQ; simpa using b1)
        have eS : lkSn S mt m (i + 1) = lkSn S mt m i + cnt (lkS mt i) ((4)) := by first | exact osum_f (by unfold lkQ; simpa using b1) | exact osum_t (by unfold lkQ; simpa using b1)
        have eC : cnt (lkQ S m) (i + 1) = cnt (lkQ S m) i + 1 := by first | exact cnt_f (by unfold lkQ; simpa using b1) | exact cnt_t (by unfold lkQ; simpa using b1)
        rw [eE, eS, eC] at ih
        exact ih
    · refine as_goto 142 d134_32 (by decide) ?_
      refine an_iinc 1 d134_142 rfl rfl (by decide) ?_
      refine as_goto 10 d134_145 (by decide) ?_
      refine AW.loc [(0, .ref (189)), (1, .int (nI (m))), (2, .int (nI (lkEn S m (i)))), (3, .int (nI (lkSn S mt m (i)))), (4, .int (nI (cnt (lkQ S m) (i)))), (5, .int (nI (i + 1)))] (am_pick [1, 2, 3, 4, 5, 0] rfl rfl) ?_
      have eE : lkEn S m (i + 1) = lkEn S m (i) := by first | exact osum_f (by unfold lkQ; simpa using b1) | exact osum_t (by unfold lkQ; simpa using b1)
      have eS : lkSn S mt m (i + 1) = lkSn S mt m (i) := by first | exact osum_f (by unfold lkQ; simpa using b1) | exact osum_t (by unfold lkQ; simpa using b1)
      have eC : cnt (lkQ S m) (i + 1) = cnt (lkQ S m) (i) := by first | exact cnt_f (by unfold lkQ; simpa using b1) | exact cnt_t (by unfold lkQ; simpa using b1)
      rw [eE, eS, eC] at ih
      exact ih
  · refine as_iload d134_10 rfl ?_
    refine an_iconst 4 d134_12 rfl ?_
    refine as_aload_n d134_13 rfl ?_
    refine ap_get d134_14 f134_67 (by decide) rfl rfl ?_
    refine an_top (e' := nI (P)) (hp) ?_
    refine an_imul d134_17 ?_
    refine an_icmp_ge 148 d134_18 (by decide) (by omega) (by omega) (fun c11 => ?_) (fun c11 => by omega)
    refine as_iload_n d134_148 rfl ?_
    refine as_iload_n d134_149 rfl ?_
    refine as_isub d134_150 ?_
    refine as_iload d134_151 rfl ?_
    refine as_iadd d134_153 ?_
    refine as_ireturn d134_154 (by rw [t134]; rfl) ?_
    rfl
