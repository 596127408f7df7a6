/-! the class: mix, fitAcross -/
theorem mix_z {R : Nat → Nat → Nat} {e : Nat → Int} {a b x : Nat} (h1 : 0 < e a) (h2 : e b < 0) : zI (e a) * nI (R b x) - zI (e b) * nI (R a x) = nI (mixV R a b (-e b).toNat (e a).toNat x) := by
  rw [← zI_nat, ← zI_nat, zI_mul, zI_mul, zI_sub, ← zI_nat]
  congr 1
  unfold mixV
  rw [Int.natCast_add, Int.natCast_mul, Int.natCast_mul, Int.toNat_of_nonneg (by omega), Int.toNat_of_nonneg (by omega), Int.neg_mul]
  omega
theorem lay_eq {X S : MS} {M : Nat} {f : Nat → Int32} (h : X.1 = S.1) (h2 : X.2.2 = S.2.2) (h3 : ∀ k j, X.2.1 k j = if k = M ∧ 0 ≤ j ∧ j < 0 + 21 then f (j - 0) else S.2.1 k j) : X = sRow S M 0 f 21 := by
  refine Prod.ext h (Prod.ext ?_ h2)
  funext k j
  rw [sRow_at, h3]
set_option maxHeartbeats 4000000 in
theorem mc_mix44 (X : am_X) (S : MS) (P n : Nat) (R : Nat → Nat → Nat) (hn : n ≤ 64) (hL : LRf S) (hf : LCf S 44 109 111 176) (hR : RC S 44 109 P n R) (hP : P ≤ 3) (hZ : RZ P n R) (hN : RN P n R) (hB : RB P n R 20000) (e : Nat → Int) (he : ∀ i, i < n → S.2.1 110 i = zI (e i)) (heb : ∀ i, i < n → -40000 ≤ e i ∧ e i ≤ 40000) (a b len : Nat) (ha : a < n) (hb : b < n) (h1 : 0 < e a) (h2 : e b < 0) (hl : len < 64) (hlen : S.1 43 5 = nI len) : MC X 15 [.ref (43), .int (nI (a)), .int (nI (b))] S none (layC S 111 176 len (fun x => nI (evRow (7 * P) R e (a, b) x)) (sOf (R a) (7 * P) ||| sOf (R b) (7 * P))) := by
  have q2 := hL.2.2.1 len hl
  have qa := hL.1 a (by omega)
  have qb := hL.1 b (by omega)
  have hab : ∀ i, i < n → S.2.2.2 44 i ≠ (S.2.2.2 111 len) := fun i hi => by have := hL.1 i (by omega); omega
  have hv : ∀ i, i < 7 * P → mixV R a b (-e b).toNat (e a).toNat i < 2 ^ 31 := fun i hi => mixV_lt hB ha hb hi (by have := heb b hb; omega) (by have := heb a ha; omega) (by decide)
  have hg := mixV_ne (R := R) (P := P) (n := n) (a := a) (b := b) (u := (-e b).toNat) (v := (e a).toNat) hN ha (by omega)
  have hgl := gcdN_lt (v := mixV R a b (-e b).toNat (e a).toNat) (N := 2 ^ 31) (by decide) (7 * P) hv
  have hev : ∀ x, evRow (7 * P) R e (a, b) x = mixV R a b (-e b).toNat (e a).toNat x / gcdN (mixV R a b (-e b).toNat (e a).toNat) (7 * P) := fun x => by unfold evRow; rw [← mixV_pn R e a b h1]
  have hP7 : 0 < 7 * P := by obtain ⟨i, hi, -⟩ := hN a ha; omega
  have hm0 : ∀ x, 7 * P ≤ x → mixV R a b (-e b).toNat (e a).toNat x = 0 := fun x hx => by unfold mixV; rw [hZ a ha x hx, hZ b hb x hx, Nat.mul_zero, Nat.mul_zero]
  refine MC.of (Nat.le_of_ble_eq_true rfl) ?_
  refine as_aload_n d15_0 rfl ?_
  refine ap_get d15_1 f15_75 (by decide) rfl rfl ?_
  refine an_top (e' := nI (len)) (hlen) ?_
  refine an_bipush 64 d15_4 rfl ?_
  refine an_icmp_lt 10 d15_6 (by decide) (by omega) (by omega) (fun c6 => ?_) (fun c6 => by omega)
  refine as_aload_n d15_10 rfl ?_
  refine ap_get d15_11 f15_23 (by decide) rfl rfl ?_
  refine an_topr (hf.2.2.1) ?_
  refine as_aload_n d15_14 rfl ?_
  refine ap_get d15_15 f15_75 (by decide) rfl rfl ?_
  refine an_top (e' := nI (len)) (hlen) ?_
  refine ap_aald d15_18 isQ111 (Or.inl rfl) (by decide) (by omega) (by decide) (an_topr (show _ = (S.2.2.2 111 len) from rfl) ?_)
  refine as_astore_n d15_19 (by decide) ?_
  refine as_aload_n d15_20 rfl ?_
  refine an_iconst 0 d15_21 rfl ?_
  refine ac_s2 d15_22 c15_65 (by decide) (Nat.le_of_ble_eq_true rfl) (mc_fill X _ _ 21 _ (by omega) (isI_row (by omega)) (by decide)) ?_
  refine an_iconst 0 d15_25 rfl ?_
  refine as_istore d15_26 (by decide) ?_
  refine an_iconst 0 d15_28 rfl ?_
  refine as_istore d15_29 (by decide) ?_
  refine AW.loc [(0, .ref (43)), (1, .int (nI (a))), (2, .int (nI (b))), (3, .ref ((S.2.2.2 111 len))), (4, .int (nI (0))), (5, .int (nI (0)))] (am_pick [3, 4, 5, 2, 1, 0] rfl rfl) ?_
  refine aw_for (fun x => ((31, [(0, .ref (43)), (1, .int (nI (a))), (2, .int (nI (b))), (3, .ref ((S.2.2.2 111 len))), (4, .int (nI (gcdN (mixV R a b (-e b).toNat (e a).toNat) (x)))), (5, .int (nI (x)))], [], 208, HP (sRow (sRow S (S.2.2.2 111 len) 0 (fun _ => nI 0) 21) (S.2.2.2 111 len) 0 (fun x => nI (mixV R a b (-e b).toNat (e a).toNat x)) (x)), 0, 0) : am_Z)) (7 * P) (by rw [sRow_0]; rfl) (fun x hx ihx => ?_) ?_
  · have hgx := gcdN_lt (v := mixV R a b (-e b).toNat (e a).toNat) (N := 2 ^ 31) (by decide) x (fun j hj => hv j (by omega))
    refine as_iload d15_31 rfl ?_
    refine as_aload_n d15_33 rfl ?_
    refine ap_get d15_34 f15_59 (by decide) rfl rfl ?_
    refine an_top (e' := nI (7 * P)) (hR.1) ?_
    refine an_icmp_ge 94 d15_37 (by decide) (by omega) (by omega) (fun c37 => by omega) (fun c37 => ?_)
    refine as_aload_n d15_40 rfl ?_
    refine as_iload d15_41 rfl ?_
    refine as_aload_n d15_43 rfl ?_
    refine ap_get d15_44 f15_20 (by decide) rfl rfl ?_
    refine as_iload_n d15_47 rfl ?_
    refine ap_iald d15_48 (fun _ _ _ _ => rfl) (by decide) (by omega) (by decide) ?_
    refine an_top (e' := zI (e a)) (by rw [sRow_row _ _ _ _ _ (by omega), sRow_row _ _ _ _ _ (by omega)]; exact he a (by omega)) ?_
    refine as_aload_n d15_49 rfl ?_
    refine ap_get d15_50 f15_13 (by decide) rfl rfl ?_
    refine an_topr (hf.1) ?_
    refine as_iload_n d15_53 rfl ?_
    refine ap_aald d15_54 isQ44 (Or.inl rfl) (by decide) (by omega) (by decide) (an_topr (show _ = S.2.2.2 44 b from rfl) ?_)
    refine as_iload d15_55 rfl ?_
    refine ap_iald d15_57 (isI_row (by omega)) (by omega) (by omega) (by decide) (an_top (e' := nI (R b x)) (by rw [sRow_row _ _ _ _ _ (hab _ (by omega)), sRow_row _ _ _ _ _ (hab _ (by omega))]; exact hR.2.2.1 _ (by omega) _ (by omega)) ?_)
    refine as_imul d15_58 ?_
    refine as_aload_n d15_59 rfl ?_
    refine ap_get d15_60 f15_20 (by decide) rfl rfl ?_
    refine as_iload_n d15_63 rfl ?_
    refine ap_iald d15_64 (fun _ _ _ _ => rfl) (by decide) (by omega) (by decide) ?_
    refine an_top (e' := zI (e b)) (by rw [sRow_row _ _ _ _ _ (by omega), sRow_row _ _ _ _ _ (by omega)]; exact he b (by omega)) ?_
    refine as_aload_n d15_65 rfl ?_
    refine ap_get d15_66 f15_13 (by decide) rfl rfl ?_
    refine an_topr (hf.1) ?_
    refine as_iload_n d15_69 rfl ?_
    refine ap_aald d15_70 isQ44 (Or.inl rfl) (by decide) (by omega) (by decide) (an_topr (show _ = S.2.2.2 44 a from rfl) ?_)
    refine as_iload d15_71 rfl ?_
    refine ap_iald d15_73 (isI_row (by omega)) (by omega) (by omega) (by decide) (an_top (e' := nI (R a x)) (by rw [sRow_row _ _ _ _ _ (hab _ (by omega)), sRow_row _ _ _ _ _ (hab _ (by omega))]; exact hR.2.2.1 _ (by omega) _ (by omega)) ?_)
    refine as_imul d15_74 ?_
    refine as_isub d15_75 ?_
    refine an_top (e' := nI (mixV R a b (-e b).toNat (e a).toNat x)) (mix_z h1 h2) ?_
    refine ap_iast d15_76 (isI_row (by omega)) (by omega) (by omega) (by decide) ?_
    refine as_iload d15_77 rfl ?_
    refine as_aload_n d15_79 rfl ?_
    refine as_iload d15_80 rfl ?_
    refine ap_iald d15_82 (isI_row (by omega)) (by omega) (by omega) (by decide) (an_top (e' := nI (mixV R a b (-e b).toNat (e a).toNat x)) (by rw [sa_at, if_pos rfl]) ?_)
    refine ac_s2 d15_83 c15_101 (by decide) (Nat.le_of_ble_eq_true rfl) (mc_commonDivisor X _ _ _ hgx (hv x hx)) ?_
    refine as_istore d15_86 (by decide) ?_
    refine an_iinc 1 d15_88 rfl rfl (by decide) ?_
    refine as_goto 31 d15_91 (by decide) ?_
    refine AW.loc [(0, .ref (43)), (1, .int (nI (a))), (2, .int (nI (b))), (3, .ref ((S.2.2.2 111 len))), (4, .int (nI (gcdN (mixV R a b (-e b).toNat (e a).toNat) (x + 1)))), (5, .int (nI (x + 1)))] (am_pick [2, 3, 4, 5, 1, 0] rfl rfl) ?_
    have eS : sRow (sRow S (S.2.2.2 111 len) 0 (fun _ => nI 0) 21) (S.2.2.2 111 len) 0 (fun x => nI (mixV R a b (-e b).toNat (e a).toNat x)) (x + 1) = (sRow (sRow S (S.2.2.2 111 len) 0 (fun _ => nI 0) 21) (S.2.2.2 111 len) 0 (fun x => nI (mixV R a b (-e b).toNat (e a).toNat x)) (x)).sa (S.2.2.2 111 len) x (nI (mixV R a b (-e b).toNat (e a).toNat x)) := by rw [sRow_s, Nat.zero_add]
    rw [eS] at ihx
    exact ihx
  · refine as_iload d15_31 rfl ?_
    refine as_aload_n d15_33 rfl ?_
    refine ap_get d15_34 f15_59 (by decide) rfl rfl ?_
    refine an_top (e' := nI (7 * P)) (hR.1) ?_
    refine an_icmp_ge 94 d15_37 (by decide) (by omega) (by omega) (fun c37 => ?_) (fun c37 => by omega)
    refine an_iconst 0 d15_94 rfl ?_
    refine as_istore d15_95 (by decide) ?_
    rcases Nat.lt_or_ge 1 (gcdN (mixV R a b (-e b).toNat (e a).toNat) (7 * P)) with hg1 | hg1
    · skip
      refine AW.loc [(0, .ref (43)), (1, .int (nI (a))), (2, .int (nI (b))), (3, .ref ((S.2.2.2 111 len))), (4, .int (nI (gcdN (mixV R a b (-e b).toNat (e a).toNat) ((7 * P))))), (5, .int (nI (0)))] (am_pick [1, 2, 3, 4, 5, 0] rfl rfl) ?_
      refine aw_for (fun x => ((97, [(0, .ref (43)), (1, .int (nI (a))), (2, .int (nI (b))), (3, .ref ((S.2.2.2 111 len))), (4, .int (nI (gcdN (mixV R a b (-e b).toNat (e a).toNat) (7 * P)))), (5, .int (nI (x)))], [], 208, HP (sRow (sRow (sRow S (S.2.2.2 111 len) 0 (fun _ => nI 0) 21) (S.2.2.2 111 len) 0 (fun x => nI (mixV R a b (-e b).toNat (e a).toNat x)) (7 * P)) (S.2.2.2 111 len) 0 (fun x => nI (mixV R a b (-e b).toNat (e a).toNat x / gcdN (mixV R a b (-e b).toNat (e a).toNat) (7 * P))) (x)), 0, 0) : am_Z)) (7 * P) (by rw [sRow_0]) (fun x hx ihx => ?_) ?_
      · refine as_iload d15_97 rfl ?_
        refine as_aload_n d15_99 rfl ?_
        refine ap_get d15_100 f15_59 (by decide) rfl rfl ?_
        refine an_top (e' := nI (7 * P)) (hR.1) ?_
        refine an_icmp_ge 127 d15_103 (by decide) (by omega) (by omega) (fun c103 => by omega) (fun c103 => ?_)
        refine as_iload d15_106 rfl ?_
        refine an_iconst 1 d15_108 rfl ?_
        refine an_icmp_le 127 d15_109 (by decide) (by omega) (by omega) (fun c109 => by omega) (fun c109 => ?_)
        refine as_aload_n d15_112 rfl ?_
        refine as_iload d15_113 rfl ?_
        refine as_dup2 d15_115 rfl rfl ?_
        refine ap_iald d15_116 (isI_row (by omega)) (by omega) (by omega) (by decide) (an_top (e' := nI (mixV R a b (-e b).toNat (e a).toNat x)) (by rw [sRow_ge (by omega)]; have w := sRow_eq (S := sRow S (S.2.2.2 111 len) 0 (fun _ => nI 0) 21) (A := (S.2.2.2 111 len)) (off := 0) (f := (fun x => nI (mixV R a b (-e b).toNat (e a).toNat x))) (n := 7 * P) hx; rw [Nat.zero_add] at w; exact w) ?_)
        refine as_iload d15_117 rfl ?_
        refine an_idiv d15_119 (hv x hx) (by omega) (hgl) ?_
        refine ap_iast d15_120 (isI_row (by omega)) (by omega) (by omega) (by decide) ?_
        refine an_iinc 1 d15_121 rfl rfl (by decide) ?_
        refine as_goto 97 d15_124 (by decide) ?_
        refine AW.loc [(0, .ref (43)), (1, .int (nI (a))), (2, .int (nI (b))), (3, .ref ((S.2.2.2 111 len))), (4, .int (nI (gcdN (mixV R a b (-e b).toNat (e a).toNat) (7 * P)))), (5, .int (nI (x + 1)))] (am_pick [1, 2, 3, 4, 5, 0] rfl rfl) ?_
        have eS : sRow (sRow (sRow S (S.2.2.2 111 len) 0 (fun _ => nI 0) 21) (S.2.2.2 111 len) 0 (fun x => nI (mixV R a b (-e b).toNat (e a).toNat x)) (7 * P)) (S.2.2.2 111 len) 0 (fun x => nI (mixV R a b (-e b).toNat (e a).toNat x / gcdN (mixV R a b (-e b).toNat (e a).toNat) (7 * P))) (x + 1) = (sRow (sRow (sRow S (S.2.2.2 111 len) 0 (fun _ => nI 0) 21) (S.2.2.2 111 len) 0 (fun x => nI (mixV R a b (-e b).toNat (e a).toNat x)) (7 * P)) (S.2.2.2 111 len) 0 (fun x => nI (mixV R a b (-e b).toNat (e a).toNat x / gcdN (mixV R a b (-e b).toNat (e a).toNat) (7 * P))) (x)).sa (S.2.2.2 111 len) x (nI (mixV R a b (-e b).toNat (e a).toNat x / gcdN (mixV R a b (-e b).toNat (e a).toNat) (7 * P))) := by rw [sRow_s, Nat.zero_add]
        rw [eS] at ihx
        exact ihx
      · refine as_iload d15_97 rfl ?_
        refine as_aload_n d15_99 rfl ?_
        refine ap_get d15_100 f15_59 (by decide) rfl rfl ?_
        refine an_top (e' := nI (7 * P)) (hR.1) ?_
        refine an_icmp_ge 127 d15_103 (by decide) (by omega) (by omega) (fun c103 => ?_) (fun c103 => by omega)
        refine as_aload_n d15_127 rfl ?_
        refine ap_get d15_128 f15_26 (by decide) rfl rfl ?_
        refine an_topr (hf.2.2.2) ?_
        refine as_aload_n d15_131 rfl ?_
        refine ap_get d15_132 f15_75 (by decide) rfl rfl ?_
        refine an_top (e' := nI (len)) (hlen) ?_
        refine as_aload_n d15_135 rfl ?_
        refine ap_get d15_136 f15_16 (by decide) rfl rfl ?_
        refine an_topr (hf.2.1) ?_
        refine as_iload_n d15_139 rfl ?_
        refine ap_iald d15_140 (fun _ _ _ _ => rfl) (by decide) (by omega) (by decide) ?_
        refine an_top (e' := sOf (R a) (7 * P)) (by rw [sRow_row _ _ _ _ _ (by omega), sRow_row _ _ _ _ _ (by omega), sRow_row _ _ _ _ _ (by omega)]; exact hR.2.2.2 a ha) ?_
        refine as_aload_n d15_141 rfl ?_
        refine ap_get d15_142 f15_16 (by decide) rfl rfl ?_
        refine an_topr (hf.2.1) ?_
        refine as_iload_n d15_145 rfl ?_
        refine ap_iald d15_146 (fun _ _ _ _ => rfl) (by decide) (by omega) (by decide) ?_
        refine an_top (e' := sOf (R b) (7 * P)) (by rw [sRow_row _ _ _ _ _ (by omega), sRow_row _ _ _ _ _ (by omega), sRow_row _ _ _ _ _ (by omega)]; exact hR.2.2.2 b hb) ?_
        refine as_ior d15_147 ?_
        refine ap_iast d15_148 (fun _ _ _ _ => rfl) (by decide) (by omega) (by decide) ?_
        refine as_aload_n d15_149 rfl ?_
        refine as_dup d15_150 rfl ?_
        refine ap_get d15_151 f15_75 (by decide) rfl rfl ?_
        refine an_top (e' := nI (len)) (hlen) ?_
        refine an_iconst 1 d15_154 rfl ?_
        refine an_iadd d15_155 ?_
        refine ap_put d15_156 f15_75 (by decide) rfl (Nat.le_of_ble_eq_true rfl) (rfl) rfl rfl ?_
        refine as_return d15_159 t15 ?_
        refine none_eq ?_
        unfold layC
        rw [lay_eq (X := sRow (sRow (sRow S (S.2.2.2 111 len) 0 (fun _ => nI 0) 21) (S.2.2.2 111 len) 0 (fun x => nI (mixV R a b (-e b).toNat (e a).toNat x)) (7 * P)) (S.2.2.2 111 len) 0 (fun x => nI (mixV R a b (-e b).toNat (e a).toNat x / gcdN (mixV R a b (-e b).toNat (e a).toNat) (7 * P))) (7 * P)) (S := S) (M := (S.2.2.2 111 len)) (f := fun x => nI (evRow (7 * P) R e (a, b) x)) rfl rfl (fun k j => ?_)]
        rw [sRow_at, sRow_at, sRow_at]
        by_cases w1 : k = (S.2.2.2 111 len) ∧ 0 ≤ j ∧ j < 0 + 7 * P
        · rw [if_pos w1, if_pos (by omega), hev]
        · rw [if_neg w1, if_neg w1]
          by_cases w2 : k = (S.2.2.2 111 len) ∧ 0 ≤ j ∧ j < 0 + 21
          · rw [if_pos w2, if_pos w2, hev, hm0 _ (by omega), Nat.zero_div]
          · rw [if_neg w2, if_neg w2]
    · have hg2 : gcdN (mixV R a b (-e b).toNat (e a).toNat) (7 * P) = 1 := by omega
      refine as_iload d15_97 rfl ?_
      refine as_aload_n d15_99 rfl ?_
      refine ap_get d15_100 f15_59 (by decide) rfl rfl ?_
      refine an_top (e' := nI (7 * P)) (hR.1) ?_
      refine an_icmp_ge 127 d15_103 (by decide) (by omega) (by omega) (fun c103 => by omega) (fun c103 => ?_)
      refine as_iload d15_106 rfl ?_
      refine an_iconst 1 d15_108 rfl ?_
      refine an_icmp_le 127 d15_109 (by decide) (by omega) (by omega) (fun c109 => ?_) (fun c109 => by omega)
      refine as_aload_n d15_127 rfl ?_
      refine ap_get d15_128 f15_26 (by decide) rfl rfl ?_
      refine an_topr (hf.2.2.2) ?_
      refine as_aload_n d15_131 rfl ?_
      refine ap_get d15_132 f15_75 (by decide) rfl rfl ?_
      refine an_top (e' := nI (len)) (hlen) ?_
      refine as_aload_n d15_135 rfl ?_
      refine ap_get d15_136 f15_16 (by decide) rfl rfl ?_
      refine an_topr (hf.2.1) ?_
      refine as_iload_n d15_139 rfl ?_
      refine ap_iald d15_140 (fun _ _ _ _ => rfl) (by decide) (by omega) (by decide) ?_
      refine an_top (e' := sOf (R a) (7 * P)) (by rw [sRow_row _ _ _ _ _ (by omega), sRow_row _ _ _ _ _ (by omega)]; exact hR.2.2.2 a ha) ?_
      refine as_aload_n d15_141 rfl ?_
      refine ap_get d15_142 f15_16 (by decide) rfl rfl ?_
      refine an_topr (hf.2.1) ?_
      refine as_iload_n d15_145 rfl ?_
      refine ap_iald d15_146 (fun _ _ _ _ => rfl) (by decide) (by omega) (by decide) ?_
      refine an_top (e' := sOf (R b) (7 * P)) (by rw [sRow_row _ _ _ _ _ (by omega), sRow_row _ _ _ _ _ (by omega)]; exact hR.2.2.2 b hb) ?_
      refine as_ior d15_147 ?_
      refine ap_iast d15_148 (fun _ _ _ _ => rfl) (by decide) (by omega) (by decide) ?_
      refine as_aload_n d15_149 rfl ?_
      refine as_dup d15_150 rfl ?_
      refine ap_get d15_151 f15_75 (by decide) rfl rfl ?_
      refine an_top (e' := nI (len)) (hlen) ?_
      refine an_iconst 1 d15_154 rfl ?_
      refine an_iadd d15_155 ?_
      refine ap_put d15_156 f15_75 (by decide) rfl (Nat.le_of_ble_eq_true rfl) (rfl) rfl rfl ?_
      refine as_return d15_159 t15 ?_
      refine none_eq ?_
      unfold layC
      rw [lay_eq (X := sRow (sRow S (S.2.2.2 111 len) 0 (fun _ => nI 0) 21) (S.2.2.2 111 len) 0 (fun x => nI (mixV R a b (-e b).toNat (e a).toNat x)) (7 * P)) (S := S) (M := (S.2.2.2 111 len)) (f := fun x => nI (evRow (7 * P) R e (a, b) x)) rfl rfl (fun k j => ?_)]
      rw [sRow_at, sRow_at]
      by_cases w1 : k = (S.2.2.2 111 len) ∧ 0 ≤ j ∧ j < 0 + 7 * P
      · rw [if_pos w1, if_pos (by omega), hev, hg2, Nat.div_one]
      · rw [if_neg w1]
        by_cases w2 : k = (S.2.2.2 111 len) ∧ 0 ≤ j ∧ j < 0 + 21
        · rw [if_pos w2, if_pos w2, hev, hm0 _ (by omega), Nat.zero_div]
        · rw [if_neg w2, if_neg w2]
set_option maxHeartbeats 4000000 in
theorem mc_mix111 (X : am_X) (S : MS) (P n : Nat) (R : Nat → Nat → Nat) (hn : n ≤ 64) (hL : LRf S) (hf : LCf S 111 176 44 109) (hR : RC S 111 176 P n R) (hP : P ≤ 3) (hZ : RZ P n R) (hN : RN P n R) (hB : RB P n R 20000) (e : Nat → Int) (he : ∀ i, i < n → S.2.1 110 i = zI (e i)) (heb : ∀ i, i < n → -40000 ≤ e i ∧ e i ≤ 40000) (a b len : Nat) (ha : a < n) (hb : b < n) (h1 : 0 < e a) (h2 : e b < 0) (hl : len < 64) (hlen : S.1 43 5 = nI len) : MC X 15 [.ref (43), .int (nI (a)), .int (nI (b))] S none (layC S 44 109 len (fun x => nI (evRow (7 * P) R e (a, b) x)) (sOf (R a) (7 * P) ||| sOf (R b) (7 * P))) := by
  have q2 := hL.1 len hl
  have qa := hL.2.2.1 a (by omega)
  have qb := hL.2.2.1 b (by omega)
  have hab : ∀ i, i < n → S.2.2.2 111 i ≠ (S.2.2.2 44 len) := fun i hi => by have := hL.2.2.1 i (by omega); omega
  have hv : ∀ i, i < 7 * P → mixV R a b (-e b).toNat (e a).toNat i < 2 ^ 31 := fun i hi => mixV_lt hB ha hb hi (by have := heb b hb; omega) (by have := heb a ha; omega) (by decide)
  have hg := mixV_ne (R := R) (P := P) (n := n) (a := a) (b := b) (u := (-e b).toNat) (v := (e a).toNat) hN ha (by omega)
  have hgl := gcdN_lt (v := mixV R a b (-e b).toNat (e a).toNat) (N := 2 ^ 31) (by decide) (7 * P) hv
  have hev : ∀ x, evRow (7 * P) R e (a, b) x = mixV R a b (-e b).toNat (e a).toNat x / gcdN (mixV R a b (-e b).toNat (e a).toNat) (7 * P) := fun x => by unfold evRow; rw [← mixV_pn R e a b h1]
  have hP7 : 0 < 7 * P := by obtain ⟨i, hi, -⟩ := hN a ha; omega
  have hm0 : ∀ x, 7 * P ≤ x → mixV R a b (-e b).toNat (e a).toNat x = 0 := fun x hx => by unfold mixV; rw [hZ a ha x hx, hZ b hb x hx, Nat.mul_zero, Nat.mul_zero]
  refine MC.of (Nat.le_of_ble_eq_true rfl) ?_
  refine as_aload_n d15_0 rfl ?_
  refine ap_get d15_1 f15_75 (by decide) rfl rfl ?_
  refine an_top (e' := nI (len)) (hlen) ?_
  refine an_bipush 64 d15_4 rfl ?_
  refine an_icmp_lt 10 d15_6 (by decide) (by omega) (by omega) (fun c6 => ?_) (fun c6 => by omega)
  refine as_aload_n d15_10 rfl ?_
  refine ap_get d15_11 f15_23 (by decide) rfl rfl ?_
  refine an_topr (hf.2.2.1) ?_
  refine as_aload_n d15_14 rfl ?_
  refine ap_get d15_15 f15_75 (by decide) rfl rfl ?_
  refine an_top (e' := nI (len)) (hlen) ?_
  refine ap_aald d15_18 isQ44 (Or.inl rfl) (by decide) (by omega) (by decide) (an_topr (show _ = (S.2.2.2 44 len) from rfl) ?_)
  refine as_astore_n d15_19 (by decide) ?_
  refine as_aload_n d15_20 rfl ?_
  refine an_iconst 0 d15_21 rfl ?_
  refine ac_s2 d15_22 c15_65 (by decide) (Nat.le_of_ble_eq_true rfl) (mc_fill X _ _ 21 _ (by omega) (isI_row (by omega)) (by decide)) ?_
  refine an_iconst 0 d15_25 rfl ?_
  refine as_istore d15_26 (by decide) ?_
  refine an_iconst 0 d15_28 rfl ?_
  refine as_istore d15_29 (by decide) ?_
  refine AW.loc [(0, .ref (43)), (1, .int (nI (a))), (2, .int (nI (b))), (3, .ref ((S.2.2.2 44 len))), (4, .int (nI (0))), (5, .int (nI (0)))] (am_pick [3, 4, 5, 2, 1, 0] rfl rfl) ?_
  refine aw_for (fun x => ((31, [(0, .ref (43)), (1, .int (nI (a))), (2, .int (nI (b))), (3, .ref ((S.2.2.2 44 len))), (4, .int (nI (gcdN (mixV R a b (-e b).toNat (e a).toNat) (x)))), (5, .int (nI (x)))], [], 208, HP (sRow (sRow S (S.2.2.2 44 len) 0 (fun _ => nI 0) 21) (S.2.2.2 44 len) 0 (fun x => nI (mixV R a b (-e b).toNat (e a).toNat x)) (x)), 0, 0) : am_Z)) (7 * P) (by rw [sRow_0]; rfl) (fun x hx ihx => ?_) ?_
  · have hgx := gcdN_lt (v := mixV R a b (-e b).toNat (e a).toNat) (N := 2 ^ 31) (by decide) x (fun j hj => hv j (by omega))
    refine as_iload d15_31 rfl ?_
    refine as_aload_n d15_33 rfl ?_
    refine ap_get d15_34 f15_59 (by decide) rfl rfl ?_
    refine an_top (e' := nI (7 * P)) (hR.1) ?_
    refine an_icmp_ge 94 d15_37 (by decide) (by omega) (by omega) (fun c37 => by omega) (fun c37 => ?_)
    refine as_aload_n d15_40 rfl ?_
    refine as_iload d15_41 rfl ?_
    refine as_aload_n d15_43 rfl ?_
    refine ap_get d15_44 f15_20 (by decide) rfl rfl ?_
    refine as_iload_n d15_47 rfl ?_
    refine ap_iald d15_48 (fun _ _ _ _ => rfl) (by decide) (by omega) (by decide) ?_
    refine an_top (e' := zI (e a)) (by rw [sRow_row _ _ _ _ _ (by omega), sRow_row _ _ _ _ _ (by omega)]; exact he a (by omega)) ?_
    refine as_aload_n d15_49 rfl ?_
    refine ap_get d15_50 f15_13 (by decide) rfl rfl ?_
    refine an_topr (hf.1) ?_
    refine as_iload_n d15_53 rfl ?_
    refine ap_aald d15_54 isQ111 (Or.inl rfl) (by decide) (by omega) (by decide) (an_topr (show _ = S.2.2.2 111 b from rfl) ?_)
    refine as_iload d15_55 rfl ?_
    refine ap_iald d15_57 (isI_row (by omega)) (by omega) (by omega) (by decide) (an_top (e' := nI (R b x)) (by rw [sRow_row _ _ _ _ _ (hab _ (by omega)), sRow_row _ _ _ _ _ (hab _ (by omega))]; exact hR.2.2.1 _ (by omega) _ (by omega)) ?_)
    refine as_imul d15_58 ?_
    refine as_aload_n d15_59 rfl ?_
    refine ap_get d15_60 f15_20 (by decide) rfl rfl ?_
    refine as_iload_n d15_63 rfl ?_
    refine ap_iald d15_64 (fun _ _ _ _ => rfl) (by decide) (by omega) (by decide) ?_
    refine an_top (e' := zI (e b)) (by rw [sRow_row _ _ _ _ _ (by omega), sRow_row _ _ _ _ _ (by omega)]; exact he b (by omega)) ?_
    refine as_aload_n d15_65 rfl ?_
    refine ap_get d15_66 f15_13 (by decide) rfl rfl ?_
    refine an_topr (hf.1) ?_
    refine as_iload_n d15_69 rfl ?_
    refine ap_aald d15_70 isQ111 (Or.inl rfl) (by decide) (by omega) (by decide) (an_topr (show _ = S.2.2.2 111 a from rfl) ?_)
    refine as_iload d15_71 rfl ?_
    refine ap_iald d15_73 (isI_row (by omega)) (by omega) (by omega) (by decide) (an_top (e' := nI (R a x)) (by rw [sRow_row _ _ _ _ _ (hab _ (by omega)), sRow_row _ _ _ _ _ (hab _ (by omega))]; exact hR.2.2.1 _ (by omega) _ (by omega)) ?_)
    refine as_imul d15_74 ?_
    refine as_isub d15_75 ?_
    refine an_top (e' := nI (mixV R a b (-e b).toNat (e a).toNat x)) (mix_z h1 h2) ?_
    refine ap_iast d15_76 (isI_row (by omega)) (by omega) (by omega) (by decide) ?_
    refine as_iload d15_77 rfl ?_
    refine as_aload_n d15_79 rfl ?_
    refine as_iload d15_80 rfl ?_
    refine ap_iald d15_82 (isI_row (by omega)) (by omega) (by omega) (by decide) (an_top (e' := nI (mixV R a b (-e b).toNat (e a).toNat x)) (by rw [sa_at, if_pos rfl]) ?_)
    refine ac_s2 d15_83 c15_101 (by decide) (Nat.le_of_ble_eq_true rfl) (mc_commonDivisor X _ _ _ hgx (hv x hx)) ?_
    refine as_istore d15_86 (by decide) ?_
    refine an_iinc 1 d15_88 rfl rfl (by decide) ?_
    refine as_goto 31 d15_91 (by decide) ?_
    refine AW.loc [(0, .ref (43)), (1, .int (nI (a))), (2, .int (nI (b))), (3, .ref ((S.2.2.2 44 len))), (4, .int (nI (gcdN (mixV R a b (-e b).toNat (e a).toNat) (x + 1)))), (5, .int (nI (x + 1)))] (am_pick [2, 3, 4, 5, 1, 0] rfl rfl) ?_
    have eS : sRow (sRow S (S.2.2.2 44 len) 0 (fun _ => nI 0) 21) (S.2.2.2 44 len) 0 (fun x => nI (mixV R a b (-e b).toNat (e a).toNat x)) (x + 1) = (sRow (sRow S (S.2.2.2 44 len) 0 (fun _ => nI 0) 21) (S.2.2.2 44 len) 0 (fun x => nI (mixV R a b (-e b).toNat (e a).toNat x)) (x)).sa (S.2.2.2 44 len) x (nI (mixV R a b (-e b).toNat (e a).toNat x)) := by rw [sRow_s, Nat.zero_add]
    rw [eS] at ihx
    exact ihx
  · refine as_iload d15_31 rfl ?_
    refine as_aload_n d15_33 rfl ?_
    refine ap_get d15_34 f15_59 (by decide) rfl rfl ?_
    refine an_top (e' := nI (7 * P)) (hR.1) ?_
    refine an_icmp_ge 94 d15_37 (by decide) (by omega) (by omega) (fun c37 => ?_) (fun c37 => by omega)
    refine an_iconst 0 d15_94 rfl ?_
    refine as_istore d15_95 (by decide) ?_
    rcases Nat.lt_or_ge 1 (gcdN (mixV R a b (-e b).toNat (e a).toNat) (7 * P)) with hg1 | hg1
    · skip
      refine AW.loc [(0, .ref (43)), (1, .int (nI (a))), (2, .int (nI (b))), (3, .ref ((S.2.2.2 44 len))), (4, .int (nI (gcdN (mixV R a b (-e b).toNat (e a).toNat) ((7 * P))))), (5, .int (nI (0)))] (am_pick [1, 2, 3, 4, 5, 0] rfl rfl) ?_
      refine aw_for (fun x => ((97, [(0, .ref (43)), (1, .int (nI (a))), (2, .int (nI (b))), (3, .ref ((S.2.2.2 44 len))), (4, .int (nI (gcdN (mixV R a b (-e b).toNat (e a).toNat) (7 * P)))), (5, .int (nI (x)))], [], 208, HP (sRow (sRow (sRow S (S.2.2.2 44 len) 0 (fun _ => nI 0) 21) (S.2.2.2 44 len) 0 (fun x => nI (mixV R a b (-e b).toNat (e a).toNat x)) (7 * P)) (S.2.2.2 44 len) 0 (fun x => nI (mixV R a b (-e b).toNat (e a).toNat x / gcdN (mixV R a b (-e b).toNat (e a).toNat) (7 * P))) (x)), 0, 0) : am_Z)) (7 * P) (by rw [sRow_0]) (fun x hx ihx => ?_) ?_
      · refine as_iload d15_97 rfl ?_
        refine as_aload_n d15_99 rfl ?_
        refine ap_get d15_100 f15_59 (by decide) rfl rfl ?_
        refine an_top (e' := nI (7 * P)) (hR.1) ?_
        refine an_icmp_ge 127 d15_103 (by decide) (by omega) (by omega) (fun c103 => by omega) (fun c103 => ?_)
        refine as_iload d15_106 rfl ?_
        refine an_iconst 1 d15_108 rfl ?_
        refine an_icmp_le 127 d15_109 (by decide) (by omega) (by omega) (fun c109 => by omega) (fun c109 => ?_)
        refine as_aload_n d15_112 rfl ?_
        refine as_iload d15_113 rfl ?_
        refine as_dup2 d15_115 rfl rfl ?_
        refine ap_iald d15_116 (isI_row (by omega)) (by omega) (by omega) (by decide) (an_top (e' := nI (mixV R a b (-e b).toNat (e a).toNat x)) (by rw [sRow_ge (by omega)]; have w := sRow_eq (S := sRow S (S.2.2.2 44 len) 0 (fun _ => nI 0) 21) (A := (S.2.2.2 44 len)) (off := 0) (f := (fun x => nI (mixV R a b (-e b).toNat (e a).toNat x))) (n := 7 * P) hx; rw [Nat.zero_add] at w; exact w) ?_)
        refine as_iload d15_117 rfl ?_
        refine an_idiv d15_119 (hv x hx) (by omega) (hgl) ?_
        refine ap_iast d15_120 (isI_row (by omega)) (by omega) (by omega) (by decide) ?_
        refine an_iinc 1 d15_121 rfl rfl (by decide) ?_
        refine as_goto 97 d15_124 (by decide) ?_
        refine AW.loc [(0, .ref (43)), (1, .int (nI (a))), (2, .int (nI (b))), (3, .ref ((S.2.2.2 44 len))), (4, .int (nI (gcdN (mixV R a b (-e b).toNat (e a).toNat) (7 * P)))), (5, .int (nI (x + 1)))] (am_pick [1, 2, 3, 4, 5, 0] rfl rfl) ?_
        have eS : sRow (sRow (sRow S (S.2.2.2 44 len) 0 (fun _ => nI 0) 21) (S.2.2.2 44 len) 0 (fun x => nI (mixV R a b (-e b).toNat (e a).toNat x)) (7 * P)) (S.2.2.2 44 len) 0 (fun x => nI (mixV R a b (-e b).toNat (e a).toNat x / gcdN (mixV R a b (-e b).toNat (e a).toNat) (7 * P))) (x + 1) = (sRow (sRow (sRow S (S.2.2.2 44 len) 0 (fun _ => nI 0) 21) (S.2.2.2 44 len) 0 (fun x => nI (mixV R a b (-e b).toNat (e a).toNat x)) (7 * P)) (S.2.2.2 44 len) 0 (fun x => nI (mixV R a b (-e b).toNat (e a).toNat x / gcdN (mixV R a b (-e b).toNat (e a).toNat) (7 * P))) (x)).sa (S.2.2.2 44 len) x (nI (mixV R a b (-e b).toNat (e a).toNat x / gcdN (mixV R a b (-e b).toNat (e a).toNat) (7 * P))) := by rw [sRow_s, Nat.zero_add]
        rw [eS] at ihx
        exact ihx
      · refine as_iload d15_97 rfl ?_
        refine as_aload_n d15_99 rfl ?_
        refine ap_get d15_100 f15_59 (by decide) rfl rfl ?_
        refine an_top (e' := nI (7 * P)) (hR.1) ?_
        refine an_icmp_ge 127 d15_103 (by decide) (by omega) (by omega) (fun c103 => ?_) (fun c103 => by omega)
        refine as_aload_n d15_127 rfl ?_
        refine ap_get d15_128 f15_26 (by decide) rfl rfl ?_
        refine an_topr (hf.2.2.2) ?_
        refine as_aload_n d15_131 rfl ?_
        refine ap_get d15_132 f15_75 (by decide) rfl rfl ?_
        refine an_top (e' := nI (len)) (hlen) ?_
        refine as_aload_n d15_135 rfl ?_
        refine ap_get d15_136 f15_16 (by decide) rfl rfl ?_
        refine an_topr (hf.2.1) ?_
        refine as_iload_n d15_139 rfl ?_
        refine ap_iald d15_140 (fun _ _ _ _ => rfl) (by decide) (by omega) (by decide) ?_
        refine an_top (e' := sOf (R a) (7 * P)) (by rw [sRow_row _ _ _ _ _ (by omega), sRow_row _ _ _ _ _ (by omega), sRow_row _ _ _ _ _ (by omega)]; exact hR.2.2.2 a ha) ?_
        refine as_aload_n d15_141 rfl ?_
        refine ap_get d15_142 f15_16 (by decide) rfl rfl ?_
        refine an_topr (hf.2.1) ?_
        refine as_iload_n d15_145 rfl ?_
        refine ap_iald d15_146 (fun _ _ _ _ => rfl) (by decide) (by omega) (by decide) ?_
        refine an_top (e' := sOf (R b) (7 * P)) (by rw [sRow_row _ _ _ _ _ (by omega), sRow_row _ _ _ _ _ (by omega), sRow_row _ _ _ _ _ (by omega)]; exact hR.2.2.2 b hb) ?_
        refine as_ior d15_147 ?_
        refine ap_iast d15_148 (fun _ _ _ _ => rfl) (by decide) (by omega) (by decide) ?_
        refine as_aload_n d15_149 rfl ?_
        refine as_dup d15_150 rfl ?_
        refine ap_get d15_151 f15_75 (by decide) rfl rfl ?_
        refine an_top (e' := nI (len)) (hlen) ?_
        refine an_iconst 1 d15_154 rfl ?_
        refine an_iadd d15_155 ?_
        refine ap_put d15_156 f15_75 (by decide) rfl (Nat.le_of_ble_eq_true rfl) (rfl) rfl rfl ?_
        refine as_return d15_159 t15 ?_
        refine none_eq ?_
        unfold layC
        rw [lay_eq (X := sRow (sRow (sRow S (S.2.2.2 44 len) 0 (fun _ => nI 0) 21) (S.2.2.2 44 len) 0 (fun x => nI (mixV R a b (-e b).toNat (e a).toNat x)) (7 * P)) (S.2.2.2 44 len) 0 (fun x => nI (mixV R a b (-e b).toNat (e a).toNat x / gcdN (mixV R a b (-e b).toNat (e a).toNat) (7 * P))) (7 * P)) (S := S) (M := (S.2.2.2 44 len)) (f := fun x => nI (evRow (7 * P) R e (a, b) x)) rfl rfl (fun k j => ?_)]
        rw [sRow_at, sRow_at, sRow_at]
        by_cases w1 : k = (S.2.2.2 44 len) ∧ 0 ≤ j ∧ j < 0 + 7 * P
        · rw [if_pos w1, if_pos (by omega), hev]
        · rw [if_neg w1, if_neg w1]
          by_cases w2 : k = (S.2.2.2 44 len) ∧ 0 ≤ j ∧ j < 0 + 21
          · rw [if_pos w2, if_pos w2, hev, hm0 _ (by omega), Nat.zero_div]
          · rw [if_neg w2, if_neg w2]
    · have hg2 : gcdN (mixV R a b (-e b).toNat (e a).toNat) (7 * P) = 1 := by omega
      refine as_iload d15_97 rfl ?_
      refine as_aload_n d15_99 rfl ?_
      refine ap_get d15_100 f15_59 (by decide) rfl rfl ?_
      refine an_top (e' := nI (7 * P)) (hR.1) ?_
      refine an_icmp_ge 127 d15_103 (by decide) (by omega) (by omega) (fun c103 => by omega) (fun c103 => ?_)
      refine as_iload d15_106 rfl ?_
      refine an_iconst 1 d15_108 rfl ?_
      refine an_icmp_le 127 d15_109 (by decide) (by omega) (by omega) (fun c109 => ?_) (fun c109 => by omega)
      refine as_aload_n d15_127 rfl ?_
      refine ap_get d15_128 f15_26 (by decide) rfl rfl ?_
      refine an_topr (hf.2.2.2) ?_
      refine as_aload_n d15_131 rfl ?_
      refine ap_get d15_132 f15_75 (by decide) rfl rfl ?_
      refine an_top (e' := nI (len)) (hlen) ?_
      refine as_aload_n d15_135 rfl ?_
      refine ap_get d15_136 f15_16 (by decide) rfl rfl ?_
      refine an_topr (hf.2.1) ?_
      refine as_iload_n d15_139 rfl ?_
      refine ap_iald d15_140 (fun _ _ _ _ => rfl) (by decide) (by omega) (by decide) ?_
      refine an_top (e' := sOf (R a) (7 * P)) (by rw [sRow_row _ _ _ _ _ (by omega), sRow_row _ _ _ _ _ (by omega)]; exact hR.2.2.2 a ha) ?_
      refine as_aload_n d15_141 rfl ?_
      refine ap_get d15_142 f15_16 (by decide) rfl rfl ?_
      refine an_topr (hf.2.1) ?_
      refine as_iload_n d15_145 rfl ?_
      refine ap_iald d15_146 (fun _ _ _ _ => rfl) (by decide) (by omega) (by decide) ?_
      refine an_top (e' := sOf (R b) (7 * P)) (by rw [sRow_row _ _ _ _ _ (by omega), sRow_row _ _ _ _ _ (by omega)]; exact hR.2.2.2 b hb) ?_
      refine as_ior d15_147 ?_
      refine ap_iast d15_148 (fun _ _ _ _ => rfl) (by decide) (by omega) (by decide) ?_
      refine as_aload_n d15_149 rfl ?_
      refine as_dup d15_150 rfl ?_
      refine ap_get d15_151 f15_75 (by decide) rfl rfl ?_
      refine an_top (e' := nI (len)) (hlen) ?_
      refine an_iconst 1 d15_154 rfl ?_
      refine an_iadd d15_155 ?_
      refine ap_put d15_156 f15_75 (by decide) rfl (Nat.le_of_ble_eq_true rfl) (rfl) rfl rfl ?_
      refine as_return d15_159 t15 ?_
      refine none_eq ?_
      unfold layC
      rw [lay_eq (X := sRow (sRow S (S.2.2.2 44 len) 0 (fun _ => nI 0) 21) (S.2.2.2 44 len) 0 (fun x => nI (mixV R a b (-e b).toNat (e a).toNat x)) (7 * P)) (S := S) (M := (S.2.2.2 44 len)) (f := fun x => nI (evRow (7 * P) R e (a, b) x)) rfl rfl (fun k j => ?_)]
      rw [sRow_at, sRow_at]
      by_cases w1 : k = (S.2.2.2 44 len) ∧ 0 ≤ j ∧ j < 0 + 7 * P
      · rw [if_pos w1, if_pos (by omega), hev, hg2, Nat.div_one]
      · rw [if_neg w1]
        by_cases w2 : k = (S.2.2.2 44 len) ∧ 0 ≤ j ∧ j < 0 + 21
        · rw [if_pos w2, if_pos w2, hev, hm0 _ (by omega), Nat.zero_div]
        · rw [if_neg w2, if_neg w2]
