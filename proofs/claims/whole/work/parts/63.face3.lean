theorem i32_le2 {x y : Int32} (h : ¬ y < x) : x ≤ y := by
  rw [Int32.lt_iff_toInt_lt] at h
  rw [Int32.le_iff_toInt_le]
  omega
theorem i32_lt4 {x : Int32} (h : x < nI 4) : x ≤ 3 := by
  rw [Int32.lt_iff_toInt_lt, show (nI 4).toInt = 4 by decide] at h
  rw [Int32.le_iff_toInt_le, show (3 : Int32).toInt = 3 by decide]
  omega
theorem i32_lt6 {x : Int32} (h : x < nI 6) : x ≤ 5 := by
  rw [Int32.lt_iff_toInt_lt, show (nI 6).toInt = 6 by decide] at h
  rw [Int32.le_iff_toInt_le, show (5 : Int32).toInt = 5 by decide]
  omega
/-! the class: across, classOf, bent, link, count -/
theorem mc_acB (X : am_X) (S : MS) (P : Nat) (mt : Nat → Option Nat) (go : Nat → Nat) (hC : CG S P mt go) (p f what : Int32) (h : ¬ (isSd P p f ∧ 0 ≤ what ∧ what ≤ 1)) : MC X 83 [.ref (0), .int (p), .int (f), .int (what)] S (some (.int (-2))) S := by
  have hp := hC.1
  refine MC.of (Nat.le_of_ble_eq_true rfl) ?_
  refine as_aload_n d83_0 rfl ?_
  refine as_iload_n d83_1 rfl ?_
  refine as_iload_n d83_2 rfl ?_
  refine ac_v2 d83_3 c83_64 (by decide) rfl (Nat.le_of_ble_eq_true rfl) (mc_hasSide X _ P hp _ _) ?_
  refine as_if_eq 18 d83_6 (by decide) (fun c6 => ?_) (fun c6 => ?_)
  · refine an_bipushI (-2) d83_18 rfl ?_
    refine as_ireturn d83_20 (by rw [t83]; rfl) ?_
    rfl
  · refine as_iload_n d83_9 rfl ?_
    refine as_if_lt 18 d83_10 (by decide) (fun c10 => ?_) (fun c10 => ?_)
    · refine an_bipushI (-2) d83_18 rfl ?_
      refine as_ireturn d83_20 (by rw [t83]; rfl) ?_
      rfl
    · refine as_iload_n d83_13 rfl ?_
      refine an_iconst 1 d83_14 rfl ?_
      refine as_icmp_le 21 d83_15 (by decide) (fun c15 => absurd ⟨am_b1 c6, i32_le c10, c15⟩ h) (fun c15 => ?_)
      refine an_bipushI (-2) d83_18 rfl ?_
      refine as_ireturn d83_20 (by rw [t83]; rfl) ?_
      rfl
theorem mc_acN (X : am_X) (S : MS) (P : Nat) (mt : Nat → Option Nat) (go : Nat → Nat) (p f : Nat) (hG : GW P mt go) (hC : CG S P mt go) (h1 : p < P) (h2 : f < 4) (w : Nat) (hw : w < 2) (e0 : mt (4 * p + f) = none) : MC X 83 [.ref (0), .int (nI (p)), .int (nI (f)), .int (nI (w))] S (some (.int (-1))) S := by
  have hp := hC.1
  have hP := hG.1
  have b1 := isSd_nI hP h1 h2
  refine MC.of (Nat.le_of_ble_eq_true rfl) ?_
  refine as_aload_n d83_0 rfl ?_
  refine as_iload_n d83_1 rfl ?_
  refine as_iload_n d83_2 rfl ?_
  refine ac_v2 d83_3 c83_64 (by decide) rfl (Nat.le_of_ble_eq_true rfl) (mc_hasSide X _ P hp _ _) ?_
  refine as_if_eq 18 d83_6 (by decide) (fun c6 => absurd b1 (am_b01.mp c6)) (fun c6 => ?_)
  refine as_iload_n d83_9 rfl ?_
  refine as_if_lt 18 d83_10 (by decide) (fun c10 => absurd c10 (nI_pos (by omega))) (fun c10 => ?_)
  refine as_iload_n d83_13 rfl ?_
  refine an_iconst 1 d83_14 rfl ?_
  refine an_icmp_le 21 d83_15 (by decide) (by omega) (by omega) (fun c15 => ?_) (fun c15 => by omega)
  refine an_iconst 4 d83_21 rfl ?_
  refine as_iload_n d83_22 rfl ?_
  refine an_imul d83_23 ?_
  refine as_iload_n d83_24 rfl ?_
  refine an_iadd d83_25 ?_
  refine as_istore d83_26 (by decide) ?_
  refine as_aload_n d83_28 rfl ?_
  refine ap_get d83_29 f83_10 (by decide) rfl rfl ?_
  refine as_iload d83_32 rfl ?_
  refine ac_v1 d83_34 c83_71 (by decide) rfl (Nat.le_of_ble_eq_true rfl) (mc_isGlued X _ P mt go _ hG hC (by omega)) ?_
  refine as_if_ne 42 d83_37 (by decide) (fun c37 => absurd (by rw [if_pos e0]) c37) (fun c37 => ?_)
  refine an_iconstI (-1) d83_40 rfl ?_
  refine as_ireturn d83_41 (by rw [t83]; rfl) ?_
  rfl
theorem mc_acY (X : am_X) (S : MS) (P : Nat) (mt : Nat → Option Nat) (go : Nat → Nat) (p f : Nat) (hG : GW P mt go) (hC : CG S P mt go) (h1 : p < P) (h2 : f < 4) (w t : Nat) (hw : w < 2) (e0 : mt (4 * p + f) = some t) : MC X 83 [.ref (0), .int (nI (p)), .int (nI (f)), .int (nI (w))] S (some (.int (if w = 0 then nI (t / 4) else nI (t % 4)))) S := by
  have hp := hC.1
  have hP := hG.1
  have b1 := isSd_nI hP h1 h2
  have ht := mt_lt hG (show 4 * p + f < 4 * P by omega) e0
  refine MC.of (Nat.le_of_ble_eq_true rfl) ?_
  refine as_aload_n d83_0 rfl ?_
  refine as_iload_n d83_1 rfl ?_
  refine as_iload_n d83_2 rfl ?_
  refine ac_v2 d83_3 c83_64 (by decide) rfl (Nat.le_of_ble_eq_true rfl) (mc_hasSide X _ P hp _ _) ?_
  refine as_if_eq 18 d83_6 (by decide) (fun c6 => absurd b1 (am_b01.mp c6)) (fun c6 => ?_)
  refine as_iload_n d83_9 rfl ?_
  refine as_if_lt 18 d83_10 (by decide) (fun c10 => absurd c10 (nI_pos (by omega))) (fun c10 => ?_)
  refine as_iload_n d83_13 rfl ?_
  refine an_iconst 1 d83_14 rfl ?_
  refine an_icmp_le 21 d83_15 (by decide) (by omega) (by omega) (fun c15 => ?_) (fun c15 => by omega)
  refine an_iconst 4 d83_21 rfl ?_
  refine as_iload_n d83_22 rfl ?_
  refine an_imul d83_23 ?_
  refine as_iload_n d83_24 rfl ?_
  refine an_iadd d83_25 ?_
  refine as_istore d83_26 (by decide) ?_
  refine as_aload_n d83_28 rfl ?_
  refine ap_get d83_29 f83_10 (by decide) rfl rfl ?_
  refine as_iload d83_32 rfl ?_
  refine ac_v1 d83_34 c83_71 (by decide) rfl (Nat.le_of_ble_eq_true rfl) (mc_isGlued X _ P mt go _ hG hC (by omega)) ?_
  refine as_if_ne 42 d83_37 (by decide) (fun c37 => ?_) (fun c37 => absurd c37 (by rw [e0]; exact fun w => by cases w))
  refine as_aload_n d83_42 rfl ?_
  refine ap_get d83_43 f83_10 (by decide) rfl rfl ?_
  refine ap_get d83_46 f83_86 (by decide) rfl rfl ?_
  refine as_iload d83_49 rfl ?_
  refine ap_iald d83_51 (fun _ _ _ _ => rfl) (by decide) (by omega) (by decide) ?_
  refine an_top (e' := nI (t)) (by rw [hC.2.2.1 _ (by omega), e0]; rfl) ?_
  refine as_istore d83_52 (by decide) ?_
  refine as_iload_n d83_54 rfl ?_
  refine an_if_ne 65 d83_55 (by decide) (by omega) (fun c55 => ?_) (fun c55 => ?_)
  · refine as_iload d83_65 rfl ?_
    refine an_iconst 4 d83_67 rfl ?_
    refine an_irem d83_68 (by omega) (by omega) (by omega) ?_
    refine as_ireturn d83_69 (by rw [t83]; rfl) ?_
    refine am_req ?_
    first | rw [if_pos c55] | rw [if_neg c55]
  · refine as_iload d83_58 rfl ?_
    refine an_iconst 4 d83_60 rfl ?_
    refine an_idiv d83_61 (by omega) (by omega) (by omega) ?_
    refine as_goto 69 d83_62 (by decide) ?_
    refine as_ireturn d83_69 (by rw [t83]; rfl) ?_
    refine am_req ?_
    first | rw [if_pos c55] | rw [if_neg c55]
theorem mc_clB (X : am_X) (S : MS) (P : Nat) (mt : Nat → Option Nat) (go : Nat → Nat) (hC : CG S P mt go) (way p c : Int32) (h : ¬ clsOk P way p c) : MC X 84 [.ref (0), .int (way), .int (p), .int (c)] S (some (.int (-2))) S := by
  have hp := hC.1
  refine MC.of (Nat.le_of_ble_eq_true rfl) ?_
  refine as_iload_n d84_0 rfl ?_
  refine as_if_lt 21 d84_1 (by decide) (fun c1 => ?_) (fun c1 => ?_)
  · refine an_bipushI (-2) d84_21 rfl ?_
    refine as_ireturn d84_23 (by rw [t84]; rfl) ?_
    rfl
  · refine as_iload_n d84_4 rfl ?_
    refine an_iconst 1 d84_5 rfl ?_
    refine as_icmp_gt 21 d84_6 (by decide) (fun c6 => ?_) (fun c6 => ?_)
    · refine an_bipushI (-2) d84_21 rfl ?_
      refine as_ireturn d84_23 (by rw [t84]; rfl) ?_
      rfl
    · refine as_aload_n d84_9 rfl ?_
      refine as_iload_n d84_10 rfl ?_
      refine ac_v1 d84_11 c84_90 (by decide) rfl (Nat.le_of_ble_eq_true rfl) (mc_hasPiece X _ P hp _) ?_
      refine as_if_eq 21 d84_14 (by decide) (fun c14 => ?_) (fun c14 => ?_)
      · refine an_bipushI (-2) d84_21 rfl ?_
        refine as_ireturn d84_23 (by rw [t84]; rfl) ?_
        rfl
      · refine as_iload_n d84_17 rfl ?_
        refine as_if_ge 24 d84_18 (by decide) (fun c18 => ?_) (fun c18 => ?_)
        · refine as_iload_n d84_24 rfl ?_
          refine as_if_ne 55 d84_25 (by decide) (fun c25 => ?_) (fun c25 => ?_)
          · refine as_iload_n d84_55 rfl ?_
            refine an_bipush 6 d84_56 rfl ?_
            refine as_icmp_ge 81 d84_58 (by decide) (fun c58 => ?_) (fun c58 => ?_)
            · refine an_bipushI (-2) d84_81 rfl ?_
              refine as_ireturn d84_83 (by rw [t84]; rfl) ?_
              rfl
            · exact absurd ⟨⟨i32_le c1, i32_le2 c6⟩, am_b1 c14, c18, by rw [if_neg c25]; exact i32_lt6 (i32_lt c58)⟩ h
          · refine as_iload_n d84_28 rfl ?_
            refine an_iconst 4 d84_29 rfl ?_
            refine as_icmp_ge 52 d84_30 (by decide) (fun c30 => ?_) (fun c30 => ?_)
            · refine an_bipushI (-2) d84_52 rfl ?_
              refine as_ireturn d84_54 (by rw [t84]; rfl) ?_
              rfl
            · exact absurd ⟨⟨i32_le c1, i32_le2 c6⟩, am_b1 c14, c18, by rw [if_pos c25]; exact i32_lt4 (i32_lt c30)⟩ h
        · refine an_bipushI (-2) d84_21 rfl ?_
          refine as_ireturn d84_23 (by rw [t84]; rfl) ?_
          rfl
theorem mc_clN (X : am_X) (S : MS) (P : Nat) (mt : Nat → Option Nat) (go : Nat → Nat) (hG : GW P mt go) (hD : SD S P mt go) (w p c : Nat) (hw : w < 2) (h1 : p < P) (hc : c < (if w = 0 then 4 else 6)) : MC X 84 [.ref (0), .int (nI (w)), .int (nI (p)), .int (nI (c))] S (some (.int (nI (if w = 0 then gno (CJ P mt go) (4 * p + c) else gno (EJ P mt go) (6 * p + c))))) S := by
  have hP := hG.1
  have hp := hD.1.1
  refine MC.of (Nat.le_of_ble_eq_true rfl) ?_
  refine as_iload_n d84_0 rfl ?_
  refine as_if_lt 21 d84_1 (by decide) (fun c1 => absurd c1 (nI_pos (by omega))) (fun c1 => ?_)
  refine as_iload_n d84_4 rfl ?_
  refine an_iconst 1 d84_5 rfl ?_
  refine an_icmp_gt 21 d84_6 (by decide) (by omega) (by omega) (fun c6 => by omega) (fun c6 => ?_)
  refine as_aload_n d84_9 rfl ?_
  refine as_iload_n d84_10 rfl ?_
  refine ac_v1 d84_11 c84_90 (by decide) rfl (Nat.le_of_ble_eq_true rfl) (mc_hasPiece X _ P hp _) ?_
  refine as_if_eq 21 d84_14 (by decide) (fun c14 => absurd (show isPc P (nI p) from ⟨nI_pos' (by omega), nI_lt h1 (by omega)⟩) (am_b01.mp c14)) (fun c14 => ?_)
  refine as_iload_n d84_17 rfl ?_
  refine as_if_ge 24 d84_18 (by decide) (fun c18 => ?_) (fun c18 => absurd (nI_pos' (by split at hc <;> omega)) c18)
  refine as_iload_n d84_24 rfl ?_
  refine an_if_ne 55 d84_25 (by decide) (by omega) (fun c25 => ?_) (fun c25 => ?_)
  · rw [if_neg c25] at hc
    refine as_iload_n d84_55 rfl ?_
    refine an_bipush 6 d84_56 rfl ?_
    refine an_icmp_ge 81 d84_58 (by decide) (by omega) (by omega) (fun c58 => by omega) (fun c58 => ?_)
    refine as_aload_n d84_61 rfl ?_
    refine ap_get d84_62 f84_10 (by decide) rfl rfl ?_
    refine ap_get d84_65 f84_102 (by decide) rfl rfl ?_
    refine ap_get d84_68 f84_97 (by decide) rfl rfl ?_
    refine an_bipush 6 d84_71 rfl ?_
    refine as_iload_n d84_73 rfl ?_
    refine an_imul d84_74 ?_
    refine as_iload_n d84_75 rfl ?_
    refine an_iadd d84_76 ?_
    refine ap_iald d84_77 (fun _ _ _ _ => rfl) (by decide) (by omega) (by decide) ?_
    refine an_top (e' := nI (gno (EJ P mt go) (6 * p + c))) (hD.2.2.1.2.1 _ (by omega)) ?_
    refine as_goto 83 d84_78 (by decide) ?_
    refine as_ireturn d84_83 (by rw [t84]; rfl) ?_
    refine am_req (congrArg nI ?_)
    first | rw [if_pos c25] | rw [if_neg c25]
  · rw [if_pos c25] at hc
    refine as_iload_n d84_28 rfl ?_
    refine an_iconst 4 d84_29 rfl ?_
    refine an_icmp_ge 52 d84_30 (by decide) (by omega) (by omega) (fun c30 => by omega) (fun c30 => ?_)
    refine as_aload_n d84_33 rfl ?_
    refine ap_get d84_34 f84_10 (by decide) rfl rfl ?_
    refine ap_get d84_37 f84_93 (by decide) rfl rfl ?_
    refine ap_get d84_40 f84_97 (by decide) rfl rfl ?_
    refine an_iconst 4 d84_43 rfl ?_
    refine as_iload_n d84_44 rfl ?_
    refine an_imul d84_45 ?_
    refine as_iload_n d84_46 rfl ?_
    refine an_iadd d84_47 ?_
    refine ap_iald d84_48 (fun _ _ _ _ => rfl) (by decide) (by omega) (by decide) ?_
    refine an_top (e' := nI (gno (CJ P mt go) (4 * p + c))) (hD.2.1.2.1 _ (by omega)) ?_
    refine as_goto 54 d84_49 (by decide) ?_
    refine as_ireturn d84_54 (by rw [t84]; rfl) ?_
    refine am_req (congrArg nI ?_)
    first | rw [if_pos c25] | rw [if_neg c25]
theorem mc_beB (X : am_X) (S : MS) (P : Nat) (mt : Nat → Option Nat) (go : Nat → Nat) (hG : GW P mt go) (hD : SD S P mt go) (k : Int32) (h : ¬ inR (cnt (fs (EJ P mt go)) (6 * P)) k) : MC X 85 [.ref (0), .int (k)] S (some (.int (-2))) S := by
  refine MC.of (Nat.le_of_ble_eq_true rfl) ?_
  refine as_iload_n d85_0 rfl ?_
  refine as_if_lt 18 d85_1 (by decide) (fun c1 => ?_) (fun c1 => ?_)
  · refine an_bipushI (-2) d85_18 rfl ?_
    refine as_ireturn d85_20 (by rw [t85]; rfl) ?_
    rfl
  · refine as_iload_n d85_4 rfl ?_
    refine as_aload_n d85_5 rfl ?_
    refine ap_get d85_6 f85_10 (by decide) rfl rfl ?_
    refine ap_get d85_9 f85_102 (by decide) rfl rfl ?_
    refine ap_get d85_12 f85_105 (by decide) rfl rfl ?_
    refine an_top (e' := nI (cnt (fs (EJ P mt go)) (6 * P))) (hD.2.2.1.1) ?_
    refine as_icmp_lt 21 d85_15 (by decide) (fun c15 => absurd ⟨i32_le c1, c15⟩ h) (fun c15 => ?_)
    refine an_bipushI (-2) d85_18 rfl ?_
    refine as_ireturn d85_20 (by rw [t85]; rfl) ?_
    rfl
theorem mc_beN (X : am_X) (S : MS) (P : Nat) (mt : Nat → Option Nat) (go : Nat → Nat) (hG : GW P mt go) (hD : SD S P mt go) (k m : Nat) (hm : m < 6 * P) (hf : fs (EJ P mt go) m = true) (hk : cnt (fs (EJ P mt go)) m = k) : MC X 85 [.ref (0), .int (nI (k))] S (some (.int (nI (if twB (EJ P mt go) m = true then 1 else 0)))) S := by
  have hP := hG.1
  have hcl := cnt_le (fs (EJ P mt go)) (6 * P)
  have q1 := cnt_mono (fs (EJ P mt go)) (show m + 1 ≤ 6 * P by omega)
  rw [cnt_t hf] at q1
  refine MC.of (Nat.le_of_ble_eq_true rfl) ?_
  refine as_iload_n d85_0 rfl ?_
  refine as_if_lt 18 d85_1 (by decide) (fun c1 => absurd c1 (nI_pos (by omega))) (fun c1 => ?_)
  refine as_iload_n d85_4 rfl ?_
  refine as_aload_n d85_5 rfl ?_
  refine ap_get d85_6 f85_10 (by decide) rfl rfl ?_
  refine ap_get d85_9 f85_102 (by decide) rfl rfl ?_
  refine ap_get d85_12 f85_105 (by decide) rfl rfl ?_
  refine an_top (e' := nI (cnt (fs (EJ P mt go)) (6 * P))) (hD.2.2.1.1) ?_
  refine an_icmp_lt 21 d85_15 (by decide) (by omega) (by omega) (fun c15 => ?_) (fun c15 => by omega)
  refine as_aload_n d85_21 rfl ?_
  refine ap_get d85_22 f85_10 (by decide) rfl rfl ?_
  refine ap_get d85_25 f85_102 (by decide) rfl rfl ?_
  refine as_iload_n d85_28 rfl ?_
  refine ac_v1 d85_29 c85_108 (by decide) rfl (Nat.le_of_ble_eq_true rfl) (mc_clashes10 X _ (6 * P) (EJ P mt go) (by omega) hD.2.2.1 m k hm hf hk) ?_
  refine as_if_eq 39 d85_32 (by decide) (fun c32 => ?_) (fun c32 => ?_)
  · refine an_iconst 0 d85_39 rfl ?_
    refine as_ireturn d85_40 (by rw [t85]; rfl) ?_
    refine am_req (congrArg nI ?_)
    rcases (hD.2.2.1.2.2 m hm hf).2 with q | q
    · first | (rw [show S.2.1 13 m = _ from q.1] at c32; cases c32; done) | (rw [if_pos (twB_iff.mpr q.2)])
    · first | exact absurd q.1 c32 | (rw [if_neg (fun w => q.2 (twB_iff.mp w))])
  · refine an_iconst 1 d85_35 rfl ?_
    refine as_goto 40 d85_36 (by decide) ?_
    refine as_ireturn d85_40 (by rw [t85]; rfl) ?_
    refine am_req (congrArg nI ?_)
    rcases (hD.2.2.1.2.2 m hm hf).2 with q | q
    · first | (rw [show S.2.1 13 m = _ from q.1] at c32; cases c32; done) | (rw [if_pos (twB_iff.mpr q.2)])
    · first | exact absurd q.1 c32 | (rw [if_neg (fun w => q.2 (twB_iff.mp w))])
theorem mc_liB (X : am_X) (S : MS) (P : Nat) (mt : Nat → Option Nat) (go : Nat → Nat) (hG : GW P mt go) (hD : SD S P mt go) (k : Int32) (h : ¬ inR (cnt (fs (CJ P mt go)) (4 * P)) k) : MC X 86 [.ref (0), .int (k)] S (some (.int (-2147483648))) S := by
  refine MC.of (Nat.le_of_ble_eq_true rfl) ?_
  refine as_iload_n d86_0 rfl ?_
  refine as_if_lt 18 d86_1 (by decide) (fun c1 => ?_) (fun c1 => ?_)
  · refine as_ldc (v := (-2147483648)) d86_18 (by decide +kernel) ?_
    refine as_ireturn d86_20 (by rw [t86]; rfl) ?_
    rfl
  · refine as_iload_n d86_4 rfl ?_
    refine as_aload_n d86_5 rfl ?_
    refine ap_get d86_6 f86_10 (by decide) rfl rfl ?_
    refine ap_get d86_9 f86_93 (by decide) rfl rfl ?_
    refine ap_get d86_12 f86_105 (by decide) rfl rfl ?_
    refine an_top (e' := nI (cnt (fs (CJ P mt go)) (4 * P))) (hD.2.1.1) ?_
    refine as_icmp_lt 21 d86_15 (by decide) (fun c15 => absurd ⟨i32_le c1, c15⟩ h) (fun c15 => ?_)
    refine as_ldc (v := (-2147483648)) d86_18 (by decide +kernel) ?_
    refine as_ireturn d86_20 (by rw [t86]; rfl) ?_
    rfl
theorem mc_liN (X : am_X) (S : MS) (P : Nat) (mt : Nat → Option Nat) (go : Nat → Nat) (hG : GW P mt go) (hD : SD S P mt go) (k : Nat) (hk : k < cnt (fs (CJ P mt go)) (4 * P)) : MC X 86 [.ref (0), .int (nI (k))] S (some (.int (lnkC P mt go k))) S := by
  have hP := hG.1
  have hcl := cnt_le (fs (CJ P mt go)) (4 * P)
  refine MC.of (Nat.le_of_ble_eq_true rfl) ?_
  refine as_iload_n d86_0 rfl ?_
  refine as_if_lt 18 d86_1 (by decide) (fun c1 => absurd c1 (nI_pos (by omega))) (fun c1 => ?_)
  refine as_iload_n d86_4 rfl ?_
  refine as_aload_n d86_5 rfl ?_
  refine ap_get d86_6 f86_10 (by decide) rfl rfl ?_
  refine ap_get d86_9 f86_93 (by decide) rfl rfl ?_
  refine ap_get d86_12 f86_105 (by decide) rfl rfl ?_
  refine an_top (e' := nI (cnt (fs (CJ P mt go)) (4 * P))) (hD.2.1.1) ?_
  refine an_icmp_lt 21 d86_15 (by decide) (by omega) (by omega) (fun c15 => ?_) (fun c15 => by omega)
  refine as_aload_n d86_21 rfl ?_
  refine ap_get d86_22 f86_10 (by decide) rfl rfl ?_
  refine as_iload_n d86_25 rfl ?_
  refine ac_v1 d86_26 c86_112 (by decide) rfl (Nat.le_of_ble_eq_true rfl) (mc_linkC X _ P mt go hG hD k (by omega)) ?_
  refine as_ireturn d86_29 (by rw [t86]; rfl) ?_
  rfl
noncomputable def cntC (P : Nat) (mt : Nat → Option Nat) (go : Nat → Nat) (w e : Nat) (what : Int32) : Int32 := if what = nI 0 then nI P else if what = nI 1 then nI (cnt (fs (CJ P mt go)) (4 * P)) else if what = nI 2 then nI (cnt (fs (EJ P mt go)) (6 * P)) else if what = nI 3 then nI (4 * P) - nI (cnt (prN mt) (4 * P)) else if what = nI 4 then nI (4 * P) - nI (2 * cnt (prN mt) (4 * P)) else if what = nI 5 then nI (cnt (fs (CJ P mt go)) (4 * P)) - nI (cnt (fs (EJ P mt go)) (6 * P)) + (nI (4 * P) - nI (cnt (prN mt) (4 * P))) - nI P else if what = nI 6 then nI w else if what = nI 7 then nI e else if what = nI 8 then nI (cnt (fs (SJ P mt go)) P) else -2147483648
theorem mc_countC (X : am_X) (S : MS) (P : Nat) (mt : Nat → Option Nat) (go : Nat → Nat) (hG : GW P mt go) (hD : SD S P mt go) (w a : Nat) (hw : WhCA P mt go w) (ha : AnyT P (SJ P mt go) a) (what : Int32) : MC X 87 [.ref (0), .int (what)] S (some (.int (cntC P mt go w (1 - a) what))) S := by
  have hw2 : w < 2 := by rcases hw with h | h <;> omega
  have hal := ha.lt
  rcases nI_cases (x := what) 9 (by decide) with ⟨j, hj, rfl⟩ | hn
  · rcases (show j = 0 ∨ j = 1 ∨ j = 2 ∨ j = 3 ∨ j = 4 ∨ j = 5 ∨ j = 6 ∨ j = 7 ∨ j = 8 by omega) with rfl | rfl | rfl | rfl | rfl | rfl | rfl | rfl | rfl
    · refine MC.of (Nat.le_of_ble_eq_true rfl) ?_
      refine as_iload_n d87_0 rfl ?_
      refine as_tsw (o := 51) 52 d87_1 (by decide) (by decide) ?_
      refine as_aload_n d87_52 rfl ?_
      refine ap_get d87_53 f87_10 (by decide) rfl rfl ?_
      refine ap_get d87_56 f87_51 (by decide) rfl rfl ?_
      refine an_top (e' := nI (P)) (hD.1.1) ?_
      refine as_ireturn d87_59 (by rw [t87]; rfl) ?_
      refine am_req ?_
      first | rfl | (show _ = nI _; refine congrArg nI ?_; omega)
    · refine MC.of (Nat.le_of_ble_eq_true rfl) ?_
      refine as_iload_n d87_0 rfl ?_
      refine as_tsw (o := 59) 60 d87_1 (by decide) (by decide) ?_
      refine as_aload_n d87_60 rfl ?_
      refine ap_get d87_61 f87_10 (by decide) rfl rfl ?_
      refine ap_get d87_64 f87_93 (by decide) rfl rfl ?_
      refine ap_get d87_67 f87_105 (by decide) rfl rfl ?_
      refine an_top (e' := nI (cnt (fs (CJ P mt go)) (4 * P))) (hD.2.1.1) ?_
      refine as_ireturn d87_70 (by rw [t87]; rfl) ?_
      refine am_req ?_
      first | rfl | (show _ = nI _; refine congrArg nI ?_; omega)
    · refine MC.of (Nat.le_of_ble_eq_true rfl) ?_
      refine as_iload_n d87_0 rfl ?_
      refine as_tsw (o := 70) 71 d87_1 (by decide) (by decide) ?_
      refine as_aload_n d87_71 rfl ?_
      refine ap_get d87_72 f87_10 (by decide) rfl rfl ?_
      refine ap_get d87_75 f87_102 (by decide) rfl rfl ?_
      refine ap_get d87_78 f87_105 (by decide) rfl rfl ?_
      refine an_top (e' := nI (cnt (fs (EJ P mt go)) (6 * P))) (hD.2.2.1.1) ?_
      refine as_ireturn d87_81 (by rw [t87]; rfl) ?_
      refine am_req ?_
      first | rfl | (show _ = nI _; refine congrArg nI ?_; omega)
    · refine MC.of (Nat.le_of_ble_eq_true rfl) ?_
      refine as_iload_n d87_0 rfl ?_
      refine as_tsw (o := 81) 82 d87_1 (by decide) (by decide) ?_
      refine as_aload_n d87_82 rfl ?_
      refine ap_get d87_83 f87_10 (by decide) rfl rfl ?_
      refine ac_v0 d87_86 c87_116 (by decide) rfl (Nat.le_of_ble_eq_true rfl) (mc_sideCount X _ P mt go hG hD) ?_
      refine as_ireturn d87_89 (by rw [t87]; rfl) ?_
      refine am_req ?_
      first | rfl | (show _ = nI _; refine congrArg nI ?_; omega)
    · refine MC.of (Nat.le_of_ble_eq_true rfl) ?_
      refine as_iload_n d87_0 rfl ?_
      refine as_tsw (o := 89) 90 d87_1 (by decide) (by decide) ?_
      refine as_aload_n d87_90 rfl ?_
      refine ap_get d87_91 f87_10 (by decide) rfl rfl ?_
      refine ac_v0 d87_94 c87_120 (by decide) rfl (Nat.le_of_ble_eq_true rfl) (mc_openCount X _ P mt go hG hD) ?_
      refine as_ireturn d87_97 (by rw [t87]; rfl) ?_
      refine am_req ?_
      first | rfl | (show _ = nI _; refine congrArg nI ?_; omega)
    · refine MC.of (Nat.le_of_ble_eq_true rfl) ?_
      refine as_iload_n d87_0 rfl ?_
      refine as_tsw (o := 97) 98 d87_1 (by decide) (by decide) ?_
      refine as_aload_n d87_98 rfl ?_
      refine ap_get d87_99 f87_10 (by decide) rfl rfl ?_
      refine ac_v0 d87_102 c87_123 (by decide) rfl (Nat.le_of_ble_eq_true rfl) (mc_eulerC X _ P mt go hG hD) ?_
      refine as_ireturn d87_105 (by rw [t87]; rfl) ?_
      refine am_req ?_
      first | rfl | (show _ = nI _; refine congrArg nI ?_; omega)
    · refine MC.of (Nat.le_of_ble_eq_true rfl) ?_
      refine as_iload_n d87_0 rfl ?_
      refine as_tsw (o := 105) 106 d87_1 (by decide) (by decide) ?_
      refine as_aload_n d87_106 rfl ?_
      refine ap_get d87_107 f87_10 (by decide) rfl rfl ?_
      refine ac_v0 d87_110 c87_126 (by decide) rfl (Nat.le_of_ble_eq_true rfl) (mc_isWholeC X _ P mt go hG hD w hw) ?_
      refine an_if_eq 120 d87_113 (by decide) (by omega) (fun c113 => ?_) (fun c113 => ?_)
      · refine an_iconst 0 d87_120 rfl ?_
        refine as_ireturn d87_121 (by rw [t87]; rfl) ?_
        refine am_req ?_
        first | rfl | (show _ = nI _; refine congrArg nI ?_; omega)
      · refine an_iconst 1 d87_116 rfl ?_
        refine as_goto 121 d87_117 (by decide) ?_
        refine as_ireturn d87_121 (by rw [t87]; rfl) ?_
        refine am_req ?_
        first | rfl | (show _ = nI _; refine congrArg nI ?_; omega)
    · refine MC.of (Nat.le_of_ble_eq_true rfl) ?_
      refine as_iload_n d87_0 rfl ?_
      refine as_tsw (o := 121) 122 d87_1 (by decide) (by decide) ?_
      refine as_aload_n d87_122 rfl ?_
      refine ap_get d87_123 f87_10 (by decide) rfl rfl ?_
      refine ac_v0 d87_126 c87_130 (by decide) rfl (Nat.le_of_ble_eq_true rfl) (mc_isEvenS X _ P mt go hG hD a ha) ?_
      refine an_if_eq 136 d87_129 (by decide) (by omega) (fun c129 => ?_) (fun c129 => ?_)
      · refine an_iconst 0 d87_136 rfl ?_
        refine as_ireturn d87_137 (by rw [t87]; rfl) ?_
        refine am_req ?_
        first | rfl | (show _ = nI _; refine congrArg nI ?_; omega)
      · refine an_iconst 1 d87_132 rfl ?_
        refine as_goto 137 d87_133 (by decide) ?_
        refine as_ireturn d87_137 (by rw [t87]; rfl) ?_
        refine am_req ?_
        first | rfl | (show _ = nI _; refine congrArg nI ?_; omega)
    · refine MC.of (Nat.le_of_ble_eq_true rfl) ?_
      refine as_iload_n d87_0 rfl ?_
      refine as_tsw (o := 137) 138 d87_1 (by decide) (by decide) ?_
      refine as_aload_n d87_138 rfl ?_
      refine ap_get d87_139 f87_10 (by decide) rfl rfl ?_
      refine ap_get d87_142 f87_133 (by decide) rfl rfl ?_
      refine ap_get d87_145 f87_105 (by decide) rfl rfl ?_
      refine an_top (e' := nI (cnt (fs (SJ P mt go)) P)) (hD.2.2.2.1) ?_
      refine as_ireturn d87_148 (by rw [t87]; rfl) ?_
      refine am_req ?_
      first | rfl | (show _ = nI _; refine congrArg nI ?_; omega)
  · refine MC.of (Nat.le_of_ble_eq_true rfl) ?_
    refine as_iload_n d87_0 rfl ?_
    refine as_tsw (o := 148) 149 d87_1 (if_pos (sw_out hn)) (by decide) ?_
    refine as_ldc (v := (-2147483648)) d87_149 (by decide +kernel) ?_
    refine as_ireturn d87_151 (by rw [t87]; rfl) ?_
    refine am_req ?_
    symm
    unfold cntC
    repeat (first | rfl | rw [if_neg (fun h => hn (by rw [h]; decide))])
