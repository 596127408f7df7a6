/-! the reference: least, number, add -/
abbrev dN (P : Nat) (mt : Nat → Option Nat) (go : Nat → Nat) : Nat := (dd P (eqs mt go (4 * P))).1
def dR (P : Nat) (mt : Nat → Option Nat) (go : Nat → Nat) : Nat → Nat → Nat := sortR (7 * P) (dd P (eqs mt go (4 * P))).2 (dN P mt go - 1)
theorem dR_b {P : Nat} {mt : Nat → Option Nat} {go : Nat → Nat} (hD : DAll P mt go) : dN P mt go ≤ 64 ∧ RB P (dN P mt go) (dR P mt go) 20000 := by
  have h := hD.at0 (Nat.le_refl (4 * P))
  refine ⟨h.1, ?_⟩
  by_cases h0 : dN P mt go = 0
  · intro r hr
    rw [h0] at hr
    omega
  · exact h.2.1.of_or (sortR_or _ _ _ _ (show dN P mt go - 1 < dN P mt go by omega))
theorem nI_m1 {n : Nat} (hn : n < 2 ^ 31) : (nI n - nI 1).toInt = (n : Int) - 1 := by
  rw [← zI_nat, ← zI_nat, zI_sub, zI_toInt (by omega) (by omega)]
  rfl
theorem inN_iff {n : Nat} (hn : n < 2 ^ 31) (x : Int32) : (nI 0 ≤ x ∧ x ≤ nI n - nI 1) ↔ (0 ≤ x ∧ x < nI n) := by
  have h1 := nI_m1 hn
  have h2 : (nI n).toInt = (n : Int) := by rw [← zI_nat, zI_toInt (by omega) (by omega)]
  rw [nI_0]
  simp only [Int32.lt_iff_toInt_lt, Int32.le_iff_toInt_le, h1, h2]
  omega
abbrev inR (n : Nat) (x : Int32) : Prop := 0 ≤ x ∧ x < nI n
theorem mx_least (X : am_X) (S : MS) (P : Nat) (mt : Nat → Option Nat) (go : Nat → Nat) (hG : GW P mt go) (hR : RG S P mt go) (hD : DAll P mt go) : ∃ T, MC X 161 [.ref (189)] S (some (.int (nI (dN P mt go)))) T ∧ lKeep S T := by
  obtain ⟨T, hM, hK, hH⟩ := mx_findLeast X S P mt go hG hR hD
  have hH : RH T P (dN P mt go) (dR P mt go) := hH
  have hP := hG.1
  have hp : T.1 189 0 = nI P := (hK.2.2 189 0 (by omega)).trans hR.1
  obtain ⟨hn, hB⟩ := dR_b hD
  refine ⟨T, ?_, hK⟩
  refine MC.of (Nat.le_of_ble_eq_true rfl) ?_
  refine as_aload_n d161_0 rfl ?_
  refine ac_v0 d161_1 c161_227 (by decide) rfl (Nat.le_of_ble_eq_true rfl) (hM) ?_
  refine as_aload_n d161_4 rfl ?_
  refine ap_get d161_5 f161_189 (by decide) rfl rfl ?_
  refine an_top (e' := nI (dN P mt go)) (hH.1) ?_
  refine as_ireturn d161_8 (by rw [t161]; rfl) ?_
  rfl
def numA (n : Nat) (R : Nat → Nat → Nat) (P : Nat) (k i : Int32) : Int32 := if inR n k ∧ isNm P i then nI (R k.toNatClampNeg i.toNatClampNeg) else -2
theorem mx_number (X : am_X) (S : MS) (P : Nat) (mt : Nat → Option Nat) (go : Nat → Nat) (hG : GW P mt go) (hR : RG S P mt go) (hD : DAll P mt go) (k i : Int32) : ∃ T, MC X 162 [.ref (189), .int (k), .int (i)] S (some (.int (numA (dN P mt go) (dR P mt go) P k i))) T ∧ lKeep S T := by
  obtain ⟨T, hM, hK, hH⟩ := mx_findLeast X S P mt go hG hR hD
  have hH : RH T P (dN P mt go) (dR P mt go) := hH
  have hP := hG.1
  have hp : T.1 189 0 = nI P := (hK.2.2 189 0 (by omega)).trans hR.1
  obtain ⟨hn, hB⟩ := dR_b hD
  refine ⟨T, ?_, hK⟩
  by_cases hv : inR (dN P mt go) k ∧ isNm P i
  · obtain ⟨a, ha, rfl⟩ := nat_of (by omega) hv.1
    obtain ⟨b, hb, rfl⟩ := nat_of (by omega) hv.2
    refine MC.of (Nat.le_of_ble_eq_true rfl) ?_
    refine as_aload_n d162_0 rfl ?_
    refine ac_v0 d162_1 c162_227 (by decide) rfl (Nat.le_of_ble_eq_true rfl) (hM) ?_
    refine as_iload_n d162_4 rfl ?_
    refine an_iconst 0 d162_5 rfl ?_
    refine as_aload_n d162_6 rfl ?_
    refine ap_get d162_7 f162_189 (by decide) rfl rfl ?_
    refine an_top (e' := nI (dN P mt go)) (hH.1) ?_
    refine an_iconst 1 d162_10 rfl ?_
    refine as_isub d162_11 ?_
    refine ac_s3 d162_12 c162_71 (by decide) (Nat.le_of_ble_eq_true rfl) (mc_in X _ _ _ _) ?_
    refine as_if_eq 49 d162_15 (by decide) (fun c15 => absurd ((inN_iff (by omega) _).mpr hv.1) (am_b01.mp c15)) (fun c15 => ?_)
    refine as_iload_n d162_18 rfl ?_
    refine an_iconst 0 d162_19 rfl ?_
    refine an_bipush 7 d162_20 rfl ?_
    refine as_aload_n d162_22 rfl ?_
    refine ap_get d162_23 f162_67 (by decide) rfl rfl ?_
    refine an_top (e' := nI (P)) (hp) ?_
    refine an_imul d162_26 ?_
    refine an_iconst 1 d162_27 rfl ?_
    refine as_isub d162_28 ?_
    refine ac_s3 d162_29 c162_71 (by decide) (Nat.le_of_ble_eq_true rfl) (mc_in X _ _ _ _) ?_
    refine as_if_eq 49 d162_32 (by decide) (fun c32 => absurd ((isNm_iff hP _).mpr hv.2) (am_b01.mp c32)) (fun c32 => ?_)
    refine as_aload_n d162_35 rfl ?_
    refine ap_get d162_36 f162_42 (by decide) rfl rfl ?_
    refine an_bipush 21 d162_39 rfl ?_
    refine as_iload_n d162_41 rfl ?_
    refine an_imul d162_42 ?_
    refine as_iload_n d162_43 rfl ?_
    refine an_iadd d162_44 ?_
    refine ap_iald d162_45 (fun _ _ _ _ => rfl) (by decide) (by omega) (by decide) ?_
    refine an_top (e' := nI (dR P mt go a b)) (hH.2 a ha b hb) ?_
    refine as_goto 51 d162_46 (by decide) ?_
    refine as_ireturn d162_51 (by rw [t162]; rfl) ?_
    refine am_req ?_
    unfold numA
    rw [if_pos hv, nI_clamp (by omega), nI_clamp (by omega)]
  · refine MC.of (Nat.le_of_ble_eq_true rfl) ?_
    refine as_aload_n d162_0 rfl ?_
    refine ac_v0 d162_1 c162_227 (by decide) rfl (Nat.le_of_ble_eq_true rfl) (hM) ?_
    refine as_iload_n d162_4 rfl ?_
    refine an_iconst 0 d162_5 rfl ?_
    refine as_aload_n d162_6 rfl ?_
    refine ap_get d162_7 f162_189 (by decide) rfl rfl ?_
    refine an_top (e' := nI (dN P mt go)) (hH.1) ?_
    refine an_iconst 1 d162_10 rfl ?_
    refine as_isub d162_11 ?_
    refine ac_s3 d162_12 c162_71 (by decide) (Nat.le_of_ble_eq_true rfl) (mc_in X _ _ _ _) ?_
    refine as_if_eq 49 d162_15 (by decide) (fun c15 => ?_) (fun c15 => ?_)
    · refine an_bipushI (-2) d162_49 rfl ?_
      refine as_ireturn d162_51 (by rw [t162]; rfl) ?_
      refine am_req ?_
      unfold numA
      rw [if_neg hv]
    · refine as_iload_n d162_18 rfl ?_
      refine an_iconst 0 d162_19 rfl ?_
      refine an_bipush 7 d162_20 rfl ?_
      refine as_aload_n d162_22 rfl ?_
      refine ap_get d162_23 f162_67 (by decide) rfl rfl ?_
      refine an_top (e' := nI (P)) (hp) ?_
      refine an_imul d162_26 ?_
      refine an_iconst 1 d162_27 rfl ?_
      refine as_isub d162_28 ?_
      refine ac_s3 d162_29 c162_71 (by decide) (Nat.le_of_ble_eq_true rfl) (mc_in X _ _ _ _) ?_
      refine as_if_eq 49 d162_32 (by decide) (fun c32 => ?_) (fun c32 => ?_)
      · refine an_bipushI (-2) d162_49 rfl ?_
        refine as_ireturn d162_51 (by rw [t162]; rfl) ?_
        refine am_req ?_
        unfold numA
        rw [if_neg hv]
      · exact absurd ⟨(inN_iff (by omega) _).mp (am_b1 c15), (isNm_iff hP _).mp (am_b1 c32)⟩ hv
abbrev addOk (n : Nat) (k m : Int32) : Prop := inR n k ∧ 0 ≤ m ∧ m ≤ 100
/-- a number of the sheet would be too large -/
def addF (sh : Nat → Nat) (R : Nat → Nat → Nat) (P a b : Nat) : Prop := ∃ i, i < 7 * P ∧ 1000 < sh i + b * R a i
def addT (sh : Nat → Nat) (R : Nat → Nat → Nat) (a b : Nat) (T : MS) (P : Nat) : MS := sRow T 192 0 (fun i => nI (sh i + b * R a i)) (7 * P)
theorem mx_addB (X : am_X) (S : MS) (P : Nat) (mt : Nat → Option Nat) (go : Nat → Nat) (hG : GW P mt go) (hR : RG S P mt go) (hD : DAll P mt go) (k m : Int32) (hv : ¬ addOk (dN P mt go) k m) : ∃ T, MC X 164 [.ref (189), .int (k), .int (m)] S (some (.int (-2))) T ∧ lKeep S T := by
  obtain ⟨T, hM, hK, hH⟩ := mx_findLeast X S P mt go hG hR hD
  have hH : RH T P (dN P mt go) (dR P mt go) := hH
  have hP := hG.1
  have hp : T.1 189 0 = nI P := (hK.2.2 189 0 (by omega)).trans hR.1
  obtain ⟨hn, hB⟩ := dR_b hD
  refine ⟨T, ?_, hK⟩
  refine MC.of (Nat.le_of_ble_eq_true rfl) ?_
  refine as_aload_n d164_0 rfl ?_
  refine ac_v0 d164_1 c164_227 (by decide) rfl (Nat.le_of_ble_eq_true rfl) (hM) ?_
  refine as_iload_n d164_4 rfl ?_
  refine an_iconst 0 d164_5 rfl ?_
  refine as_aload_n d164_6 rfl ?_
  refine ap_get d164_7 f164_189 (by decide) rfl rfl ?_
  refine an_top (e' := nI (dN P mt go)) (hH.1) ?_
  refine an_iconst 1 d164_10 rfl ?_
  refine as_isub d164_11 ?_
  refine ac_s3 d164_12 c164_71 (by decide) (Nat.le_of_ble_eq_true rfl) (mc_in X _ _ _ _) ?_
  refine as_if_eq 28 d164_15 (by decide) (fun c15 => ?_) (fun c15 => ?_)
  · refine an_bipushI (-2) d164_28 rfl ?_
    refine as_ireturn d164_30 (by rw [t164]; rfl) ?_
    rfl
  · refine as_iload_n d164_18 rfl ?_
    refine an_iconst 0 d164_19 rfl ?_
    refine an_bipush 100 d164_20 rfl ?_
    refine ac_s3 d164_22 c164_71 (by decide) (Nat.le_of_ble_eq_true rfl) (mc_in X _ _ _ _) ?_
    refine as_if_ne 31 d164_25 (by decide) (fun c25 => ?_) (fun c25 => ?_)
    · exact absurd ⟨(inN_iff (by omega) _).mp (am_b1 c15), am_b1 c25⟩ hv
    · refine an_bipushI (-2) d164_28 rfl ?_
      refine as_ireturn d164_30 (by rw [t164]; rfl) ?_
      rfl
theorem mx_addN (X : am_X) (S : MS) (P : Nat) (mt : Nat → Option Nat) (go : Nat → Nat) (hG : GW P mt go) (hR : RG S P mt go) (hD : DAll P mt go) (hS : SHN S) (a b : Nat) (ha : a < dN P mt go) (hb : b ≤ 100) : ∃ T, lKeep S T ∧ (addF (sv S) (dR P mt go) P a b → MC X 164 [.ref (189), .int (nI (a)), .int (nI (b))] S (some (.int (-4))) T) ∧ (¬ addF (sv S) (dR P mt go) P a b → MC X 164 [.ref (189), .int (nI (a)), .int (nI (b))] S (some (.int (nI 1))) (addT (sv S) (dR P mt go) a b T P)) := by
  obtain ⟨T, hM, hK, hH⟩ := mx_findLeast X S P mt go hG hR hD
  have hH : RH T P (dN P mt go) (dR P mt go) := hH
  have hP := hG.1
  have hp : T.1 189 0 = nI P := (hK.2.2 189 0 (by omega)).trans hR.1
  obtain ⟨hn, hB⟩ := dR_b hD
  have hsh : T.2.1 192 = S.2.1 192 := hK.1 192 (by decide) (by decide) (by decide)
  have hb1 : ∀ i, i < 7 * P → b * dR P mt go a i ≤ 2000000 := fun i hi => Nat.le_trans (Nat.mul_le_mul hb (hB a ha i hi)) (by decide)
  have hb2 : ∀ i, i < 7 * P → sv S i ≤ 1000 := fun i hi => (hS i (by omega)).2
  refine ⟨T, hK, fun hf => ?_, fun hf => ?_⟩
  · obtain ⟨m, hm, hm2⟩ := hf
    refine MC.of (Nat.le_of_ble_eq_true rfl) ?_
    refine as_aload_n d164_0 rfl ?_
    refine ac_v0 d164_1 c164_227 (by decide) rfl (Nat.le_of_ble_eq_true rfl) (hM) ?_
    refine as_iload_n d164_4 rfl ?_
    refine an_iconst 0 d164_5 rfl ?_
    refine as_aload_n d164_6 rfl ?_
    refine ap_get d164_7 f164_189 (by decide) rfl rfl ?_
    refine an_top (e' := nI (dN P mt go)) (hH.1) ?_
    refine an_iconst 1 d164_10 rfl ?_
    refine as_isub d164_11 ?_
    refine ac_s3 d164_12 c164_71 (by decide) (Nat.le_of_ble_eq_true rfl) (mc_in X _ _ _ _) ?_
    refine as_if_eq 28 d164_15 (by decide) (fun c15 => absurd ((inN_iff (by omega) _).mpr ⟨nI_pos' (by omega), nI_lt ha (by omega)⟩) (am_b01.mp c15)) (fun c15 => ?_)
    refine as_iload_n d164_18 rfl ?_
    refine an_iconst 0 d164_19 rfl ?_
    refine an_bipush 100 d164_20 rfl ?_
    refine ac_s3 d164_22 c164_71 (by decide) (Nat.le_of_ble_eq_true rfl) (mc_in X _ _ _ _) ?_
    refine as_if_ne 31 d164_25 (by decide) (fun c25 => ?_) (fun c25 => absurd ⟨nI_le (Nat.zero_le _) (by omega), nI_le hb (by decide)⟩ (am_b01.mp c25))
    refine an_iconst 0 d164_31 rfl ?_
    refine as_istore_n d164_32 (by decide) ?_
    refine AW.loc [(0, .ref (189)), (1, .int (nI (a))), (2, .int (nI (b))), (3, .int (nI (0)))] (am_pick [1, 2, 3, 0] rfl rfl) ?_
    refine aw_fromI (fun i => ((33, [(0, .ref (189)), (1, .int (nI (a))), (2, .int (nI (b))), (3, .int (nI (i)))], [], 208, HP (T), 0, 0) : am_Z)) (fun i => ∀ j, j < i → sv S j + b * dR P mt go a j ≤ 1000) (0) (7 * P) (by omega) (rfl) (fun j hj => by omega) (fun i hi0 hi hI ih => ?_) (fun hX => ?_)
    · refine as_iload_n d164_33 rfl ?_
      refine an_bipush 7 d164_34 rfl ?_
      refine as_aload_n d164_36 rfl ?_
      refine ap_get d164_37 f164_67 (by decide) rfl rfl ?_
      refine an_top (e' := nI (P)) (hp) ?_
      refine an_imul d164_40 ?_
      refine an_icmp_ge 79 d164_41 (by decide) (by omega) (by omega) (fun c41 => by omega) (fun c41 => ?_)
      refine as_aload_n d164_44 rfl ?_
      refine ap_get d164_45 f164_16 (by decide) rfl rfl ?_
      refine as_iload_n d164_48 rfl ?_
      refine ap_iald d164_49 (fun _ _ _ _ => rfl) (by decide) (by omega) (by decide) ?_
      refine an_top (e' := nI (sv S i)) (by rw [hsh]; exact (hS i (by omega)).1) ?_
      refine as_iload_n d164_50 rfl ?_
      refine as_aload_n d164_51 rfl ?_
      refine ap_get d164_52 f164_42 (by decide) rfl rfl ?_
      refine an_bipush 21 d164_55 rfl ?_
      refine as_iload_n d164_57 rfl ?_
      refine an_imul d164_58 ?_
      refine as_iload_n d164_59 rfl ?_
      refine an_iadd d164_60 ?_
      refine ap_iald d164_61 (fun _ _ _ _ => rfl) (by decide) (by omega) (by decide) ?_
      refine an_top (e' := nI (dR P mt go a i)) (hH.2 a ha i (by omega)) ?_
      refine an_imul d164_62 ?_
      refine an_iadd d164_63 ?_
      refine an_sipush 1000 d164_64 rfl ?_
      have q1 := hb1 i (by omega)
      have q2 := hb2 i (by omega)
      refine an_icmp_le 73 d164_67 (by decide) (by omega) (by omega) (fun c67 => ?_) (fun c67 => ?_)
      · refine an_iinc 1 d164_73 rfl rfl (by decide) ?_
        refine as_goto 33 d164_76 (by decide) ?_
        refine AW.loc [(0, .ref (189)), (1, .int (nI (a))), (2, .int (nI (b))), (3, .int (nI (i + 1)))] (am_pick [1, 2, 3, 0] rfl rfl) ?_
        have ih := ih (fun j hj => by
          by_cases e : j = i
          · subst e; exact c67
          · exact hI j (by omega))
        exact ih
      · refine an_bipushI (-4) d164_70 rfl ?_
        refine as_ireturn d164_72 (by rw [t164]; rfl) ?_
        rfl
    · refine as_iload_n d164_33 rfl ?_
      refine an_bipush 7 d164_34 rfl ?_
      refine as_aload_n d164_36 rfl ?_
      refine ap_get d164_37 f164_67 (by decide) rfl rfl ?_
      refine an_top (e' := nI (P)) (hp) ?_
      refine an_imul d164_40 ?_
      refine an_icmp_ge 79 d164_41 (by decide) (by omega) (by omega) (fun c41 => ?_) (fun c41 => by omega)
      exact absurd (hX m hm) (by omega)
  · refine MC.of (Nat.le_of_ble_eq_true rfl) ?_
    refine as_aload_n d164_0 rfl ?_
    refine ac_v0 d164_1 c164_227 (by decide) rfl (Nat.le_of_ble_eq_true rfl) (hM) ?_
    refine as_iload_n d164_4 rfl ?_
    refine an_iconst 0 d164_5 rfl ?_
    refine as_aload_n d164_6 rfl ?_
    refine ap_get d164_7 f164_189 (by decide) rfl rfl ?_
    refine an_top (e' := nI (dN P mt go)) (hH.1) ?_
    refine an_iconst 1 d164_10 rfl ?_
    refine as_isub d164_11 ?_
    refine ac_s3 d164_12 c164_71 (by decide) (Nat.le_of_ble_eq_true rfl) (mc_in X _ _ _ _) ?_
    refine as_if_eq 28 d164_15 (by decide) (fun c15 => absurd ((inN_iff (by omega) _).mpr ⟨nI_pos' (by omega), nI_lt ha (by omega)⟩) (am_b01.mp c15)) (fun c15 => ?_)
    refine as_iload_n d164_18 rfl ?_
    refine an_iconst 0 d164_19 rfl ?_
    refine an_bipush 100 d164_20 rfl ?_
    refine ac_s3 d164_22 c164_71 (by decide) (Nat.le_of_ble_eq_true rfl) (mc_in X _ _ _ _) ?_
    refine as_if_ne 31 d164_25 (by decide) (fun c25 => ?_) (fun c25 => absurd ⟨nI_le (Nat.zero_le _) (by omega), nI_le hb (by decide)⟩ (am_b01.mp c25))
    refine an_iconst 0 d164_31 rfl ?_
    refine as_istore_n d164_32 (by decide) ?_
    refine AW.loc [(0, .ref (189)), (1, .int (nI (a))), (2, .int (nI (b))), (3, .int (nI (0)))] (am_pick [1, 2, 3, 0] rfl rfl) ?_
    refine aw_for (fun i => ((33, [(0, .ref (189)), (1, .int (nI (a))), (2, .int (nI (b))), (3, .int (nI (i)))], [], 208, HP (T), 0, 0) : am_Z)) (7 * P) (rfl) (fun i hi ih => ?_) ?_
    · refine as_iload_n d164_33 rfl ?_
      refine an_bipush 7 d164_34 rfl ?_
      refine as_aload_n d164_36 rfl ?_
      refine ap_get d164_37 f164_67 (by decide) rfl rfl ?_
      refine an_top (e' := nI (P)) (hp) ?_
      refine an_imul d164_40 ?_
      refine an_icmp_ge 79 d164_41 (by decide) (by omega) (by omega) (fun c41 => by omega) (fun c41 => ?_)
      refine as_aload_n d164_44 rfl ?_
      refine ap_get d164_45 f164_16 (by decide) rfl rfl ?_
      refine as_iload_n d164_48 rfl ?_
      refine ap_iald d164_49 (fun _ _ _ _ => rfl) (by decide) (by omega) (by decide) ?_
      refine an_top (e' := nI (sv S i)) (by rw [hsh]; exact (hS i (by omega)).1) ?_
      refine as_iload_n d164_50 rfl ?_
      refine as_aload_n d164_51 rfl ?_
      refine ap_get d164_52 f164_42 (by decide) rfl rfl ?_
      refine an_bipush 21 d164_55 rfl ?_
      refine as_iload_n d164_57 rfl ?_
      refine an_imul d164_58 ?_
      refine as_iload_n d164_59 rfl ?_
      refine an_iadd d164_60 ?_
      refine ap_iald d164_61 (fun _ _ _ _ => rfl) (by decide) (by omega) (by decide) ?_
      refine an_top (e' := nI (dR P mt go a i)) (hH.2 a ha i (by omega)) ?_
      refine an_imul d164_62 ?_
      refine an_iadd d164_63 ?_
      refine an_sipush 1000 d164_64 rfl ?_
      have q1 := hb1 i (by omega)
      have q2 := hb2 i (by omega)
      refine an_icmp_le 73 d164_67 (by decide) (by omega) (by omega) (fun c67 => ?_) (fun c67 => absurd ⟨i, hi, by omega⟩ hf)
      refine an_iinc 1 d164_73 rfl rfl (by decide) ?_
      refine as_goto 33 d164_76 (by decide) ?_
      refine AW.loc [(0, .ref (189)), (1, .int (nI (a))), (2, .int (nI (b))), (3, .int (nI (i + 1)))] (am_pick [1, 2, 3, 0] rfl rfl) ?_
      exact ih
    · refine as_iload_n d164_33 rfl ?_
      refine an_bipush 7 d164_34 rfl ?_
      refine as_aload_n d164_36 rfl ?_
      refine ap_get d164_37 f164_67 (by decide) rfl rfl ?_
      refine an_top (e' := nI (P)) (hp) ?_
      refine an_imul d164_40 ?_
      refine an_icmp_ge 79 d164_41 (by decide) (by omega) (by omega) (fun c41 => ?_) (fun c41 => by omega)
      refine an_iconst 0 d164_79 rfl ?_
      refine as_istore_n d164_80 (by decide) ?_
      refine AW.loc [(0, .ref (189)), (1, .int (nI (a))), (2, .int (nI (b))), (3, .int (nI (0)))] (am_pick [1, 2, 3, 0] rfl rfl) ?_
      refine aw_for (fun i => ((81, [(0, .ref (189)), (1, .int (nI (a))), (2, .int (nI (b))), (3, .int (nI (i)))], [], 208, HP (sRow T 192 0 (fun i => nI (sv S i + b * dR P mt go a i)) (i)), 0, 0) : am_Z)) (7 * P) (by rw [sRow_0]) (fun i hi ih => ?_) ?_
      · refine as_iload_n d164_81 rfl ?_
        refine an_bipush 7 d164_82 rfl ?_
        refine as_aload_n d164_84 rfl ?_
        refine ap_get d164_85 f164_67 (by decide) rfl rfl ?_
        refine an_top (e' := nI (P)) (hp) ?_
        refine an_imul d164_88 ?_
        refine an_icmp_ge 120 d164_89 (by decide) (by omega) (by omega) (fun c89 => by omega) (fun c89 => ?_)
        refine as_aload_n d164_92 rfl ?_
        refine ap_get d164_93 f164_16 (by decide) rfl rfl ?_
        refine as_iload_n d164_96 rfl ?_
        refine as_dup2 d164_97 rfl rfl ?_
        refine ap_iald d164_98 (fun _ _ _ _ => rfl) (by decide) (by omega) (by decide) ?_
        refine an_top (e' := nI (sv S i)) (by rw [sRow_ge (by omega), hsh]; exact (hS i (by omega)).1) ?_
        refine as_iload_n d164_99 rfl ?_
        refine as_aload_n d164_100 rfl ?_
        refine ap_get d164_101 f164_42 (by decide) rfl rfl ?_
        refine an_bipush 21 d164_104 rfl ?_
        refine as_iload_n d164_106 rfl ?_
        refine an_imul d164_107 ?_
        refine as_iload_n d164_108 rfl ?_
        refine an_iadd d164_109 ?_
        refine ap_iald d164_110 (fun _ _ _ _ => rfl) (by decide) (by omega) (by decide) ?_
        refine an_top (e' := nI (dR P mt go a i)) (by rw [sRow_row _ _ _ _ _ (by decide)]; exact hH.2 a ha i (by omega)) ?_
        refine an_imul d164_111 ?_
        refine an_iadd d164_112 ?_
        refine ap_iast d164_113 (fun _ _ _ _ => rfl) (by decide) (by omega) (by decide) ?_
        refine an_iinc 1 d164_114 rfl rfl (by decide) ?_
        refine as_goto 81 d164_117 (by decide) ?_
        refine AW.loc [(0, .ref (189)), (1, .int (nI (a))), (2, .int (nI (b))), (3, .int (nI (i + 1)))] (am_pick [1, 2, 3, 0] rfl rfl) ?_
        have eS : sRow T 192 0 (fun i => nI (sv S i + b * dR P mt go a i)) (i + 1) = (sRow T 192 0 (fun i => nI (sv S i + b * dR P mt go a i)) (i)).sa 192 (i) (nI ((sv S i) + ((b) * (dR P mt go a i)))) := by rw [sRow_s, Nat.zero_add]
        rw [eS] at ih
        exact ih
      · refine as_iload_n d164_81 rfl ?_
        refine an_bipush 7 d164_82 rfl ?_
        refine as_aload_n d164_84 rfl ?_
        refine ap_get d164_85 f164_67 (by decide) rfl rfl ?_
        refine an_top (e' := nI (P)) (hp) ?_
        refine an_imul d164_88 ?_
        refine an_icmp_ge 120 d164_89 (by decide) (by omega) (by omega) (fun c89 => ?_) (fun c89 => by omega)
        refine an_iconst 1 d164_120 rfl ?_
        refine as_ireturn d164_121 (by rw [t164]; rfl) ?_
        rfl
