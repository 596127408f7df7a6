/-! the class: spaceChanged, piece, glue, clear and their like -/
def chg (S T : MS) : Prop := (∀ k, 21 < k → k ≠ 178 → T.2.1 k = S.2.1 k) ∧ T.2.2 = S.2.2 ∧ (∀ i j, 21 < i → T.1 i j = S.1 i j)
theorem chg.rf (S : MS) : chg S S := ⟨fun _ _ _ => rfl, rfl, fun _ _ _ => rfl⟩
theorem chg.trans {S T U : MS} (h : chg S T) (g : chg T U) : chg S U := ⟨fun k a b => (g.1 k a b).trans (h.1 k a b), g.2.1.trans h.2.1, fun i j a => (g.2.2 i j a).trans (h.2.2 i j a)⟩
theorem fsKeep.chg {S T : MS} (h : fsKeep S T) : chg S T := ⟨fun k a _ => h.1 k (by omega) (by omega), h.2.1, fun i j a => h.2.2 i j (by omega)⟩
theorem spKeep.chg {S T : MS} (h : spKeep S T) : chg S T := ⟨fun k a _ => h.1 k (by omega) (by omega) (by omega), h.2.1, fun i j a => h.2.2 i j (by omega)⟩
theorem chg.sf0 {S T : MS} (h : chg S T) (j : Nat) (x : Int32) : chg S (T.sf 0 j x) := ⟨h.1, h.2.1, fun i k a => by rw [sf_at, if_neg (by omega)]; exact h.2.2 i k a⟩
theorem chg.wipe {S T : MS} (h : chg S T) (f : Nat → Int32) : chg S (sRow T 178 0 f 21) := ⟨fun k a b => by rw [sRow_row _ _ _ _ _ b]; exact h.1 k a b, h.2.1, h.2.2⟩
theorem SD.keep {S T : MS} {P : Nat} {mt : Nat → Option Nat} {go : Nat → Nat} (h : SD S P mt go) (h1 : ∀ k, k ≤ 21 → T.2.1 k = S.2.1 k) (h2 : ∀ i j, 0 < i → i ≤ 21 → T.1 i j = S.1 i j) : SD T P mt go :=
  ⟨h.1.keep (h2 1 0 (by omega) (by omega)) (h2 1 1 (by omega) (by omega)) (h1 2 (by omega)) (h1 3 (by omega)), h.2.1.keep (h1 _ (by omega)) (h1 _ (by omega)) (h1 _ (by omega)) (h2 _ _ (by omega) (by omega)), h.2.2.1.keep (h1 _ (by omega)) (h1 _ (by omega)) (h1 _ (by omega)) (h2 _ _ (by omega) (by omega)), h.2.2.2.keep (h1 _ (by omega)) (h1 _ (by omega)) (h1 _ (by omega)) (h2 _ _ (by omega) (by omega))⟩
/-- the space has changed: what was found is stale -/
def New (S T : MS) (P : Nat) (mt : Nat → Option Nat) (go : Nat → Nat) : Prop := SD T P mt go ∧ chg S T ∧ T.1 0 5 = nI 1 ∧ T.1 0 6 = nI 1
theorem mx_spaceChanged (X : am_X) (S : MS) (P : Nat) (mt : Nat → Option Nat) (go : Nat → Nat) (hG : GW P mt go) (hC : CG S P mt go) : ∃ T, MC X 103 [.ref (0)] S none T ∧ New S T P mt go ∧ T.2.1 178 = S.2.1 178 := by
  obtain ⟨T1, a1, a2, a3⟩ := mx_sortOut X S P mt go hG hC
  have key := MX.mc (X := X) (mj := 103) (as := [.ref (0)]) (S := S) (Post := fun v T => v = none ∧ New S T P mt go ∧ T.2.1 178 = S.2.1 178) ?_
  · obtain ⟨v, T, g1, g2, g3⟩ := key
    subst g2
    exact ⟨T, g1, g3⟩
  refine MX.of (Nat.le_of_ble_eq_true rfl) ?_
  refine as_aload_n d103_0 rfl ?_
  refine ap_get d103_1 f103_10 (by decide) rfl rfl ?_
  refine ac_v0 d103_4 c103_209 (by decide) rfl (Nat.le_of_ble_eq_true rfl) (a1) ?_
  refine as_aload_n d103_7 rfl ?_
  refine an_iconst 1 d103_8 rfl ?_
  refine ap_put d103_9 f103_44 (by decide) rfl (Nat.le_of_ble_eq_true rfl) (rfl) rfl rfl ?_
  refine as_aload_n d103_12 rfl ?_
  refine an_iconst 1 d103_13 rfl ?_
  refine ap_put d103_14 f103_48 (by decide) rfl (Nat.le_of_ble_eq_true rfl) (rfl) rfl rfl ?_
  refine as_return d103_17 t103 ?_
  exact ⟨_, _, rfl, rfl, ⟨a3.keep (fun _ _ => rfl) (fun i j h1 h2 => by rw [sf_at, if_neg (by omega), sf_at, if_neg (by omega)]), (a2.chg.sf0 _ _).sf0 _ _, by rw [sf_at, if_neg (by omega), sf_at, if_pos ⟨rfl, rfl⟩], by rw [sf_at, if_pos ⟨rfl, rfl⟩]⟩, by rw [sf_snd, sf_snd]; exact a2.1 178 (by omega) (by omega) (by omega)⟩
theorem mc_pieceF (X : am_X) (S : MS) (P : Nat) (mt : Nat → Option Nat) (go : Nat → Nat) (hC : CG S P mt go) (h3 : P = 3) : MC X 79 [.ref (0)] S (some (.int (-4))) S := by
  refine MC.of (Nat.le_of_ble_eq_true rfl) ?_
  refine as_aload_n d79_0 rfl ?_
  refine ap_get d79_1 f79_10 (by decide) rfl rfl ?_
  refine ap_get d79_4 f79_51 (by decide) rfl rfl ?_
  refine an_top (e' := nI (P)) (hC.1) ?_
  refine an_iconst 3 d79_7 rfl ?_
  refine an_icmp_lt 14 d79_8 (by decide) (by omega) (by omega) (fun c8 => by omega) (fun c8 => ?_)
  refine an_bipushI (-4) d79_11 rfl ?_
  refine as_ireturn d79_13 (by rw [t79]; rfl) ?_
  rfl
theorem mx_pieceC (X : am_X) (S : MS) (P : Nat) (mt : Nat → Option Nat) (go : Nat → Nat) (hG : GW P mt go) (hC : CG S P mt go) (h3 : P ≠ 3) : ∃ T, MC X 79 [.ref (0)] S (some (.int (nI P))) T ∧ New S T (P + 1) (mtP P mt) go ∧ ∀ i, i < 21 → T.2.1 178 i = nI 0 := by
  have hP := hG.1
  obtain ⟨T1, a1, a2, a3⟩ := mx_grow X S P mt go hG hC h3
  have a4 : CG (sRow T1 178 0 (fun _ => nI 0) 21) (P + 1) (mtP P mt) go := a3.keep rfl rfl (sRow_row _ _ _ _ _ (by decide)) (sRow_row _ _ _ _ _ (by decide))
  obtain ⟨T2, b1, b2, b3⟩ := mx_spaceChanged X _ (P + 1) (mtP P mt) go (hG.piece h3) a4
  refine ⟨T2, ?_, ⟨b2.1, (a2.chg.wipe _).trans b2.2.1, b2.2.2⟩, fun i hi => ?_⟩
  · refine MC.of (Nat.le_of_ble_eq_true rfl) ?_
    refine as_aload_n d79_0 rfl ?_
    refine ap_get d79_1 f79_10 (by decide) rfl rfl ?_
    refine ap_get d79_4 f79_51 (by decide) rfl rfl ?_
    refine an_top (e' := nI (P)) (hC.1) ?_
    refine an_iconst 3 d79_7 rfl ?_
    refine an_icmp_lt 14 d79_8 (by decide) (by omega) (by omega) (fun c8 => ?_) (fun c8 => by omega)
    refine as_aload_n d79_14 rfl ?_
    refine ap_get d79_15 f79_10 (by decide) rfl rfl ?_
    refine ac_v0 d79_18 c79_55 (by decide) rfl (Nat.le_of_ble_eq_true rfl) (a1) ?_
    refine as_aload_n d79_21 rfl ?_
    refine ap_get d79_22 f79_33 (by decide) rfl rfl ?_
    refine ac_v0 d79_25 c79_58 (by decide) rfl (Nat.le_of_ble_eq_true rfl) (mc_wipe X _) ?_
    refine as_aload_n d79_28 rfl ?_
    refine ac_v0 d79_29 c79_61 (by decide) rfl (Nat.le_of_ble_eq_true rfl) (b1) ?_
    refine as_aload_n d79_32 rfl ?_
    refine ap_get d79_33 f79_10 (by decide) rfl rfl ?_
    refine ap_get d79_36 f79_51 (by decide) rfl rfl ?_
    refine an_top (e' := nI (P + 1)) (b2.1.1.1) ?_
    refine an_iconst 1 d79_39 rfl ?_
    refine an_isub d79_40 (by omega) ?_
    refine as_ireturn d79_41 (by rw [t79]; rfl) ?_
    rfl
  · have q := sRow_eq (S := T1) (A := 178) (off := 0) (f := fun _ => nI 0) (n := 21) hi
    rw [Nat.zero_add] at q
    rw [b3, q]
theorem mx_clearC (X : am_X) (S : MS) (P : Nat) (mt : Nat → Option Nat) (go : Nat → Nat) (hC : CG S P mt go) : ∃ T, MC X 82 [.ref (0)] S (some (.int (nI P))) T ∧ New S T 0 (fun _ => none) go ∧ ∀ i, i < 21 → T.2.1 178 i = nI 0 := by
  obtain ⟨T1, a1, a2, a3⟩ := mx_emptyC X S P mt go
  have a4 : CG (sRow T1 178 0 (fun _ => nI 0) 21) 0 (fun _ => none) go := a3.keep rfl rfl (sRow_row _ _ _ _ _ (by decide)) (sRow_row _ _ _ _ _ (by decide))
  obtain ⟨T2, b1, b2, b3⟩ := mx_spaceChanged X _ 0 (fun _ => none) go GW.none a4
  refine ⟨T2, ?_, ⟨b2.1, (a2.chg.wipe _).trans b2.2.1, b2.2.2⟩, fun i hi => ?_⟩
  · refine MC.of (Nat.le_of_ble_eq_true rfl) ?_
    refine as_aload_n d82_0 rfl ?_
    refine ap_get d82_1 f82_10 (by decide) rfl rfl ?_
    refine ap_get d82_4 f82_51 (by decide) rfl rfl ?_
    refine an_top (e' := nI (P)) (hC.1) ?_
    refine as_istore_n d82_7 (by decide) ?_
    refine as_aload_n d82_8 rfl ?_
    refine ap_get d82_9 f82_10 (by decide) rfl rfl ?_
    refine ac_v0 d82_12 c82_83 (by decide) rfl (Nat.le_of_ble_eq_true rfl) (a1) ?_
    refine as_aload_n d82_15 rfl ?_
    refine ap_get d82_16 f82_33 (by decide) rfl rfl ?_
    refine ac_v0 d82_19 c82_58 (by decide) rfl (Nat.le_of_ble_eq_true rfl) (mc_wipe X _) ?_
    refine as_aload_n d82_22 rfl ?_
    refine ac_v0 d82_23 c82_61 (by decide) rfl (Nat.le_of_ble_eq_true rfl) (b1) ?_
    refine as_iload_n d82_26 rfl ?_
    refine as_ireturn d82_27 (by rw [t82]; rfl) ?_
    rfl
  · have q := sRow_eq (S := T1) (A := 178) (off := 0) (f := fun _ => nI 0) (n := 21) hi
    rw [Nat.zero_add] at q
    rw [b3, q]
theorem goOn : ∀ m, m < 64 → ∀ g, g < 4 → (nI 1 <<< ((nI m &&& nI 3) &&& 31) ||| nI 1 <<< ((nI m >>> (nI 2 &&& 31) &&& nI 3) &&& 31) ||| nI 1 <<< ((nI m >>> (nI 4 &&& 31) &&& nI 3) &&& 31) ||| nI 1 <<< (nI g &&& 31) = nI 15) = (m % 4 ≠ m / 4 % 4 ∧ m % 4 ≠ m / 16 ∧ m / 4 % 4 ≠ m / 16 ∧ m % 4 ≠ g ∧ m / 4 % 4 ≠ g ∧ m / 16 ≠ g) := by
  have h : ∀ m, m < 64 → ∀ g, g < 4 → decide (nI 1 <<< ((nI m &&& nI 3) &&& 31) ||| nI 1 <<< ((nI m >>> (nI 2 &&& 31) &&& nI 3) &&& 31) ||| nI 1 <<< ((nI m >>> (nI 4 &&& 31) &&& nI 3) &&& 31) ||| nI 1 <<< (nI g &&& 31) = nI 15) = decide (m % 4 ≠ m / 4 % 4 ∧ m % 4 ≠ m / 16 ∧ m / 4 % 4 ≠ m / 16 ∧ m % 4 ≠ g ∧ m / 4 % 4 ≠ g ∧ m / 16 ≠ g) := by decide +kernel
  intro m hm g hg
  have := h m hm g hg
  exact propext ⟨fun q => of_decide_eq_true (this ▸ decide_eq_true q), fun q => of_decide_eq_true (this.symm ▸ decide_eq_true q)⟩
theorem mc_goesOntoT (X : am_X) (S : MS) (m g : Nat) (hm : m < 64) (hg : g < 4) (h : gOk g m) : MC X 102 [.int (nI (m)), .int (nI (g))] S (some (.int (nI 1))) S := by
  refine MC.of (Nat.le_of_ble_eq_true rfl) ?_
  refine as_iload_n d102_0 rfl ?_
  refine as_if_lt 10 d102_1 (by decide) (fun c1 => absurd c1 (nI_pos (by omega))) (fun c1 => ?_)
  refine as_iload_n d102_4 rfl ?_
  refine an_bipush 63 d102_5 rfl ?_
  refine an_icmp_le 12 d102_7 (by decide) (by omega) (by omega) (fun c7 => ?_) (fun c7 => by omega)
  refine an_iconst 1 d102_12 rfl ?_
  refine as_iload_n d102_13 rfl ?_
  refine an_iconst 3 d102_14 rfl ?_
  refine as_iand d102_15 ?_
  refine as_ishl d102_16 ?_
  refine an_iconst 1 d102_17 rfl ?_
  refine as_iload_n d102_18 rfl ?_
  refine an_iconst 2 d102_19 rfl ?_
  refine as_ishr d102_20 ?_
  refine an_iconst 3 d102_21 rfl ?_
  refine as_iand d102_22 ?_
  refine as_ishl d102_23 ?_
  refine as_ior d102_24 ?_
  refine an_iconst 1 d102_25 rfl ?_
  refine as_iload_n d102_26 rfl ?_
  refine an_iconst 4 d102_27 rfl ?_
  refine as_ishr d102_28 ?_
  refine an_iconst 3 d102_29 rfl ?_
  refine as_iand d102_30 ?_
  refine as_ishl d102_31 ?_
  refine as_ior d102_32 ?_
  refine an_iconst 1 d102_33 rfl ?_
  refine as_iload_n d102_34 rfl ?_
  refine as_ishl d102_35 ?_
  refine as_ior d102_36 ?_
  refine as_istore_n d102_37 (by decide) ?_
  refine as_iload_n d102_38 rfl ?_
  refine an_bipush 15 d102_39 rfl ?_
  refine as_icmp_ne 48 d102_41 (by decide) (fun c41 => absurd ((goOn m hm g hg).mpr h) c41) (fun c41 => ?_)
  refine an_iconst 1 d102_44 rfl ?_
  refine as_goto 49 d102_45 (by decide) ?_
  refine as_ireturn d102_49 (by rw [t102]; rfl) ?_
  rfl
theorem mc_goesOntoF (X : am_X) (S : MS) (m g : Nat) (hm : m < 64) (hg : g < 4) (h : ¬ gOk g m) : MC X 102 [.int (nI (m)), .int (nI (g))] S (some (.int (nI 0))) S := by
  refine MC.of (Nat.le_of_ble_eq_true rfl) ?_
  refine as_iload_n d102_0 rfl ?_
  refine as_if_lt 10 d102_1 (by decide) (fun c1 => absurd c1 (nI_pos (by omega))) (fun c1 => ?_)
  refine as_iload_n d102_4 rfl ?_
  refine an_bipush 63 d102_5 rfl ?_
  refine an_icmp_le 12 d102_7 (by decide) (by omega) (by omega) (fun c7 => ?_) (fun c7 => by omega)
  refine an_iconst 1 d102_12 rfl ?_
  refine as_iload_n d102_13 rfl ?_
  refine an_iconst 3 d102_14 rfl ?_
  refine as_iand d102_15 ?_
  refine as_ishl d102_16 ?_
  refine an_iconst 1 d102_17 rfl ?_
  refine as_iload_n d102_18 rfl ?_
  refine an_iconst 2 d102_19 rfl ?_
  refine as_ishr d102_20 ?_
  refine an_iconst 3 d102_21 rfl ?_
  refine as_iand d102_22 ?_
  refine as_ishl d102_23 ?_
  refine as_ior d102_24 ?_
  refine an_iconst 1 d102_25 rfl ?_
  refine as_iload_n d102_26 rfl ?_
  refine an_iconst 4 d102_27 rfl ?_
  refine as_ishr d102_28 ?_
  refine an_iconst 3 d102_29 rfl ?_
  refine as_iand d102_30 ?_
  refine as_ishl d102_31 ?_
  refine as_ior d102_32 ?_
  refine an_iconst 1 d102_33 rfl ?_
  refine as_iload_n d102_34 rfl ?_
  refine as_ishl d102_35 ?_
  refine as_ior d102_36 ?_
  refine as_istore_n d102_37 (by decide) ?_
  refine as_iload_n d102_38 rfl ?_
  refine an_bipush 15 d102_39 rfl ?_
  refine as_icmp_ne 48 d102_41 (by decide) (fun c41 => ?_) (fun c41 => absurd ((goOn m hm g hg).mp c41) h)
  refine an_iconst 0 d102_48 rfl ?_
  refine as_ireturn d102_49 (by rw [t102]; rfl) ?_
  rfl
theorem mc_goesOntoO (X : am_X) (S : MS) (x : Int32) (g : Nat) (h : ¬ (0 ≤ x ∧ x ≤ 63)) : MC X 102 [.int (x), .int (nI (g))] S (some (.int (nI 0))) S := by
  refine MC.of (Nat.le_of_ble_eq_true rfl) ?_
  refine as_iload_n d102_0 rfl ?_
  refine as_if_lt 10 d102_1 (by decide) (fun c1 => ?_) (fun c1 => ?_)
  · refine an_iconst 0 d102_10 rfl ?_
    refine as_ireturn d102_11 (by rw [t102]; rfl) ?_
    rfl
  · refine as_iload_n d102_4 rfl ?_
    refine an_bipush 63 d102_5 rfl ?_
    refine as_icmp_le 12 d102_7 (by decide) (fun c7 => absurd ⟨i32_le c1, c7⟩ h) (fun c7 => ?_)
    refine an_iconst 0 d102_10 rfl ?_
    refine as_ireturn d102_11 (by rw [t102]; rfl) ?_
    rfl
theorem mc_glueB (X : am_X) (S : MS) (P : Nat) (mt : Nat → Option Nat) (go : Nat → Nat) (hC : CG S P mt go) (p f q g map : Int32) (h : ¬ (isSd P p f ∧ isSd P q g)) : MC X 80 [.ref (0), .int (p), .int (f), .int (q), .int (g), .int (map)] S (some (.int (-2))) S := by
  have hp := hC.1
  refine MC.of (Nat.le_of_ble_eq_true rfl) ?_
  refine as_aload_n d80_0 rfl ?_
  refine as_iload_n d80_1 rfl ?_
  refine as_iload_n d80_2 rfl ?_
  refine ac_v2 d80_3 c80_64 (by decide) rfl (Nat.le_of_ble_eq_true rfl) (mc_hasSide X _ P hp _ _) ?_
  refine as_if_eq 40 d80_6 (by decide) (fun c6 => ?_) (fun c6 => ?_)
  · refine an_bipushI (-2) d80_40 rfl ?_
    refine as_ireturn d80_42 (by rw [t80]; rfl) ?_
    rfl
  · refine as_aload_n d80_9 rfl ?_
    refine as_iload_n d80_10 rfl ?_
    refine as_iload d80_11 rfl ?_
    refine ac_v2 d80_13 c80_64 (by decide) rfl (Nat.le_of_ble_eq_true rfl) (mc_hasSide X _ P hp _ _) ?_
    refine as_if_eq 40 d80_16 (by decide) (fun c16 => ?_) (fun c16 => ?_)
    · refine an_bipushI (-2) d80_40 rfl ?_
      refine as_ireturn d80_42 (by rw [t80]; rfl) ?_
      rfl
    · exact absurd ⟨am_b1 c6, am_b1 c16⟩ h
theorem mc_glueO (X : am_X) (S : MS) (P : Nat) (mt : Nat → Option Nat) (go : Nat → Nat) (p f q g : Nat) (hG : GW P mt go) (hC : CG S P mt go) (h1 : p < P) (h2 : f < 4) (h3 : q < P) (h4 : g < 4) (map : Int32) (hm : ¬ (0 ≤ map ∧ map ≤ 63)) : MC X 80 [.ref (0), .int (nI (p)), .int (nI (f)), .int (nI (q)), .int (nI (g)), .int (map)] S (some (.int (-2))) S := by
  have hp := hC.1
  have hP := hG.1
  have b1 := isSd_nI hP h1 h2
  have b2 := isSd_nI hP h3 h4
  refine MC.of (Nat.le_of_ble_eq_true rfl) ?_
  refine as_aload_n d80_0 rfl ?_
  refine as_iload_n d80_1 rfl ?_
  refine as_iload_n d80_2 rfl ?_
  refine ac_v2 d80_3 c80_64 (by decide) rfl (Nat.le_of_ble_eq_true rfl) (mc_hasSide X _ P hp _ _) ?_
  refine as_if_eq 40 d80_6 (by decide) (fun c6 => absurd b1 (am_b01.mp c6)) (fun c6 => ?_)
  refine as_aload_n d80_9 rfl ?_
  refine as_iload_n d80_10 rfl ?_
  refine as_iload d80_11 rfl ?_
  refine ac_v2 d80_13 c80_64 (by decide) rfl (Nat.le_of_ble_eq_true rfl) (mc_hasSide X _ P hp _ _) ?_
  refine as_if_eq 40 d80_16 (by decide) (fun c16 => absurd b2 (am_b01.mp c16)) (fun c16 => ?_)
  refine as_iload_n d80_19 rfl ?_
  refine as_iload_n d80_20 rfl ?_
  refine an_icmp_ne 30 d80_21 (by decide) (by omega) (by omega) (fun c21 => ?_) (fun c21 => ?_)
  · refine as_iload d80_30 rfl ?_
    refine as_iload d80_32 rfl ?_
    refine ac_s2 d80_34 c80_68 (by decide) (Nat.le_of_ble_eq_true rfl) (mc_goesOntoO X _ map g hm) ?_
    refine an_if_ne 43 d80_37 (by decide) (by omega) (fun c37 => absurd c37 (by decide)) (fun c37 => ?_)
    refine an_bipushI (-2) d80_40 rfl ?_
    refine as_ireturn d80_42 (by rw [t80]; rfl) ?_
    rfl
  · refine as_iload_n d80_24 rfl ?_
    refine as_iload d80_25 rfl ?_
    refine an_icmp_eq 40 d80_27 (by decide) (by omega) (by omega) (fun c27 => ?_) (fun c27 => ?_)
    · refine an_bipushI (-2) d80_40 rfl ?_
      refine as_ireturn d80_42 (by rw [t80]; rfl) ?_
      rfl
    · refine as_iload d80_30 rfl ?_
      refine as_iload d80_32 rfl ?_
      refine ac_s2 d80_34 c80_68 (by decide) (Nat.le_of_ble_eq_true rfl) (mc_goesOntoO X _ map g hm) ?_
      refine an_if_ne 43 d80_37 (by decide) (by omega) (fun c37 => absurd c37 (by decide)) (fun c37 => ?_)
      refine an_bipushI (-2) d80_40 rfl ?_
      refine as_ireturn d80_42 (by rw [t80]; rfl) ?_
      rfl
theorem mc_glueF (X : am_X) (S : MS) (P : Nat) (mt : Nat → Option Nat) (go : Nat → Nat) (p f q g : Nat) (hG : GW P mt go) (hC : CG S P mt go) (h1 : p < P) (h2 : f < 4) (h3 : q < P) (h4 : g < 4) (m : Nat) (hm : m < 64) (hb : ¬ gOk g m ∨ (p = q ∧ f = g)) : MC X 80 [.ref (0), .int (nI (p)), .int (nI (f)), .int (nI (q)), .int (nI (g)), .int (nI (m))] S (some (.int (-2))) S := by
  have hp := hC.1
  have hP := hG.1
  have b1 := isSd_nI hP h1 h2
  have b2 := isSd_nI hP h3 h4
  refine MC.of (Nat.le_of_ble_eq_true rfl) ?_
  refine as_aload_n d80_0 rfl ?_
  refine as_iload_n d80_1 rfl ?_
  refine as_iload_n d80_2 rfl ?_
  refine ac_v2 d80_3 c80_64 (by decide) rfl (Nat.le_of_ble_eq_true rfl) (mc_hasSide X _ P hp _ _) ?_
  refine as_if_eq 40 d80_6 (by decide) (fun c6 => absurd b1 (am_b01.mp c6)) (fun c6 => ?_)
  refine as_aload_n d80_9 rfl ?_
  refine as_iload_n d80_10 rfl ?_
  refine as_iload d80_11 rfl ?_
  refine ac_v2 d80_13 c80_64 (by decide) rfl (Nat.le_of_ble_eq_true rfl) (mc_hasSide X _ P hp _ _) ?_
  refine as_if_eq 40 d80_16 (by decide) (fun c16 => absurd b2 (am_b01.mp c16)) (fun c16 => ?_)
  refine as_iload_n d80_19 rfl ?_
  refine as_iload_n d80_20 rfl ?_
  refine an_icmp_ne 30 d80_21 (by decide) (by omega) (by omega) (fun c21 => ?_) (fun c21 => ?_)
  · have hk : ¬ gOk g m := hb.resolve_right (by omega)
    refine as_iload d80_30 rfl ?_
    refine as_iload d80_32 rfl ?_
    refine ac_s2 d80_34 c80_68 (by decide) (Nat.le_of_ble_eq_true rfl) (mc_goesOntoF X _ m g hm h4 hk) ?_
    refine an_if_ne 43 d80_37 (by decide) (by omega) (fun c37 => absurd c37 (by decide)) (fun c37 => ?_)
    refine an_bipushI (-2) d80_40 rfl ?_
    refine as_ireturn d80_42 (by rw [t80]; rfl) ?_
    rfl
  · refine as_iload_n d80_24 rfl ?_
    refine as_iload d80_25 rfl ?_
    refine an_icmp_eq 40 d80_27 (by decide) (by omega) (by omega) (fun c27 => ?_) (fun c27 => ?_)
    · refine an_bipushI (-2) d80_40 rfl ?_
      refine as_ireturn d80_42 (by rw [t80]; rfl) ?_
      rfl
    · have hk : ¬ gOk g m := hb.resolve_right (by omega)
      refine as_iload d80_30 rfl ?_
      refine as_iload d80_32 rfl ?_
      refine ac_s2 d80_34 c80_68 (by decide) (Nat.le_of_ble_eq_true rfl) (mc_goesOntoF X _ m g hm h4 hk) ?_
      refine an_if_ne 43 d80_37 (by decide) (by omega) (fun c37 => absurd c37 (by decide)) (fun c37 => ?_)
      refine an_bipushI (-2) d80_40 rfl ?_
      refine as_ireturn d80_42 (by rw [t80]; rfl) ?_
      rfl
theorem mc_glueN2 (X : am_X) (S : MS) (P : Nat) (mt : Nat → Option Nat) (go : Nat → Nat) (p f q g : Nat) (hG : GW P mt go) (hC : CG S P mt go) (h1 : p < P) (h2 : f < 4) (h3 : q < P) (h4 : g < 4) (m : Nat) (hm : m < 64) (hk : gOk g m) (hne : ¬ (p = q ∧ f = g)) (hgl : ¬ (mt (4 * p + f) = none ∧ mt (4 * q + g) = none)) : MC X 80 [.ref (0), .int (nI (p)), .int (nI (f)), .int (nI (q)), .int (nI (g)), .int (nI (m))] S (some (.int (-3))) S := by
  have hp := hC.1
  have hP := hG.1
  have b1 := isSd_nI hP h1 h2
  have b2 := isSd_nI hP h3 h4
  refine MC.of (Nat.le_of_ble_eq_true rfl) ?_
  refine as_aload_n d80_0 rfl ?_
  refine as_iload_n d80_1 rfl ?_
  refine as_iload_n d80_2 rfl ?_
  refine ac_v2 d80_3 c80_64 (by decide) rfl (Nat.le_of_ble_eq_true rfl) (mc_hasSide X _ P hp _ _) ?_
  refine as_if_eq 40 d80_6 (by decide) (fun c6 => absurd b1 (am_b01.mp c6)) (fun c6 => ?_)
  refine as_aload_n d80_9 rfl ?_
  refine as_iload_n d80_10 rfl ?_
  refine as_iload d80_11 rfl ?_
  refine ac_v2 d80_13 c80_64 (by decide) rfl (Nat.le_of_ble_eq_true rfl) (mc_hasSide X _ P hp _ _) ?_
  refine as_if_eq 40 d80_16 (by decide) (fun c16 => absurd b2 (am_b01.mp c16)) (fun c16 => ?_)
  refine as_iload_n d80_19 rfl ?_
  refine as_iload_n d80_20 rfl ?_
  refine an_icmp_ne 30 d80_21 (by decide) (by omega) (by omega) (fun c21 => ?_) (fun c21 => ?_)
  · skip
    refine as_iload d80_30 rfl ?_
    refine as_iload d80_32 rfl ?_
    refine ac_s2 d80_34 c80_68 (by decide) (Nat.le_of_ble_eq_true rfl) (mc_goesOntoT X _ m g hm h4 hk) ?_
    refine an_if_ne 43 d80_37 (by decide) (by omega) (fun c37 => ?_) (fun c37 => absurd c37 (by decide))
    refine an_iconst 4 d80_43 rfl ?_
    refine as_iload_n d80_44 rfl ?_
    refine an_imul d80_45 ?_
    refine as_iload_n d80_46 rfl ?_
    refine an_iadd d80_47 ?_
    refine as_istore d80_48 (by decide) ?_
    refine an_iconst 4 d80_50 rfl ?_
    refine as_iload_n d80_51 rfl ?_
    refine an_imul d80_52 ?_
    refine as_iload d80_53 rfl ?_
    refine an_iadd d80_55 ?_
    refine as_istore d80_56 (by decide) ?_
    refine as_aload_n d80_58 rfl ?_
    refine ap_get d80_59 f80_10 (by decide) rfl rfl ?_
    refine as_iload d80_62 rfl ?_
    refine ac_v1 d80_64 c80_71 (by decide) rfl (Nat.le_of_ble_eq_true rfl) (mc_isGlued X _ P mt go _ hG hC (by omega)) ?_
    refine as_if_ne 82 d80_67 (by decide) (fun c67 => ?_) (fun c67 => ?_)
    · refine an_bipushI (-3) d80_82 rfl ?_
      refine as_ireturn d80_84 (by rw [t80]; rfl) ?_
      rfl
    · refine as_aload_n d80_70 rfl ?_
      refine ap_get d80_71 f80_10 (by decide) rfl rfl ?_
      refine as_iload d80_74 rfl ?_
      refine ac_v1 d80_76 c80_71 (by decide) rfl (Nat.le_of_ble_eq_true rfl) (mc_isGlued X _ P mt go _ hG hC (by omega)) ?_
      refine as_if_eq 85 d80_79 (by decide) (fun c79 => ?_) (fun c79 => ?_)
      · exact absurd ⟨Classical.byContradiction (fun w => by rw [if_neg w] at c67; cases c67), Classical.byContradiction (fun w => by rw [if_neg w] at c79; cases c79)⟩ hgl
      · refine an_bipushI (-3) d80_82 rfl ?_
        refine as_ireturn d80_84 (by rw [t80]; rfl) ?_
        rfl
  · refine as_iload_n d80_24 rfl ?_
    refine as_iload d80_25 rfl ?_
    refine an_icmp_eq 40 d80_27 (by decide) (by omega) (by omega) (fun c27 => by omega) (fun c27 => ?_)
    skip
    refine as_iload d80_30 rfl ?_
    refine as_iload d80_32 rfl ?_
    refine ac_s2 d80_34 c80_68 (by decide) (Nat.le_of_ble_eq_true rfl) (mc_goesOntoT X _ m g hm h4 hk) ?_
    refine an_if_ne 43 d80_37 (by decide) (by omega) (fun c37 => ?_) (fun c37 => absurd c37 (by decide))
    refine an_iconst 4 d80_43 rfl ?_
    refine as_iload_n d80_44 rfl ?_
    refine an_imul d80_45 ?_
    refine as_iload_n d80_46 rfl ?_
    refine an_iadd d80_47 ?_
    refine as_istore d80_48 (by decide) ?_
    refine an_iconst 4 d80_50 rfl ?_
    refine as_iload_n d80_51 rfl ?_
    refine an_imul d80_52 ?_
    refine as_iload d80_53 rfl ?_
    refine an_iadd d80_55 ?_
    refine as_istore d80_56 (by decide) ?_
    refine as_aload_n d80_58 rfl ?_
    refine ap_get d80_59 f80_10 (by decide) rfl rfl ?_
    refine as_iload d80_62 rfl ?_
    refine ac_v1 d80_64 c80_71 (by decide) rfl (Nat.le_of_ble_eq_true rfl) (mc_isGlued X _ P mt go _ hG hC (by omega)) ?_
    refine as_if_ne 82 d80_67 (by decide) (fun c67 => ?_) (fun c67 => ?_)
    · refine an_bipushI (-3) d80_82 rfl ?_
      refine as_ireturn d80_84 (by rw [t80]; rfl) ?_
      rfl
    · refine as_aload_n d80_70 rfl ?_
      refine ap_get d80_71 f80_10 (by decide) rfl rfl ?_
      refine as_iload d80_74 rfl ?_
      refine ac_v1 d80_76 c80_71 (by decide) rfl (Nat.le_of_ble_eq_true rfl) (mc_isGlued X _ P mt go _ hG hC (by omega)) ?_
      refine as_if_eq 85 d80_79 (by decide) (fun c79 => ?_) (fun c79 => ?_)
      · exact absurd ⟨Classical.byContradiction (fun w => by rw [if_neg w] at c67; cases c67), Classical.byContradiction (fun w => by rw [if_neg w] at c79; cases c79)⟩ hgl
      · refine an_bipushI (-3) d80_82 rfl ?_
        refine as_ireturn d80_84 (by rw [t80]; rfl) ?_
        rfl
theorem mx_glueY (X : am_X) (S : MS) (P : Nat) (mt : Nat → Option Nat) (go : Nat → Nat) (p f q g : Nat) (hG : GW P mt go) (hC : CG S P mt go) (h1 : p < P) (h2 : f < 4) (h3 : q < P) (h4 : g < 4) (m : Nat) (hm : m < 64) (hk : gOk g m) (hne : ¬ (p = q ∧ f = g)) (es : mt (4 * p + f) = none) (et : mt (4 * q + g) = none) : ∃ T, MC X 80 [.ref (0), .int (nI (p)), .int (nI (f)), .int (nI (q)), .int (nI (g)), .int (nI (m))] S (some (.int (nI 1))) T ∧ New S T P (mtG mt (4 * p + f) (4 * q + g)) (goG go (4 * p + f) (4 * q + g) f g m) ∧ T.2.1 178 = S.2.1 178 := by
  have hp := hC.1
  have hP := hG.1
  have b1 := isSd_nI hP h1 h2
  have b2 := isSd_nI hP h3 h4
  have e1 : (4 * p + f) % 4 = f := by omega
  have e2 : (4 * q + g) % 4 = g := by omega
  obtain ⟨T1, a1, a2, a3⟩ := mx_fasten X S P mt go (4 * p + f) (4 * q + g) m hG hC (by omega) (by omega) (by omega) es et hm (by rw [e2]; exact hk)
  rw [e1, e2] at a3
  have hG2 := hG.glue (s := 4 * p + f) (t := 4 * q + g) (f := f) (g := g) (m := m) (by omega) (by omega) (by omega) es et e1 e2 hm hk
  obtain ⟨T2, c1, c2, c3⟩ := mx_spaceChanged X T1 P _ _ hG2 a3
  refine ⟨T2, ?_, ⟨c2.1, a2.chg.trans c2.2.1, c2.2.2⟩, c3.trans (a2.1 178 (by decide) (by decide))⟩
  refine MC.of (Nat.le_of_ble_eq_true rfl) ?_
  refine as_aload_n d80_0 rfl ?_
  refine as_iload_n d80_1 rfl ?_
  refine as_iload_n d80_2 rfl ?_
  refine ac_v2 d80_3 c80_64 (by decide) rfl (Nat.le_of_ble_eq_true rfl) (mc_hasSide X _ P hp _ _) ?_
  refine as_if_eq 40 d80_6 (by decide) (fun c6 => absurd b1 (am_b01.mp c6)) (fun c6 => ?_)
  refine as_aload_n d80_9 rfl ?_
  refine as_iload_n d80_10 rfl ?_
  refine as_iload d80_11 rfl ?_
  refine ac_v2 d80_13 c80_64 (by decide) rfl (Nat.le_of_ble_eq_true rfl) (mc_hasSide X _ P hp _ _) ?_
  refine as_if_eq 40 d80_16 (by decide) (fun c16 => absurd b2 (am_b01.mp c16)) (fun c16 => ?_)
  refine as_iload_n d80_19 rfl ?_
  refine as_iload_n d80_20 rfl ?_
  refine an_icmp_ne 30 d80_21 (by decide) (by omega) (by omega) (fun c21 => ?_) (fun c21 => ?_)
  · skip
    refine as_iload d80_30 rfl ?_
    refine as_iload d80_32 rfl ?_
    refine ac_s2 d80_34 c80_68 (by decide) (Nat.le_of_ble_eq_true rfl) (mc_goesOntoT X _ m g hm h4 hk) ?_
    refine an_if_ne 43 d80_37 (by decide) (by omega) (fun c37 => ?_) (fun c37 => absurd c37 (by decide))
    refine an_iconst 4 d80_43 rfl ?_
    refine as_iload_n d80_44 rfl ?_
    refine an_imul d80_45 ?_
    refine as_iload_n d80_46 rfl ?_
    refine an_iadd d80_47 ?_
    refine as_istore d80_48 (by decide) ?_
    refine an_iconst 4 d80_50 rfl ?_
    refine as_iload_n d80_51 rfl ?_
    refine an_imul d80_52 ?_
    refine as_iload d80_53 rfl ?_
    refine an_iadd d80_55 ?_
    refine as_istore d80_56 (by decide) ?_
    refine as_aload_n d80_58 rfl ?_
    refine ap_get d80_59 f80_10 (by decide) rfl rfl ?_
    refine as_iload d80_62 rfl ?_
    refine ac_v1 d80_64 c80_71 (by decide) rfl (Nat.le_of_ble_eq_true rfl) (mc_isGlued X _ P mt go _ hG hC (by omega)) ?_
    refine as_if_ne 82 d80_67 (by decide) (fun c67 => absurd (by rw [if_pos es]) c67) (fun c67 => ?_)
    refine as_aload_n d80_70 rfl ?_
    refine ap_get d80_71 f80_10 (by decide) rfl rfl ?_
    refine as_iload d80_74 rfl ?_
    refine ac_v1 d80_76 c80_71 (by decide) rfl (Nat.le_of_ble_eq_true rfl) (mc_isGlued X _ P mt go _ hG hC (by omega)) ?_
    refine as_if_eq 85 d80_79 (by decide) (fun c79 => ?_) (fun c79 => absurd (by rw [if_pos et]) c79)
    refine as_aload_n d80_85 rfl ?_
    refine ap_get d80_86 f80_10 (by decide) rfl rfl ?_
    refine as_iload d80_89 rfl ?_
    refine as_iload d80_91 rfl ?_
    refine as_iload d80_93 rfl ?_
    refine ac_v3 d80_95 c80_75 (by decide) rfl (Nat.le_of_ble_eq_true rfl) (a1) ?_
    refine as_aload_n d80_98 rfl ?_
    refine ac_v0 d80_99 c80_61 (by decide) rfl (Nat.le_of_ble_eq_true rfl) (c1) ?_
    refine an_iconst 1 d80_102 rfl ?_
    refine as_ireturn d80_103 (by rw [t80]; rfl) ?_
    rfl
  · refine as_iload_n d80_24 rfl ?_
    refine as_iload d80_25 rfl ?_
    refine an_icmp_eq 40 d80_27 (by decide) (by omega) (by omega) (fun c27 => by omega) (fun c27 => ?_)
    skip
    refine as_iload d80_30 rfl ?_
    refine as_iload d80_32 rfl ?_
    refine ac_s2 d80_34 c80_68 (by decide) (Nat.le_of_ble_eq_true rfl) (mc_goesOntoT X _ m g hm h4 hk) ?_
    refine an_if_ne 43 d80_37 (by decide) (by omega) (fun c37 => ?_) (fun c37 => absurd c37 (by decide))
    refine an_iconst 4 d80_43 rfl ?_
    refine as_iload_n d80_44 rfl ?_
    refine an_imul d80_45 ?_
    refine as_iload_n d80_46 rfl ?_
    refine an_iadd d80_47 ?_
    refine as_istore d80_48 (by decide) ?_
    refine an_iconst 4 d80_50 rfl ?_
    refine as_iload_n d80_51 rfl ?_
    refine an_imul d80_52 ?_
    refine as_iload d80_53 rfl ?_
    refine an_iadd d80_55 ?_
    refine as_istore d80_56 (by decide) ?_
    refine as_aload_n d80_58 rfl ?_
    refine ap_get d80_59 f80_10 (by decide) rfl rfl ?_
    refine as_iload d80_62 rfl ?_
    refine ac_v1 d80_64 c80_71 (by decide) rfl (Nat.le_of_ble_eq_true rfl) (mc_isGlued X _ P mt go _ hG hC (by omega)) ?_
    refine as_if_ne 82 d80_67 (by decide) (fun c67 => absurd (by rw [if_pos es]) c67) (fun c67 => ?_)
    refine as_aload_n d80_70 rfl ?_
    refine ap_get d80_71 f80_10 (by decide) rfl rfl ?_
    refine as_iload d80_74 rfl ?_
    refine ac_v1 d80_76 c80_71 (by decide) rfl (Nat.le_of_ble_eq_true rfl) (mc_isGlued X _ P mt go _ hG hC (by omega)) ?_
    refine as_if_eq 85 d80_79 (by decide) (fun c79 => ?_) (fun c79 => absurd (by rw [if_pos et]) c79)
    refine as_aload_n d80_85 rfl ?_
    refine ap_get d80_86 f80_10 (by decide) rfl rfl ?_
    refine as_iload d80_89 rfl ?_
    refine as_iload d80_91 rfl ?_
    refine as_iload d80_93 rfl ?_
    refine ac_v3 d80_95 c80_75 (by decide) rfl (Nat.le_of_ble_eq_true rfl) (a1) ?_
    refine as_aload_n d80_98 rfl ?_
    refine ac_v0 d80_99 c80_61 (by decide) rfl (Nat.le_of_ble_eq_true rfl) (c1) ?_
    refine an_iconst 1 d80_102 rfl ?_
    refine as_ireturn d80_103 (by rw [t80]; rfl) ?_
    rfl
theorem mc_opB (X : am_X) (S : MS) (P : Nat) (mt : Nat → Option Nat) (go : Nat → Nat) (hC : CG S P mt go) (p f : Int32) (h : ¬ isSd P p f) : MC X 81 [.ref (0), .int (p), .int (f)] S (some (.int (-2))) S := by
  have hp := hC.1
  refine MC.of (Nat.le_of_ble_eq_true rfl) ?_
  refine as_aload_n d81_0 rfl ?_
  refine as_iload_n d81_1 rfl ?_
  refine as_iload_n d81_2 rfl ?_
  refine ac_v2 d81_3 c81_64 (by decide) rfl (Nat.le_of_ble_eq_true rfl) (mc_hasSide X _ P hp _ _) ?_
  refine as_if_ne 12 d81_6 (by decide) (fun c6 => absurd (am_b1 c6) h) (fun c6 => ?_)
  refine an_bipushI (-2) d81_9 rfl ?_
  refine as_ireturn d81_11 (by rw [t81]; rfl) ?_
  rfl
theorem mc_opN (X : am_X) (S : MS) (P : Nat) (mt : Nat → Option Nat) (go : Nat → Nat) (p f : Nat) (hG : GW P mt go) (hC : CG S P mt go) (h1 : p < P) (h2 : f < 4) (e0 : mt (4 * p + f) = none) : MC X 81 [.ref (0), .int (nI (p)), .int (nI (f))] S (some (.int (-3))) S := by
  have hp := hC.1
  have hP := hG.1
  have b1 := isSd_nI hP h1 h2
  refine MC.of (Nat.le_of_ble_eq_true rfl) ?_
  refine as_aload_n d81_0 rfl ?_
  refine as_iload_n d81_1 rfl ?_
  refine as_iload_n d81_2 rfl ?_
  refine ac_v2 d81_3 c81_64 (by decide) rfl (Nat.le_of_ble_eq_true rfl) (mc_hasSide X _ P hp _ _) ?_
  refine as_if_ne 12 d81_6 (by decide) (fun c6 => ?_) (fun c6 => absurd b1 (am_b01.mp c6))
  refine an_iconst 4 d81_12 rfl ?_
  refine as_iload_n d81_13 rfl ?_
  refine an_imul d81_14 ?_
  refine as_iload_n d81_15 rfl ?_
  refine an_iadd d81_16 ?_
  refine as_istore_n d81_17 (by decide) ?_
  refine as_aload_n d81_18 rfl ?_
  refine ap_get d81_19 f81_10 (by decide) rfl rfl ?_
  refine as_iload_n d81_22 rfl ?_
  refine ac_v1 d81_23 c81_71 (by decide) rfl (Nat.le_of_ble_eq_true rfl) (mc_isGlued X _ P mt go _ hG hC (by omega)) ?_
  refine as_if_ne 32 d81_26 (by decide) (fun c26 => absurd (by rw [if_pos e0]) c26) (fun c26 => ?_)
  refine an_bipushI (-3) d81_29 rfl ?_
  refine as_ireturn d81_31 (by rw [t81]; rfl) ?_
  rfl
theorem mx_opY (X : am_X) (S : MS) (P : Nat) (mt : Nat → Option Nat) (go : Nat → Nat) (p f : Nat) (hG : GW P mt go) (hC : CG S P mt go) (h1 : p < P) (h2 : f < 4) (t : Nat) (e0 : mt (4 * p + f) = some t) : ∃ T, MC X 81 [.ref (0), .int (nI (p)), .int (nI (f))] S (some (.int (nI 1))) T ∧ New S T P (mtO mt (4 * p + f) t) go ∧ T.2.1 178 = S.2.1 178 := by
  have hp := hC.1
  have hP := hG.1
  have b1 := isSd_nI hP h1 h2
  obtain ⟨T1, a1, a2, a3⟩ := mx_loosen X S P mt go (4 * p + f) t hG hC (by omega) e0
  obtain ⟨T2, c1, c2, c3⟩ := mx_spaceChanged X T1 P _ _ (hG.opn (by omega) e0) a3
  refine ⟨T2, ?_, ⟨c2.1, a2.chg.trans c2.2.1, c2.2.2⟩, c3.trans (a2.1 178 (by decide) (by decide))⟩
  refine MC.of (Nat.le_of_ble_eq_true rfl) ?_
  refine as_aload_n d81_0 rfl ?_
  refine as_iload_n d81_1 rfl ?_
  refine as_iload_n d81_2 rfl ?_
  refine ac_v2 d81_3 c81_64 (by decide) rfl (Nat.le_of_ble_eq_true rfl) (mc_hasSide X _ P hp _ _) ?_
  refine as_if_ne 12 d81_6 (by decide) (fun c6 => ?_) (fun c6 => absurd b1 (am_b01.mp c6))
  refine an_iconst 4 d81_12 rfl ?_
  refine as_iload_n d81_13 rfl ?_
  refine an_imul d81_14 ?_
  refine as_iload_n d81_15 rfl ?_
  refine an_iadd d81_16 ?_
  refine as_istore_n d81_17 (by decide) ?_
  refine as_aload_n d81_18 rfl ?_
  refine ap_get d81_19 f81_10 (by decide) rfl rfl ?_
  refine as_iload_n d81_22 rfl ?_
  refine ac_v1 d81_23 c81_71 (by decide) rfl (Nat.le_of_ble_eq_true rfl) (mc_isGlued X _ P mt go _ hG hC (by omega)) ?_
  refine as_if_ne 32 d81_26 (by decide) (fun c26 => ?_) (fun c26 => absurd c26 (by rw [e0]; exact fun w => by cases w))
  refine as_aload_n d81_32 rfl ?_
  refine ap_get d81_33 f81_10 (by decide) rfl rfl ?_
  refine as_iload_n d81_36 rfl ?_
  refine ac_v1 d81_37 c81_79 (by decide) rfl (Nat.le_of_ble_eq_true rfl) (a1) ?_
  refine as_aload_n d81_40 rfl ?_
  refine ac_v0 d81_41 c81_61 (by decide) rfl (Nat.le_of_ble_eq_true rfl) (c1) ?_
  refine an_iconst 1 d81_44 rfl ?_
  refine as_ireturn d81_45 (by rw [t81]; rfl) ?_
  rfl
