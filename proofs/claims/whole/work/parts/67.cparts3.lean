/-! the class: parts, part -/
section AR3
variable {X : am_X} {mi : Nat} {pc : Nat} {L : am_L} {st : List Value} {n : Nat} {h : am_H} {k j : Nat} {Q : am_R → Prop} {S : MS}
theorem as_lsw {d o : Int} {ps : Array (Int × Int)} {len : Nat} {x : Int32} (t : Nat) (hd : decode (am_code mi) pc = .ok (.lookupswitch d ps, len)) (ho : Op.lookupswitch.offset ps.toList d x.toInt = o) (hs : ((ps.toList.zip (ps.toList.drop 1)).all (fun (a, next) => a.1 < next.1)) = true) (ht : (t : Int) = pc + o) (kk : AW X mi (t, L, st, n, h, k, j) Q) : AW X mi (pc, L, .int x :: st, n, h, k, j) Q := by
  refine AW.step (fun call => ?_) kk
  have h1 : (0 : Int) ≤ pc + o := by omega
  have h2 : ((pc : Int) + o).toNat = t := by omega
  unfold am_step
  dsimp only
  rw [hd]
  dsimp only
  rw [if_pos (show am_len (Instr.lookupswitch d ps) = 0 ∨ _ from Or.inl rfl)]
  show (if ((ps.toList.zip (ps.toList.drop 1)).all (fun (a, next) => a.1 < next.1)) = true then am_jmp pc (Op.lookupswitch.offset ps.toList d x.toInt) L st n h k j else none) = _
  rw [if_pos hs, ho]
  unfold am_jmp am_go
  rw [if_pos h1, h2]
end AR3
/-- the parts are built -/
def PB (T : MS) (P : Nat) (mt : Nat → Option Nat) (go : Nat → Nat) (sh : Nat → Nat) : Prop := GS T 180 (fsum sh 21) (PJ P mt go sh) ∧ ∀ k, k < (cnt (fs (PJ P mt go sh)) (fsum sh 21)) → T.2.1 187 k = nI (cnt (coB (PJ P mt go sh) k) (fsum sh 21)) ∧ T.2.1 188 k = nI (cnt (coB (PJ P mt go sh) k) (fsum sh 21)) - nI (fsum (caO (PJ P mt go sh) mt sh k) (4 * P)) + nI (fsum (fun m => if fs (EJ P mt go) m = true then fsum (cpI (PJ P mt go sh) sh k m) 7 else 0) (6 * P))
theorem mx_buildP (X : am_X) (S : MS) (P : Nat) (mt : Nat → Option Nat) (go : Nat → Nat) (sh : Nat → Nat) (hG : GW P mt go) (hD : SD S P mt go) (hS : SHC S sh) (hFt : Fits P mt go sh) (hz : fsum sh 21 = fsum sh (7 * P)) (hN : fsum sh 21 ≤ 400) : ∃ T, MC X 35 [.ref (179), .ref (1), .ref (178)] S none T ∧ pcKeep S T ∧ PB T P mt go sh := by
  have hP := hG.1
  obtain ⟨T1, a1, a2, a3⟩ := mx_numberCuts X S sh hS hN
  obtain ⟨T2, b1, b2, b3⟩ := mx_start180 X T1 (fsum sh 21) hN
  have k2 := a2.trans b2.pc
  have u0 : UG T2 180 (fsum sh 21) (pjR P mt go sh 0 0 0) := UG.zero b3 (fun x y b ⟨s, c, i, h, _⟩ => by omega)
  have f2 : PFC T2 sh := a3.keep (b2.1 186 (by omega))
  have key := MX.mc (X := X) (mj := 35) (as := [.ref (179), .ref (1), .ref (178)]) (S := S) (Post := fun v T => v = none ∧ pcKeep S T ∧ PB T P mt go sh) ?_
  · obtain ⟨v, T, g1, g2, g3⟩ := key
    subst g2
    exact ⟨T, g1, g3⟩
  refine MX.of (Nat.le_of_ble_eq_true rfl) ?_
  refine as_aload_n d35_0 rfl ?_
  refine as_aload_n d35_1 rfl ?_
  refine ac_v1 d35_2 c35_30 (by decide) rfl (Nat.le_of_ble_eq_true rfl) (a1) ?_
  refine as_istore_n d35_5 (by decide) ?_
  refine as_aload_n d35_6 rfl ?_
  refine ap_get d35_7 f35_14 (by decide) rfl rfl ?_
  refine as_iload_n d35_10 rfl ?_
  refine ac_v1 d35_11 c35_34 (by decide) rfl (Nat.le_of_ble_eq_true rfl) (b1) ?_
  refine an_iconst 0 d35_14 rfl ?_
  refine as_istore d35_15 (by decide) ?_
  refine AW.loc [(0, .ref (179)), (1, .ref (1)), (2, .ref (178)), (3, .int (nI ((fsum sh 21)))), (4, .int (nI (0)))] (am_pick [2, 3, 4, 1, 0] rfl rfl) ?_
  refine aw_fromE (fun s T => ((17, [(0, .ref (179)), (1, .ref (1)), (2, .ref (178)), (3, .int (nI ((fsum sh 21)))), (4, .int (nI (s)))], [], 208, HP (T), 0, 0) : am_Z)) (fun s T => pcKeep S T ∧ PFC T sh ∧ UG T 180 (fsum sh 21) (pjR P mt go sh (s) 0 0)) (0) (4 * P) (by omega) (T2) (rfl) (⟨k2, f2, u0⟩) (fun s T hs0 hs hI ihs => ?_) (fun T hX => ?_)
  · have hDT := hD.pc hI.1
    have hST := hS.pc hI.1
    refine as_iload d35_17 rfl ?_
    refine an_iconst 4 d35_19 rfl ?_
    refine as_aload_n d35_20 rfl ?_
    refine ap_get d35_21 f35_37 (by decide) rfl rfl ?_
    refine an_top (e' := nI (P)) (hDT.1.1) ?_
    refine an_imul d35_24 ?_
    refine an_icmp_ge 51 d35_25 (by decide) (by omega) (by omega) (fun c25 => by omega) (fun c25 => ?_)
    refine as_aload_n d35_28 rfl ?_
    refine as_iload d35_29 rfl ?_
    refine ac_v1 d35_31 c35_43 (by decide) rfl (Nat.le_of_ble_eq_true rfl) (mc_isLesser X _ P mt go _ hG hDT.1 hs) ?_
    refine as_if_eq 45 d35_34 (by decide) (fun c34 => ?_) (fun c34 => ?_)
    · have hnp := am_b01.mp c34
      refine an_iinc 1 d35_45 rfl rfl (by decide) ?_
      refine as_goto 17 d35_48 (by decide) ?_
      refine AW.loc [(0, .ref (179)), (1, .ref (1)), (2, .ref (178)), (3, .int (nI ((fsum sh 21)))), (4, .int (nI (s + 1)))] (am_pick [1, 2, 3, 4, 0] rfl rfl) ?_
      have ihs := ihs (T) (by first | exact ⟨hI.1, hI.2.1, hI.2.2.eq (pjR.no hnp)⟩ | exact ⟨hI.1.trans m2.s.pc, hI.2.1.keep (m2.1 186 (by decide) (by decide) (by decide)), m3⟩)
      exact ihs
    · obtain ⟨t, e0, hst⟩ := prN_ex (am_b1 c34)
      obtain ⟨U, m1, m2, m3⟩ := mx_joinAcross X T P mt go sh hG hDT.1 hST hFt hz hN hI.2.1 s t hs e0 hst hI.2.2
      refine as_aload_n d35_37 rfl ?_
      refine as_aload_n d35_38 rfl ?_
      refine as_aload_n d35_39 rfl ?_
      refine as_iload d35_40 rfl ?_
      refine ac_v3 d35_42 c35_47 (by decide) rfl (Nat.le_of_ble_eq_true rfl) (m1) ?_
      refine an_iinc 1 d35_45 rfl rfl (by decide) ?_
      refine as_goto 17 d35_48 (by decide) ?_
      refine AW.loc [(0, .ref (179)), (1, .ref (1)), (2, .ref (178)), (3, .int (nI ((fsum sh 21)))), (4, .int (nI (s + 1)))] (am_pick [1, 2, 3, 4, 0] rfl rfl) ?_
      have ihs := ihs (U) (by first | exact ⟨hI.1, hI.2.1, hI.2.2.eq (pjR.no hnp)⟩ | exact ⟨hI.1.trans m2.s.pc, hI.2.1.keep (m2.1 186 (by decide) (by decide) (by decide)), m3⟩)
      exact ihs
  · refine as_iload d35_17 rfl ?_
    refine an_iconst 4 d35_19 rfl ?_
    refine as_aload_n d35_20 rfl ?_
    refine ap_get d35_21 f35_37 (by decide) rfl rfl ?_
    refine an_top (e' := nI (P)) ((hD.pc hX.1).1.1) ?_
    refine an_imul d35_24 ?_
    refine an_icmp_ge 51 d35_25 (by decide) (by omega) (by omega) (fun c25 => ?_) (fun c25 => by omega)
    obtain ⟨W1, d1, d2, d3⟩ := mx_settleU180 X T (fsum sh 21) _ hN hX.2.2
    have q1 := hX.1.trans d2.pc
    obtain ⟨W2, g1, g2, g3, g4, g5⟩ := mx_countCuts X W1 P mt go sh hG (hD.pc q1) (hS.pc q1) hFt hz hN (hX.2.1.keep (d2.1 186 (by omega))) d3
    have q2 := q1.trans g2
    obtain ⟨W3, r1, ⟨r2, r3, r4, r5⟩, r6⟩ := mx_countArcs X W2 P mt go sh hG (hD.pc q2) (hS.pc q2) hFt hz hN g4 g3 _ (fun k hk => (g5 k hk).2)
    have q3 := q2.trans r2
    obtain ⟨W4, t1, ⟨t2, t3, t4, t5⟩, t6⟩ := mx_countPoints X W3 P mt go sh hG (hD.pc q3) (hS.pc q3) hFt hz hN r4 r3 _ r6
    refine as_aload_n d35_51 rfl ?_
    refine ap_get d35_52 f35_14 (by decide) rfl rfl ?_
    refine ac_v0 d35_55 c35_51 (by decide) rfl (Nat.le_of_ble_eq_true rfl) (d1) ?_
    refine as_aload_n d35_58 rfl ?_
    refine as_iload_n d35_59 rfl ?_
    refine ac_v1 d35_60 c35_54 (by decide) rfl (Nat.le_of_ble_eq_true rfl) (g1) ?_
    refine as_aload_n d35_63 rfl ?_
    refine as_aload_n d35_64 rfl ?_
    refine as_aload_n d35_65 rfl ?_
    refine ac_v2 d35_66 c35_57 (by decide) rfl (Nat.le_of_ble_eq_true rfl) (r1) ?_
    refine as_aload_n d35_69 rfl ?_
    refine as_aload_n d35_70 rfl ?_
    refine as_aload_n d35_71 rfl ?_
    refine ac_v2 d35_72 c35_61 (by decide) rfl (Nat.le_of_ble_eq_true rfl) (t1) ?_
    refine as_return d35_75 t35 ?_
    exact ⟨_, _, rfl, rfl, q3.trans t2, t3, fun k hk => ⟨by rw [t5, r5]; exact (g5 k hk).1, t6 k hk⟩⟩
def frKeep (S T : MS) : Prop := (∀ k, ¬ (180 < k ∧ k ≤ 188) → T.2.1 k = S.2.1 k) ∧ T.2.2 = S.2.2 ∧ (∀ i j, ¬ (i = 180 ∧ (j = 5 ∨ j = 6)) → ¬ (i = 0 ∧ j = 6) → T.1 i j = S.1 i j)
theorem frKeep.rf (S : MS) : frKeep S S := ⟨fun _ _ => rfl, rfl, fun _ _ _ _ => rfl⟩
theorem SD.fr {S T : MS} {P : Nat} {mt : Nat → Option Nat} {go : Nat → Nat} (h : SD S P mt go) (g : frKeep S T) : SD T P mt go := h.keep (fun k hk => g.1 k (by omega)) (fun i j h1 h2 => g.2.2 i j (by omega) (by omega))
theorem mx_freshenParts (X : am_X) (S : MS) (P : Nat) (mt : Nat → Option Nat) (go : Nat → Nat) (sh : Nat → Nat) (hG : GW P mt go) (hD : SD S P mt go) (hS : SHC S sh) (hFt : Fits P mt go sh) (hz : fsum sh 21 = fsum sh (7 * P)) (hN : fsum sh 21 ≤ 400) (hst : S.1 0 6 = nI 1 ∨ (S.1 0 6 = nI 0 ∧ PB S P mt go sh)) : ∃ T, MC X 105 [.ref (0)] S none T ∧ frKeep S T ∧ T.1 0 6 = nI 0 ∧ PB T P mt go sh := by
  rcases hst with hst | ⟨hst, hpb⟩
  · obtain ⟨T, a1, a2, a3⟩ := mx_buildP X S P mt go sh hG hD hS hFt hz hN
    refine ⟨T.sf 0 6 (nI 0), ?_, ⟨a2.1, a2.2.1, fun i j h1 h2 => by rw [sf_at, if_neg h2]; exact a2.2.2 i j h1⟩, by rw [sf_at, if_pos ⟨rfl, rfl⟩], a3.1.keep rfl rfl rfl (by rw [sf_at, if_neg (by omega)]), a3.2⟩
    refine MC.of (Nat.le_of_ble_eq_true rfl) ?_
    refine as_aload_n d105_0 rfl ?_
    refine ap_get d105_1 f105_48 (by decide) rfl rfl ?_
    refine an_top (e' := nI (1)) (hst) ?_
    refine an_if_eq 30 d105_4 (by decide) (by omega) (fun c4 => absurd c4 (by decide)) (fun c4 => ?_)
    refine as_aload_n d105_7 rfl ?_
    refine ap_get d105_8 f105_40 (by decide) rfl rfl ?_
    refine as_aload_n d105_11 rfl ?_
    refine ap_get d105_12 f105_10 (by decide) rfl rfl ?_
    refine as_aload_n d105_15 rfl ?_
    refine ap_get d105_16 f105_33 (by decide) rfl rfl ?_
    refine ap_get d105_19 f105_168 (by decide) rfl rfl ?_
    refine ac_v2 d105_22 c105_213 (by decide) rfl (Nat.le_of_ble_eq_true rfl) (a1) ?_
    refine as_aload_n d105_25 rfl ?_
    refine an_iconst 0 d105_26 rfl ?_
    refine ap_put d105_27 f105_48 (by decide) rfl (Nat.le_of_ble_eq_true rfl) (rfl) rfl rfl ?_
    refine as_return d105_30 t105 ?_
    rfl
  · refine ⟨S, ?_, frKeep.rf S, hst, hpb⟩
    refine MC.of (Nat.le_of_ble_eq_true rfl) ?_
    refine as_aload_n d105_0 rfl ?_
    refine ap_get d105_1 f105_48 (by decide) rfl rfl ?_
    refine an_top (e' := nI (0)) (hst) ?_
    refine an_if_eq 30 d105_4 (by decide) (by omega) (fun c4 => ?_) (fun c4 => absurd c4 (by decide))
    refine as_return d105_30 t105 ?_
    rfl
theorem mc_paN (X : am_X) (S : MS) (P : Nat) (mt : Nat → Option Nat) (go : Nat → Nat) (sh : Nat → Nat) (hG : GW P mt go) (hD : SD S P mt go) (hS : SHC S sh) (a b : Nat) (ha : FiA P mt go sh a) (hb : MxA sh b) (hl : ¬ (a = 1 ∧ b = 0)) : MC X 96 [.ref (0)] S (some (.int (-3))) S := by
  refine MC.of (Nat.le_of_ble_eq_true rfl) ?_
  refine as_aload_n d96_0 rfl ?_
  refine ap_get d96_1 f96_33 (by decide) rfl rfl ?_
  refine as_aload_n d96_4 rfl ?_
  refine ap_get d96_5 f96_10 (by decide) rfl rfl ?_
  refine ac_v1 d96_8 c96_188 (by decide) rfl (Nat.le_of_ble_eq_true rfl) (mc_isLegalC X _ P mt go sh hG hD.1 hS a b ha hb) ?_
  refine as_if_ne 17 d96_11 (by decide) (fun c11 => absurd (am_b1 c11) hl) (fun c11 => ?_)
  refine an_bipushI (-3) d96_14 rfl ?_
  refine as_ireturn d96_16 (by rw [t96]; rfl) ?_
  rfl
theorem mc_paF (X : am_X) (S : MS) (P : Nat) (mt : Nat → Option Nat) (go : Nat → Nat) (sh : Nat → Nat) (hG : GW P mt go) (hD : SD S P mt go) (hS : SHC S sh) (a b : Nat) (ha : FiA P mt go sh a) (hb : MxA sh b) (hl : a = 1 ∧ b = 0) (hN : 400 < (fsum sh 21)) : MC X 96 [.ref (0)] S (some (.int (-4))) S := by
  have hcb : fsum sh 21 ≤ 1000 * 21 := fsum_le 21 (fun i hi => (hS i hi).2)
  refine MC.of (Nat.le_of_ble_eq_true rfl) ?_
  refine as_aload_n d96_0 rfl ?_
  refine ap_get d96_1 f96_33 (by decide) rfl rfl ?_
  refine as_aload_n d96_4 rfl ?_
  refine ap_get d96_5 f96_10 (by decide) rfl rfl ?_
  refine ac_v1 d96_8 c96_188 (by decide) rfl (Nat.le_of_ble_eq_true rfl) (mc_isLegalC X _ P mt go sh hG hD.1 hS a b ha hb) ?_
  refine as_if_ne 17 d96_11 (by decide) (fun c11 => ?_) (fun c11 => absurd hl (am_b01.mp c11))
  refine as_aload_n d96_17 rfl ?_
  refine ap_get d96_18 f96_33 (by decide) rfl rfl ?_
  refine ac_v0 d96_21 c96_194 (by decide) rfl (Nat.le_of_ble_eq_true rfl) (mc_cutCount X _ sh hS) ?_
  refine an_sipush 400 d96_24 rfl ?_
  refine an_icmp_le 33 d96_27 (by decide) (by omega) (by omega) (fun c27 => by omega) (fun c27 => ?_)
  refine an_bipushI (-4) d96_30 rfl ?_
  refine as_ireturn d96_32 (by rw [t96]; rfl) ?_
  rfl
theorem mx_paY (X : am_X) (S : MS) (P : Nat) (mt : Nat → Option Nat) (go : Nat → Nat) (sh : Nat → Nat) (hG : GW P mt go) (hD : SD S P mt go) (hS : SHC S sh) (a b : Nat) (ha : FiA P mt go sh a) (hb : MxA sh b) (hl : a = 1 ∧ b = 0) (hFt : Fits P mt go sh) (hz : fsum sh 21 = fsum sh (7 * P)) (hN : fsum sh 21 ≤ 400) (hst : S.1 0 6 = nI 1 ∨ (S.1 0 6 = nI 0 ∧ PB S P mt go sh)) : ∃ T, MC X 96 [.ref (0)] S (some (.int (nI (cnt (fs (PJ P mt go sh)) (fsum sh 21))))) T ∧ frKeep S T ∧ T.1 0 6 = nI 0 ∧ PB T P mt go sh := by
  obtain ⟨T, m1, m2, m3, m4⟩ := mx_freshenParts X S P mt go sh hG hD hS hFt hz hN hst
  refine ⟨T, ?_, m2, m3, m4⟩
  refine MC.of (Nat.le_of_ble_eq_true rfl) ?_
  refine as_aload_n d96_0 rfl ?_
  refine ap_get d96_1 f96_33 (by decide) rfl rfl ?_
  refine as_aload_n d96_4 rfl ?_
  refine ap_get d96_5 f96_10 (by decide) rfl rfl ?_
  refine ac_v1 d96_8 c96_188 (by decide) rfl (Nat.le_of_ble_eq_true rfl) (mc_isLegalC X _ P mt go sh hG hD.1 hS a b ha hb) ?_
  refine as_if_ne 17 d96_11 (by decide) (fun c11 => ?_) (fun c11 => absurd hl (am_b01.mp c11))
  refine as_aload_n d96_17 rfl ?_
  refine ap_get d96_18 f96_33 (by decide) rfl rfl ?_
  refine ac_v0 d96_21 c96_194 (by decide) rfl (Nat.le_of_ble_eq_true rfl) (mc_cutCount X _ sh hS) ?_
  refine an_sipush 400 d96_24 rfl ?_
  refine an_icmp_le 33 d96_27 (by decide) (by omega) (by omega) (fun c27 => ?_) (fun c27 => by omega)
  refine as_aload_n d96_33 rfl ?_
  refine ac_v0 d96_34 c96_197 (by decide) rfl (Nat.le_of_ble_eq_true rfl) (m1) ?_
  refine as_aload_n d96_37 rfl ?_
  refine ap_get d96_38 f96_40 (by decide) rfl rfl ?_
  refine ap_get d96_41 f96_200 (by decide) rfl rfl ?_
  refine ap_get d96_44 f96_105 (by decide) rfl rfl ?_
  refine an_top (e' := nI ((cnt (fs (PJ P mt go sh)) (fsum sh 21)))) (m4.1.1) ?_
  refine as_ireturn d96_47 (by rw [t96]; rfl) ?_
  rfl
theorem mc_ptB (X : am_X) (S : MS) (P : Nat) (mt : Nat → Option Nat) (go : Nat → Nat) (sh : Nat → Nat) (hG : GW P mt go) (hD : SD S P mt go) (hS : SHC S sh) (a b : Nat) (ha : FiA P mt go sh a) (hb : MxA sh b) (k w : Int32) (h : ¬ (0 ≤ k ∧ whOk w ∧ (a = 1 ∧ b = 0) ∧ (fsum sh 21) ≤ 400)) : MC X 97 [.ref (0), .int (k), .int (w)] S (some (.int (-2147483648))) S := by
  have hcb : fsum sh 21 ≤ 1000 * 21 := fsum_le 21 (fun i hi => (hS i hi).2)
  refine MC.of (Nat.le_of_ble_eq_true rfl) ?_
  refine as_iload_n d97_0 rfl ?_
  refine as_if_lt 13 d97_1 (by decide) (fun c1 => ?_) (fun c1 => ?_)
  · refine as_ldc (v := (-2147483648)) d97_13 (by decide +kernel) ?_
    refine as_ireturn d97_15 (by rw [t97]; rfl) ?_
    rfl
  · refine as_iload_n d97_4 rfl ?_
    refine as_if_lt 13 d97_5 (by decide) (fun c5 => ?_) (fun c5 => ?_)
    · refine as_ldc (v := (-2147483648)) d97_13 (by decide +kernel) ?_
      refine as_ireturn d97_15 (by rw [t97]; rfl) ?_
      rfl
    · refine as_iload_n d97_8 rfl ?_
      refine an_iconst 2 d97_9 rfl ?_
      refine as_icmp_le 16 d97_10 (by decide) (fun c10 => ?_) (fun c10 => ?_)
      · refine as_aload_n d97_16 rfl ?_
        refine ap_get d97_17 f97_33 (by decide) rfl rfl ?_
        refine as_aload_n d97_20 rfl ?_
        refine ap_get d97_21 f97_10 (by decide) rfl rfl ?_
        refine ac_v1 d97_24 c97_188 (by decide) rfl (Nat.le_of_ble_eq_true rfl) (mc_isLegalC X _ P mt go sh hG hD.1 hS a b ha hb) ?_
        refine as_if_eq 43 d97_27 (by decide) (fun c27 => ?_) (fun c27 => ?_)
        · refine as_ldc (v := (-2147483648)) d97_43 (by decide +kernel) ?_
          refine as_ireturn d97_45 (by rw [t97]; rfl) ?_
          rfl
        · refine as_aload_n d97_30 rfl ?_
          refine ap_get d97_31 f97_33 (by decide) rfl rfl ?_
          refine ac_v0 d97_34 c97_194 (by decide) rfl (Nat.le_of_ble_eq_true rfl) (mc_cutCount X _ sh hS) ?_
          refine an_sipush 400 d97_37 rfl ?_
          refine an_icmp_le 46 d97_40 (by decide) (by omega) (by omega) (fun c40 => absurd ⟨i32_le c1, ⟨i32_le c5, c10⟩, am_b1 c27, c40⟩ h) (fun c40 => ?_)
          refine as_ldc (v := (-2147483648)) d97_43 (by decide +kernel) ?_
          refine as_ireturn d97_45 (by rw [t97]; rfl) ?_
          rfl
      · refine as_ldc (v := (-2147483648)) d97_13 (by decide +kernel) ?_
        refine as_ireturn d97_15 (by rw [t97]; rfl) ?_
        rfl
theorem mx_ptO (X : am_X) (S : MS) (P : Nat) (mt : Nat → Option Nat) (go : Nat → Nat) (sh : Nat → Nat) (hG : GW P mt go) (hD : SD S P mt go) (hS : SHC S sh) (a b : Nat) (ha : FiA P mt go sh a) (hb : MxA sh b) (hl : a = 1 ∧ b = 0) (hFt : Fits P mt go sh) (hz : fsum sh 21 = fsum sh (7 * P)) (hN : fsum sh 21 ≤ 400) (hst : S.1 0 6 = nI 1 ∨ (S.1 0 6 = nI 0 ∧ PB S P mt go sh)) (k : Int32) (w : Nat) (hw : w < 3) (hk0 : 0 ≤ k) (hk : ¬ inR (cnt (fs (PJ P mt go sh)) (fsum sh 21)) k) : ∃ T, MC X 97 [.ref (0), .int (k), .int (nI (w))] S (some (.int (-2147483648))) T ∧ frKeep S T ∧ T.1 0 6 = nI 0 ∧ PB T P mt go sh := by
  obtain ⟨T, m1, m2, m3, m4⟩ := mx_freshenParts X S P mt go sh hG hD hS hFt hz hN hst
  refine ⟨T, ?_, m2, m3, m4⟩
  refine MC.of (Nat.le_of_ble_eq_true rfl) ?_
  refine as_iload_n d97_0 rfl ?_
  refine as_if_lt 13 d97_1 (by decide) (fun c1 => absurd c1 (i32_nl hk0)) (fun c1 => ?_)
  refine as_iload_n d97_4 rfl ?_
  refine as_if_lt 13 d97_5 (by decide) (fun c5 => absurd c5 (nI_pos (by omega))) (fun c5 => ?_)
  refine as_iload_n d97_8 rfl ?_
  refine an_iconst 2 d97_9 rfl ?_
  refine an_icmp_le 16 d97_10 (by decide) (by omega) (by omega) (fun c10 => ?_) (fun c10 => by omega)
  refine as_aload_n d97_16 rfl ?_
  refine ap_get d97_17 f97_33 (by decide) rfl rfl ?_
  refine as_aload_n d97_20 rfl ?_
  refine ap_get d97_21 f97_10 (by decide) rfl rfl ?_
  refine ac_v1 d97_24 c97_188 (by decide) rfl (Nat.le_of_ble_eq_true rfl) (mc_isLegalC X _ P mt go sh hG hD.1 hS a b ha hb) ?_
  refine as_if_eq 43 d97_27 (by decide) (fun c27 => absurd hl (am_b01.mp c27)) (fun c27 => ?_)
  refine as_aload_n d97_30 rfl ?_
  refine ap_get d97_31 f97_33 (by decide) rfl rfl ?_
  refine ac_v0 d97_34 c97_194 (by decide) rfl (Nat.le_of_ble_eq_true rfl) (mc_cutCount X _ sh hS) ?_
  refine an_sipush 400 d97_37 rfl ?_
  refine an_icmp_le 46 d97_40 (by decide) (by omega) (by omega) (fun c40 => ?_) (fun c40 => by omega)
  refine as_aload_n d97_46 rfl ?_
  refine ac_v0 d97_47 c97_197 (by decide) rfl (Nat.le_of_ble_eq_true rfl) (m1) ?_
  refine as_iload_n d97_50 rfl ?_
  refine as_aload_n d97_51 rfl ?_
  refine ap_get d97_52 f97_40 (by decide) rfl rfl ?_
  refine ap_get d97_55 f97_200 (by decide) rfl rfl ?_
  refine ap_get d97_58 f97_105 (by decide) rfl rfl ?_
  refine an_top (e' := nI ((cnt (fs (PJ P mt go sh)) (fsum sh 21)))) (m4.1.1) ?_
  refine as_icmp_lt 67 d97_61 (by decide) (fun c61 => absurd ⟨hk0, c61⟩ hk) (fun c61 => ?_)
  refine as_ldc (v := (-2147483648)) d97_64 (by decide +kernel) ?_
  refine as_ireturn d97_66 (by rw [t97]; rfl) ?_
  rfl
def ptK (P : Nat) (mt : Nat → Option Nat) (go : Nat → Nat) (sh : Nat → Nat) (k w : Nat) (r : Int32) : Prop := (w = 0 ∧ r = nI (cnt (coB (PJ P mt go sh) k) (fsum sh 21))) ∨ (w = 1 ∧ r = nI (cnt (coB (PJ P mt go sh) k) (fsum sh 21)) - nI (fsum (caO (PJ P mt go sh) mt sh k) (4 * P)) + nI (fsum (fun m => if fs (EJ P mt go) m = true then fsum (cpI (PJ P mt go sh) sh k m) 7 else 0) (6 * P))) ∨ (w = 2 ∧ ∃ m, fs (PJ P mt go sh) m = true ∧ cnt (fs (PJ P mt go sh)) m = k ∧ m < (fsum sh 21) ∧ ((Tws (PJ P mt go sh) m ∧ r = 0) ∨ (¬ Tws (PJ P mt go sh) m ∧ r = 1)))
theorem mx_ptK (X : am_X) (S : MS) (P : Nat) (mt : Nat → Option Nat) (go : Nat → Nat) (sh : Nat → Nat) (hG : GW P mt go) (hD : SD S P mt go) (hS : SHC S sh) (a b : Nat) (ha : FiA P mt go sh a) (hb : MxA sh b) (hl : a = 1 ∧ b = 0) (hFt : Fits P mt go sh) (hz : fsum sh 21 = fsum sh (7 * P)) (hN : fsum sh 21 ≤ 400) (hst : S.1 0 6 = nI 1 ∨ (S.1 0 6 = nI 0 ∧ PB S P mt go sh)) (k w : Nat) (hw : w < 3) (hk : k < (cnt (fs (PJ P mt go sh)) (fsum sh 21))) : ∃ T r, MC X 97 [.ref (0), .int (nI (k)), .int (nI (w))] S (some (.int r)) T ∧ frKeep S T ∧ T.1 0 6 = nI 0 ∧ PB T P mt go sh ∧ ptK P mt go sh k w r := by
  obtain ⟨T, m1, m2, m3, m4⟩ := mx_freshenParts X S P mt go sh hG hD hS hFt hz hN hst
  have hcl := cnt_le (fs (PJ P mt go sh)) (fsum sh 21)
  have hk0 : (0 : Int32) ≤ nI k := nI_pos' (by omega)
  obtain ⟨m, w1, w2, w3⟩ := cnt_find (fsum sh 21) k hk
  have hm := (m4.1.2.2 m w1 w2).2
  rcases (show w = 0 ∨ w = 1 ∨ w = 2 by omega) with rfl | rfl | rfl
  · refine ⟨T, _, ?_, m2, m3, m4, Or.inl ⟨rfl, rfl⟩⟩
    refine MC.of (Nat.le_of_ble_eq_true rfl) ?_
    refine as_iload_n d97_0 rfl ?_
    refine as_if_lt 13 d97_1 (by decide) (fun c1 => absurd c1 (i32_nl hk0)) (fun c1 => ?_)
    refine as_iload_n d97_4 rfl ?_
    refine as_if_lt 13 d97_5 (by decide) (fun c5 => absurd c5 (nI_pos (by omega))) (fun c5 => ?_)
    refine as_iload_n d97_8 rfl ?_
    refine an_iconst 2 d97_9 rfl ?_
    refine an_icmp_le 16 d97_10 (by decide) (by omega) (by omega) (fun c10 => ?_) (fun c10 => by omega)
    refine as_aload_n d97_16 rfl ?_
    refine ap_get d97_17 f97_33 (by decide) rfl rfl ?_
    refine as_aload_n d97_20 rfl ?_
    refine ap_get d97_21 f97_10 (by decide) rfl rfl ?_
    refine ac_v1 d97_24 c97_188 (by decide) rfl (Nat.le_of_ble_eq_true rfl) (mc_isLegalC X _ P mt go sh hG hD.1 hS a b ha hb) ?_
    refine as_if_eq 43 d97_27 (by decide) (fun c27 => absurd hl (am_b01.mp c27)) (fun c27 => ?_)
    refine as_aload_n d97_30 rfl ?_
    refine ap_get d97_31 f97_33 (by decide) rfl rfl ?_
    refine ac_v0 d97_34 c97_194 (by decide) rfl (Nat.le_of_ble_eq_true rfl) (mc_cutCount X _ sh hS) ?_
    refine an_sipush 400 d97_37 rfl ?_
    refine an_icmp_le 46 d97_40 (by decide) (by omega) (by omega) (fun c40 => ?_) (fun c40 => by omega)
    refine as_aload_n d97_46 rfl ?_
    refine ac_v0 d97_47 c97_197 (by decide) rfl (Nat.le_of_ble_eq_true rfl) (m1) ?_
    refine as_iload_n d97_50 rfl ?_
    refine as_aload_n d97_51 rfl ?_
    refine ap_get d97_52 f97_40 (by decide) rfl rfl ?_
    refine ap_get d97_55 f97_200 (by decide) rfl rfl ?_
    refine ap_get d97_58 f97_105 (by decide) rfl rfl ?_
    refine an_top (e' := nI ((cnt (fs (PJ P mt go sh)) (fsum sh 21)))) (m4.1.1) ?_
    refine an_icmp_lt 67 d97_61 (by decide) (by omega) (by omega) (fun c61 => ?_) (fun c61 => by omega)
    refine as_iload_n d97_67 rfl ?_
    refine as_lsw (o := 28) 96 d97_68 (by decide) (by decide) (by decide) ?_
    refine as_aload_n d97_96 rfl ?_
    refine ap_get d97_97 f97_40 (by decide) rfl rfl ?_
    refine ap_get d97_100 f97_203 (by decide) rfl rfl ?_
    refine as_iload_n d97_103 rfl ?_
    refine ap_iald d97_104 (fun _ _ _ _ => rfl) (by decide) (by omega) (by decide) ?_
    refine an_top (e' := nI (cnt (coB (PJ P mt go sh) k) (fsum sh 21))) ((m4.2 k hk).1) ?_
    refine as_ireturn d97_105 (by rw [t97]; rfl) ?_
    rfl
  · refine ⟨T, _, ?_, m2, m3, m4, Or.inr (Or.inl ⟨rfl, rfl⟩)⟩
    refine MC.of (Nat.le_of_ble_eq_true rfl) ?_
    refine as_iload_n d97_0 rfl ?_
    refine as_if_lt 13 d97_1 (by decide) (fun c1 => absurd c1 (i32_nl hk0)) (fun c1 => ?_)
    refine as_iload_n d97_4 rfl ?_
    refine as_if_lt 13 d97_5 (by decide) (fun c5 => absurd c5 (nI_pos (by omega))) (fun c5 => ?_)
    refine as_iload_n d97_8 rfl ?_
    refine an_iconst 2 d97_9 rfl ?_
    refine an_icmp_le 16 d97_10 (by decide) (by omega) (by omega) (fun c10 => ?_) (fun c10 => by omega)
    refine as_aload_n d97_16 rfl ?_
    refine ap_get d97_17 f97_33 (by decide) rfl rfl ?_
    refine as_aload_n d97_20 rfl ?_
    refine ap_get d97_21 f97_10 (by decide) rfl rfl ?_
    refine ac_v1 d97_24 c97_188 (by decide) rfl (Nat.le_of_ble_eq_true rfl) (mc_isLegalC X _ P mt go sh hG hD.1 hS a b ha hb) ?_
    refine as_if_eq 43 d97_27 (by decide) (fun c27 => absurd hl (am_b01.mp c27)) (fun c27 => ?_)
    refine as_aload_n d97_30 rfl ?_
    refine ap_get d97_31 f97_33 (by decide) rfl rfl ?_
    refine ac_v0 d97_34 c97_194 (by decide) rfl (Nat.le_of_ble_eq_true rfl) (mc_cutCount X _ sh hS) ?_
    refine an_sipush 400 d97_37 rfl ?_
    refine an_icmp_le 46 d97_40 (by decide) (by omega) (by omega) (fun c40 => ?_) (fun c40 => by omega)
    refine as_aload_n d97_46 rfl ?_
    refine ac_v0 d97_47 c97_197 (by decide) rfl (Nat.le_of_ble_eq_true rfl) (m1) ?_
    refine as_iload_n d97_50 rfl ?_
    refine as_aload_n d97_51 rfl ?_
    refine ap_get d97_52 f97_40 (by decide) rfl rfl ?_
    refine ap_get d97_55 f97_200 (by decide) rfl rfl ?_
    refine ap_get d97_58 f97_105 (by decide) rfl rfl ?_
    refine an_top (e' := nI ((cnt (fs (PJ P mt go sh)) (fsum sh 21)))) (m4.1.1) ?_
    refine an_icmp_lt 67 d97_61 (by decide) (by omega) (by omega) (fun c61 => ?_) (fun c61 => by omega)
    refine as_iload_n d97_67 rfl ?_
    refine as_lsw (o := 38) 106 d97_68 (by decide) (by decide) (by decide) ?_
    refine as_aload_n d97_106 rfl ?_
    refine ap_get d97_107 f97_40 (by decide) rfl rfl ?_
    refine ap_get d97_110 f97_206 (by decide) rfl rfl ?_
    refine as_iload_n d97_113 rfl ?_
    refine ap_iald d97_114 (fun _ _ _ _ => rfl) (by decide) (by omega) (by decide) ?_
    refine an_top (e' := nI (cnt (coB (PJ P mt go sh) k) (fsum sh 21)) - nI (fsum (caO (PJ P mt go sh) mt sh k) (4 * P)) + nI (fsum (fun m => if fs (EJ P mt go) m = true then fsum (cpI (PJ P mt go sh) sh k m) 7 else 0) (6 * P))) ((m4.2 k hk).2) ?_
    refine as_ireturn d97_115 (by rw [t97]; rfl) ?_
    rfl
  · rcases hm with ⟨q1, q2⟩ | ⟨q1, q2⟩
    · refine ⟨T, _, ?_, m2, m3, m4, Or.inr (Or.inr ⟨rfl, m, w2, w3, w1, Or.inl ⟨q2, rfl⟩⟩)⟩
      refine MC.of (Nat.le_of_ble_eq_true rfl) ?_
      refine as_iload_n d97_0 rfl ?_
      refine as_if_lt 13 d97_1 (by decide) (fun c1 => absurd c1 (i32_nl hk0)) (fun c1 => ?_)
      refine as_iload_n d97_4 rfl ?_
      refine as_if_lt 13 d97_5 (by decide) (fun c5 => absurd c5 (nI_pos (by omega))) (fun c5 => ?_)
      refine as_iload_n d97_8 rfl ?_
      refine an_iconst 2 d97_9 rfl ?_
      refine an_icmp_le 16 d97_10 (by decide) (by omega) (by omega) (fun c10 => ?_) (fun c10 => by omega)
      refine as_aload_n d97_16 rfl ?_
      refine ap_get d97_17 f97_33 (by decide) rfl rfl ?_
      refine as_aload_n d97_20 rfl ?_
      refine ap_get d97_21 f97_10 (by decide) rfl rfl ?_
      refine ac_v1 d97_24 c97_188 (by decide) rfl (Nat.le_of_ble_eq_true rfl) (mc_isLegalC X _ P mt go sh hG hD.1 hS a b ha hb) ?_
      refine as_if_eq 43 d97_27 (by decide) (fun c27 => absurd hl (am_b01.mp c27)) (fun c27 => ?_)
      refine as_aload_n d97_30 rfl ?_
      refine ap_get d97_31 f97_33 (by decide) rfl rfl ?_
      refine ac_v0 d97_34 c97_194 (by decide) rfl (Nat.le_of_ble_eq_true rfl) (mc_cutCount X _ sh hS) ?_
      refine an_sipush 400 d97_37 rfl ?_
      refine an_icmp_le 46 d97_40 (by decide) (by omega) (by omega) (fun c40 => ?_) (fun c40 => by omega)
      refine as_aload_n d97_46 rfl ?_
      refine ac_v0 d97_47 c97_197 (by decide) rfl (Nat.le_of_ble_eq_true rfl) (m1) ?_
      refine as_iload_n d97_50 rfl ?_
      refine as_aload_n d97_51 rfl ?_
      refine ap_get d97_52 f97_40 (by decide) rfl rfl ?_
      refine ap_get d97_55 f97_200 (by decide) rfl rfl ?_
      refine ap_get d97_58 f97_105 (by decide) rfl rfl ?_
      refine an_top (e' := nI ((cnt (fs (PJ P mt go sh)) (fsum sh 21)))) (m4.1.1) ?_
      refine an_icmp_lt 67 d97_61 (by decide) (by omega) (by omega) (fun c61 => ?_) (fun c61 => by omega)
      refine as_iload_n d97_67 rfl ?_
      refine as_lsw (o := 48) 116 d97_68 (by decide) (by decide) (by decide) ?_
      refine as_aload_n d97_116 rfl ?_
      refine ap_get d97_117 f97_40 (by decide) rfl rfl ?_
      refine ap_get d97_120 f97_200 (by decide) rfl rfl ?_
      refine as_iload_n d97_123 rfl ?_
      refine ac_v1 d97_124 c97_108 (by decide) rfl (Nat.le_of_ble_eq_true rfl) (mc_clashes180 X _ (fsum sh 21) (PJ P mt go sh) hN m4.1 m k w1 w2 w3) ?_
      refine an_top (e' := nI (1)) (q1) ?_
      refine an_if_eq 134 d97_127 (by decide) (by omega) (fun c127 => absurd c127 (by decide)) (fun c127 => ?_)
      refine an_iconst 0 d97_130 rfl ?_
      refine as_goto 135 d97_131 (by decide) ?_
      refine as_ireturn d97_135 (by rw [t97]; rfl) ?_
      rfl
    · refine ⟨T, _, ?_, m2, m3, m4, Or.inr (Or.inr ⟨rfl, m, w2, w3, w1, Or.inr ⟨q2, rfl⟩⟩)⟩
      refine MC.of (Nat.le_of_ble_eq_true rfl) ?_
      refine as_iload_n d97_0 rfl ?_
      refine as_if_lt 13 d97_1 (by decide) (fun c1 => absurd c1 (i32_nl hk0)) (fun c1 => ?_)
      refine as_iload_n d97_4 rfl ?_
      refine as_if_lt 13 d97_5 (by decide) (fun c5 => absurd c5 (nI_pos (by omega))) (fun c5 => ?_)
      refine as_iload_n d97_8 rfl ?_
      refine an_iconst 2 d97_9 rfl ?_
      refine an_icmp_le 16 d97_10 (by decide) (by omega) (by omega) (fun c10 => ?_) (fun c10 => by omega)
      refine as_aload_n d97_16 rfl ?_
      refine ap_get d97_17 f97_33 (by decide) rfl rfl ?_
      refine as_aload_n d97_20 rfl ?_
      refine ap_get d97_21 f97_10 (by decide) rfl rfl ?_
      refine ac_v1 d97_24 c97_188 (by decide) rfl (Nat.le_of_ble_eq_true rfl) (mc_isLegalC X _ P mt go sh hG hD.1 hS a b ha hb) ?_
      refine as_if_eq 43 d97_27 (by decide) (fun c27 => absurd hl (am_b01.mp c27)) (fun c27 => ?_)
      refine as_aload_n d97_30 rfl ?_
      refine ap_get d97_31 f97_33 (by decide) rfl rfl ?_
      refine ac_v0 d97_34 c97_194 (by decide) rfl (Nat.le_of_ble_eq_true rfl) (mc_cutCount X _ sh hS) ?_
      refine an_sipush 400 d97_37 rfl ?_
      refine an_icmp_le 46 d97_40 (by decide) (by omega) (by omega) (fun c40 => ?_) (fun c40 => by omega)
      refine as_aload_n d97_46 rfl ?_
      refine ac_v0 d97_47 c97_197 (by decide) rfl (Nat.le_of_ble_eq_true rfl) (m1) ?_
      refine as_iload_n d97_50 rfl ?_
      refine as_aload_n d97_51 rfl ?_
      refine ap_get d97_52 f97_40 (by decide) rfl rfl ?_
      refine ap_get d97_55 f97_200 (by decide) rfl rfl ?_
      refine ap_get d97_58 f97_105 (by decide) rfl rfl ?_
      refine an_top (e' := nI ((cnt (fs (PJ P mt go sh)) (fsum sh 21)))) (m4.1.1) ?_
      refine an_icmp_lt 67 d97_61 (by decide) (by omega) (by omega) (fun c61 => ?_) (fun c61 => by omega)
      refine as_iload_n d97_67 rfl ?_
      refine as_lsw (o := 48) 116 d97_68 (by decide) (by decide) (by decide) ?_
      refine as_aload_n d97_116 rfl ?_
      refine ap_get d97_117 f97_40 (by decide) rfl rfl ?_
      refine ap_get d97_120 f97_200 (by decide) rfl rfl ?_
      refine as_iload_n d97_123 rfl ?_
      refine ac_v1 d97_124 c97_108 (by decide) rfl (Nat.le_of_ble_eq_true rfl) (mc_clashes180 X _ (fsum sh 21) (PJ P mt go sh) hN m4.1 m k w1 w2 w3) ?_
      refine an_top (e' := nI (0)) (q1) ?_
      refine an_if_eq 134 d97_127 (by decide) (by omega) (fun c127 => ?_) (fun c127 => absurd c127 (by decide))
      refine an_iconst 1 d97_134 rfl ?_
      refine as_ireturn d97_135 (by rw [t97]; rfl) ?_
      rfl
