/-! the reference: parts, part -/
noncomputable def lst (L : Nat → Nat → Bool → Prop) (y : Nat) : Nat := Classical.choose (fst_ex (sR2 L) y y (Nat.le_refl _))
theorem lst_spec (L : Nat → Nat → Bool → Prop) (y : Nat) : lst L y ≤ y ∧ fs L (lst L y) = true ∧ cR (sR2 L) (lst L y) y := Classical.choose_spec (fst_ex (sR2 L) y y (Nat.le_refl _))
/-- the number of a member's group -/
noncomputable def gno (L : Nat → Nat → Bool → Prop) (y : Nat) : Nat := cnt (fs L) (lst L y)
theorem gno_le (L : Nat → Nat → Bool → Prop) (y : Nat) : gno L y ≤ y := Nat.le_trans (cnt_le _ _) (lst_spec L y).1
theorem gno_fst {L : Nat → Nat → Bool → Prop} {m : Nat} (h : fs L m = true) : gno L m = cnt (fs L) m := by
  have h1 := lst_spec L m
  unfold gno
  rw [fst_un h1.2.1 h h1.2.2]
/-- the k-th first member -/
theorem cnt_find {p : Nat → Bool} : ∀ n k, k < cnt p n → ∃ m, m < n ∧ p m = true ∧ cnt p m = k
  | 0, k, h => by cases h
  | n + 1, k, h => by
    by_cases hk : k < cnt p n
    · obtain ⟨m, h1, h2, h3⟩ := cnt_find n k hk
      exact ⟨m, by omega, h2, h3⟩
    · by_cases hp : p n = true
      · rw [cnt_t hp] at h
        exact ⟨n, by omega, hp, by omega⟩
      · rw [cnt_f hp] at h
        omega
def kdF (sh : Nat → Nat) (P i : Nat) : Nat := cnt (fun j => decide (fsum sh (j + 1) ≤ i)) (7 * P)
theorem cnt_all {p : Nat → Bool} : ∀ n, (∀ j, j < n → p j = true) → cnt p n = n
  | 0, _ => rfl
  | n + 1, h => by rw [cnt_t (h n (by omega)), cnt_all n (fun j hj => h j (by omega))]
theorem cnt_step {p : Nat → Bool} {k : Nat} (h1 : ∀ j, j < k → p j = true) (h2 : ∀ j, k ≤ j → ¬ p j = true) : ∀ n, k ≤ n → cnt p n = k
  | 0, h => by rw [show k = 0 by omega]; rfl
  | n + 1, h => by
    by_cases e : k = n + 1
    · subst e
      exact cnt_all _ h1
    · rw [cnt_f (h2 n (by omega)), cnt_step h1 h2 n (by omega), Nat.add_zero]
theorem kdF_spec {sh : Nat → Nat} {P i : Nat} (h : i < fsum sh (7 * P)) : kdF sh P i < 7 * P ∧ fsum sh (kdF sh P i) ≤ i ∧ i < fsum sh (kdF sh P i + 1) := by
  obtain ⟨k, h1, h2, h3⟩ := srt_ex (7 * P) i h
  have e : kdF sh P i = k := by
    refine cnt_step (fun j hj => decide_eq_true ?_) (fun j hj g => ?_) _ (by omega)
    · have := fsum_mono sh (show j + 1 ≤ k by omega)
      omega
    · have := of_decide_eq_true g
      have := fsum_mono sh (show k + 1 ≤ j + 1 by omega)
      omega
  rw [e]
  exact ⟨h1, h2, h3⟩
theorem PH.at {L : Nat → Nat → Bool → Prop} {N : Nat} {T : MS} (h : PH L N T) {y : Nat} (hy : y < N) : T.2.1 204 y = nI (gno L y) := h.1 y hy _ (lst_spec L y).2.1 (lst_spec L y).2.2
/-- the sum of worths -/
noncomputable def wsum (T : MS) (mt : Nat → Option Nat) (sh : Nat → Nat) (P : Nat) (L : Nat → Nat → Bool → Prop) (k : Nat) : Nat → Int32
  | 0 => nI 0
  | i + 1 => wsum T mt sh P L k i + (if gno L i = k then worthA T mt (kdF sh P i) else nI 0)
theorem wsum_t {T : MS} {mt : Nat → Option Nat} {sh : Nat → Nat} {P : Nat} {L : Nat → Nat → Bool → Prop} {k i : Nat} (h : gno L i = k) : wsum T mt sh P L k (i + 1) = wsum T mt sh P L k i + worthA T mt (kdF sh P i) := by
  show _ + _ = _
  rw [if_pos h]
theorem wsum_f {T : MS} {mt : Nat → Option Nat} {sh : Nat → Nat} {P : Nat} {L : Nat → Nat → Bool → Prop} {k i : Nat} (h : ¬ gno L i = k) : wsum T mt sh P L k (i + 1) = wsum T mt sh P L k i + nI 0 := by
  show _ + _ = _
  rw [if_neg h]
theorem mc_partsN (X : am_X) (S : MS) (P : Nat) (mt : Nat → Option Nat) (go : Nat → Nat) (hG : GW P mt go) (hR : RG S P mt go) (hS : SHN S) (a : Nat) (ha : legA S P mt go a) (h0 : a ≠ 0) (h3 : a < 3) : MC X 175 [.ref (189)] S (some (.int (-3))) S := by
  refine MC.of (Nat.le_of_ble_eq_true rfl) ?_
  refine as_aload_n d175_0 rfl ?_
  refine ac_v0 d175_1 c175_233 (by decide) rfl (Nat.le_of_ble_eq_true rfl) (mc_legal X _ P mt go a hG hR hS ha) ?_
  refine an_if_eq 10 d175_4 (by decide) (by omega) (fun c4 => absurd c4 h0) (fun c4 => ?_)
  refine an_bipushI (-3) d175_7 rfl ?_
  refine as_ireturn d175_9 (by rw [t175]; rfl) ?_
  rfl
noncomputable def prtA (N : Nat) (L : Nat → Nat → Bool → Prop) : Int32 := if 400 < N then -4 else nI (cnt (fs L) N)
theorem mx_parts0 (X : am_X) (S : MS) (P : Nat) (mt : Nat → Option Nat) (go : Nat → Nat) (hG : GW P mt go) (hR : RG S P mt go) (hS : SHN S) (ha : legA S P mt go 0) (hF : Fits P mt go (sv S)) : ∃ T, MC X 175 [.ref (189)] S (some (.int (prtA (fsum (sv S) (7 * P)) (Lk P mt go (sv S))))) T ∧ fKeep S T ∧ LabS T P mt go := by
  obtain ⟨v, T, hM, a, hv, hK, hLS, hc, hC, h4, h5⟩ := mx_findParts X S P mt go hG hR hS hF
  subst hv
  have hP := hG.1
  have hNb : (fsum (sv S) (7 * P)) ≤ 1000 * (7 * P) := fsum_le (7 * P) (fun i hi => (hS i (by omega)).2)
  refine ⟨T, ?_, hK, hLS⟩
  refine MC.of (Nat.le_of_ble_eq_true rfl) ?_
  refine as_aload_n d175_0 rfl ?_
  refine ac_v0 d175_1 c175_233 (by decide) rfl (Nat.le_of_ble_eq_true rfl) (mc_legal X _ P mt go 0 hG hR hS ha) ?_
  refine an_if_eq 10 d175_4 (by decide) (by omega) (fun c4 => ?_) (fun c4 => absurd rfl c4)
  refine as_aload_n d175_10 rfl ?_
  refine ac_v0 d175_11 c175_257 (by decide) rfl (Nat.le_of_ble_eq_true rfl) (hM) ?_
  refine as_istore_n d175_14 (by decide) ?_
  refine as_aload_n d175_15 rfl ?_
  refine ap_get d175_16 f175_251 (by decide) rfl rfl ?_
  refine an_top (e' := nI ((fsum (sv S) (7 * P)))) (hc) ?_
  refine an_sipush 400 d175_19 rfl ?_
  refine an_icmp_le 30 d175_22 (by decide) (by omega) (by omega) (fun c22 => ?_) (fun c22 => ?_)
  · refine as_iload_n d175_30 rfl ?_
    refine as_ireturn d175_31 (by rw [t175]; rfl) ?_
    refine am_req ?_
    unfold prtA
    first | (rw [if_pos (by omega)]) | (rw [if_neg (by omega), (h4 (by omega)).1])
  · refine an_bipushI (-4) d175_25 rfl ?_
    refine as_goto 31 d175_27 (by decide) ?_
    refine as_ireturn d175_31 (by rw [t175]; rfl) ?_
    refine am_req ?_
    unfold prtA
    first | (rw [if_pos (by omega)]) | (rw [if_neg (by omega), (h4 (by omega)).1])
abbrev whOk (w : Int32) : Prop := 0 ≤ w ∧ w ≤ 2
def prA (T : MS) (mt : Nat → Option Nat) (sh : Nat → Nat) (P N : Nat) (L : Nat → Nat → Bool → Prop) (k w : Nat) (r : Int32) : Prop := (w = 0 ∧ r = nI (cnt (fun i => decide (gno L i = k)) N)) ∨ (w = 1 ∧ r = wsum T mt sh P L k N) ∨ (w = 2 ∧ ∃ m, fs L m = true ∧ cnt (fs L) m = k ∧ m < N ∧ ((Tws L m ∧ r = 0) ∨ (¬ Tws L m ∧ r = 1)))
theorem mc_partW (X : am_X) (S : MS) (P : Nat) (mt : Nat → Option Nat) (go : Nat → Nat) (hG : GW P mt go) (hR : RG S P mt go) (hS : SHN S) (k what : Int32) (hw : ¬ whOk what) : MC X 178 [.ref (189), .int (k), .int (what)] S (some (.int (-2147483648))) S := by
  refine MC.of (Nat.le_of_ble_eq_true rfl) ?_
  refine as_iload_n d178_0 rfl ?_
  refine an_iconst 0 d178_1 rfl ?_
  refine an_iconst 2 d178_2 rfl ?_
  refine ac_s3 d178_3 c178_71 (by decide) (Nat.le_of_ble_eq_true rfl) (mc_in X _ _ _ _) ?_
  refine as_if_eq 16 d178_6 (by decide) (fun c6 => ?_) (fun c6 => absurd (am_b1 c6) hw)
  refine as_ldc (v := (-2147483648)) d178_16 (by decide +kernel) ?_
  refine as_ireturn d178_18 (by rw [t178]; rfl) ?_
  rfl
theorem mc_partN (X : am_X) (S : MS) (P : Nat) (mt : Nat → Option Nat) (go : Nat → Nat) (hG : GW P mt go) (hR : RG S P mt go) (hS : SHN S) (k what : Int32) (a : Nat) (ha : legA S P mt go a) (h0 : a ≠ 0) (h3 : a < 3) : MC X 178 [.ref (189), .int (k), .int (what)] S (some (.int (-2147483648))) S := by
  refine MC.of (Nat.le_of_ble_eq_true rfl) ?_
  refine as_iload_n d178_0 rfl ?_
  refine an_iconst 0 d178_1 rfl ?_
  refine an_iconst 2 d178_2 rfl ?_
  refine ac_s3 d178_3 c178_71 (by decide) (Nat.le_of_ble_eq_true rfl) (mc_in X _ _ _ _) ?_
  refine as_if_eq 16 d178_6 (by decide) (fun c6 => ?_) (fun c6 => ?_)
  · refine as_ldc (v := (-2147483648)) d178_16 (by decide +kernel) ?_
    refine as_ireturn d178_18 (by rw [t178]; rfl) ?_
    rfl
  · refine as_aload_n d178_9 rfl ?_
    refine ac_v0 d178_10 c178_233 (by decide) rfl (Nat.le_of_ble_eq_true rfl) (mc_legal X _ P mt go a hG hR hS ha) ?_
    refine an_if_eq 19 d178_13 (by decide) (by omega) (fun c13 => absurd c13 h0) (fun c13 => ?_)
    refine as_ldc (v := (-2147483648)) d178_16 (by decide +kernel) ?_
    refine as_ireturn d178_18 (by rw [t178]; rfl) ?_
    rfl
theorem mx_partB (X : am_X) (S : MS) (P : Nat) (mt : Nat → Option Nat) (go : Nat → Nat) (hG : GW P mt go) (hR : RG S P mt go) (hS : SHN S) (ha : legA S P mt go 0) (hF : Fits P mt go (sv S)) (k what : Int32) (hw : whOk what) (hb : 400 < (fsum (sv S) (7 * P)) ∨ ¬ inR (cnt (fs (Lk P mt go (sv S))) (fsum (sv S) (7 * P))) k) : ∃ T, MC X 178 [.ref (189), .int (k), .int (what)] S (some (.int (-2147483648))) T ∧ fKeep S T := by
  obtain ⟨v, T, hM, a, hv, hK, hLS, hc, hC, h4, h5⟩ := mx_findParts X S P mt go hG hR hS hF
  subst hv
  have hP := hG.1
  have hNb : (fsum (sv S) (7 * P)) ≤ 1000 * (7 * P) := fsum_le (7 * P) (fun i hi => (hS i (by omega)).2)
  refine ⟨T, ?_, hK⟩
  refine MC.of (Nat.le_of_ble_eq_true rfl) ?_
  refine as_iload_n d178_0 rfl ?_
  refine an_iconst 0 d178_1 rfl ?_
  refine an_iconst 2 d178_2 rfl ?_
  refine ac_s3 d178_3 c178_71 (by decide) (Nat.le_of_ble_eq_true rfl) (mc_in X _ _ _ _) ?_
  refine as_if_eq 16 d178_6 (by decide) (fun c6 => absurd hw (am_b01.mp c6)) (fun c6 => ?_)
  refine as_aload_n d178_9 rfl ?_
  refine ac_v0 d178_10 c178_233 (by decide) rfl (Nat.le_of_ble_eq_true rfl) (mc_legal X _ P mt go 0 hG hR hS ha) ?_
  refine an_if_eq 19 d178_13 (by decide) (by omega) (fun c13 => ?_) (fun c13 => absurd rfl c13)
  refine as_aload_n d178_19 rfl ?_
  refine ac_v0 d178_20 c178_257 (by decide) rfl (Nat.le_of_ble_eq_true rfl) (hM) ?_
  refine as_istore_n d178_23 (by decide) ?_
  refine as_aload_n d178_24 rfl ?_
  refine ap_get d178_25 f178_251 (by decide) rfl rfl ?_
  refine an_top (e' := nI ((fsum (sv S) (7 * P)))) (hc) ?_
  refine an_sipush 400 d178_28 rfl ?_
  refine an_icmp_gt 45 d178_31 (by decide) (by omega) (by omega) (fun c31 => ?_) (fun c31 => ?_)
  · refine as_ldc (v := (-2147483648)) d178_45 (by decide +kernel) ?_
    refine as_ireturn d178_47 (by rw [t178]; rfl) ?_
    rfl
  · refine as_iload_n d178_34 rfl ?_
    refine an_iconst 0 d178_35 rfl ?_
    refine as_iload_n d178_36 rfl ?_
    refine an_iconst 1 d178_37 rfl ?_
    refine as_isub d178_38 ?_
    refine ac_s3 d178_39 c178_71 (by decide) (Nat.le_of_ble_eq_true rfl) (mc_in X _ _ _ _) ?_
    refine as_if_ne 48 d178_42 (by decide) (fun c42 => ?_) (fun c42 => ?_)
    · obtain ⟨g1, g2⟩ := h4 (by omega)
      subst g1
      exact absurd ((inN_iff (by have := cnt_le (fs (Lk P mt go (sv S))) (fsum (sv S) (7 * P)); omega) _).mp (am_b1 c42)) (hb.resolve_left (by omega))
    · refine as_ldc (v := (-2147483648)) d178_45 (by decide +kernel) ?_
      refine as_ireturn d178_47 (by rw [t178]; rfl) ?_
      rfl
theorem mx_partK (X : am_X) (S : MS) (P : Nat) (mt : Nat → Option Nat) (go : Nat → Nat) (hG : GW P mt go) (hR : RG S P mt go) (hS : SHN S) (ha : legA S P mt go 0) (hF : Fits P mt go (sv S)) (k w : Nat) (hw : w < 3) (hN : (fsum (sv S) (7 * P)) ≤ 400) (hk : k < cnt (fs (Lk P mt go (sv S))) (fsum (sv S) (7 * P))) : ∃ T r, MC X 178 [.ref (189), .int (nI (k)), .int (nI (w))] S (some (.int r)) T ∧ fKeep S T ∧ LabS T P mt go ∧ prA T mt (sv S) P (fsum (sv S) (7 * P)) (Lk P mt go (sv S)) k w r := by
  obtain ⟨v, T, hM, a, hv, hK, hLS, hc, hC, h4, h5⟩ := mx_findParts X S P mt go hG hR hS hF
  subst hv
  have hP := hG.1
  have hNb : (fsum (sv S) (7 * P)) ≤ 1000 * (7 * P) := fsum_le (7 * P) (fun i hi => (hS i (by omega)).2)
  obtain ⟨g1, g2⟩ := h4 hN
  subst g1
  have hcl := cnt_le (fs (Lk P mt go (sv S))) (fsum (sv S) (7 * P))
  have hL := hLS.n
  have hRT : RG T P mt go := by
    refine ⟨(hK.2.2 189 0 (by omega)).trans hR.1, fun s hs => ?_, fun s t c hs ht hc => ?_⟩
    · rw [hK.1 190 (by omega) (by omega)]
      exact hR.2.1 s hs
    · rw [hK.1 191 (by omega) (by omega)]
      exact hR.2.2 s t c hs ht hc
  have hpo : ∀ i, i < (fsum (sv S) (7 * P)) → T.2.1 204 i = nI (gno (Lk P mt go (sv S)) i) ∧ gno (Lk P mt go (sv S)) i < 2 ^ 31 := fun i hi => ⟨g2.at hi, by have := gno_le (Lk P mt go (sv S)) i; omega⟩
  have hin : nI 0 ≤ nI k ∧ nI k ≤ nI (cnt (fs (Lk P mt go (sv S))) (fsum (sv S) (7 * P))) - nI 1 := (inN_iff (by omega) _).mpr ⟨nI_pos' (by omega), nI_lt hk (by omega)⟩
  rcases (show w = 0 ∨ w = 1 ∨ w = 2 by omega) with rfl | rfl | rfl
  · refine ⟨T, _, ?_, hK, hLS, Or.inl ⟨rfl, rfl⟩⟩
    refine MC.of (Nat.le_of_ble_eq_true rfl) ?_
    refine as_iload_n d178_0 rfl ?_
    refine an_iconst 0 d178_1 rfl ?_
    refine an_iconst 2 d178_2 rfl ?_
    refine ac_s3 d178_3 c178_71 (by decide) (Nat.le_of_ble_eq_true rfl) (mc_in X _ _ _ _) ?_
    refine as_if_eq 16 d178_6 (by decide) (fun c6 => absurd (by decide) (am_b01.mp c6)) (fun c6 => ?_)
    refine as_aload_n d178_9 rfl ?_
    refine ac_v0 d178_10 c178_233 (by decide) rfl (Nat.le_of_ble_eq_true rfl) (mc_legal X _ P mt go 0 hG hR hS ha) ?_
    refine an_if_eq 19 d178_13 (by decide) (by omega) (fun c13 => ?_) (fun c13 => absurd rfl c13)
    refine as_aload_n d178_19 rfl ?_
    refine ac_v0 d178_20 c178_257 (by decide) rfl (Nat.le_of_ble_eq_true rfl) (hM) ?_
    refine as_istore_n d178_23 (by decide) ?_
    refine as_aload_n d178_24 rfl ?_
    refine ap_get d178_25 f178_251 (by decide) rfl rfl ?_
    refine an_top (e' := nI ((fsum (sv S) (7 * P)))) (hc) ?_
    refine an_sipush 400 d178_28 rfl ?_
    refine an_icmp_gt 45 d178_31 (by decide) (by omega) (by omega) (fun c31 => by omega) (fun c31 => ?_)
    refine as_iload_n d178_34 rfl ?_
    refine an_iconst 0 d178_35 rfl ?_
    refine as_iload_n d178_36 rfl ?_
    refine an_iconst 1 d178_37 rfl ?_
    refine as_isub d178_38 ?_
    refine ac_s3 d178_39 c178_71 (by decide) (Nat.le_of_ble_eq_true rfl) (mc_in X _ _ _ _) ?_
    refine as_if_ne 48 d178_42 (by decide) (fun c42 => ?_) (fun c42 => absurd hin (am_b01.mp c42))
    refine as_iload_n d178_48 rfl ?_
    refine an_if_ne 58 d178_49 (by decide) (by omega) (fun c49 => absurd c49 (by decide)) (fun c49 => ?_)
    refine as_aload_n d178_52 rfl ?_
    refine as_iload_n d178_53 rfl ?_
    refine ac_v1 d178_54 c178_260 (by decide) rfl (Nat.le_of_ble_eq_true rfl) (mc_cutsOf X _ k (fsum (sv S) (7 * P)) (gno (Lk P mt go (sv S))) hN hc (by omega) hpo) ?_
    refine as_ireturn d178_57 (by rw [t178]; rfl) ?_
    rfl
  · refine ⟨T, _, ?_, hK, hLS, Or.inr (Or.inl ⟨rfl, rfl⟩)⟩
    refine MC.of (Nat.le_of_ble_eq_true rfl) ?_
    refine as_iload_n d178_0 rfl ?_
    refine an_iconst 0 d178_1 rfl ?_
    refine an_iconst 2 d178_2 rfl ?_
    refine ac_s3 d178_3 c178_71 (by decide) (Nat.le_of_ble_eq_true rfl) (mc_in X _ _ _ _) ?_
    refine as_if_eq 16 d178_6 (by decide) (fun c6 => absurd (by decide) (am_b01.mp c6)) (fun c6 => ?_)
    refine as_aload_n d178_9 rfl ?_
    refine ac_v0 d178_10 c178_233 (by decide) rfl (Nat.le_of_ble_eq_true rfl) (mc_legal X _ P mt go 0 hG hR hS ha) ?_
    refine an_if_eq 19 d178_13 (by decide) (by omega) (fun c13 => ?_) (fun c13 => absurd rfl c13)
    refine as_aload_n d178_19 rfl ?_
    refine ac_v0 d178_20 c178_257 (by decide) rfl (Nat.le_of_ble_eq_true rfl) (hM) ?_
    refine as_istore_n d178_23 (by decide) ?_
    refine as_aload_n d178_24 rfl ?_
    refine ap_get d178_25 f178_251 (by decide) rfl rfl ?_
    refine an_top (e' := nI ((fsum (sv S) (7 * P)))) (hc) ?_
    refine an_sipush 400 d178_28 rfl ?_
    refine an_icmp_gt 45 d178_31 (by decide) (by omega) (by omega) (fun c31 => by omega) (fun c31 => ?_)
    refine as_iload_n d178_34 rfl ?_
    refine an_iconst 0 d178_35 rfl ?_
    refine as_iload_n d178_36 rfl ?_
    refine an_iconst 1 d178_37 rfl ?_
    refine as_isub d178_38 ?_
    refine ac_s3 d178_39 c178_71 (by decide) (Nat.le_of_ble_eq_true rfl) (mc_in X _ _ _ _) ?_
    refine as_if_ne 48 d178_42 (by decide) (fun c42 => ?_) (fun c42 => absurd hin (am_b01.mp c42))
    refine as_iload_n d178_48 rfl ?_
    refine an_if_ne 58 d178_49 (by decide) (by omega) (fun c49 => ?_) (fun c49 => absurd c49 (by decide))
    refine as_iload_n d178_58 rfl ?_
    refine an_iconst 2 d178_59 rfl ?_
    refine an_icmp_ne 78 d178_60 (by decide) (by omega) (by omega) (fun c60 => ?_) (fun c60 => absurd c60 (by decide))
    refine an_iconst 0 d178_78 rfl ?_
    refine as_istore d178_79 (by decide) ?_
    refine an_iconst 0 d178_81 rfl ?_
    refine as_istore d178_82 (by decide) ?_
    refine AW.loc [(0, .ref (189)), (1, .int (nI (k))), (4, .int (nI (0))), (5, .int (nI (0)))] (am_pick [3, 4, 1, 0] rfl rfl) ?_
    refine aw_for (fun i => ((84, [(0, .ref (189)), (1, .int (nI (k))), (4, .int (wsum T mt (sv S) P (Lk P mt go (sv S)) k (i))), (5, .int (nI (i)))], [], 208, HP (T), 0, 0) : am_Z)) ((fsum (sv S) (7 * P))) (rfl) (fun i hi ih => ?_) ?_
    · refine as_iload d178_84 rfl ?_
      refine as_aload_n d178_86 rfl ?_
      refine ap_get d178_87 f178_251 (by decide) rfl rfl ?_
      refine an_top (e' := nI ((fsum (sv S) (7 * P)))) (hc) ?_
      refine an_icmp_ge 125 d178_90 (by decide) (by omega) (by omega) (fun c90 => by omega) (fun c90 => ?_)
      refine as_iload d178_93 rfl ?_
      refine as_aload_n d178_95 rfl ?_
      refine ap_get d178_96 f178_54 (by decide) rfl rfl ?_
      refine as_iload d178_99 rfl ?_
      refine ap_iald d178_101 (fun _ _ _ _ => rfl) (by decide) (by omega) (by decide) ?_
      refine an_top (e' := nI (gno (Lk P mt go (sv S)) i)) ((hpo i hi).1) ?_
      refine as_iload_n d178_102 rfl ?_
      refine an_icmp_ne 115 d178_103 (by decide) ((hpo i hi).2) (by omega) (fun c103 => ?_) (fun c103 => ?_)
      · refine an_iconst 0 d178_115 rfl ?_
        refine as_iadd d178_116 ?_
        refine as_istore d178_117 (by decide) ?_
        refine an_iinc 1 d178_119 rfl rfl (by decide) ?_
        refine as_goto 84 d178_122 (by decide) ?_
        refine AW.loc [(0, .ref (189)), (1, .int (nI (k))), (4, .int ((wsum T mt (sv S) P (Lk P mt go (sv S)) k (i)) + nI (0))), (5, .int (nI (i + 1)))] (am_pick [2, 3, 1, 0] rfl rfl) ?_
        have e4 : wsum T mt (sv S) P (Lk P mt go (sv S)) k (i + 1) = (wsum T mt (sv S) P (Lk P mt go (sv S)) k (i)) + nI (0) := by first | exact wsum_t c103 | exact wsum_f c103
        rw [e4] at ih
        exact ih
      · obtain ⟨q1, q2, q3⟩ := kdF_spec (P := P) (sh := sv S) hi
        refine as_aload_n d178_106 rfl ?_
        refine as_iload d178_107 rfl ?_
        refine ac_v1 d178_109 c178_263 (by decide) rfl (Nat.le_of_ble_eq_true rfl) (mc_worth X _ P i (kdF (sv S) P i) (sv S) mt go hG hRT hL hC (by omega) q1 q2 q3) ?_
        refine as_goto 116 d178_112 (by decide) ?_
        refine as_iadd d178_116 ?_
        refine as_istore d178_117 (by decide) ?_
        refine an_iinc 1 d178_119 rfl rfl (by decide) ?_
        refine as_goto 84 d178_122 (by decide) ?_
        refine AW.loc [(0, .ref (189)), (1, .int (nI (k))), (4, .int ((wsum T mt (sv S) P (Lk P mt go (sv S)) k (i)) + (worthA T mt (kdF (sv S) P i)))), (5, .int (nI (i + 1)))] (am_pick [2, 3, 1, 0] rfl rfl) ?_
        have e4 : wsum T mt (sv S) P (Lk P mt go (sv S)) k (i + 1) = (wsum T mt (sv S) P (Lk P mt go (sv S)) k (i)) + (worthA T mt (kdF (sv S) P i)) := by first | exact wsum_t c103 | exact wsum_f c103
        rw [e4] at ih
        exact ih
    · refine as_iload d178_84 rfl ?_
      refine as_aload_n d178_86 rfl ?_
      refine ap_get d178_87 f178_251 (by decide) rfl rfl ?_
      refine an_top (e' := nI ((fsum (sv S) (7 * P)))) (hc) ?_
      refine an_icmp_ge 125 d178_90 (by decide) (by omega) (by omega) (fun c90 => ?_) (fun c90 => by omega)
      refine as_iload d178_125 rfl ?_
      refine as_ireturn d178_127 (by rw [t178]; rfl) ?_
      rfl
  · obtain ⟨m, m1, m2, m3⟩ := cnt_find (fsum (sv S) (7 * P)) k hk
    have hm := g2.2 m m1 m2
    rw [m3] at hm
    rcases hm with ⟨q1, q2⟩ | ⟨q1, q2⟩
    · refine ⟨T, _, ?_, hK, hLS, Or.inr (Or.inr ⟨rfl, m, m2, m3, m1, Or.inl ⟨q2, rfl⟩⟩)⟩
      refine MC.of (Nat.le_of_ble_eq_true rfl) ?_
      refine as_iload_n d178_0 rfl ?_
      refine an_iconst 0 d178_1 rfl ?_
      refine an_iconst 2 d178_2 rfl ?_
      refine ac_s3 d178_3 c178_71 (by decide) (Nat.le_of_ble_eq_true rfl) (mc_in X _ _ _ _) ?_
      refine as_if_eq 16 d178_6 (by decide) (fun c6 => absurd (by decide) (am_b01.mp c6)) (fun c6 => ?_)
      refine as_aload_n d178_9 rfl ?_
      refine ac_v0 d178_10 c178_233 (by decide) rfl (Nat.le_of_ble_eq_true rfl) (mc_legal X _ P mt go 0 hG hR hS ha) ?_
      refine an_if_eq 19 d178_13 (by decide) (by omega) (fun c13 => ?_) (fun c13 => absurd rfl c13)
      refine as_aload_n d178_19 rfl ?_
      refine ac_v0 d178_20 c178_257 (by decide) rfl (Nat.le_of_ble_eq_true rfl) (hM) ?_
      refine as_istore_n d178_23 (by decide) ?_
      refine as_aload_n d178_24 rfl ?_
      refine ap_get d178_25 f178_251 (by decide) rfl rfl ?_
      refine an_top (e' := nI ((fsum (sv S) (7 * P)))) (hc) ?_
      refine an_sipush 400 d178_28 rfl ?_
      refine an_icmp_gt 45 d178_31 (by decide) (by omega) (by omega) (fun c31 => by omega) (fun c31 => ?_)
      refine as_iload_n d178_34 rfl ?_
      refine an_iconst 0 d178_35 rfl ?_
      refine as_iload_n d178_36 rfl ?_
      refine an_iconst 1 d178_37 rfl ?_
      refine as_isub d178_38 ?_
      refine ac_s3 d178_39 c178_71 (by decide) (Nat.le_of_ble_eq_true rfl) (mc_in X _ _ _ _) ?_
      refine as_if_ne 48 d178_42 (by decide) (fun c42 => ?_) (fun c42 => absurd hin (am_b01.mp c42))
      refine as_iload_n d178_48 rfl ?_
      refine an_if_ne 58 d178_49 (by decide) (by omega) (fun c49 => ?_) (fun c49 => absurd c49 (by decide))
      refine as_iload_n d178_58 rfl ?_
      refine an_iconst 2 d178_59 rfl ?_
      refine an_icmp_ne 78 d178_60 (by decide) (by omega) (by omega) (fun c60 => absurd rfl c60) (fun c60 => ?_)
      refine as_aload_n d178_63 rfl ?_
      refine ap_get d178_64 f178_63 (by decide) rfl rfl ?_
      refine as_iload_n d178_67 rfl ?_
      refine ap_zald d178_68 (fun _ _ _ _ => rfl) (by decide) (by omega) (by decide) ?_
      refine an_top (e' := nI (1)) (q1) ?_
      refine an_if_eq 76 d178_69 (by decide) (by omega) (fun c69 => absurd c69 (by decide)) (fun c69 => ?_)
      refine an_iconst 0 d178_72 rfl ?_
      refine as_goto 77 d178_73 (by decide) ?_
      refine as_ireturn d178_77 (by rw [t178]; rfl) ?_
      rfl
    · refine ⟨T, _, ?_, hK, hLS, Or.inr (Or.inr ⟨rfl, m, m2, m3, m1, Or.inr ⟨q2, rfl⟩⟩)⟩
      refine MC.of (Nat.le_of_ble_eq_true rfl) ?_
      refine as_iload_n d178_0 rfl ?_
      refine an_iconst 0 d178_1 rfl ?_
      refine an_iconst 2 d178_2 rfl ?_
      refine ac_s3 d178_3 c178_71 (by decide) (Nat.le_of_ble_eq_true rfl) (mc_in X _ _ _ _) ?_
      refine as_if_eq 16 d178_6 (by decide) (fun c6 => absurd (by decide) (am_b01.mp c6)) (fun c6 => ?_)
      refine as_aload_n d178_9 rfl ?_
      refine ac_v0 d178_10 c178_233 (by decide) rfl (Nat.le_of_ble_eq_true rfl) (mc_legal X _ P mt go 0 hG hR hS ha) ?_
      refine an_if_eq 19 d178_13 (by decide) (by omega) (fun c13 => ?_) (fun c13 => absurd rfl c13)
      refine as_aload_n d178_19 rfl ?_
      refine ac_v0 d178_20 c178_257 (by decide) rfl (Nat.le_of_ble_eq_true rfl) (hM) ?_
      refine as_istore_n d178_23 (by decide) ?_
      refine as_aload_n d178_24 rfl ?_
      refine ap_get d178_25 f178_251 (by decide) rfl rfl ?_
      refine an_top (e' := nI ((fsum (sv S) (7 * P)))) (hc) ?_
      refine an_sipush 400 d178_28 rfl ?_
      refine an_icmp_gt 45 d178_31 (by decide) (by omega) (by omega) (fun c31 => by omega) (fun c31 => ?_)
      refine as_iload_n d178_34 rfl ?_
      refine an_iconst 0 d178_35 rfl ?_
      refine as_iload_n d178_36 rfl ?_
      refine an_iconst 1 d178_37 rfl ?_
      refine as_isub d178_38 ?_
      refine ac_s3 d178_39 c178_71 (by decide) (Nat.le_of_ble_eq_true rfl) (mc_in X _ _ _ _) ?_
      refine as_if_ne 48 d178_42 (by decide) (fun c42 => ?_) (fun c42 => absurd hin (am_b01.mp c42))
      refine as_iload_n d178_48 rfl ?_
      refine an_if_ne 58 d178_49 (by decide) (by omega) (fun c49 => ?_) (fun c49 => absurd c49 (by decide))
      refine as_iload_n d178_58 rfl ?_
      refine an_iconst 2 d178_59 rfl ?_
      refine an_icmp_ne 78 d178_60 (by decide) (by omega) (by omega) (fun c60 => absurd rfl c60) (fun c60 => ?_)
      refine as_aload_n d178_63 rfl ?_
      refine ap_get d178_64 f178_63 (by decide) rfl rfl ?_
      refine as_iload_n d178_67 rfl ?_
      refine ap_zald d178_68 (fun _ _ _ _ => rfl) (by decide) (by omega) (by decide) ?_
      refine an_top (e' := nI (0)) (q1) ?_
      refine an_if_eq 76 d178_69 (by decide) (by omega) (fun c69 => ?_) (fun c69 => absurd c69 (by decide))
      refine an_iconst 1 d178_76 rfl ?_
      refine as_ireturn d178_77 (by rw [t178]; rfl) ?_
      rfl
