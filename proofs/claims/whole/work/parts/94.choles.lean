/-! holes: the numbers above 1, and holes itself (class) -/
def dgF (B : MT) (d : Nat) : Bool := decide (1 < B d d)
/-- the i-th number above 1 of the first rk, or -1 -/
def abO (B : MT) (rk : Nat) (i x : Int32) : Prop := (∃ d, d < rk ∧ dgF B d = true ∧ nI (cnt (dgF B) d + 1) = i ∧ x = (Int64.ofInt (B d d)).toInt32) ∨ (x = -1 ∧ ∀ d, d < rk → dgF B d = true → nI (cnt (dgF B) d + 1) ≠ i)
theorem mx_aboveOneC (X : am_X) (S : MS) (R C : Nat) (B : MT) (hR : R ≤ 18) (hC : C ≤ 6) (h : MXc S R C B) (rk : Nat) (hr : rk ≤ R) (hr2 : rk ≤ C) (hr3 : S.1 22 4 = nI rk) (hs : ∀ d, d < rk → sm (B d d)) (i : Int32) : ∃ v T, MC X 22 [.ref (22), .int (i)] S v T ∧ T = S ∧ ∃ x, v = some (.int x) ∧ abO B rk i x := by
  refine MX.mc (X := X) (mj := 22) (as := [.ref (22), .int (i)]) (S := S) (Post := fun v T => T = S ∧ ∃ x, v = some (.int x) ∧ abO B rk i x) ?_
  refine MX.of (Nat.le_of_ble_eq_true rfl) ?_
  refine an_iconst 0 d22_0 rfl ?_
  refine as_istore_n d22_1 (by decide) ?_
  refine an_iconst 0 d22_2 rfl ?_
  refine as_istore_n d22_3 (by decide) ?_
  refine AW.loc [(0, .ref (22)), (1, .int (i)), (2, .int (nI (0))), (3, .int (nI (0)))] (am_pick [2, 3, 1, 0] rfl rfl) ?_
  refine aw_fromI (fun t => ((4, [(0, .ref (22)), (1, .int (i)), (2, .int (nI (cnt (dgF B) (t)))), (3, .int (nI (t)))], [], 208, HP (S), 0, 0) : am_Z)) (fun t => ∀ d, d < t → dgF B d = true → nI (cnt (dgF B) d + 1) ≠ i) (0) (rk) (by omega) (rfl) (fun d q => by omega) (fun t ht0 ht hI iht => ?_) (fun hX => ?_)
  · refine as_iload_n d22_4 rfl ?_
    refine as_aload_n d22_5 rfl ?_
    refine ap_get d22_6 f22_46 (by decide) rfl rfl ?_
    refine an_top (e' := nI (rk)) (hr3) ?_
    refine an_icmp_ge 49 d22_9 (by decide) (by omega) (by omega) (fun c9 => by omega) (fun c9 => ?_)
    refine as_aload_n d22_12 rfl ?_
    refine ap_get d22_13 f22_13 (by decide) rfl rfl ?_
    refine as_iload_n d22_16 rfl ?_
    refine ap_aald d22_17 isQ23 (Or.inr rfl) (by decide) (by omega) (by decide) (an_topr (show _ = S.2.2.2 23 (t) from rfl) ?_)
    refine as_iload_n d22_18 rfl ?_
    refine ap_lald d22_19 (isJ_row (h.2.2.1 (t) (by omega))) (by have := h.2.2.1 (t) (by omega); omega) (by omega) (by decide) (an_topl (e' := Int64.ofInt (B t t)) (h.2.2.2.2 t (by omega) t (by omega)) ?_)
    refine as_lconst d22_20 ?_
    refine as_lcmp d22_21 ?_
    refine as_if_le 43 d22_22 (by decide) (fun c22 => ?_) (fun c22 => ?_)
    · have hno : ¬ dgF B t = true := fun q => by
        have q1 := (lg_cmp_le _ _).mp c22
        have q2 := (i64_le (b := 1) (hs t ht) ⟨by omega, by omega⟩).mp q1
        have q3 := of_decide_eq_true q
        omega
      have hct := cnt_f hno
      have hlast : ∀ d, d < t + 1 → dgF B d = true → nI (cnt (dgF B) d + 1) ≠ i := fun d q1 q2 => by
        by_cases w : d = t
        · rw [w] at q2; exact absurd q2 hno
        · exact hI d (by omega) q2
      refine an_iinc 1 d22_43 rfl rfl (by decide) ?_
      refine as_goto 4 d22_46 (by decide) ?_
      refine AW.loc [(0, .ref (22)), (1, .int (i)), (2, .int (nI (cnt (dgF B) (t)))), (3, .int (nI (t + 1)))] (am_pick [1, 2, 3, 0] rfl rfl) ?_
      have iht := iht (hlast)
      have e2 : cnt (dgF B) (t + 1) = cnt (dgF B) (t) := by first | exact hct | omega
      rw [e2] at iht
      exact iht
    · have hye : dgF B t = true := decide_eq_true (by
        by_cases w : 1 < B t t
        · exact w
        · exact absurd ((lg_cmp_le _ _).mpr ((i64_le (b := 1) (hs t ht) ⟨by omega, by omega⟩).mpr (by omega))) c22)
      have hct := cnt_t hye
      have hcl := cnt_le (dgF B) t
      refine an_iinc 1 d22_25 rfl rfl (by decide) ?_
      refine as_iload_n d22_28 rfl ?_
      refine as_iload_n d22_29 rfl ?_
      refine as_icmp_ne 43 d22_30 (by decide) (fun c30 => ?_) (fun c30 => ?_)
      · have hlast : ∀ d, d < t + 1 → dgF B d = true → nI (cnt (dgF B) d + 1) ≠ i := fun d q1 q2 => by
          by_cases w : d = t
          · rw [w]; exact c30
          · exact hI d (by omega) q2
        refine an_iinc 1 d22_43 rfl rfl (by decide) ?_
        refine as_goto 4 d22_46 (by decide) ?_
        refine AW.loc [(0, .ref (22)), (1, .int (i)), (2, .int (nI (cnt (dgF B) (t) + 1))), (3, .int (nI (t + 1)))] (am_pick [2, 3, 1, 0] rfl rfl) ?_
        have iht := iht (hlast)
        have e2 : cnt (dgF B) (t + 1) = cnt (dgF B) (t) + 1 := by first | exact hct | omega
        rw [e2] at iht
        exact iht
      · refine as_aload_n d22_33 rfl ?_
        refine ap_get d22_34 f22_13 (by decide) rfl rfl ?_
        refine as_iload_n d22_37 rfl ?_
        refine ap_aald d22_38 isQ23 (Or.inr rfl) (by decide) (by omega) (by decide) (an_topr (show _ = S.2.2.2 23 (t) from rfl) ?_)
        refine as_iload_n d22_39 rfl ?_
        refine ap_lald d22_40 (isJ_row (h.2.2.1 (t) (by omega))) (by have := h.2.2.1 (t) (by omega); omega) (by omega) (by decide) (an_topl (e' := Int64.ofInt (B t t)) (h.2.2.2.2 t (by omega) t (by omega)) ?_)
        refine as_l2i d22_41 ?_
        refine as_ireturn d22_42 (by rw [t22]; rfl) ?_
        exact ⟨_, _, rfl, rfl, _, rfl, Or.inl ⟨t, ht, hye, by first | exact c30 | exact Classical.not_not.mp c30, rfl⟩⟩
  · refine as_iload_n d22_4 rfl ?_
    refine as_aload_n d22_5 rfl ?_
    refine ap_get d22_6 f22_46 (by decide) rfl rfl ?_
    refine an_top (e' := nI (rk)) (hr3) ?_
    refine an_icmp_ge 49 d22_9 (by decide) (by omega) (by omega) (fun c9 => ?_) (fun c9 => by omega)
    refine an_iconstI (-1) d22_49 rfl ?_
    refine as_ireturn d22_50 (by rw [t22]; rfl) ?_
    exact ⟨_, _, rfl, rfl, _, rfl, Or.inr ⟨rfl, hX⟩⟩
theorem mc_holesC1 (X : am_X) (S : MS) (i : Int32) (hi : ¬ 0 ≤ i) : MC X 88 [.ref (0), .int (i)] S (some (.int (-2))) S := by
  refine MC.of (Nat.le_of_ble_eq_true rfl) ?_
  refine as_iload_n d88_0 rfl ?_
  refine as_if_ge 7 d88_1 (by decide) (fun c1 => absurd c1 hi) (fun c1 => ?_)
  refine an_bipushI (-2) d88_4 rfl ?_
  refine as_ireturn d88_6 (by rw [t88]; rfl) ?_
  rfl
theorem mc_holesC2 (X : am_X) (S : MS) (P : Nat) (mt : Nat → Option Nat) (go : Nat → Nat) (hP : P ≤ 3) (hE : GS S 10 (6 * P) (EJ P mt go)) (hA : ∃ m, m < 6 * P ∧ fs (EJ P mt go) m = true ∧ Tws (EJ P mt go) m) (i : Int32) (hi : 0 ≤ i) : MC X 88 [.ref (0), .int (i)] S (some (.int (-3))) S := by
  refine MC.of (Nat.le_of_ble_eq_true rfl) ?_
  refine as_iload_n d88_0 rfl ?_
  refine as_if_ge 7 d88_1 (by decide) (fun c1 => ?_) (fun c1 => absurd hi c1)
  refine as_aload_n d88_7 rfl ?_
  refine ap_get d88_8 f88_10 (by decide) rfl rfl ?_
  refine ap_get d88_11 f88_102 (by decide) rfl rfl ?_
  refine ac_v0 d88_14 c88_136 (by decide) rfl (Nat.le_of_ble_eq_true rfl) (mc_anyClashes10 X S _ _ (by omega) hE 1 (Or.inl ⟨rfl, hA⟩)) ?_
  refine an_if_eq 23 d88_17 (by decide) (by omega) (fun c17 => absurd c17 (by decide)) (fun c17 => ?_)
  refine an_bipushI (-3) d88_20 rfl ?_
  refine as_ireturn d88_22 (by rw [t88]; rfl) ?_
  rfl
theorem mx_holesC3 (X : am_X) (S : MS) (P : Nat) (mt : Nat → Option Nat) (go L : Nat → Nat) (hG : GW P mt go) (hS : SD S P mt go) (hA : ∀ m, m < 6 * P → fs (EJ P mt go) m = true → ¬ Tws (EJ P mt go) m) (hN : NB P mt go L) (hQ : RQ S) (n : Nat → Nat) (x : Nat → Nat → WS) (hx : ∀ k, k < 6 * P → n k < 6 * P ∧ WX mt go k (n k) (x k)) (G : Nat → Nat → MT → Prop) (hH : HC ((lps (fun k => fs (EJ P mt go) k && clo mt go n x k) (6 * P)).length) (cnt (prN mt) (4 * P)) G) (hGd : ∀ rk nn B, G rk nn B → ∀ d, d < rk → sm (B d d)) (n0 : Nat) (hn0 : n0 < 100000) (h0 : G 0 n0 (lpM mt n x (lps (fun k => fs (EJ P mt go) k && clo mt go n x k) (6 * P)))) (i : Int32) (hi : 0 ≤ i) : ∃ v T, MC X 88 [.ref (0), .int (i)] S v T ∧ oKeep S T ∧ ∃ rk nn B z, rk ≤ min ((lps (fun k => fs (EJ P mt go) k && clo mt go n x k) (6 * P)).length) (cnt (prN mt) (4 * P)) ∧ v = some (.int z) ∧ G rk nn B ∧ (rk = min ((lps (fun k => fs (EJ P mt go) k && clo mt go n x k) (6 * P)).length) (cnt (prN mt) (4 * P)) ∨ ∀ i j, rk ≤ i → i < (lps (fun k => fs (EJ P mt go) k && clo mt go n x k) (6 * P)).length → rk ≤ j → j < cnt (prN mt) (4 * P) → B i j = 0) ∧ RQ T ∧ (i = 0 → z = nI (cnt (prN mt) (4 * P)) - nI P + nI (cnt (fs (SJ P mt go)) P) - nI rk) ∧ (i ≠ 0 → abO B rk i z) := by
  have hP := hG.1
  have hm := prs_6 hG
  have hlen := lps_len (fun k => fs (EJ P mt go) k && clo mt go n x k) (6 * P)
  obtain ⟨T, m1, m2, rk, nn, B, m3, m4, m5, m6, m7⟩ := mx_buildLp X S P mt go L hG hS.1 hS.2.2.1 hN hQ n x hx G hH n0 hn0 h0
  have hr1 := Nat.min_le_left ((lps (fun k => fs (EJ P mt go) k && clo mt go n x k) (6 * P)).length) (cnt (prN mt) (4 * P))
  have hr2 := Nat.min_le_right ((lps (fun k => fs (EJ P mt go) k && clo mt go n x k) (6 * P)).length) (cnt (prN mt) (4 * P))
  have hRQ : RQ T := ⟨m5.2.2.1, m5.2.2.2.1⟩
  have hcs := cnt_le (fs (SJ P mt go)) P
  refine MX.mc (X := X) (mj := 88) (as := [.ref (0), .int (i)]) (S := S) (Post := fun v T => oKeep S T ∧ ∃ rk nn B z, rk ≤ min ((lps (fun k => fs (EJ P mt go) k && clo mt go n x k) (6 * P)).length) (cnt (prN mt) (4 * P)) ∧ v = some (.int z) ∧ G rk nn B ∧ (rk = min ((lps (fun k => fs (EJ P mt go) k && clo mt go n x k) (6 * P)).length) (cnt (prN mt) (4 * P)) ∨ ∀ i j, rk ≤ i → i < (lps (fun k => fs (EJ P mt go) k && clo mt go n x k) (6 * P)).length → rk ≤ j → j < cnt (prN mt) (4 * P) → B i j = 0) ∧ RQ T ∧ (i = 0 → z = nI (cnt (prN mt) (4 * P)) - nI P + nI (cnt (fs (SJ P mt go)) P) - nI rk) ∧ (i ≠ 0 → abO B rk i z)) ?_
  refine MX.of (Nat.le_of_ble_eq_true rfl) ?_
  refine as_iload_n d88_0 rfl ?_
  refine as_if_ge 7 d88_1 (by decide) (fun c1 => ?_) (fun c1 => absurd hi c1)
  refine as_aload_n d88_7 rfl ?_
  refine ap_get d88_8 f88_10 (by decide) rfl rfl ?_
  refine ap_get d88_11 f88_102 (by decide) rfl rfl ?_
  refine ac_v0 d88_14 c88_136 (by decide) rfl (Nat.le_of_ble_eq_true rfl) (mc_anyClashes10 X S _ _ (by omega) hS.2.2.1 0 (Or.inr ⟨rfl, hA⟩)) ?_
  refine an_if_eq 23 d88_17 (by decide) (by omega) (fun c17 => ?_) (fun c17 => absurd c17 (by decide))
  refine as_aload_n d88_23 rfl ?_
  refine ap_get d88_24 f88_19 (by decide) rfl rfl ?_
  refine as_aload_n d88_27 rfl ?_
  refine ap_get d88_28 f88_10 (by decide) rfl rfl ?_
  refine ac_v1 d88_31 c88_139 (by decide) rfl (Nat.le_of_ble_eq_true rfl) (m1) ?_
  refine as_iload_n d88_34 rfl ?_
  refine as_if_ne 73 d88_35 (by decide) (fun c35 => ?_) (fun c35 => ?_)
  · obtain ⟨v9, T9, a1, rfl, z9, a2, a3⟩ := mx_aboveOneC X T ((lps (fun k => fs (EJ P mt go) k && clo mt go n x k) (6 * P)).length) (cnt (prN mt) (4 * P)) B (by omega) hm m5 rk (by omega) (by omega) m4 (hGd rk nn B m6) i
    refine as_aload_n d88_73 rfl ?_
    refine ap_get d88_74 f88_19 (by decide) rfl rfl ?_
    refine as_iload_n d88_77 rfl ?_
    refine ac_v1 d88_78 c88_149 (by decide) rfl (Nat.le_of_ble_eq_true rfl) (a2 ▸ a1) ?_
    refine as_ireturn d88_81 (by rw [t88]; rfl) ?_
    exact ⟨_, _, rfl, m2, rk, nn, B, z9, m3, rfl, m6, m7, hRQ, fun q => absurd q c35, fun _ => a3⟩
  · refine as_aload_n d88_38 rfl ?_
    refine ap_get d88_39 f88_10 (by decide) rfl rfl ?_
    refine ap_get d88_42 f88_143 (by decide) rfl rfl ?_
    refine an_top (e' := nI (cnt (prN mt) (4 * P))) ((m2.2.2.2 1 1 (by omega)).trans hS.1.2.1) ?_
    refine as_aload_n d88_45 rfl ?_
    refine ap_get d88_46 f88_10 (by decide) rfl rfl ?_
    refine ap_get d88_49 f88_51 (by decide) rfl rfl ?_
    refine an_top (e' := nI (P)) ((m2.2.2.2 1 0 (by omega)).trans hS.1.1) ?_
    refine as_isub d88_52 ?_
    refine as_aload_n d88_53 rfl ?_
    refine ap_get d88_54 f88_10 (by decide) rfl rfl ?_
    refine ap_get d88_57 f88_133 (by decide) rfl rfl ?_
    refine ap_get d88_60 f88_105 (by decide) rfl rfl ?_
    refine an_top (e' := nI (cnt (fs (SJ P mt go)) P)) ((m2.2.2.2 16 6 (by omega)).trans hS.2.2.2.1) ?_
    refine as_iadd d88_63 ?_
    refine as_aload_n d88_64 rfl ?_
    refine ap_get d88_65 f88_19 (by decide) rfl rfl ?_
    refine ap_get d88_68 f88_146 (by decide) rfl rfl ?_
    refine an_top (e' := nI (rk)) (m4) ?_
    refine as_isub d88_71 ?_
    refine as_ireturn d88_72 (by rw [t88]; rfl) ?_
    exact ⟨_, _, rfl, m2, rk, nn, B, _, m3, rfl, m6, m7, hRQ, fun _ => rfl, fun q => absurd c35 q⟩
