/-! the reference: sides, across, open, clear, piece -/
abbrev isPc (P : Nat) (p : Int32) : Prop := 0 ≤ p ∧ p < nI P
abbrev isSd (P : Nat) (p f : Int32) : Prop := isPc P p ∧ 0 ≤ f ∧ f < 4
def sdN (p f : Int32) : Nat := 4 * p.toNatClampNeg + f.toNatClampNeg
theorem nI3 {P : Nat} (hP : P ≤ 3) : (nI P).toInt = P ∧ (nI P - 1).toInt = (P : Int) - 1 := by
  rcases (show P = 0 ∨ P = 1 ∨ P = 2 ∨ P = 3 by omega) with rfl | rfl | rfl | rfl <;> decide
theorem isPc_iff {P : Nat} (hP : P ≤ 3) (p : Int32) : (0 ≤ p ∧ p ≤ nI P - 1) ↔ isPc P p := by
  unfold isPc
  simp only [Int32.lt_iff_toInt_lt, Int32.le_iff_toInt_le, (nI3 hP).1, (nI3 hP).2]
  omega
theorem isSd_iff {P : Nat} (hP : P ≤ 3) (p f : Int32) : ((0 ≤ p ∧ p ≤ nI P - 1) ∧ 0 ≤ f ∧ f ≤ 3) ↔ isSd P p f := by
  unfold isSd
  rw [isPc_iff hP]
  have : f ≤ 3 ↔ f < 4 := by
    simp only [Int32.lt_iff_toInt_lt, Int32.le_iff_toInt_le]
    have h3 : (3 : Int32).toInt = 3 := by decide
    have h4 : (4 : Int32).toInt = 4 := by decide
    omega
  rw [this]
theorem isPc_n {P : Nat} (hP : P ≤ 3) {p : Int32} (h : isPc P p) : ∃ q, q < P ∧ p = nI q := by
  obtain ⟨q, hq, rfl⟩ := nI_of (x := p) (fun g => by
    have := h.1
    simp only [Int32.lt_iff_toInt_lt, Int32.le_iff_toInt_le] at *
    omega)
  exact ⟨q, (nI_ltI hq (by omega)).mp h.2, rfl⟩
theorem isSd_n {P : Nat} (hP : P ≤ 3) {p f : Int32} (h : isSd P p f) : ∃ q g, q < P ∧ g < 4 ∧ p = nI q ∧ f = nI g ∧ sdN p f = 4 * q + g := by
  obtain ⟨q, hq, rfl⟩ := isPc_n hP h.1
  obtain ⟨g, hg, rfl⟩ := nI_of (x := f) (fun g => by
    have := h.2.1
    simp only [Int32.lt_iff_toInt_lt, Int32.le_iff_toInt_le] at *
    omega)
  refine ⟨q, g, hq, (nI_ltI hg (by decide)).mp h.2.2, rfl, rfl, ?_⟩
  unfold sdN
  rw [nI_clamp (by omega), nI_clamp hg]
theorem in01 {u : Int32} (h : 0 ≤ u ∧ u ≤ 1) : ∃ v, v < 2 ∧ u = nI v := by
  obtain ⟨v, hv, rfl⟩ := nI_of (x := u) (fun g => by
    have := h.1
    simp only [Int32.lt_iff_toInt_lt, Int32.le_iff_toInt_le] at *
    omega)
  exact ⟨v, by have := (nI_leI hv (by decide)).mp (show nI v ≤ nI 1 from h.2); omega, rfl⟩
theorem am_ifc {P Q : Prop} [Decidable P] [Decidable Q] (h : P ↔ Q) (a b : Int32) : (if P then a else b) = if Q then a else b := by
  by_cases q : Q
  · rw [if_pos q, if_pos (h.mpr q)]
  · rw [if_neg q, if_neg (fun r => q (h.mp r))]
theorem mc_isPieceP (X : am_X) (S : MS) (P : Nat) (hP : P ≤ 3) (hp : S.1 189 0 = nI P) (p : Int32) : MC X 110 [.ref 189, .int p] S (some (.int (if isPc P p then 1 else 0))) S := by
  have h := mc_isPiece X S p
  rw [hp, am_ifc (isPc_iff hP p)] at h
  exact h
theorem mc_isSideP (X : am_X) (S : MS) (P : Nat) (hP : P ≤ 3) (hp : S.1 189 0 = nI P) (p f : Int32) : MC X 111 [.ref 189, .int p, .int f] S (some (.int (if isSd P p f then 1 else 0))) S := by
  have h := mc_isSide X S p f
  rw [hp, am_ifc (isSd_iff hP p f)] at h
  exact h
def anyN (p : Nat → Bool) (n : Nat) : Nat := if cnt p n = 0 then 0 else 1
theorem anyN_lt (p : Nat → Bool) (n : Nat) : anyN p n < 2 := by unfold anyN; split <;> omega
theorem anyN_t {p : Nat → Bool} {i : Nat} (h : p i = true) : anyN p (i + 1) = 1 := by
  unfold anyN
  rw [cnt_t h, if_neg (by omega)]
theorem anyN_s {p : Nat → Bool} {i : Nat} (h : anyN p i ≠ 0) : anyN p (i + 1) = 1 := by
  unfold anyN at h ⊢
  have : cnt p i ≠ 0 := fun q => h (if_pos q)
  have := cnt_mono p (show i ≤ i + 1 by omega)
  rw [if_neg (by omega)]
theorem anyN_f {p : Nat → Bool} {i : Nat} (h0 : anyN p i = 0) (h : ¬ p i = true) : anyN p (i + 1) = 0 := by
  unfold anyN at h0 ⊢
  have : cnt p i = 0 := by
    by_cases q : cnt p i = 0
    · exact q
    · rw [if_neg q] at h0; omega
  rw [cnt_f h, if_pos (by omega)]
theorem mc_anyBent (X : am_X) (S : MS) (P : Nat) (hP : P ≤ 3) (hp : S.1 189 0 = nI P) (hL : LN S) : MC X 125 [.ref (189)] S (some (.int (nI (anyN (fun k => decide (lb S (2 * k) = lb S (2 * k + 1))) (6 * P))))) S := by
  refine MC.of (Nat.le_of_ble_eq_true rfl) ?_
  refine an_iconst 0 d125_0 rfl ?_
  refine as_istore_n d125_1 (by decide) ?_
  refine an_iconst 0 d125_2 rfl ?_
  refine as_istore_n d125_3 (by decide) ?_
  refine AW.loc [(0, .ref (189)), (1, .int (nI (0))), (2, .int (nI (0)))] (am_pick [2, 1, 0] rfl rfl) ?_
  refine aw_for (fun i => ((4, [(0, .ref (189)), (1, .int (nI (anyN (fun k => decide (lb S (2 * k) = lb S (2 * k + 1))) (i)))), (2, .int (nI (i)))], [], 208, HP (S), 0, 0) : am_Z)) (6 * P) (rfl) (fun i hi ih => ?_) ?_
  · refine as_iload_n d125_4 rfl ?_
    refine an_bipush 6 d125_5 rfl ?_
    refine as_aload_n d125_7 rfl ?_
    refine ap_get d125_8 f125_67 (by decide) rfl rfl ?_
    refine an_top (e' := nI (P)) (hp) ?_
    refine an_imul d125_11 ?_
    refine an_icmp_ge 39 d125_12 (by decide) (by omega) (by omega) (fun c1 => by omega) (fun c1 => ?_)
    refine as_iload_n d125_15 rfl ?_
    refine an_if_ne 27 d125_16 (by decide) (Nat.lt_trans (anyN_lt _ _) (by decide)) (fun c0 => ?_) (fun c0 => ?_)
    · refine an_iconst 1 d125_27 rfl ?_
      refine as_goto 32 d125_28 (by decide) ?_
      refine as_istore_n d125_32 (by decide) ?_
      refine an_iinc 1 d125_33 rfl rfl (by decide) ?_
      refine as_goto 4 d125_36 (by decide) ?_
      refine AW.loc [(0, .ref (189)), (1, .int (nI (1))), (2, .int (nI (i + 1)))] (am_pick [2, 1, 0] rfl rfl) ?_
      first | (rw [anyN_s c0] at ih; exact ih) | (rw [anyN_t (by simp only [am_b01] at c1; simpa using c1)] at ih; exact ih) | (rw [anyN_f c0 (by simp only [am_b01] at c1; simpa using c1)] at ih; exact ih)
    · refine as_aload_n d125_19 rfl ?_
      refine as_iload_n d125_20 rfl ?_
      refine ac_v1 d125_21 c125_108 (by decide) rfl (Nat.le_of_ble_eq_true rfl) (mc_isBent X _ _ (by omega) hL) ?_
      refine as_if_eq 31 d125_24 (by decide) (fun c1 => ?_) (fun c1 => ?_)
      · refine an_iconst 0 d125_31 rfl ?_
        refine as_istore_n d125_32 (by decide) ?_
        refine an_iinc 1 d125_33 rfl rfl (by decide) ?_
        refine as_goto 4 d125_36 (by decide) ?_
        refine AW.loc [(0, .ref (189)), (1, .int (nI (0))), (2, .int (nI (i + 1)))] (am_pick [2, 1, 0] rfl rfl) ?_
        first | (rw [anyN_s c0] at ih; exact ih) | (rw [anyN_t (by simp only [am_b01] at c1; simpa using c1)] at ih; exact ih) | (rw [anyN_f c0 (by simp only [am_b01] at c1; simpa using c1)] at ih; exact ih)
      · refine an_iconst 1 d125_27 rfl ?_
        refine as_goto 32 d125_28 (by decide) ?_
        refine as_istore_n d125_32 (by decide) ?_
        refine an_iinc 1 d125_33 rfl rfl (by decide) ?_
        refine as_goto 4 d125_36 (by decide) ?_
        refine AW.loc [(0, .ref (189)), (1, .int (nI (1))), (2, .int (nI (i + 1)))] (am_pick [2, 1, 0] rfl rfl) ?_
        first | (rw [anyN_s c0] at ih; exact ih) | (rw [anyN_t (by simp only [am_b01] at c1; simpa using c1)] at ih; exact ih) | (rw [anyN_f c0 (by simp only [am_b01] at c1; simpa using c1)] at ih; exact ih)
  · refine as_iload_n d125_4 rfl ?_
    refine an_bipush 6 d125_5 rfl ?_
    refine as_aload_n d125_7 rfl ?_
    refine ap_get d125_8 f125_67 (by decide) rfl rfl ?_
    refine an_top (e' := nI (P)) (hp) ?_
    refine an_imul d125_11 ?_
    refine an_icmp_ge 39 d125_12 (by decide) (by omega) (by omega) (fun c4 => ?_) (fun c4 => by omega)
    refine as_iload_n d125_39 rfl ?_
    refine as_ireturn d125_40 (by rw [t125]; have := anyN_lt (fun k => decide (lb S (2 * k) = lb S (2 * k + 1))) (6 * P); rcases (show anyN (fun k => decide (lb S (2 * k) = lb S (2 * k + 1))) (6 * P) = 0 ∨ anyN (fun k => decide (lb S (2 * k) = lb S (2 * k + 1))) (6 * P) = 1 by omega) with e | e <;> rw [e] <;> rfl) ?_
    rfl
def sdP (mt : Nat → Option Nat) (u : Nat) (s : Nat) : Bool := match mt s with
  | none => true
  | some t => decide (u = 0) && decide (s < t)
theorem mt_some {mt : Nat → Option Nat} {s : Nat} (h : ¬ mI (mt s) = -1) : ∃ t, mt s = some t := by
  cases e : mt s with
  | none => rw [e] at h; exact absurd rfl h
  | some t => exact ⟨t, rfl⟩
theorem mt_none {P : Nat} {mt : Nat → Option Nat} {go : Nat → Nat} (hG : GW P mt go) {s : Nat} (hs : s < 4 * P) (h : mI (mt s) = -1) : mt s = none := (mI_none (fun t e => by have := (hG.2 s hs t e).1; have := hG.1; omega)).mp h
theorem mc_sides (X : am_X) (S : MS) (P : Nat) (mt : Nat → Option Nat) (go : Nat → Nat) (u : Nat) (hu : u < 2) (hG : GW P mt go) (hR : RG S P mt go) : MC X 136 [.ref (189), .int (nI (u))] S (some (.int (nI (cnt (sdP mt u) (4 * P))))) S := by
  refine MC.of (Nat.le_of_ble_eq_true rfl) ?_
  have hp := hR.1
  have hP := hG.1
  refine an_iconst 0 d136_0 rfl ?_
  refine as_istore_n d136_1 (by decide) ?_
  refine an_iconst 0 d136_2 rfl ?_
  refine as_istore_n d136_3 (by decide) ?_
  refine AW.loc [(0, .ref (189)), (1, .int (nI (u))), (2, .int (nI (0))), (3, .int (nI (0)))] (am_pick [2, 3, 1, 0] rfl rfl) ?_
  refine aw_for (fun i => ((4, [(0, .ref (189)), (1, .int (nI (u))), (2, .int (nI (cnt (sdP mt u) (i)))), (3, .int (nI (i)))], [], 208, HP (S), 0, 0) : am_Z)) (4 * P) (rfl) (fun i hi ih => ?_) ?_
  · refine as_iload_n d136_4 rfl ?_
    refine an_iconst 4 d136_5 rfl ?_
    refine as_aload_n d136_6 rfl ?_
    refine ap_get d136_7 f136_67 (by decide) rfl rfl ?_
    refine an_top (e' := nI (P)) (hp) ?_
    refine an_imul d136_10 ?_
    refine an_icmp_ge 52 d136_11 (by decide) (by omega) (by omega) (fun c1 => by omega) (fun c1 => ?_)
    refine as_iload_n d136_14 rfl ?_
    refine as_aload_n d136_15 rfl ?_
    refine ap_get d136_16 f136_7 (by decide) rfl rfl ?_
    refine as_iload_n d136_19 rfl ?_
    refine ap_iald d136_20 (fun _ _ _ _ => rfl) (by decide) (by omega) (by decide) ?_
    refine an_top (e' := mI (mt i)) (hR.2.1 i hi) ?_
    refine an_iconstI (-1) d136_21 rfl ?_
    refine as_icmp_eq 39 d136_22 (by decide) (fun c1 => ?_) (fun c1 => ?_)
    · refine an_iconst 1 d136_39 rfl ?_
      refine as_goto 44 d136_40 (by decide) ?_
      refine an_iadd d136_44 ?_
      refine as_istore_n d136_45 (by decide) ?_
      refine an_iinc 1 d136_46 rfl rfl (by decide) ?_
      refine as_goto 4 d136_49 (by decide) ?_
      refine AW.loc [(0, .ref (189)), (1, .int (nI (u))), (2, .int (nI ((cnt (sdP mt u) (i)) + (1)))), (3, .int (nI (i + 1)))] (am_pick [2, 3, 1, 0] rfl rfl) ?_
      first | (have q : sdP mt u i = true := (by unfold sdP; rw [mt_none hG hi c1]); rw [cnt_t q] at ih; exact ih) | (have q : sdP mt u i = true := (by unfold sdP; rw [e0]; simp [c2]; exact c3); rw [cnt_t q] at ih; exact ih) | (have q : ¬ sdP mt u i = true := (by unfold sdP; rw [e0]; simp [c2]; exact c3); rw [cnt_f q] at ih; exact ih) | (have q : ¬ sdP mt u i = true := (by unfold sdP; rw [e0]; simp [c2]); rw [cnt_f q] at ih; exact ih)
    · obtain ⟨t, e0⟩ := mt_some c1
      have htl := (hG.2 i hi t e0).1
      refine as_iload_n d136_25 rfl ?_
      refine an_if_ne 43 d136_26 (by decide) (by omega) (fun c2 => ?_) (fun c2 => ?_)
      · refine an_iconst 0 d136_43 rfl ?_
        refine an_iadd d136_44 ?_
        refine as_istore_n d136_45 (by decide) ?_
        refine an_iinc 1 d136_46 rfl rfl (by decide) ?_
        refine as_goto 4 d136_49 (by decide) ?_
        refine AW.loc [(0, .ref (189)), (1, .int (nI (u))), (2, .int (nI ((cnt (sdP mt u) (i)) + (0)))), (3, .int (nI (i + 1)))] (am_pick [2, 3, 1, 0] rfl rfl) ?_
        first | (have q : sdP mt u i = true := (by unfold sdP; rw [mt_none hG hi c1]); rw [cnt_t q] at ih; exact ih) | (have q : sdP mt u i = true := (by unfold sdP; rw [e0]; simp [c2]; exact c3); rw [cnt_t q] at ih; exact ih) | (have q : ¬ sdP mt u i = true := (by unfold sdP; rw [e0]; simp [c2]; exact c3); rw [cnt_f q] at ih; exact ih) | (have q : ¬ sdP mt u i = true := (by unfold sdP; rw [e0]; simp [c2]); rw [cnt_f q] at ih; exact ih)
      · refine as_iload_n d136_29 rfl ?_
        refine as_aload_n d136_30 rfl ?_
        refine ap_get d136_31 f136_7 (by decide) rfl rfl ?_
        refine as_iload_n d136_34 rfl ?_
        refine ap_iald d136_35 (fun _ _ _ _ => rfl) (by decide) (by omega) (by decide) ?_
        refine an_top (e' := nI (t)) (by rw [hR.2.1 i hi, e0]; rfl) ?_
        refine an_icmp_ge 43 d136_36 (by decide) (by omega) (by omega) (fun c3 => ?_) (fun c3 => ?_)
        · refine an_iconst 0 d136_43 rfl ?_
          refine an_iadd d136_44 ?_
          refine as_istore_n d136_45 (by decide) ?_
          refine an_iinc 1 d136_46 rfl rfl (by decide) ?_
          refine as_goto 4 d136_49 (by decide) ?_
          refine AW.loc [(0, .ref (189)), (1, .int (nI (u))), (2, .int (nI ((cnt (sdP mt u) (i)) + (0)))), (3, .int (nI (i + 1)))] (am_pick [2, 3, 1, 0] rfl rfl) ?_
          first | (have q : sdP mt u i = true := (by unfold sdP; rw [mt_none hG hi c1]); rw [cnt_t q] at ih; exact ih) | (have q : sdP mt u i = true := (by unfold sdP; rw [e0]; simp [c2]; exact c3); rw [cnt_t q] at ih; exact ih) | (have q : ¬ sdP mt u i = true := (by unfold sdP; rw [e0]; simp [c2]; exact c3); rw [cnt_f q] at ih; exact ih) | (have q : ¬ sdP mt u i = true := (by unfold sdP; rw [e0]; simp [c2]); rw [cnt_f q] at ih; exact ih)
        · refine an_iconst 1 d136_39 rfl ?_
          refine as_goto 44 d136_40 (by decide) ?_
          refine an_iadd d136_44 ?_
          refine as_istore_n d136_45 (by decide) ?_
          refine an_iinc 1 d136_46 rfl rfl (by decide) ?_
          refine as_goto 4 d136_49 (by decide) ?_
          refine AW.loc [(0, .ref (189)), (1, .int (nI (u))), (2, .int (nI ((cnt (sdP mt u) (i)) + (1)))), (3, .int (nI (i + 1)))] (am_pick [2, 3, 1, 0] rfl rfl) ?_
          first | (have q : sdP mt u i = true := (by unfold sdP; rw [mt_none hG hi c1]); rw [cnt_t q] at ih; exact ih) | (have q : sdP mt u i = true := (by unfold sdP; rw [e0]; simp [c2]; exact c3); rw [cnt_t q] at ih; exact ih) | (have q : ¬ sdP mt u i = true := (by unfold sdP; rw [e0]; simp [c2]; exact c3); rw [cnt_f q] at ih; exact ih) | (have q : ¬ sdP mt u i = true := (by unfold sdP; rw [e0]; simp [c2]); rw [cnt_f q] at ih; exact ih)
  · refine as_iload_n d136_4 rfl ?_
    refine an_iconst 4 d136_5 rfl ?_
    refine as_aload_n d136_6 rfl ?_
    refine ap_get d136_7 f136_67 (by decide) rfl rfl ?_
    refine an_top (e' := nI (P)) (hp) ?_
    refine an_imul d136_10 ?_
    refine an_icmp_ge 52 d136_11 (by decide) (by omega) (by omega) (fun c5 => ?_) (fun c5 => by omega)
    refine as_iload_n d136_52 rfl ?_
    refine as_ireturn d136_53 (by rw [t136]; rfl) ?_
    rfl
def aAcross (P : Nat) (mt : Nat → Option Nat) (p f what : Int32) : Int32 := if isSd P p f ∧ 0 ≤ what ∧ what ≤ 1 then (match mt (sdN p f) with | none => -1 | some t => if what = 0 then nI (t / 4) else nI (t % 4)) else -2
theorem am_b1 {P : Prop} [Decidable P] (h : ¬ (if P then (1 : Int32) else 0) = 0) : P := Classical.not_not.mp (fun q => h (am_b01.mpr q))
theorem mc_across (X : am_X) (S : MS) (P : Nat) (mt : Nat → Option Nat) (go : Nat → Nat) (p f what : Int32) (hG : GW P mt go) (hR : RG S P mt go) : MC X 131 [.ref (189), .int (p), .int (f), .int (what)] S (some (.int (aAcross P mt p f what))) S := by
  have hp := hR.1
  have hP := hG.1
  by_cases hv : isSd P p f ∧ 0 ≤ what ∧ what ≤ 1
  · obtain ⟨q, g, hq, hg, rfl, rfl, hs⟩ := isSd_n hP hv.1
    obtain ⟨u, hu, rfl⟩ := in01 hv.2
    refine MC.of (Nat.le_of_ble_eq_true rfl) ?_
    refine as_aload_n d131_0 rfl ?_
    refine as_iload_n d131_1 rfl ?_
    refine as_iload_n d131_2 rfl ?_
    refine ac_v2 d131_3 c131_114 (by decide) rfl (Nat.le_of_ble_eq_true rfl) (mc_isSideP X _ P hP hp _ _) ?_
    refine as_if_eq 18 d131_6 (by decide) (fun c1 => absurd hv.1 (am_b01.mp c1)) (fun c1 => ?_)
    refine as_iload_n d131_9 rfl ?_
    refine an_iconst 0 d131_10 rfl ?_
    refine an_iconst 1 d131_11 rfl ?_
    refine ac_s3 d131_12 c131_71 (by decide) (Nat.le_of_ble_eq_true rfl) (mc_in X _ _ _ _) ?_
    refine as_if_ne 21 d131_15 (by decide) (fun c2 => ?_) (fun c2 => absurd hv.2 (am_b01.mp c2))
    refine as_aload_n d131_21 rfl ?_
    refine ap_get d131_22 f131_7 (by decide) rfl rfl ?_
    refine an_iconst 4 d131_25 rfl ?_
    refine as_iload_n d131_26 rfl ?_
    refine an_imul d131_27 ?_
    refine as_iload_n d131_28 rfl ?_
    refine an_iadd d131_29 ?_
    refine ap_iald d131_30 (fun _ _ _ _ => rfl) (by decide) (by omega) (by decide) ?_
    refine an_top (e' := mI (mt (4 * q + g))) (hR.2.1 _ (by omega)) ?_
    refine as_istore d131_31 (by decide) ?_
    refine as_iload d131_33 rfl ?_
    refine an_iconstI (-1) d131_35 rfl ?_
    refine as_icmp_ne 43 d131_36 (by decide) (fun c3 => ?_) (fun c3 => ?_)
    · obtain ⟨t, e0⟩ := mt_some c3
      have htl := (hG.2 (4 * q + g) (by omega) t e0).1
      refine as_iload_n d131_43 rfl ?_
      refine an_if_ne 54 d131_44 (by decide) (by omega) (fun c4 => ?_) (fun c4 => ?_)
      · refine as_iload d131_54 rfl ?_
        refine an_top (e' := nI (t)) (by rw [e0]; rfl) ?_
        refine an_iconst 4 d131_56 rfl ?_
        refine an_irem d131_57 (by omega) (by omega) (by omega) ?_
        refine as_ireturn d131_58 (by rw [t131]; rfl) ?_
        refine am_req ?_
        unfold aAcross
        rw [if_pos hv, hs]
        first | (rw [mt_none hG (by omega) c3]) | (rw [e0]; show _ = if nI u = 0 then _ else _; first | (rw [if_neg (fun h => c4 ((nI_z (by omega)).mp h))]) | (rw [if_pos ((nI_z (by omega)).mpr c4)]))
      · refine as_iload d131_47 rfl ?_
        refine an_top (e' := nI (t)) (by rw [e0]; rfl) ?_
        refine an_iconst 4 d131_49 rfl ?_
        refine an_idiv d131_50 (by omega) (by omega) (by omega) ?_
        refine as_goto 58 d131_51 (by decide) ?_
        refine as_ireturn d131_58 (by rw [t131]; rfl) ?_
        refine am_req ?_
        unfold aAcross
        rw [if_pos hv, hs]
        first | (rw [mt_none hG (by omega) c3]) | (rw [e0]; show _ = if nI u = 0 then _ else _; first | (rw [if_neg (fun h => c4 ((nI_z (by omega)).mp h))]) | (rw [if_pos ((nI_z (by omega)).mpr c4)]))
    · refine an_iconstI (-1) d131_39 rfl ?_
      refine as_goto 58 d131_40 (by decide) ?_
      refine as_ireturn d131_58 (by rw [t131]; rfl) ?_
      refine am_req ?_
      unfold aAcross
      rw [if_pos hv, hs]
      first | (rw [mt_none hG (by omega) c3]) | (rw [e0]; show _ = if nI u = 0 then _ else _; first | (rw [if_neg (fun h => c4 ((nI_z (by omega)).mp h))]) | (rw [if_pos ((nI_z (by omega)).mpr c4)]))
  · refine MC.of (Nat.le_of_ble_eq_true rfl) ?_
    refine as_aload_n d131_0 rfl ?_
    refine as_iload_n d131_1 rfl ?_
    refine as_iload_n d131_2 rfl ?_
    refine ac_v2 d131_3 c131_114 (by decide) rfl (Nat.le_of_ble_eq_true rfl) (mc_isSideP X _ P hP hp _ _) ?_
    refine as_if_eq 18 d131_6 (by decide) (fun c1 => ?_) (fun c1 => ?_)
    · refine an_bipushI (-2) d131_18 rfl ?_
      refine as_ireturn d131_20 (by rw [t131]; rfl) ?_
      refine am_req ?_
      unfold aAcross
      rw [if_neg hv]
    · refine as_iload_n d131_9 rfl ?_
      refine an_iconst 0 d131_10 rfl ?_
      refine an_iconst 1 d131_11 rfl ?_
      refine ac_s3 d131_12 c131_71 (by decide) (Nat.le_of_ble_eq_true rfl) (mc_in X _ _ _ _) ?_
      refine as_if_ne 21 d131_15 (by decide) (fun c2 => ?_) (fun c2 => ?_)
      · exact absurd ⟨am_b1 c1, am_b1 c2⟩ hv
      · refine an_bipushI (-2) d131_18 rfl ?_
        refine as_ireturn d131_20 (by rw [t131]; rfl) ?_
        refine am_req ?_
        unfold aAcross
        rw [if_neg hv]
def oBad (P : Nat) (mt : Nat → Option Nat) (p f : Int32) : Int32 := if isSd P p f then (match mt (sdN p f) with | none => -3 | some _ => 1) else -2
def oMem (S : MS) (P : Nat) (mt : Nat → Option Nat) (p f : Int32) : MS := if isSd P p f then (match mt (sdN p f) with | none => S | some t => (S.sa 190 t (-1)).sa 190 (sdN p f) (-1)) else S
theorem am_rr {v w : Int32} {S T : MS} (h : v = w) (h2 : S = T) : ((some (.int v), 208, HP S, 0, 0) : am_R) = (some (.int w), 208, HP T, 0, 0) := by rw [h, h2]
theorem mc_open (X : am_X) (S : MS) (P : Nat) (mt : Nat → Option Nat) (go : Nat → Nat) (p f : Int32) (hG : GW P mt go) (hR : RG S P mt go) : MC X 129 [.ref (189), .int (p), .int (f)] S (some (.int (oBad P mt p f))) (oMem S P mt p f) := by
  have hp := hR.1
  have hP := hG.1
  by_cases hv : isSd P p f
  · obtain ⟨q, g, hq, hg, rfl, rfl, hs⟩ := isSd_n hP hv
    refine MC.of (Nat.le_of_ble_eq_true rfl) ?_
    refine as_aload_n d129_0 rfl ?_
    refine as_iload_n d129_1 rfl ?_
    refine as_iload_n d129_2 rfl ?_
    refine ac_v2 d129_3 c129_114 (by decide) rfl (Nat.le_of_ble_eq_true rfl) (mc_isSideP X _ P hP hp _ _) ?_
    refine as_if_ne 12 d129_6 (by decide) (fun c1 => ?_) (fun c1 => absurd hv (am_b01.mp c1))
    refine an_iconst 4 d129_12 rfl ?_
    refine as_iload_n d129_13 rfl ?_
    refine an_imul d129_14 ?_
    refine as_iload_n d129_15 rfl ?_
    refine an_iadd d129_16 ?_
    refine as_istore_n d129_17 (by decide) ?_
    refine as_aload_n d129_18 rfl ?_
    refine ap_get d129_19 f129_7 (by decide) rfl rfl ?_
    refine as_iload_n d129_22 rfl ?_
    refine ap_iald d129_23 (fun _ _ _ _ => rfl) (by decide) (by omega) (by decide) ?_
    refine an_top (e' := mI (mt (4 * q + g))) (hR.2.1 _ (by omega)) ?_
    refine an_iconstI (-1) d129_24 rfl ?_
    refine as_icmp_ne 31 d129_25 (by decide) (fun c3 => ?_) (fun c3 => ?_)
    · obtain ⟨t, e0⟩ := mt_some c3
      have htl := (hG.2 (4 * q + g) (by omega) t e0).1
      refine as_aload_n d129_31 rfl ?_
      refine ap_get d129_32 f129_7 (by decide) rfl rfl ?_
      refine as_aload_n d129_35 rfl ?_
      refine ap_get d129_36 f129_7 (by decide) rfl rfl ?_
      refine as_iload_n d129_39 rfl ?_
      refine ap_iald d129_40 (fun _ _ _ _ => rfl) (by decide) (by omega) (by decide) ?_
      refine an_top (e' := nI (t)) (by rw [hR.2.1 _ (by omega), e0]; rfl) ?_
      refine an_iconstI (-1) d129_41 rfl ?_
      refine ap_iast d129_42 (fun _ _ _ _ => rfl) (by decide) (by omega) (by decide) ?_
      refine as_aload_n d129_43 rfl ?_
      refine ap_get d129_44 f129_7 (by decide) rfl rfl ?_
      refine as_iload_n d129_47 rfl ?_
      refine an_iconstI (-1) d129_48 rfl ?_
      refine ap_iast d129_49 (fun _ _ _ _ => rfl) (by decide) (by omega) (by decide) ?_
      refine an_iconst 1 d129_50 rfl ?_
      refine as_ireturn d129_51 (by rw [t129]; rfl) ?_
      refine am_rr ?_ ?_
      · unfold oBad
        rw [if_pos hv, hs]
        first | rw [mt_none hG (by omega) c3] | (rw [e0]; rfl)
      · unfold oMem
        rw [if_pos hv, hs]
        first | rw [mt_none hG (by omega) c3] | (rw [e0])
    · refine an_bipushI (-3) d129_28 rfl ?_
      refine as_ireturn d129_30 (by rw [t129]; rfl) ?_
      refine am_rr ?_ ?_
      · unfold oBad
        rw [if_pos hv, hs]
        first | rw [mt_none hG (by omega) c3] | (rw [e0]; rfl)
      · unfold oMem
        rw [if_pos hv, hs]
        first | rw [mt_none hG (by omega) c3] | (rw [e0])
  · refine MC.of (Nat.le_of_ble_eq_true rfl) ?_
    refine as_aload_n d129_0 rfl ?_
    refine as_iload_n d129_1 rfl ?_
    refine as_iload_n d129_2 rfl ?_
    refine ac_v2 d129_3 c129_114 (by decide) rfl (Nat.le_of_ble_eq_true rfl) (mc_isSideP X _ P hP hp _ _) ?_
    refine as_if_ne 12 d129_6 (by decide) (fun c1 => ?_) (fun c1 => ?_)
    · exact absurd (am_b1 c1) hv
    · refine an_bipushI (-2) d129_9 rfl ?_
      refine as_ireturn d129_11 (by rw [t129]; rfl) ?_
      refine am_rr ?_ ?_
      · unfold oBad
        rw [if_neg hv]
      · unfold oMem
        rw [if_neg hv]
theorem mc_clear (X : am_X) (S : MS) : MC X 130 [.ref 189] S (some (.int (S.1 189 0))) (zRow (S.sf 189 0 (nI 0)) 192 21) := by
  refine MC.of (Nat.le_of_ble_eq_true rfl) ?_
  refine as_aload_n d130_0 rfl ?_
  refine ap_get d130_1 f130_67 (by decide) rfl rfl ?_
  refine as_istore_n d130_4 (by decide) ?_
  refine as_aload_n d130_5 rfl ?_
  refine an_iconst 0 d130_6 rfl ?_
  refine ap_put d130_7 f130_67 (by decide) rfl (Nat.le_of_ble_eq_true rfl) (rfl) rfl rfl ?_
  refine as_aload_n d130_10 rfl ?_
  refine ac_v0 d130_11 c130_111 (by decide) rfl (Nat.le_of_ble_eq_true rfl) (mc_empty X _) ?_
  refine as_iload_n d130_14 rfl ?_
  refine as_ireturn d130_15 (by rw [t130]; rfl) ?_
  rfl
def pcRow (S : MS) (P : Nat) : Nat → MS
  | 0 => S
  | i + 1 => (pcRow S P i).sa 190 (4 * P + i) (-1)
theorem pcRow_0 (S : MS) (P : Nat) : pcRow S P 0 = S := rfl
theorem pcRow_fi (S : MS) (P : Nat) : ∀ n, (pcRow S P n).1 = S.1
  | 0 => rfl
  | n + 1 => pcRow_fi S P n
def pcMem (S : MS) (P : Nat) : MS := if P = 3 then S else zRow ((pcRow S P 4).sf 189 0 (nI (P + 1))) 192 21
theorem zRow_fi (S : MS) (A : Nat) : ∀ n, (zRow S A n).1 = S.1
  | 0 => rfl
  | n + 1 => zRow_fi S A n
theorem mc_piece (X : am_X) (S : MS) (P : Nat) (hP : P ≤ 3) (hp : S.1 189 0 = nI P) : MC X 126 [.ref 189] S (some (.int (if P = 3 then -4 else nI P))) (pcMem S P) := by
  refine MC.of (Nat.le_of_ble_eq_true rfl) ?_
  refine as_aload_n d126_0 rfl ?_
  refine ap_get d126_1 f126_67 (by decide) rfl rfl ?_
  refine an_top (e' := nI (P)) (hp) ?_
  refine an_iconst 3 d126_4 rfl ?_
  refine an_icmp_ne 11 d126_5 (by decide) (by omega) (by omega) (fun c1 => ?_) (fun c1 => ?_)
  · refine an_iconst 0 d126_11 rfl ?_
    refine as_istore_n d126_12 (by decide) ?_
    refine AW.loc [(0, .ref (189)), (1, .int (nI (0)))] (am_pick [1, 0] rfl rfl) ?_
    refine aw_for (fun i => ((13, [(0, .ref (189)), (1, .int (nI (i)))], [], 208, HP (pcRow S P (i)), 0, 0) : am_Z)) (4) (by simp only [pcRow_0]) (fun i hi ih => ?_) ?_
    · refine as_iload_n d126_13 rfl ?_
      refine an_iconst 4 d126_14 rfl ?_
      refine an_icmp_ge 38 d126_15 (by decide) (by omega) (by omega) (fun c2 => by omega) (fun c2 => ?_)
      refine as_aload_n d126_18 rfl ?_
      refine ap_get d126_19 f126_7 (by decide) rfl rfl ?_
      refine an_iconst 4 d126_22 rfl ?_
      refine as_aload_n d126_23 rfl ?_
      refine ap_get d126_24 f126_67 (by decide) rfl rfl ?_
      refine an_top (e' := nI (P)) (by rw [pcRow_fi]; exact hp) ?_
      refine an_imul d126_27 ?_
      refine as_iload_n d126_28 rfl ?_
      refine an_iadd d126_29 ?_
      refine an_iconstI (-1) d126_30 rfl ?_
      refine ap_iast d126_31 (fun _ _ _ _ => rfl) (by decide) (by omega) (by decide) ?_
      refine an_iinc 1 d126_32 rfl rfl (by decide) ?_
      refine as_goto 13 d126_35 (by decide) ?_
      refine AW.loc [(0, .ref (189)), (1, .int (nI (i + 1)))] (am_pick [1, 0] rfl rfl) ?_
      exact ih
    · refine as_iload_n d126_13 rfl ?_
      refine an_iconst 4 d126_14 rfl ?_
      refine an_icmp_ge 38 d126_15 (by decide) (by omega) (by omega) (fun c3 => ?_) (fun c3 => by omega)
      refine as_aload_n d126_38 rfl ?_
      refine as_dup d126_39 rfl ?_
      refine ap_get d126_40 f126_67 (by decide) rfl rfl ?_
      refine an_top (e' := nI (P)) (by rw [pcRow_fi]; exact hp) ?_
      refine an_iconst 1 d126_43 rfl ?_
      refine an_iadd d126_44 ?_
      refine ap_put d126_45 f126_67 (by decide) rfl (Nat.le_of_ble_eq_true rfl) (rfl) rfl rfl ?_
      refine as_aload_n d126_48 rfl ?_
      refine ac_v0 d126_49 c126_111 (by decide) rfl (Nat.le_of_ble_eq_true rfl) (mc_empty X _) ?_
      refine as_aload_n d126_52 rfl ?_
      refine ap_get d126_53 f126_67 (by decide) rfl rfl ?_
      refine an_top (e' := nI (P + 1)) (by rw [zRow_fi]; show u2 (pcRow S P 4).1 189 0 _ 189 0 = _; rw [u2_at]; exact if_pos ⟨rfl, rfl⟩) ?_
      refine an_iconst 1 d126_56 rfl ?_
      refine an_isub d126_57 (by omega) ?_
      refine as_ireturn d126_58 (by rw [t126]; rfl) ?_
      refine am_rr ?_ ?_
      · first | (rw [if_neg c1]; exact congrArg nI (by omega)) | rw [if_pos c1]
      · unfold pcMem
        first | rw [if_neg c1] | rw [if_pos c1]
  · refine an_bipushI (-4) d126_8 rfl ?_
    refine as_ireturn d126_10 (by rw [t126]; rfl) ?_
    refine am_rr ?_ ?_
    · first | (rw [if_neg c1]; exact congrArg nI (by omega)) | rw [if_pos c1]
    · unfold pcMem
      first | rw [if_neg c1] | rw [if_pos c1]
