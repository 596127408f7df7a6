/-! holes: the reference's holes, by a property G that its steps keep -/
def abM (B : MT) (i j : Nat) : Int := ((B i j).natAbs : Int)
theorem hKeep.tk {S T U : MS} (h : hKeep S T) (g : tKeep T U) : hKeep S U := ⟨fun k a => by rw [g.2.1]; exact h.1 k a, fun k a => (g.2.2.2 k a).trans (h.2.1 k a), by rw [g.2.2.1]; exact h.2.2.1, fun i j a => by rw [g.1]; exact h.2.2.2 i j a⟩
theorem dgF_cg {B D : MT} {t : Nat} (h : ∀ j, j < t → D j j = B j j) : ∀ j, j < t → dgF (abM D) j = dgF (abM B) j := fun j hj => by
  show decide (1 < ((D j j).natAbs : Int)) = decide (1 < ((B j j).natAbs : Int))
  rw [h j hj]
theorem abO_cg {B D : MT} {t : Nat} {i x : Int32} (h : ∀ j, j < t → D j j = B j j) (g : abO (abM B) t i x) : abO (abM D) t i x := by
  have hc : ∀ j, j ≤ t → cnt (dgF (abM D)) j = cnt (dgF (abM B)) j := fun j hj => cnt_congr j (fun q hq => dgF_cg h q (by omega))
  rcases g with ⟨d, g1, g2, g3, g4⟩ | ⟨g1, g2⟩
  · exact Or.inl ⟨d, g1, by rw [dgF_cg h d g1]; exact g2, by rw [hc d (by omega)]; exact g3, by rw [g4]; show _ = (Int64.ofInt ((D d d).natAbs : Int)).toInt32; rw [h d g1]; rfl⟩
  · exact Or.inr ⟨g1, fun d hd hf => by rw [hc d (by omega)]; exact g2 d hd (by rw [← dgF_cg h d hd]; exact hf)⟩
theorem abO_f {D : MT} {t : Nat} {i x : Int32} (g : abO (abM D) t i x) (h : ¬ dgF (abM D) t = true) : abO (abM D) (t + 1) i x := by
  rcases g with ⟨d, g1, g2⟩ | ⟨g1, g2⟩
  · exact Or.inl ⟨d, by omega, g2⟩
  · refine Or.inr ⟨g1, fun d hd hf => ?_⟩
    by_cases w : d = t
    · rw [w] at hf; exact absurd hf h
    · exact g2 d (by omega) hf
theorem abO_n {D : MT} {t : Nat} {i x : Int32} (g : abO (abM D) t i x) (h : ¬ nI (cnt (dgF (abM D)) t + 1) = i) : abO (abM D) (t + 1) i x := by
  rcases g with ⟨d, g1, g2⟩ | ⟨g1, g2⟩
  · exact Or.inl ⟨d, by omega, g2⟩
  · refine Or.inr ⟨g1, fun d hd hf => ?_⟩
    by_cases w : d = t
    · rw [w]; exact h
    · exact g2 d (by omega) hf
theorem abO_t {D : MT} {t : Nat} {i : Int32} (h : dgF (abM D) t = true) (g : nI (cnt (dgF (abM D)) t + 1) = i) : abO (abM D) (t + 1) i (Int64.ofInt (abM D t t)).toInt32 := Or.inl ⟨t, by omega, h, g, rfl⟩
theorem lps_cg {f g : Nat → Bool} : ∀ n, (∀ k, k < n → f k = g k) → lps f n = lps g n
  | 0, _ => rfl
  | n + 1, h => by
    show lps f n ++ _ = lps g n ++ _
    rw [lps_cg n (fun k hk => h k (by omega)), h n (by omega)]
/-- the steps of the reference keep G -/
def HR (R C : Nat) (G : Nat → Nat → MT → Prop) : Prop := ∀ d n A, G d n A → d < R → d < C → smB A d R C ∧ ∀ r c, isLe A d R C r c → ∀ B, B = swM A d r c → ((∀ i, i < R → sm (B i d)) ∧ (∀ j, j < C → sm (B d j))) ∧ ∀ D, D = rcM (rdR B d R) d C → smB D d R C ∧ (((∃ i, d < i ∧ i < R ∧ rdR B d R i d ≠ 0) ∨ ∃ j, d < j ∧ j < C ∧ D d j ≠ 0) → ∃ n', n' < n ∧ G d n' D) ∧ ((∀ i, d < i → i < R → rdR B d R i d = 0) → (∀ j, d < j → j < C → D d j = 0) → (∀ r c, d < r → r < R → d < c → c < C → ¬ dvP D d r c → ∃ n', n' < n ∧ G d n' (adS D d r C)) ∧ ((∀ r, d < r → r < R → ∀ c, d < c → c < C → dvP D d r c) → ∃ n', G (d + 1) n' D))
theorem swM_dd (A : MT) (d r c : Nat) : swM A d r c d d = A r c := by
  unfold swM
  rw [swC_a, swC_a]
theorem swC_lo {a b j : Nat} (h : j < a) (g : a ≤ b) : swC a b j = j := by
  show (if j = b then a else if j = a then b else j) = j
  rw [if_neg (by omega), if_neg (by omega)]
theorem swM_lo {A : MT} {d r c j : Nat} (hr : d ≤ r) (hc : d ≤ c) (h : j < d) : swM A d r c j j = A j j := by
  unfold swM
  rw [swC_lo h hr, swC_lo h hc]
theorem red_lo {B : MT} {d R C j : Nat} (h : j < d) : rcM (rdR B d R) d C j j = B j j := by
  show rdR (trM (rdR B d R)) d C j j = _
  rw [show rdR (trM (rdR B d R)) d C j j = trM (rdR B d R) j j from if_neg (by omega)]
  exact if_neg (by omega)
theorem red_dd {B : MT} {d R C : Nat} : rcM (rdR B d R) d C d d = B d d := (rcM_row (Nat.le_refl d) d).trans rdR_d
theorem isLe_ex {A : MT} {d R C : Nat} (hd : d < R) (hd2 : d < C) (h : A d d ≠ 0) (g : ∀ i j, d ≤ i → i < R → d ≤ j → j < C → A i j = 0) : False := h (g d d (Nat.le_refl _) hd (Nat.le_refl _) hd2)
theorem mc_holesR1 (X : am_X) (S : MS) (i : Int32) (hi : ¬ 0 ≤ i) : MC X 148 [.ref (189), .int (i)] S (some (.int (-2))) S := by
  refine MC.of (Nat.le_of_ble_eq_true rfl) ?_
  refine as_iload_n d148_0 rfl ?_
  refine as_if_ge 7 d148_1 (by decide) (fun c1 => absurd c1 hi) (fun c1 => ?_)
  refine an_bipushI (-2) d148_4 rfl ?_
  refine as_ireturn d148_6 (by rw [t148]; rfl) ?_
  rfl
theorem mx_holesR2 (X : am_X) (S : MS) (P : Nat) (mt : Nat → Option Nat) (go : Nat → Nat) (hG : GW P mt go) (hR : RG S P mt go) (hA : ∀ T, LabS T P mt go → anyN (fun k => decide (lb T (2 * k) = lb T (2 * k + 1))) (6 * P) = 1) (i : Int32) (hi : 0 ≤ i) : ∃ T, MC X 148 [.ref (189), .int (i)] S (some (.int (-3))) T ∧ rKeep S T := by
  have hP := hG.1
  obtain ⟨T0, a1, a2, a3⟩ := mc_label X S P mt go hG hR
  have hR0 := hR.keep a2
  have a5 := mc_anyBent X T0 P hP hR0.1 a3.n
  rw [hA T0 a3] at a5
  refine ⟨T0, ?_, a2⟩
  refine MC.of (Nat.le_of_ble_eq_true rfl) ?_
  refine as_iload_n d148_0 rfl ?_
  refine as_if_ge 7 d148_1 (by decide) (fun c1 => ?_) (fun c1 => absurd hi c1)
  refine as_aload_n d148_7 rfl ?_
  refine ac_v0 d148_8 c148_118 (by decide) rfl (Nat.le_of_ble_eq_true rfl) (a1) ?_
  refine as_aload_n d148_11 rfl ?_
  refine ac_v0 d148_12 c148_136 (by decide) rfl (Nat.le_of_ble_eq_true rfl) (a5) ?_
  refine an_if_eq 21 d148_15 (by decide) (by omega) (fun c15 => absurd c15 (by decide)) (fun c15 => ?_)
  refine an_bipushI (-3) d148_18 rfl ?_
  refine as_ireturn d148_20 (by rw [t148]; rfl) ?_
  rfl
theorem mx_holesR3 (X : am_X) (S : MS) (P : Nat) (mt : Nat → Option Nat) (go : Nat → Nat) (hG : GW P mt go) (hR : RG S P mt go) (hA : ∀ T, LabS T P mt go → anyN (fun k => decide (lb T (2 * k) = lb T (2 * k + 1))) (6 * P) = 0) (f : Nat → Bool) (hf : ∀ T, LabS T P mt go → ∀ k, k < 6 * P → decide (eL T k = k) = f k) (ns : Nat) (hns : ∀ T, LabS T P mt go → cnt (fun k => decide (sb T k = k)) P = ns) (n : Nat → Nat) (x : Nat → Nat → WS) (hx : ∀ k, k < 6 * P → WX mt go k (n k) (x k)) (G : Nat → Nat → MT → Prop) (hH : HR ((lps (fun k => f k && clo mt go n x k) (6 * P)).length) (cnt (prN mt) (4 * P)) G) (hGd : ∀ rk nn B, G rk nn B → ∀ d, d < rk → sm (B d d)) (n0 : Nat) (h0 : G 0 n0 (lpM mt n x (lps (fun k => f k && clo mt go n x k) (6 * P)))) (i : Int32) (hi : 0 ≤ i) : ∃ v T, MC X 148 [.ref (189), .int (i)] S v T ∧ (∃ U, rKeep S U ∧ hKeep U T) ∧ ∃ rk nn B z, rk ≤ min ((lps (fun k => f k && clo mt go n x k) (6 * P)).length) (cnt (prN mt) (4 * P)) ∧ v = some (.int z) ∧ G rk nn B ∧ (rk = min ((lps (fun k => f k && clo mt go n x k) (6 * P)).length) (cnt (prN mt) (4 * P)) ∨ ∀ i j, rk ≤ i → i < (lps (fun k => f k && clo mt go n x k) (6 * P)).length → rk ≤ j → j < cnt (prN mt) (4 * P) → B i j = 0) ∧ (i = 0 → z = nI (cnt (prN mt) (4 * P)) - nI P + nI ns - nI rk) ∧ (i ≠ 0 → abO (abM B) rk i z) := by
  have hP := hG.1
  have hm := prs_6 hG
  obtain ⟨T0, a1, a2, a3⟩ := mc_label X S P mt go hG hR
  have hR0 := hR.keep a2
  have a5 := mc_anyBent X T0 P hP hR0.1 a3.n
  rw [hA T0 a3] at a5
  obtain ⟨T1, b1, b2, b3, b4⟩ := mx_layLoops X T0 P mt go hG hR0 a3.n n x hx
  rw [lps_cg (g := (fun k => f k && clo mt go n x k)) (6 * P) (fun k hk => by rw [hf T0 a3 k hk])] at b4
  have hlen := lps_len (fun k => f k && clo mt go n x k) (6 * P)
  have hM1 : MXr T1 ((lps (fun k => f k && clo mt go n x k) (6 * P)).length) (cnt (prN mt) (4 * P)) (lpM mt n x (lps (fun k => f k && clo mt go n x k) (6 * P))) := ⟨b4.1, b3, b4.2⟩
  obtain ⟨R, eR⟩ : ∃ R, R = (lps (fun k => f k && clo mt go n x k) (6 * P)).length := ⟨_, rfl⟩
  obtain ⟨C, eC⟩ : ∃ C, C = cnt (prN mt) (4 * P) := ⟨_, rfl⟩
  obtain ⟨M0, eM⟩ : ∃ M, M = lpM mt n x (lps (fun k => f k && clo mt go n x k) (6 * P)) := ⟨_, rfl⟩
  rw [← eR, ← eC, ← eM] at hM1
  rw [← eR, ← eC] at hH
  rw [← eM] at h0
  rw [← eR, ← eC]
  have hR18 : R ≤ 18 := by omega
  have hC6 : C ≤ 6 := by omega
  have hns0 := hns T0 a3
  refine MX.mc (X := X) (mj := 148) (as := [.ref (189), .int (i)]) (S := S) (Post := fun v T => (∃ U, rKeep S U ∧ hKeep U T) ∧ ∃ rk nn B z, rk ≤ min (R) (C) ∧ v = some (.int z) ∧ G rk nn B ∧ (rk = min (R) (C) ∨ ∀ i j, rk ≤ i → i < R → rk ≤ j → j < C → B i j = 0) ∧ (i = 0 → z = nI (C) - nI P + nI ns - nI rk) ∧ (i ≠ 0 → abO (abM B) rk i z)) ?_
  refine MX.of (Nat.le_of_ble_eq_true rfl) ?_
  refine as_iload_n d148_0 rfl ?_
  refine as_if_ge 7 d148_1 (by decide) (fun c1 => ?_) (fun c1 => absurd hi c1)
  refine as_aload_n d148_7 rfl ?_
  refine ac_v0 d148_8 c148_118 (by decide) rfl (Nat.le_of_ble_eq_true rfl) (a1) ?_
  refine as_aload_n d148_11 rfl ?_
  refine ac_v0 d148_12 c148_136 (by decide) rfl (Nat.le_of_ble_eq_true rfl) (a5) ?_
  refine an_if_eq 21 d148_15 (by decide) (by omega) (fun c15 => ?_) (fun c15 => absurd c15 (by decide))
  refine as_aload_n d148_21 rfl ?_
  refine ac_v0 d148_22 c148_177 (by decide) rfl (Nat.le_of_ble_eq_true rfl) (b1) ?_
  refine an_iconst 0 d148_25 rfl ?_
  refine as_istore_n d148_26 (by decide) ?_
  refine an_iconst 0 d148_27 rfl ?_
  refine as_istore_n d148_28 (by decide) ?_
  refine an_iconstI (-1) d148_29 rfl ?_
  refine as_istore d148_30 (by decide) ?_
  refine AW.loc [(0, .ref (189)), (1, .int (i)), (2, .int (nI (0))), (3, .int (nI (0))), (4, .int ((-1)))] (am_pick [3, 4, 2, 1, 0] rfl rfl) ?_
  refine aw_inv2 (σ := (MS) × (Nat) × (Nat) × (Int32)) (fun σ => ((32, [(0, .ref (189)), (1, .int (i)), (2, .int (nI (σ.2.1))), (3, .int (nI (σ.2.2.1))), (4, .int (σ.2.2.2))], [], 208, HP (σ.1), 0, 0) : am_Z)) (fun σ => tKeep T1 (σ.1) ∧ σ.2.1 ≤ min R C ∧ ∃ n9 B, G (σ.2.1) n9 B ∧ MXr (σ.1) R C B ∧ σ.2.2.1 = cnt (dgF (abM B)) (σ.2.1) ∧ abO (abM B) (σ.2.1) i (σ.2.2.2)) (fun σ => 20 - σ.2.1) (fun σ hσ ihσ => ?_) (T1, 0, 0, (-1)) (rfl) (by dsimp only; exact ⟨tKeep.rf T1, Nat.zero_le _, n0, M0, h0, hM1, rfl, Or.inr ⟨rfl, fun d hd => by omega⟩⟩)
  obtain ⟨T, t, ab, fd⟩ := σ
  dsimp only at hσ ihσ ⊢
  obtain ⟨o1, o2, n9, B, o3, o4, o5, o6⟩ := hσ
  have ihO := ihσ
  have hmL := Nat.min_le_left R C
  have hmR := Nat.min_le_right R C
  have hLT := a3.n.hk (b2.tk o1)
  have hPT : T.1 189 0 = nI P := ((b2.tk o1).2.2.2 189 0 (by omega)).trans hR0.1
  have hsm := mc_setMany X T P hP hPT hLT
  rw [show cnt (fun k => decide (sb T k = k)) P = ns by rw [← hns0]; exact cnt_congr P (fun k _ => by unfold sb; rw [(b2.tk o1).1 197 (by decide)])] at hsm
  refine as_iload_n d148_32 rfl ?_
  refine as_aload_n d148_33 rfl ?_
  refine ap_get d148_34 f148_162 (by decide) rfl rfl ?_
  refine an_top (e' := nI (R)) (by first | exact o4.1 | exact q2.1) ?_
  refine an_icmp_ge 145 d148_37 (by decide) (by omega) (by omega) (fun c37 => ?_) (fun c37 => ?_)
  · have hfin : t = min R C ∨ ∀ i j, t ≤ i → i < R → t ≤ j → j < C → B i j = 0 := Or.inl (by omega)
    refine as_iload_n d148_145 rfl ?_
    refine as_if_ne 168 d148_146 (by decide) (fun c146 => ?_) (fun c146 => ?_)
    · refine as_iload d148_168 rfl ?_
      refine as_ireturn d148_170 (by rw [t148]; rfl) ?_
      first
      | exact ⟨_, _, rfl, ⟨T0, a2, b2.tk o1⟩, t, n9, B, _, o2, rfl, o3, hfin, fun _ => rfl, fun q => absurd c146 q⟩
      | exact ⟨_, _, rfl, ⟨T0, a2, b2.tk o1⟩, t, n9, B, _, o2, rfl, o3, hfin, fun q => absurd q c146, fun _ => o6⟩
    · refine as_aload_n d148_149 rfl ?_
      refine ap_get d148_150 f148_159 (by decide) rfl rfl ?_
      refine an_top (e' := nI (C)) (by first | exact o4.2.1 | exact q2.2.1) ?_
      refine as_aload_n d148_153 rfl ?_
      refine ap_get d148_154 f148_67 (by decide) rfl rfl ?_
      refine an_top (e' := nI (P)) (hPT) ?_
      refine as_isub d148_157 ?_
      refine as_aload_n d148_158 rfl ?_
      refine ac_v0 d148_159 c148_156 (by decide) rfl (Nat.le_of_ble_eq_true rfl) (hsm) ?_
      refine as_iadd d148_162 ?_
      refine as_iload_n d148_163 rfl ?_
      refine as_isub d148_164 ?_
      refine as_goto 170 d148_165 (by decide) ?_
      refine as_ireturn d148_170 (by rw [t148]; rfl) ?_
      first
      | exact ⟨_, _, rfl, ⟨T0, a2, b2.tk o1⟩, t, n9, B, _, o2, rfl, o3, hfin, fun _ => rfl, fun q => absurd c146 q⟩
      | exact ⟨_, _, rfl, ⟨T0, a2, b2.tk o1⟩, t, n9, B, _, o2, rfl, o3, hfin, fun q => absurd q c146, fun _ => o6⟩
  · refine as_iload_n d148_40 rfl ?_
    refine as_aload_n d148_41 rfl ?_
    refine ap_get d148_42 f148_159 (by decide) rfl rfl ?_
    refine an_top (e' := nI (C)) (by first | exact o4.2.1 | exact q2.2.1) ?_
    refine an_icmp_ge 145 d148_45 (by decide) (by omega) (by omega) (fun c45 => ?_) (fun c45 => ?_)
    · have hfin : t = min R C ∨ ∀ i j, t ≤ i → i < R → t ≤ j → j < C → B i j = 0 := Or.inl (by omega)
      refine as_iload_n d148_145 rfl ?_
      refine as_if_ne 168 d148_146 (by decide) (fun c146 => ?_) (fun c146 => ?_)
      · refine as_iload d148_168 rfl ?_
        refine as_ireturn d148_170 (by rw [t148]; rfl) ?_
        first
        | exact ⟨_, _, rfl, ⟨T0, a2, b2.tk o1⟩, t, n9, B, _, o2, rfl, o3, hfin, fun _ => rfl, fun q => absurd c146 q⟩
        | exact ⟨_, _, rfl, ⟨T0, a2, b2.tk o1⟩, t, n9, B, _, o2, rfl, o3, hfin, fun q => absurd q c146, fun _ => o6⟩
      · refine as_aload_n d148_149 rfl ?_
        refine ap_get d148_150 f148_159 (by decide) rfl rfl ?_
        refine an_top (e' := nI (C)) (by first | exact o4.2.1 | exact q2.2.1) ?_
        refine as_aload_n d148_153 rfl ?_
        refine ap_get d148_154 f148_67 (by decide) rfl rfl ?_
        refine an_top (e' := nI (P)) (hPT) ?_
        refine as_isub d148_157 ?_
        refine as_aload_n d148_158 rfl ?_
        refine ac_v0 d148_159 c148_156 (by decide) rfl (Nat.le_of_ble_eq_true rfl) (hsm) ?_
        refine as_iadd d148_162 ?_
        refine as_iload_n d148_163 rfl ?_
        refine as_isub d148_164 ?_
        refine as_goto 170 d148_165 (by decide) ?_
        refine as_ireturn d148_170 (by rw [t148]; rfl) ?_
        first
        | exact ⟨_, _, rfl, ⟨T0, a2, b2.tk o1⟩, t, n9, B, _, o2, rfl, o3, hfin, fun _ => rfl, fun q => absurd c146 q⟩
        | exact ⟨_, _, rfl, ⟨T0, a2, b2.tk o1⟩, t, n9, B, _, o2, rfl, o3, hfin, fun q => absurd q c146, fun _ => o6⟩
    · have htR : t < R := by omega
      have htC : t < C := by omega
      obtain ⟨v1, T2, m1, k1, q1⟩ := mx_bringR X T R C B hR18 hC6 o4 t htR htC (hH t n9 B o3 htR htC).1
      rcases q1 with ⟨rfl, q2, q3⟩ | ⟨rfl, r1, c1, hle1, q2⟩
      · have hfin : t = min R C ∨ ∀ i j, t ≤ i → i < R → t ≤ j → j < C → B i j = 0 := Or.inr q3
        have o1 := o1.trans k1
        have hLT := a3.n.hk (b2.tk o1)
        have hPT : T2.1 189 0 = nI P := ((b2.tk o1).2.2.2 189 0 (by omega)).trans hR0.1
        have hsm := mc_setMany X T2 P hP hPT hLT
        rw [show cnt (fun k => decide (sb T2 k = k)) P = ns by rw [← hns0]; exact cnt_congr P (fun k _ => by unfold sb; rw [(b2.tk o1).1 197 (by decide)])] at hsm
        refine as_aload_n d148_48 rfl ?_
        refine as_iload_n d148_49 rfl ?_
        refine ac_v1 d148_50 c148_180 (by decide) rfl (Nat.le_of_ble_eq_true rfl) (m1) ?_
        refine an_if_eq 145 d148_53 (by decide) (by omega) (fun c53 => ?_) (fun c53 => absurd c53 (by decide))
        refine as_iload_n d148_145 rfl ?_
        refine as_if_ne 168 d148_146 (by decide) (fun c146 => ?_) (fun c146 => ?_)
        · refine as_iload d148_168 rfl ?_
          refine as_ireturn d148_170 (by rw [t148]; rfl) ?_
          first
          | exact ⟨_, _, rfl, ⟨T0, a2, b2.tk o1⟩, t, n9, B, _, o2, rfl, o3, hfin, fun _ => rfl, fun q => absurd c146 q⟩
          | exact ⟨_, _, rfl, ⟨T0, a2, b2.tk o1⟩, t, n9, B, _, o2, rfl, o3, hfin, fun q => absurd q c146, fun _ => o6⟩
        · refine as_aload_n d148_149 rfl ?_
          refine ap_get d148_150 f148_159 (by decide) rfl rfl ?_
          refine an_top (e' := nI (C)) (by first | exact o4.2.1 | exact q2.2.1) ?_
          refine as_aload_n d148_153 rfl ?_
          refine ap_get d148_154 f148_67 (by decide) rfl rfl ?_
          refine an_top (e' := nI (P)) (hPT) ?_
          refine as_isub d148_157 ?_
          refine as_aload_n d148_158 rfl ?_
          refine ac_v0 d148_159 c148_156 (by decide) rfl (Nat.le_of_ble_eq_true rfl) (hsm) ?_
          refine as_iadd d148_162 ?_
          refine as_iload_n d148_163 rfl ?_
          refine as_isub d148_164 ?_
          refine as_goto 170 d148_165 (by decide) ?_
          refine as_ireturn d148_170 (by rw [t148]; rfl) ?_
          first
          | exact ⟨_, _, rfl, ⟨T0, a2, b2.tk o1⟩, t, n9, B, _, o2, rfl, o3, hfin, fun _ => rfl, fun q => absurd c146 q⟩
          | exact ⟨_, _, rfl, ⟨T0, a2, b2.tk o1⟩, t, n9, B, _, o2, rfl, o3, hfin, fun q => absurd q c146, fun _ => o6⟩
      · skip
        refine as_aload_n d148_48 rfl ?_
        refine as_iload_n d148_49 rfl ?_
        refine ac_v1 d148_50 c148_180 (by decide) rfl (Nat.le_of_ble_eq_true rfl) (m1) ?_
        refine an_if_eq 145 d148_53 (by decide) (by omega) (fun c53 => absurd c53 (by decide)) (fun c53 => ?_)
        refine AW.loc [(0, .ref (189)), (1, .int (i)), (2, .int (nI (t))), (3, .int (nI (ab))), (4, .int (fd))] (am_pick [0, 1, 2, 3, 4] rfl rfl) ?_
        refine aw_inv2 (σ := (MS) × (Nat)) (fun σ => ((56, [(0, .ref (189)), (1, .int (i)), (2, .int (nI (t))), (3, .int (nI (ab))), (4, .int (fd))], [], 208, HP (σ.1), 0, 0) : am_Z)) (fun σ => tKeep T1 (σ.1) ∧ ∃ A r c, G t (σ.2) A ∧ isLe A t R C r c ∧ MXr (σ.1) R C (swM A t r c) ∧ ∀ j, j < t → A j j = B j j) (fun σ => σ.2) (fun σ hσ ihσ => ?_) (T2, n9) (rfl) (by dsimp only; exact ⟨o1.trans k1, B, r1, c1, o3, hle1, q2, fun _ _ => rfl⟩)
        obtain ⟨U, m⟩ := σ
        dsimp only at hσ ihσ ⊢
        obtain ⟨u1, A9, r9, c9, u2, u3, u4, u5⟩ := hσ
        obtain ⟨s1, s2⟩ := hH t m A9 u2 htR htC
        obtain ⟨⟨s3, s4⟩, s5⟩ := s2 r9 c9 u3 _ rfl
        obtain ⟨s6, s7, s8⟩ := s5 _ rfl
        have hpv : swM A9 t r9 c9 t t ≠ 0 := by rw [swM_dd]; exact u3.2.2.1
        obtain ⟨v3, T3, m3, k3, m4⟩ := mx_reduceR X U R C (swM A9 t r9 c9) hR18 hC6 u4 t htR htC hpv s3 s4 s6
        obtain ⟨D, eD⟩ : ∃ D, D = rcM (rdR (swM A9 t r9 c9) t R) t C := ⟨_, rfl⟩
        rw [← eD] at s6 s7 s8 m4
        have hD0 : D t t ≠ 0 := by rw [eD, red_dd]; exact hpv
        have hDl : ∀ j, j < t → D j j = B j j := fun j hj => by rw [eD, red_lo hj, swM_lo u3.1.1 u3.2.1.1 hj]; exact u5 j hj
        refine as_aload_n d148_56 rfl ?_
        rcases m4 with ⟨rfl, y1, y2⟩ | ⟨y1, y2, ⟨rfl, y3, y4⟩ | ⟨rfl, r4, c4, y3, y4, y5, y6, y7, y8⟩⟩
        · obtain ⟨n4, z1, z2⟩ := s7 y1
          obtain ⟨v5, T5, w1, w2, w3⟩ := mx_bringR X T3 R C D hR18 hC6 y2 t htR htC (hH t n4 D z2 htR htC).1
          have w3 := w3.resolve_left (fun q => isLe_ex htR htC hD0 q.2.2)
          obtain ⟨rfl, r5, c5, w4, w5⟩ := w3
          have hnext : ∃ A r c, G t n4 A ∧ isLe A t R C r c ∧ MXr T5 R C (swM A t r c) ∧ ∀ j, j < t → A j j = B j j := ⟨D, r5, c5, z2, w4, w5, hDl⟩
          refine as_iload_n d148_57 rfl ?_
          refine ac_v1 d148_58 c148_183 (by decide) rfl (Nat.le_of_ble_eq_true rfl) (m3) ?_
          refine an_if_ne 73 d148_61 (by decide) (by omega) (fun c61 => absurd c61 (by decide)) (fun c61 => ?_)
          refine as_aload_n d148_64 rfl ?_
          refine as_iload_n d148_65 rfl ?_
          refine ac_v1 d148_66 c148_180 (by decide) rfl (Nat.le_of_ble_eq_true rfl) (w1) ?_
          refine as_pop d148_69 rfl ?_
          refine as_goto 56 d148_70 (by decide) ?_
          refine AW.loc [(0, .ref (189)), (1, .int (i)), (2, .int (nI (t))), (3, .int (nI (ab))), (4, .int (fd))] (am_pick [0, 1, 2, 3, 4] rfl rfl) ?_
          refine ihσ (T5, n4) ?_ (by show n4 < m; exact z1)
          dsimp only
          exact ⟨(u1.trans k3).trans w2, hnext⟩
        · obtain ⟨n4, z2⟩ := (s8 y1 y2).2 y3
          have hcD := y4.cell X hR18 hC6 htR htC
          have hsD := s6 t (Nat.le_refl t) htR t (Nat.le_refl t) htC
          have hab := abO_cg hDl o6
          have hcn : cnt (dgF (abM D)) t = ab := (cnt_congr t (dgF_cg hDl)).trans o5.symm
          have hct := cnt_le (dgF (abM D)) t
          refine as_iload_n d148_57 rfl ?_
          refine ac_v1 d148_58 c148_183 (by decide) rfl (Nat.le_of_ble_eq_true rfl) (m3) ?_
          refine an_if_ne 73 d148_61 (by decide) (by omega) (fun c61 => ?_) (fun c61 => absurd c61 (by decide))
          refine as_aload_n d148_73 rfl ?_
          refine as_iload_n d148_74 rfl ?_
          refine as_iload_n d148_75 rfl ?_
          refine ac_v2 d148_76 c148_173 (by decide) rfl (Nat.le_of_ble_eq_true rfl) (hcD) ?_
          refine as_lconst d148_79 ?_
          refine as_lcmp d148_80 ?_
          refine as_if_ge 94 d148_81 (by decide) (fun c81 => ?_) (fun c81 => ?_)
          · refine as_aload_n d148_94 rfl ?_
            refine as_iload_n d148_95 rfl ?_
            refine as_iload_n d148_96 rfl ?_
            refine ac_v2 d148_97 c148_173 (by decide) rfl (Nat.le_of_ble_eq_true rfl) (hcD) ?_
            refine an_topl (e' := Int64.ofInt (abM D t t)) (i64_pos hsD c81) ?_
            refine as_lstore d148_100 (by decide) ?_
            refine as_iload_n d148_102 rfl ?_
            refine as_lload d148_103 rfl ?_
            refine as_lconst d148_105 ?_
            refine as_lcmp d148_106 ?_
            refine as_if_le 114 d148_107 (by decide) (fun c107 => ?_) (fun c107 => ?_)
            · have hno : ¬ dgF (abM D) t = true := fun q => by
                have q1 := (i64_le (b := 1) (sm_abs hsD) ⟨by omega, by omega⟩).mp ((lg_cmp_le _ _).mp c107)
                have q2 := of_decide_eq_true q
                have q3 : abM D t t = ((D t t).natAbs : Int) := rfl
                omega
              have hnew := abO_f hab hno
              have hcn2 : ab + 0 = cnt (dgF (abM D)) (t + 1) := by rw [cnt_f hno, hcn]
              refine an_iconst 0 d148_114 rfl ?_
              refine an_iadd d148_115 ?_
              refine as_istore_n d148_116 (by decide) ?_
              refine as_lload d148_117 rfl ?_
              refine as_lconst d148_119 ?_
              refine as_lcmp d148_120 ?_
              refine as_if_le 135 d148_121 (by decide) (fun c121 => ?_) (fun c121 => ?_)
              · have hkp : abO (abM D) (t + 1) i fd := by first | exact hnew | exact absurd c121 c107
                refine as_iload d148_135 rfl ?_
                refine as_istore d148_137 (by decide) ?_
                refine an_iinc 1 d148_139 rfl rfl (by decide) ?_
                refine as_goto 32 d148_142 (by decide) ?_
                refine AW.loc [(0, .ref (189)), (1, .int (i)), (2, .int (nI (t + 1))), (3, .int (nI ((ab) + (0)))), (4, .int (fd))] (am_pick [4, 5, 0, 2, 1] rfl rfl) ?_
                refine ihO (T3, t + 1, (ab) + (0), fd) ?_ (by show 20 - (t + 1) < 20 - t; omega)
                dsimp only
                exact ⟨u1.trans k3, by omega, n4, D, z2, y4, hcn2, by first | exact hkp | exact hkp2⟩
              · have hye2 : dgF (abM D) t = true := by first | exact hye | exact absurd c107 c121
                refine as_iload_n d148_124 rfl ?_
                refine as_iload_n d148_125 rfl ?_
                refine as_icmp_ne 135 d148_126 (by decide) (fun c126 => ?_) (fun c126 => ?_)
                · have hkp : abO (abM D) (t + 1) i fd := by first | exact absurd c107 c121 | exact abO_n hab (fun q => c126 (by rw [← q, hcn]))
                  refine as_iload d148_135 rfl ?_
                  refine as_istore d148_137 (by decide) ?_
                  refine an_iinc 1 d148_139 rfl rfl (by decide) ?_
                  refine as_goto 32 d148_142 (by decide) ?_
                  refine AW.loc [(0, .ref (189)), (1, .int (i)), (2, .int (nI (t + 1))), (3, .int (nI ((ab) + (0)))), (4, .int (fd))] (am_pick [4, 5, 0, 2, 1] rfl rfl) ?_
                  refine ihO (T3, t + 1, (ab) + (0), fd) ?_ (by show 20 - (t + 1) < 20 - t; omega)
                  dsimp only
                  exact ⟨u1.trans k3, by omega, n4, D, z2, y4, hcn2, by first | exact hkp | exact hkp2⟩
                · have hkp2 : abO (abM D) (t + 1) i (Int64.ofInt (abM D t t)).toInt32 := by first | exact absurd c107 c121 | exact abO_t hye2 (by rw [hcn]; exact c126)
                  refine as_lload d148_129 rfl ?_
                  refine as_l2i d148_131 ?_
                  refine as_goto 137 d148_132 (by decide) ?_
                  refine as_istore d148_137 (by decide) ?_
                  refine an_iinc 1 d148_139 rfl rfl (by decide) ?_
                  refine as_goto 32 d148_142 (by decide) ?_
                  refine AW.loc [(0, .ref (189)), (1, .int (i)), (2, .int (nI (t + 1))), (3, .int (nI ((ab) + (0)))), (4, .int ((Int64.ofInt (abM D t t)).toInt32))] (am_pick [4, 5, 0, 2, 1] rfl rfl) ?_
                  refine ihO (T3, t + 1, (ab) + (0), (Int64.ofInt (abM D t t)).toInt32) ?_ (by show 20 - (t + 1) < 20 - t; omega)
                  dsimp only
                  exact ⟨u1.trans k3, by omega, n4, D, z2, y4, hcn2, by first | exact hkp | exact hkp2⟩
            · have hye : dgF (abM D) t = true := decide_eq_true (by
                by_cases w : 1 < abM D t t
                · exact w
                · exact absurd ((lg_cmp_le _ _).mpr ((i64_le (b := 1) (sm_abs hsD) ⟨by omega, by omega⟩).mpr (by have q3 : abM D t t = ((D t t).natAbs : Int) := rfl; omega))) c107)
              have hcn2 : ab + 1 = cnt (dgF (abM D)) (t + 1) := by rw [cnt_t hye, hcn]
              refine an_iconst 1 d148_110 rfl ?_
              refine as_goto 115 d148_111 (by decide) ?_
              refine an_iadd d148_115 ?_
              refine as_istore_n d148_116 (by decide) ?_
              refine as_lload d148_117 rfl ?_
              refine as_lconst d148_119 ?_
              refine as_lcmp d148_120 ?_
              refine as_if_le 135 d148_121 (by decide) (fun c121 => ?_) (fun c121 => ?_)
              · have hkp : abO (abM D) (t + 1) i fd := by first | exact hnew | exact absurd c121 c107
                refine as_iload d148_135 rfl ?_
                refine as_istore d148_137 (by decide) ?_
                refine an_iinc 1 d148_139 rfl rfl (by decide) ?_
                refine as_goto 32 d148_142 (by decide) ?_
                refine AW.loc [(0, .ref (189)), (1, .int (i)), (2, .int (nI (t + 1))), (3, .int (nI ((ab) + (1)))), (4, .int (fd))] (am_pick [4, 5, 0, 2, 1] rfl rfl) ?_
                refine ihO (T3, t + 1, (ab) + (1), fd) ?_ (by show 20 - (t + 1) < 20 - t; omega)
                dsimp only
                exact ⟨u1.trans k3, by omega, n4, D, z2, y4, hcn2, by first | exact hkp | exact hkp2⟩
              · have hye2 : dgF (abM D) t = true := by first | exact hye | exact absurd c107 c121
                refine as_iload_n d148_124 rfl ?_
                refine as_iload_n d148_125 rfl ?_
                refine as_icmp_ne 135 d148_126 (by decide) (fun c126 => ?_) (fun c126 => ?_)
                · have hkp : abO (abM D) (t + 1) i fd := by first | exact absurd c107 c121 | exact abO_n hab (fun q => c126 (by rw [← q, hcn]))
                  refine as_iload d148_135 rfl ?_
                  refine as_istore d148_137 (by decide) ?_
                  refine an_iinc 1 d148_139 rfl rfl (by decide) ?_
                  refine as_goto 32 d148_142 (by decide) ?_
                  refine AW.loc [(0, .ref (189)), (1, .int (i)), (2, .int (nI (t + 1))), (3, .int (nI ((ab) + (1)))), (4, .int (fd))] (am_pick [4, 5, 0, 2, 1] rfl rfl) ?_
                  refine ihO (T3, t + 1, (ab) + (1), fd) ?_ (by show 20 - (t + 1) < 20 - t; omega)
                  dsimp only
                  exact ⟨u1.trans k3, by omega, n4, D, z2, y4, hcn2, by first | exact hkp | exact hkp2⟩
                · have hkp2 : abO (abM D) (t + 1) i (Int64.ofInt (abM D t t)).toInt32 := by first | exact absurd c107 c121 | exact abO_t hye2 (by rw [hcn]; exact c126)
                  refine as_lload d148_129 rfl ?_
                  refine as_l2i d148_131 ?_
                  refine as_goto 137 d148_132 (by decide) ?_
                  refine as_istore d148_137 (by decide) ?_
                  refine an_iinc 1 d148_139 rfl rfl (by decide) ?_
                  refine as_goto 32 d148_142 (by decide) ?_
                  refine AW.loc [(0, .ref (189)), (1, .int (i)), (2, .int (nI (t + 1))), (3, .int (nI ((ab) + (1)))), (4, .int ((Int64.ofInt (abM D t t)).toInt32))] (am_pick [4, 5, 0, 2, 1] rfl rfl) ?_
                  refine ihO (T3, t + 1, (ab) + (1), (Int64.ofInt (abM D t t)).toInt32) ?_ (by show 20 - (t + 1) < 20 - t; omega)
                  dsimp only
                  exact ⟨u1.trans k3, by omega, n4, D, z2, y4, hcn2, by first | exact hkp | exact hkp2⟩
          · refine as_aload_n d148_84 rfl ?_
            refine as_iload_n d148_85 rfl ?_
            refine as_iload_n d148_86 rfl ?_
            refine ac_v2 d148_87 c148_173 (by decide) rfl (Nat.le_of_ble_eq_true rfl) (hcD) ?_
            refine as_lneg d148_90 ?_
            refine an_topl (e' := Int64.ofInt (abM D t t)) (i64_neg hsD c81) ?_
            refine as_goto 100 d148_91 (by decide) ?_
            refine as_lstore d148_100 (by decide) ?_
            refine as_iload_n d148_102 rfl ?_
            refine as_lload d148_103 rfl ?_
            refine as_lconst d148_105 ?_
            refine as_lcmp d148_106 ?_
            refine as_if_le 114 d148_107 (by decide) (fun c107 => ?_) (fun c107 => ?_)
            · have hno : ¬ dgF (abM D) t = true := fun q => by
                have q1 := (i64_le (b := 1) (sm_abs hsD) ⟨by omega, by omega⟩).mp ((lg_cmp_le _ _).mp c107)
                have q2 := of_decide_eq_true q
                have q3 : abM D t t = ((D t t).natAbs : Int) := rfl
                omega
              have hnew := abO_f hab hno
              have hcn2 : ab + 0 = cnt (dgF (abM D)) (t + 1) := by rw [cnt_f hno, hcn]
              refine an_iconst 0 d148_114 rfl ?_
              refine an_iadd d148_115 ?_
              refine as_istore_n d148_116 (by decide) ?_
              refine as_lload d148_117 rfl ?_
              refine as_lconst d148_119 ?_
              refine as_lcmp d148_120 ?_
              refine as_if_le 135 d148_121 (by decide) (fun c121 => ?_) (fun c121 => ?_)
              · have hkp : abO (abM D) (t + 1) i fd := by first | exact hnew | exact absurd c121 c107
                refine as_iload d148_135 rfl ?_
                refine as_istore d148_137 (by decide) ?_
                refine an_iinc 1 d148_139 rfl rfl (by decide) ?_
                refine as_goto 32 d148_142 (by decide) ?_
                refine AW.loc [(0, .ref (189)), (1, .int (i)), (2, .int (nI (t + 1))), (3, .int (nI ((ab) + (0)))), (4, .int (fd))] (am_pick [4, 5, 0, 2, 1] rfl rfl) ?_
                refine ihO (T3, t + 1, (ab) + (0), fd) ?_ (by show 20 - (t + 1) < 20 - t; omega)
                dsimp only
                exact ⟨u1.trans k3, by omega, n4, D, z2, y4, hcn2, by first | exact hkp | exact hkp2⟩
              · have hye2 : dgF (abM D) t = true := by first | exact hye | exact absurd c107 c121
                refine as_iload_n d148_124 rfl ?_
                refine as_iload_n d148_125 rfl ?_
                refine as_icmp_ne 135 d148_126 (by decide) (fun c126 => ?_) (fun c126 => ?_)
                · have hkp : abO (abM D) (t + 1) i fd := by first | exact absurd c107 c121 | exact abO_n hab (fun q => c126 (by rw [← q, hcn]))
                  refine as_iload d148_135 rfl ?_
                  refine as_istore d148_137 (by decide) ?_
                  refine an_iinc 1 d148_139 rfl rfl (by decide) ?_
                  refine as_goto 32 d148_142 (by decide) ?_
                  refine AW.loc [(0, .ref (189)), (1, .int (i)), (2, .int (nI (t + 1))), (3, .int (nI ((ab) + (0)))), (4, .int (fd))] (am_pick [4, 5, 0, 2, 1] rfl rfl) ?_
                  refine ihO (T3, t + 1, (ab) + (0), fd) ?_ (by show 20 - (t + 1) < 20 - t; omega)
                  dsimp only
                  exact ⟨u1.trans k3, by omega, n4, D, z2, y4, hcn2, by first | exact hkp | exact hkp2⟩
                · have hkp2 : abO (abM D) (t + 1) i (Int64.ofInt (abM D t t)).toInt32 := by first | exact absurd c107 c121 | exact abO_t hye2 (by rw [hcn]; exact c126)
                  refine as_lload d148_129 rfl ?_
                  refine as_l2i d148_131 ?_
                  refine as_goto 137 d148_132 (by decide) ?_
                  refine as_istore d148_137 (by decide) ?_
                  refine an_iinc 1 d148_139 rfl rfl (by decide) ?_
                  refine as_goto 32 d148_142 (by decide) ?_
                  refine AW.loc [(0, .ref (189)), (1, .int (i)), (2, .int (nI (t + 1))), (3, .int (nI ((ab) + (0)))), (4, .int ((Int64.ofInt (abM D t t)).toInt32))] (am_pick [4, 5, 0, 2, 1] rfl rfl) ?_
                  refine ihO (T3, t + 1, (ab) + (0), (Int64.ofInt (abM D t t)).toInt32) ?_ (by show 20 - (t + 1) < 20 - t; omega)
                  dsimp only
                  exact ⟨u1.trans k3, by omega, n4, D, z2, y4, hcn2, by first | exact hkp | exact hkp2⟩
            · have hye : dgF (abM D) t = true := decide_eq_true (by
                by_cases w : 1 < abM D t t
                · exact w
                · exact absurd ((lg_cmp_le _ _).mpr ((i64_le (b := 1) (sm_abs hsD) ⟨by omega, by omega⟩).mpr (by have q3 : abM D t t = ((D t t).natAbs : Int) := rfl; omega))) c107)
              have hcn2 : ab + 1 = cnt (dgF (abM D)) (t + 1) := by rw [cnt_t hye, hcn]
              refine an_iconst 1 d148_110 rfl ?_
              refine as_goto 115 d148_111 (by decide) ?_
              refine an_iadd d148_115 ?_
              refine as_istore_n d148_116 (by decide) ?_
              refine as_lload d148_117 rfl ?_
              refine as_lconst d148_119 ?_
              refine as_lcmp d148_120 ?_
              refine as_if_le 135 d148_121 (by decide) (fun c121 => ?_) (fun c121 => ?_)
              · have hkp : abO (abM D) (t + 1) i fd := by first | exact hnew | exact absurd c121 c107
                refine as_iload d148_135 rfl ?_
                refine as_istore d148_137 (by decide) ?_
                refine an_iinc 1 d148_139 rfl rfl (by decide) ?_
                refine as_goto 32 d148_142 (by decide) ?_
                refine AW.loc [(0, .ref (189)), (1, .int (i)), (2, .int (nI (t + 1))), (3, .int (nI ((ab) + (1)))), (4, .int (fd))] (am_pick [4, 5, 0, 2, 1] rfl rfl) ?_
                refine ihO (T3, t + 1, (ab) + (1), fd) ?_ (by show 20 - (t + 1) < 20 - t; omega)
                dsimp only
                exact ⟨u1.trans k3, by omega, n4, D, z2, y4, hcn2, by first | exact hkp | exact hkp2⟩
              · have hye2 : dgF (abM D) t = true := by first | exact hye | exact absurd c107 c121
                refine as_iload_n d148_124 rfl ?_
                refine as_iload_n d148_125 rfl ?_
                refine as_icmp_ne 135 d148_126 (by decide) (fun c126 => ?_) (fun c126 => ?_)
                · have hkp : abO (abM D) (t + 1) i fd := by first | exact absurd c107 c121 | exact abO_n hab (fun q => c126 (by rw [← q, hcn]))
                  refine as_iload d148_135 rfl ?_
                  refine as_istore d148_137 (by decide) ?_
                  refine an_iinc 1 d148_139 rfl rfl (by decide) ?_
                  refine as_goto 32 d148_142 (by decide) ?_
                  refine AW.loc [(0, .ref (189)), (1, .int (i)), (2, .int (nI (t + 1))), (3, .int (nI ((ab) + (1)))), (4, .int (fd))] (am_pick [4, 5, 0, 2, 1] rfl rfl) ?_
                  refine ihO (T3, t + 1, (ab) + (1), fd) ?_ (by show 20 - (t + 1) < 20 - t; omega)
                  dsimp only
                  exact ⟨u1.trans k3, by omega, n4, D, z2, y4, hcn2, by first | exact hkp | exact hkp2⟩
                · have hkp2 : abO (abM D) (t + 1) i (Int64.ofInt (abM D t t)).toInt32 := by first | exact absurd c107 c121 | exact abO_t hye2 (by rw [hcn]; exact c126)
                  refine as_lload d148_129 rfl ?_
                  refine as_l2i d148_131 ?_
                  refine as_goto 137 d148_132 (by decide) ?_
                  refine as_istore d148_137 (by decide) ?_
                  refine an_iinc 1 d148_139 rfl rfl (by decide) ?_
                  refine as_goto 32 d148_142 (by decide) ?_
                  refine AW.loc [(0, .ref (189)), (1, .int (i)), (2, .int (nI (t + 1))), (3, .int (nI ((ab) + (1)))), (4, .int ((Int64.ofInt (abM D t t)).toInt32))] (am_pick [4, 5, 0, 2, 1] rfl rfl) ?_
                  refine ihO (T3, t + 1, (ab) + (1), (Int64.ofInt (abM D t t)).toInt32) ?_ (by show 20 - (t + 1) < 20 - t; omega)
                  dsimp only
                  exact ⟨u1.trans k3, by omega, n4, D, z2, y4, hcn2, by first | exact hkp | exact hkp2⟩
        · obtain ⟨n4, z1, z2⟩ := (s8 y1 y2).1 r4 c4 y3 y4 y5 y6 y7
          have hE0 : adS D t r4 C t t ≠ 0 := by
            rw [show adS D t r4 C t t = D t t + D r4 t from if_pos ⟨rfl, Nat.le_refl _, htC⟩]
            have : D r4 t = 0 := by rw [eD, rcM_row (Nat.le_refl t)]; exact y1 r4 y3 y4
            rw [this, Int.add_zero]
            exact hD0
          have hEl : ∀ j, j < t → adS D t r4 C j j = B j j := fun j hj => by
            rw [show adS D t r4 C j j = D j j from if_neg (by omega)]
            exact hDl j hj
          obtain ⟨v5, T5, w1, w2, w3⟩ := mx_bringR X T3 R C _ hR18 hC6 y8 t htR htC (hH t n4 _ z2 htR htC).1
          have w3 := w3.resolve_left (fun q => isLe_ex htR htC hE0 q.2.2)
          obtain ⟨rfl, r5, c5, w4, w5⟩ := w3
          have hnext : ∃ A r c, G t n4 A ∧ isLe A t R C r c ∧ MXr T5 R C (swM A t r c) ∧ ∀ j, j < t → A j j = B j j := ⟨_, r5, c5, z2, w4, w5, hEl⟩
          refine as_iload_n d148_57 rfl ?_
          refine ac_v1 d148_58 c148_183 (by decide) rfl (Nat.le_of_ble_eq_true rfl) (m3) ?_
          refine an_if_ne 73 d148_61 (by decide) (by omega) (fun c61 => absurd c61 (by decide)) (fun c61 => ?_)
          refine as_aload_n d148_64 rfl ?_
          refine as_iload_n d148_65 rfl ?_
          refine ac_v1 d148_66 c148_180 (by decide) rfl (Nat.le_of_ble_eq_true rfl) (w1) ?_
          refine as_pop d148_69 rfl ?_
          refine as_goto 56 d148_70 (by decide) ?_
          refine AW.loc [(0, .ref (189)), (1, .int (i)), (2, .int (nI (t))), (3, .int (nI (ab))), (4, .int (fd))] (am_pick [0, 1, 2, 3, 4] rfl rfl) ?_
          refine ihσ (T5, n4) ?_ (by show n4 < m; exact z1)
          dsimp only
          exact ⟨(u1.trans k3).trans w2, hnext⟩
