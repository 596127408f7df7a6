/-! holes: the class's build, by a property G that its steps keep -/
theorem lps_gap {f g : Nat → Bool} (hfg : ∀ i, g i = true → f i = true) {b : Nat} : ∀ m, b ≤ m → cnt f b = cnt f m → lps g m = lps g b
  | 0, h, _ => by rw [show b = 0 by omega]
  | m + 1, h, e => by
    by_cases w : b = m + 1
    · rw [w]
    · have h1 : b ≤ m := by omega
      have h2 := cnt_mono f h1
      have h3 := cnt_mono f (show m ≤ m + 1 by omega)
      have h4 : ¬ f m = true := fun q => by
        have := cnt_t q
        omega
      rw [lps_f (fun q => h4 (hfg m q))]
      exact lps_gap hfg m h1 (by omega)
theorem cnt_beh {f : Nat → Bool} {b m : Nat} (h : cnt f b = cnt f m) (hm : f m = true) : b ≤ m := by
  by_cases w : b ≤ m
  · exact w
  · have h1 := cnt_t hm
    have h2 := cnt_mono f (show m + 1 ≤ b by omega)
    omega
theorem nI_minR {a b : Nat} (ha : a < 2 ^ 31) (hb : b < 2 ^ 31) : (if nI b < nI a then nI b else nI a) = nI (min a b) := by
  rw [nI_min hb ha, Nat.min_comm]
/-- the loops of l as a matrix -/
def lpM (mt : Nat → Option Nat) (n : Nat → Nat) (x : Nat → Nat → WS) (l : List Nat) (r c : Nat) : Int := rwX mt (x (l.getD r 0)) (n (l.getD r 0) + 1) c
def RQ (S : MS) : Prop := (∀ i, i < 18 → 24 ≤ S.2.2.2 23 i ∧ S.2.2.2 23 i < 42) ∧ ∀ i j, i < 18 → j < 18 → S.2.2.2 23 i = S.2.2.2 23 j → i = j
def TBc (T : MS) (mt : Nat → Option Nat) (n : Nat → Nat) (x : Nat → Nat → WS) (l : List Nat) : Prop := T.1 22 2 = nI l.length ∧ ∀ r, r < l.length → ∀ c, c < 6 → T.2.2.1 (T.2.2.2 23 r) c = Int64.ofInt (lpM mt n x l r c)
theorem TBc.junk {S T : MS} {mt : Nat → Option Nat} {n : Nat → Nat} {x : Nat → Nat → WS} {l : List Nat} {f : Nat → Int} (h : TBc S mt n x l) (hq : RQ S) (hl : l.length < 18) (g : GRc S T (S.2.2.2 23 l.length) 6 f) : TBc T mt n x l := by
  refine ⟨by rw [g.1]; exact h.1, fun r hr c hc => ?_⟩
  rw [g.2.2.1, g.2.2.2.1 _ (fun e => by have := hq.2 r l.length (by omega) hl e; omega)]
  exact h.2 r hr c hc
theorem TBc.add {S T : MS} {mt : Nat → Option Nat} {n : Nat → Nat} {x : Nat → Nat → WS} {l : List Nat} {k : Nat} (h : TBc S mt n x l) (hq : RQ S) (hl : l.length < 18) (g : GRc S T (S.2.2.2 23 l.length) 6 (rwX mt (x k) (n k + 1))) : TBc (T.sf 22 2 (nI (l.length + 1))) mt n x (l ++ [k]) := by
  have hll : (l ++ [k]).length = l.length + 1 := by rw [List.length_append]; rfl
  refine ⟨by rw [sf_at, if_pos ⟨rfl, rfl⟩, hll], fun r hr c hc => ?_⟩
  rw [hll] at hr
  show T.2.2.1 (T.2.2.2 23 r) c = Int64.ofInt (lpM mt n x (l ++ [k]) r c)
  unfold lpM
  by_cases e : r = l.length
  · subst e
    rw [lgD2, g.2.2.1]
    exact g.2.2.2.2 c hc
  · rw [lgD1 (by omega), g.2.2.1, g.2.2.2.1 _ (fun w => e (hq.2 r l.length (by omega) hl w))]
    exact h.2 r (by omega) c hc
theorem GRc.ok {S T : MS} {q m : Nat} {f : Nat → Int} (h : GRc S T q m f) (hq : 24 ≤ q ∧ q < 42) : oKeep S T := ⟨fun k _ => by rw [h.2.1], fun k a => h.2.2.2.1 k (fun e => a (e ▸ hq)), fun k _ => by rw [h.2.2.1], fun i j _ => by rw [h.1]⟩
theorem mx_buildLp (X : am_X) (S : MS) (P : Nat) (mt : Nat → Option Nat) (go L : Nat → Nat) (hG : GW P mt go) (hC : CG S P mt go) (hE : GS S 10 (6 * P) (EJ P mt go)) (hN : NB P mt go L) (hQ : RQ S) (n : Nat → Nat) (x : Nat → Nat → WS) (hx : ∀ k, k < 6 * P → n k < 6 * P ∧ WX mt go k (n k) (x k)) (G : Nat → Nat → MT → Prop) (hH : HC ((lps (fun k => fs (EJ P mt go) k && clo mt go n x k) (6 * P)).length) (cnt (prN mt) (4 * P)) G) (n0 : Nat) (hn0 : n0 < 100000) (h0 : G 0 n0 (lpM mt n x (lps (fun k => fs (EJ P mt go) k && clo mt go n x k) (6 * P)))) : ∃ T, MC X 21 [.ref (22), .ref (1)] S none T ∧ oKeep S T ∧ ∃ rk nn B, rk ≤ min ((lps (fun k => fs (EJ P mt go) k && clo mt go n x k) (6 * P)).length) (cnt (prN mt) (4 * P)) ∧ T.1 22 4 = nI rk ∧ MXc T ((lps (fun k => fs (EJ P mt go) k && clo mt go n x k) (6 * P)).length) (cnt (prN mt) (4 * P)) B ∧ G rk nn B ∧ (rk = min ((lps (fun k => fs (EJ P mt go) k && clo mt go n x k) (6 * P)).length) (cnt (prN mt) (4 * P)) ∨ ∀ i j, rk ≤ i → i < (lps (fun k => fs (EJ P mt go) k && clo mt go n x k) (6 * P)).length → rk ≤ j → j < cnt (prN mt) (4 * P) → B i j = 0) := by
  have hP := hG.1
  have hm := prs_6 hG
  obtain ⟨T0, a1, a2, a3, a4, a5⟩ := mx_numberPairs X S P mt go hG hC
  have hce := cnt_le (fs (EJ P mt go)) (6 * P)
  have hfg : ∀ i, (fun k => fs (EJ P mt go) k && clo mt go n x k) i = true → (fs (EJ P mt go)) i = true := fun i q => (Bool.and_eq_true_iff.mp q).1
  have key := MX.mc (X := X) (mj := 21) (as := [.ref (22), .ref (1)]) (S := S) (Post := fun v T => v = none ∧ oKeep S T ∧ ∃ rk nn B, rk ≤ min ((lps (fun k => fs (EJ P mt go) k && clo mt go n x k) (6 * P)).length) (cnt (prN mt) (4 * P)) ∧ T.1 22 4 = nI rk ∧ MXc T ((lps (fun k => fs (EJ P mt go) k && clo mt go n x k) (6 * P)).length) (cnt (prN mt) (4 * P)) B ∧ G rk nn B ∧ (rk = min ((lps (fun k => fs (EJ P mt go) k && clo mt go n x k) (6 * P)).length) (cnt (prN mt) (4 * P)) ∨ ∀ i j, rk ≤ i → i < (lps (fun k => fs (EJ P mt go) k && clo mt go n x k) (6 * P)).length → rk ≤ j → j < cnt (prN mt) (4 * P) → B i j = 0)) ?_
  · obtain ⟨v, T, g1, g2, g3⟩ := key
    subst g2
    exact ⟨T, g1, g3⟩
  refine MX.of (Nat.le_of_ble_eq_true rfl) ?_
  refine as_aload_n d21_0 rfl ?_
  refine as_aload_n d21_1 rfl ?_
  refine ac_v1 d21_2 c21_20 (by decide) rfl (Nat.le_of_ble_eq_true rfl) (a1) ?_
  refine as_aload_n d21_5 rfl ?_
  refine an_iconst 0 d21_6 rfl ?_
  refine ap_put d21_7 f21_24 (by decide) rfl (Nat.le_of_ble_eq_true rfl) (rfl) rfl rfl ?_
  refine an_iconst 0 d21_10 rfl ?_
  refine as_istore_n d21_11 (by decide) ?_
  refine AW.loc [(0, .ref (22)), (1, .ref (1)), (2, .int (nI (0)))] (am_pick [1, 2, 0] rfl rfl) ?_
  refine aw_fromE (fun k T => ((12, [(0, .ref (22)), (1, .ref (1)), (2, .int (nI (k)))], [], 208, HP (T), 0, 0) : am_Z)) (fun k T => oKeep S T ∧ T.2.2.2 = S.2.2.2 ∧ T.1 22 3 = nI (cnt (prN mt) (4 * P)) ∧ PO mt (T.2.1 42) P (4 * P) ∧ ∃ b, b ≤ 6 * P ∧ cnt (fs (EJ P mt go)) b = k ∧ TBc T mt n x (lps (fun k => fs (EJ P mt go) k && clo mt go n x k) b)) (0) (cnt (fs (EJ P mt go)) (6 * P)) (by omega) ((T0).sf 22 2 (nI (0))) (rfl) (⟨a2.sf (Or.inl rfl) _, by show T0.2.2.2 = _; rw [a3], by rw [sf_at, if_neg (by omega)]; exact a4, a5, 0, Nat.zero_le _, rfl, by rw [sf_at, if_pos ⟨rfl, rfl⟩]; rfl, fun r hr => absurd hr (Nat.not_lt_zero _)⟩) (fun k T hk0 hk hI ihk => ?_) (fun T hX => ?_)
  · obtain ⟨i1, i2, i3, i4, b, i5, i6, i7⟩ := hI
    obtain ⟨m, hm1, hm2, hm3⟩ := cnt_find (6 * P) k hk
    have hbm := cnt_beh (i6.trans hm3.symm) hm2
    have hgap := lps_gap hfg m hbm (i6.trans hm3.symm)
    rw [← hgap] at i7
    have hfm : T.2.1 15 k = nI m := by
      have := (hE.2.2 m hm1 hm2).1
      rw [hm3] at this
      rw [i1.1 15 (by decide)]
      exact this
    have hCT := hC.ok i1
    have hQT : RQ T := by unfold RQ; rw [i2]; exact hQ
    have hlen := lps_len (fun k => fs (EJ P mt go) k && clo mt go n x k) m
    have hg10 : T.1 10 6 = nI (cnt (fs (EJ P mt go)) (6 * P)) := (i1.2.2.2 10 6 (by omega)).trans hE.1
    refine as_iload_n d21_12 rfl ?_
    refine as_aload_n d21_13 rfl ?_
    refine ap_get d21_14 f21_28 (by decide) rfl rfl ?_
    refine ap_get d21_17 f21_34 (by decide) rfl rfl ?_
    refine an_top (e' := nI (cnt (fs (EJ P mt go)) (6 * P))) (hg10) ?_
    refine an_icmp_ge 56 d21_20 (by decide) (by omega) (by omega) (fun c20 => by omega) (fun c20 => ?_)
    obtain ⟨v, U, m1, m2⟩ := mx_goAroundC X T P mt go L hG hCT hN (lps (fun k => fs (EJ P mt go) k && clo mt go n x k) m).length _ (by omega) i7.1 rfl (hQT.1 _ (by omega)) hm i4 m (n m) hm1 (hx m hm1).1 (x m) (hx m hm1).2
    rcases m2 with ⟨rfl, m3, fr, m4⟩ | ⟨rfl, m3, m4⟩
    · have hno : ¬ (fun k => fs (EJ P mt go) k && clo mt go n x k) m = true := fun q => by
        have g2 := of_decide_eq_true (Bool.and_eq_true_iff.mp q).2
        rw [wst_n m3] at g2
        cases g2
      refine as_aload_n d21_23 rfl ?_
      refine as_aload_n d21_24 rfl ?_
      refine as_aload_n d21_25 rfl ?_
      refine ap_get d21_26 f21_28 (by decide) rfl rfl ?_
      refine ap_get d21_29 f21_39 (by decide) rfl rfl ?_
      refine as_iload_n d21_32 rfl ?_
      refine ap_iald d21_33 (fun _ _ _ _ => rfl) (by decide) (by omega) (by decide) ?_
      refine an_top (e' := nI (m)) (hfm) ?_
      refine ac_v2 d21_34 c21_42 (by decide) rfl (Nat.le_of_ble_eq_true rfl) (m1) ?_
      refine an_if_eq 50 d21_37 (by decide) (by omega) (fun c37 => ?_) (fun c37 => absurd c37 (by decide))
      refine an_iinc 1 d21_50 rfl rfl (by decide) ?_
      refine as_goto 12 d21_53 (by decide) ?_
      refine AW.loc [(0, .ref (22)), (1, .ref (1)), (2, .int (nI (k + 1)))] (am_pick [1, 2, 0] rfl rfl) ?_
      have ihk := ihk (U) (by
        have hc1 : cnt (fs (EJ P mt go)) (m + 1) = k + 1 := by rw [cnt_t hm2, hm3]
        first
        | exact ⟨i1.trans (m4.ok (hQT.1 _ (by omega))), by rw [m4.2.2.1]; exact i2, by rw [m4.1]; exact i3, by rw [m4.2.1]; exact i4, m + 1, hm1, hc1, by rw [lps_f hno]; exact i7.junk hQT (by omega) m4⟩
        | exact ⟨(i1.trans (m4.ok (hQT.1 _ (by omega)))).sf (Or.inl rfl) _, by show U.2.2.2 = _; rw [m4.2.2.1]; exact i2, by rw [sf_at, if_neg (by omega), m4.1]; exact i3, by show PO mt (U.2.1 42) P (4 * P); rw [m4.2.1]; exact i4, m + 1, hm1, hc1, by rw [lps_t hye]; exact i7.add hQT (by omega) m4⟩)
      exact ihk
    · have hye : (fun k => fs (EJ P mt go) k && clo mt go n x k) m = true := Bool.and_eq_true_iff.mpr ⟨hm2, decide_eq_true m3⟩
      have hU : U.1 22 2 = nI (lps (fun k => fs (EJ P mt go) k && clo mt go n x k) m).length := by rw [m4.1]; exact i7.1
      refine as_aload_n d21_23 rfl ?_
      refine as_aload_n d21_24 rfl ?_
      refine as_aload_n d21_25 rfl ?_
      refine ap_get d21_26 f21_28 (by decide) rfl rfl ?_
      refine ap_get d21_29 f21_39 (by decide) rfl rfl ?_
      refine as_iload_n d21_32 rfl ?_
      refine ap_iald d21_33 (fun _ _ _ _ => rfl) (by decide) (by omega) (by decide) ?_
      refine an_top (e' := nI (m)) (hfm) ?_
      refine ac_v2 d21_34 c21_42 (by decide) rfl (Nat.le_of_ble_eq_true rfl) (m1) ?_
      refine an_if_eq 50 d21_37 (by decide) (by omega) (fun c37 => absurd c37 (by decide)) (fun c37 => ?_)
      refine as_aload_n d21_40 rfl ?_
      refine as_dup d21_41 rfl ?_
      refine ap_get d21_42 f21_24 (by decide) rfl rfl ?_
      refine an_top (e' := nI ((lps (fun k => fs (EJ P mt go) k && clo mt go n x k) m).length)) (hU) ?_
      refine an_iconst 1 d21_45 rfl ?_
      refine an_iadd d21_46 ?_
      refine ap_put d21_47 f21_24 (by decide) rfl (Nat.le_of_ble_eq_true rfl) (rfl) rfl rfl ?_
      refine an_iinc 1 d21_50 rfl rfl (by decide) ?_
      refine as_goto 12 d21_53 (by decide) ?_
      refine AW.loc [(0, .ref (22)), (1, .ref (1)), (2, .int (nI (k + 1)))] (am_pick [1, 2, 0] rfl rfl) ?_
      have ihk := ihk ((U).sf 22 2 (nI (((lps (fun k => fs (EJ P mt go) k && clo mt go n x k) m).length) + (1)))) (by
        have hc1 : cnt (fs (EJ P mt go)) (m + 1) = k + 1 := by rw [cnt_t hm2, hm3]
        first
        | exact ⟨i1.trans (m4.ok (hQT.1 _ (by omega))), by rw [m4.2.2.1]; exact i2, by rw [m4.1]; exact i3, by rw [m4.2.1]; exact i4, m + 1, hm1, hc1, by rw [lps_f hno]; exact i7.junk hQT (by omega) m4⟩
        | exact ⟨(i1.trans (m4.ok (hQT.1 _ (by omega)))).sf (Or.inl rfl) _, by show U.2.2.2 = _; rw [m4.2.2.1]; exact i2, by rw [sf_at, if_neg (by omega), m4.1]; exact i3, by show PO mt (U.2.1 42) P (4 * P); rw [m4.2.1]; exact i4, m + 1, hm1, hc1, by rw [lps_t hye]; exact i7.add hQT (by omega) m4⟩)
      exact ihk
  · obtain ⟨i1, i2, i3, i4, b, i5, i6, i7⟩ := hX
    rw [← lps_gap hfg (6 * P) i5 i6] at i7
    have hlen := lps_len (fun k => fs (EJ P mt go) k && clo mt go n x k) (6 * P)
    have hg10 : T.1 10 6 = nI (cnt (fs (EJ P mt go)) (6 * P)) := (i1.2.2.2 10 6 (by omega)).trans hE.1
    refine as_iload_n d21_12 rfl ?_
    refine as_aload_n d21_13 rfl ?_
    refine ap_get d21_14 f21_28 (by decide) rfl rfl ?_
    refine ap_get d21_17 f21_34 (by decide) rfl rfl ?_
    refine an_top (e' := nI (cnt (fs (EJ P mt go)) (6 * P))) (hg10) ?_
    refine an_icmp_ge 56 d21_20 (by decide) (by omega) (by omega) (fun c20 => ?_) (fun c20 => by omega)
    refine as_aload_n d21_56 rfl ?_
    refine an_iconst 0 d21_57 rfl ?_
    refine ap_put d21_58 f21_46 (by decide) rfl (Nat.le_of_ble_eq_true rfl) (rfl) rfl rfl ?_
    have hMX : MXc (T.sf 22 4 (nI 0)) ((lps (fun k => fs (EJ P mt go) k && clo mt go n x k) (6 * P)).length) (cnt (prN mt) (4 * P)) (lpM mt n x (lps (fun k => fs (EJ P mt go) k && clo mt go n x k) (6 * P))) := by
      refine ⟨?_, ?_, ?_, ?_, ?_⟩
      · rw [sf_at, if_neg (by omega)]; exact i7.1
      · rw [sf_at, if_neg (by omega)]; exact i3
      · show ∀ i, i < 18 → 24 ≤ T.2.2.2 23 i ∧ T.2.2.2 23 i < 42
        rw [i2]; exact hQ.1
      · show ∀ i j, i < 18 → j < 18 → T.2.2.2 23 i = T.2.2.2 23 j → i = j
        rw [i2]; exact hQ.2
      · exact fun r hr c hc => i7.2 r hr c (by omega)
    have e2 : (T.sf 22 4 (nI 0)).1 22 2 = nI ((lps (fun k => fs (EJ P mt go) k && clo mt go n x k) (6 * P)).length) := hMX.1
    have e3 : (T.sf 22 4 (nI 0)).1 22 3 = nI (cnt (prN mt) (4 * P)) := hMX.2.1
    refine as_aload_n d21_61 rfl ?_
    refine ap_get d21_62 f21_24 (by decide) rfl rfl ?_
    refine an_top (e' := nI ((lps (fun k => fs (EJ P mt go) k && clo mt go n x k) (6 * P)).length)) (e2) ?_
    refine as_aload_n d21_65 rfl ?_
    refine ap_get d21_66 f21_49 (by decide) rfl rfl ?_
    refine an_top (e' := nI (cnt (prN mt) (4 * P))) (e3) ?_
    refine ac_min d21_69 c21_52 (by decide) (Nat.le_of_ble_eq_true rfl) ?_
    refine an_top (e' := nI (min ((lps (fun k => fs (EJ P mt go) k && clo mt go n x k) (6 * P)).length) (cnt (prN mt) (4 * P)))) (nI_minR (a := (lps (fun k => fs (EJ P mt go) k && clo mt go n x k) (6 * P)).length) (b := cnt (prN mt) (4 * P)) (by omega) (by omega)) ?_
    refine as_istore_n d21_72 (by decide) ?_
    refine AW.loc [(0, .ref (22)), (1, .ref (1)), (2, .int (nI (min ((lps (fun k => fs (EJ P mt go) k && clo mt go n x k) (6 * P)).length) (cnt (prN mt) (4 * P)))))] (am_pick [1, 2, 0] rfl rfl) ?_
    refine aw_fromE (fun t V => ((73, [(0, .ref (22)), (1, .ref (1)), (2, .int (nI (min ((lps (fun k => fs (EJ P mt go) k && clo mt go n x k) (6 * P)).length) (cnt (prN mt) (4 * P)))))], [], 208, HP (V), 0, 0) : am_Z)) (fun t V => oKeep S V ∧ V.1 22 4 = nI (t) ∧ ∃ nn B, nn < 100000 ∧ G (t) nn B ∧ MXc V ((lps (fun k => fs (EJ P mt go) k && clo mt go n x k) (6 * P)).length) (cnt (prN mt) (4 * P)) B) (0) (min ((lps (fun k => fs (EJ P mt go) k && clo mt go n x k) (6 * P)).length) (cnt (prN mt) (4 * P))) (by omega) ((T).sf 22 4 (nI (0))) (rfl) (⟨i1.sf (Or.inr (Or.inr rfl)) _, by rw [sf_at, if_pos ⟨rfl, rfl⟩], n0, _, hn0, h0, hMX⟩) (fun t V ht0 ht hJ iht => ?_) (fun V hJX => ?_)
    · obtain ⟨j1, j2, nn, B, j3, j4, j5⟩ := hJ
      have hr1 := Nat.min_le_left ((lps (fun k => fs (EJ P mt go) k && clo mt go n x k) (6 * P)).length) (cnt (prN mt) (4 * P))
      have hr2 := Nat.min_le_right ((lps (fun k => fs (EJ P mt go) k && clo mt go n x k) (6 * P)).length) (cnt (prN mt) (4 * P))
      refine as_aload_n d21_73 rfl ?_
      refine ap_get d21_74 f21_46 (by decide) rfl rfl ?_
      refine an_top (e' := nI (t)) (j2) ?_
      refine as_iload_n d21_77 rfl ?_
      refine an_icmp_ge 105 d21_78 (by decide) (by omega) (by omega) (fun c78 => by omega) (fun c78 => ?_)
      obtain ⟨v, W, m1, m2, m3⟩ := mx_makeDiagC X V ((lps (fun k => fs (EJ P mt go) k && clo mt go n x k) (6 * P)).length) (cnt (prN mt) (4 * P)) B (by omega) hm j5 G hH t nn (by omega) (by omega) j3 j4
      rcases m3 with ⟨rfl, n3, B3, m4, m5, m6⟩ | ⟨rfl, n3, B3, m4, m5, m6⟩
      · skip
        refine as_aload_n d21_81 rfl ?_
        refine as_aload_n d21_82 rfl ?_
        refine ap_get d21_83 f21_46 (by decide) rfl rfl ?_
        refine an_top (e' := nI (t)) (j2) ?_
        refine ac_v1 d21_86 c21_58 (by decide) rfl (Nat.le_of_ble_eq_true rfl) (m1) ?_
        refine an_if_eq 105 d21_89 (by decide) (by omega) (fun c89 => ?_) (fun c89 => absurd c89 (by decide))
        refine as_return d21_105 t21 ?_
        exact ⟨_, _, rfl, rfl, j1.trans m2.1, t, n3, B3, by omega, by rw [m2.2]; exact j2, m5, m4, Or.inr m6⟩
      · have hW : W.1 22 4 = nI t := by rw [m2.2]; exact j2
        refine as_aload_n d21_81 rfl ?_
        refine as_aload_n d21_82 rfl ?_
        refine ap_get d21_83 f21_46 (by decide) rfl rfl ?_
        refine an_top (e' := nI (t)) (by first | exact j2 | exact hW) ?_
        refine ac_v1 d21_86 c21_58 (by decide) rfl (Nat.le_of_ble_eq_true rfl) (m1) ?_
        refine an_if_eq 105 d21_89 (by decide) (by omega) (fun c89 => absurd c89 (by decide)) (fun c89 => ?_)
        refine as_aload_n d21_92 rfl ?_
        refine as_dup d21_93 rfl ?_
        refine ap_get d21_94 f21_46 (by decide) rfl rfl ?_
        refine an_top (e' := nI (t)) (by first | exact j2 | exact hW) ?_
        refine an_iconst 1 d21_97 rfl ?_
        refine an_iadd d21_98 ?_
        refine ap_put d21_99 f21_46 (by decide) rfl (Nat.le_of_ble_eq_true rfl) (rfl) rfl rfl ?_
        refine as_goto 73 d21_102 (by decide) ?_
        refine AW.loc [(0, .ref (22)), (1, .ref (1)), (2, .int (nI (min ((lps (fun k => fs (EJ P mt go) k && clo mt go n x k) (6 * P)).length) (cnt (prN mt) (4 * P)))))] (am_pick [0, 1, 2] rfl rfl) ?_
        have iht := iht ((W).sf 22 4 (nI ((t) + (1)))) (⟨(j1.trans m2.1).sf (Or.inr (Or.inr rfl)) _, by rw [sf_at, if_pos ⟨rfl, rfl⟩], n3, B3, m4, m5, by rw [sf_at, if_neg (by omega)]; exact m6.1, by rw [sf_at, if_neg (by omega)]; exact m6.2.1, m6.2.2⟩)
        exact iht
    · obtain ⟨j1, j2, nn, B, j3, j4, j5⟩ := hJX
      refine as_aload_n d21_73 rfl ?_
      refine ap_get d21_74 f21_46 (by decide) rfl rfl ?_
      refine an_top (e' := nI (min ((lps (fun k => fs (EJ P mt go) k && clo mt go n x k) (6 * P)).length) (cnt (prN mt) (4 * P)))) (j2) ?_
      refine as_iload_n d21_77 rfl ?_
      refine an_icmp_ge 105 d21_78 (by decide) (by omega) (by omega) (fun c78 => ?_) (fun c78 => by omega)
      refine as_return d21_105 t21 ?_
      exact ⟨_, _, rfl, rfl, j1, _, nn, B, Nat.le_refl _, j2, j5, j4, Or.inl rfl⟩
