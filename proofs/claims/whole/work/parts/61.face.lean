theorem i32_nl {x : Int32} (h : 0 ≤ x) : ¬ x < 0 := by
  rw [Int32.lt_iff_toInt_lt]
  rw [Int32.le_iff_toInt_le] at h
  omega
theorem i32_le {x : Int32} (h : ¬ x < 0) : 0 ≤ x := by
  rw [Int32.lt_iff_toInt_lt] at h
  rw [Int32.le_iff_toInt_le]
  omega
theorem i32_nle {x y : Int32} (h : x < y) : ¬ y ≤ x := by
  rw [Int32.le_iff_toInt_le]
  rw [Int32.lt_iff_toInt_lt] at h
  omega
theorem i32_lt {x y : Int32} (h : ¬ y ≤ x) : x < y := by
  rw [Int32.le_iff_toInt_le] at h
  rw [Int32.lt_iff_toInt_lt]
  omega
/-! the class: tell, fasten, loosen, grow, empty, wipe; what is asked ahead -/
theorem and3 : ∀ r, r < 64 → nI r &&& nI 3 = nI (r % 4) := by decide
theorem shr2 : ∀ r, r < 64 → nI r >>> (nI 2 &&& 31) = nI (r / 4) := by decide
theorem isI2 : isI 2 12 := fun _ _ _ _ => rfl
theorem isI178 : isI 178 21 := fun _ _ _ _ => rfl
/-- what is left of a map -/
def rsM (f m c : Nat) : Nat := if gi f c = 0 then m else if gi f c = 1 then m / 4 else if gi f c = 2 then m / 16 else m / 64
theorem rsM_e {f m c : Nat} (h : c = f) : rsM f m (c + 1) = rsM f m c := by
  unfold rsM
  rw [gi_eq h]
theorem rsM_n {f g m c : Nat} (h : c ≠ f) (hc : c < 4) (hf : f < 4) : rsM f m (c + 1) = rsM f m c / 4 ∧ (m < 64 → rsM f m c % 4 = gy f g m c) := by
  have hg : gi f c < 3 := by unfold gi; split <;> omega
  unfold rsM gy
  rw [gi_ne h, if_neg h]
  rcases (show gi f c = 0 ∨ gi f c = 1 ∨ gi f c = 2 by omega) with e | e | e
  · rw [e]
    simp
  · rw [e]
    simp
    omega
  · rw [e]
    simp
    omega
theorem rsM_lt {f m c : Nat} (hm : m < 64) : rsM f m c < 64 := by
  unfold rsM
  split
  · exact hm
  · split
    · omega
    · split <;> omega
theorem mc_tell (X : am_X) (S : MS) (s c t d : Nat) (hs : s < 12) (ht : t < 12) (hc : c < 4) (hd : d < 4) : MC X 62 [.ref (1), .int (nI (s)), .int (nI (c)), .int (nI (t)), .int (nI (d))] S none ((S.sa 3 (4 * s + c) (nI d)).sa 3 (4 * t + d) (nI c)) := by
  refine MC.of (Nat.le_of_ble_eq_true rfl) ?_
  refine as_aload_n d62_0 rfl ?_
  refine ap_get d62_1 f62_15 (by decide) rfl rfl ?_
  refine an_iconst 4 d62_4 rfl ?_
  refine as_iload_n d62_5 rfl ?_
  refine an_imul d62_6 ?_
  refine as_iload_n d62_7 rfl ?_
  refine an_iadd d62_8 ?_
  refine as_iload d62_9 rfl ?_
  refine ap_iast d62_11 (fun _ _ _ _ => rfl) (by decide) (by omega) (by decide) ?_
  refine as_aload_n d62_12 rfl ?_
  refine ap_get d62_13 f62_15 (by decide) rfl rfl ?_
  refine an_iconst 4 d62_16 rfl ?_
  refine as_iload_n d62_17 rfl ?_
  refine an_imul d62_18 ?_
  refine as_iload d62_19 rfl ?_
  refine an_iadd d62_21 ?_
  refine as_iload_n d62_22 rfl ?_
  refine ap_iast d62_23 (fun _ _ _ _ => rfl) (by decide) (by omega) (by decide) ?_
  refine as_return d62_24 t62 ?_
  rfl
def fsKeep (S T : MS) : Prop := (∀ k, k ≠ 2 → k ≠ 3 → T.2.1 k = S.2.1 k) ∧ T.2.2 = S.2.2 ∧ (∀ i j, ¬ (i = 1 ∧ (j = 0 ∨ j = 1)) → T.1 i j = S.1 i j)
theorem fsKeep.sa {S T : MS} (h : fsKeep S T) {A : Nat} (hA : A = 2 ∨ A = 3) (i : Nat) (x : Int32) : fsKeep S (T.sa A i x) := by
  refine ⟨fun k a b => ?_, h.2.1, h.2.2⟩
  rw [sa_row _ _ _ _ (by omega)]
  exact h.1 k a b
theorem fsKeep.sf {S T : MS} (h : fsKeep S T) {j : Nat} (hj : j = 0 ∨ j = 1) (x : Int32) : fsKeep S (T.sf 1 j x) := by
  refine ⟨h.1, h.2.1, fun i k a => ?_⟩
  rw [sf_at, if_neg (by omega)]
  exact h.2.2 i k a
theorem fsKeep.rf (S : MS) : fsKeep S S := ⟨fun _ _ _ => rfl, rfl, fun _ _ _ => rfl⟩
/-- told of corners that q has -/
def toldQ (S T : MS) (s t f g m : Nat) (q : Nat → Prop) : Prop := (∀ x, x < 4 → q x → T.2.1 3 (4 * s + x) = nI (gy f g m x) ∧ T.2.1 3 (4 * t + gy f g m x) = nI x) ∧ ∀ j, j / 4 ≠ s → j / 4 ≠ t → T.2.1 3 j = S.2.1 3 j
theorem toldQ.tell {S T : MS} {s t f g m : Nat} {q : Nat → Prop} (h : toldQ S T s t f g m q) (hst : s ≠ t) (hf : f < 4) (hg : g < 4) (hm : m < 64) (hk : gOk g m) {c : Nat} (hc : c < 4) : toldQ S ((T.sa 3 (4 * s + c) (nI (gy f g m c))).sa 3 (4 * t + gy f g m c) (nI c)) s t f g m (fun x => q x ∨ x = c) := by
  have lc := gy_lt (f := f) (x := c) hg hm
  refine ⟨fun x hx hq => ?_, fun j j1 j2 => ?_⟩
  · have lx := gy_lt (f := f) (x := x) hg hm
    rw [sa_at, sa_at, sa_at, sa_at]
    by_cases e : x = c
    · subst e
      rw [if_neg (by omega), if_pos rfl, if_pos rfl]
      exact ⟨rfl, rfl⟩
    · have e2 : gy f g m x ≠ gy f g m c := fun w => e (gy_inj hf hk hx hc w)
      rw [if_neg (by omega), if_neg (by omega), if_neg (by omega), if_neg (by omega)]
      exact h.1 x hx (hq.resolve_right e)
  · rw [sa_at, sa_at, if_neg (by omega), if_neg (by omega)]
    exact h.2 j j1 j2
theorem toldQ.mono {S T : MS} {s t f g m : Nat} {q q' : Nat → Prop} (h : toldQ S T s t f g m q) (hq : ∀ x, x < 4 → q' x → q x) : toldQ S T s t f g m q' := ⟨fun x hx w => h.1 x hx (hq x hx w), h.2⟩
theorem CG.glue {S T : MS} {P : Nat} {mt : Nat → Option Nat} {go : Nat → Nat} (hC : CG S P mt go) {s t f g m : Nat} (hs : s < 4 * P) (ht : t < 4 * P) (hst : s ≠ t) (es : mt s = none) (et : mt t = none) (hf : f < 4) (hg : g < 4) (hm : m < 64) (hk : gOk g m) (h0 : T.1 1 0 = S.1 1 0) (h1 : T.1 1 1 = nI (cnt (prN mt) (4 * P) + 1)) (h2 : T.2.1 2 = ((S.sa 2 s (nI t)).sa 2 t (nI s)).2.1 2) (h3 : toldQ S T s t f g m (fun _ => True)) : CG T P (mtG mt s t) (goG go s t f g m) := by
  refine ⟨h0.trans hC.1, by rw [prN_glue hs ht hst es et]; exact h1, fun z hz => ?_, fun z z1 z2 => ?_, fun z w c hz hw hc => ?_⟩
  · rw [h2, sa_at, sa_at]
    exact mI_G hst (fun _ _ => hC.2.2.1 z hz)
  · rw [h2, sa_at, sa_at, if_neg (by omega), if_neg (by omega)]
    exact hC.2.2.2.1 z z1 z2
  · have i1 : ∀ x, x < 4 → T.2.1 3 (4 * s + x) = nI (gy f g m x) ∧ T.2.1 3 (4 * t + gy f g m x) = nI x := fun x hx => h3.1 x hx trivial
    by_cases q1 : z = s
    · subst q1
      exact (go_split hst hf hg hm hk i1 hc).1
    · by_cases q2 : z = t
      · subst q2
        exact (go_split hst hf hg hm hk i1 hc).2
      · have e : goG go s t f g m (4 * z + c) = go (4 * z + c) := by
          unfold goG
          rw [if_neg (by omega), if_neg (by omega)]
        rw [h3.2 _ (by omega) (by omega), e]
        unfold mtG at hw
        rw [if_neg q1, if_neg q2] at hw
        exact hC.2.2.2.2 z w c hz hw hc
theorem mx_fasten (X : am_X) (S : MS) (P : Nat) (mt : Nat → Option Nat) (go : Nat → Nat) (s t m : Nat) (hG : GW P mt go) (hC : CG S P mt go) (hs : s < 4 * P) (ht : t < 4 * P) (hst : s ≠ t) (es : mt s = none) (et : mt t = none) (hm : m < 64) (hk : gOk (t % 4) m) : ∃ T, MC X 61 [.ref (1), .int (nI (s)), .int (nI (t)), .int (nI (m))] S none T ∧ fsKeep S T ∧ CG T P (mtG mt s t) (goG go s t (s % 4) (t % 4) m) := by
  have hP := hG.1
  have key := MX.mc (X := X) (mj := 61) (as := [.ref (1), .int (nI (s)), .int (nI (t)), .int (nI (m))]) (S := S) (Post := fun v T => v = none ∧ fsKeep S T ∧ CG T P (mtG mt s t) (goG go s t (s % 4) (t % 4) m)) ?_
  · obtain ⟨v, T, g1, g2, g3⟩ := key
    subst g2
    exact ⟨T, g1, g3⟩
  have hbeg0 : toldQ S ((((((S.sa 2 s (nI t)).sa 2 t (nI s)).sf 1 1 (nI (cnt (prN mt) (4 * P) + 1)))).sa 3 (4 * s + (s % 4)) (nI (t % 4))).sa 3 (4 * t + (t % 4)) (nI (s % 4))) s t (s % 4) (t % 4) m (fun x => False ∨ x = s % 4) := by
    have q := toldQ.tell (S := S) (T := (((S.sa 2 s (nI t)).sa 2 t (nI s)).sf 1 1 (nI (cnt (prN mt) (4 * P) + 1)))) (s := s) (t := t) (f := s % 4) (g := t % 4) (m := m) (q := fun _ => False) ⟨fun x hx w => w.elim, fun j _ _ => by rw [sf_snd, sa_row _ _ _ _ (by decide), sa_row _ _ _ _ (by decide)]⟩ hst (by omega) (by omega) hm hk (c := s % 4) (by omega)
    rw [gy_f] at q
    exact q
  have hbeg : fsKeep S ((((((S.sa 2 s (nI t)).sa 2 t (nI s)).sf 1 1 (nI (cnt (prN mt) (4 * P) + 1)))).sa 3 (4 * s + (s % 4)) (nI (t % 4))).sa 3 (4 * t + (t % 4)) (nI (s % 4))) ∧ ((((((S.sa 2 s (nI t)).sa 2 t (nI s)).sf 1 1 (nI (cnt (prN mt) (4 * P) + 1)))).sa 3 (4 * s + (s % 4)) (nI (t % 4))).sa 3 (4 * t + (t % 4)) (nI (s % 4))).1 1 0 = S.1 1 0 ∧ ((((((S.sa 2 s (nI t)).sa 2 t (nI s)).sf 1 1 (nI (cnt (prN mt) (4 * P) + 1)))).sa 3 (4 * s + (s % 4)) (nI (t % 4))).sa 3 (4 * t + (t % 4)) (nI (s % 4))).1 1 1 = nI (cnt (prN mt) (4 * P) + 1) ∧ ((((((S.sa 2 s (nI t)).sa 2 t (nI s)).sf 1 1 (nI (cnt (prN mt) (4 * P) + 1)))).sa 3 (4 * s + (s % 4)) (nI (t % 4))).sa 3 (4 * t + (t % 4)) (nI (s % 4))).2.1 2 = ((S.sa 2 s (nI t)).sa 2 t (nI s)).2.1 2 ∧ toldQ S ((((((S.sa 2 s (nI t)).sa 2 t (nI s)).sf 1 1 (nI (cnt (prN mt) (4 * P) + 1)))).sa 3 (4 * s + (s % 4)) (nI (t % 4))).sa 3 (4 * t + (t % 4)) (nI (s % 4))) s t (s % 4) (t % 4) m (fun x => x = s % 4 ∨ x < 0) := by
    refine ⟨((((((fsKeep.rf S).sa (by omega) _ _).sa (by omega) _ _).sf (by omega) _).sa (by omega) _ _).sa (by omega) _ _), ?_, ?_, ?_, hbeg0.mono (fun x hx w => by omega)⟩
    · show (((S.sa 2 s (nI t)).sa 2 t (nI s)).sf 1 1 (nI (cnt (prN mt) (4 * P) + 1))).1 1 0 = _
      rw [sf_at, if_neg (by omega)]
    · show (((S.sa 2 s (nI t)).sa 2 t (nI s)).sf 1 1 (nI (cnt (prN mt) (4 * P) + 1))).1 1 1 = _
      rw [sf_at, if_pos ⟨rfl, rfl⟩]
    · rw [sa_row _ _ _ _ (by decide), sa_row _ _ _ _ (by decide), sf_snd]
  refine MX.of (Nat.le_of_ble_eq_true rfl) ?_
  refine as_aload_n d61_0 rfl ?_
  refine ap_get d61_1 f61_9 (by decide) rfl rfl ?_
  refine as_iload_n d61_4 rfl ?_
  refine as_iload_n d61_5 rfl ?_
  refine ap_iast d61_6 (fun _ _ _ _ => rfl) (by decide) (by omega) (by decide) ?_
  refine as_aload_n d61_7 rfl ?_
  refine ap_get d61_8 f61_9 (by decide) rfl rfl ?_
  refine as_iload_n d61_11 rfl ?_
  refine as_iload_n d61_12 rfl ?_
  refine ap_iast d61_13 (fun _ _ _ _ => rfl) (by decide) (by omega) (by decide) ?_
  refine as_aload_n d61_14 rfl ?_
  refine as_dup d61_15 rfl ?_
  refine ap_get d61_16 f61_43 (by decide) rfl rfl ?_
  refine an_top (e' := nI (cnt (prN mt) (4 * P))) (hC.2.1) ?_
  refine an_iconst 1 d61_19 rfl ?_
  refine an_iadd d61_20 ?_
  refine ap_put d61_21 f61_43 (by decide) rfl (Nat.le_of_ble_eq_true rfl) (rfl) rfl rfl ?_
  refine as_aload_n d61_24 rfl ?_
  refine as_iload_n d61_25 rfl ?_
  refine as_iload_n d61_26 rfl ?_
  refine an_iconst 4 d61_27 rfl ?_
  refine an_irem d61_28 (by omega) (by omega) (by omega) ?_
  refine as_iload_n d61_29 rfl ?_
  refine as_iload_n d61_30 rfl ?_
  refine an_iconst 4 d61_31 rfl ?_
  refine an_irem d61_32 (by omega) (by omega) (by omega) ?_
  refine ac_v4 d61_33 c61_46 (by decide) rfl (Nat.le_of_ble_eq_true rfl) (mc_tell X _ _ _ _ _ (by omega) (by omega) (by omega) (by omega)) ?_
  refine as_iload_n d61_36 rfl ?_
  refine as_istore d61_37 (by decide) ?_
  refine an_iconst 0 d61_39 rfl ?_
  refine as_istore d61_40 (by decide) ?_
  refine AW.loc [(0, .ref (1)), (1, .int (nI (s))), (2, .int (nI (t))), (4, .int (nI (m))), (5, .int (nI (0)))] (am_pick [2, 3, 4, 1, 0] rfl rfl) ?_
  refine aw_fromE (fun c T => ((42, [(0, .ref (1)), (1, .int (nI (s))), (2, .int (nI (t))), (4, .int (nI (rsM (s % 4) m (c)))), (5, .int (nI (c)))], [], 208, HP (T), 0, 0) : am_Z)) (fun c T => fsKeep S T ∧ T.1 1 0 = S.1 1 0 ∧ T.1 1 1 = nI (cnt (prN mt) (4 * P) + 1) ∧ T.2.1 2 = ((S.sa 2 s (nI t)).sa 2 t (nI s)).2.1 2 ∧ toldQ S T s t (s % 4) (t % 4) m (fun x => x = s % 4 ∨ x < c)) (0) (4) (by omega) ((((((S.sa 2 s (nI t)).sa 2 t (nI s)).sf 1 1 (nI (cnt (prN mt) (4 * P) + 1)))).sa 3 (4 * s + (s % 4)) (nI (t % 4))).sa 3 (4 * t + (t % 4)) (nI (s % 4))) (rfl) (hbeg) (fun c T hc0 hc hI ihc => ?_) (fun T hX => ?_)
  · have hrl := rsM_lt (f := s % 4) (c := c) hm
    refine as_iload d61_42 rfl ?_
    refine an_iconst 4 d61_44 rfl ?_
    refine an_icmp_ge 80 d61_45 (by decide) (by omega) (by omega) (fun c45 => by omega) (fun c45 => ?_)
    refine as_iload d61_48 rfl ?_
    refine as_iload_n d61_50 rfl ?_
    refine an_iconst 4 d61_51 rfl ?_
    refine an_irem d61_52 (by omega) (by omega) (by omega) ?_
    refine an_icmp_eq 74 d61_53 (by decide) (by omega) (by omega) (fun c53 => ?_) (fun c53 => ?_)
    · have hre := rsM_e (m := m) c53
      refine an_iinc 1 d61_74 rfl rfl (by decide) ?_
      refine as_goto 42 d61_77 (by decide) ?_
      refine AW.loc [(0, .ref (1)), (1, .int (nI (s))), (2, .int (nI (t))), (4, .int (nI (rsM (s % 4) m (c)))), (5, .int (nI (c + 1)))] (am_pick [1, 2, 3, 4, 0] rfl rfl) ?_
      have ihc := ihc (T) (by
        obtain ⟨j1, j2, j3, j4, j5⟩ := hI
        first
        | exact ⟨j1, j2, j3, j4, j5.mono (fun x hx w => by omega)⟩
        | exact ⟨(j1.sa (by omega) _ _).sa (by omega) _ _, j2, j3, by rw [sa_row _ _ _ _ (by decide), sa_row _ _ _ _ (by decide)]; exact j4, (j5.tell hst (by omega) (by omega) hm hk hc).mono (fun x hx w => by omega)⟩)
      have e4 : rsM (s % 4) m (c + 1) = rsM (s % 4) m (c) := by first | exact hrn.1 | exact hre
      rw [e4] at ihc
      exact ihc
    · have hrn := rsM_n (g := t % 4) (m := m) c53 hc (by omega)
      have hgl := gy_lt (f := s % 4) (g := t % 4) (m := m) (x := c) (by omega) hm
      refine as_aload_n d61_56 rfl ?_
      refine as_iload_n d61_57 rfl ?_
      refine as_iload d61_58 rfl ?_
      refine as_iload_n d61_60 rfl ?_
      refine as_iload d61_61 rfl ?_
      refine an_iconst 3 d61_63 rfl ?_
      refine as_iand d61_64 ?_
      refine an_top (e' := nI (gy (s % 4) (t % 4) m c)) (by rw [and3 _ hrl, hrn.2 hm]) ?_
      refine ac_v4 d61_65 c61_46 (by decide) rfl (Nat.le_of_ble_eq_true rfl) (mc_tell X _ _ _ _ _ (by omega) (by omega) hc hgl) ?_
      refine as_iload d61_68 rfl ?_
      refine an_iconst 2 d61_70 rfl ?_
      refine as_ishr d61_71 ?_
      refine an_top (e' := nI (rsM (s % 4) m c / 4)) (shr2 _ hrl) ?_
      refine as_istore d61_72 (by decide) ?_
      refine an_iinc 1 d61_74 rfl rfl (by decide) ?_
      refine as_goto 42 d61_77 (by decide) ?_
      refine AW.loc [(0, .ref (1)), (1, .int (nI (s))), (2, .int (nI (t))), (4, .int (nI (rsM (s % 4) m c / 4))), (5, .int (nI (c + 1)))] (am_pick [2, 3, 4, 1, 0] rfl rfl) ?_
      have ihc := ihc (((T).sa 3 (4 * s + (c)) (nI (gy (s % 4) (t % 4) m c))).sa 3 (4 * t + (gy (s % 4) (t % 4) m c)) (nI (c))) (by
        obtain ⟨j1, j2, j3, j4, j5⟩ := hI
        first
        | exact ⟨j1, j2, j3, j4, j5.mono (fun x hx w => by omega)⟩
        | exact ⟨(j1.sa (by omega) _ _).sa (by omega) _ _, j2, j3, by rw [sa_row _ _ _ _ (by decide), sa_row _ _ _ _ (by decide)]; exact j4, (j5.tell hst (by omega) (by omega) hm hk hc).mono (fun x hx w => by omega)⟩)
      have e4 : rsM (s % 4) m (c + 1) = rsM (s % 4) m c / 4 := by first | exact hrn.1 | exact hre
      rw [e4] at ihc
      exact ihc
  · refine as_iload d61_42 rfl ?_
    refine an_iconst 4 d61_44 rfl ?_
    refine an_icmp_ge 80 d61_45 (by decide) (by omega) (by omega) (fun c45 => ?_) (fun c45 => by omega)
    refine as_return d61_80 t61 ?_
    exact ⟨_, _, rfl, rfl, hX.1, hC.glue hs ht hst es et (by omega) (by omega) hm hk hX.2.1 hX.2.2.1 hX.2.2.2.1 (hX.2.2.2.2.mono (fun x hx _ => by omega))⟩
theorem mx_loosen (X : am_X) (S : MS) (P : Nat) (mt : Nat → Option Nat) (go : Nat → Nat) (s t : Nat) (hG : GW P mt go) (hC : CG S P mt go) (hs : s < 4 * P) (e0 : mt s = some t) : ∃ T, MC X 63 [.ref (1), .int (nI (s))] S none T ∧ fsKeep S T ∧ CG T P (mtO mt s t) go := by
  have hP := hG.1
  have ht := mt_lt hG hs e0
  have hpr := prN_open hG hs e0
  have key := MX.mc (X := X) (mj := 63) (as := [.ref (1), .int (nI (s))]) (S := S) (Post := fun v T => v = none ∧ fsKeep S T ∧ CG T P (mtO mt s t) go) ?_
  · obtain ⟨v, T, g1, g2, g3⟩ := key
    subst g2
    exact ⟨T, g1, g3⟩
  refine MX.of (Nat.le_of_ble_eq_true rfl) ?_
  refine as_aload_n d63_0 rfl ?_
  refine ap_get d63_1 f63_9 (by decide) rfl rfl ?_
  refine as_iload_n d63_4 rfl ?_
  refine ap_iald d63_5 (fun _ _ _ _ => rfl) (by decide) (by omega) (by decide) ?_
  refine an_top (e' := nI (t)) (by rw [hC.2.2.1 _ (by omega), e0]; rfl) ?_
  refine as_istore_n d63_6 (by decide) ?_
  refine as_iload_n d63_7 rfl ?_
  refine an_iconstI (-1) d63_8 rfl ?_
  refine as_icmp_eq 36 d63_9 (by decide) (fun c9 => absurd c9 (nI_ne1 (by omega))) (fun c9 => ?_)
  refine as_aload_n d63_12 rfl ?_
  refine ap_get d63_13 f63_9 (by decide) rfl rfl ?_
  refine as_iload_n d63_16 rfl ?_
  refine an_iconstI (-1) d63_17 rfl ?_
  refine ap_iast d63_18 (fun _ _ _ _ => rfl) (by decide) (by omega) (by decide) ?_
  refine as_aload_n d63_19 rfl ?_
  refine ap_get d63_20 f63_9 (by decide) rfl rfl ?_
  refine as_iload_n d63_23 rfl ?_
  refine an_iconstI (-1) d63_24 rfl ?_
  refine ap_iast d63_25 (fun _ _ _ _ => rfl) (by decide) (by omega) (by decide) ?_
  refine as_aload_n d63_26 rfl ?_
  refine as_dup d63_27 rfl ?_
  refine ap_get d63_28 f63_43 (by decide) rfl rfl ?_
  refine an_top (e' := nI (cnt (prN mt) (4 * P))) (hC.2.1) ?_
  refine an_iconst 1 d63_31 rfl ?_
  refine an_isub d63_32 (by omega) ?_
  refine ap_put d63_33 f63_43 (by decide) rfl (Nat.le_of_ble_eq_true rfl) (rfl) rfl rfl ?_
  refine as_return d63_36 t63 ?_
  refine ⟨_, _, rfl, rfl, ((((fsKeep.rf S).sa (by omega) _ _).sa (by omega) _ _).sf (by omega) _), by rw [sf_at, if_neg (by omega)]; exact hC.1, by rw [sf_at, if_pos ⟨rfl, rfl⟩, hpr]; rfl, fun z hz => ?_, fun z z1 z2 => ?_, fun z w c hz hw hc => ?_⟩
  · rw [sf_snd, sa_at, sa_at]
    unfold mtO
    by_cases q1 : z = t
    · rw [if_pos q1, if_pos (Or.inr q1)]
      rfl
    · rw [if_neg q1]
      by_cases q2 : z = s
      · rw [if_pos q2, if_pos (Or.inl q2)]
        rfl
      · rw [if_neg q2, if_neg (fun q => q.elim q2 q1)]
        exact hC.2.2.1 z hz
  · rw [sf_snd, sa_at, sa_at, if_neg (by omega), if_neg (by omega)]
    exact hC.2.2.2.1 z z1 z2
  · unfold mtO at hw
    by_cases q : z = s ∨ z = t
    · rw [if_pos q] at hw
      cases hw
    · rw [if_neg q] at hw
      rw [sf_snd, sa_row _ _ _ _ (by decide), sa_row _ _ _ _ (by decide)]
      exact hC.2.2.2.2 z w c hz hw hc
theorem mx_grow (X : am_X) (S : MS) (P : Nat) (mt : Nat → Option Nat) (go : Nat → Nat) (hG : GW P mt go) (hC : CG S P mt go) (hP3 : P ≠ 3) : ∃ T, MC X 58 [.ref (1)] S none T ∧ fsKeep S T ∧ CG T (P + 1) (mtP P mt) go := by
  have hP := hG.1
  have hpr := prN_piece (P := P) (mt := mt)
  have key := MX.mc (X := X) (mj := 58) (as := [.ref (1)]) (S := S) (Post := fun v T => v = none ∧ fsKeep S T ∧ CG T (P + 1) (mtP P mt) go) ?_
  · obtain ⟨v, T, g1, g2, g3⟩ := key
    subst g2
    exact ⟨T, g1, g3⟩
  refine MX.of (Nat.le_of_ble_eq_true rfl) ?_
  refine as_aload_n d58_0 rfl ?_
  refine ap_get d58_1 f58_39 (by decide) rfl rfl ?_
  refine an_top (e' := nI (P)) (hC.1) ?_
  refine an_iconst 3 d58_4 rfl ?_
  refine an_icmp_ge 18 d58_5 (by decide) (by omega) (by omega) (fun c5 => by omega) (fun c5 => ?_)
  refine as_aload_n d58_8 rfl ?_
  refine as_dup d58_9 rfl ?_
  refine ap_get d58_10 f58_39 (by decide) rfl rfl ?_
  refine an_top (e' := nI (P)) (hC.1) ?_
  refine an_iconst 1 d58_13 rfl ?_
  refine an_iadd d58_14 ?_
  refine ap_put d58_15 f58_39 (by decide) rfl (Nat.le_of_ble_eq_true rfl) (rfl) rfl rfl ?_
  refine as_return d58_18 t58 ?_
  refine ⟨_, _, rfl, rfl, (fsKeep.rf S).sf (by omega) _, by rw [sf_at, if_pos ⟨rfl, rfl⟩], by rw [sf_at, if_neg (by omega), hpr]; exact hC.2.1, fun z hz => ?_, fun z z1 z2 => hC.2.2.2.1 z (by omega) z2, fun z w c hz hw hc => ?_⟩
  · unfold mtP
    by_cases q : z < 4 * P
    · rw [if_pos q]
      exact hC.2.2.1 z q
    · rw [if_neg q]
      exact hC.2.2.2.1 z (by omega) (by omega)
  · unfold mtP at hw
    by_cases q : z < 4 * P
    · rw [if_pos q] at hw
      exact hC.2.2.2.2 z w c q hw hc
    · rw [if_neg q] at hw
      cases hw
theorem mx_emptyC (X : am_X) (S : MS) (P : Nat) (mt : Nat → Option Nat) (go : Nat → Nat) : ∃ T, MC X 59 [.ref (1)] S none T ∧ fsKeep S T ∧ CG T 0 (fun _ => none) go := by
  have key := MX.mc (X := X) (mj := 59) (as := [.ref (1)]) (S := S) (Post := fun v T => v = none ∧ fsKeep S T ∧ CG T 0 (fun _ => none) go) ?_
  · obtain ⟨v, T, g1, g2, g3⟩ := key
    subst g2
    exact ⟨T, g1, g3⟩
  refine MX.of (Nat.le_of_ble_eq_true rfl) ?_
  refine as_aload_n d59_0 rfl ?_
  refine an_iconst 0 d59_1 rfl ?_
  refine ap_put d59_2 f59_39 (by decide) rfl (Nat.le_of_ble_eq_true rfl) (rfl) rfl rfl ?_
  refine as_aload_n d59_5 rfl ?_
  refine an_iconst 0 d59_6 rfl ?_
  refine ap_put d59_7 f59_43 (by decide) rfl (Nat.le_of_ble_eq_true rfl) (rfl) rfl rfl ?_
  refine as_aload_n d59_10 rfl ?_
  refine ap_get d59_11 f59_9 (by decide) rfl rfl ?_
  refine an_iconstI (-1) d59_14 rfl ?_
  refine ac_s2 d59_15 c59_33 (by decide) (Nat.le_of_ble_eq_true rfl) (mc_fill X _ _ _ _ (by decide) isI2 (by decide)) ?_
  refine as_return d59_18 t59 ?_
  refine ⟨_, _, rfl, rfl, ⟨fun k a b => ?_, rfl, fun i j a => ?_⟩, ?_, ?_, fun z hz => by omega, fun z z1 z2 => ?_, fun z w c hz => by omega⟩
  · rw [sRow_row _ _ _ _ _ a]
  · rw [sRow_f, sf_at, if_neg (by omega), sf_at, if_neg (by omega)]
  · rw [sRow_f, sf_at, if_neg (by omega), sf_at, if_pos ⟨rfl, rfl⟩]
  · rw [sRow_f, sf_at, if_pos ⟨rfl, rfl⟩]
    rfl
  · have q := sRow_eq (S := (S.sf 1 0 (nI 0)).sf 1 1 (nI 0)) (A := 2) (off := 0) (f := fun _ => (-1 : Int32)) (n := 12) z2
    rw [Nat.zero_add] at q
    exact q
theorem mc_wipe (X : am_X) (S : MS) : MC X 45 [.ref (177)] S none (sRow S 178 0 (fun _ => nI 0) 21) := by
  refine MC.of (Nat.le_of_ble_eq_true rfl) ?_
  refine as_aload_n d45_0 rfl ?_
  refine ap_get d45_1 f45_9 (by decide) rfl rfl ?_
  refine an_iconst 0 d45_4 rfl ?_
  refine ac_s2 d45_5 c45_15 (by decide) (Nat.le_of_ble_eq_true rfl) (mc_fill X _ _ _ _ (by decide) isI178 (by decide)) ?_
  refine as_return d45_8 t45 ?_
  rfl
theorem mc_hasPiece (X : am_X) (S : MS) (P : Nat) (hp : S.1 1 0 = nI P) (p : Int32) : MC X 98 [.ref (0), .int (p)] S (some (.int (if isPc P p then 1 else 0))) S := by
  refine MC.of (Nat.le_of_ble_eq_true rfl) ?_
  refine as_iload_n d98_0 rfl ?_
  refine as_if_lt 19 d98_1 (by decide) (fun c1 => ?_) (fun c1 => ?_)
  · refine an_iconst 0 d98_19 rfl ?_
    refine as_ireturn d98_20 (by rw [t98]; rfl) ?_
    refine am_req ?_
    first | (rw [if_neg (fun g => absurd c1 (i32_nl g.1))]; rfl) | (rw [if_neg (fun g => absurd c12 (i32_nle g.2))]; rfl) | (rw [if_pos ⟨i32_le c1, i32_lt c12⟩]; rfl)
  · refine as_iload_n d98_4 rfl ?_
    refine as_aload_n d98_5 rfl ?_
    refine ap_get d98_6 f98_10 (by decide) rfl rfl ?_
    refine ap_get d98_9 f98_51 (by decide) rfl rfl ?_
    refine an_top (e' := nI (P)) (hp) ?_
    refine as_icmp_ge 19 d98_12 (by decide) (fun c12 => ?_) (fun c12 => ?_)
    · refine an_iconst 0 d98_19 rfl ?_
      refine as_ireturn d98_20 (by rw [t98]; rfl) ?_
      refine am_req ?_
      first | (rw [if_neg (fun g => absurd c1 (i32_nl g.1))]; rfl) | (rw [if_neg (fun g => absurd c12 (i32_nle g.2))]; rfl) | (rw [if_pos ⟨i32_le c1, i32_lt c12⟩]; rfl)
    · refine an_iconst 1 d98_15 rfl ?_
      refine as_goto 20 d98_16 (by decide) ?_
      refine as_ireturn d98_20 (by rw [t98]; rfl) ?_
      refine am_req ?_
      first | (rw [if_neg (fun g => absurd c1 (i32_nl g.1))]; rfl) | (rw [if_neg (fun g => absurd c12 (i32_nle g.2))]; rfl) | (rw [if_pos ⟨i32_le c1, i32_lt c12⟩]; rfl)
theorem mc_hasSide (X : am_X) (S : MS) (P : Nat) (hp : S.1 1 0 = nI P) (p f : Int32) : MC X 99 [.ref (0), .int (p), .int (f)] S (some (.int (if isSd P p f then 1 else 0))) S := by
  refine MC.of (Nat.le_of_ble_eq_true rfl) ?_
  refine as_aload_n d99_0 rfl ?_
  refine as_iload_n d99_1 rfl ?_
  refine ac_v1 d99_2 c99_90 (by decide) rfl (Nat.le_of_ble_eq_true rfl) (mc_hasPiece X _ P hp _) ?_
  refine as_if_eq 21 d99_5 (by decide) (fun c5 => ?_) (fun c5 => ?_)
  · refine an_iconst 0 d99_21 rfl ?_
    refine as_ireturn d99_22 (by rw [t99]; rfl) ?_
    refine am_req ?_
    first | (rw [if_neg (fun g => am_b01.mp c5 g.1)]; rfl) | (rw [if_neg (fun g => absurd c9 (i32_nl g.2.1))]; rfl) | (rw [if_neg (fun g => absurd c14 (i32_nle g.2.2))]; rfl) | (rw [if_pos ⟨am_b1 c5, i32_le c9, i32_lt c14⟩]; rfl)
  · refine as_iload_n d99_8 rfl ?_
    refine as_if_lt 21 d99_9 (by decide) (fun c9 => ?_) (fun c9 => ?_)
    · refine an_iconst 0 d99_21 rfl ?_
      refine as_ireturn d99_22 (by rw [t99]; rfl) ?_
      refine am_req ?_
      first | (rw [if_neg (fun g => am_b01.mp c5 g.1)]; rfl) | (rw [if_neg (fun g => absurd c9 (i32_nl g.2.1))]; rfl) | (rw [if_neg (fun g => absurd c14 (i32_nle g.2.2))]; rfl) | (rw [if_pos ⟨am_b1 c5, i32_le c9, i32_lt c14⟩]; rfl)
    · refine as_iload_n d99_12 rfl ?_
      refine an_iconst 4 d99_13 rfl ?_
      refine as_icmp_ge 21 d99_14 (by decide) (fun c14 => ?_) (fun c14 => ?_)
      · refine an_iconst 0 d99_21 rfl ?_
        refine as_ireturn d99_22 (by rw [t99]; rfl) ?_
        refine am_req ?_
        first | (rw [if_neg (fun g => am_b01.mp c5 g.1)]; rfl) | (rw [if_neg (fun g => absurd c9 (i32_nl g.2.1))]; rfl) | (rw [if_neg (fun g => absurd c14 (i32_nle g.2.2))]; rfl) | (rw [if_pos ⟨am_b1 c5, i32_le c9, i32_lt c14⟩]; rfl)
      · refine an_iconst 1 d99_17 rfl ?_
        refine as_goto 22 d99_18 (by decide) ?_
        refine as_ireturn d99_22 (by rw [t99]; rfl) ?_
        refine am_req ?_
        first | (rw [if_neg (fun g => am_b01.mp c5 g.1)]; rfl) | (rw [if_neg (fun g => absurd c9 (i32_nl g.2.1))]; rfl) | (rw [if_neg (fun g => absurd c14 (i32_nle g.2.2))]; rfl) | (rw [if_pos ⟨am_b1 c5, i32_le c9, i32_lt c14⟩]; rfl)
theorem mc_hasNumber (X : am_X) (S : MS) (P : Nat) (hp : S.1 1 0 = nI P) (i : Int32) : MC X 100 [.ref (0), .int (i)] S (some (.int (if isNm P i then 1 else 0))) S := by
  refine MC.of (Nat.le_of_ble_eq_true rfl) ?_
  refine as_iload_n d100_0 rfl ?_
  refine as_if_lt 22 d100_1 (by decide) (fun c1 => ?_) (fun c1 => ?_)
  · refine an_iconst 0 d100_22 rfl ?_
    refine as_ireturn d100_23 (by rw [t100]; rfl) ?_
    refine am_req ?_
    first | (rw [if_neg (fun g => absurd c1 (i32_nl g.1))]; rfl) | (rw [if_neg (fun g => absurd c15 (i32_nle g.2))]; rfl) | (rw [if_pos ⟨i32_le c1, i32_lt c15⟩]; rfl)
  · refine as_iload_n d100_4 rfl ?_
    refine an_bipush 7 d100_5 rfl ?_
    refine as_aload_n d100_7 rfl ?_
    refine ap_get d100_8 f100_10 (by decide) rfl rfl ?_
    refine ap_get d100_11 f100_51 (by decide) rfl rfl ?_
    refine an_top (e' := nI (P)) (hp) ?_
    refine an_imul d100_14 ?_
    refine as_icmp_ge 22 d100_15 (by decide) (fun c15 => ?_) (fun c15 => ?_)
    · refine an_iconst 0 d100_22 rfl ?_
      refine as_ireturn d100_23 (by rw [t100]; rfl) ?_
      refine am_req ?_
      first | (rw [if_neg (fun g => absurd c1 (i32_nl g.1))]; rfl) | (rw [if_neg (fun g => absurd c15 (i32_nle g.2))]; rfl) | (rw [if_pos ⟨i32_le c1, i32_lt c15⟩]; rfl)
    · refine an_iconst 1 d100_18 rfl ?_
      refine as_goto 23 d100_19 (by decide) ?_
      refine as_ireturn d100_23 (by rw [t100]; rfl) ?_
      refine am_req ?_
      first | (rw [if_neg (fun g => absurd c1 (i32_nl g.1))]; rfl) | (rw [if_neg (fun g => absurd c15 (i32_nle g.2))]; rfl) | (rw [if_pos ⟨i32_le c1, i32_lt c15⟩]; rfl)
theorem mc_hasLeast (X : am_X) (S : MS) (n : Nat) (hp : S.1 43 1 = nI n) (i : Int32) : MC X 101 [.ref (0), .int (i)] S (some (.int (if inR n i then 1 else 0))) S := by
  refine MC.of (Nat.le_of_ble_eq_true rfl) ?_
  refine as_iload_n d101_0 rfl ?_
  refine as_if_lt 19 d101_1 (by decide) (fun c1 => ?_) (fun c1 => ?_)
  · refine an_iconst 0 d101_19 rfl ?_
    refine as_ireturn d101_20 (by rw [t101]; rfl) ?_
    refine am_req ?_
    first | (rw [if_neg (fun g => absurd c1 (i32_nl g.1))]; rfl) | (rw [if_neg (fun g => absurd c12 (i32_nle g.2))]; rfl) | (rw [if_pos ⟨i32_le c1, i32_lt c12⟩]; rfl)
  · refine as_iload_n d101_4 rfl ?_
    refine as_aload_n d101_5 rfl ?_
    refine ap_get d101_6 f101_26 (by decide) rfl rfl ?_
    refine ap_get d101_9 f101_155 (by decide) rfl rfl ?_
    refine an_top (e' := nI (n)) (hp) ?_
    refine as_icmp_ge 19 d101_12 (by decide) (fun c12 => ?_) (fun c12 => ?_)
    · refine an_iconst 0 d101_19 rfl ?_
      refine as_ireturn d101_20 (by rw [t101]; rfl) ?_
      refine am_req ?_
      first | (rw [if_neg (fun g => absurd c1 (i32_nl g.1))]; rfl) | (rw [if_neg (fun g => absurd c12 (i32_nle g.2))]; rfl) | (rw [if_pos ⟨i32_le c1, i32_lt c12⟩]; rfl)
    · refine an_iconst 1 d101_15 rfl ?_
      refine as_goto 20 d101_16 (by decide) ?_
      refine as_ireturn d101_20 (by rw [t101]; rfl) ?_
      refine am_req ?_
      first | (rw [if_neg (fun g => absurd c1 (i32_nl g.1))]; rfl) | (rw [if_neg (fun g => absurd c12 (i32_nle g.2))]; rfl) | (rw [if_pos ⟨i32_le c1, i32_lt c12⟩]; rfl)
