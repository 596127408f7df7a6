/-! the class: sortRows, build -/
def RW (T : MS) (r n : Nat) (R : Nat → Nat → Nat) : Prop := ∀ i, i < n → ∀ j, j < 21 → T.2.1 (T.2.2.2 r i) j = nI (R i j)
theorem sr_at (S : MS) (a k x i j : Nat) : (S.sr a k x).2.2.2 i j = if i = a ∧ j = k then x else S.2.2.2 i j := u2_at _ _ _ _ _ _
theorem sr_same (S : MS) (a k : Nat) : S.sr a k (S.2.2.2 a k) = S := by
  refine Prod.ext rfl (Prod.ext rfl (Prod.ext rfl ?_))
  funext i j
  show u2 S.2.2.2 a k (S.2.2.2 a k) i j = _
  rw [u2_at]
  by_cases h : i = a ∧ j = k
  · rw [if_pos h, h.1, h.2]
  · rw [if_neg h]
theorem leK.sr {S T : MS} (h : leK S T) {a : Nat} (ha : a = 44 ∨ a = 111) (k x : Nat) : leK S (T.sr a k x) := by
  refine ⟨h.1, h.2.1, fun i a1 a2 a3 => ?_, h.2.2.2⟩
  show u2 T.2.2.2 a k x i = _
  rw [u2_ne _ _ _ (by omega)]
  exact h.2.2.1 i a1 a2 a3
/-- refs that change places -/
theorem LRf.perm {U U' : MS} (h : LRf U) (p44 p111 : Nat → Nat) (h1 : ∀ i, i < 64 → p44 i < 64 ∧ U'.2.2.2 44 i = U.2.2.2 44 (p44 i)) (h2 : ∀ i j, i < 64 → j < 64 → p44 i = p44 j → i = j) (h3 : ∀ i, i < 64 → p111 i < 64 ∧ U'.2.2.2 111 i = U.2.2.2 111 (p111 i)) (h4 : ∀ i j, i < 64 → j < 64 → p111 i = p111 j → i = j) : LRf U' := by
  refine ⟨fun i hi => ?_, fun i j hi hj e => ?_, fun i hi => ?_, fun i j hi hj e => ?_⟩
  · rw [(h1 i hi).2]
    exact h.1 _ (h1 i hi).1
  · rw [(h1 i hi).2, (h1 j hj).2] at e
    exact h2 i j hi hj (h.2.1 _ _ (h1 i hi).1 (h1 j hj).1 e)
  · rw [(h3 i hi).2]
    exact h.2.2.1 _ (h3 i hi).1
  · rw [(h3 i hi).2, (h3 j hj).2] at e
    exact h4 i j hi hj (h.2.2.2 _ _ (h3 i hi).1 (h3 j hj).1 e)
def sq (q : Nat) (i : Nat) : Nat := if i = q then q + 1 else if i = q + 1 then q else i
theorem sq_lt {q i : Nat} (hq : q + 1 < 64) (hi : i < 64) : sq q i < 64 := by
  unfold sq
  split
  · omega
  · split <;> omega
theorem sq_inj {q i j : Nat} (h : sq q i = sq q j) : i = j := by
  unfold sq at h
  by_cases a1 : i = q <;> by_cases a2 : i = q + 1 <;> by_cases b1 : j = q <;> by_cases b2 : j = q + 1 <;> simp [a1, a2, b1, b2] at h <;> omega
theorem sortS44 {T : MS} {n q m : Nat} {R : Nat → Nat → Nat} (hL : LRf (T.sr 44 (q + 1) m)) (hW : RW (T.sr 44 (q + 1) m) 44 n R) (hq : q + 1 < n) (hn : n ≤ 64) : LRf ((T.sr 44 (q + 1) (T.2.2.2 44 q)).sr 44 q m) ∧ RW ((T.sr 44 (q + 1) (T.2.2.2 44 q)).sr 44 q m) 44 n (swp2 R (q + 1) q) := by
  have key : ∀ i, ((T.sr 44 (q + 1) (T.2.2.2 44 q)).sr 44 q m).2.2.2 44 i = (T.sr 44 (q + 1) m).2.2.2 44 (sq q i) := by
    intro i
    rw [sr_at, sr_at, sr_at]
    unfold sq
    by_cases a1 : i = q
    · rw [if_pos ⟨rfl, a1⟩, if_pos a1, if_pos ⟨rfl, rfl⟩]
    · rw [if_neg (fun w => a1 w.2), if_neg a1]
      by_cases a2 : i = q + 1
      · rw [if_pos ⟨rfl, a2⟩, if_pos a2, if_neg (by omega)]
      · rw [if_neg (fun w => a2 w.2), if_neg a2, if_neg (fun w => a2 w.2)]
  have oth : ∀ i, ((T.sr 44 (q + 1) (T.2.2.2 44 q)).sr 44 q m).2.2.2 111 i = (T.sr 44 (q + 1) m).2.2.2 111 i := by
    intro i
    rw [sr_at, sr_at, sr_at, if_neg (by omega), if_neg (by omega), if_neg (by omega)]
  refine ⟨hL.perm (sq q) id (fun i hi => ⟨sq_lt (by omega) hi, key i⟩) (fun i j _ _ => sq_inj) (fun i hi => ⟨hi, oth i⟩) (fun i j _ _ h => h), fun i hi j hj => ?_⟩
  have hs : sq q i < n := by unfold sq; split <;> (try omega); split <;> omega
  rw [key]
  have w := hW (sq q i) hs j hj
  show T.2.1 _ j = _
  refine (show T.2.1 ((T.sr 44 (q + 1) m).2.2.2 44 (sq q i)) j = nI (R (sq q i) j) from w).trans ?_
  congr 1
  unfold swp2 sq
  by_cases a1 : i = q
  · rw [if_pos a1, if_neg (by omega), if_pos a1]
  · rw [if_neg a1]
    by_cases a2 : i = q + 1
    · rw [if_pos a2, if_pos a2]
    · rw [if_neg a2, if_neg a2, if_neg a1]
theorem mx_sortRows44 (X : am_X) (S : MS) (P n : Nat) (R : Nat → Nat → Nat) (hP : P ≤ 3) (hn : n ≤ 64) (hL : LRf S) (hf : LCf S 44 109 111 176) (h0 : S.1 43 0 = nI (7 * P)) (h1 : S.1 43 1 = nI n) (hW : RW S 44 n R) (hB : RB P n R 20000) : ∃ T, MC X 18 [.ref (43)] S none T ∧ (leK S T ∧ LCf T 44 109 111 176 ∧ T.1 = S.1) ∧ LRf T ∧ RW T 44 n (sortR (7 * P) R (n - 1)) := by
  have key := MX.mc (X := X) (mj := 18) (as := [.ref (43)]) (S := S) (Post := fun v T => v = none ∧ (leK S T ∧ LCf T 44 109 111 176 ∧ T.1 = S.1) ∧ LRf T ∧ RW T 44 n (sortR (7 * P) R (n - 1))) ?_
  · obtain ⟨v, T, g1, g2, g3⟩ := key
    subst g2
    exact ⟨T, g1, g3⟩
  refine MX.of (Nat.le_of_ble_eq_true rfl) ?_
  refine an_iconst 1 d18_0 rfl ?_
  refine as_istore_n d18_1 (by decide) ?_
  refine AW.loc [(0, .ref (43)), (1, .int (nI (1)))] (am_pick [1, 0] rfl rfl) ?_
  refine aw_fromE (fun t T => ((2, [(0, .ref (43)), (1, .int (nI (t + 1)))], [], 208, HP (T), 0, 0) : am_Z)) (fun t T => (leK S T ∧ LCf T 44 109 111 176 ∧ T.1 = S.1) ∧ LRf T ∧ RW T 44 n (sortR (7 * P) R (t))) (0) (n - 1) (by omega) (S) (rfl) (⟨⟨leK.rf S, hf, rfl⟩, hL, hW⟩) (fun t T ht0 ht hI iht => ?_) (fun T hX => ?_)
  · obtain ⟨m, hm⟩ : ∃ m, m = T.2.2.2 44 (t + 1) := ⟨_, rfl⟩
    refine as_iload_n d18_2 rfl ?_
    refine as_aload_n d18_3 rfl ?_
    refine ap_get d18_4 f18_62 (by decide) rfl rfl ?_
    refine an_top (e' := nI (n)) (by rw [hI.1.2.2]; exact h1) ?_
    refine an_icmp_ge 72 d18_7 (by decide) (by omega) (by omega) (fun c7 => by omega) (fun c7 => ?_)
    refine as_aload_n d18_10 rfl ?_
    refine ap_get d18_11 f18_13 (by decide) rfl rfl ?_
    refine an_topr (hI.1.2.1.1) ?_
    refine as_iload_n d18_14 rfl ?_
    refine ap_aald d18_15 isQ44 (Or.inl rfl) (by decide) (by omega) (by decide) (an_topr hm.symm ?_)
    refine as_astore_n d18_16 (by decide) ?_
    refine as_iload_n d18_17 rfl ?_
    refine as_istore_n d18_18 (by decide) ?_
    refine AW.loc [(0, .ref (43)), (1, .int (nI (t + 1))), (2, .ref (m)), (3, .int (nI (t + 1)))] (am_pick [2, 3, 1, 0] rfl rfl) ?_
    refine aw_inv2 (σ := (Nat) × (Nat → Nat → Nat) × (MS)) (fun σ => ((19, [(0, .ref (43)), (1, .int (nI (t + 1))), (2, .ref (m)), (3, .int (nI (σ.1)))], [], 208, HP (σ.2.2), 0, 0) : am_Z)) (fun σ => σ.1 < n ∧ (leK S (σ.2.2) ∧ LCf (σ.2.2) 44 109 111 176 ∧ (σ.2.2).1 = S.1) ∧ LRf ((σ.2.2).sr 44 (σ.1) m) ∧ RW ((σ.2.2).sr 44 (σ.1) m) 44 n σ.2.1 ∧ RB P n σ.2.1 20000 ∧ insI (7 * P) (σ.1) σ.2.1 = sortR (7 * P) R (t + 1)) (fun σ => σ.1) (fun σ hσ ihσ => ?_) (t + 1, sortR (7 * P) R t, T) (rfl) (by dsimp only; exact ⟨by omega, hI.1, by rw [hm, sr_same]; exact hI.2.1, by rw [hm, sr_same]; exact hI.2.2, hB.of_or (sortR_or _ _ _ t (by omega)), rfl⟩)
    obtain ⟨b, R', U⟩ := σ
    dsimp only at hσ ihσ ⊢
    obtain ⟨hb, hk, hl, hw, hbb, hins⟩ := hσ
    have e1 : (U.sr 44 b m).2.2.2 44 b = m := by rw [sr_at, if_pos ⟨rfl, rfl⟩]
    have rm := hl.1 b (by omega)
    rw [e1] at rm
    refine as_iload_n d18_19 rfl ?_
    refine as_if_le 59 d18_20 (by decide) (fun c20 => ?_) (fun c20 => ?_)
    · have hb0 : b = 0 := nI_le0 (by omega) c20
      have hfin : R' = sortR (7 * P) R (t + 1) := by
        subst hb0
        exact hins
      refine as_aload_n d18_59 rfl ?_
      refine ap_get d18_60 f18_13 (by decide) rfl rfl ?_
      refine an_topr (hk.2.1.1) ?_
      refine as_iload_n d18_63 rfl ?_
      refine as_aload_n d18_64 rfl ?_
      refine ap_aastI d18_65 isQ44 (by decide) (by omega) (isI_row (by omega)) (by omega) (by decide) ?_
      refine an_iinc 1 d18_66 rfl rfl (by decide) ?_
      refine as_goto 2 d18_69 (by decide) ?_
      refine AW.loc [(0, .ref (43)), (1, .int (nI (t + 1 + 1)))] (am_pick [1, 0] rfl rfl) ?_
      have iht := iht (U.sr 44 b m) (by rw [← hfin]; exact ⟨⟨hk.1.sr (by omega) _ _, ⟨by rw [sr_at, if_neg (by omega)]; exact hk.2.1.1, by rw [sr_at, if_neg (by omega)]; exact hk.2.1.2.1, by rw [sr_at, if_neg (by omega)]; exact hk.2.1.2.2.1, by rw [sr_at, if_neg (by omega)]; exact hk.2.1.2.2.2⟩, hk.2.2⟩, hl, hw⟩)
      exact iht
    · obtain ⟨q, hq⟩ : ∃ q, b = q + 1 := ⟨b - 1, by have : b ≠ 0 := fun g => c20 (by subst g; decide); omega⟩
      have hq1 : b - 1 = q := by omega
      have e2 : (U.sr 44 b m).2.2.2 44 (b - 1) = U.2.2.2 44 (b - 1) := by rw [sr_at, if_neg (by omega)]
      have rq := hl.1 (b - 1) (by omega)
      rw [e2] at rq
      refine as_aload_n d18_23 rfl ?_
      refine as_aload_n d18_24 rfl ?_
      refine as_aload_n d18_25 rfl ?_
      refine ap_get d18_26 f18_13 (by decide) rfl rfl ?_
      refine an_topr (hk.2.1.1) ?_
      refine as_iload_n d18_29 rfl ?_
      refine an_iconst 1 d18_30 rfl ?_
      refine an_isub d18_31 (by omega) ?_
      refine ap_aald d18_32 isQ44 (Or.inl rfl) (by decide) (by omega) (by decide) ?_
      refine ac_v2 d18_33 c18_105 (by decide) rfl (Nat.le_of_ble_eq_true rfl) (mc_comesBefore X _ (7 * P) _ _ (R' b) (R' (b - 1)) (by rw [hk.2.2]; exact h0) (by omega) (by omega) (by omega) (fun i hi => by have w := hw b hb i (by omega); rw [e1] at w; exact w) (fun i hi => by have w := hw (b - 1) (by omega) i (by omega); rw [e2] at w; exact w) (fun i hi => by have := hbb b hb i hi; omega) (fun i hi => by have := hbb (b - 1) (by omega) i hi; omega)) ?_
      refine as_if_eq 59 d18_36 (by decide) (fun c36 => ?_) (fun c36 => ?_)
      · have hfin : R' = sortR (7 * P) R (t + 1) := by
          have c1 := am_b01.mp c36
          rw [hq1] at c1
          subst hq
          have g := hins
          unfold insI at g
          rw [if_neg c1] at g
          exact g
        refine as_aload_n d18_59 rfl ?_
        refine ap_get d18_60 f18_13 (by decide) rfl rfl ?_
        refine an_topr (hk.2.1.1) ?_
        refine as_iload_n d18_63 rfl ?_
        refine as_aload_n d18_64 rfl ?_
        refine ap_aastI d18_65 isQ44 (by decide) (by omega) (isI_row (by omega)) (by omega) (by decide) ?_
        refine an_iinc 1 d18_66 rfl rfl (by decide) ?_
        refine as_goto 2 d18_69 (by decide) ?_
        refine AW.loc [(0, .ref (43)), (1, .int (nI (t + 1 + 1)))] (am_pick [1, 0] rfl rfl) ?_
        have iht := iht (U.sr 44 b m) (by rw [← hfin]; exact ⟨⟨hk.1.sr (by omega) _ _, ⟨by rw [sr_at, if_neg (by omega)]; exact hk.2.1.1, by rw [sr_at, if_neg (by omega)]; exact hk.2.1.2.1, by rw [sr_at, if_neg (by omega)]; exact hk.2.1.2.2.1, by rw [sr_at, if_neg (by omega)]; exact hk.2.1.2.2.2⟩, hk.2.2⟩, hl, hw⟩)
        exact iht
      · have hbef := am_b1 c36
        refine as_aload_n d18_39 rfl ?_
        refine ap_get d18_40 f18_13 (by decide) rfl rfl ?_
        refine an_topr (hk.2.1.1) ?_
        refine as_iload_n d18_43 rfl ?_
        refine as_aload_n d18_44 rfl ?_
        refine ap_get d18_45 f18_13 (by decide) rfl rfl ?_
        refine an_topr (hk.2.1.1) ?_
        refine as_iload_n d18_48 rfl ?_
        refine an_iconst 1 d18_49 rfl ?_
        refine an_isub d18_50 (by omega) ?_
        refine ap_aald d18_51 isQ44 (Or.inl rfl) (by decide) (by omega) (by decide) ?_
        refine ap_aastI d18_52 isQ44 (by decide) (by omega) (isI_row (by omega)) (by omega) (by decide) ?_
        refine an_idec d18_53 rfl (by decide) (by omega) ?_
        refine as_goto 19 d18_56 (by decide) ?_
        refine AW.loc [(0, .ref (43)), (1, .int (nI (t + 1))), (2, .ref (m)), (3, .int (nI (b - 1)))] (am_pick [1, 2, 3, 0] rfl rfl) ?_
        have st9 := sortS44 (T := U) (n := n) (q := q) (m := m) (R := R') (by rw [← hq]; exact hl) (by rw [← hq]; exact hw) (by omega) hn
        rw [← hq, ← hq1] at st9
        exact ihσ (b - 1, swp2 R' b (b - 1), U.sr 44 b (U.2.2.2 44 (b - 1))) (by dsimp only; exact ⟨by omega, ⟨hk.1.sr (by omega) _ _, ⟨by rw [sr_at, if_neg (by omega)]; exact hk.2.1.1, by rw [sr_at, if_neg (by omega)]; exact hk.2.1.2.1, by rw [sr_at, if_neg (by omega)]; exact hk.2.1.2.2.1, by rw [sr_at, if_neg (by omega)]; exact hk.2.1.2.2.2⟩, hk.2.2⟩, st9.1, st9.2, hbb.of_or (swp2_or R' _ _ _ hb (by omega)), by rw [hq1] at hbef ⊢; subst hq; have g := hins; unfold insI at g; rw [if_pos hbef] at g; exact g⟩) (by show b - 1 < b; omega)
  · refine as_iload_n d18_2 rfl ?_
    refine as_aload_n d18_3 rfl ?_
    refine ap_get d18_4 f18_62 (by decide) rfl rfl ?_
    refine an_top (e' := nI (n)) (by rw [hX.1.2.2]; exact h1) ?_
    refine an_icmp_ge 72 d18_7 (by decide) (by omega) (by omega) (fun c7 => ?_) (fun c7 => by omega)
    refine as_return d18_72 t18 ?_
    exact ⟨_, _, rfl, rfl, hX⟩
theorem sortS111 {T : MS} {n q m : Nat} {R : Nat → Nat → Nat} (hL : LRf (T.sr 111 (q + 1) m)) (hW : RW (T.sr 111 (q + 1) m) 111 n R) (hq : q + 1 < n) (hn : n ≤ 64) : LRf ((T.sr 111 (q + 1) (T.2.2.2 111 q)).sr 111 q m) ∧ RW ((T.sr 111 (q + 1) (T.2.2.2 111 q)).sr 111 q m) 111 n (swp2 R (q + 1) q) := by
  have key : ∀ i, ((T.sr 111 (q + 1) (T.2.2.2 111 q)).sr 111 q m).2.2.2 111 i = (T.sr 111 (q + 1) m).2.2.2 111 (sq q i) := by
    intro i
    rw [sr_at, sr_at, sr_at]
    unfold sq
    by_cases a1 : i = q
    · rw [if_pos ⟨rfl, a1⟩, if_pos a1, if_pos ⟨rfl, rfl⟩]
    · rw [if_neg (fun w => a1 w.2), if_neg a1]
      by_cases a2 : i = q + 1
      · rw [if_pos ⟨rfl, a2⟩, if_pos a2, if_neg (by omega)]
      · rw [if_neg (fun w => a2 w.2), if_neg a2, if_neg (fun w => a2 w.2)]
  have oth : ∀ i, ((T.sr 111 (q + 1) (T.2.2.2 111 q)).sr 111 q m).2.2.2 44 i = (T.sr 111 (q + 1) m).2.2.2 44 i := by
    intro i
    rw [sr_at, sr_at, sr_at, if_neg (by omega), if_neg (by omega), if_neg (by omega)]
  refine ⟨hL.perm id (sq q) (fun i hi => ⟨hi, oth i⟩) (fun i j _ _ h => h) (fun i hi => ⟨sq_lt (by omega) hi, key i⟩) (fun i j _ _ => sq_inj), fun i hi j hj => ?_⟩
  have hs : sq q i < n := by unfold sq; split <;> (try omega); split <;> omega
  rw [key]
  have w := hW (sq q i) hs j hj
  show T.2.1 _ j = _
  refine (show T.2.1 ((T.sr 111 (q + 1) m).2.2.2 111 (sq q i)) j = nI (R (sq q i) j) from w).trans ?_
  congr 1
  unfold swp2 sq
  by_cases a1 : i = q
  · rw [if_pos a1, if_neg (by omega), if_pos a1]
  · rw [if_neg a1]
    by_cases a2 : i = q + 1
    · rw [if_pos a2, if_pos a2]
    · rw [if_neg a2, if_neg a2, if_neg a1]
theorem mx_sortRows111 (X : am_X) (S : MS) (P n : Nat) (R : Nat → Nat → Nat) (hP : P ≤ 3) (hn : n ≤ 64) (hL : LRf S) (hf : LCf S 111 176 44 109) (h0 : S.1 43 0 = nI (7 * P)) (h1 : S.1 43 1 = nI n) (hW : RW S 111 n R) (hB : RB P n R 20000) : ∃ T, MC X 18 [.ref (43)] S none T ∧ (leK S T ∧ LCf T 111 176 44 109 ∧ T.1 = S.1) ∧ LRf T ∧ RW T 111 n (sortR (7 * P) R (n - 1)) := by
  have key := MX.mc (X := X) (mj := 18) (as := [.ref (43)]) (S := S) (Post := fun v T => v = none ∧ (leK S T ∧ LCf T 111 176 44 109 ∧ T.1 = S.1) ∧ LRf T ∧ RW T 111 n (sortR (7 * P) R (n - 1))) ?_
  · obtain ⟨v, T, g1, g2, g3⟩ := key
    subst g2
    exact ⟨T, g1, g3⟩
  refine MX.of (Nat.le_of_ble_eq_true rfl) ?_
  refine an_iconst 1 d18_0 rfl ?_
  refine as_istore_n d18_1 (by decide) ?_
  refine AW.loc [(0, .ref (43)), (1, .int (nI (1)))] (am_pick [1, 0] rfl rfl) ?_
  refine aw_fromE (fun t T => ((2, [(0, .ref (43)), (1, .int (nI (t + 1)))], [], 208, HP (T), 0, 0) : am_Z)) (fun t T => (leK S T ∧ LCf T 111 176 44 109 ∧ T.1 = S.1) ∧ LRf T ∧ RW T 111 n (sortR (7 * P) R (t))) (0) (n - 1) (by omega) (S) (rfl) (⟨⟨leK.rf S, hf, rfl⟩, hL, hW⟩) (fun t T ht0 ht hI iht => ?_) (fun T hX => ?_)
  · obtain ⟨m, hm⟩ : ∃ m, m = T.2.2.2 111 (t + 1) := ⟨_, rfl⟩
    refine as_iload_n d18_2 rfl ?_
    refine as_aload_n d18_3 rfl ?_
    refine ap_get d18_4 f18_62 (by decide) rfl rfl ?_
    refine an_top (e' := nI (n)) (by rw [hI.1.2.2]; exact h1) ?_
    refine an_icmp_ge 72 d18_7 (by decide) (by omega) (by omega) (fun c7 => by omega) (fun c7 => ?_)
    refine as_aload_n d18_10 rfl ?_
    refine ap_get d18_11 f18_13 (by decide) rfl rfl ?_
    refine an_topr (hI.1.2.1.1) ?_
    refine as_iload_n d18_14 rfl ?_
    refine ap_aald d18_15 isQ111 (Or.inl rfl) (by decide) (by omega) (by decide) (an_topr hm.symm ?_)
    refine as_astore_n d18_16 (by decide) ?_
    refine as_iload_n d18_17 rfl ?_
    refine as_istore_n d18_18 (by decide) ?_
    refine AW.loc [(0, .ref (43)), (1, .int (nI (t + 1))), (2, .ref (m)), (3, .int (nI (t + 1)))] (am_pick [2, 3, 1, 0] rfl rfl) ?_
    refine aw_inv2 (σ := (Nat) × (Nat → Nat → Nat) × (MS)) (fun σ => ((19, [(0, .ref (43)), (1, .int (nI (t + 1))), (2, .ref (m)), (3, .int (nI (σ.1)))], [], 208, HP (σ.2.2), 0, 0) : am_Z)) (fun σ => σ.1 < n ∧ (leK S (σ.2.2) ∧ LCf (σ.2.2) 111 176 44 109 ∧ (σ.2.2).1 = S.1) ∧ LRf ((σ.2.2).sr 111 (σ.1) m) ∧ RW ((σ.2.2).sr 111 (σ.1) m) 111 n σ.2.1 ∧ RB P n σ.2.1 20000 ∧ insI (7 * P) (σ.1) σ.2.1 = sortR (7 * P) R (t + 1)) (fun σ => σ.1) (fun σ hσ ihσ => ?_) (t + 1, sortR (7 * P) R t, T) (rfl) (by dsimp only; exact ⟨by omega, hI.1, by rw [hm, sr_same]; exact hI.2.1, by rw [hm, sr_same]; exact hI.2.2, hB.of_or (sortR_or _ _ _ t (by omega)), rfl⟩)
    obtain ⟨b, R', U⟩ := σ
    dsimp only at hσ ihσ ⊢
    obtain ⟨hb, hk, hl, hw, hbb, hins⟩ := hσ
    have e1 : (U.sr 111 b m).2.2.2 111 b = m := by rw [sr_at, if_pos ⟨rfl, rfl⟩]
    have rm := hl.2.2.1 b (by omega)
    rw [e1] at rm
    refine as_iload_n d18_19 rfl ?_
    refine as_if_le 59 d18_20 (by decide) (fun c20 => ?_) (fun c20 => ?_)
    · have hb0 : b = 0 := nI_le0 (by omega) c20
      have hfin : R' = sortR (7 * P) R (t + 1) := by
        subst hb0
        exact hins
      refine as_aload_n d18_59 rfl ?_
      refine ap_get d18_60 f18_13 (by decide) rfl rfl ?_
      refine an_topr (hk.2.1.1) ?_
      refine as_iload_n d18_63 rfl ?_
      refine as_aload_n d18_64 rfl ?_
      refine ap_aastI d18_65 isQ111 (by decide) (by omega) (isI_row (by omega)) (by omega) (by decide) ?_
      refine an_iinc 1 d18_66 rfl rfl (by decide) ?_
      refine as_goto 2 d18_69 (by decide) ?_
      refine AW.loc [(0, .ref (43)), (1, .int (nI (t + 1 + 1)))] (am_pick [1, 0] rfl rfl) ?_
      have iht := iht (U.sr 111 b m) (by rw [← hfin]; exact ⟨⟨hk.1.sr (by omega) _ _, ⟨by rw [sr_at, if_neg (by omega)]; exact hk.2.1.1, by rw [sr_at, if_neg (by omega)]; exact hk.2.1.2.1, by rw [sr_at, if_neg (by omega)]; exact hk.2.1.2.2.1, by rw [sr_at, if_neg (by omega)]; exact hk.2.1.2.2.2⟩, hk.2.2⟩, hl, hw⟩)
      exact iht
    · obtain ⟨q, hq⟩ : ∃ q, b = q + 1 := ⟨b - 1, by have : b ≠ 0 := fun g => c20 (by subst g; decide); omega⟩
      have hq1 : b - 1 = q := by omega
      have e2 : (U.sr 111 b m).2.2.2 111 (b - 1) = U.2.2.2 111 (b - 1) := by rw [sr_at, if_neg (by omega)]
      have rq := hl.2.2.1 (b - 1) (by omega)
      rw [e2] at rq
      refine as_aload_n d18_23 rfl ?_
      refine as_aload_n d18_24 rfl ?_
      refine as_aload_n d18_25 rfl ?_
      refine ap_get d18_26 f18_13 (by decide) rfl rfl ?_
      refine an_topr (hk.2.1.1) ?_
      refine as_iload_n d18_29 rfl ?_
      refine an_iconst 1 d18_30 rfl ?_
      refine an_isub d18_31 (by omega) ?_
      refine ap_aald d18_32 isQ111 (Or.inl rfl) (by decide) (by omega) (by decide) ?_
      refine ac_v2 d18_33 c18_105 (by decide) rfl (Nat.le_of_ble_eq_true rfl) (mc_comesBefore X _ (7 * P) _ _ (R' b) (R' (b - 1)) (by rw [hk.2.2]; exact h0) (by omega) (by omega) (by omega) (fun i hi => by have w := hw b hb i (by omega); rw [e1] at w; exact w) (fun i hi => by have w := hw (b - 1) (by omega) i (by omega); rw [e2] at w; exact w) (fun i hi => by have := hbb b hb i hi; omega) (fun i hi => by have := hbb (b - 1) (by omega) i hi; omega)) ?_
      refine as_if_eq 59 d18_36 (by decide) (fun c36 => ?_) (fun c36 => ?_)
      · have hfin : R' = sortR (7 * P) R (t + 1) := by
          have c1 := am_b01.mp c36
          rw [hq1] at c1
          subst hq
          have g := hins
          unfold insI at g
          rw [if_neg c1] at g
          exact g
        refine as_aload_n d18_59 rfl ?_
        refine ap_get d18_60 f18_13 (by decide) rfl rfl ?_
        refine an_topr (hk.2.1.1) ?_
        refine as_iload_n d18_63 rfl ?_
        refine as_aload_n d18_64 rfl ?_
        refine ap_aastI d18_65 isQ111 (by decide) (by omega) (isI_row (by omega)) (by omega) (by decide) ?_
        refine an_iinc 1 d18_66 rfl rfl (by decide) ?_
        refine as_goto 2 d18_69 (by decide) ?_
        refine AW.loc [(0, .ref (43)), (1, .int (nI (t + 1 + 1)))] (am_pick [1, 0] rfl rfl) ?_
        have iht := iht (U.sr 111 b m) (by rw [← hfin]; exact ⟨⟨hk.1.sr (by omega) _ _, ⟨by rw [sr_at, if_neg (by omega)]; exact hk.2.1.1, by rw [sr_at, if_neg (by omega)]; exact hk.2.1.2.1, by rw [sr_at, if_neg (by omega)]; exact hk.2.1.2.2.1, by rw [sr_at, if_neg (by omega)]; exact hk.2.1.2.2.2⟩, hk.2.2⟩, hl, hw⟩)
        exact iht
      · have hbef := am_b1 c36
        refine as_aload_n d18_39 rfl ?_
        refine ap_get d18_40 f18_13 (by decide) rfl rfl ?_
        refine an_topr (hk.2.1.1) ?_
        refine as_iload_n d18_43 rfl ?_
        refine as_aload_n d18_44 rfl ?_
        refine ap_get d18_45 f18_13 (by decide) rfl rfl ?_
        refine an_topr (hk.2.1.1) ?_
        refine as_iload_n d18_48 rfl ?_
        refine an_iconst 1 d18_49 rfl ?_
        refine an_isub d18_50 (by omega) ?_
        refine ap_aald d18_51 isQ111 (Or.inl rfl) (by decide) (by omega) (by decide) ?_
        refine ap_aastI d18_52 isQ111 (by decide) (by omega) (isI_row (by omega)) (by omega) (by decide) ?_
        refine an_idec d18_53 rfl (by decide) (by omega) ?_
        refine as_goto 19 d18_56 (by decide) ?_
        refine AW.loc [(0, .ref (43)), (1, .int (nI (t + 1))), (2, .ref (m)), (3, .int (nI (b - 1)))] (am_pick [1, 2, 3, 0] rfl rfl) ?_
        have st9 := sortS111 (T := U) (n := n) (q := q) (m := m) (R := R') (by rw [← hq]; exact hl) (by rw [← hq]; exact hw) (by omega) hn
        rw [← hq, ← hq1] at st9
        exact ihσ (b - 1, swp2 R' b (b - 1), U.sr 111 b (U.2.2.2 111 (b - 1))) (by dsimp only; exact ⟨by omega, ⟨hk.1.sr (by omega) _ _, ⟨by rw [sr_at, if_neg (by omega)]; exact hk.2.1.1, by rw [sr_at, if_neg (by omega)]; exact hk.2.1.2.1, by rw [sr_at, if_neg (by omega)]; exact hk.2.1.2.2.1, by rw [sr_at, if_neg (by omega)]; exact hk.2.1.2.2.2⟩, hk.2.2⟩, st9.1, st9.2, hbb.of_or (swp2_or R' _ _ _ hb (by omega)), by rw [hq1] at hbef ⊢; subst hq; have g := hins; unfold insI at g; rw [if_pos hbef] at g; exact g⟩) (by show b - 1 < b; omega)
  · refine as_iload_n d18_2 rfl ?_
    refine as_aload_n d18_3 rfl ?_
    refine ap_get d18_4 f18_62 (by decide) rfl rfl ?_
    refine an_top (e' := nI (n)) (by rw [hX.1.2.2]; exact h1) ?_
    refine an_icmp_ge 72 d18_7 (by decide) (by omega) (by omega) (fun c7 => ?_) (fun c7 => by omega)
    refine as_return d18_72 t18 ?_
    exact ⟨_, _, rfl, rfl, hX⟩
