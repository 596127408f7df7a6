/-! the class: least sheets: bits, the start, the weighing -/
theorem or0 (x : Int32) : x ||| nI 0 = x := by rw [nI_0]; exact Int32.or_zero
theorem zor (x : Int32) : nI 0 ||| x = x := by rw [nI_0]; exact Int32.zero_or
theorem sOf_zero {v : Nat → Nat} : ∀ n, (∀ i, i < n → v i = 0) → sOf v n = nI 0
  | 0, _ => rfl
  | n + 1, h => by
    unfold sOf
    rw [sOf_zero n (fun i hi => h i (by omega)), if_pos (h n (by omega))]
    exact or0 _
theorem sOf_unit {r : Nat} : ∀ n, r < n → sOf (unitR r) n = nI 1 <<< (nI r &&& 31)
  | 0, h => by omega
  | n + 1, h => by
    unfold sOf
    by_cases e : r = n
    · subst e
      rw [sOf_zero r (fun i hi => by unfold unitR; exact if_neg (by omega)), if_neg (by unfold unitR; rw [if_pos rfl]; decide)]
      exact zor _
    · rw [sOf_unit n (by omega), if_pos (by unfold unitR; rw [if_neg (by omega)])]
      exact or0 _
theorem sOf_congr {u v : Nat → Nat} : ∀ n, (∀ i, i < n → (u i = 0 ↔ v i = 0)) → sOf u n = sOf v n
  | 0, _ => rfl
  | n + 1, h => by
    unfold sOf
    rw [sOf_congr n (fun i hi => h i (by omega))]
    have := h n (by omega)
    by_cases e : u n = 0
    · rw [if_pos e, if_pos (this.mp e)]
    · rw [if_neg e, if_neg (fun g => e (this.mpr g))]
theorem or4 (a b c d : Int32) : (a ||| b) ||| (c ||| d) = (a ||| c) ||| (b ||| d) := by
  rw [Int32.or_assoc, Int32.or_assoc]
  congr 1
  rw [← Int32.or_assoc, ← Int32.or_assoc, Int32.or_comm b c]
theorem sOf_or {u v w : Nat → Nat} : ∀ n, (∀ i, i < n → (w i = 0 ↔ u i = 0 ∧ v i = 0)) → sOf w n = sOf u n ||| sOf v n
  | 0, _ => (or0 _).symm
  | n + 1, h => by
    unfold sOf
    rw [sOf_or n (fun i hi => h i (by omega)), or4]
    congr 1
    have := h n (by omega)
    by_cases e1 : u n = 0
    · by_cases e2 : v n = 0
      · rw [if_pos (this.mpr ⟨e1, e2⟩), if_pos e1, if_pos e2, or0]
      · rw [if_neg (fun g => e2 (this.mp g).2), if_pos e1, if_neg e2, zor]
    · by_cases e2 : v n = 0
      · rw [if_neg (fun g => e1 (this.mp g).1), if_neg e1, if_pos e2, or0]
      · rw [if_neg (fun g => e1 (this.mp g).1), if_neg e1, if_neg e2, Int32.or_self]
/-- the rows' places -/
def LRf (S : MS) : Prop := (∀ i, i < 64 → 45 ≤ S.2.2.2 44 i ∧ S.2.2.2 44 i < 109) ∧ (∀ i j, i < 64 → j < 64 → S.2.2.2 44 i = S.2.2.2 44 j → i = j) ∧ (∀ i, i < 64 → 112 ≤ S.2.2.2 111 i ∧ S.2.2.2 111 i < 176) ∧ (∀ i j, i < 64 → j < 64 → S.2.2.2 111 i = S.2.2.2 111 j → i = j)
def LCf (S : MS) (r s nr ns : Nat) : Prop := S.2.2.2 43 2 = r ∧ S.2.2.2 43 3 = s ∧ S.2.2.2 43 6 = nr ∧ S.2.2.2 43 7 = ns
/-- the class holds rows -/
def RC (S : MS) (r s P n : Nat) (R : Nat → Nat → Nat) : Prop := S.1 43 0 = nI (7 * P) ∧ S.1 43 1 = nI n ∧ (∀ i, i < n → ∀ j, j < 21 → S.2.1 (S.2.2.2 r i) j = nI (R i j)) ∧ (∀ i, i < n → S.2.1 s i = sOf (R i) (7 * P))
/-- what the search changes -/
def leK (S T : MS) : Prop := (∀ k, ¬ (45 ≤ k ∧ k < 111) → ¬ (112 ≤ k ∧ k < 177) → T.2.1 k = S.2.1 k) ∧ T.2.2.1 = S.2.2.1 ∧ (∀ k, k ≠ 43 → k ≠ 44 → k ≠ 111 → T.2.2.2 k = S.2.2.2 k) ∧ (∀ i j, ¬ (i = 43 ∧ (j = 0 ∨ j = 1 ∨ j = 5)) → T.1 i j = S.1 i j)
theorem leK.rf (S : MS) : leK S S := ⟨fun _ _ _ => rfl, rfl, fun _ _ _ _ => rfl, fun _ _ _ => rfl⟩
theorem leK.trans {S T U : MS} (h : leK S T) (g : leK T U) : leK S U := ⟨fun k a b => (g.1 k a b).trans (h.1 k a b), g.2.1.trans h.2.1, fun k a b c => (g.2.2.1 k a b c).trans (h.2.2.1 k a b c), fun i j a => (g.2.2.2 i j a).trans (h.2.2.2 i j a)⟩
theorem leK.sa {S T : MS} (h : leK S T) {A : Nat} (hA : 45 ≤ A ∧ A < 111 ∨ 112 ≤ A ∧ A < 177) (i : Nat) (x : Int32) : leK S (T.sa A i x) := by
  refine ⟨fun k a b => ?_, h.2.1, h.2.2.1, h.2.2.2⟩
  rw [sa_row _ _ _ _ (by omega)]
  exact h.1 k a b
theorem leK.row {S T : MS} (h : leK S T) {A : Nat} (hA : 45 ≤ A ∧ A < 111 ∨ 112 ≤ A ∧ A < 177) (o : Nat) (f : Nat → Int32) (n : Nat) : leK S (sRow T A o f n) := by
  refine ⟨fun k a b => ?_, h.2.1, h.2.2.1, h.2.2.2⟩
  rw [sRow_row _ _ _ _ _ (by omega)]
  exact h.1 k a b
theorem leK.sf {S T : MS} (h : leK S T) {j : Nat} (hj : j = 0 ∨ j = 1 ∨ j = 5) (x : Int32) : leK S (T.sf 43 j x) := by
  refine ⟨h.1, h.2.1, h.2.2.1, fun i k a => ?_⟩
  rw [sf_at, if_neg (by omega)]
  exact h.2.2.2 i k a
theorem CG.le {S T : MS} {P : Nat} {mt : Nat → Option Nat} {go : Nat → Nat} (h : CG S P mt go) (g : leK S T) : CG T P mt go := h.keep (g.2.2.2 1 0 (by omega)) (g.2.2.2 1 1 (by omega)) (g.1 2 (by omega) (by omega)) (g.1 3 (by omega) (by omega))
theorem arc_ex (v : Nat → Nat) (s t c d : Nat) : nI (arcP v (s / 4) (s % 4) c) - nI (arcP v (t / 4) (t % 4) d) = zI (exV s t c d v) := by
  unfold exV arcP eqA1 eqA2
  rw [← zI_nat, ← zI_nat, zI_sub]
  congr 1
  omega
theorem mx_startW44 (X : am_X) (S : MS) (P : Nat) (hP : P ≤ 3) (hL : LRf S) (hf : LCf S 44 109 111 176) : ∃ T, MC X 9 [.ref (43), .int (nI (7 * P))] S none T ∧ leK S T ∧ T.2.2 = S.2.2 ∧ RC T 44 109 P (7 * P) unitR := by
  have key := MX.mc (X := X) (mj := 9) (as := [.ref (43), .int (nI (7 * P))]) (S := S) (Post := fun v T => v = none ∧ leK S T ∧ T.2.2 = S.2.2 ∧ RC T 44 109 P (7 * P) unitR) ?_
  · obtain ⟨v, T, g1, g2, g3⟩ := key
    subst g2
    exact ⟨T, g1, g3⟩
  refine MX.of (Nat.le_of_ble_eq_true rfl) ?_
  refine as_aload_n d9_0 rfl ?_
  refine as_iload_n d9_1 rfl ?_
  refine ap_put d9_2 f9_59 (by decide) rfl (Nat.le_of_ble_eq_true rfl) (rfl) rfl rfl ?_
  refine as_aload_n d9_5 rfl ?_
  refine as_iload_n d9_6 rfl ?_
  refine ap_put d9_7 f9_62 (by decide) rfl (Nat.le_of_ble_eq_true rfl) (rfl) rfl rfl ?_
  refine an_iconst 0 d9_10 rfl ?_
  refine as_istore_n d9_11 (by decide) ?_
  refine AW.loc [(0, .ref (43)), (1, .int (nI (7 * P))), (2, .int (nI (0)))] (am_pick [1, 2, 0] rfl rfl) ?_
  refine aw_fromE (fun i T => ((12, [(0, .ref (43)), (1, .int (nI (7 * P))), (2, .int (nI (i)))], [], 208, HP (T), 0, 0) : am_Z)) (fun i T => leK S T ∧ T.2.2 = S.2.2 ∧ T.1 43 0 = nI (7 * P) ∧ T.1 43 1 = nI (7 * P) ∧ (∀ a, a < i → ∀ j, j < 21 → T.2.1 (T.2.2.2 44 a) j = nI (unitR a j)) ∧ (∀ a, a < i → T.2.1 109 a = sOf (unitR a) (7 * P))) (0) (7 * P) (by omega) (((S).sf 43 0 (nI (7 * P))).sf 43 1 (nI (7 * P))) (rfl) (⟨((leK.rf S).sf (by omega) _).sf (by omega) _, rfl, by rw [sf_at, if_neg (by omega), sf_at, if_pos ⟨rfl, rfl⟩], by rw [sf_at, if_pos ⟨rfl, rfl⟩], fun i hi => by omega, fun i hi => by omega⟩) (fun i T hi0 hi hI ih => ?_) (fun T hX => ?_)
  · obtain ⟨i1, i2, i3, i4, i5, i6⟩ := hI
    have hrg : 45 ≤ T.2.2.2 44 i ∧ T.2.2.2 44 i < 109 := by rw [i2]; exact (hL.1 i (by omega))
    have hrf : T.2.2.2 43 2 = 44 := by rw [i2]; exact hf.1
    have hsf : T.2.2.2 43 3 = 109 := by rw [i2]; exact hf.2.1
    refine as_iload_n d9_12 rfl ?_
    refine as_iload_n d9_13 rfl ?_
    refine an_icmp_ge 51 d9_14 (by decide) (by omega) (by omega) (fun c14 => by omega) (fun c14 => ?_)
    refine as_aload_n d9_17 rfl ?_
    refine ap_get d9_18 f9_13 (by decide) rfl rfl ?_
    refine an_topr (hrf) ?_
    refine as_iload_n d9_21 rfl ?_
    refine ap_aald d9_22 isQ44 (Or.inl rfl) (by decide) (by omega) (by decide) (an_topr (show _ = T.2.2.2 44 i from rfl) ?_)
    refine an_iconst 0 d9_23 rfl ?_
    refine ac_s2 d9_24 c9_65 (by decide) (Nat.le_of_ble_eq_true rfl) (mc_fill X _ _ 21 _ (by omega) (isI_row (by omega)) (by decide)) ?_
    refine as_aload_n d9_27 rfl ?_
    refine ap_get d9_28 f9_13 (by decide) rfl rfl ?_
    refine an_topr (hrf) ?_
    refine as_iload_n d9_31 rfl ?_
    refine ap_aald d9_32 isQ44 (Or.inl rfl) (by decide) (by omega) (by decide) (an_topr (show _ = T.2.2.2 44 i from rfl) ?_)
    refine as_iload_n d9_33 rfl ?_
    refine an_iconst 1 d9_34 rfl ?_
    refine ap_iast d9_35 (isI_row (by omega)) (by omega) (by omega) (by decide) ?_
    refine as_aload_n d9_36 rfl ?_
    refine ap_get d9_37 f9_16 (by decide) rfl rfl ?_
    refine an_topr (hsf) ?_
    refine as_iload_n d9_40 rfl ?_
    refine an_iconst 1 d9_41 rfl ?_
    refine as_iload_n d9_42 rfl ?_
    refine as_ishl d9_43 ?_
    refine ap_iast d9_44 (fun _ _ _ _ => rfl) (by decide) (by omega) (by decide) ?_
    refine an_iinc 1 d9_45 rfl rfl (by decide) ?_
    refine as_goto 12 d9_48 (by decide) ?_
    refine AW.loc [(0, .ref (43)), (1, .int (nI (7 * P))), (2, .int (nI (i + 1)))] (am_pick [1, 2, 0] rfl rfl) ?_
    have ih := ih (((sRow (T) (T.2.2.2 44 i) 0 (fun _ => nI 0) 21).sa (T.2.2.2 44 i) (i) (nI 1)).sa 109 (i) (nI (1) <<< (nI (i) &&& 31))) (by
      refine ⟨((i1.row (by omega) _ _ _).sa (by omega) _ _).sa (by omega) _ _, i2, i3, i4, fun a ha j hj => ?_, fun a ha => ?_⟩
      · show ((((sRow (T) (T.2.2.2 44 i) 0 (fun _ => nI 0) 21).sa (T.2.2.2 44 i) (i) (nI 1))).sa 109 i _).2.1 (T.2.2.2 44 a) j = _
        have hra : 45 ≤ T.2.2.2 44 a ∧ T.2.2.2 44 a < 109 := by rw [i2]; exact (hL.1 a (by omega))
        rw [sa_row _ _ _ _ (by omega)]
        by_cases e : a = i
        · subst e
          rw [sa_at]
          by_cases e2 : j = a
          · rw [if_pos e2, e2]
            unfold unitR
            rw [if_pos rfl]
          · rw [if_neg e2]
            have q := sRow_eq (S := T) (A := T.2.2.2 44 a) (off := 0) (f := fun _ => nI 0) (n := 21) hj
            rw [Nat.zero_add] at q
            rw [q]
            unfold unitR
            rw [if_neg e2]
        · have e3 : T.2.2.2 44 a ≠ T.2.2.2 44 i := fun q => e (by rw [i2] at q; exact hL.2.1 a i (by omega) (by omega) q)
          rw [sa_row _ _ _ _ e3, sRow_row _ _ _ _ _ e3]
          exact i5 a (by omega) j hj
      · rw [sa_at]
        by_cases e : a = i
        · rw [if_pos e, e, sOf_unit _ (by omega)]
        · rw [if_neg e, sa_row _ _ _ _ (by omega), sRow_row _ _ _ _ _ (by omega)]
          exact i6 a (by omega))
    exact ih
  · refine as_iload_n d9_12 rfl ?_
    refine as_iload_n d9_13 rfl ?_
    refine an_icmp_ge 51 d9_14 (by decide) (by omega) (by omega) (fun c14 => ?_) (fun c14 => by omega)
    refine as_return d9_51 t9 ?_
    exact ⟨_, _, rfl, rfl, hX.1, hX.2.1, hX.2.2.1, hX.2.2.2.1, hX.2.2.2.2.1, hX.2.2.2.2.2⟩
theorem mx_weigh44 (X : am_X) (S : MS) (P n s t c d : Nat) (R : Nat → Nat → Nat) (hn : n ≤ 64) (hL : LRf S) (hf : LCf S 44 109 111 176) (hR : RC S 44 109 P n R) (hs : s < 12) (ht : t < 12) (hc : c < 4) (hd : d < 4) (hcs : c ≠ s % 4) (hdt : d ≠ t % 4) : ∃ T, MC X 10 [.ref (43), .int (nI (s)), .int (nI (c)), .int (nI (t)), .int (nI (d))] S none T ∧ leK S T ∧ T.2.2 = S.2.2 ∧ RC T 44 109 P n R ∧ ∀ i, i < n → T.2.1 110 i = zI (exV s t c d (R i)) := by
  have key := MX.mc (X := X) (mj := 10) (as := [.ref (43), .int (nI (s)), .int (nI (c)), .int (nI (t)), .int (nI (d))]) (S := S) (Post := fun v T => v = none ∧ leK S T ∧ T.2.2 = S.2.2 ∧ RC T 44 109 P n R ∧ ∀ i, i < n → T.2.1 110 i = zI (exV s t c d (R i))) ?_
  · obtain ⟨v, T, g1, g2, g3⟩ := key
    subst g2
    exact ⟨T, g1, g3⟩
  refine MX.of (Nat.le_of_ble_eq_true rfl) ?_
  refine an_iconst 0 d10_0 rfl ?_
  refine as_istore d10_1 (by decide) ?_
  refine AW.loc [(0, .ref (43)), (1, .int (nI (s))), (2, .int (nI (c))), (3, .int (nI (t))), (4, .int (nI (d))), (5, .int (nI (0)))] (am_pick [1, 2, 3, 4, 5, 0] rfl rfl) ?_
  refine aw_fromE (fun i T => ((3, [(0, .ref (43)), (1, .int (nI (s))), (2, .int (nI (c))), (3, .int (nI (t))), (4, .int (nI (d))), (5, .int (nI (i)))], [], 208, HP (T), 0, 0) : am_Z)) (fun i T => leK S T ∧ T.2.2 = S.2.2 ∧ RC T 44 109 P n R ∧ ∀ a, a < i → T.2.1 110 a = zI (exV s t c d (R a))) (0) (n) (by omega) (S) (rfl) (⟨leK.rf S, rfl, hR, fun i hi => by omega⟩) (fun i T hi0 hi hI ih => ?_) (fun T hX => ?_)
  · obtain ⟨i1, i2, i3, i4⟩ := hI
    have hrg : 45 ≤ T.2.2.2 44 i ∧ T.2.2.2 44 i < 109 := by rw [i2]; exact (hL.1 i (by omega))
    have hrf : T.2.2.2 43 2 = 44 := by rw [i2]; exact hf.1
    refine as_iload d10_3 rfl ?_
    refine as_aload_n d10_5 rfl ?_
    refine ap_get d10_6 f10_62 (by decide) rfl rfl ?_
    refine an_top (e' := nI (n)) (i3.2.1) ?_
    refine an_icmp_ge 51 d10_9 (by decide) (by omega) (by omega) (fun c9 => by omega) (fun c9 => ?_)
    refine as_aload_n d10_12 rfl ?_
    refine ap_get d10_13 f10_20 (by decide) rfl rfl ?_
    refine as_iload d10_16 rfl ?_
    refine as_aload_n d10_18 rfl ?_
    refine ap_get d10_19 f10_13 (by decide) rfl rfl ?_
    refine an_topr (hrf) ?_
    refine as_iload d10_22 rfl ?_
    refine ap_aald d10_24 isQ44 (Or.inl rfl) (by decide) (by omega) (by decide) (an_topr (show _ = T.2.2.2 44 i from rfl) ?_)
    refine as_iload_n d10_25 rfl ?_
    refine as_iload_n d10_26 rfl ?_
    refine ac_s3 d10_27 c10_71 (by decide) (Nat.le_of_ble_eq_true rfl) (mc_arcsAround X _ _ _ _ (R i) (by omega) (isI_row (by omega)) (fun j hj => i3.2.2.1 i hi j hj) (by omega) (by omega) (by omega)) ?_
    refine as_aload_n d10_30 rfl ?_
    refine ap_get d10_31 f10_13 (by decide) rfl rfl ?_
    refine an_topr (hrf) ?_
    refine as_iload d10_34 rfl ?_
    refine ap_aald d10_36 isQ44 (Or.inl rfl) (by decide) (by omega) (by decide) (an_topr (show _ = T.2.2.2 44 i from rfl) ?_)
    refine as_iload_n d10_37 rfl ?_
    refine as_iload d10_38 rfl ?_
    refine ac_s3 d10_40 c10_71 (by decide) (Nat.le_of_ble_eq_true rfl) (mc_arcsAround X _ _ _ _ (R i) (by omega) (isI_row (by omega)) (fun j hj => i3.2.2.1 i hi j hj) (by omega) (by omega) (by omega)) ?_
    refine as_isub d10_43 ?_
    refine an_top (e' := zI (exV s t c d (R i))) (arc_ex _ _ _ _ _) ?_
    refine ap_iast d10_44 (fun _ _ _ _ => rfl) (by decide) (by omega) (by decide) ?_
    refine an_iinc 1 d10_45 rfl rfl (by decide) ?_
    refine as_goto 3 d10_48 (by decide) ?_
    refine AW.loc [(0, .ref (43)), (1, .int (nI (s))), (2, .int (nI (c))), (3, .int (nI (t))), (4, .int (nI (d))), (5, .int (nI (i + 1)))] (am_pick [1, 2, 3, 4, 5, 0] rfl rfl) ?_
    have ih := ih ((T).sa 110 (i) (zI (exV s t c d (R i)))) (by
      refine ⟨i1.sa (by omega) _ _, i2, ⟨i3.1, i3.2.1, fun a ha j hj => ?_, fun a ha => ?_⟩, fun a ha => ?_⟩
      · have hra : 45 ≤ T.2.2.2 44 a ∧ T.2.2.2 44 a < 109 := by rw [i2]; exact (hL.1 a (by omega))
        show (T.sa 110 i _).2.1 (T.2.2.2 44 a) j = _
        rw [sa_row _ _ _ _ (by omega)]
        exact i3.2.2.1 a ha j hj
      · rw [sa_row _ _ _ _ (by omega)]
        exact i3.2.2.2 a ha
      · rw [sa_at]
        by_cases e : a = i
        · rw [if_pos e, e]
        · rw [if_neg e]
          exact i4 a (by omega))
    exact ih
  · refine as_iload d10_3 rfl ?_
    refine as_aload_n d10_5 rfl ?_
    refine ap_get d10_6 f10_62 (by decide) rfl rfl ?_
    refine an_top (e' := nI (n)) (hX.2.2.1.2.1) ?_
    refine an_icmp_ge 51 d10_9 (by decide) (by omega) (by omega) (fun c9 => ?_) (fun c9 => by omega)
    refine as_return d10_51 t10 ?_
    exact ⟨_, _, rfl, rfl, hX⟩
theorem mx_startW111 (X : am_X) (S : MS) (P : Nat) (hP : P ≤ 3) (hL : LRf S) (hf : LCf S 111 176 44 109) : ∃ T, MC X 9 [.ref (43), .int (nI (7 * P))] S none T ∧ leK S T ∧ T.2.2 = S.2.2 ∧ RC T 111 176 P (7 * P) unitR := by
  have key := MX.mc (X := X) (mj := 9) (as := [.ref (43), .int (nI (7 * P))]) (S := S) (Post := fun v T => v = none ∧ leK S T ∧ T.2.2 = S.2.2 ∧ RC T 111 176 P (7 * P) unitR) ?_
  · obtain ⟨v, T, g1, g2, g3⟩ := key
    subst g2
    exact ⟨T, g1, g3⟩
  refine MX.of (Nat.le_of_ble_eq_true rfl) ?_
  refine as_aload_n d9_0 rfl ?_
  refine as_iload_n d9_1 rfl ?_
  refine ap_put d9_2 f9_59 (by decide) rfl (Nat.le_of_ble_eq_true rfl) (rfl) rfl rfl ?_
  refine as_aload_n d9_5 rfl ?_
  refine as_iload_n d9_6 rfl ?_
  refine ap_put d9_7 f9_62 (by decide) rfl (Nat.le_of_ble_eq_true rfl) (rfl) rfl rfl ?_
  refine an_iconst 0 d9_10 rfl ?_
  refine as_istore_n d9_11 (by decide) ?_
  refine AW.loc [(0, .ref (43)), (1, .int (nI (7 * P))), (2, .int (nI (0)))] (am_pick [1, 2, 0] rfl rfl) ?_
  refine aw_fromE (fun i T => ((12, [(0, .ref (43)), (1, .int (nI (7 * P))), (2, .int (nI (i)))], [], 208, HP (T), 0, 0) : am_Z)) (fun i T => leK S T ∧ T.2.2 = S.2.2 ∧ T.1 43 0 = nI (7 * P) ∧ T.1 43 1 = nI (7 * P) ∧ (∀ a, a < i → ∀ j, j < 21 → T.2.1 (T.2.2.2 111 a) j = nI (unitR a j)) ∧ (∀ a, a < i → T.2.1 176 a = sOf (unitR a) (7 * P))) (0) (7 * P) (by omega) (((S).sf 43 0 (nI (7 * P))).sf 43 1 (nI (7 * P))) (rfl) (⟨((leK.rf S).sf (by omega) _).sf (by omega) _, rfl, by rw [sf_at, if_neg (by omega), sf_at, if_pos ⟨rfl, rfl⟩], by rw [sf_at, if_pos ⟨rfl, rfl⟩], fun i hi => by omega, fun i hi => by omega⟩) (fun i T hi0 hi hI ih => ?_) (fun T hX => ?_)
  · obtain ⟨i1, i2, i3, i4, i5, i6⟩ := hI
    have hrg : 112 ≤ T.2.2.2 111 i ∧ T.2.2.2 111 i < 176 := by rw [i2]; exact (hL.2.2.1 i (by omega))
    have hrf : T.2.2.2 43 2 = 111 := by rw [i2]; exact hf.1
    have hsf : T.2.2.2 43 3 = 176 := by rw [i2]; exact hf.2.1
    refine as_iload_n d9_12 rfl ?_
    refine as_iload_n d9_13 rfl ?_
    refine an_icmp_ge 51 d9_14 (by decide) (by omega) (by omega) (fun c14 => by omega) (fun c14 => ?_)
    refine as_aload_n d9_17 rfl ?_
    refine ap_get d9_18 f9_13 (by decide) rfl rfl ?_
    refine an_topr (hrf) ?_
    refine as_iload_n d9_21 rfl ?_
    refine ap_aald d9_22 isQ111 (Or.inl rfl) (by decide) (by omega) (by decide) (an_topr (show _ = T.2.2.2 111 i from rfl) ?_)
    refine an_iconst 0 d9_23 rfl ?_
    refine ac_s2 d9_24 c9_65 (by decide) (Nat.le_of_ble_eq_true rfl) (mc_fill X _ _ 21 _ (by omega) (isI_row (by omega)) (by decide)) ?_
    refine as_aload_n d9_27 rfl ?_
    refine ap_get d9_28 f9_13 (by decide) rfl rfl ?_
    refine an_topr (hrf) ?_
    refine as_iload_n d9_31 rfl ?_
    refine ap_aald d9_32 isQ111 (Or.inl rfl) (by decide) (by omega) (by decide) (an_topr (show _ = T.2.2.2 111 i from rfl) ?_)
    refine as_iload_n d9_33 rfl ?_
    refine an_iconst 1 d9_34 rfl ?_
    refine ap_iast d9_35 (isI_row (by omega)) (by omega) (by omega) (by decide) ?_
    refine as_aload_n d9_36 rfl ?_
    refine ap_get d9_37 f9_16 (by decide) rfl rfl ?_
    refine an_topr (hsf) ?_
    refine as_iload_n d9_40 rfl ?_
    refine an_iconst 1 d9_41 rfl ?_
    refine as_iload_n d9_42 rfl ?_
    refine as_ishl d9_43 ?_
    refine ap_iast d9_44 (fun _ _ _ _ => rfl) (by decide) (by omega) (by decide) ?_
    refine an_iinc 1 d9_45 rfl rfl (by decide) ?_
    refine as_goto 12 d9_48 (by decide) ?_
    refine AW.loc [(0, .ref (43)), (1, .int (nI (7 * P))), (2, .int (nI (i + 1)))] (am_pick [1, 2, 0] rfl rfl) ?_
    have ih := ih (((sRow (T) (T.2.2.2 111 i) 0 (fun _ => nI 0) 21).sa (T.2.2.2 111 i) (i) (nI 1)).sa 176 (i) (nI (1) <<< (nI (i) &&& 31))) (by
      refine ⟨((i1.row (by omega) _ _ _).sa (by omega) _ _).sa (by omega) _ _, i2, i3, i4, fun a ha j hj => ?_, fun a ha => ?_⟩
      · show ((((sRow (T) (T.2.2.2 111 i) 0 (fun _ => nI 0) 21).sa (T.2.2.2 111 i) (i) (nI 1))).sa 176 i _).2.1 (T.2.2.2 111 a) j = _
        have hra : 112 ≤ T.2.2.2 111 a ∧ T.2.2.2 111 a < 176 := by rw [i2]; exact (hL.2.2.1 a (by omega))
        rw [sa_row _ _ _ _ (by omega)]
        by_cases e : a = i
        · subst e
          rw [sa_at]
          by_cases e2 : j = a
          · rw [if_pos e2, e2]
            unfold unitR
            rw [if_pos rfl]
          · rw [if_neg e2]
            have q := sRow_eq (S := T) (A := T.2.2.2 111 a) (off := 0) (f := fun _ => nI 0) (n := 21) hj
            rw [Nat.zero_add] at q
            rw [q]
            unfold unitR
            rw [if_neg e2]
        · have e3 : T.2.2.2 111 a ≠ T.2.2.2 111 i := fun q => e (by rw [i2] at q; exact hL.2.2.2 a i (by omega) (by omega) q)
          rw [sa_row _ _ _ _ e3, sRow_row _ _ _ _ _ e3]
          exact i5 a (by omega) j hj
      · rw [sa_at]
        by_cases e : a = i
        · rw [if_pos e, e, sOf_unit _ (by omega)]
        · rw [if_neg e, sa_row _ _ _ _ (by omega), sRow_row _ _ _ _ _ (by omega)]
          exact i6 a (by omega))
    exact ih
  · refine as_iload_n d9_12 rfl ?_
    refine as_iload_n d9_13 rfl ?_
    refine an_icmp_ge 51 d9_14 (by decide) (by omega) (by omega) (fun c14 => ?_) (fun c14 => by omega)
    refine as_return d9_51 t9 ?_
    exact ⟨_, _, rfl, rfl, hX.1, hX.2.1, hX.2.2.1, hX.2.2.2.1, hX.2.2.2.2.1, hX.2.2.2.2.2⟩
theorem mx_weigh111 (X : am_X) (S : MS) (P n s t c d : Nat) (R : Nat → Nat → Nat) (hn : n ≤ 64) (hL : LRf S) (hf : LCf S 111 176 44 109) (hR : RC S 111 176 P n R) (hs : s < 12) (ht : t < 12) (hc : c < 4) (hd : d < 4) (hcs : c ≠ s % 4) (hdt : d ≠ t % 4) : ∃ T, MC X 10 [.ref (43), .int (nI (s)), .int (nI (c)), .int (nI (t)), .int (nI (d))] S none T ∧ leK S T ∧ T.2.2 = S.2.2 ∧ RC T 111 176 P n R ∧ ∀ i, i < n → T.2.1 110 i = zI (exV s t c d (R i)) := by
  have key := MX.mc (X := X) (mj := 10) (as := [.ref (43), .int (nI (s)), .int (nI (c)), .int (nI (t)), .int (nI (d))]) (S := S) (Post := fun v T => v = none ∧ leK S T ∧ T.2.2 = S.2.2 ∧ RC T 111 176 P n R ∧ ∀ i, i < n → T.2.1 110 i = zI (exV s t c d (R i))) ?_
  · obtain ⟨v, T, g1, g2, g3⟩ := key
    subst g2
    exact ⟨T, g1, g3⟩
  refine MX.of (Nat.le_of_ble_eq_true rfl) ?_
  refine an_iconst 0 d10_0 rfl ?_
  refine as_istore d10_1 (by decide) ?_
  refine AW.loc [(0, .ref (43)), (1, .int (nI (s))), (2, .int (nI (c))), (3, .int (nI (t))), (4, .int (nI (d))), (5, .int (nI (0)))] (am_pick [1, 2, 3, 4, 5, 0] rfl rfl) ?_
  refine aw_fromE (fun i T => ((3, [(0, .ref (43)), (1, .int (nI (s))), (2, .int (nI (c))), (3, .int (nI (t))), (4, .int (nI (d))), (5, .int (nI (i)))], [], 208, HP (T), 0, 0) : am_Z)) (fun i T => leK S T ∧ T.2.2 = S.2.2 ∧ RC T 111 176 P n R ∧ ∀ a, a < i → T.2.1 110 a = zI (exV s t c d (R a))) (0) (n) (by omega) (S) (rfl) (⟨leK.rf S, rfl, hR, fun i hi => by omega⟩) (fun i T hi0 hi hI ih => ?_) (fun T hX => ?_)
  · obtain ⟨i1, i2, i3, i4⟩ := hI
    have hrg : 112 ≤ T.2.2.2 111 i ∧ T.2.2.2 111 i < 176 := by rw [i2]; exact (hL.2.2.1 i (by omega))
    have hrf : T.2.2.2 43 2 = 111 := by rw [i2]; exact hf.1
    refine as_iload d10_3 rfl ?_
    refine as_aload_n d10_5 rfl ?_
    refine ap_get d10_6 f10_62 (by decide) rfl rfl ?_
    refine an_top (e' := nI (n)) (i3.2.1) ?_
    refine an_icmp_ge 51 d10_9 (by decide) (by omega) (by omega) (fun c9 => by omega) (fun c9 => ?_)
    refine as_aload_n d10_12 rfl ?_
    refine ap_get d10_13 f10_20 (by decide) rfl rfl ?_
    refine as_iload d10_16 rfl ?_
    refine as_aload_n d10_18 rfl ?_
    refine ap_get d10_19 f10_13 (by decide) rfl rfl ?_
    refine an_topr (hrf) ?_
    refine as_iload d10_22 rfl ?_
    refine ap_aald d10_24 isQ111 (Or.inl rfl) (by decide) (by omega) (by decide) (an_topr (show _ = T.2.2.2 111 i from rfl) ?_)
    refine as_iload_n d10_25 rfl ?_
    refine as_iload_n d10_26 rfl ?_
    refine ac_s3 d10_27 c10_71 (by decide) (Nat.le_of_ble_eq_true rfl) (mc_arcsAround X _ _ _ _ (R i) (by omega) (isI_row (by omega)) (fun j hj => i3.2.2.1 i hi j hj) (by omega) (by omega) (by omega)) ?_
    refine as_aload_n d10_30 rfl ?_
    refine ap_get d10_31 f10_13 (by decide) rfl rfl ?_
    refine an_topr (hrf) ?_
    refine as_iload d10_34 rfl ?_
    refine ap_aald d10_36 isQ111 (Or.inl rfl) (by decide) (by omega) (by decide) (an_topr (show _ = T.2.2.2 111 i from rfl) ?_)
    refine as_iload_n d10_37 rfl ?_
    refine as_iload d10_38 rfl ?_
    refine ac_s3 d10_40 c10_71 (by decide) (Nat.le_of_ble_eq_true rfl) (mc_arcsAround X _ _ _ _ (R i) (by omega) (isI_row (by omega)) (fun j hj => i3.2.2.1 i hi j hj) (by omega) (by omega) (by omega)) ?_
    refine as_isub d10_43 ?_
    refine an_top (e' := zI (exV s t c d (R i))) (arc_ex _ _ _ _ _) ?_
    refine ap_iast d10_44 (fun _ _ _ _ => rfl) (by decide) (by omega) (by decide) ?_
    refine an_iinc 1 d10_45 rfl rfl (by decide) ?_
    refine as_goto 3 d10_48 (by decide) ?_
    refine AW.loc [(0, .ref (43)), (1, .int (nI (s))), (2, .int (nI (c))), (3, .int (nI (t))), (4, .int (nI (d))), (5, .int (nI (i + 1)))] (am_pick [1, 2, 3, 4, 5, 0] rfl rfl) ?_
    have ih := ih ((T).sa 110 (i) (zI (exV s t c d (R i)))) (by
      refine ⟨i1.sa (by omega) _ _, i2, ⟨i3.1, i3.2.1, fun a ha j hj => ?_, fun a ha => ?_⟩, fun a ha => ?_⟩
      · have hra : 112 ≤ T.2.2.2 111 a ∧ T.2.2.2 111 a < 176 := by rw [i2]; exact (hL.2.2.1 a (by omega))
        show (T.sa 110 i _).2.1 (T.2.2.2 111 a) j = _
        rw [sa_row _ _ _ _ (by omega)]
        exact i3.2.2.1 a ha j hj
      · rw [sa_row _ _ _ _ (by omega)]
        exact i3.2.2.2 a ha
      · rw [sa_at]
        by_cases e : a = i
        · rw [if_pos e, e]
        · rw [if_neg e]
          exact i4 a (by omega))
    exact ih
  · refine as_iload d10_3 rfl ?_
    refine as_aload_n d10_5 rfl ?_
    refine ap_get d10_6 f10_62 (by decide) rfl rfl ?_
    refine an_top (e' := nI (n)) (hX.2.2.1.2.1) ?_
    refine an_icmp_ge 51 d10_9 (by decide) (by omega) (by omega) (fun c9 => ?_) (fun c9 => by omega)
    refine as_return d10_51 t10 ?_
    exact ⟨_, _, rfl, rfl, hX⟩
