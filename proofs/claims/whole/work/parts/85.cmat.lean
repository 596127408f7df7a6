/-! holes: the class's table -/
def MXc (T : MS) (R C : Nat) (A : Nat → Nat → Int) : Prop := T.1 22 2 = nI R ∧ T.1 22 3 = nI C ∧ (∀ i, i < 18 → 24 ≤ T.2.2.2 23 i ∧ T.2.2.2 23 i < 42) ∧ (∀ i j, i < 18 → j < 18 → T.2.2.2 23 i = T.2.2.2 23 j → i = j) ∧ ∀ r, r < R → ∀ c, c < C → T.2.2.1 (T.2.2.2 23 r) c = Int64.ofInt (A r c)
theorem lg_z (x y : Int64) : lg_cmp x y = 0 ↔ x = y := by
  unfold lg_cmp
  by_cases h : x > y
  · rw [if_pos h]
    refine ⟨fun g => absurd g (by decide), fun g => ?_⟩
    subst g
    exact absurd h (by show ¬ (x < x); exact Int64.lt_irrefl)
  · rw [if_neg h]
    by_cases e : x = y
    · rw [if_pos e]; exact ⟨fun _ => e, fun _ => rfl⟩
    · rw [if_neg e]; exact ⟨fun g => absurd g (by decide), fun g => absurd g e⟩
theorem oKeep.sl {S T : MS} (h : oKeep S T) {q : Nat} (hq : 24 ≤ q ∧ q < 42) (i : Nat) (x : Int64) : oKeep S (T.sl q i x) := ⟨h.1, fun k a => by
  show u2 T.2.2.1 q i x k = _
  rw [u2_ne _ _ _ (by omega)]
  exact h.2.1 k a, h.2.2.1, h.2.2.2⟩
/-- and no field -/
def dKeep (S T : MS) : Prop := oKeep S T ∧ T.1 = S.1
theorem dKeep.rf (S : MS) : dKeep S S := ⟨oKeep.rf S, rfl⟩
theorem dKeep.trans {S T U : MS} (h : dKeep S T) (g : dKeep T U) : dKeep S U := ⟨h.1.trans g.1, g.2.trans h.2⟩
theorem dKeep.sl {S T : MS} (h : dKeep S T) {q : Nat} (hq : 24 ≤ q ∧ q < 42) (i : Nat) (x : Int64) : dKeep S (T.sl q i x) := ⟨h.1.sl hq i x, h.2⟩
/-- one number of the table changes -/
theorem MXc.sl {T : MS} {R C : Nat} {A : Nat → Nat → Int} (h : MXc T R C A) (hR : R ≤ 18) {r c : Nat} (hr : r < R) {y : Int64} {v : Int} (hy : y = Int64.ofInt v) : MXc (T.sl (T.2.2.2 23 r) c y) R C (fun i j => if i = r ∧ j = c then v else A i j) := by
  refine ⟨h.1, h.2.1, h.2.2.1, h.2.2.2.1, fun i hi j hj => ?_⟩
  show (T.sl (T.2.2.2 23 r) c y).2.2.1 (T.2.2.2 23 i) j = Int64.ofInt (if i = r ∧ j = c then v else A i j)
  rw [sl_at]
  by_cases e : i = r ∧ j = c
  · rw [if_pos ⟨by rw [e.1], e.2⟩, if_pos e, hy]
  · rw [if_neg e, if_neg (fun w => e ⟨h.2.2.2.1 i r (by omega) (by omega) w.1, w.2⟩)]
    exact h.2.2.2.2 i hi j hj
theorem MXc.eq {T : MS} {R C : Nat} {A B : Nat → Nat → Int} (h : MXc T R C A) (e : ∀ r, r < R → ∀ c, c < C → B r c = A r c) : MXc T R C B := ⟨h.1, h.2.1, h.2.2.1, h.2.2.2.1, fun r hr c hc => by rw [e r hr c hc]; exact h.2.2.2.2 r hr c hc⟩
theorem mc_timesOf (X : am_X) (S : MS) (u w : Int64) : MC X 31 [.long (u), .long (w)] S (some (.long (if w = 0 then 0 else u / w))) S := by
  refine MC.of (Nat.le_of_ble_eq_true rfl) ?_
  refine as_lload_n d31_0 rfl ?_
  refine as_lconst d31_1 ?_
  refine as_lcmp d31_2 ?_
  refine as_if_ne 10 d31_3 (by decide) (fun c3 => ?_) (fun c3 => ?_)
  · refine as_lload_n d31_10 rfl ?_
    refine as_lload_n d31_11 rfl ?_
    refine as_ldiv d31_12 (fun g => c3 ((lg_z _ _).mpr g)) ?_
    refine as_lreturn d31_13 t31 ?_
    first | exact congrArg (fun z => (some (Value.long z), 208, HP S, 0, 0)) (if_neg (fun g => c3 ((lg_z _ _).mpr g))).symm | exact congrArg (fun z => (some (Value.long z), 208, HP S, 0, 0)) (if_pos ((lg_z _ _).mp c3)).symm
  · refine as_lconst d31_6 ?_
    refine as_goto 13 d31_7 (by decide) ?_
    refine as_lreturn d31_13 t31 ?_
    first | exact congrArg (fun z => (some (Value.long z), 208, HP S, 0, 0)) (if_neg (fun g => c3 ((lg_z _ _).mpr g))).symm | exact congrArg (fun z => (some (Value.long z), 208, HP S, 0, 0)) (if_pos ((lg_z _ _).mp c3)).symm
theorem mx_addRowC (X : am_X) (S : MS) (R C : Nat) (A : Nat → Nat → Int) (hR : R ≤ 18) (hC : C ≤ 6) (h : MXc S R C A) (a b : Nat) (ha : a < R) (hb : b < R) (hab : a ≠ b) : ∃ T, MC X 33 [.ref (22), .int (nI (a)), .int (nI (b))] S none T ∧ dKeep S T ∧ T.2.2.2 = S.2.2.2 ∧ MXc T R C (fun i j => if i = a then A a j + A b j else A i j) := by
  have key := MX.mc (X := X) (mj := 33) (as := [.ref (22), .int (nI (a)), .int (nI (b))]) (S := S) (Post := fun v T => v = none ∧ dKeep S T ∧ T.2.2.2 = S.2.2.2 ∧ MXc T R C (fun i j => if i = a then A a j + A b j else A i j)) ?_
  · obtain ⟨v, T, g1, g2, g3⟩ := key
    subst g2
    exact ⟨T, g1, g3⟩
  refine MX.of (Nat.le_of_ble_eq_true rfl) ?_
  refine an_iconst 0 d33_0 rfl ?_
  refine as_istore_n d33_1 (by decide) ?_
  refine AW.loc [(0, .ref (22)), (1, .int (nI (a))), (2, .int (nI (b))), (3, .int (nI (0)))] (am_pick [1, 2, 3, 0] rfl rfl) ?_
  refine aw_fromE (fun c T => ((2, [(0, .ref (22)), (1, .int (nI (a))), (2, .int (nI (b))), (3, .int (nI (c)))], [], 208, HP (T), 0, 0) : am_Z)) (fun c T => dKeep S T ∧ T.2.2.2 = S.2.2.2 ∧ MXc T R C (fun i j => if i = a ∧ j < (c) then A a j + A b j else A i j)) (0) (C) (by omega) (S) (rfl) (⟨dKeep.rf S, rfl, h.eq (fun r _ c _ => if_neg (by omega))⟩) (fun c T hc0 hc hI ihc => ?_) (fun T hX => ?_)
  · refine as_iload_n d33_2 rfl ?_
    refine as_aload_n d33_3 rfl ?_
    refine ap_get d33_4 f33_49 (by decide) rfl rfl ?_
    refine an_top (e' := nI (C)) (hI.2.2.2.1) ?_
    refine an_icmp_ge 35 d33_7 (by decide) (by omega) (by omega) (fun c7 => by omega) (fun c7 => ?_)
    refine as_aload_n d33_10 rfl ?_
    refine ap_get d33_11 f33_13 (by decide) rfl rfl ?_
    refine as_iload_n d33_14 rfl ?_
    refine ap_aald d33_15 isQ23 (Or.inr rfl) (by decide) (by omega) (by decide) (an_topr (show _ = T.2.2.2 23 a from rfl) ?_)
    refine as_iload_n d33_16 rfl ?_
    refine as_dup2 d33_17 rfl rfl ?_
    refine ap_lald d33_18 (isJ_row (hI.2.2.2.2.1 a (by omega))) (by have := hI.2.2.2.2.1 a (by omega); omega) (by omega) (by decide) ?_
    refine as_aload_n d33_19 rfl ?_
    refine ap_get d33_20 f33_13 (by decide) rfl rfl ?_
    refine as_iload_n d33_23 rfl ?_
    refine ap_aald d33_24 isQ23 (Or.inr rfl) (by decide) (by omega) (by decide) (an_topr (show _ = T.2.2.2 23 b from rfl) ?_)
    refine as_iload_n d33_25 rfl ?_
    refine ap_lald d33_26 (isJ_row (hI.2.2.2.2.1 b (by omega))) (by have := hI.2.2.2.2.1 b (by omega); omega) (by omega) (by decide) ?_
    refine as_ladd d33_27 ?_
    refine ap_last d33_28 (isJ_row (hI.2.2.2.2.1 a (by omega))) (by have := hI.2.2.2.2.1 a (by omega); omega) (by omega) (by decide) ?_
    refine an_iinc 1 d33_29 rfl rfl (by decide) ?_
    refine as_goto 2 d33_32 (by decide) ?_
    refine AW.loc [(0, .ref (22)), (1, .int (nI (a))), (2, .int (nI (b))), (3, .int (nI (c + 1)))] (am_pick [1, 2, 3, 0] rfl rfl) ?_
    have ihc := ihc (T.sl (T.2.2.2 23 a) (c) ((T.2.2.1 (T.2.2.2 23 a) (c)) + (T.2.2.1 (T.2.2.2 23 b) (c)))) (by
      have q1 := hI.2.2.2.2.2.2 a ha c hc
      have q2 := hI.2.2.2.2.2.2 b hb c hc
      have q3 := hI.2.2.sl hR ha (c := c) (y := T.2.2.1 (T.2.2.2 23 a) c + T.2.2.1 (T.2.2.2 23 b) c) (v := A a c + A b c) (by
        rw [q1, q2]
        dsimp only
        rw [if_neg (by omega), if_neg (by omega), Int64.ofInt_add])
      refine ⟨hI.1.sl (hI.2.2.2.2.1 a (by omega)) _ _, hI.2.1, q3.eq (fun r hr j hj => ?_)⟩
      by_cases e : r = a ∧ j = c
      · rw [if_pos e, if_pos (by omega), e.2]
      · rw [if_neg e]
        by_cases e2 : r = a ∧ j < c
        · rw [if_pos e2, if_pos (by omega)]
        · rw [if_neg e2, if_neg (by omega)])
    exact ihc
  · refine as_iload_n d33_2 rfl ?_
    refine as_aload_n d33_3 rfl ?_
    refine ap_get d33_4 f33_49 (by decide) rfl rfl ?_
    refine an_top (e' := nI (C)) (hX.2.2.2.1) ?_
    refine an_icmp_ge 35 d33_7 (by decide) (by omega) (by omega) (fun c7 => ?_) (fun c7 => by omega)
    refine as_return d33_35 t33 ?_
    refine ⟨_, _, rfl, rfl, hX.1, hX.2.1, hX.2.2.eq (fun r hr j hj => ?_)⟩
    by_cases e : r = a
    · rw [if_pos e, if_pos ⟨e, hj⟩]
    · rw [if_neg e, if_neg (fun w => e w.1)]
