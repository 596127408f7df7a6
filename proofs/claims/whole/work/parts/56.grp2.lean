/-! the class: settle, clashes, anyClashes -/
def ST (S T : MS) (B n i : Nat) (J : LRel) (cl rt ph : Nat → Nat) : Prop := sKeep B S T ∧ (∃ pa un, UM T B n pa un cl ∧ UP n J pa un cl rt ph) ∧ T.1 B 6 = nI (cnt (fs J) i) ∧ (∀ j, j < i → T.2.1 (B + 4) j = nI (gno J j)) ∧ (∀ j, j < i → fs J j = true → T.2.1 (B + 5) (cnt (fs J) j) = nI j)
theorem up_gno {n : Nat} {J : LRel} {pa un cl rt ph : Nat → Nat} (h : UP n J pa un cl rt ph) {x : Nat} (hx : x < n) : gno J x = cnt (fs J) (rt x) := by
  show cnt (fs J) (lst J x) = _
  rw [h.lst hx]
theorem UM.keep {S T : MS} {B n : Nat} {pa un cl : Nat → Nat} (h : UM S B n pa un cl) (h0 : T.1 B 5 = S.1 B 5) (h1 : T.2.1 (B + 1) = S.2.1 (B + 1)) (h2 : T.2.1 (B + 2) = S.2.1 (B + 2)) (h3 : T.2.1 (B + 3) = S.2.1 (B + 3)) : UM T B n pa un cl := by
  unfold UM
  rw [h0, h1, h2, h3]
  exact h
theorem ST.last {S T : MS} {B n : Nat} {J : LRel} {cl rt ph : Nat → Nat} (h : ST S T B n n J cl rt ph) : GS T B n J := by
  obtain ⟨h1, ⟨pa, un, h2, h3⟩, h4, h5, h6⟩ := h
  refine ⟨h4, h5, fun j hj hf => ⟨h6 j hj hf, ?_⟩⟩
  have hr := (h3.fst hj).mp hf
  have ht := h3.tws hj
  rw [hr] at ht
  have hc := (h3.1 j hj).2.2.1
  rw [(h2.2 j hj).2.2]
  by_cases e : cl j = 1
  · rw [e]
    exact Or.inl ⟨rfl, ht.mpr e⟩
  · rw [show cl j = 0 by omega]
    exact Or.inr ⟨rfl, fun g => e (ht.mp g)⟩
theorem mx_settle4 (X : am_X) (S : MS) (n : Nat) (J : LRel) (pa un cl rt ph : Nat → Nat) (hn : n ≤ 12) (hU : UM S 4 n pa un cl) (hp : UP n J pa un cl rt ph) : ∃ T, MC X 4 [.ref (4)] S none T ∧ sKeep 4 S T ∧ GS T 4 n J := by
  have key := MX.mc (X := X) (mj := 4) (as := [.ref (4)]) (S := S) (Post := fun v T => v = none ∧ sKeep 4 S T ∧ GS T 4 n J) ?_
  · obtain ⟨v, T, g1, g2, g3⟩ := key
    subst g2
    exact ⟨T, g1, g3⟩
  refine MX.of (Nat.le_of_ble_eq_true rfl) ?_
  refine as_aload_n d4_0 rfl ?_
  refine an_iconst 0 d4_1 rfl ?_
  refine ap_put d4_2 f4_43 (by decide) rfl (Nat.le_of_ble_eq_true rfl) (rfl) rfl rfl ?_
  refine an_iconst 0 d4_5 rfl ?_
  refine as_istore_n d4_6 (by decide) ?_
  refine AW.loc [(0, .ref (4)), (1, .int (nI (0)))] (am_pick [1, 0] rfl rfl) ?_
  refine aw_fromE (fun i T => ((7, [(0, .ref (4)), (1, .int (nI (i)))], [], 208, HP (T), 0, 0) : am_Z)) (fun i T => ST S T 4 n (i) J cl rt ph) (0) (n) (by omega) ((S).sf 4 6 (nI (0))) (rfl) (⟨(sKeep.rf 4 S).sf (by omega) _, ⟨pa, un, hU.keep (by rw [sf_at, if_neg (by omega)]) rfl rfl rfl, hp⟩, by rw [sf_at, if_pos ⟨rfl, rfl⟩]; rfl, fun j hj => by omega, fun j hj => by omega⟩) (fun i T hi0 hi hI ih => ?_) (fun T hX => ?_)
  · obtain ⟨i1, ⟨pa1, un1, i2, i3⟩, i4, i5, i6⟩ := hI
    have m1 := mc_rootOf4 X T n J pa1 un1 cl rt ph hn i2 i3 i hi
    have u1 := i2.hang (rt := rt) (ph := ph) i
    have p1 := i3.hang hi
    have hrl := (i3.1 i hi).2.2.2.1
    have hcl := cnt_le (fs J) i
    have hg := up_gno i3 hi
    refine as_iload_n d4_7 rfl ?_
    refine as_aload_n d4_8 rfl ?_
    refine ap_get d4_9 f4_32 (by decide) rfl rfl ?_
    refine an_top (e' := nI (n)) (i2.1) ?_
    refine an_icmp_ge 77 d4_12 (by decide) (by omega) (by omega) (fun c12 => by omega) (fun c12 => ?_)
    refine as_aload_n d4_15 rfl ?_
    refine as_iload_n d4_16 rfl ?_
    refine ac_v1 d4_17 c4_36 (by decide) rfl (Nat.le_of_ble_eq_true rfl) (m1) ?_
    refine as_istore_n d4_20 (by decide) ?_
    refine as_iload_n d4_21 rfl ?_
    refine as_iload_n d4_22 rfl ?_
    refine an_icmp_ne 59 d4_23 (by decide) (by omega) (by omega) (fun c23 => ?_) (fun c23 => ?_)
    · have hf : ¬ fs J i = true := fun g => c23 ((i3.fst hi).mp g)
      have hrr : rt i < i := by omega
      have hgr : gno J (rt i) = gno J i := by rw [up_gno i3 (show rt i < n by omega), (i3.1 i hi).2.2.2.2.2.2.1, hg]
      refine as_aload_n d4_59 rfl ?_
      refine ap_get d4_60 f4_20 (by decide) rfl rfl ?_
      refine as_iload_n d4_63 rfl ?_
      refine as_aload_n d4_64 rfl ?_
      refine ap_get d4_65 f4_20 (by decide) rfl rfl ?_
      refine as_iload_n d4_68 rfl ?_
      refine ap_iald d4_69 (fun _ _ _ _ => rfl) (by decide) (by omega) (by decide) ?_
      refine an_top (e' := nI (gno J i)) (by rw [sa_row _ _ _ _ (by decide), sa_row _ _ _ _ (by decide), ← hgr]; exact i5 (rt i) hrr) ?_
      refine ap_iast d4_70 (fun _ _ _ _ => rfl) (by decide) (by omega) (by decide) ?_
      refine an_iinc 1 d4_71 rfl rfl (by decide) ?_
      refine as_goto 7 d4_74 (by decide) ?_
      refine AW.loc [(0, .ref (4)), (1, .int (nI (i + 1)))] (am_pick [2, 0] rfl rfl) ?_
      have ih := ih (((T.sa 5 i (nI (rt i))).sa 6 i (nI (ph i))).sa 8 (i) (nI (gno J i))) (by
        first
        | (refine ⟨((((i1.sa (by omega) _ _).sa (by omega) _ _).sa (by omega) _ _).sa (by omega) _ _).sf (by omega) _, ⟨_, _, u1.keep (by rw [sf_at, if_neg (by omega)]) rfl rfl rfl, p1⟩, by rw [sf_at, if_pos ⟨rfl, rfl⟩, cnt_t hf], fun j hj => ?_, fun j hj hfj => ?_⟩
           · rw [sf_snd, sa_at, sa_row _ _ _ _ (by decide), sa_row _ _ _ _ (by decide), sa_row _ _ _ _ (by decide)]
             by_cases e : j = i
             · rw [if_pos e, e, hgi]
             · rw [if_neg e]; exact i5 j (by omega)
           · rw [sf_snd, sa_row _ _ _ _ (by decide), sa_at, sa_row _ _ _ _ (by decide), sa_row _ _ _ _ (by decide)]
             by_cases e : j = i
             · rw [if_pos (by rw [e]), e]
             · have q1 := cnt_mono (fs J) (show j + 1 ≤ i by omega)
               rw [cnt_t hfj] at q1
               rw [if_neg (by omega)]; exact i6 j (by omega) hfj)
        | (refine ⟨((i1.sa (by omega) _ _).sa (by omega) _ _).sa (by omega) _ _, ⟨_, _, u1.keep rfl rfl rfl rfl, p1⟩, by rw [cnt_f hf]; exact i4, fun j hj => ?_, fun j hj hfj => ?_⟩
           · rw [sa_at, sa_row _ _ _ _ (by decide), sa_row _ _ _ _ (by decide)]
             by_cases e : j = i
             · rw [if_pos e, e]
             · rw [if_neg e]; exact i5 j (by omega)
           · rw [sa_row _ _ _ _ (by decide), sa_row _ _ _ _ (by decide), sa_row _ _ _ _ (by decide)]
             have e : j ≠ i := fun e => hf (e ▸ hfj)
             exact i6 j (by omega) hfj))
      exact ih
    · have hf : fs J i = true := (i3.fst hi).mpr c23
      have hgi := gno_fst hf
      refine as_aload_n d4_26 rfl ?_
      refine ap_get d4_27 f4_23 (by decide) rfl rfl ?_
      refine as_aload_n d4_30 rfl ?_
      refine ap_get d4_31 f4_43 (by decide) rfl rfl ?_
      refine an_top (e' := nI (cnt (fs J) i)) (i4) ?_
      refine as_iload_n d4_34 rfl ?_
      refine ap_iast d4_35 (fun _ _ _ _ => rfl) (by decide) (by omega) (by decide) ?_
      refine as_aload_n d4_36 rfl ?_
      refine ap_get d4_37 f4_20 (by decide) rfl rfl ?_
      refine as_iload_n d4_40 rfl ?_
      refine as_aload_n d4_41 rfl ?_
      refine ap_get d4_42 f4_43 (by decide) rfl rfl ?_
      refine an_top (e' := nI (cnt (fs J) i)) (i4) ?_
      refine ap_iast d4_45 (fun _ _ _ _ => rfl) (by decide) (by omega) (by decide) ?_
      refine as_aload_n d4_46 rfl ?_
      refine as_dup d4_47 rfl ?_
      refine ap_get d4_48 f4_43 (by decide) rfl rfl ?_
      refine an_top (e' := nI (cnt (fs J) i)) (i4) ?_
      refine an_iconst 1 d4_51 rfl ?_
      refine an_iadd d4_52 ?_
      refine ap_put d4_53 f4_43 (by decide) rfl (Nat.le_of_ble_eq_true rfl) (rfl) rfl rfl ?_
      refine as_goto 71 d4_56 (by decide) ?_
      refine an_iinc 1 d4_71 rfl rfl (by decide) ?_
      refine as_goto 7 d4_74 (by decide) ?_
      refine AW.loc [(0, .ref (4)), (1, .int (nI (i + 1)))] (am_pick [2, 0] rfl rfl) ?_
      have ih := ih (((((T.sa 5 i (nI (rt i))).sa 6 i (nI (ph i))).sa 9 (cnt (fs J) i) (nI (i))).sa 8 (i) (nI (cnt (fs J) i))).sf 4 6 (nI ((cnt (fs J) i) + (1)))) (by
        first
        | (refine ⟨((((i1.sa (by omega) _ _).sa (by omega) _ _).sa (by omega) _ _).sa (by omega) _ _).sf (by omega) _, ⟨_, _, u1.keep (by rw [sf_at, if_neg (by omega)]) rfl rfl rfl, p1⟩, by rw [sf_at, if_pos ⟨rfl, rfl⟩, cnt_t hf], fun j hj => ?_, fun j hj hfj => ?_⟩
           · rw [sf_snd, sa_at, sa_row _ _ _ _ (by decide), sa_row _ _ _ _ (by decide), sa_row _ _ _ _ (by decide)]
             by_cases e : j = i
             · rw [if_pos e, e, hgi]
             · rw [if_neg e]; exact i5 j (by omega)
           · rw [sf_snd, sa_row _ _ _ _ (by decide), sa_at, sa_row _ _ _ _ (by decide), sa_row _ _ _ _ (by decide)]
             by_cases e : j = i
             · rw [if_pos (by rw [e]), e]
             · have q1 := cnt_mono (fs J) (show j + 1 ≤ i by omega)
               rw [cnt_t hfj] at q1
               rw [if_neg (by omega)]; exact i6 j (by omega) hfj)
        | (refine ⟨((i1.sa (by omega) _ _).sa (by omega) _ _).sa (by omega) _ _, ⟨_, _, u1.keep rfl rfl rfl rfl, p1⟩, by rw [cnt_f hf]; exact i4, fun j hj => ?_, fun j hj hfj => ?_⟩
           · rw [sa_at, sa_row _ _ _ _ (by decide), sa_row _ _ _ _ (by decide)]
             by_cases e : j = i
             · rw [if_pos e, e]
             · rw [if_neg e]; exact i5 j (by omega)
           · rw [sa_row _ _ _ _ (by decide), sa_row _ _ _ _ (by decide), sa_row _ _ _ _ (by decide)]
             have e : j ≠ i := fun e => hf (e ▸ hfj)
             exact i6 j (by omega) hfj))
      exact ih
  · refine as_iload_n d4_7 rfl ?_
    refine as_aload_n d4_8 rfl ?_
    refine ap_get d4_9 f4_32 (by decide) rfl rfl ?_
    refine an_top (e' := nI (n)) ((hX.2.1.choose_spec.choose_spec.1).1) ?_
    refine an_icmp_ge 77 d4_12 (by decide) (by omega) (by omega) (fun c12 => ?_) (fun c12 => by omega)
    refine as_return d4_77 t4 ?_
    exact ⟨_, _, rfl, rfl, hX.1, hX.last⟩
theorem mc_clashes4 (X : am_X) (S : MS) (n : Nat) (J : LRel) (hn : n ≤ 12) (hS : GS S 4 n J) (m g : Nat) (hm : m < n) (hf : fs J m = true) (hg : cnt (fs J) m = g) : MC X 5 [.ref (4), .int (nI (g))] S (some (.int (S.2.1 7 m))) S := by
  have hgl := cnt_le (fs J) m
  refine MC.of (Nat.le_of_ble_eq_true rfl) ?_
  refine as_aload_n d5_0 rfl ?_
  refine ap_get d5_1 f5_16 (by decide) rfl rfl ?_
  refine as_aload_n d5_4 rfl ?_
  refine ap_get d5_5 f5_23 (by decide) rfl rfl ?_
  refine as_iload_n d5_8 rfl ?_
  refine ap_iald d5_9 (fun _ _ _ _ => rfl) (by decide) (by omega) (by decide) ?_
  refine an_top (e' := nI (m)) (by rw [← hg]; exact (hS.2.2 m hm hf).1) ?_
  refine ap_zald d5_10 (fun _ _ _ _ => rfl) (by decide) (by omega) (by decide) ?_
  refine as_ireturn d5_11 (by rw [t5]; rcases (hS.2.2 m hm hf).2 with q | q <;> rw [show S.2.1 7 m = _ from q.1] <;> rfl) ?_
  rfl
theorem mc_anyClashes4 (X : am_X) (S : MS) (n : Nat) (J : LRel) (hn : n ≤ 12) (hS : GS S 4 n J) (a : Nat) (ha : (a = 1 ∧ ∃ m, m < n ∧ fs J m = true ∧ Tws J m) ∨ (a = 0 ∧ ∀ m, m < n → fs J m = true → ¬ Tws J m)) : MC X 6 [.ref (4)] S (some (.int (nI a))) S := by
  refine MC.of (Nat.le_of_ble_eq_true rfl) ?_
  have hcl := cnt_le (fs J) n
  refine an_iconst 0 d6_0 rfl ?_
  refine as_istore_n d6_1 (by decide) ?_
  refine AW.loc [(0, .ref (4)), (1, .int (nI (0)))] (am_pick [1, 0] rfl rfl) ?_
  refine aw_fromI (fun i => ((2, [(0, .ref (4)), (1, .int (nI (i)))], [], 208, HP (S), 0, 0) : am_Z)) (fun i => ∀ m, m < n → fs J m = true → cnt (fs J) m < i → ¬ Tws J m) (0) (cnt (fs J) n) (by omega) (rfl) (fun m _ _ h => by omega) (fun i hi0 hi hI ih => ?_) (fun hX => ?_)
  · obtain ⟨m, m1, m2, m3⟩ := cnt_find n i hi
    refine as_iload_n d6_2 rfl ?_
    refine as_aload_n d6_3 rfl ?_
    refine ap_get d6_4 f6_43 (by decide) rfl rfl ?_
    refine an_top (e' := nI (cnt (fs J) n)) (hS.1) ?_
    refine an_icmp_ge 26 d6_7 (by decide) (by omega) (by omega) (fun c7 => by omega) (fun c7 => ?_)
    refine as_aload_n d6_10 rfl ?_
    refine as_iload_n d6_11 rfl ?_
    refine ac_v1 d6_12 c6_46 (by decide) rfl (Nat.le_of_ble_eq_true rfl) (mc_clashes4 X _ n J hn hS m i m1 m2 m3) ?_
    refine as_if_eq 20 d6_15 (by decide) (fun c15 => ?_) (fun c15 => ?_)
    · have hnt : ¬ Tws J m := by
        rcases (hS.2.2 m m1 m2).2 with q | q
        · rw [show S.2.1 7 m = _ from q.1] at c15
          cases c15
        · exact q.2
      refine an_iinc 1 d6_20 rfl rfl (by decide) ?_
      refine as_goto 2 d6_23 (by decide) ?_
      refine AW.loc [(0, .ref (4)), (1, .int (nI (i + 1)))] (am_pick [1, 0] rfl rfl) ?_
      have ih := ih (fun m' w1 w2 w3 => by
        by_cases e : m' = m
        · rw [e]; exact hnt
        · refine hI m' w1 w2 ?_
          rcases Nat.lt_or_gt_of_ne e with q | q
          · have q1 := cnt_mono (fs J) (show m' + 1 ≤ m by omega)
            rw [cnt_t w2] at q1
            omega
          · have q1 := cnt_mono (fs J) (show m + 1 ≤ m' by omega)
            rw [cnt_t m2] at q1
            omega)
      exact ih
    · have hnt : Tws J m := by
        rcases (hS.2.2 m m1 m2).2 with q | q
        · exact q.2
        · exact absurd q.1 c15
      refine an_iconst 1 d6_18 rfl ?_
      refine as_ireturn d6_19 (by rw [t6]; rfl) ?_
      refine am_req (congrArg nI ?_)
      rcases ha with ⟨e, h⟩ | ⟨e, h⟩
      · first | exact e.symm | (obtain ⟨m, w1, w2, w3⟩ := h; have q1 := cnt_mono (fs J) (show m + 1 ≤ n by omega); rw [cnt_t w2] at q1; exact absurd w3 (hX m w1 w2 (by omega)))
      · first | exact e.symm | exact absurd hnt (h m m1 m2)
  · refine as_iload_n d6_2 rfl ?_
    refine as_aload_n d6_3 rfl ?_
    refine ap_get d6_4 f6_43 (by decide) rfl rfl ?_
    refine an_top (e' := nI (cnt (fs J) n)) (hS.1) ?_
    refine an_icmp_ge 26 d6_7 (by decide) (by omega) (by omega) (fun c7 => ?_) (fun c7 => by omega)
    refine an_iconst 0 d6_26 rfl ?_
    refine as_ireturn d6_27 (by rw [t6]; rfl) ?_
    refine am_req (congrArg nI ?_)
    rcases ha with ⟨e, h⟩ | ⟨e, h⟩
    · first | exact e.symm | (obtain ⟨m, w1, w2, w3⟩ := h; have q1 := cnt_mono (fs J) (show m + 1 ≤ n by omega); rw [cnt_t w2] at q1; exact absurd w3 (hX m w1 w2 (by omega)))
    · first | exact e.symm | exact absurd hnt (h m m1 m2)
theorem mx_settle10 (X : am_X) (S : MS) (n : Nat) (J : LRel) (pa un cl rt ph : Nat → Nat) (hn : n ≤ 18) (hU : UM S 10 n pa un cl) (hp : UP n J pa un cl rt ph) : ∃ T, MC X 4 [.ref (10)] S none T ∧ sKeep 10 S T ∧ GS T 10 n J := by
  have key := MX.mc (X := X) (mj := 4) (as := [.ref (10)]) (S := S) (Post := fun v T => v = none ∧ sKeep 10 S T ∧ GS T 10 n J) ?_
  · obtain ⟨v, T, g1, g2, g3⟩ := key
    subst g2
    exact ⟨T, g1, g3⟩
  refine MX.of (Nat.le_of_ble_eq_true rfl) ?_
  refine as_aload_n d4_0 rfl ?_
  refine an_iconst 0 d4_1 rfl ?_
  refine ap_put d4_2 f4_43 (by decide) rfl (Nat.le_of_ble_eq_true rfl) (rfl) rfl rfl ?_
  refine an_iconst 0 d4_5 rfl ?_
  refine as_istore_n d4_6 (by decide) ?_
  refine AW.loc [(0, .ref (10)), (1, .int (nI (0)))] (am_pick [1, 0] rfl rfl) ?_
  refine aw_fromE (fun i T => ((7, [(0, .ref (10)), (1, .int (nI (i)))], [], 208, HP (T), 0, 0) : am_Z)) (fun i T => ST S T 10 n (i) J cl rt ph) (0) (n) (by omega) ((S).sf 10 6 (nI (0))) (rfl) (⟨(sKeep.rf 10 S).sf (by omega) _, ⟨pa, un, hU.keep (by rw [sf_at, if_neg (by omega)]) rfl rfl rfl, hp⟩, by rw [sf_at, if_pos ⟨rfl, rfl⟩]; rfl, fun j hj => by omega, fun j hj => by omega⟩) (fun i T hi0 hi hI ih => ?_) (fun T hX => ?_)
  · obtain ⟨i1, ⟨pa1, un1, i2, i3⟩, i4, i5, i6⟩ := hI
    have m1 := mc_rootOf10 X T n J pa1 un1 cl rt ph hn i2 i3 i hi
    have u1 := i2.hang (rt := rt) (ph := ph) i
    have p1 := i3.hang hi
    have hrl := (i3.1 i hi).2.2.2.1
    have hcl := cnt_le (fs J) i
    have hg := up_gno i3 hi
    refine as_iload_n d4_7 rfl ?_
    refine as_aload_n d4_8 rfl ?_
    refine ap_get d4_9 f4_32 (by decide) rfl rfl ?_
    refine an_top (e' := nI (n)) (i2.1) ?_
    refine an_icmp_ge 77 d4_12 (by decide) (by omega) (by omega) (fun c12 => by omega) (fun c12 => ?_)
    refine as_aload_n d4_15 rfl ?_
    refine as_iload_n d4_16 rfl ?_
    refine ac_v1 d4_17 c4_36 (by decide) rfl (Nat.le_of_ble_eq_true rfl) (m1) ?_
    refine as_istore_n d4_20 (by decide) ?_
    refine as_iload_n d4_21 rfl ?_
    refine as_iload_n d4_22 rfl ?_
    refine an_icmp_ne 59 d4_23 (by decide) (by omega) (by omega) (fun c23 => ?_) (fun c23 => ?_)
    · have hf : ¬ fs J i = true := fun g => c23 ((i3.fst hi).mp g)
      have hrr : rt i < i := by omega
      have hgr : gno J (rt i) = gno J i := by rw [up_gno i3 (show rt i < n by omega), (i3.1 i hi).2.2.2.2.2.2.1, hg]
      refine as_aload_n d4_59 rfl ?_
      refine ap_get d4_60 f4_20 (by decide) rfl rfl ?_
      refine as_iload_n d4_63 rfl ?_
      refine as_aload_n d4_64 rfl ?_
      refine ap_get d4_65 f4_20 (by decide) rfl rfl ?_
      refine as_iload_n d4_68 rfl ?_
      refine ap_iald d4_69 (fun _ _ _ _ => rfl) (by decide) (by omega) (by decide) ?_
      refine an_top (e' := nI (gno J i)) (by rw [sa_row _ _ _ _ (by decide), sa_row _ _ _ _ (by decide), ← hgr]; exact i5 (rt i) hrr) ?_
      refine ap_iast d4_70 (fun _ _ _ _ => rfl) (by decide) (by omega) (by decide) ?_
      refine an_iinc 1 d4_71 rfl rfl (by decide) ?_
      refine as_goto 7 d4_74 (by decide) ?_
      refine AW.loc [(0, .ref (10)), (1, .int (nI (i + 1)))] (am_pick [2, 0] rfl rfl) ?_
      have ih := ih (((T.sa 11 i (nI (rt i))).sa 12 i (nI (ph i))).sa 14 (i) (nI (gno J i))) (by
        first
        | (refine ⟨((((i1.sa (by omega) _ _).sa (by omega) _ _).sa (by omega) _ _).sa (by omega) _ _).sf (by omega) _, ⟨_, _, u1.keep (by rw [sf_at, if_neg (by omega)]) rfl rfl rfl, p1⟩, by rw [sf_at, if_pos ⟨rfl, rfl⟩, cnt_t hf], fun j hj => ?_, fun j hj hfj => ?_⟩
           · rw [sf_snd, sa_at, sa_row _ _ _ _ (by decide), sa_row _ _ _ _ (by decide), sa_row _ _ _ _ (by decide)]
             by_cases e : j = i
             · rw [if_pos e, e, hgi]
             · rw [if_neg e]; exact i5 j (by omega)
           · rw [sf_snd, sa_row _ _ _ _ (by decide), sa_at, sa_row _ _ _ _ (by decide), sa_row _ _ _ _ (by decide)]
             by_cases e : j = i
             · rw [if_pos (by rw [e]), e]
             · have q1 := cnt_mono (fs J) (show j + 1 ≤ i by omega)
               rw [cnt_t hfj] at q1
               rw [if_neg (by omega)]; exact i6 j (by omega) hfj)
        | (refine ⟨((i1.sa (by omega) _ _).sa (by omega) _ _).sa (by omega) _ _, ⟨_, _, u1.keep rfl rfl rfl rfl, p1⟩, by rw [cnt_f hf]; exact i4, fun j hj => ?_, fun j hj hfj => ?_⟩
           · rw [sa_at, sa_row _ _ _ _ (by decide), sa_row _ _ _ _ (by decide)]
             by_cases e : j = i
             · rw [if_pos e, e]
             · rw [if_neg e]; exact i5 j (by omega)
           · rw [sa_row _ _ _ _ (by decide), sa_row _ _ _ _ (by decide), sa_row _ _ _ _ (by decide)]
             have e : j ≠ i := fun e => hf (e ▸ hfj)
             exact i6 j (by omega) hfj))
      exact ih
    · have hf : fs J i = true := (i3.fst hi).mpr c23
      have hgi := gno_fst hf
      refine as_aload_n d4_26 rfl ?_
      refine ap_get d4_27 f4_23 (by decide) rfl rfl ?_
      refine as_aload_n d4_30 rfl ?_
      refine ap_get d4_31 f4_43 (by decide) rfl rfl ?_
      refine an_top (e' := nI (cnt (fs J) i)) (i4) ?_
      refine as_iload_n d4_34 rfl ?_
      refine ap_iast d4_35 (fun _ _ _ _ => rfl) (by decide) (by omega) (by decide) ?_
      refine as_aload_n d4_36 rfl ?_
      refine ap_get d4_37 f4_20 (by decide) rfl rfl ?_
      refine as_iload_n d4_40 rfl ?_
      refine as_aload_n d4_41 rfl ?_
      refine ap_get d4_42 f4_43 (by decide) rfl rfl ?_
      refine an_top (e' := nI (cnt (fs J) i)) (i4) ?_
      refine ap_iast d4_45 (fun _ _ _ _ => rfl) (by decide) (by omega) (by decide) ?_
      refine as_aload_n d4_46 rfl ?_
      refine as_dup d4_47 rfl ?_
      refine ap_get d4_48 f4_43 (by decide) rfl rfl ?_
      refine an_top (e' := nI (cnt (fs J) i)) (i4) ?_
      refine an_iconst 1 d4_51 rfl ?_
      refine an_iadd d4_52 ?_
      refine ap_put d4_53 f4_43 (by decide) rfl (Nat.le_of_ble_eq_true rfl) (rfl) rfl rfl ?_
      refine as_goto 71 d4_56 (by decide) ?_
      refine an_iinc 1 d4_71 rfl rfl (by decide) ?_
      refine as_goto 7 d4_74 (by decide) ?_
      refine AW.loc [(0, .ref (10)), (1, .int (nI (i + 1)))] (am_pick [2, 0] rfl rfl) ?_
      have ih := ih (((((T.sa 11 i (nI (rt i))).sa 12 i (nI (ph i))).sa 15 (cnt (fs J) i) (nI (i))).sa 14 (i) (nI (cnt (fs J) i))).sf 10 6 (nI ((cnt (fs J) i) + (1)))) (by
        first
        | (refine ⟨((((i1.sa (by omega) _ _).sa (by omega) _ _).sa (by omega) _ _).sa (by omega) _ _).sf (by omega) _, ⟨_, _, u1.keep (by rw [sf_at, if_neg (by omega)]) rfl rfl rfl, p1⟩, by rw [sf_at, if_pos ⟨rfl, rfl⟩, cnt_t hf], fun j hj => ?_, fun j hj hfj => ?_⟩
           · rw [sf_snd, sa_at, sa_row _ _ _ _ (by decide), sa_row _ _ _ _ (by decide), sa_row _ _ _ _ (by decide)]
             by_cases e : j = i
             · rw [if_pos e, e, hgi]
             · rw [if_neg e]; exact i5 j (by omega)
           · rw [sf_snd, sa_row _ _ _ _ (by decide), sa_at, sa_row _ _ _ _ (by decide), sa_row _ _ _ _ (by decide)]
             by_cases e : j = i
             · rw [if_pos (by rw [e]), e]
             · have q1 := cnt_mono (fs J) (show j + 1 ≤ i by omega)
               rw [cnt_t hfj] at q1
               rw [if_neg (by omega)]; exact i6 j (by omega) hfj)
        | (refine ⟨((i1.sa (by omega) _ _).sa (by omega) _ _).sa (by omega) _ _, ⟨_, _, u1.keep rfl rfl rfl rfl, p1⟩, by rw [cnt_f hf]; exact i4, fun j hj => ?_, fun j hj hfj => ?_⟩
           · rw [sa_at, sa_row _ _ _ _ (by decide), sa_row _ _ _ _ (by decide)]
             by_cases e : j = i
             · rw [if_pos e, e]
             · rw [if_neg e]; exact i5 j (by omega)
           · rw [sa_row _ _ _ _ (by decide), sa_row _ _ _ _ (by decide), sa_row _ _ _ _ (by decide)]
             have e : j ≠ i := fun e => hf (e ▸ hfj)
             exact i6 j (by omega) hfj))
      exact ih
  · refine as_iload_n d4_7 rfl ?_
    refine as_aload_n d4_8 rfl ?_
    refine ap_get d4_9 f4_32 (by decide) rfl rfl ?_
    refine an_top (e' := nI (n)) ((hX.2.1.choose_spec.choose_spec.1).1) ?_
    refine an_icmp_ge 77 d4_12 (by decide) (by omega) (by omega) (fun c12 => ?_) (fun c12 => by omega)
    refine as_return d4_77 t4 ?_
    exact ⟨_, _, rfl, rfl, hX.1, hX.last⟩
theorem mc_clashes10 (X : am_X) (S : MS) (n : Nat) (J : LRel) (hn : n ≤ 18) (hS : GS S 10 n J) (m g : Nat) (hm : m < n) (hf : fs J m = true) (hg : cnt (fs J) m = g) : MC X 5 [.ref (10), .int (nI (g))] S (some (.int (S.2.1 13 m))) S := by
  have hgl := cnt_le (fs J) m
  refine MC.of (Nat.le_of_ble_eq_true rfl) ?_
  refine as_aload_n d5_0 rfl ?_
  refine ap_get d5_1 f5_16 (by decide) rfl rfl ?_
  refine as_aload_n d5_4 rfl ?_
  refine ap_get d5_5 f5_23 (by decide) rfl rfl ?_
  refine as_iload_n d5_8 rfl ?_
  refine ap_iald d5_9 (fun _ _ _ _ => rfl) (by decide) (by omega) (by decide) ?_
  refine an_top (e' := nI (m)) (by rw [← hg]; exact (hS.2.2 m hm hf).1) ?_
  refine ap_zald d5_10 (fun _ _ _ _ => rfl) (by decide) (by omega) (by decide) ?_
  refine as_ireturn d5_11 (by rw [t5]; rcases (hS.2.2 m hm hf).2 with q | q <;> rw [show S.2.1 13 m = _ from q.1] <;> rfl) ?_
  rfl
theorem mc_anyClashes10 (X : am_X) (S : MS) (n : Nat) (J : LRel) (hn : n ≤ 18) (hS : GS S 10 n J) (a : Nat) (ha : (a = 1 ∧ ∃ m, m < n ∧ fs J m = true ∧ Tws J m) ∨ (a = 0 ∧ ∀ m, m < n → fs J m = true → ¬ Tws J m)) : MC X 6 [.ref (10)] S (some (.int (nI a))) S := by
  refine MC.of (Nat.le_of_ble_eq_true rfl) ?_
  have hcl := cnt_le (fs J) n
  refine an_iconst 0 d6_0 rfl ?_
  refine as_istore_n d6_1 (by decide) ?_
  refine AW.loc [(0, .ref (10)), (1, .int (nI (0)))] (am_pick [1, 0] rfl rfl) ?_
  refine aw_fromI (fun i => ((2, [(0, .ref (10)), (1, .int (nI (i)))], [], 208, HP (S), 0, 0) : am_Z)) (fun i => ∀ m, m < n → fs J m = true → cnt (fs J) m < i → ¬ Tws J m) (0) (cnt (fs J) n) (by omega) (rfl) (fun m _ _ h => by omega) (fun i hi0 hi hI ih => ?_) (fun hX => ?_)
  · obtain ⟨m, m1, m2, m3⟩ := cnt_find n i hi
    refine as_iload_n d6_2 rfl ?_
    refine as_aload_n d6_3 rfl ?_
    refine ap_get d6_4 f6_43 (by decide) rfl rfl ?_
    refine an_top (e' := nI (cnt (fs J) n)) (hS.1) ?_
    refine an_icmp_ge 26 d6_7 (by decide) (by omega) (by omega) (fun c7 => by omega) (fun c7 => ?_)
    refine as_aload_n d6_10 rfl ?_
    refine as_iload_n d6_11 rfl ?_
    refine ac_v1 d6_12 c6_46 (by decide) rfl (Nat.le_of_ble_eq_true rfl) (mc_clashes10 X _ n J hn hS m i m1 m2 m3) ?_
    refine as_if_eq 20 d6_15 (by decide) (fun c15 => ?_) (fun c15 => ?_)
    · have hnt : ¬ Tws J m := by
        rcases (hS.2.2 m m1 m2).2 with q | q
        · rw [show S.2.1 13 m = _ from q.1] at c15
          cases c15
        · exact q.2
      refine an_iinc 1 d6_20 rfl rfl (by decide) ?_
      refine as_goto 2 d6_23 (by decide) ?_
      refine AW.loc [(0, .ref (10)), (1, .int (nI (i + 1)))] (am_pick [1, 0] rfl rfl) ?_
      have ih := ih (fun m' w1 w2 w3 => by
        by_cases e : m' = m
        · rw [e]; exact hnt
        · refine hI m' w1 w2 ?_
          rcases Nat.lt_or_gt_of_ne e with q | q
          · have q1 := cnt_mono (fs J) (show m' + 1 ≤ m by omega)
            rw [cnt_t w2] at q1
            omega
          · have q1 := cnt_mono (fs J) (show m + 1 ≤ m' by omega)
            rw [cnt_t m2] at q1
            omega)
      exact ih
    · have hnt : Tws J m := by
        rcases (hS.2.2 m m1 m2).2 with q | q
        · exact q.2
        · exact absurd q.1 c15
      refine an_iconst 1 d6_18 rfl ?_
      refine as_ireturn d6_19 (by rw [t6]; rfl) ?_
      refine am_req (congrArg nI ?_)
      rcases ha with ⟨e, h⟩ | ⟨e, h⟩
      · first | exact e.symm | (obtain ⟨m, w1, w2, w3⟩ := h; have q1 := cnt_mono (fs J) (show m + 1 ≤ n by omega); rw [cnt_t w2] at q1; exact absurd w3 (hX m w1 w2 (by omega)))
      · first | exact e.symm | exact absurd hnt (h m m1 m2)
  · refine as_iload_n d6_2 rfl ?_
    refine as_aload_n d6_3 rfl ?_
    refine ap_get d6_4 f6_43 (by decide) rfl rfl ?_
    refine an_top (e' := nI (cnt (fs J) n)) (hS.1) ?_
    refine an_icmp_ge 26 d6_7 (by decide) (by omega) (by omega) (fun c7 => ?_) (fun c7 => by omega)
    refine an_iconst 0 d6_26 rfl ?_
    refine as_ireturn d6_27 (by rw [t6]; rfl) ?_
    refine am_req (congrArg nI ?_)
    rcases ha with ⟨e, h⟩ | ⟨e, h⟩
    · first | exact e.symm | (obtain ⟨m, w1, w2, w3⟩ := h; have q1 := cnt_mono (fs J) (show m + 1 ≤ n by omega); rw [cnt_t w2] at q1; exact absurd w3 (hX m w1 w2 (by omega)))
    · first | exact e.symm | exact absurd hnt (h m m1 m2)
theorem mx_settle16 (X : am_X) (S : MS) (n : Nat) (J : LRel) (pa un cl rt ph : Nat → Nat) (hn : n ≤ 3) (hU : UM S 16 n pa un cl) (hp : UP n J pa un cl rt ph) : ∃ T, MC X 4 [.ref (16)] S none T ∧ sKeep 16 S T ∧ GS T 16 n J := by
  have key := MX.mc (X := X) (mj := 4) (as := [.ref (16)]) (S := S) (Post := fun v T => v = none ∧ sKeep 16 S T ∧ GS T 16 n J) ?_
  · obtain ⟨v, T, g1, g2, g3⟩ := key
    subst g2
    exact ⟨T, g1, g3⟩
  refine MX.of (Nat.le_of_ble_eq_true rfl) ?_
  refine as_aload_n d4_0 rfl ?_
  refine an_iconst 0 d4_1 rfl ?_
  refine ap_put d4_2 f4_43 (by decide) rfl (Nat.le_of_ble_eq_true rfl) (rfl) rfl rfl ?_
  refine an_iconst 0 d4_5 rfl ?_
  refine as_istore_n d4_6 (by decide) ?_
  refine AW.loc [(0, .ref (16)), (1, .int (nI (0)))] (am_pick [1, 0] rfl rfl) ?_
  refine aw_fromE (fun i T => ((7, [(0, .ref (16)), (1, .int (nI (i)))], [], 208, HP (T), 0, 0) : am_Z)) (fun i T => ST S T 16 n (i) J cl rt ph) (0) (n) (by omega) ((S).sf 16 6 (nI (0))) (rfl) (⟨(sKeep.rf 16 S).sf (by omega) _, ⟨pa, un, hU.keep (by rw [sf_at, if_neg (by omega)]) rfl rfl rfl, hp⟩, by rw [sf_at, if_pos ⟨rfl, rfl⟩]; rfl, fun j hj => by omega, fun j hj => by omega⟩) (fun i T hi0 hi hI ih => ?_) (fun T hX => ?_)
  · obtain ⟨i1, ⟨pa1, un1, i2, i3⟩, i4, i5, i6⟩ := hI
    have m1 := mc_rootOf16 X T n J pa1 un1 cl rt ph hn i2 i3 i hi
    have u1 := i2.hang (rt := rt) (ph := ph) i
    have p1 := i3.hang hi
    have hrl := (i3.1 i hi).2.2.2.1
    have hcl := cnt_le (fs J) i
    have hg := up_gno i3 hi
    refine as_iload_n d4_7 rfl ?_
    refine as_aload_n d4_8 rfl ?_
    refine ap_get d4_9 f4_32 (by decide) rfl rfl ?_
    refine an_top (e' := nI (n)) (i2.1) ?_
    refine an_icmp_ge 77 d4_12 (by decide) (by omega) (by omega) (fun c12 => by omega) (fun c12 => ?_)
    refine as_aload_n d4_15 rfl ?_
    refine as_iload_n d4_16 rfl ?_
    refine ac_v1 d4_17 c4_36 (by decide) rfl (Nat.le_of_ble_eq_true rfl) (m1) ?_
    refine as_istore_n d4_20 (by decide) ?_
    refine as_iload_n d4_21 rfl ?_
    refine as_iload_n d4_22 rfl ?_
    refine an_icmp_ne 59 d4_23 (by decide) (by omega) (by omega) (fun c23 => ?_) (fun c23 => ?_)
    · have hf : ¬ fs J i = true := fun g => c23 ((i3.fst hi).mp g)
      have hrr : rt i < i := by omega
      have hgr : gno J (rt i) = gno J i := by rw [up_gno i3 (show rt i < n by omega), (i3.1 i hi).2.2.2.2.2.2.1, hg]
      refine as_aload_n d4_59 rfl ?_
      refine ap_get d4_60 f4_20 (by decide) rfl rfl ?_
      refine as_iload_n d4_63 rfl ?_
      refine as_aload_n d4_64 rfl ?_
      refine ap_get d4_65 f4_20 (by decide) rfl rfl ?_
      refine as_iload_n d4_68 rfl ?_
      refine ap_iald d4_69 (fun _ _ _ _ => rfl) (by decide) (by omega) (by decide) ?_
      refine an_top (e' := nI (gno J i)) (by rw [sa_row _ _ _ _ (by decide), sa_row _ _ _ _ (by decide), ← hgr]; exact i5 (rt i) hrr) ?_
      refine ap_iast d4_70 (fun _ _ _ _ => rfl) (by decide) (by omega) (by decide) ?_
      refine an_iinc 1 d4_71 rfl rfl (by decide) ?_
      refine as_goto 7 d4_74 (by decide) ?_
      refine AW.loc [(0, .ref (16)), (1, .int (nI (i + 1)))] (am_pick [2, 0] rfl rfl) ?_
      have ih := ih (((T.sa 17 i (nI (rt i))).sa 18 i (nI (ph i))).sa 20 (i) (nI (gno J i))) (by
        first
        | (refine ⟨((((i1.sa (by omega) _ _).sa (by omega) _ _).sa (by omega) _ _).sa (by omega) _ _).sf (by omega) _, ⟨_, _, u1.keep (by rw [sf_at, if_neg (by omega)]) rfl rfl rfl, p1⟩, by rw [sf_at, if_pos ⟨rfl, rfl⟩, cnt_t hf], fun j hj => ?_, fun j hj hfj => ?_⟩
           · rw [sf_snd, sa_at, sa_row _ _ _ _ (by decide), sa_row _ _ _ _ (by decide), sa_row _ _ _ _ (by decide)]
             by_cases e : j = i
             · rw [if_pos e, e, hgi]
             · rw [if_neg e]; exact i5 j (by omega)
           · rw [sf_snd, sa_row _ _ _ _ (by decide), sa_at, sa_row _ _ _ _ (by decide), sa_row _ _ _ _ (by decide)]
             by_cases e : j = i
             · rw [if_pos (by rw [e]), e]
             · have q1 := cnt_mono (fs J) (show j + 1 ≤ i by omega)
               rw [cnt_t hfj] at q1
               rw [if_neg (by omega)]; exact i6 j (by omega) hfj)
        | (refine ⟨((i1.sa (by omega) _ _).sa (by omega) _ _).sa (by omega) _ _, ⟨_, _, u1.keep rfl rfl rfl rfl, p1⟩, by rw [cnt_f hf]; exact i4, fun j hj => ?_, fun j hj hfj => ?_⟩
           · rw [sa_at, sa_row _ _ _ _ (by decide), sa_row _ _ _ _ (by decide)]
             by_cases e : j = i
             · rw [if_pos e, e]
             · rw [if_neg e]; exact i5 j (by omega)
           · rw [sa_row _ _ _ _ (by decide), sa_row _ _ _ _ (by decide), sa_row _ _ _ _ (by decide)]
             have e : j ≠ i := fun e => hf (e ▸ hfj)
             exact i6 j (by omega) hfj))
      exact ih
    · have hf : fs J i = true := (i3.fst hi).mpr c23
      have hgi := gno_fst hf
      refine as_aload_n d4_26 rfl ?_
      refine ap_get d4_27 f4_23 (by decide) rfl rfl ?_
      refine as_aload_n d4_30 rfl ?_
      refine ap_get d4_31 f4_43 (by decide) rfl rfl ?_
      refine an_top (e' := nI (cnt (fs J) i)) (i4) ?_
      refine as_iload_n d4_34 rfl ?_
      refine ap_iast d4_35 (fun _ _ _ _ => rfl) (by decide) (by omega) (by decide) ?_
      refine as_aload_n d4_36 rfl ?_
      refine ap_get d4_37 f4_20 (by decide) rfl rfl ?_
      refine as_iload_n d4_40 rfl ?_
      refine as_aload_n d4_41 rfl ?_
      refine ap_get d4_42 f4_43 (by decide) rfl rfl ?_
      refine an_top (e' := nI (cnt (fs J) i)) (i4) ?_
      refine ap_iast d4_45 (fun _ _ _ _ => rfl) (by decide) (by omega) (by decide) ?_
      refine as_aload_n d4_46 rfl ?_
      refine as_dup d4_47 rfl ?_
      refine ap_get d4_48 f4_43 (by decide) rfl rfl ?_
      refine an_top (e' := nI (cnt (fs J) i)) (i4) ?_
      refine an_iconst 1 d4_51 rfl ?_
      refine an_iadd d4_52 ?_
      refine ap_put d4_53 f4_43 (by decide) rfl (Nat.le_of_ble_eq_true rfl) (rfl) rfl rfl ?_
      refine as_goto 71 d4_56 (by decide) ?_
      refine an_iinc 1 d4_71 rfl rfl (by decide) ?_
      refine as_goto 7 d4_74 (by decide) ?_
      refine AW.loc [(0, .ref (16)), (1, .int (nI (i + 1)))] (am_pick [2, 0] rfl rfl) ?_
      have ih := ih (((((T.sa 17 i (nI (rt i))).sa 18 i (nI (ph i))).sa 21 (cnt (fs J) i) (nI (i))).sa 20 (i) (nI (cnt (fs J) i))).sf 16 6 (nI ((cnt (fs J) i) + (1)))) (by
        first
        | (refine ⟨((((i1.sa (by omega) _ _).sa (by omega) _ _).sa (by omega) _ _).sa (by omega) _ _).sf (by omega) _, ⟨_, _, u1.keep (by rw [sf_at, if_neg (by omega)]) rfl rfl rfl, p1⟩, by rw [sf_at, if_pos ⟨rfl, rfl⟩, cnt_t hf], fun j hj => ?_, fun j hj hfj => ?_⟩
           · rw [sf_snd, sa_at, sa_row _ _ _ _ (by decide), sa_row _ _ _ _ (by decide), sa_row _ _ _ _ (by decide)]
             by_cases e : j = i
             · rw [if_pos e, e, hgi]
             · rw [if_neg e]; exact i5 j (by omega)
           · rw [sf_snd, sa_row _ _ _ _ (by decide), sa_at, sa_row _ _ _ _ (by decide), sa_row _ _ _ _ (by decide)]
             by_cases e : j = i
             · rw [if_pos (by rw [e]), e]
             · have q1 := cnt_mono (fs J) (show j + 1 ≤ i by omega)
               rw [cnt_t hfj] at q1
               rw [if_neg (by omega)]; exact i6 j (by omega) hfj)
        | (refine ⟨((i1.sa (by omega) _ _).sa (by omega) _ _).sa (by omega) _ _, ⟨_, _, u1.keep rfl rfl rfl rfl, p1⟩, by rw [cnt_f hf]; exact i4, fun j hj => ?_, fun j hj hfj => ?_⟩
           · rw [sa_at, sa_row _ _ _ _ (by decide), sa_row _ _ _ _ (by decide)]
             by_cases e : j = i
             · rw [if_pos e, e]
             · rw [if_neg e]; exact i5 j (by omega)
           · rw [sa_row _ _ _ _ (by decide), sa_row _ _ _ _ (by decide), sa_row _ _ _ _ (by decide)]
             have e : j ≠ i := fun e => hf (e ▸ hfj)
             exact i6 j (by omega) hfj))
      exact ih
  · refine as_iload_n d4_7 rfl ?_
    refine as_aload_n d4_8 rfl ?_
    refine ap_get d4_9 f4_32 (by decide) rfl rfl ?_
    refine an_top (e' := nI (n)) ((hX.2.1.choose_spec.choose_spec.1).1) ?_
    refine an_icmp_ge 77 d4_12 (by decide) (by omega) (by omega) (fun c12 => ?_) (fun c12 => by omega)
    refine as_return d4_77 t4 ?_
    exact ⟨_, _, rfl, rfl, hX.1, hX.last⟩
theorem mc_clashes16 (X : am_X) (S : MS) (n : Nat) (J : LRel) (hn : n ≤ 3) (hS : GS S 16 n J) (m g : Nat) (hm : m < n) (hf : fs J m = true) (hg : cnt (fs J) m = g) : MC X 5 [.ref (16), .int (nI (g))] S (some (.int (S.2.1 19 m))) S := by
  have hgl := cnt_le (fs J) m
  refine MC.of (Nat.le_of_ble_eq_true rfl) ?_
  refine as_aload_n d5_0 rfl ?_
  refine ap_get d5_1 f5_16 (by decide) rfl rfl ?_
  refine as_aload_n d5_4 rfl ?_
  refine ap_get d5_5 f5_23 (by decide) rfl rfl ?_
  refine as_iload_n d5_8 rfl ?_
  refine ap_iald d5_9 (fun _ _ _ _ => rfl) (by decide) (by omega) (by decide) ?_
  refine an_top (e' := nI (m)) (by rw [← hg]; exact (hS.2.2 m hm hf).1) ?_
  refine ap_zald d5_10 (fun _ _ _ _ => rfl) (by decide) (by omega) (by decide) ?_
  refine as_ireturn d5_11 (by rw [t5]; rcases (hS.2.2 m hm hf).2 with q | q <;> rw [show S.2.1 19 m = _ from q.1] <;> rfl) ?_
  rfl
theorem mc_anyClashes16 (X : am_X) (S : MS) (n : Nat) (J : LRel) (hn : n ≤ 3) (hS : GS S 16 n J) (a : Nat) (ha : (a = 1 ∧ ∃ m, m < n ∧ fs J m = true ∧ Tws J m) ∨ (a = 0 ∧ ∀ m, m < n → fs J m = true → ¬ Tws J m)) : MC X 6 [.ref (16)] S (some (.int (nI a))) S := by
  refine MC.of (Nat.le_of_ble_eq_true rfl) ?_
  have hcl := cnt_le (fs J) n
  refine an_iconst 0 d6_0 rfl ?_
  refine as_istore_n d6_1 (by decide) ?_
  refine AW.loc [(0, .ref (16)), (1, .int (nI (0)))] (am_pick [1, 0] rfl rfl) ?_
  refine aw_fromI (fun i => ((2, [(0, .ref (16)), (1, .int (nI (i)))], [], 208, HP (S), 0, 0) : am_Z)) (fun i => ∀ m, m < n → fs J m = true → cnt (fs J) m < i → ¬ Tws J m) (0) (cnt (fs J) n) (by omega) (rfl) (fun m _ _ h => by omega) (fun i hi0 hi hI ih => ?_) (fun hX => ?_)
  · obtain ⟨m, m1, m2, m3⟩ := cnt_find n i hi
    refine as_iload_n d6_2 rfl ?_
    refine as_aload_n d6_3 rfl ?_
    refine ap_get d6_4 f6_43 (by decide) rfl rfl ?_
    refine an_top (e' := nI (cnt (fs J) n)) (hS.1) ?_
    refine an_icmp_ge 26 d6_7 (by decide) (by omega) (by omega) (fun c7 => by omega) (fun c7 => ?_)
    refine as_aload_n d6_10 rfl ?_
    refine as_iload_n d6_11 rfl ?_
    refine ac_v1 d6_12 c6_46 (by decide) rfl (Nat.le_of_ble_eq_true rfl) (mc_clashes16 X _ n J hn hS m i m1 m2 m3) ?_
    refine as_if_eq 20 d6_15 (by decide) (fun c15 => ?_) (fun c15 => ?_)
    · have hnt : ¬ Tws J m := by
        rcases (hS.2.2 m m1 m2).2 with q | q
        · rw [show S.2.1 19 m = _ from q.1] at c15
          cases c15
        · exact q.2
      refine an_iinc 1 d6_20 rfl rfl (by decide) ?_
      refine as_goto 2 d6_23 (by decide) ?_
      refine AW.loc [(0, .ref (16)), (1, .int (nI (i + 1)))] (am_pick [1, 0] rfl rfl) ?_
      have ih := ih (fun m' w1 w2 w3 => by
        by_cases e : m' = m
        · rw [e]; exact hnt
        · refine hI m' w1 w2 ?_
          rcases Nat.lt_or_gt_of_ne e with q | q
          · have q1 := cnt_mono (fs J) (show m' + 1 ≤ m by omega)
            rw [cnt_t w2] at q1
            omega
          · have q1 := cnt_mono (fs J) (show m + 1 ≤ m' by omega)
            rw [cnt_t m2] at q1
            omega)
      exact ih
    · have hnt : Tws J m := by
        rcases (hS.2.2 m m1 m2).2 with q | q
        · exact q.2
        · exact absurd q.1 c15
      refine an_iconst 1 d6_18 rfl ?_
      refine as_ireturn d6_19 (by rw [t6]; rfl) ?_
      refine am_req (congrArg nI ?_)
      rcases ha with ⟨e, h⟩ | ⟨e, h⟩
      · first | exact e.symm | (obtain ⟨m, w1, w2, w3⟩ := h; have q1 := cnt_mono (fs J) (show m + 1 ≤ n by omega); rw [cnt_t w2] at q1; exact absurd w3 (hX m w1 w2 (by omega)))
      · first | exact e.symm | exact absurd hnt (h m m1 m2)
  · refine as_iload_n d6_2 rfl ?_
    refine as_aload_n d6_3 rfl ?_
    refine ap_get d6_4 f6_43 (by decide) rfl rfl ?_
    refine an_top (e' := nI (cnt (fs J) n)) (hS.1) ?_
    refine an_icmp_ge 26 d6_7 (by decide) (by omega) (by omega) (fun c7 => ?_) (fun c7 => by omega)
    refine an_iconst 0 d6_26 rfl ?_
    refine as_ireturn d6_27 (by rw [t6]; rfl) ?_
    refine am_req (congrArg nI ?_)
    rcases ha with ⟨e, h⟩ | ⟨e, h⟩
    · first | exact e.symm | (obtain ⟨m, w1, w2, w3⟩ := h; have q1 := cnt_mono (fs J) (show m + 1 ≤ n by omega); rw [cnt_t w2] at q1; exact absurd w3 (hX m w1 w2 (by omega)))
    · first | exact e.symm | exact absurd hnt (h m m1 m2)
theorem mx_settle180 (X : am_X) (S : MS) (n : Nat) (J : LRel) (pa un cl rt ph : Nat → Nat) (hn : n ≤ 400) (hU : UM S 180 n pa un cl) (hp : UP n J pa un cl rt ph) : ∃ T, MC X 4 [.ref (180)] S none T ∧ sKeep 180 S T ∧ GS T 180 n J := by
  have key := MX.mc (X := X) (mj := 4) (as := [.ref (180)]) (S := S) (Post := fun v T => v = none ∧ sKeep 180 S T ∧ GS T 180 n J) ?_
  · obtain ⟨v, T, g1, g2, g3⟩ := key
    subst g2
    exact ⟨T, g1, g3⟩
  refine MX.of (Nat.le_of_ble_eq_true rfl) ?_
  refine as_aload_n d4_0 rfl ?_
  refine an_iconst 0 d4_1 rfl ?_
  refine ap_put d4_2 f4_43 (by decide) rfl (Nat.le_of_ble_eq_true rfl) (rfl) rfl rfl ?_
  refine an_iconst 0 d4_5 rfl ?_
  refine as_istore_n d4_6 (by decide) ?_
  refine AW.loc [(0, .ref (180)), (1, .int (nI (0)))] (am_pick [1, 0] rfl rfl) ?_
  refine aw_fromE (fun i T => ((7, [(0, .ref (180)), (1, .int (nI (i)))], [], 208, HP (T), 0, 0) : am_Z)) (fun i T => ST S T 180 n (i) J cl rt ph) (0) (n) (by omega) ((S).sf 180 6 (nI (0))) (rfl) (⟨(sKeep.rf 180 S).sf (by omega) _, ⟨pa, un, hU.keep (by rw [sf_at, if_neg (by omega)]) rfl rfl rfl, hp⟩, by rw [sf_at, if_pos ⟨rfl, rfl⟩]; rfl, fun j hj => by omega, fun j hj => by omega⟩) (fun i T hi0 hi hI ih => ?_) (fun T hX => ?_)
  · obtain ⟨i1, ⟨pa1, un1, i2, i3⟩, i4, i5, i6⟩ := hI
    have m1 := mc_rootOf180 X T n J pa1 un1 cl rt ph hn i2 i3 i hi
    have u1 := i2.hang (rt := rt) (ph := ph) i
    have p1 := i3.hang hi
    have hrl := (i3.1 i hi).2.2.2.1
    have hcl := cnt_le (fs J) i
    have hg := up_gno i3 hi
    refine as_iload_n d4_7 rfl ?_
    refine as_aload_n d4_8 rfl ?_
    refine ap_get d4_9 f4_32 (by decide) rfl rfl ?_
    refine an_top (e' := nI (n)) (i2.1) ?_
    refine an_icmp_ge 77 d4_12 (by decide) (by omega) (by omega) (fun c12 => by omega) (fun c12 => ?_)
    refine as_aload_n d4_15 rfl ?_
    refine as_iload_n d4_16 rfl ?_
    refine ac_v1 d4_17 c4_36 (by decide) rfl (Nat.le_of_ble_eq_true rfl) (m1) ?_
    refine as_istore_n d4_20 (by decide) ?_
    refine as_iload_n d4_21 rfl ?_
    refine as_iload_n d4_22 rfl ?_
    refine an_icmp_ne 59 d4_23 (by decide) (by omega) (by omega) (fun c23 => ?_) (fun c23 => ?_)
    · have hf : ¬ fs J i = true := fun g => c23 ((i3.fst hi).mp g)
      have hrr : rt i < i := by omega
      have hgr : gno J (rt i) = gno J i := by rw [up_gno i3 (show rt i < n by omega), (i3.1 i hi).2.2.2.2.2.2.1, hg]
      refine as_aload_n d4_59 rfl ?_
      refine ap_get d4_60 f4_20 (by decide) rfl rfl ?_
      refine as_iload_n d4_63 rfl ?_
      refine as_aload_n d4_64 rfl ?_
      refine ap_get d4_65 f4_20 (by decide) rfl rfl ?_
      refine as_iload_n d4_68 rfl ?_
      refine ap_iald d4_69 (fun _ _ _ _ => rfl) (by decide) (by omega) (by decide) ?_
      refine an_top (e' := nI (gno J i)) (by rw [sa_row _ _ _ _ (by decide), sa_row _ _ _ _ (by decide), ← hgr]; exact i5 (rt i) hrr) ?_
      refine ap_iast d4_70 (fun _ _ _ _ => rfl) (by decide) (by omega) (by decide) ?_
      refine an_iinc 1 d4_71 rfl rfl (by decide) ?_
      refine as_goto 7 d4_74 (by decide) ?_
      refine AW.loc [(0, .ref (180)), (1, .int (nI (i + 1)))] (am_pick [2, 0] rfl rfl) ?_
      have ih := ih (((T.sa 181 i (nI (rt i))).sa 182 i (nI (ph i))).sa 184 (i) (nI (gno J i))) (by
        first
        | (refine ⟨((((i1.sa (by omega) _ _).sa (by omega) _ _).sa (by omega) _ _).sa (by omega) _ _).sf (by omega) _, ⟨_, _, u1.keep (by rw [sf_at, if_neg (by omega)]) rfl rfl rfl, p1⟩, by rw [sf_at, if_pos ⟨rfl, rfl⟩, cnt_t hf], fun j hj => ?_, fun j hj hfj => ?_⟩
           · rw [sf_snd, sa_at, sa_row _ _ _ _ (by decide), sa_row _ _ _ _ (by decide), sa_row _ _ _ _ (by decide)]
             by_cases e : j = i
             · rw [if_pos e, e, hgi]
             · rw [if_neg e]; exact i5 j (by omega)
           · rw [sf_snd, sa_row _ _ _ _ (by decide), sa_at, sa_row _ _ _ _ (by decide), sa_row _ _ _ _ (by decide)]
             by_cases e : j = i
             · rw [if_pos (by rw [e]), e]
             · have q1 := cnt_mono (fs J) (show j + 1 ≤ i by omega)
               rw [cnt_t hfj] at q1
               rw [if_neg (by omega)]; exact i6 j (by omega) hfj)
        | (refine ⟨((i1.sa (by omega) _ _).sa (by omega) _ _).sa (by omega) _ _, ⟨_, _, u1.keep rfl rfl rfl rfl, p1⟩, by rw [cnt_f hf]; exact i4, fun j hj => ?_, fun j hj hfj => ?_⟩
           · rw [sa_at, sa_row _ _ _ _ (by decide), sa_row _ _ _ _ (by decide)]
             by_cases e : j = i
             · rw [if_pos e, e]
             · rw [if_neg e]; exact i5 j (by omega)
           · rw [sa_row _ _ _ _ (by decide), sa_row _ _ _ _ (by decide), sa_row _ _ _ _ (by decide)]
             have e : j ≠ i := fun e => hf (e ▸ hfj)
             exact i6 j (by omega) hfj))
      exact ih
    · have hf : fs J i = true := (i3.fst hi).mpr c23
      have hgi := gno_fst hf
      refine as_aload_n d4_26 rfl ?_
      refine ap_get d4_27 f4_23 (by decide) rfl rfl ?_
      refine as_aload_n d4_30 rfl ?_
      refine ap_get d4_31 f4_43 (by decide) rfl rfl ?_
      refine an_top (e' := nI (cnt (fs J) i)) (i4) ?_
      refine as_iload_n d4_34 rfl ?_
      refine ap_iast d4_35 (fun _ _ _ _ => rfl) (by decide) (by omega) (by decide) ?_
      refine as_aload_n d4_36 rfl ?_
      refine ap_get d4_37 f4_20 (by decide) rfl rfl ?_
      refine as_iload_n d4_40 rfl ?_
      refine as_aload_n d4_41 rfl ?_
      refine ap_get d4_42 f4_43 (by decide) rfl rfl ?_
      refine an_top (e' := nI (cnt (fs J) i)) (i4) ?_
      refine ap_iast d4_45 (fun _ _ _ _ => rfl) (by decide) (by omega) (by decide) ?_
      refine as_aload_n d4_46 rfl ?_
      refine as_dup d4_47 rfl ?_
      refine ap_get d4_48 f4_43 (by decide) rfl rfl ?_
      refine an_top (e' := nI (cnt (fs J) i)) (i4) ?_
      refine an_iconst 1 d4_51 rfl ?_
      refine an_iadd d4_52 ?_
      refine ap_put d4_53 f4_43 (by decide) rfl (Nat.le_of_ble_eq_true rfl) (rfl) rfl rfl ?_
      refine as_goto 71 d4_56 (by decide) ?_
      refine an_iinc 1 d4_71 rfl rfl (by decide) ?_
      refine as_goto 7 d4_74 (by decide) ?_
      refine AW.loc [(0, .ref (180)), (1, .int (nI (i + 1)))] (am_pick [2, 0] rfl rfl) ?_
      have ih := ih (((((T.sa 181 i (nI (rt i))).sa 182 i (nI (ph i))).sa 185 (cnt (fs J) i) (nI (i))).sa 184 (i) (nI (cnt (fs J) i))).sf 180 6 (nI ((cnt (fs J) i) + (1)))) (by
        first
        | (refine ⟨((((i1.sa (by omega) _ _).sa (by omega) _ _).sa (by omega) _ _).sa (by omega) _ _).sf (by omega) _, ⟨_, _, u1.keep (by rw [sf_at, if_neg (by omega)]) rfl rfl rfl, p1⟩, by rw [sf_at, if_pos ⟨rfl, rfl⟩, cnt_t hf], fun j hj => ?_, fun j hj hfj => ?_⟩
           · rw [sf_snd, sa_at, sa_row _ _ _ _ (by decide), sa_row _ _ _ _ (by decide), sa_row _ _ _ _ (by decide)]
             by_cases e : j = i
             · rw [if_pos e, e, hgi]
             · rw [if_neg e]; exact i5 j (by omega)
           · rw [sf_snd, sa_row _ _ _ _ (by decide), sa_at, sa_row _ _ _ _ (by decide), sa_row _ _ _ _ (by decide)]
             by_cases e : j = i
             · rw [if_pos (by rw [e]), e]
             · have q1 := cnt_mono (fs J) (show j + 1 ≤ i by omega)
               rw [cnt_t hfj] at q1
               rw [if_neg (by omega)]; exact i6 j (by omega) hfj)
        | (refine ⟨((i1.sa (by omega) _ _).sa (by omega) _ _).sa (by omega) _ _, ⟨_, _, u1.keep rfl rfl rfl rfl, p1⟩, by rw [cnt_f hf]; exact i4, fun j hj => ?_, fun j hj hfj => ?_⟩
           · rw [sa_at, sa_row _ _ _ _ (by decide), sa_row _ _ _ _ (by decide)]
             by_cases e : j = i
             · rw [if_pos e, e]
             · rw [if_neg e]; exact i5 j (by omega)
           · rw [sa_row _ _ _ _ (by decide), sa_row _ _ _ _ (by decide), sa_row _ _ _ _ (by decide)]
             have e : j ≠ i := fun e => hf (e ▸ hfj)
             exact i6 j (by omega) hfj))
      exact ih
  · refine as_iload_n d4_7 rfl ?_
    refine as_aload_n d4_8 rfl ?_
    refine ap_get d4_9 f4_32 (by decide) rfl rfl ?_
    refine an_top (e' := nI (n)) ((hX.2.1.choose_spec.choose_spec.1).1) ?_
    refine an_icmp_ge 77 d4_12 (by decide) (by omega) (by omega) (fun c12 => ?_) (fun c12 => by omega)
    refine as_return d4_77 t4 ?_
    exact ⟨_, _, rfl, rfl, hX.1, hX.last⟩
theorem mc_clashes180 (X : am_X) (S : MS) (n : Nat) (J : LRel) (hn : n ≤ 400) (hS : GS S 180 n J) (m g : Nat) (hm : m < n) (hf : fs J m = true) (hg : cnt (fs J) m = g) : MC X 5 [.ref (180), .int (nI (g))] S (some (.int (S.2.1 183 m))) S := by
  have hgl := cnt_le (fs J) m
  refine MC.of (Nat.le_of_ble_eq_true rfl) ?_
  refine as_aload_n d5_0 rfl ?_
  refine ap_get d5_1 f5_16 (by decide) rfl rfl ?_
  refine as_aload_n d5_4 rfl ?_
  refine ap_get d5_5 f5_23 (by decide) rfl rfl ?_
  refine as_iload_n d5_8 rfl ?_
  refine ap_iald d5_9 (fun _ _ _ _ => rfl) (by decide) (by omega) (by decide) ?_
  refine an_top (e' := nI (m)) (by rw [← hg]; exact (hS.2.2 m hm hf).1) ?_
  refine ap_zald d5_10 (fun _ _ _ _ => rfl) (by decide) (by omega) (by decide) ?_
  refine as_ireturn d5_11 (by rw [t5]; rcases (hS.2.2 m hm hf).2 with q | q <;> rw [show S.2.1 183 m = _ from q.1] <;> rfl) ?_
  rfl
theorem mc_anyClashes180 (X : am_X) (S : MS) (n : Nat) (J : LRel) (hn : n ≤ 400) (hS : GS S 180 n J) (a : Nat) (ha : (a = 1 ∧ ∃ m, m < n ∧ fs J m = true ∧ Tws J m) ∨ (a = 0 ∧ ∀ m, m < n → fs J m = true → ¬ Tws J m)) : MC X 6 [.ref (180)] S (some (.int (nI a))) S := by
  refine MC.of (Nat.le_of_ble_eq_true rfl) ?_
  have hcl := cnt_le (fs J) n
  refine an_iconst 0 d6_0 rfl ?_
  refine as_istore_n d6_1 (by decide) ?_
  refine AW.loc [(0, .ref (180)), (1, .int (nI (0)))] (am_pick [1, 0] rfl rfl) ?_
  refine aw_fromI (fun i => ((2, [(0, .ref (180)), (1, .int (nI (i)))], [], 208, HP (S), 0, 0) : am_Z)) (fun i => ∀ m, m < n → fs J m = true → cnt (fs J) m < i → ¬ Tws J m) (0) (cnt (fs J) n) (by omega) (rfl) (fun m _ _ h => by omega) (fun i hi0 hi hI ih => ?_) (fun hX => ?_)
  · obtain ⟨m, m1, m2, m3⟩ := cnt_find n i hi
    refine as_iload_n d6_2 rfl ?_
    refine as_aload_n d6_3 rfl ?_
    refine ap_get d6_4 f6_43 (by decide) rfl rfl ?_
    refine an_top (e' := nI (cnt (fs J) n)) (hS.1) ?_
    refine an_icmp_ge 26 d6_7 (by decide) (by omega) (by omega) (fun c7 => by omega) (fun c7 => ?_)
    refine as_aload_n d6_10 rfl ?_
    refine as_iload_n d6_11 rfl ?_
    refine ac_v1 d6_12 c6_46 (by decide) rfl (Nat.le_of_ble_eq_true rfl) (mc_clashes180 X _ n J hn hS m i m1 m2 m3) ?_
    refine as_if_eq 20 d6_15 (by decide) (fun c15 => ?_) (fun c15 => ?_)
    · have hnt : ¬ Tws J m := by
        rcases (hS.2.2 m m1 m2).2 with q | q
        · rw [show S.2.1 183 m = _ from q.1] at c15
          cases c15
        · exact q.2
      refine an_iinc 1 d6_20 rfl rfl (by decide) ?_
      refine as_goto 2 d6_23 (by decide) ?_
      refine AW.loc [(0, .ref (180)), (1, .int (nI (i + 1)))] (am_pick [1, 0] rfl rfl) ?_
      have ih := ih (fun m' w1 w2 w3 => by
        by_cases e : m' = m
        · rw [e]; exact hnt
        · refine hI m' w1 w2 ?_
          rcases Nat.lt_or_gt_of_ne e with q | q
          · have q1 := cnt_mono (fs J) (show m' + 1 ≤ m by omega)
            rw [cnt_t w2] at q1
            omega
          · have q1 := cnt_mono (fs J) (show m + 1 ≤ m' by omega)
            rw [cnt_t m2] at q1
            omega)
      exact ih
    · have hnt : Tws J m := by
        rcases (hS.2.2 m m1 m2).2 with q | q
        · exact q.2
        · exact absurd q.1 c15
      refine an_iconst 1 d6_18 rfl ?_
      refine as_ireturn d6_19 (by rw [t6]; rfl) ?_
      refine am_req (congrArg nI ?_)
      rcases ha with ⟨e, h⟩ | ⟨e, h⟩
      · first | exact e.symm | (obtain ⟨m, w1, w2, w3⟩ := h; have q1 := cnt_mono (fs J) (show m + 1 ≤ n by omega); rw [cnt_t w2] at q1; exact absurd w3 (hX m w1 w2 (by omega)))
      · first | exact e.symm | exact absurd hnt (h m m1 m2)
  · refine as_iload_n d6_2 rfl ?_
    refine as_aload_n d6_3 rfl ?_
    refine ap_get d6_4 f6_43 (by decide) rfl rfl ?_
    refine an_top (e' := nI (cnt (fs J) n)) (hS.1) ?_
    refine an_icmp_ge 26 d6_7 (by decide) (by omega) (by omega) (fun c7 => ?_) (fun c7 => by omega)
    refine an_iconst 0 d6_26 rfl ?_
    refine as_ireturn d6_27 (by rw [t6]; rfl) ?_
    refine am_req (congrArg nI ?_)
    rcases ha with ⟨e, h⟩ | ⟨e, h⟩
    · first | exact e.symm | (obtain ⟨m, w1, w2, w3⟩ := h; have q1 := cnt_mono (fs J) (show m + 1 ≤ n by omega); rw [cnt_t w2] at q1; exact absurd w3 (hX m w1 w2 (by omega)))
    · first | exact e.symm | exact absurd hnt (h m m1 m2)
