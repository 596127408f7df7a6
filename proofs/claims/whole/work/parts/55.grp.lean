/-! the class: Groups -/
theorem nI_minI {a b : Nat} (ha : a < 2 ^ 31) (hb : b < 2 ^ 31) : (if nI b < nI a then nI b else nI a) = nI (if b < a then b else a) := by
  by_cases h : b < a
  · rw [if_pos h, if_pos ((nI_ltI hb ha).mpr h)]
  · rw [if_neg h, if_neg (fun g => h ((nI_ltI hb ha).mp g))]
theorem nI_maxI {a b : Nat} (ha : a < 2 ^ 31) (hb : b < 2 ^ 31) : (if nI a < nI b then nI b else nI a) = nI (if a < b then b else a) := by
  by_cases h : a < b
  · rw [if_pos h, if_pos ((nI_ltI ha hb).mpr h)]
  · rw [if_neg h, if_neg (fun g => h ((nI_ltI ha hb).mp g))]
def UM (S : MS) (B n : Nat) (pa un cl : Nat → Nat) : Prop := S.1 B 5 = nI n ∧ ∀ x, x < n → S.2.1 (B + 1) x = nI (pa x) ∧ S.2.1 (B + 2) x = nI (un x) ∧ S.2.1 (B + 3) x = nI (cl x)
theorem cl_and {c z lo k : Nat} (h : c = 1) : (if c = 1 ∧ z = lo then 1 else k) = if z = lo then 1 else k := by simp only [h, true_and]
def gKeep (B : Nat) (S T : MS) : Prop := (∀ k, k ≠ B + 1 → k ≠ B + 2 → k ≠ B + 3 → T.2.1 k = S.2.1 k) ∧ T.2.2 = S.2.2 ∧ T.1 = S.1
theorem gKeep.rf (B : Nat) (S : MS) : gKeep B S S := ⟨fun _ _ _ _ => rfl, rfl, rfl⟩
theorem gKeep.trans {B : Nat} {S T U : MS} (h : gKeep B S T) (g : gKeep B T U) : gKeep B S U := ⟨fun k a b c => (g.1 k a b c).trans (h.1 k a b c), g.2.1.trans h.2.1, g.2.2.trans h.2.2⟩
theorem gKeep.sa {B : Nat} {S T : MS} (h : gKeep B S T) {A : Nat} (hA : A = B + 1 ∨ A = B + 2 ∨ A = B + 3) (i : Nat) (x : Int32) : gKeep B S (T.sa A i x) := by
  refine ⟨fun k a b c => ?_, h.2.1, h.2.2⟩
  rw [sa_row _ _ _ _ (by omega)]
  exact h.1 k a b c
theorem UM.hang {S : MS} {B n : Nat} {pa un cl rt ph : Nat → Nat} (h : UM S B n pa un cl) (x : Nat) : UM ((S.sa (B + 1) x (nI (rt x))).sa (B + 2) x (nI (ph x))) B n (fun z => if z = x then rt x else pa z) (fun z => if z = x then ph x else un z) cl := by
  refine ⟨h.1, fun z hz => ?_⟩
  obtain ⟨h1, h2, h3⟩ := h.2 z hz
  rw [sa_row _ _ _ _ (by omega), sa_at, sa_at, sa_row _ _ _ _ (by omega), sa_row _ _ _ _ (by omega), sa_row _ _ _ _ (by omega)]
  dsimp only
  by_cases e : z = x
  · rw [if_pos e, if_pos e, if_pos e, if_pos e]
    exact ⟨rfl, rfl, h3⟩
  · rw [if_neg e, if_neg e, if_neg e, if_neg e]
    exact ⟨h1, h2, h3⟩
theorem nI_xor2 {a b : Nat} (ha : a < 2) (hb : b < 2) : nI a ^^^ nI b = nI ((a + b) % 2) := by
  rcases (show a = 0 ∨ a = 1 by omega) with rfl | rfl <;> rcases (show b = 0 ∨ b = 1 by omega) with rfl | rfl <;> decide
theorem UM.cl {S : MS} {B n : Nat} {pa un cl : Nat → Nat} (h : UM S B n pa un cl) {r : Nat} : UM (S.sa (B + 3) r (nI 1)) B n pa un (fun z => if z = r then 1 else cl z) := by
  refine ⟨h.1, fun z hz => ?_⟩
  obtain ⟨h1, h2, h3⟩ := h.2 z hz
  rw [sa_row _ _ _ _ (by omega), sa_row _ _ _ _ (by omega), sa_at]
  dsimp only
  refine ⟨h1, h2, ?_⟩
  by_cases e : z = r
  · rw [if_pos e, if_pos e]
  · rw [if_neg e, if_neg e]
    exact h3
theorem UM.lk {S : MS} {B n : Nat} {pa un cl : Nat → Nat} (h : UM S B n pa un cl) (hi lo t : Nat) : UM ((S.sa (B + 1) hi (nI lo)).sa (B + 2) hi (nI t)) B n (fun z => if z = hi then lo else pa z) (fun z => if z = hi then t else un z) cl := by
  refine ⟨h.1, fun z hz => ?_⟩
  obtain ⟨h1, h2, h3⟩ := h.2 z hz
  rw [sa_row _ _ _ _ (by omega), sa_at, sa_at, sa_row _ _ _ _ (by omega), sa_row _ _ _ _ (by omega), sa_row _ _ _ _ (by omega)]
  dsimp only
  by_cases e : z = hi
  · rw [if_pos e, if_pos e, if_pos e, if_pos e]
    exact ⟨rfl, rfl, h3⟩
  · rw [if_neg e, if_neg e, if_neg e, if_neg e]
    exact ⟨h1, h2, h3⟩
theorem UM.congr {S : MS} {B n : Nat} {pa un cl pa' un' cl' : Nat → Nat} (h : UM S B n pa un cl) (h1 : ∀ x, x < n → pa' x = pa x) (h2 : ∀ x, x < n → un' x = un x) (h3 : ∀ x, x < n → cl' x = cl x) : UM S B n pa' un' cl' := by
  refine ⟨h.1, fun x hx => ?_⟩
  rw [h1 x hx, h2 x hx, h3 x hx]
  exact h.2 x hx
/-- joined: with what is joined already -/
def jn (J : LRel) (x y : Nat) (b : Bool) : LRel := fun u v d => J u v d ∨ (u = x ∧ v = y ∧ d = b)
/-- a start: each alone -/
def jn0 : LRel := fun _ _ _ => False
def sKeep (B : Nat) (S T : MS) : Prop := (∀ k, ¬ (B < k ∧ k ≤ B + 5) → T.2.1 k = S.2.1 k) ∧ T.2.2 = S.2.2 ∧ (∀ i j, ¬ (i = B ∧ (j = 5 ∨ j = 6)) → T.1 i j = S.1 i j)
theorem sKeep.rf (B : Nat) (S : MS) : sKeep B S S := ⟨fun _ _ => rfl, rfl, fun _ _ _ => rfl⟩
theorem sKeep.trans {B : Nat} {S T U : MS} (h : sKeep B S T) (g : sKeep B T U) : sKeep B S U := ⟨fun k a => (g.1 k a).trans (h.1 k a), g.2.1.trans h.2.1, fun i j a => (g.2.2 i j a).trans (h.2.2 i j a)⟩
theorem gKeep.s {B : Nat} {S T : MS} (h : gKeep B S T) : sKeep B S T := ⟨fun k a => h.1 k (by omega) (by omega) (by omega), h.2.1, fun i j _ => by rw [h.2.2]⟩
theorem sKeep.sa {B : Nat} {S T : MS} (h : sKeep B S T) {A : Nat} (hA : B < A ∧ A ≤ B + 5) (i : Nat) (x : Int32) : sKeep B S (T.sa A i x) := by
  refine ⟨fun k a => ?_, h.2.1, h.2.2⟩
  rw [sa_row _ _ _ _ (by omega)]
  exact h.1 k a
theorem sKeep.sf {B : Nat} {S T : MS} (h : sKeep B S T) {j : Nat} (hj : j = 5 ∨ j = 6) (x : Int32) : sKeep B S (T.sf B j x) := by
  refine ⟨h.1, h.2.1, fun i k a => ?_⟩
  rw [sf_at, if_neg (by omega)]
  exact h.2.2 i k a
/-- the groups, numbered -/
def GS (S : MS) (B n : Nat) (J : LRel) : Prop := S.1 B 6 = nI (cnt (fs J) n) ∧ (∀ j, j < n → S.2.1 (B + 4) j = nI (gno J j)) ∧ (∀ j, j < n → fs J j = true → S.2.1 (B + 5) (cnt (fs J) j) = nI j ∧ ((S.2.1 (B + 3) j = 1 ∧ Tws J j) ∨ (S.2.1 (B + 3) j = 0 ∧ ¬ Tws J j)))
theorem GS.keep {S T : MS} {B n : Nat} {J : LRel} (h : GS S B n J) (h3 : T.2.1 (B + 3) = S.2.1 (B + 3)) (h4 : T.2.1 (B + 4) = S.2.1 (B + 4)) (h5 : T.2.1 (B + 5) = S.2.1 (B + 5)) (h6 : T.1 B 6 = S.1 B 6) : GS T B n J := by
  unfold GS
  rw [h3, h4, h5, h6]
  exact h
theorem mx_start4 (X : am_X) (S : MS) (n : Nat) (hn : n ≤ 12) : ∃ T, MC X 1 [.ref (4), .int (nI (n))] S none T ∧ sKeep 4 S T ∧ UM T 4 n (fun x => x) (fun _ => 0) (fun _ => 0) := by
  have key := MX.mc (X := X) (mj := 1) (as := [.ref (4), .int (nI (n))]) (S := S) (Post := fun v T => v = none ∧ sKeep 4 S T ∧ UM T 4 n (fun x => x) (fun _ => 0) (fun _ => 0)) ?_
  · obtain ⟨v, T, g1, g2, g3⟩ := key
    subst g2
    exact ⟨T, g1, g3⟩
  refine MX.of (Nat.le_of_ble_eq_true rfl) ?_
  refine as_aload_n d1_0 rfl ?_
  refine as_iload_n d1_1 rfl ?_
  refine as_aload_n d1_2 rfl ?_
  refine ap_get d1_3 f1_7 (by decide) rfl rfl ?_
  refine as_alen d1_6 (by decide) rfl (by decide) ?_
  refine an_top (e' := nI 12) rfl ?_
  refine ac_min d1_7 c1_26 (by decide) (Nat.le_of_ble_eq_true rfl) ?_
  refine an_top (e' := nI (n)) (by rw [if_neg (fun g => absurd ((nI_ltI (by omega) (by omega)).mp g) (by omega))]) ?_
  refine ap_put d1_10 f1_32 (by decide) rfl (Nat.le_of_ble_eq_true rfl) (rfl) rfl rfl ?_
  refine an_iconst 0 d1_13 rfl ?_
  refine as_istore_n d1_14 (by decide) ?_
  refine AW.loc [(0, .ref (4)), (2, .int (nI (0)))] (am_pick [1, 0] rfl rfl) ?_
  refine aw_fromE (fun i T => ((15, [(0, .ref (4)), (2, .int (nI (i)))], [], 208, HP (T), 0, 0) : am_Z)) (fun i T => sKeep 4 S T ∧ T.1 4 5 = nI n ∧ ∀ x, x < i → T.2.1 5 x = nI x ∧ T.2.1 6 x = nI 0 ∧ T.2.1 7 x = nI 0) (0) (n) (by omega) ((S).sf 4 5 (nI (n))) (rfl) (⟨(sKeep.rf 4 S).sf (by omega) _, by rw [sf_at, if_pos ⟨rfl, rfl⟩], fun x hx => by omega⟩) (fun i T hi0 hi hI ih => ?_) (fun T hX => ?_)
  · refine as_iload_n d1_15 rfl ?_
    refine as_aload_n d1_16 rfl ?_
    refine ap_get d1_17 f1_32 (by decide) rfl rfl ?_
    refine an_top (e' := nI (n)) (hI.2.1) ?_
    refine an_icmp_ge 50 d1_20 (by decide) (by omega) (by omega) (fun c20 => by omega) (fun c20 => ?_)
    refine as_aload_n d1_23 rfl ?_
    refine ap_get d1_24 f1_7 (by decide) rfl rfl ?_
    refine as_iload_n d1_27 rfl ?_
    refine as_iload_n d1_28 rfl ?_
    refine ap_iast d1_29 (fun _ _ _ _ => rfl) (by decide) (by omega) (by decide) ?_
    refine as_aload_n d1_30 rfl ?_
    refine ap_get d1_31 f1_13 (by decide) rfl rfl ?_
    refine as_iload_n d1_34 rfl ?_
    refine an_iconst 0 d1_35 rfl ?_
    refine ap_iast d1_36 (fun _ _ _ _ => rfl) (by decide) (by omega) (by decide) ?_
    refine as_aload_n d1_37 rfl ?_
    refine ap_get d1_38 f1_16 (by decide) rfl rfl ?_
    refine as_iload_n d1_41 rfl ?_
    refine an_iconst 0 d1_42 rfl ?_
    refine ap_zast d1_43 (fun _ _ _ _ => rfl) (by decide) (by omega) (by decide) (rfl) ?_
    refine an_iinc 1 d1_44 rfl rfl (by decide) ?_
    refine as_goto 15 d1_47 (by decide) ?_
    refine AW.loc [(0, .ref (4)), (2, .int (nI (i + 1)))] (am_pick [1, 0] rfl rfl) ?_
    have ih := ih ((((T).sa 5 (i) (nI (i))).sa 6 (i) (nI (0))).sa 7 (i) (nI (0))) (⟨((hI.1.sa (by omega) _ _).sa (by omega) _ _).sa (by omega) _ _, hI.2.1, fun x hx => by
      rw [sa_row _ _ _ _ (by decide), sa_row _ _ _ _ (by decide), sa_at, sa_row _ _ _ _ (by decide), sa_at, sa_row _ _ _ _ (by decide), sa_at, sa_row _ _ _ _ (by decide), sa_row _ _ _ _ (by decide)]
      by_cases e : x = i
      · rw [if_pos e, if_pos e, if_pos e, e]
        exact ⟨rfl, rfl, rfl⟩
      · rw [if_neg e, if_neg e, if_neg e]
        exact hI.2.2 x (by omega)⟩)
    exact ih
  · refine as_iload_n d1_15 rfl ?_
    refine as_aload_n d1_16 rfl ?_
    refine ap_get d1_17 f1_32 (by decide) rfl rfl ?_
    refine an_top (e' := nI (n)) (hX.2.1) ?_
    refine an_icmp_ge 50 d1_20 (by decide) (by omega) (by omega) (fun c20 => ?_) (fun c20 => by omega)
    refine as_return d1_50 t1 ?_
    exact ⟨_, _, rfl, rfl, hX.1, hX.2.1, hX.2.2⟩
theorem mc_rootOf4 (X : am_X) (S : MS) (n : Nat) (J : LRel) (pa un cl rt ph : Nat → Nat) (hn : n ≤ 12) (hU : UM S 4 n pa un cl) (hp : UP n J pa un cl rt ph) (x : Nat) (hx : x < n) : MC X 2 [.ref (4), .int (nI (x))] S (some (.int (nI (rt x)))) ((S.sa 5 x (nI (rt x))).sa 6 x (nI (ph x))) := by
  refine MC.of (Nat.le_of_ble_eq_true rfl) ?_
  refine as_iload_n d2_0 rfl ?_
  refine as_istore_n d2_1 (by decide) ?_
  refine an_iconst 0 d2_2 rfl ?_
  refine as_istore_n d2_3 (by decide) ?_
  refine an_iconst 0 d2_4 rfl ?_
  refine as_istore d2_5 (by decide) ?_
  refine AW.loc [(0, .ref (4)), (1, .int (nI (x))), (2, .int (nI (x))), (3, .int (nI (0))), (4, .int (nI (0)))] (am_pick [3, 4, 2, 1, 0] rfl rfl) ?_
  refine aw_inv2 (σ := (Nat) × (Nat) × (Nat)) (fun σ => ((7, [(0, .ref (4)), (1, .int (nI (x))), (2, .int (nI (σ.1))), (3, .int (nI (σ.2.1))), (4, .int (nI (σ.2.2)))], [], 208, HP (S), 0, 0) : am_Z)) (fun σ => σ.1 ≤ x ∧ rt σ.1 = rt x ∧ σ.2.1 < 2 ∧ (σ.2.1 + ph σ.1) % 2 = ph x ∧ σ.2.2 + σ.1 ≤ x) (fun σ => σ.1) (fun σ hσ ihσ => ?_) (x, 0, 0) (rfl) (by dsimp only; exact ⟨Nat.le_refl _, rfl, by omega, by have := (hp.1 x hx).2.2.2.2.1; omega, by omega⟩)
  obtain ⟨r, u, i⟩ := σ
  dsimp only at hσ ihσ ⊢
  obtain ⟨q1, q2, q3, q4, q5⟩ := hσ
  obtain ⟨w1, w2, w3, w4, w5, w6, w7, w8, w9, w10⟩ := hp.1 r (by omega)
  refine as_iload d2_7 rfl ?_
  refine as_aload_n d2_9 rfl ?_
  refine ap_get d2_10 f2_32 (by decide) rfl rfl ?_
  refine an_top (e' := nI (n)) (hU.1) ?_
  refine an_icmp_ge 48 d2_13 (by decide) (by omega) (by omega) (fun c13 => by omega) (fun c13 => ?_)
  refine as_aload_n d2_16 rfl ?_
  refine ap_get d2_17 f2_7 (by decide) rfl rfl ?_
  refine as_iload_n d2_20 rfl ?_
  refine ap_iald d2_21 (fun _ _ _ _ => rfl) (by decide) (by omega) (by decide) ?_
  refine an_top (e' := nI (pa (r))) ((hU.2 _ (by omega)).1) ?_
  refine as_iload_n d2_22 rfl ?_
  refine an_icmp_eq 48 d2_23 (by decide) (by omega) (by omega) (fun c23 => ?_) (fun c23 => ?_)
  · obtain ⟨a1, a2⟩ := w9 c23
    have e1 : rt x = r := by rw [← q2, a1]
    have e2 : ph x = u := by rw [← q4, a2]; omega
    refine as_aload_n d2_48 rfl ?_
    refine ap_get d2_49 f2_7 (by decide) rfl rfl ?_
    refine as_iload_n d2_52 rfl ?_
    refine as_iload_n d2_53 rfl ?_
    refine ap_iast d2_54 (fun _ _ _ _ => rfl) (by decide) (by omega) (by decide) ?_
    refine as_aload_n d2_55 rfl ?_
    refine ap_get d2_56 f2_13 (by decide) rfl rfl ?_
    refine as_iload_n d2_59 rfl ?_
    refine as_iload_n d2_60 rfl ?_
    refine ap_iast d2_61 (fun _ _ _ _ => rfl) (by decide) (by omega) (by decide) ?_
    refine as_iload_n d2_62 rfl ?_
    refine as_ireturn d2_63 (by rw [t2]; rfl) ?_
    rw [e1, e2]
  · have a3 := w10 c23
    refine as_iload_n d2_26 rfl ?_
    refine as_aload_n d2_27 rfl ?_
    refine ap_get d2_28 f2_13 (by decide) rfl rfl ?_
    refine as_iload_n d2_31 rfl ?_
    refine ap_iald d2_32 (fun _ _ _ _ => rfl) (by decide) (by omega) (by decide) ?_
    refine an_top (e' := nI (un (r))) ((hU.2 _ (by omega)).2.1) ?_
    refine as_ixor d2_33 ?_
    refine an_top (e' := nI ((u + un r) % 2)) (nI_xor2 (by omega) (by omega)) ?_
    refine as_istore_n d2_34 (by decide) ?_
    refine as_aload_n d2_35 rfl ?_
    refine ap_get d2_36 f2_7 (by decide) rfl rfl ?_
    refine as_iload_n d2_39 rfl ?_
    refine ap_iald d2_40 (fun _ _ _ _ => rfl) (by decide) (by omega) (by decide) ?_
    refine an_top (e' := nI (pa (r))) ((hU.2 _ (by omega)).1) ?_
    refine as_istore_n d2_41 (by decide) ?_
    refine an_iinc 1 d2_42 rfl rfl (by decide) ?_
    refine as_goto 7 d2_45 (by decide) ?_
    refine AW.loc [(0, .ref (4)), (1, .int (nI (x))), (2, .int (nI (pa (r)))), (3, .int (nI ((u + un r) % 2))), (4, .int (nI (i + 1)))] (am_pick [3, 4, 1, 2, 0] rfl rfl) ?_
    exact ihσ (pa r, (u + un r) % 2, i + 1) (by dsimp only; exact ⟨by omega, by rw [w8, q2], by omega, by omega, by omega⟩) (by show pa r < r; omega)
theorem mx_join4 (X : am_X) (S : MS) (n : Nat) (J : LRel) (pa un cl rt ph : Nat → Nat) (hn : n ≤ 12) (hU : UM S 4 n pa un cl) (hp : UP n J pa un cl rt ph) (x y : Nat) (b : Bool) (hx : x < n) (hy : y < n) : ∃ T pa' un' cl' rt' ph', MC X 3 [.ref (4), .int (nI (x)), .int (nI (y)), .int (nI (bN b))] S none T ∧ gKeep 4 S T ∧ UM T 4 n pa' un' cl' ∧ UP n (jn J x y b) pa' un' cl' rt' ph' := by
  have m1 := mc_rootOf4 X S n J pa un cl rt ph hn hU hp x hx
  have u1 := hU.hang (rt := rt) (ph := ph) x
  have p1 := hp.hang hx
  have m2 := mc_rootOf4 X _ n J _ _ cl rt ph hn u1 p1 y hy
  have u2 := u1.hang (rt := rt) (ph := ph) y
  have p2 := p1.hang hy
  obtain ⟨S2, hS2⟩ : ∃ S2, S2 = ((((S.sa 5 x (nI (rt x))).sa 6 x (nI (ph x))).sa 5 y (nI (rt y))).sa 6 y (nI (ph y))) := ⟨_, rfl⟩
  have k2 : gKeep 4 S S2 := by rw [hS2]; exact ((((gKeep.rf 4 S).sa (by omega) _ _).sa (by omega) _ _).sa (by omega) _ _).sa (by omega) _ _
  rw [← hS2] at m2
  replace u2 : UM S2 4 n (fun z => if z = y then rt y else if z = x then rt x else pa z) (fun z => if z = y then ph y else if z = x then ph x else un z) cl := by rw [hS2]; exact u2
  have hbb := bN_lt b
  have hpx := (hp.1 x hx).2.2.2.2.1
  have hpy := (hp.1 y hy).2.2.2.2.1
  have hrx := (hp.1 x hx).2.2.2.1
  have hry := (hp.1 y hy).2.2.2.1
  have hux : S2.2.1 6 x = nI (ph x) := by
    rw [(u2.2 x hx).2.1]
    dsimp only
    by_cases e : x = y
    · rw [if_pos e, e]
    · rw [if_neg e, if_pos rfl]
  have huy : S2.2.1 6 y = nI (ph y) := by
    rw [(u2.2 y hy).2.1]
    dsimp only
    rw [if_pos rfl]
  have key := MX.mc (X := X) (mj := 3) (as := [.ref (4), .int (nI (x)), .int (nI (y)), .int (nI (bN b))]) (S := S) (Post := fun v T => v = none ∧ ∃ pa' un' cl' rt' ph', gKeep 4 S T ∧ UM T 4 n pa' un' cl' ∧ UP n (jn J x y b) pa' un' cl' rt' ph') ?_
  · obtain ⟨v, T, g1, g2, pa', un', cl', rt', ph', g3⟩ := key
    subst g2
    exact ⟨T, pa', un', cl', rt', ph', g1, g3⟩
  refine MX.of (Nat.le_of_ble_eq_true rfl) ?_
  refine as_aload_n d3_0 rfl ?_
  refine as_iload_n d3_1 rfl ?_
  refine ac_v1 d3_2 c3_36 (by decide) rfl (Nat.le_of_ble_eq_true rfl) (m1) ?_
  refine as_istore d3_5 (by decide) ?_
  refine as_aload_n d3_7 rfl ?_
  refine as_iload_n d3_8 rfl ?_
  refine ac_v1 d3_9 c3_36 (by decide) rfl (Nat.le_of_ble_eq_true rfl) (m2) ?_
  refine as_istore d3_12 (by decide) ?_
  refine as_aload_n d3_14 rfl ?_
  refine ap_get d3_15 f3_13 (by decide) rfl rfl ?_
  refine as_iload_n d3_18 rfl ?_
  refine ap_iald d3_19 (fun _ _ _ _ => rfl) (by decide) (by omega) (by decide) ?_
  refine an_top (e' := nI (ph x)) (hux) ?_
  refine as_aload_n d3_20 rfl ?_
  refine ap_get d3_21 f3_13 (by decide) rfl rfl ?_
  refine as_iload_n d3_24 rfl ?_
  refine ap_iald d3_25 (fun _ _ _ _ => rfl) (by decide) (by omega) (by decide) ?_
  refine an_top (e' := nI (ph y)) (huy) ?_
  refine as_ixor d3_26 ?_
  refine an_top (e' := nI ((ph x + ph y) % 2)) (nI_xor2 hpx hpy) ?_
  refine as_iload_n d3_27 rfl ?_
  refine an_if_eq 35 d3_28 (by decide) (by omega) (fun c28 => ?_) (fun c28 => ?_)
  · have hb1 : bN b = 0 := c28
    refine an_iconst 0 d3_35 rfl ?_
    refine as_ixor d3_36 ?_
    refine an_top (e' := nI ((ph x + ph y + bN b) % 2)) (by rw [hb1]; rw [nI_xor2 (by omega) (by omega)]; congr 1; omega) ?_
    refine as_istore d3_37 (by decide) ?_
    refine as_iload d3_39 rfl ?_
    refine as_iload d3_41 rfl ?_
    refine an_icmp_ne 61 d3_43 (by decide) (by omega) (by omega) (fun c43 => ?_) (fun c43 => ?_)
    · obtain ⟨lo, hi, hlt, hlh, elo, ehi⟩ : ∃ lo hi, lo < hi ∧ ((rt x = lo ∧ rt y = hi) ∨ (rt x = hi ∧ rt y = lo)) ∧ lo = (if rt y < rt x then rt y else rt x) ∧ hi = (if rt x < rt y then rt y else rt x) := by
        rcases Nat.lt_or_gt_of_ne c43 with g | g
        · exact ⟨rt x, rt y, g, Or.inl ⟨rfl, rfl⟩, by rw [if_neg (by omega)], by rw [if_pos g]⟩
        · exact ⟨rt y, rt x, g, Or.inr ⟨rfl, rfl⟩, by rw [if_pos g], by rw [if_neg (by omega)]⟩
      have hhi : hi < n := by omega
      have p3 := p2.link (b := b) hx hy hlh hlt
      have u3 := u2.lk hi lo ((ph x + ph y + bN b) % 2)
      refine as_iload d3_61 rfl ?_
      refine as_iload d3_63 rfl ?_
      refine ac_min d3_65 c3_26 (by decide) (Nat.le_of_ble_eq_true rfl) ?_
      refine an_top (e' := nI (lo)) (by rw [elo]; exact nI_minI (by omega) (by omega)) ?_
      refine as_istore d3_68 (by decide) ?_
      refine as_iload d3_70 rfl ?_
      refine as_iload d3_72 rfl ?_
      refine ac_max d3_74 c3_40 (by decide) (Nat.le_of_ble_eq_true rfl) ?_
      refine an_top (e' := nI (hi)) (by rw [ehi]; exact nI_maxI (by omega) (by omega)) ?_
      refine as_istore d3_77 (by decide) ?_
      refine as_aload_n d3_79 rfl ?_
      refine ap_get d3_80 f3_7 (by decide) rfl rfl ?_
      refine as_iload d3_83 rfl ?_
      refine as_iload d3_85 rfl ?_
      refine ap_iast d3_87 (fun _ _ _ _ => rfl) (by decide) (by omega) (by decide) ?_
      refine as_aload_n d3_88 rfl ?_
      refine ap_get d3_89 f3_13 (by decide) rfl rfl ?_
      refine as_iload d3_92 rfl ?_
      refine as_iload d3_94 rfl ?_
      refine ap_iast d3_96 (fun _ _ _ _ => rfl) (by decide) (by omega) (by decide) ?_
      refine as_aload_n d3_97 rfl ?_
      refine ap_get d3_98 f3_16 (by decide) rfl rfl ?_
      refine as_iload d3_101 rfl ?_
      refine ap_zald d3_103 (fun _ _ _ _ => rfl) (by decide) (by omega) (by decide) ?_
      refine an_top (e' := nI (cl hi)) ((u3.2 hi hhi).2.2) ?_
      refine an_if_eq 115 d3_104 (by decide) (by have := (hp.1 hi hhi).2.2.1; omega) (fun c104 => ?_) (fun c104 => ?_)
      · refine as_return d3_115 t3 ?_
        first
        | exact ⟨_, _, rfl, rfl, _, _, _, _, _, k2, u2.congr (fun _ _ => rfl) (fun _ _ => rfl) (fun z hz => if_neg (fun g => c49 g.1)), p3⟩
        | exact ⟨_, _, rfl, rfl, _, _, _, _, _, k2.sa (by omega) _ _, (u2.cl (r := rt x)).congr (fun _ _ => rfl) (fun _ _ => rfl) (fun z hz => by simp only [c49, true_and]), p3⟩
        | exact ⟨_, _, rfl, rfl, _, _, _, _, _, (k2.sa (by omega) _ _).sa (by omega) _ _, u3.congr (fun _ _ => rfl) (fun _ _ => rfl) (fun z hz => if_neg (fun g => by omega)), p3⟩
        | exact ⟨_, _, rfl, rfl, _, _, _, _, _, ((k2.sa (by omega) _ _).sa (by omega) _ _).sa (by omega) _ _, (u3.cl (r := lo)).congr (fun _ _ => rfl) (fun _ _ => rfl) (fun z hz => cl_and (by have := (hp.1 hi hhi).2.2.1; omega)), p3⟩
      · refine as_aload_n d3_107 rfl ?_
        refine ap_get d3_108 f3_16 (by decide) rfl rfl ?_
        refine as_iload d3_111 rfl ?_
        refine an_iconst 1 d3_113 rfl ?_
        refine ap_zast d3_114 (fun _ _ _ _ => rfl) (by decide) (by omega) (by decide) (rfl) ?_
        refine as_return d3_115 t3 ?_
        first
        | exact ⟨_, _, rfl, rfl, _, _, _, _, _, k2, u2.congr (fun _ _ => rfl) (fun _ _ => rfl) (fun z hz => if_neg (fun g => c49 g.1)), p3⟩
        | exact ⟨_, _, rfl, rfl, _, _, _, _, _, k2.sa (by omega) _ _, (u2.cl (r := rt x)).congr (fun _ _ => rfl) (fun _ _ => rfl) (fun z hz => by simp only [c49, true_and]), p3⟩
        | exact ⟨_, _, rfl, rfl, _, _, _, _, _, (k2.sa (by omega) _ _).sa (by omega) _ _, u3.congr (fun _ _ => rfl) (fun _ _ => rfl) (fun z hz => if_neg (fun g => by omega)), p3⟩
        | exact ⟨_, _, rfl, rfl, _, _, _, _, _, ((k2.sa (by omega) _ _).sa (by omega) _ _).sa (by omega) _ _, (u3.cl (r := lo)).congr (fun _ _ => rfl) (fun _ _ => rfl) (fun z hz => cl_and (by have := (hp.1 hi hhi).2.2.1; omega)), p3⟩
    · have p3 := p2.same (b := b) hx hy c43
      refine as_iload d3_46 rfl ?_
      refine an_iconst 1 d3_48 rfl ?_
      refine an_icmp_ne 60 d3_49 (by decide) (by omega) (by omega) (fun c49 => ?_) (fun c49 => ?_)
      · refine as_return d3_60 t3 ?_
        first
        | exact ⟨_, _, rfl, rfl, _, _, _, _, _, k2, u2.congr (fun _ _ => rfl) (fun _ _ => rfl) (fun z hz => if_neg (fun g => c49 g.1)), p3⟩
        | exact ⟨_, _, rfl, rfl, _, _, _, _, _, k2.sa (by omega) _ _, (u2.cl (r := rt x)).congr (fun _ _ => rfl) (fun _ _ => rfl) (fun z hz => by simp only [c49, true_and]), p3⟩
        | exact ⟨_, _, rfl, rfl, _, _, _, _, _, (k2.sa (by omega) _ _).sa (by omega) _ _, u3.congr (fun _ _ => rfl) (fun _ _ => rfl) (fun z hz => if_neg (fun g => by omega)), p3⟩
        | exact ⟨_, _, rfl, rfl, _, _, _, _, _, ((k2.sa (by omega) _ _).sa (by omega) _ _).sa (by omega) _ _, (u3.cl (r := lo)).congr (fun _ _ => rfl) (fun _ _ => rfl) (fun z hz => cl_and (by have := (hp.1 hi hhi).2.2.1; omega)), p3⟩
      · refine as_aload_n d3_52 rfl ?_
        refine ap_get d3_53 f3_16 (by decide) rfl rfl ?_
        refine as_iload d3_56 rfl ?_
        refine an_iconst 1 d3_58 rfl ?_
        refine ap_zast d3_59 (fun _ _ _ _ => rfl) (by decide) (by omega) (by decide) (rfl) ?_
        refine as_return d3_60 t3 ?_
        first
        | exact ⟨_, _, rfl, rfl, _, _, _, _, _, k2, u2.congr (fun _ _ => rfl) (fun _ _ => rfl) (fun z hz => if_neg (fun g => c49 g.1)), p3⟩
        | exact ⟨_, _, rfl, rfl, _, _, _, _, _, k2.sa (by omega) _ _, (u2.cl (r := rt x)).congr (fun _ _ => rfl) (fun _ _ => rfl) (fun z hz => by simp only [c49, true_and]), p3⟩
        | exact ⟨_, _, rfl, rfl, _, _, _, _, _, (k2.sa (by omega) _ _).sa (by omega) _ _, u3.congr (fun _ _ => rfl) (fun _ _ => rfl) (fun z hz => if_neg (fun g => by omega)), p3⟩
        | exact ⟨_, _, rfl, rfl, _, _, _, _, _, ((k2.sa (by omega) _ _).sa (by omega) _ _).sa (by omega) _ _, (u3.cl (r := lo)).congr (fun _ _ => rfl) (fun _ _ => rfl) (fun z hz => cl_and (by have := (hp.1 hi hhi).2.2.1; omega)), p3⟩
  · have hb1 : bN b = 1 := by omega
    refine an_iconst 1 d3_31 rfl ?_
    refine as_goto 36 d3_32 (by decide) ?_
    refine as_ixor d3_36 ?_
    refine an_top (e' := nI ((ph x + ph y + bN b) % 2)) (by rw [hb1]; rw [nI_xor2 (by omega) (by omega)]; congr 1; omega) ?_
    refine as_istore d3_37 (by decide) ?_
    refine as_iload d3_39 rfl ?_
    refine as_iload d3_41 rfl ?_
    refine an_icmp_ne 61 d3_43 (by decide) (by omega) (by omega) (fun c43 => ?_) (fun c43 => ?_)
    · obtain ⟨lo, hi, hlt, hlh, elo, ehi⟩ : ∃ lo hi, lo < hi ∧ ((rt x = lo ∧ rt y = hi) ∨ (rt x = hi ∧ rt y = lo)) ∧ lo = (if rt y < rt x then rt y else rt x) ∧ hi = (if rt x < rt y then rt y else rt x) := by
        rcases Nat.lt_or_gt_of_ne c43 with g | g
        · exact ⟨rt x, rt y, g, Or.inl ⟨rfl, rfl⟩, by rw [if_neg (by omega)], by rw [if_pos g]⟩
        · exact ⟨rt y, rt x, g, Or.inr ⟨rfl, rfl⟩, by rw [if_pos g], by rw [if_neg (by omega)]⟩
      have hhi : hi < n := by omega
      have p3 := p2.link (b := b) hx hy hlh hlt
      have u3 := u2.lk hi lo ((ph x + ph y + bN b) % 2)
      refine as_iload d3_61 rfl ?_
      refine as_iload d3_63 rfl ?_
      refine ac_min d3_65 c3_26 (by decide) (Nat.le_of_ble_eq_true rfl) ?_
      refine an_top (e' := nI (lo)) (by rw [elo]; exact nI_minI (by omega) (by omega)) ?_
      refine as_istore d3_68 (by decide) ?_
      refine as_iload d3_70 rfl ?_
      refine as_iload d3_72 rfl ?_
      refine ac_max d3_74 c3_40 (by decide) (Nat.le_of_ble_eq_true rfl) ?_
      refine an_top (e' := nI (hi)) (by rw [ehi]; exact nI_maxI (by omega) (by omega)) ?_
      refine as_istore d3_77 (by decide) ?_
      refine as_aload_n d3_79 rfl ?_
      refine ap_get d3_80 f3_7 (by decide) rfl rfl ?_
      refine as_iload d3_83 rfl ?_
      refine as_iload d3_85 rfl ?_
      refine ap_iast d3_87 (fun _ _ _ _ => rfl) (by decide) (by omega) (by decide) ?_
      refine as_aload_n d3_88 rfl ?_
      refine ap_get d3_89 f3_13 (by decide) rfl rfl ?_
      refine as_iload d3_92 rfl ?_
      refine as_iload d3_94 rfl ?_
      refine ap_iast d3_96 (fun _ _ _ _ => rfl) (by decide) (by omega) (by decide) ?_
      refine as_aload_n d3_97 rfl ?_
      refine ap_get d3_98 f3_16 (by decide) rfl rfl ?_
      refine as_iload d3_101 rfl ?_
      refine ap_zald d3_103 (fun _ _ _ _ => rfl) (by decide) (by omega) (by decide) ?_
      refine an_top (e' := nI (cl hi)) ((u3.2 hi hhi).2.2) ?_
      refine an_if_eq 115 d3_104 (by decide) (by have := (hp.1 hi hhi).2.2.1; omega) (fun c104 => ?_) (fun c104 => ?_)
      · refine as_return d3_115 t3 ?_
        first
        | exact ⟨_, _, rfl, rfl, _, _, _, _, _, k2, u2.congr (fun _ _ => rfl) (fun _ _ => rfl) (fun z hz => if_neg (fun g => c49 g.1)), p3⟩
        | exact ⟨_, _, rfl, rfl, _, _, _, _, _, k2.sa (by omega) _ _, (u2.cl (r := rt x)).congr (fun _ _ => rfl) (fun _ _ => rfl) (fun z hz => by simp only [c49, true_and]), p3⟩
        | exact ⟨_, _, rfl, rfl, _, _, _, _, _, (k2.sa (by omega) _ _).sa (by omega) _ _, u3.congr (fun _ _ => rfl) (fun _ _ => rfl) (fun z hz => if_neg (fun g => by omega)), p3⟩
        | exact ⟨_, _, rfl, rfl, _, _, _, _, _, ((k2.sa (by omega) _ _).sa (by omega) _ _).sa (by omega) _ _, (u3.cl (r := lo)).congr (fun _ _ => rfl) (fun _ _ => rfl) (fun z hz => cl_and (by have := (hp.1 hi hhi).2.2.1; omega)), p3⟩
      · refine as_aload_n d3_107 rfl ?_
        refine ap_get d3_108 f3_16 (by decide) rfl rfl ?_
        refine as_iload d3_111 rfl ?_
        refine an_iconst 1 d3_113 rfl ?_
        refine ap_zast d3_114 (fun _ _ _ _ => rfl) (by decide) (by omega) (by decide) (rfl) ?_
        refine as_return d3_115 t3 ?_
        first
        | exact ⟨_, _, rfl, rfl, _, _, _, _, _, k2, u2.congr (fun _ _ => rfl) (fun _ _ => rfl) (fun z hz => if_neg (fun g => c49 g.1)), p3⟩
        | exact ⟨_, _, rfl, rfl, _, _, _, _, _, k2.sa (by omega) _ _, (u2.cl (r := rt x)).congr (fun _ _ => rfl) (fun _ _ => rfl) (fun z hz => by simp only [c49, true_and]), p3⟩
        | exact ⟨_, _, rfl, rfl, _, _, _, _, _, (k2.sa (by omega) _ _).sa (by omega) _ _, u3.congr (fun _ _ => rfl) (fun _ _ => rfl) (fun z hz => if_neg (fun g => by omega)), p3⟩
        | exact ⟨_, _, rfl, rfl, _, _, _, _, _, ((k2.sa (by omega) _ _).sa (by omega) _ _).sa (by omega) _ _, (u3.cl (r := lo)).congr (fun _ _ => rfl) (fun _ _ => rfl) (fun z hz => cl_and (by have := (hp.1 hi hhi).2.2.1; omega)), p3⟩
    · have p3 := p2.same (b := b) hx hy c43
      refine as_iload d3_46 rfl ?_
      refine an_iconst 1 d3_48 rfl ?_
      refine an_icmp_ne 60 d3_49 (by decide) (by omega) (by omega) (fun c49 => ?_) (fun c49 => ?_)
      · refine as_return d3_60 t3 ?_
        first
        | exact ⟨_, _, rfl, rfl, _, _, _, _, _, k2, u2.congr (fun _ _ => rfl) (fun _ _ => rfl) (fun z hz => if_neg (fun g => c49 g.1)), p3⟩
        | exact ⟨_, _, rfl, rfl, _, _, _, _, _, k2.sa (by omega) _ _, (u2.cl (r := rt x)).congr (fun _ _ => rfl) (fun _ _ => rfl) (fun z hz => by simp only [c49, true_and]), p3⟩
        | exact ⟨_, _, rfl, rfl, _, _, _, _, _, (k2.sa (by omega) _ _).sa (by omega) _ _, u3.congr (fun _ _ => rfl) (fun _ _ => rfl) (fun z hz => if_neg (fun g => by omega)), p3⟩
        | exact ⟨_, _, rfl, rfl, _, _, _, _, _, ((k2.sa (by omega) _ _).sa (by omega) _ _).sa (by omega) _ _, (u3.cl (r := lo)).congr (fun _ _ => rfl) (fun _ _ => rfl) (fun z hz => cl_and (by have := (hp.1 hi hhi).2.2.1; omega)), p3⟩
      · refine as_aload_n d3_52 rfl ?_
        refine ap_get d3_53 f3_16 (by decide) rfl rfl ?_
        refine as_iload d3_56 rfl ?_
        refine an_iconst 1 d3_58 rfl ?_
        refine ap_zast d3_59 (fun _ _ _ _ => rfl) (by decide) (by omega) (by decide) (rfl) ?_
        refine as_return d3_60 t3 ?_
        first
        | exact ⟨_, _, rfl, rfl, _, _, _, _, _, k2, u2.congr (fun _ _ => rfl) (fun _ _ => rfl) (fun z hz => if_neg (fun g => c49 g.1)), p3⟩
        | exact ⟨_, _, rfl, rfl, _, _, _, _, _, k2.sa (by omega) _ _, (u2.cl (r := rt x)).congr (fun _ _ => rfl) (fun _ _ => rfl) (fun z hz => by simp only [c49, true_and]), p3⟩
        | exact ⟨_, _, rfl, rfl, _, _, _, _, _, (k2.sa (by omega) _ _).sa (by omega) _ _, u3.congr (fun _ _ => rfl) (fun _ _ => rfl) (fun z hz => if_neg (fun g => by omega)), p3⟩
        | exact ⟨_, _, rfl, rfl, _, _, _, _, _, ((k2.sa (by omega) _ _).sa (by omega) _ _).sa (by omega) _ _, (u3.cl (r := lo)).congr (fun _ _ => rfl) (fun _ _ => rfl) (fun z hz => cl_and (by have := (hp.1 hi hhi).2.2.1; omega)), p3⟩
theorem mx_start10 (X : am_X) (S : MS) (n : Nat) (hn : n ≤ 18) : ∃ T, MC X 1 [.ref (10), .int (nI (n))] S none T ∧ sKeep 10 S T ∧ UM T 10 n (fun x => x) (fun _ => 0) (fun _ => 0) := by
  have key := MX.mc (X := X) (mj := 1) (as := [.ref (10), .int (nI (n))]) (S := S) (Post := fun v T => v = none ∧ sKeep 10 S T ∧ UM T 10 n (fun x => x) (fun _ => 0) (fun _ => 0)) ?_
  · obtain ⟨v, T, g1, g2, g3⟩ := key
    subst g2
    exact ⟨T, g1, g3⟩
  refine MX.of (Nat.le_of_ble_eq_true rfl) ?_
  refine as_aload_n d1_0 rfl ?_
  refine as_iload_n d1_1 rfl ?_
  refine as_aload_n d1_2 rfl ?_
  refine ap_get d1_3 f1_7 (by decide) rfl rfl ?_
  refine as_alen d1_6 (by decide) rfl (by decide) ?_
  refine an_top (e' := nI 18) rfl ?_
  refine ac_min d1_7 c1_26 (by decide) (Nat.le_of_ble_eq_true rfl) ?_
  refine an_top (e' := nI (n)) (by rw [if_neg (fun g => absurd ((nI_ltI (by omega) (by omega)).mp g) (by omega))]) ?_
  refine ap_put d1_10 f1_32 (by decide) rfl (Nat.le_of_ble_eq_true rfl) (rfl) rfl rfl ?_
  refine an_iconst 0 d1_13 rfl ?_
  refine as_istore_n d1_14 (by decide) ?_
  refine AW.loc [(0, .ref (10)), (2, .int (nI (0)))] (am_pick [1, 0] rfl rfl) ?_
  refine aw_fromE (fun i T => ((15, [(0, .ref (10)), (2, .int (nI (i)))], [], 208, HP (T), 0, 0) : am_Z)) (fun i T => sKeep 10 S T ∧ T.1 10 5 = nI n ∧ ∀ x, x < i → T.2.1 11 x = nI x ∧ T.2.1 12 x = nI 0 ∧ T.2.1 13 x = nI 0) (0) (n) (by omega) ((S).sf 10 5 (nI (n))) (rfl) (⟨(sKeep.rf 10 S).sf (by omega) _, by rw [sf_at, if_pos ⟨rfl, rfl⟩], fun x hx => by omega⟩) (fun i T hi0 hi hI ih => ?_) (fun T hX => ?_)
  · refine as_iload_n d1_15 rfl ?_
    refine as_aload_n d1_16 rfl ?_
    refine ap_get d1_17 f1_32 (by decide) rfl rfl ?_
    refine an_top (e' := nI (n)) (hI.2.1) ?_
    refine an_icmp_ge 50 d1_20 (by decide) (by omega) (by omega) (fun c20 => by omega) (fun c20 => ?_)
    refine as_aload_n d1_23 rfl ?_
    refine ap_get d1_24 f1_7 (by decide) rfl rfl ?_
    refine as_iload_n d1_27 rfl ?_
    refine as_iload_n d1_28 rfl ?_
    refine ap_iast d1_29 (fun _ _ _ _ => rfl) (by decide) (by omega) (by decide) ?_
    refine as_aload_n d1_30 rfl ?_
    refine ap_get d1_31 f1_13 (by decide) rfl rfl ?_
    refine as_iload_n d1_34 rfl ?_
    refine an_iconst 0 d1_35 rfl ?_
    refine ap_iast d1_36 (fun _ _ _ _ => rfl) (by decide) (by omega) (by decide) ?_
    refine as_aload_n d1_37 rfl ?_
    refine ap_get d1_38 f1_16 (by decide) rfl rfl ?_
    refine as_iload_n d1_41 rfl ?_
    refine an_iconst 0 d1_42 rfl ?_
    refine ap_zast d1_43 (fun _ _ _ _ => rfl) (by decide) (by omega) (by decide) (rfl) ?_
    refine an_iinc 1 d1_44 rfl rfl (by decide) ?_
    refine as_goto 15 d1_47 (by decide) ?_
    refine AW.loc [(0, .ref (10)), (2, .int (nI (i + 1)))] (am_pick [1, 0] rfl rfl) ?_
    have ih := ih ((((T).sa 11 (i) (nI (i))).sa 12 (i) (nI (0))).sa 13 (i) (nI (0))) (⟨((hI.1.sa (by omega) _ _).sa (by omega) _ _).sa (by omega) _ _, hI.2.1, fun x hx => by
      rw [sa_row _ _ _ _ (by decide), sa_row _ _ _ _ (by decide), sa_at, sa_row _ _ _ _ (by decide), sa_at, sa_row _ _ _ _ (by decide), sa_at, sa_row _ _ _ _ (by decide), sa_row _ _ _ _ (by decide)]
      by_cases e : x = i
      · rw [if_pos e, if_pos e, if_pos e, e]
        exact ⟨rfl, rfl, rfl⟩
      · rw [if_neg e, if_neg e, if_neg e]
        exact hI.2.2 x (by omega)⟩)
    exact ih
  · refine as_iload_n d1_15 rfl ?_
    refine as_aload_n d1_16 rfl ?_
    refine ap_get d1_17 f1_32 (by decide) rfl rfl ?_
    refine an_top (e' := nI (n)) (hX.2.1) ?_
    refine an_icmp_ge 50 d1_20 (by decide) (by omega) (by omega) (fun c20 => ?_) (fun c20 => by omega)
    refine as_return d1_50 t1 ?_
    exact ⟨_, _, rfl, rfl, hX.1, hX.2.1, hX.2.2⟩
theorem mc_rootOf10 (X : am_X) (S : MS) (n : Nat) (J : LRel) (pa un cl rt ph : Nat → Nat) (hn : n ≤ 18) (hU : UM S 10 n pa un cl) (hp : UP n J pa un cl rt ph) (x : Nat) (hx : x < n) : MC X 2 [.ref (10), .int (nI (x))] S (some (.int (nI (rt x)))) ((S.sa 11 x (nI (rt x))).sa 12 x (nI (ph x))) := by
  refine MC.of (Nat.le_of_ble_eq_true rfl) ?_
  refine as_iload_n d2_0 rfl ?_
  refine as_istore_n d2_1 (by decide) ?_
  refine an_iconst 0 d2_2 rfl ?_
  refine as_istore_n d2_3 (by decide) ?_
  refine an_iconst 0 d2_4 rfl ?_
  refine as_istore d2_5 (by decide) ?_
  refine AW.loc [(0, .ref (10)), (1, .int (nI (x))), (2, .int (nI (x))), (3, .int (nI (0))), (4, .int (nI (0)))] (am_pick [3, 4, 2, 1, 0] rfl rfl) ?_
  refine aw_inv2 (σ := (Nat) × (Nat) × (Nat)) (fun σ => ((7, [(0, .ref (10)), (1, .int (nI (x))), (2, .int (nI (σ.1))), (3, .int (nI (σ.2.1))), (4, .int (nI (σ.2.2)))], [], 208, HP (S), 0, 0) : am_Z)) (fun σ => σ.1 ≤ x ∧ rt σ.1 = rt x ∧ σ.2.1 < 2 ∧ (σ.2.1 + ph σ.1) % 2 = ph x ∧ σ.2.2 + σ.1 ≤ x) (fun σ => σ.1) (fun σ hσ ihσ => ?_) (x, 0, 0) (rfl) (by dsimp only; exact ⟨Nat.le_refl _, rfl, by omega, by have := (hp.1 x hx).2.2.2.2.1; omega, by omega⟩)
  obtain ⟨r, u, i⟩ := σ
  dsimp only at hσ ihσ ⊢
  obtain ⟨q1, q2, q3, q4, q5⟩ := hσ
  obtain ⟨w1, w2, w3, w4, w5, w6, w7, w8, w9, w10⟩ := hp.1 r (by omega)
  refine as_iload d2_7 rfl ?_
  refine as_aload_n d2_9 rfl ?_
  refine ap_get d2_10 f2_32 (by decide) rfl rfl ?_
  refine an_top (e' := nI (n)) (hU.1) ?_
  refine an_icmp_ge 48 d2_13 (by decide) (by omega) (by omega) (fun c13 => by omega) (fun c13 => ?_)
  refine as_aload_n d2_16 rfl ?_
  refine ap_get d2_17 f2_7 (by decide) rfl rfl ?_
  refine as_iload_n d2_20 rfl ?_
  refine ap_iald d2_21 (fun _ _ _ _ => rfl) (by decide) (by omega) (by decide) ?_
  refine an_top (e' := nI (pa (r))) ((hU.2 _ (by omega)).1) ?_
  refine as_iload_n d2_22 rfl ?_
  refine an_icmp_eq 48 d2_23 (by decide) (by omega) (by omega) (fun c23 => ?_) (fun c23 => ?_)
  · obtain ⟨a1, a2⟩ := w9 c23
    have e1 : rt x = r := by rw [← q2, a1]
    have e2 : ph x = u := by rw [← q4, a2]; omega
    refine as_aload_n d2_48 rfl ?_
    refine ap_get d2_49 f2_7 (by decide) rfl rfl ?_
    refine as_iload_n d2_52 rfl ?_
    refine as_iload_n d2_53 rfl ?_
    refine ap_iast d2_54 (fun _ _ _ _ => rfl) (by decide) (by omega) (by decide) ?_
    refine as_aload_n d2_55 rfl ?_
    refine ap_get d2_56 f2_13 (by decide) rfl rfl ?_
    refine as_iload_n d2_59 rfl ?_
    refine as_iload_n d2_60 rfl ?_
    refine ap_iast d2_61 (fun _ _ _ _ => rfl) (by decide) (by omega) (by decide) ?_
    refine as_iload_n d2_62 rfl ?_
    refine as_ireturn d2_63 (by rw [t2]; rfl) ?_
    rw [e1, e2]
  · have a3 := w10 c23
    refine as_iload_n d2_26 rfl ?_
    refine as_aload_n d2_27 rfl ?_
    refine ap_get d2_28 f2_13 (by decide) rfl rfl ?_
    refine as_iload_n d2_31 rfl ?_
    refine ap_iald d2_32 (fun _ _ _ _ => rfl) (by decide) (by omega) (by decide) ?_
    refine an_top (e' := nI (un (r))) ((hU.2 _ (by omega)).2.1) ?_
    refine as_ixor d2_33 ?_
    refine an_top (e' := nI ((u + un r) % 2)) (nI_xor2 (by omega) (by omega)) ?_
    refine as_istore_n d2_34 (by decide) ?_
    refine as_aload_n d2_35 rfl ?_
    refine ap_get d2_36 f2_7 (by decide) rfl rfl ?_
    refine as_iload_n d2_39 rfl ?_
    refine ap_iald d2_40 (fun _ _ _ _ => rfl) (by decide) (by omega) (by decide) ?_
    refine an_top (e' := nI (pa (r))) ((hU.2 _ (by omega)).1) ?_
    refine as_istore_n d2_41 (by decide) ?_
    refine an_iinc 1 d2_42 rfl rfl (by decide) ?_
    refine as_goto 7 d2_45 (by decide) ?_
    refine AW.loc [(0, .ref (10)), (1, .int (nI (x))), (2, .int (nI (pa (r)))), (3, .int (nI ((u + un r) % 2))), (4, .int (nI (i + 1)))] (am_pick [3, 4, 1, 2, 0] rfl rfl) ?_
    exact ihσ (pa r, (u + un r) % 2, i + 1) (by dsimp only; exact ⟨by omega, by rw [w8, q2], by omega, by omega, by omega⟩) (by show pa r < r; omega)
theorem mx_join10 (X : am_X) (S : MS) (n : Nat) (J : LRel) (pa un cl rt ph : Nat → Nat) (hn : n ≤ 18) (hU : UM S 10 n pa un cl) (hp : UP n J pa un cl rt ph) (x y : Nat) (b : Bool) (hx : x < n) (hy : y < n) : ∃ T pa' un' cl' rt' ph', MC X 3 [.ref (10), .int (nI (x)), .int (nI (y)), .int (nI (bN b))] S none T ∧ gKeep 10 S T ∧ UM T 10 n pa' un' cl' ∧ UP n (jn J x y b) pa' un' cl' rt' ph' := by
  have m1 := mc_rootOf10 X S n J pa un cl rt ph hn hU hp x hx
  have u1 := hU.hang (rt := rt) (ph := ph) x
  have p1 := hp.hang hx
  have m2 := mc_rootOf10 X _ n J _ _ cl rt ph hn u1 p1 y hy
  have u2 := u1.hang (rt := rt) (ph := ph) y
  have p2 := p1.hang hy
  obtain ⟨S2, hS2⟩ : ∃ S2, S2 = ((((S.sa 11 x (nI (rt x))).sa 12 x (nI (ph x))).sa 11 y (nI (rt y))).sa 12 y (nI (ph y))) := ⟨_, rfl⟩
  have k2 : gKeep 10 S S2 := by rw [hS2]; exact ((((gKeep.rf 10 S).sa (by omega) _ _).sa (by omega) _ _).sa (by omega) _ _).sa (by omega) _ _
  rw [← hS2] at m2
  replace u2 : UM S2 10 n (fun z => if z = y then rt y else if z = x then rt x else pa z) (fun z => if z = y then ph y else if z = x then ph x else un z) cl := by rw [hS2]; exact u2
  have hbb := bN_lt b
  have hpx := (hp.1 x hx).2.2.2.2.1
  have hpy := (hp.1 y hy).2.2.2.2.1
  have hrx := (hp.1 x hx).2.2.2.1
  have hry := (hp.1 y hy).2.2.2.1
  have hux : S2.2.1 12 x = nI (ph x) := by
    rw [(u2.2 x hx).2.1]
    dsimp only
    by_cases e : x = y
    · rw [if_pos e, e]
    · rw [if_neg e, if_pos rfl]
  have huy : S2.2.1 12 y = nI (ph y) := by
    rw [(u2.2 y hy).2.1]
    dsimp only
    rw [if_pos rfl]
  have key := MX.mc (X := X) (mj := 3) (as := [.ref (10), .int (nI (x)), .int (nI (y)), .int (nI (bN b))]) (S := S) (Post := fun v T => v = none ∧ ∃ pa' un' cl' rt' ph', gKeep 10 S T ∧ UM T 10 n pa' un' cl' ∧ UP n (jn J x y b) pa' un' cl' rt' ph') ?_
  · obtain ⟨v, T, g1, g2, pa', un', cl', rt', ph', g3⟩ := key
    subst g2
    exact ⟨T, pa', un', cl', rt', ph', g1, g3⟩
  refine MX.of (Nat.le_of_ble_eq_true rfl) ?_
  refine as_aload_n d3_0 rfl ?_
  refine as_iload_n d3_1 rfl ?_
  refine ac_v1 d3_2 c3_36 (by decide) rfl (Nat.le_of_ble_eq_true rfl) (m1) ?_
  refine as_istore d3_5 (by decide) ?_
  refine as_aload_n d3_7 rfl ?_
  refine as_iload_n d3_8 rfl ?_
  refine ac_v1 d3_9 c3_36 (by decide) rfl (Nat.le_of_ble_eq_true rfl) (m2) ?_
  refine as_istore d3_12 (by decide) ?_
  refine as_aload_n d3_14 rfl ?_
  refine ap_get d3_15 f3_13 (by decide) rfl rfl ?_
  refine as_iload_n d3_18 rfl ?_
  refine ap_iald d3_19 (fun _ _ _ _ => rfl) (by decide) (by omega) (by decide) ?_
  refine an_top (e' := nI (ph x)) (hux) ?_
  refine as_aload_n d3_20 rfl ?_
  refine ap_get d3_21 f3_13 (by decide) rfl rfl ?_
  refine as_iload_n d3_24 rfl ?_
  refine ap_iald d3_25 (fun _ _ _ _ => rfl) (by decide) (by omega) (by decide) ?_
  refine an_top (e' := nI (ph y)) (huy) ?_
  refine as_ixor d3_26 ?_
  refine an_top (e' := nI ((ph x + ph y) % 2)) (nI_xor2 hpx hpy) ?_
  refine as_iload_n d3_27 rfl ?_
  refine an_if_eq 35 d3_28 (by decide) (by omega) (fun c28 => ?_) (fun c28 => ?_)
  · have hb1 : bN b = 0 := c28
    refine an_iconst 0 d3_35 rfl ?_
    refine as_ixor d3_36 ?_
    refine an_top (e' := nI ((ph x + ph y + bN b) % 2)) (by rw [hb1]; rw [nI_xor2 (by omega) (by omega)]; congr 1; omega) ?_
    refine as_istore d3_37 (by decide) ?_
    refine as_iload d3_39 rfl ?_
    refine as_iload d3_41 rfl ?_
    refine an_icmp_ne 61 d3_43 (by decide) (by omega) (by omega) (fun c43 => ?_) (fun c43 => ?_)
    · obtain ⟨lo, hi, hlt, hlh, elo, ehi⟩ : ∃ lo hi, lo < hi ∧ ((rt x = lo ∧ rt y = hi) ∨ (rt x = hi ∧ rt y = lo)) ∧ lo = (if rt y < rt x then rt y else rt x) ∧ hi = (if rt x < rt y then rt y else rt x) := by
        rcases Nat.lt_or_gt_of_ne c43 with g | g
        · exact ⟨rt x, rt y, g, Or.inl ⟨rfl, rfl⟩, by rw [if_neg (by omega)], by rw [if_pos g]⟩
        · exact ⟨rt y, rt x, g, Or.inr ⟨rfl, rfl⟩, by rw [if_pos g], by rw [if_neg (by omega)]⟩
      have hhi : hi < n := by omega
      have p3 := p2.link (b := b) hx hy hlh hlt
      have u3 := u2.lk hi lo ((ph x + ph y + bN b) % 2)
      refine as_iload d3_61 rfl ?_
      refine as_iload d3_63 rfl ?_
      refine ac_min d3_65 c3_26 (by decide) (Nat.le_of_ble_eq_true rfl) ?_
      refine an_top (e' := nI (lo)) (by rw [elo]; exact nI_minI (by omega) (by omega)) ?_
      refine as_istore d3_68 (by decide) ?_
      refine as_iload d3_70 rfl ?_
      refine as_iload d3_72 rfl ?_
      refine ac_max d3_74 c3_40 (by decide) (Nat.le_of_ble_eq_true rfl) ?_
      refine an_top (e' := nI (hi)) (by rw [ehi]; exact nI_maxI (by omega) (by omega)) ?_
      refine as_istore d3_77 (by decide) ?_
      refine as_aload_n d3_79 rfl ?_
      refine ap_get d3_80 f3_7 (by decide) rfl rfl ?_
      refine as_iload d3_83 rfl ?_
      refine as_iload d3_85 rfl ?_
      refine ap_iast d3_87 (fun _ _ _ _ => rfl) (by decide) (by omega) (by decide) ?_
      refine as_aload_n d3_88 rfl ?_
      refine ap_get d3_89 f3_13 (by decide) rfl rfl ?_
      refine as_iload d3_92 rfl ?_
      refine as_iload d3_94 rfl ?_
      refine ap_iast d3_96 (fun _ _ _ _ => rfl) (by decide) (by omega) (by decide) ?_
      refine as_aload_n d3_97 rfl ?_
      refine ap_get d3_98 f3_16 (by decide) rfl rfl ?_
      refine as_iload d3_101 rfl ?_
      refine ap_zald d3_103 (fun _ _ _ _ => rfl) (by decide) (by omega) (by decide) ?_
      refine an_top (e' := nI (cl hi)) ((u3.2 hi hhi).2.2) ?_
      refine an_if_eq 115 d3_104 (by decide) (by have := (hp.1 hi hhi).2.2.1; omega) (fun c104 => ?_) (fun c104 => ?_)
      · refine as_return d3_115 t3 ?_
        first
        | exact ⟨_, _, rfl, rfl, _, _, _, _, _, k2, u2.congr (fun _ _ => rfl) (fun _ _ => rfl) (fun z hz => if_neg (fun g => c49 g.1)), p3⟩
        | exact ⟨_, _, rfl, rfl, _, _, _, _, _, k2.sa (by omega) _ _, (u2.cl (r := rt x)).congr (fun _ _ => rfl) (fun _ _ => rfl) (fun z hz => by simp only [c49, true_and]), p3⟩
        | exact ⟨_, _, rfl, rfl, _, _, _, _, _, (k2.sa (by omega) _ _).sa (by omega) _ _, u3.congr (fun _ _ => rfl) (fun _ _ => rfl) (fun z hz => if_neg (fun g => by omega)), p3⟩
        | exact ⟨_, _, rfl, rfl, _, _, _, _, _, ((k2.sa (by omega) _ _).sa (by omega) _ _).sa (by omega) _ _, (u3.cl (r := lo)).congr (fun _ _ => rfl) (fun _ _ => rfl) (fun z hz => cl_and (by have := (hp.1 hi hhi).2.2.1; omega)), p3⟩
      · refine as_aload_n d3_107 rfl ?_
        refine ap_get d3_108 f3_16 (by decide) rfl rfl ?_
        refine as_iload d3_111 rfl ?_
        refine an_iconst 1 d3_113 rfl ?_
        refine ap_zast d3_114 (fun _ _ _ _ => rfl) (by decide) (by omega) (by decide) (rfl) ?_
        refine as_return d3_115 t3 ?_
        first
        | exact ⟨_, _, rfl, rfl, _, _, _, _, _, k2, u2.congr (fun _ _ => rfl) (fun _ _ => rfl) (fun z hz => if_neg (fun g => c49 g.1)), p3⟩
        | exact ⟨_, _, rfl, rfl, _, _, _, _, _, k2.sa (by omega) _ _, (u2.cl (r := rt x)).congr (fun _ _ => rfl) (fun _ _ => rfl) (fun z hz => by simp only [c49, true_and]), p3⟩
        | exact ⟨_, _, rfl, rfl, _, _, _, _, _, (k2.sa (by omega) _ _).sa (by omega) _ _, u3.congr (fun _ _ => rfl) (fun _ _ => rfl) (fun z hz => if_neg (fun g => by omega)), p3⟩
        | exact ⟨_, _, rfl, rfl, _, _, _, _, _, ((k2.sa (by omega) _ _).sa (by omega) _ _).sa (by omega) _ _, (u3.cl (r := lo)).congr (fun _ _ => rfl) (fun _ _ => rfl) (fun z hz => cl_and (by have := (hp.1 hi hhi).2.2.1; omega)), p3⟩
    · have p3 := p2.same (b := b) hx hy c43
      refine as_iload d3_46 rfl ?_
      refine an_iconst 1 d3_48 rfl ?_
      refine an_icmp_ne 60 d3_49 (by decide) (by omega) (by omega) (fun c49 => ?_) (fun c49 => ?_)
      · refine as_return d3_60 t3 ?_
        first
        | exact ⟨_, _, rfl, rfl, _, _, _, _, _, k2, u2.congr (fun _ _ => rfl) (fun _ _ => rfl) (fun z hz => if_neg (fun g => c49 g.1)), p3⟩
        | exact ⟨_, _, rfl, rfl, _, _, _, _, _, k2.sa (by omega) _ _, (u2.cl (r := rt x)).congr (fun _ _ => rfl) (fun _ _ => rfl) (fun z hz => by simp only [c49, true_and]), p3⟩
        | exact ⟨_, _, rfl, rfl, _, _, _, _, _, (k2.sa (by omega) _ _).sa (by omega) _ _, u3.congr (fun _ _ => rfl) (fun _ _ => rfl) (fun z hz => if_neg (fun g => by omega)), p3⟩
        | exact ⟨_, _, rfl, rfl, _, _, _, _, _, ((k2.sa (by omega) _ _).sa (by omega) _ _).sa (by omega) _ _, (u3.cl (r := lo)).congr (fun _ _ => rfl) (fun _ _ => rfl) (fun z hz => cl_and (by have := (hp.1 hi hhi).2.2.1; omega)), p3⟩
      · refine as_aload_n d3_52 rfl ?_
        refine ap_get d3_53 f3_16 (by decide) rfl rfl ?_
        refine as_iload d3_56 rfl ?_
        refine an_iconst 1 d3_58 rfl ?_
        refine ap_zast d3_59 (fun _ _ _ _ => rfl) (by decide) (by omega) (by decide) (rfl) ?_
        refine as_return d3_60 t3 ?_
        first
        | exact ⟨_, _, rfl, rfl, _, _, _, _, _, k2, u2.congr (fun _ _ => rfl) (fun _ _ => rfl) (fun z hz => if_neg (fun g => c49 g.1)), p3⟩
        | exact ⟨_, _, rfl, rfl, _, _, _, _, _, k2.sa (by omega) _ _, (u2.cl (r := rt x)).congr (fun _ _ => rfl) (fun _ _ => rfl) (fun z hz => by simp only [c49, true_and]), p3⟩
        | exact ⟨_, _, rfl, rfl, _, _, _, _, _, (k2.sa (by omega) _ _).sa (by omega) _ _, u3.congr (fun _ _ => rfl) (fun _ _ => rfl) (fun z hz => if_neg (fun g => by omega)), p3⟩
        | exact ⟨_, _, rfl, rfl, _, _, _, _, _, ((k2.sa (by omega) _ _).sa (by omega) _ _).sa (by omega) _ _, (u3.cl (r := lo)).congr (fun _ _ => rfl) (fun _ _ => rfl) (fun z hz => cl_and (by have := (hp.1 hi hhi).2.2.1; omega)), p3⟩
  · have hb1 : bN b = 1 := by omega
    refine an_iconst 1 d3_31 rfl ?_
    refine as_goto 36 d3_32 (by decide) ?_
    refine as_ixor d3_36 ?_
    refine an_top (e' := nI ((ph x + ph y + bN b) % 2)) (by rw [hb1]; rw [nI_xor2 (by omega) (by omega)]; congr 1; omega) ?_
    refine as_istore d3_37 (by decide) ?_
    refine as_iload d3_39 rfl ?_
    refine as_iload d3_41 rfl ?_
    refine an_icmp_ne 61 d3_43 (by decide) (by omega) (by omega) (fun c43 => ?_) (fun c43 => ?_)
    · obtain ⟨lo, hi, hlt, hlh, elo, ehi⟩ : ∃ lo hi, lo < hi ∧ ((rt x = lo ∧ rt y = hi) ∨ (rt x = hi ∧ rt y = lo)) ∧ lo = (if rt y < rt x then rt y else rt x) ∧ hi = (if rt x < rt y then rt y else rt x) := by
        rcases Nat.lt_or_gt_of_ne c43 with g | g
        · exact ⟨rt x, rt y, g, Or.inl ⟨rfl, rfl⟩, by rw [if_neg (by omega)], by rw [if_pos g]⟩
        · exact ⟨rt y, rt x, g, Or.inr ⟨rfl, rfl⟩, by rw [if_pos g], by rw [if_neg (by omega)]⟩
      have hhi : hi < n := by omega
      have p3 := p2.link (b := b) hx hy hlh hlt
      have u3 := u2.lk hi lo ((ph x + ph y + bN b) % 2)
      refine as_iload d3_61 rfl ?_
      refine as_iload d3_63 rfl ?_
      refine ac_min d3_65 c3_26 (by decide) (Nat.le_of_ble_eq_true rfl) ?_
      refine an_top (e' := nI (lo)) (by rw [elo]; exact nI_minI (by omega) (by omega)) ?_
      refine as_istore d3_68 (by decide) ?_
      refine as_iload d3_70 rfl ?_
      refine as_iload d3_72 rfl ?_
      refine ac_max d3_74 c3_40 (by decide) (Nat.le_of_ble_eq_true rfl) ?_
      refine an_top (e' := nI (hi)) (by rw [ehi]; exact nI_maxI (by omega) (by omega)) ?_
      refine as_istore d3_77 (by decide) ?_
      refine as_aload_n d3_79 rfl ?_
      refine ap_get d3_80 f3_7 (by decide) rfl rfl ?_
      refine as_iload d3_83 rfl ?_
      refine as_iload d3_85 rfl ?_
      refine ap_iast d3_87 (fun _ _ _ _ => rfl) (by decide) (by omega) (by decide) ?_
      refine as_aload_n d3_88 rfl ?_
      refine ap_get d3_89 f3_13 (by decide) rfl rfl ?_
      refine as_iload d3_92 rfl ?_
      refine as_iload d3_94 rfl ?_
      refine ap_iast d3_96 (fun _ _ _ _ => rfl) (by decide) (by omega) (by decide) ?_
      refine as_aload_n d3_97 rfl ?_
      refine ap_get d3_98 f3_16 (by decide) rfl rfl ?_
      refine as_iload d3_101 rfl ?_
      refine ap_zald d3_103 (fun _ _ _ _ => rfl) (by decide) (by omega) (by decide) ?_
      refine an_top (e' := nI (cl hi)) ((u3.2 hi hhi).2.2) ?_
      refine an_if_eq 115 d3_104 (by decide) (by have := (hp.1 hi hhi).2.2.1; omega) (fun c104 => ?_) (fun c104 => ?_)
      · refine as_return d3_115 t3 ?_
        first
        | exact ⟨_, _, rfl, rfl, _, _, _, _, _, k2, u2.congr (fun _ _ => rfl) (fun _ _ => rfl) (fun z hz => if_neg (fun g => c49 g.1)), p3⟩
        | exact ⟨_, _, rfl, rfl, _, _, _, _, _, k2.sa (by omega) _ _, (u2.cl (r := rt x)).congr (fun _ _ => rfl) (fun _ _ => rfl) (fun z hz => by simp only [c49, true_and]), p3⟩
        | exact ⟨_, _, rfl, rfl, _, _, _, _, _, (k2.sa (by omega) _ _).sa (by omega) _ _, u3.congr (fun _ _ => rfl) (fun _ _ => rfl) (fun z hz => if_neg (fun g => by omega)), p3⟩
        | exact ⟨_, _, rfl, rfl, _, _, _, _, _, ((k2.sa (by omega) _ _).sa (by omega) _ _).sa (by omega) _ _, (u3.cl (r := lo)).congr (fun _ _ => rfl) (fun _ _ => rfl) (fun z hz => cl_and (by have := (hp.1 hi hhi).2.2.1; omega)), p3⟩
      · refine as_aload_n d3_107 rfl ?_
        refine ap_get d3_108 f3_16 (by decide) rfl rfl ?_
        refine as_iload d3_111 rfl ?_
        refine an_iconst 1 d3_113 rfl ?_
        refine ap_zast d3_114 (fun _ _ _ _ => rfl) (by decide) (by omega) (by decide) (rfl) ?_
        refine as_return d3_115 t3 ?_
        first
        | exact ⟨_, _, rfl, rfl, _, _, _, _, _, k2, u2.congr (fun _ _ => rfl) (fun _ _ => rfl) (fun z hz => if_neg (fun g => c49 g.1)), p3⟩
        | exact ⟨_, _, rfl, rfl, _, _, _, _, _, k2.sa (by omega) _ _, (u2.cl (r := rt x)).congr (fun _ _ => rfl) (fun _ _ => rfl) (fun z hz => by simp only [c49, true_and]), p3⟩
        | exact ⟨_, _, rfl, rfl, _, _, _, _, _, (k2.sa (by omega) _ _).sa (by omega) _ _, u3.congr (fun _ _ => rfl) (fun _ _ => rfl) (fun z hz => if_neg (fun g => by omega)), p3⟩
        | exact ⟨_, _, rfl, rfl, _, _, _, _, _, ((k2.sa (by omega) _ _).sa (by omega) _ _).sa (by omega) _ _, (u3.cl (r := lo)).congr (fun _ _ => rfl) (fun _ _ => rfl) (fun z hz => cl_and (by have := (hp.1 hi hhi).2.2.1; omega)), p3⟩
    · have p3 := p2.same (b := b) hx hy c43
      refine as_iload d3_46 rfl ?_
      refine an_iconst 1 d3_48 rfl ?_
      refine an_icmp_ne 60 d3_49 (by decide) (by omega) (by omega) (fun c49 => ?_) (fun c49 => ?_)
      · refine as_return d3_60 t3 ?_
        first
        | exact ⟨_, _, rfl, rfl, _, _, _, _, _, k2, u2.congr (fun _ _ => rfl) (fun _ _ => rfl) (fun z hz => if_neg (fun g => c49 g.1)), p3⟩
        | exact ⟨_, _, rfl, rfl, _, _, _, _, _, k2.sa (by omega) _ _, (u2.cl (r := rt x)).congr (fun _ _ => rfl) (fun _ _ => rfl) (fun z hz => by simp only [c49, true_and]), p3⟩
        | exact ⟨_, _, rfl, rfl, _, _, _, _, _, (k2.sa (by omega) _ _).sa (by omega) _ _, u3.congr (fun _ _ => rfl) (fun _ _ => rfl) (fun z hz => if_neg (fun g => by omega)), p3⟩
        | exact ⟨_, _, rfl, rfl, _, _, _, _, _, ((k2.sa (by omega) _ _).sa (by omega) _ _).sa (by omega) _ _, (u3.cl (r := lo)).congr (fun _ _ => rfl) (fun _ _ => rfl) (fun z hz => cl_and (by have := (hp.1 hi hhi).2.2.1; omega)), p3⟩
      · refine as_aload_n d3_52 rfl ?_
        refine ap_get d3_53 f3_16 (by decide) rfl rfl ?_
        refine as_iload d3_56 rfl ?_
        refine an_iconst 1 d3_58 rfl ?_
        refine ap_zast d3_59 (fun _ _ _ _ => rfl) (by decide) (by omega) (by decide) (rfl) ?_
        refine as_return d3_60 t3 ?_
        first
        | exact ⟨_, _, rfl, rfl, _, _, _, _, _, k2, u2.congr (fun _ _ => rfl) (fun _ _ => rfl) (fun z hz => if_neg (fun g => c49 g.1)), p3⟩
        | exact ⟨_, _, rfl, rfl, _, _, _, _, _, k2.sa (by omega) _ _, (u2.cl (r := rt x)).congr (fun _ _ => rfl) (fun _ _ => rfl) (fun z hz => by simp only [c49, true_and]), p3⟩
        | exact ⟨_, _, rfl, rfl, _, _, _, _, _, (k2.sa (by omega) _ _).sa (by omega) _ _, u3.congr (fun _ _ => rfl) (fun _ _ => rfl) (fun z hz => if_neg (fun g => by omega)), p3⟩
        | exact ⟨_, _, rfl, rfl, _, _, _, _, _, ((k2.sa (by omega) _ _).sa (by omega) _ _).sa (by omega) _ _, (u3.cl (r := lo)).congr (fun _ _ => rfl) (fun _ _ => rfl) (fun z hz => cl_and (by have := (hp.1 hi hhi).2.2.1; omega)), p3⟩
theorem mx_start16 (X : am_X) (S : MS) (n : Nat) (hn : n ≤ 3) : ∃ T, MC X 1 [.ref (16), .int (nI (n))] S none T ∧ sKeep 16 S T ∧ UM T 16 n (fun x => x) (fun _ => 0) (fun _ => 0) := by
  have key := MX.mc (X := X) (mj := 1) (as := [.ref (16), .int (nI (n))]) (S := S) (Post := fun v T => v = none ∧ sKeep 16 S T ∧ UM T 16 n (fun x => x) (fun _ => 0) (fun _ => 0)) ?_
  · obtain ⟨v, T, g1, g2, g3⟩ := key
    subst g2
    exact ⟨T, g1, g3⟩
  refine MX.of (Nat.le_of_ble_eq_true rfl) ?_
  refine as_aload_n d1_0 rfl ?_
  refine as_iload_n d1_1 rfl ?_
  refine as_aload_n d1_2 rfl ?_
  refine ap_get d1_3 f1_7 (by decide) rfl rfl ?_
  refine as_alen d1_6 (by decide) rfl (by decide) ?_
  refine an_top (e' := nI 3) rfl ?_
  refine ac_min d1_7 c1_26 (by decide) (Nat.le_of_ble_eq_true rfl) ?_
  refine an_top (e' := nI (n)) (by rw [if_neg (fun g => absurd ((nI_ltI (by omega) (by omega)).mp g) (by omega))]) ?_
  refine ap_put d1_10 f1_32 (by decide) rfl (Nat.le_of_ble_eq_true rfl) (rfl) rfl rfl ?_
  refine an_iconst 0 d1_13 rfl ?_
  refine as_istore_n d1_14 (by decide) ?_
  refine AW.loc [(0, .ref (16)), (2, .int (nI (0)))] (am_pick [1, 0] rfl rfl) ?_
  refine aw_fromE (fun i T => ((15, [(0, .ref (16)), (2, .int (nI (i)))], [], 208, HP (T), 0, 0) : am_Z)) (fun i T => sKeep 16 S T ∧ T.1 16 5 = nI n ∧ ∀ x, x < i → T.2.1 17 x = nI x ∧ T.2.1 18 x = nI 0 ∧ T.2.1 19 x = nI 0) (0) (n) (by omega) ((S).sf 16 5 (nI (n))) (rfl) (⟨(sKeep.rf 16 S).sf (by omega) _, by rw [sf_at, if_pos ⟨rfl, rfl⟩], fun x hx => by omega⟩) (fun i T hi0 hi hI ih => ?_) (fun T hX => ?_)
  · refine as_iload_n d1_15 rfl ?_
    refine as_aload_n d1_16 rfl ?_
    refine ap_get d1_17 f1_32 (by decide) rfl rfl ?_
    refine an_top (e' := nI (n)) (hI.2.1) ?_
    refine an_icmp_ge 50 d1_20 (by decide) (by omega) (by omega) (fun c20 => by omega) (fun c20 => ?_)
    refine as_aload_n d1_23 rfl ?_
    refine ap_get d1_24 f1_7 (by decide) rfl rfl ?_
    refine as_iload_n d1_27 rfl ?_
    refine as_iload_n d1_28 rfl ?_
    refine ap_iast d1_29 (fun _ _ _ _ => rfl) (by decide) (by omega) (by decide) ?_
    refine as_aload_n d1_30 rfl ?_
    refine ap_get d1_31 f1_13 (by decide) rfl rfl ?_
    refine as_iload_n d1_34 rfl ?_
    refine an_iconst 0 d1_35 rfl ?_
    refine ap_iast d1_36 (fun _ _ _ _ => rfl) (by decide) (by omega) (by decide) ?_
    refine as_aload_n d1_37 rfl ?_
    refine ap_get d1_38 f1_16 (by decide) rfl rfl ?_
    refine as_iload_n d1_41 rfl ?_
    refine an_iconst 0 d1_42 rfl ?_
    refine ap_zast d1_43 (fun _ _ _ _ => rfl) (by decide) (by omega) (by decide) (rfl) ?_
    refine an_iinc 1 d1_44 rfl rfl (by decide) ?_
    refine as_goto 15 d1_47 (by decide) ?_
    refine AW.loc [(0, .ref (16)), (2, .int (nI (i + 1)))] (am_pick [1, 0] rfl rfl) ?_
    have ih := ih ((((T).sa 17 (i) (nI (i))).sa 18 (i) (nI (0))).sa 19 (i) (nI (0))) (⟨((hI.1.sa (by omega) _ _).sa (by omega) _ _).sa (by omega) _ _, hI.2.1, fun x hx => by
      rw [sa_row _ _ _ _ (by decide), sa_row _ _ _ _ (by decide), sa_at, sa_row _ _ _ _ (by decide), sa_at, sa_row _ _ _ _ (by decide), sa_at, sa_row _ _ _ _ (by decide), sa_row _ _ _ _ (by decide)]
      by_cases e : x = i
      · rw [if_pos e, if_pos e, if_pos e, e]
        exact ⟨rfl, rfl, rfl⟩
      · rw [if_neg e, if_neg e, if_neg e]
        exact hI.2.2 x (by omega)⟩)
    exact ih
  · refine as_iload_n d1_15 rfl ?_
    refine as_aload_n d1_16 rfl ?_
    refine ap_get d1_17 f1_32 (by decide) rfl rfl ?_
    refine an_top (e' := nI (n)) (hX.2.1) ?_
    refine an_icmp_ge 50 d1_20 (by decide) (by omega) (by omega) (fun c20 => ?_) (fun c20 => by omega)
    refine as_return d1_50 t1 ?_
    exact ⟨_, _, rfl, rfl, hX.1, hX.2.1, hX.2.2⟩
theorem mc_rootOf16 (X : am_X) (S : MS) (n : Nat) (J : LRel) (pa un cl rt ph : Nat → Nat) (hn : n ≤ 3) (hU : UM S 16 n pa un cl) (hp : UP n J pa un cl rt ph) (x : Nat) (hx : x < n) : MC X 2 [.ref (16), .int (nI (x))] S (some (.int (nI (rt x)))) ((S.sa 17 x (nI (rt x))).sa 18 x (nI (ph x))) := by
  refine MC.of (Nat.le_of_ble_eq_true rfl) ?_
  refine as_iload_n d2_0 rfl ?_
  refine as_istore_n d2_1 (by decide) ?_
  refine an_iconst 0 d2_2 rfl ?_
  refine as_istore_n d2_3 (by decide) ?_
  refine an_iconst 0 d2_4 rfl ?_
  refine as_istore d2_5 (by decide) ?_
  refine AW.loc [(0, .ref (16)), (1, .int (nI (x))), (2, .int (nI (x))), (3, .int (nI (0))), (4, .int (nI (0)))] (am_pick [3, 4, 2, 1, 0] rfl rfl) ?_
  refine aw_inv2 (σ := (Nat) × (Nat) × (Nat)) (fun σ => ((7, [(0, .ref (16)), (1, .int (nI (x))), (2, .int (nI (σ.1))), (3, .int (nI (σ.2.1))), (4, .int (nI (σ.2.2)))], [], 208, HP (S), 0, 0) : am_Z)) (fun σ => σ.1 ≤ x ∧ rt σ.1 = rt x ∧ σ.2.1 < 2 ∧ (σ.2.1 + ph σ.1) % 2 = ph x ∧ σ.2.2 + σ.1 ≤ x) (fun σ => σ.1) (fun σ hσ ihσ => ?_) (x, 0, 0) (rfl) (by dsimp only; exact ⟨Nat.le_refl _, rfl, by omega, by have := (hp.1 x hx).2.2.2.2.1; omega, by omega⟩)
  obtain ⟨r, u, i⟩ := σ
  dsimp only at hσ ihσ ⊢
  obtain ⟨q1, q2, q3, q4, q5⟩ := hσ
  obtain ⟨w1, w2, w3, w4, w5, w6, w7, w8, w9, w10⟩ := hp.1 r (by omega)
  refine as_iload d2_7 rfl ?_
  refine as_aload_n d2_9 rfl ?_
  refine ap_get d2_10 f2_32 (by decide) rfl rfl ?_
  refine an_top (e' := nI (n)) (hU.1) ?_
  refine an_icmp_ge 48 d2_13 (by decide) (by omega) (by omega) (fun c13 => by omega) (fun c13 => ?_)
  refine as_aload_n d2_16 rfl ?_
  refine ap_get d2_17 f2_7 (by decide) rfl rfl ?_
  refine as_iload_n d2_20 rfl ?_
  refine ap_iald d2_21 (fun _ _ _ _ => rfl) (by decide) (by omega) (by decide) ?_
  refine an_top (e' := nI (pa (r))) ((hU.2 _ (by omega)).1) ?_
  refine as_iload_n d2_22 rfl ?_
  refine an_icmp_eq 48 d2_23 (by decide) (by omega) (by omega) (fun c23 => ?_) (fun c23 => ?_)
  · obtain ⟨a1, a2⟩ := w9 c23
    have e1 : rt x = r := by rw [← q2, a1]
    have e2 : ph x = u := by rw [← q4, a2]; omega
    refine as_aload_n d2_48 rfl ?_
    refine ap_get d2_49 f2_7 (by decide) rfl rfl ?_
    refine as_iload_n d2_52 rfl ?_
    refine as_iload_n d2_53 rfl ?_
    refine ap_iast d2_54 (fun _ _ _ _ => rfl) (by decide) (by omega) (by decide) ?_
    refine as_aload_n d2_55 rfl ?_
    refine ap_get d2_56 f2_13 (by decide) rfl rfl ?_
    refine as_iload_n d2_59 rfl ?_
    refine as_iload_n d2_60 rfl ?_
    refine ap_iast d2_61 (fun _ _ _ _ => rfl) (by decide) (by omega) (by decide) ?_
    refine as_iload_n d2_62 rfl ?_
    refine as_ireturn d2_63 (by rw [t2]; rfl) ?_
    rw [e1, e2]
  · have a3 := w10 c23
    refine as_iload_n d2_26 rfl ?_
    refine as_aload_n d2_27 rfl ?_
    refine ap_get d2_28 f2_13 (by decide) rfl rfl ?_
    refine as_iload_n d2_31 rfl ?_
    refine ap_iald d2_32 (fun _ _ _ _ => rfl) (by decide) (by omega) (by decide) ?_
    refine an_top (e' := nI (un (r))) ((hU.2 _ (by omega)).2.1) ?_
    refine as_ixor d2_33 ?_
    refine an_top (e' := nI ((u + un r) % 2)) (nI_xor2 (by omega) (by omega)) ?_
    refine as_istore_n d2_34 (by decide) ?_
    refine as_aload_n d2_35 rfl ?_
    refine ap_get d2_36 f2_7 (by decide) rfl rfl ?_
    refine as_iload_n d2_39 rfl ?_
    refine ap_iald d2_40 (fun _ _ _ _ => rfl) (by decide) (by omega) (by decide) ?_
    refine an_top (e' := nI (pa (r))) ((hU.2 _ (by omega)).1) ?_
    refine as_istore_n d2_41 (by decide) ?_
    refine an_iinc 1 d2_42 rfl rfl (by decide) ?_
    refine as_goto 7 d2_45 (by decide) ?_
    refine AW.loc [(0, .ref (16)), (1, .int (nI (x))), (2, .int (nI (pa (r)))), (3, .int (nI ((u + un r) % 2))), (4, .int (nI (i + 1)))] (am_pick [3, 4, 1, 2, 0] rfl rfl) ?_
    exact ihσ (pa r, (u + un r) % 2, i + 1) (by dsimp only; exact ⟨by omega, by rw [w8, q2], by omega, by omega, by omega⟩) (by show pa r < r; omega)
theorem mx_join16 (X : am_X) (S : MS) (n : Nat) (J : LRel) (pa un cl rt ph : Nat → Nat) (hn : n ≤ 3) (hU : UM S 16 n pa un cl) (hp : UP n J pa un cl rt ph) (x y : Nat) (b : Bool) (hx : x < n) (hy : y < n) : ∃ T pa' un' cl' rt' ph', MC X 3 [.ref (16), .int (nI (x)), .int (nI (y)), .int (nI (bN b))] S none T ∧ gKeep 16 S T ∧ UM T 16 n pa' un' cl' ∧ UP n (jn J x y b) pa' un' cl' rt' ph' := by
  have m1 := mc_rootOf16 X S n J pa un cl rt ph hn hU hp x hx
  have u1 := hU.hang (rt := rt) (ph := ph) x
  have p1 := hp.hang hx
  have m2 := mc_rootOf16 X _ n J _ _ cl rt ph hn u1 p1 y hy
  have u2 := u1.hang (rt := rt) (ph := ph) y
  have p2 := p1.hang hy
  obtain ⟨S2, hS2⟩ : ∃ S2, S2 = ((((S.sa 17 x (nI (rt x))).sa 18 x (nI (ph x))).sa 17 y (nI (rt y))).sa 18 y (nI (ph y))) := ⟨_, rfl⟩
  have k2 : gKeep 16 S S2 := by rw [hS2]; exact ((((gKeep.rf 16 S).sa (by omega) _ _).sa (by omega) _ _).sa (by omega) _ _).sa (by omega) _ _
  rw [← hS2] at m2
  replace u2 : UM S2 16 n (fun z => if z = y then rt y else if z = x then rt x else pa z) (fun z => if z = y then ph y else if z = x then ph x else un z) cl := by rw [hS2]; exact u2
  have hbb := bN_lt b
  have hpx := (hp.1 x hx).2.2.2.2.1
  have hpy := (hp.1 y hy).2.2.2.2.1
  have hrx := (hp.1 x hx).2.2.2.1
  have hry := (hp.1 y hy).2.2.2.1
  have hux : S2.2.1 18 x = nI (ph x) := by
    rw [(u2.2 x hx).2.1]
    dsimp only
    by_cases e : x = y
    · rw [if_pos e, e]
    · rw [if_neg e, if_pos rfl]
  have huy : S2.2.1 18 y = nI (ph y) := by
    rw [(u2.2 y hy).2.1]
    dsimp only
    rw [if_pos rfl]
  have key := MX.mc (X := X) (mj := 3) (as := [.ref (16), .int (nI (x)), .int (nI (y)), .int (nI (bN b))]) (S := S) (Post := fun v T => v = none ∧ ∃ pa' un' cl' rt' ph', gKeep 16 S T ∧ UM T 16 n pa' un' cl' ∧ UP n (jn J x y b) pa' un' cl' rt' ph') ?_
  · obtain ⟨v, T, g1, g2, pa', un', cl', rt', ph', g3⟩ := key
    subst g2
    exact ⟨T, pa', un', cl', rt', ph', g1, g3⟩
  refine MX.of (Nat.le_of_ble_eq_true rfl) ?_
  refine as_aload_n d3_0 rfl ?_
  refine as_iload_n d3_1 rfl ?_
  refine ac_v1 d3_2 c3_36 (by decide) rfl (Nat.le_of_ble_eq_true rfl) (m1) ?_
  refine as_istore d3_5 (by decide) ?_
  refine as_aload_n d3_7 rfl ?_
  refine as_iload_n d3_8 rfl ?_
  refine ac_v1 d3_9 c3_36 (by decide) rfl (Nat.le_of_ble_eq_true rfl) (m2) ?_
  refine as_istore d3_12 (by decide) ?_
  refine as_aload_n d3_14 rfl ?_
  refine ap_get d3_15 f3_13 (by decide) rfl rfl ?_
  refine as_iload_n d3_18 rfl ?_
  refine ap_iald d3_19 (fun _ _ _ _ => rfl) (by decide) (by omega) (by decide) ?_
  refine an_top (e' := nI (ph x)) (hux) ?_
  refine as_aload_n d3_20 rfl ?_
  refine ap_get d3_21 f3_13 (by decide) rfl rfl ?_
  refine as_iload_n d3_24 rfl ?_
  refine ap_iald d3_25 (fun _ _ _ _ => rfl) (by decide) (by omega) (by decide) ?_
  refine an_top (e' := nI (ph y)) (huy) ?_
  refine as_ixor d3_26 ?_
  refine an_top (e' := nI ((ph x + ph y) % 2)) (nI_xor2 hpx hpy) ?_
  refine as_iload_n d3_27 rfl ?_
  refine an_if_eq 35 d3_28 (by decide) (by omega) (fun c28 => ?_) (fun c28 => ?_)
  · have hb1 : bN b = 0 := c28
    refine an_iconst 0 d3_35 rfl ?_
    refine as_ixor d3_36 ?_
    refine an_top (e' := nI ((ph x + ph y + bN b) % 2)) (by rw [hb1]; rw [nI_xor2 (by omega) (by omega)]; congr 1; omega) ?_
    refine as_istore d3_37 (by decide) ?_
    refine as_iload d3_39 rfl ?_
    refine as_iload d3_41 rfl ?_
    refine an_icmp_ne 61 d3_43 (by decide) (by omega) (by omega) (fun c43 => ?_) (fun c43 => ?_)
    · obtain ⟨lo, hi, hlt, hlh, elo, ehi⟩ : ∃ lo hi, lo < hi ∧ ((rt x = lo ∧ rt y = hi) ∨ (rt x = hi ∧ rt y = lo)) ∧ lo = (if rt y < rt x then rt y else rt x) ∧ hi = (if rt x < rt y then rt y else rt x) := by
        rcases Nat.lt_or_gt_of_ne c43 with g | g
        · exact ⟨rt x, rt y, g, Or.inl ⟨rfl, rfl⟩, by rw [if_neg (by omega)], by rw [if_pos g]⟩
        · exact ⟨rt y, rt x, g, Or.inr ⟨rfl, rfl⟩, by rw [if_pos g], by rw [if_neg (by omega)]⟩
      have hhi : hi < n := by omega
      have p3 := p2.link (b := b) hx hy hlh hlt
      have u3 := u2.lk hi lo ((ph x + ph y + bN b) % 2)
      refine as_iload d3_61 rfl ?_
      refine as_iload d3_63 rfl ?_
      refine ac_min d3_65 c3_26 (by decide) (Nat.le_of_ble_eq_true rfl) ?_
      refine an_top (e' := nI (lo)) (by rw [elo]; exact nI_minI (by omega) (by omega)) ?_
      refine as_istore d3_68 (by decide) ?_
      refine as_iload d3_70 rfl ?_
      refine as_iload d3_72 rfl ?_
      refine ac_max d3_74 c3_40 (by decide) (Nat.le_of_ble_eq_true rfl) ?_
      refine an_top (e' := nI (hi)) (by rw [ehi]; exact nI_maxI (by omega) (by omega)) ?_
      refine as_istore d3_77 (by decide) ?_
      refine as_aload_n d3_79 rfl ?_
      refine ap_get d3_80 f3_7 (by decide) rfl rfl ?_
      refine as_iload d3_83 rfl ?_
      refine as_iload d3_85 rfl ?_
      refine ap_iast d3_87 (fun _ _ _ _ => rfl) (by decide) (by omega) (by decide) ?_
      refine as_aload_n d3_88 rfl ?_
      refine ap_get d3_89 f3_13 (by decide) rfl rfl ?_
      refine as_iload d3_92 rfl ?_
      refine as_iload d3_94 rfl ?_
      refine ap_iast d3_96 (fun _ _ _ _ => rfl) (by decide) (by omega) (by decide) ?_
      refine as_aload_n d3_97 rfl ?_
      refine ap_get d3_98 f3_16 (by decide) rfl rfl ?_
      refine as_iload d3_101 rfl ?_
      refine ap_zald d3_103 (fun _ _ _ _ => rfl) (by decide) (by omega) (by decide) ?_
      refine an_top (e' := nI (cl hi)) ((u3.2 hi hhi).2.2) ?_
      refine an_if_eq 115 d3_104 (by decide) (by have := (hp.1 hi hhi).2.2.1; omega) (fun c104 => ?_) (fun c104 => ?_)
      · refine as_return d3_115 t3 ?_
        first
        | exact ⟨_, _, rfl, rfl, _, _, _, _, _, k2, u2.congr (fun _ _ => rfl) (fun _ _ => rfl) (fun z hz => if_neg (fun g => c49 g.1)), p3⟩
        | exact ⟨_, _, rfl, rfl, _, _, _, _, _, k2.sa (by omega) _ _, (u2.cl (r := rt x)).congr (fun _ _ => rfl) (fun _ _ => rfl) (fun z hz => by simp only [c49, true_and]), p3⟩
        | exact ⟨_, _, rfl, rfl, _, _, _, _, _, (k2.sa (by omega) _ _).sa (by omega) _ _, u3.congr (fun _ _ => rfl) (fun _ _ => rfl) (fun z hz => if_neg (fun g => by omega)), p3⟩
        | exact ⟨_, _, rfl, rfl, _, _, _, _, _, ((k2.sa (by omega) _ _).sa (by omega) _ _).sa (by omega) _ _, (u3.cl (r := lo)).congr (fun _ _ => rfl) (fun _ _ => rfl) (fun z hz => cl_and (by have := (hp.1 hi hhi).2.2.1; omega)), p3⟩
      · refine as_aload_n d3_107 rfl ?_
        refine ap_get d3_108 f3_16 (by decide) rfl rfl ?_
        refine as_iload d3_111 rfl ?_
        refine an_iconst 1 d3_113 rfl ?_
        refine ap_zast d3_114 (fun _ _ _ _ => rfl) (by decide) (by omega) (by decide) (rfl) ?_
        refine as_return d3_115 t3 ?_
        first
        | exact ⟨_, _, rfl, rfl, _, _, _, _, _, k2, u2.congr (fun _ _ => rfl) (fun _ _ => rfl) (fun z hz => if_neg (fun g => c49 g.1)), p3⟩
        | exact ⟨_, _, rfl, rfl, _, _, _, _, _, k2.sa (by omega) _ _, (u2.cl (r := rt x)).congr (fun _ _ => rfl) (fun _ _ => rfl) (fun z hz => by simp only [c49, true_and]), p3⟩
        | exact ⟨_, _, rfl, rfl, _, _, _, _, _, (k2.sa (by omega) _ _).sa (by omega) _ _, u3.congr (fun _ _ => rfl) (fun _ _ => rfl) (fun z hz => if_neg (fun g => by omega)), p3⟩
        | exact ⟨_, _, rfl, rfl, _, _, _, _, _, ((k2.sa (by omega) _ _).sa (by omega) _ _).sa (by omega) _ _, (u3.cl (r := lo)).congr (fun _ _ => rfl) (fun _ _ => rfl) (fun z hz => cl_and (by have := (hp.1 hi hhi).2.2.1; omega)), p3⟩
    · have p3 := p2.same (b := b) hx hy c43
      refine as_iload d3_46 rfl ?_
      refine an_iconst 1 d3_48 rfl ?_
      refine an_icmp_ne 60 d3_49 (by decide) (by omega) (by omega) (fun c49 => ?_) (fun c49 => ?_)
      · refine as_return d3_60 t3 ?_
        first
        | exact ⟨_, _, rfl, rfl, _, _, _, _, _, k2, u2.congr (fun _ _ => rfl) (fun _ _ => rfl) (fun z hz => if_neg (fun g => c49 g.1)), p3⟩
        | exact ⟨_, _, rfl, rfl, _, _, _, _, _, k2.sa (by omega) _ _, (u2.cl (r := rt x)).congr (fun _ _ => rfl) (fun _ _ => rfl) (fun z hz => by simp only [c49, true_and]), p3⟩
        | exact ⟨_, _, rfl, rfl, _, _, _, _, _, (k2.sa (by omega) _ _).sa (by omega) _ _, u3.congr (fun _ _ => rfl) (fun _ _ => rfl) (fun z hz => if_neg (fun g => by omega)), p3⟩
        | exact ⟨_, _, rfl, rfl, _, _, _, _, _, ((k2.sa (by omega) _ _).sa (by omega) _ _).sa (by omega) _ _, (u3.cl (r := lo)).congr (fun _ _ => rfl) (fun _ _ => rfl) (fun z hz => cl_and (by have := (hp.1 hi hhi).2.2.1; omega)), p3⟩
      · refine as_aload_n d3_52 rfl ?_
        refine ap_get d3_53 f3_16 (by decide) rfl rfl ?_
        refine as_iload d3_56 rfl ?_
        refine an_iconst 1 d3_58 rfl ?_
        refine ap_zast d3_59 (fun _ _ _ _ => rfl) (by decide) (by omega) (by decide) (rfl) ?_
        refine as_return d3_60 t3 ?_
        first
        | exact ⟨_, _, rfl, rfl, _, _, _, _, _, k2, u2.congr (fun _ _ => rfl) (fun _ _ => rfl) (fun z hz => if_neg (fun g => c49 g.1)), p3⟩
        | exact ⟨_, _, rfl, rfl, _, _, _, _, _, k2.sa (by omega) _ _, (u2.cl (r := rt x)).congr (fun _ _ => rfl) (fun _ _ => rfl) (fun z hz => by simp only [c49, true_and]), p3⟩
        | exact ⟨_, _, rfl, rfl, _, _, _, _, _, (k2.sa (by omega) _ _).sa (by omega) _ _, u3.congr (fun _ _ => rfl) (fun _ _ => rfl) (fun z hz => if_neg (fun g => by omega)), p3⟩
        | exact ⟨_, _, rfl, rfl, _, _, _, _, _, ((k2.sa (by omega) _ _).sa (by omega) _ _).sa (by omega) _ _, (u3.cl (r := lo)).congr (fun _ _ => rfl) (fun _ _ => rfl) (fun z hz => cl_and (by have := (hp.1 hi hhi).2.2.1; omega)), p3⟩
  · have hb1 : bN b = 1 := by omega
    refine an_iconst 1 d3_31 rfl ?_
    refine as_goto 36 d3_32 (by decide) ?_
    refine as_ixor d3_36 ?_
    refine an_top (e' := nI ((ph x + ph y + bN b) % 2)) (by rw [hb1]; rw [nI_xor2 (by omega) (by omega)]; congr 1; omega) ?_
    refine as_istore d3_37 (by decide) ?_
    refine as_iload d3_39 rfl ?_
    refine as_iload d3_41 rfl ?_
    refine an_icmp_ne 61 d3_43 (by decide) (by omega) (by omega) (fun c43 => ?_) (fun c43 => ?_)
    · obtain ⟨lo, hi, hlt, hlh, elo, ehi⟩ : ∃ lo hi, lo < hi ∧ ((rt x = lo ∧ rt y = hi) ∨ (rt x = hi ∧ rt y = lo)) ∧ lo = (if rt y < rt x then rt y else rt x) ∧ hi = (if rt x < rt y then rt y else rt x) := by
        rcases Nat.lt_or_gt_of_ne c43 with g | g
        · exact ⟨rt x, rt y, g, Or.inl ⟨rfl, rfl⟩, by rw [if_neg (by omega)], by rw [if_pos g]⟩
        · exact ⟨rt y, rt x, g, Or.inr ⟨rfl, rfl⟩, by rw [if_pos g], by rw [if_neg (by omega)]⟩
      have hhi : hi < n := by omega
      have p3 := p2.link (b := b) hx hy hlh hlt
      have u3 := u2.lk hi lo ((ph x + ph y + bN b) % 2)
      refine as_iload d3_61 rfl ?_
      refine as_iload d3_63 rfl ?_
      refine ac_min d3_65 c3_26 (by decide) (Nat.le_of_ble_eq_true rfl) ?_
      refine an_top (e' := nI (lo)) (by rw [elo]; exact nI_minI (by omega) (by omega)) ?_
      refine as_istore d3_68 (by decide) ?_
      refine as_iload d3_70 rfl ?_
      refine as_iload d3_72 rfl ?_
      refine ac_max d3_74 c3_40 (by decide) (Nat.le_of_ble_eq_true rfl) ?_
      refine an_top (e' := nI (hi)) (by rw [ehi]; exact nI_maxI (by omega) (by omega)) ?_
      refine as_istore d3_77 (by decide) ?_
      refine as_aload_n d3_79 rfl ?_
      refine ap_get d3_80 f3_7 (by decide) rfl rfl ?_
      refine as_iload d3_83 rfl ?_
      refine as_iload d3_85 rfl ?_
      refine ap_iast d3_87 (fun _ _ _ _ => rfl) (by decide) (by omega) (by decide) ?_
      refine as_aload_n d3_88 rfl ?_
      refine ap_get d3_89 f3_13 (by decide) rfl rfl ?_
      refine as_iload d3_92 rfl ?_
      refine as_iload d3_94 rfl ?_
      refine ap_iast d3_96 (fun _ _ _ _ => rfl) (by decide) (by omega) (by decide) ?_
      refine as_aload_n d3_97 rfl ?_
      refine ap_get d3_98 f3_16 (by decide) rfl rfl ?_
      refine as_iload d3_101 rfl ?_
      refine ap_zald d3_103 (fun _ _ _ _ => rfl) (by decide) (by omega) (by decide) ?_
      refine an_top (e' := nI (cl hi)) ((u3.2 hi hhi).2.2) ?_
      refine an_if_eq 115 d3_104 (by decide) (by have := (hp.1 hi hhi).2.2.1; omega) (fun c104 => ?_) (fun c104 => ?_)
      · refine as_return d3_115 t3 ?_
        first
        | exact ⟨_, _, rfl, rfl, _, _, _, _, _, k2, u2.congr (fun _ _ => rfl) (fun _ _ => rfl) (fun z hz => if_neg (fun g => c49 g.1)), p3⟩
        | exact ⟨_, _, rfl, rfl, _, _, _, _, _, k2.sa (by omega) _ _, (u2.cl (r := rt x)).congr (fun _ _ => rfl) (fun _ _ => rfl) (fun z hz => by simp only [c49, true_and]), p3⟩
        | exact ⟨_, _, rfl, rfl, _, _, _, _, _, (k2.sa (by omega) _ _).sa (by omega) _ _, u3.congr (fun _ _ => rfl) (fun _ _ => rfl) (fun z hz => if_neg (fun g => by omega)), p3⟩
        | exact ⟨_, _, rfl, rfl, _, _, _, _, _, ((k2.sa (by omega) _ _).sa (by omega) _ _).sa (by omega) _ _, (u3.cl (r := lo)).congr (fun _ _ => rfl) (fun _ _ => rfl) (fun z hz => cl_and (by have := (hp.1 hi hhi).2.2.1; omega)), p3⟩
      · refine as_aload_n d3_107 rfl ?_
        refine ap_get d3_108 f3_16 (by decide) rfl rfl ?_
        refine as_iload d3_111 rfl ?_
        refine an_iconst 1 d3_113 rfl ?_
        refine ap_zast d3_114 (fun _ _ _ _ => rfl) (by decide) (by omega) (by decide) (rfl) ?_
        refine as_return d3_115 t3 ?_
        first
        | exact ⟨_, _, rfl, rfl, _, _, _, _, _, k2, u2.congr (fun _ _ => rfl) (fun _ _ => rfl) (fun z hz => if_neg (fun g => c49 g.1)), p3⟩
        | exact ⟨_, _, rfl, rfl, _, _, _, _, _, k2.sa (by omega) _ _, (u2.cl (r := rt x)).congr (fun _ _ => rfl) (fun _ _ => rfl) (fun z hz => by simp only [c49, true_and]), p3⟩
        | exact ⟨_, _, rfl, rfl, _, _, _, _, _, (k2.sa (by omega) _ _).sa (by omega) _ _, u3.congr (fun _ _ => rfl) (fun _ _ => rfl) (fun z hz => if_neg (fun g => by omega)), p3⟩
        | exact ⟨_, _, rfl, rfl, _, _, _, _, _, ((k2.sa (by omega) _ _).sa (by omega) _ _).sa (by omega) _ _, (u3.cl (r := lo)).congr (fun _ _ => rfl) (fun _ _ => rfl) (fun z hz => cl_and (by have := (hp.1 hi hhi).2.2.1; omega)), p3⟩
    · have p3 := p2.same (b := b) hx hy c43
      refine as_iload d3_46 rfl ?_
      refine an_iconst 1 d3_48 rfl ?_
      refine an_icmp_ne 60 d3_49 (by decide) (by omega) (by omega) (fun c49 => ?_) (fun c49 => ?_)
      · refine as_return d3_60 t3 ?_
        first
        | exact ⟨_, _, rfl, rfl, _, _, _, _, _, k2, u2.congr (fun _ _ => rfl) (fun _ _ => rfl) (fun z hz => if_neg (fun g => c49 g.1)), p3⟩
        | exact ⟨_, _, rfl, rfl, _, _, _, _, _, k2.sa (by omega) _ _, (u2.cl (r := rt x)).congr (fun _ _ => rfl) (fun _ _ => rfl) (fun z hz => by simp only [c49, true_and]), p3⟩
        | exact ⟨_, _, rfl, rfl, _, _, _, _, _, (k2.sa (by omega) _ _).sa (by omega) _ _, u3.congr (fun _ _ => rfl) (fun _ _ => rfl) (fun z hz => if_neg (fun g => by omega)), p3⟩
        | exact ⟨_, _, rfl, rfl, _, _, _, _, _, ((k2.sa (by omega) _ _).sa (by omega) _ _).sa (by omega) _ _, (u3.cl (r := lo)).congr (fun _ _ => rfl) (fun _ _ => rfl) (fun z hz => cl_and (by have := (hp.1 hi hhi).2.2.1; omega)), p3⟩
      · refine as_aload_n d3_52 rfl ?_
        refine ap_get d3_53 f3_16 (by decide) rfl rfl ?_
        refine as_iload d3_56 rfl ?_
        refine an_iconst 1 d3_58 rfl ?_
        refine ap_zast d3_59 (fun _ _ _ _ => rfl) (by decide) (by omega) (by decide) (rfl) ?_
        refine as_return d3_60 t3 ?_
        first
        | exact ⟨_, _, rfl, rfl, _, _, _, _, _, k2, u2.congr (fun _ _ => rfl) (fun _ _ => rfl) (fun z hz => if_neg (fun g => c49 g.1)), p3⟩
        | exact ⟨_, _, rfl, rfl, _, _, _, _, _, k2.sa (by omega) _ _, (u2.cl (r := rt x)).congr (fun _ _ => rfl) (fun _ _ => rfl) (fun z hz => by simp only [c49, true_and]), p3⟩
        | exact ⟨_, _, rfl, rfl, _, _, _, _, _, (k2.sa (by omega) _ _).sa (by omega) _ _, u3.congr (fun _ _ => rfl) (fun _ _ => rfl) (fun z hz => if_neg (fun g => by omega)), p3⟩
        | exact ⟨_, _, rfl, rfl, _, _, _, _, _, ((k2.sa (by omega) _ _).sa (by omega) _ _).sa (by omega) _ _, (u3.cl (r := lo)).congr (fun _ _ => rfl) (fun _ _ => rfl) (fun z hz => cl_and (by have := (hp.1 hi hhi).2.2.1; omega)), p3⟩
theorem mx_start180 (X : am_X) (S : MS) (n : Nat) (hn : n ≤ 400) : ∃ T, MC X 1 [.ref (180), .int (nI (n))] S none T ∧ sKeep 180 S T ∧ UM T 180 n (fun x => x) (fun _ => 0) (fun _ => 0) := by
  have key := MX.mc (X := X) (mj := 1) (as := [.ref (180), .int (nI (n))]) (S := S) (Post := fun v T => v = none ∧ sKeep 180 S T ∧ UM T 180 n (fun x => x) (fun _ => 0) (fun _ => 0)) ?_
  · obtain ⟨v, T, g1, g2, g3⟩ := key
    subst g2
    exact ⟨T, g1, g3⟩
  refine MX.of (Nat.le_of_ble_eq_true rfl) ?_
  refine as_aload_n d1_0 rfl ?_
  refine as_iload_n d1_1 rfl ?_
  refine as_aload_n d1_2 rfl ?_
  refine ap_get d1_3 f1_7 (by decide) rfl rfl ?_
  refine as_alen d1_6 (by decide) rfl (by decide) ?_
  refine an_top (e' := nI 400) rfl ?_
  refine ac_min d1_7 c1_26 (by decide) (Nat.le_of_ble_eq_true rfl) ?_
  refine an_top (e' := nI (n)) (by rw [if_neg (fun g => absurd ((nI_ltI (by omega) (by omega)).mp g) (by omega))]) ?_
  refine ap_put d1_10 f1_32 (by decide) rfl (Nat.le_of_ble_eq_true rfl) (rfl) rfl rfl ?_
  refine an_iconst 0 d1_13 rfl ?_
  refine as_istore_n d1_14 (by decide) ?_
  refine AW.loc [(0, .ref (180)), (2, .int (nI (0)))] (am_pick [1, 0] rfl rfl) ?_
  refine aw_fromE (fun i T => ((15, [(0, .ref (180)), (2, .int (nI (i)))], [], 208, HP (T), 0, 0) : am_Z)) (fun i T => sKeep 180 S T ∧ T.1 180 5 = nI n ∧ ∀ x, x < i → T.2.1 181 x = nI x ∧ T.2.1 182 x = nI 0 ∧ T.2.1 183 x = nI 0) (0) (n) (by omega) ((S).sf 180 5 (nI (n))) (rfl) (⟨(sKeep.rf 180 S).sf (by omega) _, by rw [sf_at, if_pos ⟨rfl, rfl⟩], fun x hx => by omega⟩) (fun i T hi0 hi hI ih => ?_) (fun T hX => ?_)
  · refine as_iload_n d1_15 rfl ?_
    refine as_aload_n d1_16 rfl ?_
    refine ap_get d1_17 f1_32 (by decide) rfl rfl ?_
    refine an_top (e' := nI (n)) (hI.2.1) ?_
    refine an_icmp_ge 50 d1_20 (by decide) (by omega) (by omega) (fun c20 => by omega) (fun c20 => ?_)
    refine as_aload_n d1_23 rfl ?_
    refine ap_get d1_24 f1_7 (by decide) rfl rfl ?_
    refine as_iload_n d1_27 rfl ?_
    refine as_iload_n d1_28 rfl ?_
    refine ap_iast d1_29 (fun _ _ _ _ => rfl) (by decide) (by omega) (by decide) ?_
    refine as_aload_n d1_30 rfl ?_
    refine ap_get d1_31 f1_13 (by decide) rfl rfl ?_
    refine as_iload_n d1_34 rfl ?_
    refine an_iconst 0 d1_35 rfl ?_
    refine ap_iast d1_36 (fun _ _ _ _ => rfl) (by decide) (by omega) (by decide) ?_
    refine as_aload_n d1_37 rfl ?_
    refine ap_get d1_38 f1_16 (by decide) rfl rfl ?_
    refine as_iload_n d1_41 rfl ?_
    refine an_iconst 0 d1_42 rfl ?_
    refine ap_zast d1_43 (fun _ _ _ _ => rfl) (by decide) (by omega) (by decide) (rfl) ?_
    refine an_iinc 1 d1_44 rfl rfl (by decide) ?_
    refine as_goto 15 d1_47 (by decide) ?_
    refine AW.loc [(0, .ref (180)), (2, .int (nI (i + 1)))] (am_pick [1, 0] rfl rfl) ?_
    have ih := ih ((((T).sa 181 (i) (nI (i))).sa 182 (i) (nI (0))).sa 183 (i) (nI (0))) (⟨((hI.1.sa (by omega) _ _).sa (by omega) _ _).sa (by omega) _ _, hI.2.1, fun x hx => by
      rw [sa_row _ _ _ _ (by decide), sa_row _ _ _ _ (by decide), sa_at, sa_row _ _ _ _ (by decide), sa_at, sa_row _ _ _ _ (by decide), sa_at, sa_row _ _ _ _ (by decide), sa_row _ _ _ _ (by decide)]
      by_cases e : x = i
      · rw [if_pos e, if_pos e, if_pos e, e]
        exact ⟨rfl, rfl, rfl⟩
      · rw [if_neg e, if_neg e, if_neg e]
        exact hI.2.2 x (by omega)⟩)
    exact ih
  · refine as_iload_n d1_15 rfl ?_
    refine as_aload_n d1_16 rfl ?_
    refine ap_get d1_17 f1_32 (by decide) rfl rfl ?_
    refine an_top (e' := nI (n)) (hX.2.1) ?_
    refine an_icmp_ge 50 d1_20 (by decide) (by omega) (by omega) (fun c20 => ?_) (fun c20 => by omega)
    refine as_return d1_50 t1 ?_
    exact ⟨_, _, rfl, rfl, hX.1, hX.2.1, hX.2.2⟩
theorem mc_rootOf180 (X : am_X) (S : MS) (n : Nat) (J : LRel) (pa un cl rt ph : Nat → Nat) (hn : n ≤ 400) (hU : UM S 180 n pa un cl) (hp : UP n J pa un cl rt ph) (x : Nat) (hx : x < n) : MC X 2 [.ref (180), .int (nI (x))] S (some (.int (nI (rt x)))) ((S.sa 181 x (nI (rt x))).sa 182 x (nI (ph x))) := by
  refine MC.of (Nat.le_of_ble_eq_true rfl) ?_
  refine as_iload_n d2_0 rfl ?_
  refine as_istore_n d2_1 (by decide) ?_
  refine an_iconst 0 d2_2 rfl ?_
  refine as_istore_n d2_3 (by decide) ?_
  refine an_iconst 0 d2_4 rfl ?_
  refine as_istore d2_5 (by decide) ?_
  refine AW.loc [(0, .ref (180)), (1, .int (nI (x))), (2, .int (nI (x))), (3, .int (nI (0))), (4, .int (nI (0)))] (am_pick [3, 4, 2, 1, 0] rfl rfl) ?_
  refine aw_inv2 (σ := (Nat) × (Nat) × (Nat)) (fun σ => ((7, [(0, .ref (180)), (1, .int (nI (x))), (2, .int (nI (σ.1))), (3, .int (nI (σ.2.1))), (4, .int (nI (σ.2.2)))], [], 208, HP (S), 0, 0) : am_Z)) (fun σ => σ.1 ≤ x ∧ rt σ.1 = rt x ∧ σ.2.1 < 2 ∧ (σ.2.1 + ph σ.1) % 2 = ph x ∧ σ.2.2 + σ.1 ≤ x) (fun σ => σ.1) (fun σ hσ ihσ => ?_) (x, 0, 0) (rfl) (by dsimp only; exact ⟨Nat.le_refl _, rfl, by omega, by have := (hp.1 x hx).2.2.2.2.1; omega, by omega⟩)
  obtain ⟨r, u, i⟩ := σ
  dsimp only at hσ ihσ ⊢
  obtain ⟨q1, q2, q3, q4, q5⟩ := hσ
  obtain ⟨w1, w2, w3, w4, w5, w6, w7, w8, w9, w10⟩ := hp.1 r (by omega)
  refine as_iload d2_7 rfl ?_
  refine as_aload_n d2_9 rfl ?_
  refine ap_get d2_10 f2_32 (by decide) rfl rfl ?_
  refine an_top (e' := nI (n)) (hU.1) ?_
  refine an_icmp_ge 48 d2_13 (by decide) (by omega) (by omega) (fun c13 => by omega) (fun c13 => ?_)
  refine as_aload_n d2_16 rfl ?_
  refine ap_get d2_17 f2_7 (by decide) rfl rfl ?_
  refine as_iload_n d2_20 rfl ?_
  refine ap_iald d2_21 (fun _ _ _ _ => rfl) (by decide) (by omega) (by decide) ?_
  refine an_top (e' := nI (pa (r))) ((hU.2 _ (by omega)).1) ?_
  refine as_iload_n d2_22 rfl ?_
  refine an_icmp_eq 48 d2_23 (by decide) (by omega) (by omega) (fun c23 => ?_) (fun c23 => ?_)
  · obtain ⟨a1, a2⟩ := w9 c23
    have e1 : rt x = r := by rw [← q2, a1]
    have e2 : ph x = u := by rw [← q4, a2]; omega
    refine as_aload_n d2_48 rfl ?_
    refine ap_get d2_49 f2_7 (by decide) rfl rfl ?_
    refine as_iload_n d2_52 rfl ?_
    refine as_iload_n d2_53 rfl ?_
    refine ap_iast d2_54 (fun _ _ _ _ => rfl) (by decide) (by omega) (by decide) ?_
    refine as_aload_n d2_55 rfl ?_
    refine ap_get d2_56 f2_13 (by decide) rfl rfl ?_
    refine as_iload_n d2_59 rfl ?_
    refine as_iload_n d2_60 rfl ?_
    refine ap_iast d2_61 (fun _ _ _ _ => rfl) (by decide) (by omega) (by decide) ?_
    refine as_iload_n d2_62 rfl ?_
    refine as_ireturn d2_63 (by rw [t2]; rfl) ?_
    rw [e1, e2]
  · have a3 := w10 c23
    refine as_iload_n d2_26 rfl ?_
    refine as_aload_n d2_27 rfl ?_
    refine ap_get d2_28 f2_13 (by decide) rfl rfl ?_
    refine as_iload_n d2_31 rfl ?_
    refine ap_iald d2_32 (fun _ _ _ _ => rfl) (by decide) (by omega) (by decide) ?_
    refine an_top (e' := nI (un (r))) ((hU.2 _ (by omega)).2.1) ?_
    refine as_ixor d2_33 ?_
    refine an_top (e' := nI ((u + un r) % 2)) (nI_xor2 (by omega) (by omega)) ?_
    refine as_istore_n d2_34 (by decide) ?_
    refine as_aload_n d2_35 rfl ?_
    refine ap_get d2_36 f2_7 (by decide) rfl rfl ?_
    refine as_iload_n d2_39 rfl ?_
    refine ap_iald d2_40 (fun _ _ _ _ => rfl) (by decide) (by omega) (by decide) ?_
    refine an_top (e' := nI (pa (r))) ((hU.2 _ (by omega)).1) ?_
    refine as_istore_n d2_41 (by decide) ?_
    refine an_iinc 1 d2_42 rfl rfl (by decide) ?_
    refine as_goto 7 d2_45 (by decide) ?_
    refine AW.loc [(0, .ref (180)), (1, .int (nI (x))), (2, .int (nI (pa (r)))), (3, .int (nI ((u + un r) % 2))), (4, .int (nI (i + 1)))] (am_pick [3, 4, 1, 2, 0] rfl rfl) ?_
    exact ihσ (pa r, (u + un r) % 2, i + 1) (by dsimp only; exact ⟨by omega, by rw [w8, q2], by omega, by omega, by omega⟩) (by show pa r < r; omega)
theorem mx_join180 (X : am_X) (S : MS) (n : Nat) (J : LRel) (pa un cl rt ph : Nat → Nat) (hn : n ≤ 400) (hU : UM S 180 n pa un cl) (hp : UP n J pa un cl rt ph) (x y : Nat) (b : Bool) (hx : x < n) (hy : y < n) : ∃ T pa' un' cl' rt' ph', MC X 3 [.ref (180), .int (nI (x)), .int (nI (y)), .int (nI (bN b))] S none T ∧ gKeep 180 S T ∧ UM T 180 n pa' un' cl' ∧ UP n (jn J x y b) pa' un' cl' rt' ph' := by
  have m1 := mc_rootOf180 X S n J pa un cl rt ph hn hU hp x hx
  have u1 := hU.hang (rt := rt) (ph := ph) x
  have p1 := hp.hang hx
  have m2 := mc_rootOf180 X _ n J _ _ cl rt ph hn u1 p1 y hy
  have u2 := u1.hang (rt := rt) (ph := ph) y
  have p2 := p1.hang hy
  obtain ⟨S2, hS2⟩ : ∃ S2, S2 = ((((S.sa 181 x (nI (rt x))).sa 182 x (nI (ph x))).sa 181 y (nI (rt y))).sa 182 y (nI (ph y))) := ⟨_, rfl⟩
  have k2 : gKeep 180 S S2 := by rw [hS2]; exact ((((gKeep.rf 180 S).sa (by omega) _ _).sa (by omega) _ _).sa (by omega) _ _).sa (by omega) _ _
  rw [← hS2] at m2
  replace u2 : UM S2 180 n (fun z => if z = y then rt y else if z = x then rt x else pa z) (fun z => if z = y then ph y else if z = x then ph x else un z) cl := by rw [hS2]; exact u2
  have hbb := bN_lt b
  have hpx := (hp.1 x hx).2.2.2.2.1
  have hpy := (hp.1 y hy).2.2.2.2.1
  have hrx := (hp.1 x hx).2.2.2.1
  have hry := (hp.1 y hy).2.2.2.1
  have hux : S2.2.1 182 x = nI (ph x) := by
    rw [(u2.2 x hx).2.1]
    dsimp only
    by_cases e : x = y
    · rw [if_pos e, e]
    · rw [if_neg e, if_pos rfl]
  have huy : S2.2.1 182 y = nI (ph y) := by
    rw [(u2.2 y hy).2.1]
    dsimp only
    rw [if_pos rfl]
  have key := MX.mc (X := X) (mj := 3) (as := [.ref (180), .int (nI (x)), .int (nI (y)), .int (nI (bN b))]) (S := S) (Post := fun v T => v = none ∧ ∃ pa' un' cl' rt' ph', gKeep 180 S T ∧ UM T 180 n pa' un' cl' ∧ UP n (jn J x y b) pa' un' cl' rt' ph') ?_
  · obtain ⟨v, T, g1, g2, pa', un', cl', rt', ph', g3⟩ := key
    subst g2
    exact ⟨T, pa', un', cl', rt', ph', g1, g3⟩
  refine MX.of (Nat.le_of_ble_eq_true rfl) ?_
  refine as_aload_n d3_0 rfl ?_
  refine as_iload_n d3_1 rfl ?_
  refine ac_v1 d3_2 c3_36 (by decide) rfl (Nat.le_of_ble_eq_true rfl) (m1) ?_
  refine as_istore d3_5 (by decide) ?_
  refine as_aload_n d3_7 rfl ?_
  refine as_iload_n d3_8 rfl ?_
  refine ac_v1 d3_9 c3_36 (by decide) rfl (Nat.le_of_ble_eq_true rfl) (m2) ?_
  refine as_istore d3_12 (by decide) ?_
  refine as_aload_n d3_14 rfl ?_
  refine ap_get d3_15 f3_13 (by decide) rfl rfl ?_
  refine as_iload_n d3_18 rfl ?_
  refine ap_iald d3_19 (fun _ _ _ _ => rfl) (by decide) (by omega) (by decide) ?_
  refine an_top (e' := nI (ph x)) (hux) ?_
  refine as_aload_n d3_20 rfl ?_
  refine ap_get d3_21 f3_13 (by decide) rfl rfl ?_
  refine as_iload_n d3_24 rfl ?_
  refine ap_iald d3_25 (fun _ _ _ _ => rfl) (by decide) (by omega) (by decide) ?_
  refine an_top (e' := nI (ph y)) (huy) ?_
  refine as_ixor d3_26 ?_
  refine an_top (e' := nI ((ph x + ph y) % 2)) (nI_xor2 hpx hpy) ?_
  refine as_iload_n d3_27 rfl ?_
  refine an_if_eq 35 d3_28 (by decide) (by omega) (fun c28 => ?_) (fun c28 => ?_)
  · have hb1 : bN b = 0 := c28
    refine an_iconst 0 d3_35 rfl ?_
    refine as_ixor d3_36 ?_
    refine an_top (e' := nI ((ph x + ph y + bN b) % 2)) (by rw [hb1]; rw [nI_xor2 (by omega) (by omega)]; congr 1; omega) ?_
    refine as_istore d3_37 (by decide) ?_
    refine as_iload d3_39 rfl ?_
    refine as_iload d3_41 rfl ?_
    refine an_icmp_ne 61 d3_43 (by decide) (by omega) (by omega) (fun c43 => ?_) (fun c43 => ?_)
    · obtain ⟨lo, hi, hlt, hlh, elo, ehi⟩ : ∃ lo hi, lo < hi ∧ ((rt x = lo ∧ rt y = hi) ∨ (rt x = hi ∧ rt y = lo)) ∧ lo = (if rt y < rt x then rt y else rt x) ∧ hi = (if rt x < rt y then rt y else rt x) := by
        rcases Nat.lt_or_gt_of_ne c43 with g | g
        · exact ⟨rt x, rt y, g, Or.inl ⟨rfl, rfl⟩, by rw [if_neg (by omega)], by rw [if_pos g]⟩
        · exact ⟨rt y, rt x, g, Or.inr ⟨rfl, rfl⟩, by rw [if_pos g], by rw [if_neg (by omega)]⟩
      have hhi : hi < n := by omega
      have p3 := p2.link (b := b) hx hy hlh hlt
      have u3 := u2.lk hi lo ((ph x + ph y + bN b) % 2)
      refine as_iload d3_61 rfl ?_
      refine as_iload d3_63 rfl ?_
      refine ac_min d3_65 c3_26 (by decide) (Nat.le_of_ble_eq_true rfl) ?_
      refine an_top (e' := nI (lo)) (by rw [elo]; exact nI_minI (by omega) (by omega)) ?_
      refine as_istore d3_68 (by decide) ?_
      refine as_iload d3_70 rfl ?_
      refine as_iload d3_72 rfl ?_
      refine ac_max d3_74 c3_40 (by decide) (Nat.le_of_ble_eq_true rfl) ?_
      refine an_top (e' := nI (hi)) (by rw [ehi]; exact nI_maxI (by omega) (by omega)) ?_
      refine as_istore d3_77 (by decide) ?_
      refine as_aload_n d3_79 rfl ?_
      refine ap_get d3_80 f3_7 (by decide) rfl rfl ?_
      refine as_iload d3_83 rfl ?_
      refine as_iload d3_85 rfl ?_
      refine ap_iast d3_87 (fun _ _ _ _ => rfl) (by decide) (by omega) (by decide) ?_
      refine as_aload_n d3_88 rfl ?_
      refine ap_get d3_89 f3_13 (by decide) rfl rfl ?_
      refine as_iload d3_92 rfl ?_
      refine as_iload d3_94 rfl ?_
      refine ap_iast d3_96 (fun _ _ _ _ => rfl) (by decide) (by omega) (by decide) ?_
      refine as_aload_n d3_97 rfl ?_
      refine ap_get d3_98 f3_16 (by decide) rfl rfl ?_
      refine as_iload d3_101 rfl ?_
      refine ap_zald d3_103 (fun _ _ _ _ => rfl) (by decide) (by omega) (by decide) ?_
      refine an_top (e' := nI (cl hi)) ((u3.2 hi hhi).2.2) ?_
      refine an_if_eq 115 d3_104 (by decide) (by have := (hp.1 hi hhi).2.2.1; omega) (fun c104 => ?_) (fun c104 => ?_)
      · refine as_return d3_115 t3 ?_
        first
        | exact ⟨_, _, rfl, rfl, _, _, _, _, _, k2, u2.congr (fun _ _ => rfl) (fun _ _ => rfl) (fun z hz => if_neg (fun g => c49 g.1)), p3⟩
        | exact ⟨_, _, rfl, rfl, _, _, _, _, _, k2.sa (by omega) _ _, (u2.cl (r := rt x)).congr (fun _ _ => rfl) (fun _ _ => rfl) (fun z hz => by simp only [c49, true_and]), p3⟩
        | exact ⟨_, _, rfl, rfl, _, _, _, _, _, (k2.sa (by omega) _ _).sa (by omega) _ _, u3.congr (fun _ _ => rfl) (fun _ _ => rfl) (fun z hz => if_neg (fun g => by omega)), p3⟩
        | exact ⟨_, _, rfl, rfl, _, _, _, _, _, ((k2.sa (by omega) _ _).sa (by omega) _ _).sa (by omega) _ _, (u3.cl (r := lo)).congr (fun _ _ => rfl) (fun _ _ => rfl) (fun z hz => cl_and (by have := (hp.1 hi hhi).2.2.1; omega)), p3⟩
      · refine as_aload_n d3_107 rfl ?_
        refine ap_get d3_108 f3_16 (by decide) rfl rfl ?_
        refine as_iload d3_111 rfl ?_
        refine an_iconst 1 d3_113 rfl ?_
        refine ap_zast d3_114 (fun _ _ _ _ => rfl) (by decide) (by omega) (by decide) (rfl) ?_
        refine as_return d3_115 t3 ?_
        first
        | exact ⟨_, _, rfl, rfl, _, _, _, _, _, k2, u2.congr (fun _ _ => rfl) (fun _ _ => rfl) (fun z hz => if_neg (fun g => c49 g.1)), p3⟩
        | exact ⟨_, _, rfl, rfl, _, _, _, _, _, k2.sa (by omega) _ _, (u2.cl (r := rt x)).congr (fun _ _ => rfl) (fun _ _ => rfl) (fun z hz => by simp only [c49, true_and]), p3⟩
        | exact ⟨_, _, rfl, rfl, _, _, _, _, _, (k2.sa (by omega) _ _).sa (by omega) _ _, u3.congr (fun _ _ => rfl) (fun _ _ => rfl) (fun z hz => if_neg (fun g => by omega)), p3⟩
        | exact ⟨_, _, rfl, rfl, _, _, _, _, _, ((k2.sa (by omega) _ _).sa (by omega) _ _).sa (by omega) _ _, (u3.cl (r := lo)).congr (fun _ _ => rfl) (fun _ _ => rfl) (fun z hz => cl_and (by have := (hp.1 hi hhi).2.2.1; omega)), p3⟩
    · have p3 := p2.same (b := b) hx hy c43
      refine as_iload d3_46 rfl ?_
      refine an_iconst 1 d3_48 rfl ?_
      refine an_icmp_ne 60 d3_49 (by decide) (by omega) (by omega) (fun c49 => ?_) (fun c49 => ?_)
      · refine as_return d3_60 t3 ?_
        first
        | exact ⟨_, _, rfl, rfl, _, _, _, _, _, k2, u2.congr (fun _ _ => rfl) (fun _ _ => rfl) (fun z hz => if_neg (fun g => c49 g.1)), p3⟩
        | exact ⟨_, _, rfl, rfl, _, _, _, _, _, k2.sa (by omega) _ _, (u2.cl (r := rt x)).congr (fun _ _ => rfl) (fun _ _ => rfl) (fun z hz => by simp only [c49, true_and]), p3⟩
        | exact ⟨_, _, rfl, rfl, _, _, _, _, _, (k2.sa (by omega) _ _).sa (by omega) _ _, u3.congr (fun _ _ => rfl) (fun _ _ => rfl) (fun z hz => if_neg (fun g => by omega)), p3⟩
        | exact ⟨_, _, rfl, rfl, _, _, _, _, _, ((k2.sa (by omega) _ _).sa (by omega) _ _).sa (by omega) _ _, (u3.cl (r := lo)).congr (fun _ _ => rfl) (fun _ _ => rfl) (fun z hz => cl_and (by have := (hp.1 hi hhi).2.2.1; omega)), p3⟩
      · refine as_aload_n d3_52 rfl ?_
        refine ap_get d3_53 f3_16 (by decide) rfl rfl ?_
        refine as_iload d3_56 rfl ?_
        refine an_iconst 1 d3_58 rfl ?_
        refine ap_zast d3_59 (fun _ _ _ _ => rfl) (by decide) (by omega) (by decide) (rfl) ?_
        refine as_return d3_60 t3 ?_
        first
        | exact ⟨_, _, rfl, rfl, _, _, _, _, _, k2, u2.congr (fun _ _ => rfl) (fun _ _ => rfl) (fun z hz => if_neg (fun g => c49 g.1)), p3⟩
        | exact ⟨_, _, rfl, rfl, _, _, _, _, _, k2.sa (by omega) _ _, (u2.cl (r := rt x)).congr (fun _ _ => rfl) (fun _ _ => rfl) (fun z hz => by simp only [c49, true_and]), p3⟩
        | exact ⟨_, _, rfl, rfl, _, _, _, _, _, (k2.sa (by omega) _ _).sa (by omega) _ _, u3.congr (fun _ _ => rfl) (fun _ _ => rfl) (fun z hz => if_neg (fun g => by omega)), p3⟩
        | exact ⟨_, _, rfl, rfl, _, _, _, _, _, ((k2.sa (by omega) _ _).sa (by omega) _ _).sa (by omega) _ _, (u3.cl (r := lo)).congr (fun _ _ => rfl) (fun _ _ => rfl) (fun z hz => cl_and (by have := (hp.1 hi hhi).2.2.1; omega)), p3⟩
  · have hb1 : bN b = 1 := by omega
    refine an_iconst 1 d3_31 rfl ?_
    refine as_goto 36 d3_32 (by decide) ?_
    refine as_ixor d3_36 ?_
    refine an_top (e' := nI ((ph x + ph y + bN b) % 2)) (by rw [hb1]; rw [nI_xor2 (by omega) (by omega)]; congr 1; omega) ?_
    refine as_istore d3_37 (by decide) ?_
    refine as_iload d3_39 rfl ?_
    refine as_iload d3_41 rfl ?_
    refine an_icmp_ne 61 d3_43 (by decide) (by omega) (by omega) (fun c43 => ?_) (fun c43 => ?_)
    · obtain ⟨lo, hi, hlt, hlh, elo, ehi⟩ : ∃ lo hi, lo < hi ∧ ((rt x = lo ∧ rt y = hi) ∨ (rt x = hi ∧ rt y = lo)) ∧ lo = (if rt y < rt x then rt y else rt x) ∧ hi = (if rt x < rt y then rt y else rt x) := by
        rcases Nat.lt_or_gt_of_ne c43 with g | g
        · exact ⟨rt x, rt y, g, Or.inl ⟨rfl, rfl⟩, by rw [if_neg (by omega)], by rw [if_pos g]⟩
        · exact ⟨rt y, rt x, g, Or.inr ⟨rfl, rfl⟩, by rw [if_pos g], by rw [if_neg (by omega)]⟩
      have hhi : hi < n := by omega
      have p3 := p2.link (b := b) hx hy hlh hlt
      have u3 := u2.lk hi lo ((ph x + ph y + bN b) % 2)
      refine as_iload d3_61 rfl ?_
      refine as_iload d3_63 rfl ?_
      refine ac_min d3_65 c3_26 (by decide) (Nat.le_of_ble_eq_true rfl) ?_
      refine an_top (e' := nI (lo)) (by rw [elo]; exact nI_minI (by omega) (by omega)) ?_
      refine as_istore d3_68 (by decide) ?_
      refine as_iload d3_70 rfl ?_
      refine as_iload d3_72 rfl ?_
      refine ac_max d3_74 c3_40 (by decide) (Nat.le_of_ble_eq_true rfl) ?_
      refine an_top (e' := nI (hi)) (by rw [ehi]; exact nI_maxI (by omega) (by omega)) ?_
      refine as_istore d3_77 (by decide) ?_
      refine as_aload_n d3_79 rfl ?_
      refine ap_get d3_80 f3_7 (by decide) rfl rfl ?_
      refine as_iload d3_83 rfl ?_
      refine as_iload d3_85 rfl ?_
      refine ap_iast d3_87 (fun _ _ _ _ => rfl) (by decide) (by omega) (by decide) ?_
      refine as_aload_n d3_88 rfl ?_
      refine ap_get d3_89 f3_13 (by decide) rfl rfl ?_
      refine as_iload d3_92 rfl ?_
      refine as_iload d3_94 rfl ?_
      refine ap_iast d3_96 (fun _ _ _ _ => rfl) (by decide) (by omega) (by decide) ?_
      refine as_aload_n d3_97 rfl ?_
      refine ap_get d3_98 f3_16 (by decide) rfl rfl ?_
      refine as_iload d3_101 rfl ?_
      refine ap_zald d3_103 (fun _ _ _ _ => rfl) (by decide) (by omega) (by decide) ?_
      refine an_top (e' := nI (cl hi)) ((u3.2 hi hhi).2.2) ?_
      refine an_if_eq 115 d3_104 (by decide) (by have := (hp.1 hi hhi).2.2.1; omega) (fun c104 => ?_) (fun c104 => ?_)
      · refine as_return d3_115 t3 ?_
        first
        | exact ⟨_, _, rfl, rfl, _, _, _, _, _, k2, u2.congr (fun _ _ => rfl) (fun _ _ => rfl) (fun z hz => if_neg (fun g => c49 g.1)), p3⟩
        | exact ⟨_, _, rfl, rfl, _, _, _, _, _, k2.sa (by omega) _ _, (u2.cl (r := rt x)).congr (fun _ _ => rfl) (fun _ _ => rfl) (fun z hz => by simp only [c49, true_and]), p3⟩
        | exact ⟨_, _, rfl, rfl, _, _, _, _, _, (k2.sa (by omega) _ _).sa (by omega) _ _, u3.congr (fun _ _ => rfl) (fun _ _ => rfl) (fun z hz => if_neg (fun g => by omega)), p3⟩
        | exact ⟨_, _, rfl, rfl, _, _, _, _, _, ((k2.sa (by omega) _ _).sa (by omega) _ _).sa (by omega) _ _, (u3.cl (r := lo)).congr (fun _ _ => rfl) (fun _ _ => rfl) (fun z hz => cl_and (by have := (hp.1 hi hhi).2.2.1; omega)), p3⟩
      · refine as_aload_n d3_107 rfl ?_
        refine ap_get d3_108 f3_16 (by decide) rfl rfl ?_
        refine as_iload d3_111 rfl ?_
        refine an_iconst 1 d3_113 rfl ?_
        refine ap_zast d3_114 (fun _ _ _ _ => rfl) (by decide) (by omega) (by decide) (rfl) ?_
        refine as_return d3_115 t3 ?_
        first
        | exact ⟨_, _, rfl, rfl, _, _, _, _, _, k2, u2.congr (fun _ _ => rfl) (fun _ _ => rfl) (fun z hz => if_neg (fun g => c49 g.1)), p3⟩
        | exact ⟨_, _, rfl, rfl, _, _, _, _, _, k2.sa (by omega) _ _, (u2.cl (r := rt x)).congr (fun _ _ => rfl) (fun _ _ => rfl) (fun z hz => by simp only [c49, true_and]), p3⟩
        | exact ⟨_, _, rfl, rfl, _, _, _, _, _, (k2.sa (by omega) _ _).sa (by omega) _ _, u3.congr (fun _ _ => rfl) (fun _ _ => rfl) (fun z hz => if_neg (fun g => by omega)), p3⟩
        | exact ⟨_, _, rfl, rfl, _, _, _, _, _, ((k2.sa (by omega) _ _).sa (by omega) _ _).sa (by omega) _ _, (u3.cl (r := lo)).congr (fun _ _ => rfl) (fun _ _ => rfl) (fun z hz => cl_and (by have := (hp.1 hi hhi).2.2.1; omega)), p3⟩
    · have p3 := p2.same (b := b) hx hy c43
      refine as_iload d3_46 rfl ?_
      refine an_iconst 1 d3_48 rfl ?_
      refine an_icmp_ne 60 d3_49 (by decide) (by omega) (by omega) (fun c49 => ?_) (fun c49 => ?_)
      · refine as_return d3_60 t3 ?_
        first
        | exact ⟨_, _, rfl, rfl, _, _, _, _, _, k2, u2.congr (fun _ _ => rfl) (fun _ _ => rfl) (fun z hz => if_neg (fun g => c49 g.1)), p3⟩
        | exact ⟨_, _, rfl, rfl, _, _, _, _, _, k2.sa (by omega) _ _, (u2.cl (r := rt x)).congr (fun _ _ => rfl) (fun _ _ => rfl) (fun z hz => by simp only [c49, true_and]), p3⟩
        | exact ⟨_, _, rfl, rfl, _, _, _, _, _, (k2.sa (by omega) _ _).sa (by omega) _ _, u3.congr (fun _ _ => rfl) (fun _ _ => rfl) (fun z hz => if_neg (fun g => by omega)), p3⟩
        | exact ⟨_, _, rfl, rfl, _, _, _, _, _, ((k2.sa (by omega) _ _).sa (by omega) _ _).sa (by omega) _ _, (u3.cl (r := lo)).congr (fun _ _ => rfl) (fun _ _ => rfl) (fun z hz => cl_and (by have := (hp.1 hi hhi).2.2.1; omega)), p3⟩
      · refine as_aload_n d3_52 rfl ?_
        refine ap_get d3_53 f3_16 (by decide) rfl rfl ?_
        refine as_iload d3_56 rfl ?_
        refine an_iconst 1 d3_58 rfl ?_
        refine ap_zast d3_59 (fun _ _ _ _ => rfl) (by decide) (by omega) (by decide) (rfl) ?_
        refine as_return d3_60 t3 ?_
        first
        | exact ⟨_, _, rfl, rfl, _, _, _, _, _, k2, u2.congr (fun _ _ => rfl) (fun _ _ => rfl) (fun z hz => if_neg (fun g => c49 g.1)), p3⟩
        | exact ⟨_, _, rfl, rfl, _, _, _, _, _, k2.sa (by omega) _ _, (u2.cl (r := rt x)).congr (fun _ _ => rfl) (fun _ _ => rfl) (fun z hz => by simp only [c49, true_and]), p3⟩
        | exact ⟨_, _, rfl, rfl, _, _, _, _, _, (k2.sa (by omega) _ _).sa (by omega) _ _, u3.congr (fun _ _ => rfl) (fun _ _ => rfl) (fun z hz => if_neg (fun g => by omega)), p3⟩
        | exact ⟨_, _, rfl, rfl, _, _, _, _, _, ((k2.sa (by omega) _ _).sa (by omega) _ _).sa (by omega) _ _, (u3.cl (r := lo)).congr (fun _ _ => rfl) (fun _ _ => rfl) (fun z hz => cl_and (by have := (hp.1 hi hhi).2.2.1; omega)), p3⟩
