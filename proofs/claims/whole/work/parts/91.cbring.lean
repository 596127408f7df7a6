/-! holes: the smallest number comes to d (class) -/
theorem lg_ge (x y : Int64) : (0 : Int32) ≤ lg_cmp x y ↔ ¬ x < y := by
  unfold lg_cmp
  by_cases h : x > y
  · rw [if_pos h]
    have h1 : y < x := h
    refine ⟨fun _ g => ?_, fun _ => by decide⟩
    rw [Int64.lt_iff_toInt_lt] at h1 g
    omega
  · rw [if_neg h]
    have h1 : ¬ y < x := h
    by_cases e : x = y
    · rw [if_pos e]
      subst e
      exact ⟨fun _ => h1, fun _ => by decide⟩
    · rw [if_neg e]
      refine ⟨fun g => absurd g (by decide), fun g => ?_⟩
      exfalso
      apply e
      apply Int64.toInt_inj.mp
      rw [Int64.lt_iff_toInt_lt] at h1 g
      omega
theorem i64_abs {a : Int} (h : sm a) : (if 0 < Int64.ofInt a then Int64.ofInt a else -Int64.ofInt a) = Int64.ofInt (a.natAbs : Int) := by
  have e : (0 : Int64) = Int64.ofInt 0 := rfl
  by_cases g : 0 < a
  · rw [if_pos (by rw [e, i64_lt ⟨by omega, by omega⟩ h]; exact g)]
    congr 1
    omega
  · rw [if_neg (by rw [e, i64_lt ⟨by omega, by omega⟩ h]; exact g), ← Int64.ofInt_neg]
    congr 1
    omega
theorem sm_abs {a : Int} (h : sm a) : sm (a.natAbs : Int) := by
  have := h.1
  have := h.2
  exact ⟨by omega, by omega⟩
theorem swC_a (a b : Nat) : swC a b a = b := by
  show (if a = b then a else if a = a then b else a) = b
  rw [if_pos rfl]
  split
  · assumption
  · rfl
abbrev B3 := Int × Nat × Nat
def bsS (a : Int) (r c : Nat) (s : B3) : B3 := if a ≠ 0 ∧ (s.1 = 0 ∨ (a.natAbs : Int) < s.1) then ((a.natAbs : Int), r, c) else s
def bsC (A : Nat → Nat → Int) (r d : Nat) (s : B3) : Nat → B3
  | 0 => s
  | c + 1 => bsS (A r (d + c)) r (d + c) (bsC A r d s c)
def bsR (A : Nat → Nat → Int) (d C : Nat) : Nat → B3
  | 0 => (0, 0, 0)
  | k + 1 => bsC A (d + k) d (bsR A d C k) (C - d)
def rI (b : Int) (r : Nat) : Int32 := if b = 0 then -1 else nI r
/-- what the search has found among the places Q -/
def BP (A : Nat → Nat → Int) (s : B3) (Q : Nat → Nat → Prop) : Prop := (s.1 = 0 ∧ ∀ i j, Q i j → A i j = 0) ∨ (s.1 ≠ 0 ∧ Q s.2.1 s.2.2 ∧ s.1 = ((A s.2.1 s.2.2).natAbs : Int) ∧ ∀ i j, Q i j → A i j ≠ 0 → s.1 ≤ ((A i j).natAbs : Int))
theorem BP.w {A : Nat → Nat → Int} {s : B3} {Q Q2 : Nat → Nat → Prop} (h : BP A s Q) (e : ∀ i j, Q i j ↔ Q2 i j) : BP A s Q2 := by
  rcases h with ⟨h1, h2⟩ | ⟨h1, h2, h3, h4⟩
  · exact Or.inl ⟨h1, fun i j q => h2 i j ((e i j).mpr q)⟩
  · exact Or.inr ⟨h1, (e _ _).mp h2, h3, fun i j q => h4 i j ((e i j).mpr q)⟩
theorem BP.s {A : Nat → Nat → Int} {s : B3} {Q : Nat → Nat → Prop} (h : BP A s Q) (r c : Nat) : BP A (bsS (A r c) r c s) (fun i j => Q i j ∨ (i = r ∧ j = c)) := by
  unfold bsS
  by_cases g : A r c ≠ 0 ∧ (s.1 = 0 ∨ ((A r c).natAbs : Int) < s.1)
  · rw [if_pos g]
    refine Or.inr ⟨by show ((A r c).natAbs : Int) ≠ 0; omega, Or.inr ⟨rfl, rfl⟩, rfl, fun i j q n => ?_⟩
    show ((A r c).natAbs : Int) ≤ _
    rcases q with q | ⟨rfl, rfl⟩
    · rcases h with ⟨h1, h2⟩ | ⟨h1, h2, h3, h4⟩
      · exact absurd (h2 i j q) n
      · have := h4 i j q n
        rcases g.2 with g2 | g2
        · exact absurd g2 h1
        · omega
    · exact Int.le_refl _
  · rw [if_neg g]
    rcases h with ⟨h1, h2⟩ | ⟨h1, h2, h3, h4⟩
    · refine Or.inl ⟨h1, fun i j q => ?_⟩
      rcases q with q | ⟨rfl, rfl⟩
      · exact h2 i j q
      · by_cases w : A i j = 0
        · exact w
        · exact absurd ⟨w, Or.inl h1⟩ g
    · refine Or.inr ⟨h1, Or.inl h2, h3, fun i j q n => ?_⟩
      rcases q with q | ⟨rfl, rfl⟩
      · exact h4 i j q n
      · by_cases w : ((A i j).natAbs : Int) < s.1
        · exact absurd ⟨n, Or.inr w⟩ g
        · omega
theorem BP.c {A : Nat → Nat → Int} {s : B3} {Q : Nat → Nat → Prop} (h : BP A s Q) (r d : Nat) : ∀ n, BP A (bsC A r d s n) (fun i j => Q i j ∨ (i = r ∧ d ≤ j ∧ j < d + n))
  | 0 => h.w (fun i j => ⟨Or.inl, fun g => g.elim id (fun w => by omega)⟩)
  | n + 1 => ((BP.c h r d n).s r (d + n)).w (fun i j => by
      constructor
      · rintro ((q | q) | q)
        · exact Or.inl q
        · exact Or.inr ⟨q.1, q.2.1, by omega⟩
        · exact Or.inr ⟨q.1, by omega, by omega⟩
      · rintro (q | q)
        · exact Or.inl (Or.inl q)
        · by_cases w : j = d + n
          · exact Or.inr ⟨q.1, w⟩
          · exact Or.inl (Or.inr ⟨q.1, q.2.1, by omega⟩))
theorem BP_R (A : Nat → Nat → Int) (d C : Nat) (hd : d ≤ C) : ∀ n, BP A (bsR A d C n) (fun i j => (d ≤ i ∧ i < d + n) ∧ d ≤ j ∧ j < C)
  | 0 => Or.inl ⟨rfl, fun i j q => by omega⟩
  | n + 1 => ((BP_R A d C hd n).c (d + n) d (C - d)).w (fun i j => by
      constructor
      · rintro (q | q)
        · exact ⟨⟨q.1.1, by omega⟩, q.2⟩
        · exact ⟨⟨by omega, by omega⟩, q.2.1, by omega⟩
      · rintro ⟨q1, q2⟩
        by_cases w : i = d + n
        · exact Or.inr ⟨w, q2.1, by omega⟩
        · exact Or.inl ⟨⟨q1.1, by omega⟩, q2⟩)
theorem bsS_z {a : Int} {r c : Nat} {s : B3} (h : a = 0) : bsS a r c s = s := if_neg (fun g => g.1 h)
theorem bsS_k {a : Int} {r c : Nat} {s : B3} (h : ¬ s.1 = 0) (g : ¬ (a.natAbs : Int) < s.1) : bsS a r c s = s := if_neg (fun w => w.2.elim h g)
theorem bsS_t {a : Int} {r c : Nat} {s : B3} (n : ¬ a = 0) (h : s.1 = 0 ∨ (a.natAbs : Int) < s.1) : bsS a r c s = ((a.natAbs : Int), r, c) := if_pos ⟨n, h⟩
theorem BP.sm {A : Nat → Nat → Int} {s : B3} {Q : Nat → Nat → Prop} (h : BP A s Q) (g : ∀ i j, Q i j → sm (A i j)) : sm s.1 := by
  rcases h with ⟨h1, h2⟩ | ⟨h1, h2, h3, h4⟩
  · rw [h1]; exact ⟨by omega, by omega⟩
  · rw [h3]; exact sm_abs (g _ _ h2)
/-- the smallest number, not 0, of what is left from d on stands at r c -/
def isLe (A : Nat → Nat → Int) (d R C r c : Nat) : Prop := (d ≤ r ∧ r < R) ∧ (d ≤ c ∧ c < C) ∧ A r c ≠ 0 ∧ ∀ i j, d ≤ i → i < R → d ≤ j → j < C → A i j ≠ 0 → (A r c).natAbs ≤ (A i j).natAbs
def swM (A : Nat → Nat → Int) (d r c : Nat) (i j : Nat) : Int := A (swC d r i) (swC d c j)
def ngM (A : Nat → Nat → Int) (d f : Nat) (i j : Nat) : Int := if i = d ∧ d ≤ j ∧ j < f then - A i j else A i j
def brM (A : Nat → Nat → Int) (d r c C : Nat) : Nat → Nat → Int := if swM A d r c d d < 0 then ngM (swM A d r c) d C else swM A d r c
theorem mx_bringC (X : am_X) (S : MS) (R C : Nat) (A : Nat → Nat → Int) (hR : R ≤ 18) (hC : C ≤ 6) (h : MXc S R C A) (d : Nat) (hd : d < R) (hd2 : d < C) (hs : ∀ i, d ≤ i → i < R → ∀ j, d ≤ j → j < C → sm (A i j)) : ∃ v T, MC X 26 [.ref (22), .int (nI (d))] S v T ∧ dKeep S T ∧ ((v = some (.int (nI 0)) ∧ MXc T R C A ∧ ∀ i j, d ≤ i → i < R → d ≤ j → j < C → A i j = 0) ∨ (v = some (.int (nI 1)) ∧ ∃ r c, isLe A d R C r c ∧ MXc T R C (brM A d r c C))) := by
  refine MX.mc (X := X) (mj := 26) (as := [.ref (22), .int (nI (d))]) (S := S) (Post := fun v T => dKeep S T ∧ ((v = some (.int (nI 0)) ∧ MXc T R C A ∧ ∀ i j, d ≤ i → i < R → d ≤ j → j < C → A i j = 0) ∨ (v = some (.int (nI 1)) ∧ ∃ r c, isLe A d R C r c ∧ MXc T R C (brM A d r c C)))) ?_
  refine MX.of (Nat.le_of_ble_eq_true rfl) ?_
  refine an_iconstI (-1) d26_0 rfl ?_
  refine as_istore_n d26_1 (by decide) ?_
  refine an_iconstI (-1) d26_2 rfl ?_
  refine as_istore_n d26_3 (by decide) ?_
  refine as_lconst d26_4 ?_
  refine as_lstore d26_5 (by decide) ?_
  refine as_iload_n d26_7 rfl ?_
  refine as_istore d26_8 (by decide) ?_
  refine AW.loc [(0, .ref (22)), (1, .int (nI (d))), (2, .int ((-1))), (3, .int ((-1))), (4, .long (Int64.ofNat 0)), (6, .int (nI (d)))] (am_pick [4, 5, 3, 2, 1, 0] rfl rfl) ?_
  refine aw_for (fun k => ((10, [(0, .ref (22)), (1, .int (nI (d))), (2, .int (rI (bsR A d C (k)).1 (bsR A d C (k)).2.1)), (3, .int (rI (bsR A d C (k)).1 (bsR A d C (k)).2.2)), (4, .long (Int64.ofInt (bsR A d C (k)).1)), (6, .int (nI (d + k)))], [], 208, HP (S), 0, 0) : am_Z)) (R - d) (rfl) (fun k hk ihk => ?_) ?_
  · refine as_iload d26_10 rfl ?_
    refine as_aload_n d26_12 rfl ?_
    refine ap_get d26_13 f26_24 (by decide) rfl rfl ?_
    refine an_top (e' := nI (R)) (h.1) ?_
    refine an_icmp_ge 90 d26_16 (by decide) (by omega) (by omega) (fun c16 => by omega) (fun c16 => ?_)
    refine as_iload_n d26_19 rfl ?_
    refine as_istore d26_20 (by decide) ?_
    refine AW.loc [(0, .ref (22)), (1, .int (nI (d))), (2, .int (rI (bsR A d C (k)).1 (bsR A d C (k)).2.1)), (3, .int (rI (bsR A d C (k)).1 (bsR A d C (k)).2.2)), (4, .long (Int64.ofInt (bsR A d C (k)).1)), (6, .int (nI (d + k))), (7, .int (nI (d)))] (am_pick [1, 2, 3, 4, 5, 6, 0] rfl rfl) ?_
    refine aw_for (fun c => ((22, [(0, .ref (22)), (1, .int (nI (d))), (2, .int (rI (bsC A (d + k) d (bsR A d C k) (c)).1 (bsC A (d + k) d (bsR A d C k) (c)).2.1)), (3, .int (rI (bsC A (d + k) d (bsR A d C k) (c)).1 (bsC A (d + k) d (bsR A d C k) (c)).2.2)), (4, .long (Int64.ofInt (bsC A (d + k) d (bsR A d C k) (c)).1)), (6, .int (nI (d + k))), (7, .int (nI (d + c)))], [], 208, HP (S), 0, 0) : am_Z)) (C - d) (rfl) (fun c hc ihc => ?_) ?_
    · have hse := hs (d + k) (by omega) (by omega) (d + c) (by omega) (by omega)
      have hsb : sm (bsC A (d + k) d (bsR A d C k) (c)).1 := ((BP_R A d C (by omega) k).c (d + k) d c).sm (fun i j q => hs i (by omega) (by omega) j (by omega) (by omega))
      refine as_iload d26_22 rfl ?_
      refine as_aload_n d26_24 rfl ?_
      refine ap_get d26_25 f26_49 (by decide) rfl rfl ?_
      refine an_top (e' := nI (C)) (h.2.1) ?_
      refine an_icmp_ge 84 d26_28 (by decide) (by omega) (by omega) (fun c28 => by omega) (fun c28 => ?_)
      refine as_aload_n d26_31 rfl ?_
      refine ap_get d26_32 f26_13 (by decide) rfl rfl ?_
      refine as_iload d26_35 rfl ?_
      refine ap_aald d26_37 isQ23 (Or.inr rfl) (by decide) (by omega) (by decide) (an_topr (show _ = S.2.2.2 23 (d + k) from rfl) ?_)
      refine as_iload d26_38 rfl ?_
      refine ap_lald d26_40 (isJ_row (h.2.2.1 (d + k) (by omega))) (by have := h.2.2.1 (d + k) (by omega); omega) (by omega) (by decide) (an_topl (e' := Int64.ofInt (A (d + k) (d + c))) (h.2.2.2.2 _ (by omega) _ (by omega)) ?_)
      refine ac_abs d26_41 c26_107 (by decide) (by decide) ?_
      refine an_topl (e' := Int64.ofInt ((A (d + k) (d + c)).natAbs : Int)) (i64_abs hse) ?_
      refine as_lstore d26_44 (by decide) ?_
      refine as_lload d26_46 rfl ?_
      refine as_lconst d26_48 ?_
      refine as_lcmp d26_49 ?_
      refine as_if_eq 78 d26_50 (by decide) (fun c50 => ?_) (fun c50 => ?_)
      · have hb : bsS (A (d + k) (d + c)) (d + k) (d + c) (bsC A (d + k) d (bsR A d C k) (c)) = (bsC A (d + k) d (bsR A d C k) (c)) := bsS_z (by have := (i64_z (sm_abs hse)).mp ((lg_z _ _).mp c50); omega)
        refine an_iinc 1 d26_78 rfl rfl (by decide) ?_
        refine as_goto 22 d26_81 (by decide) ?_
        refine AW.loc [(0, .ref (22)), (1, .int (nI (d))), (2, .int (rI (bsC A (d + k) d (bsR A d C k) (c)).1 (bsC A (d + k) d (bsR A d C k) (c)).2.1)), (3, .int (rI (bsC A (d + k) d (bsR A d C k) (c)).1 (bsC A (d + k) d (bsR A d C k) (c)).2.2)), (4, .long (Int64.ofInt (bsC A (d + k) d (bsR A d C k) (c)).1)), (6, .int (nI (d + k))), (7, .int (nI (d + c + 1)))] (am_pick [2, 3, 4, 5, 6, 7, 0] rfl rfl) ?_
        have e2 : rI (bsC A (d + k) d (bsR A d C k) (c + 1)).1 (bsC A (d + k) d (bsR A d C k) (c + 1)).2.1 = rI (bsC A (d + k) d (bsR A d C k) (c)).1 (bsC A (d + k) d (bsR A d C k) (c)).2.1 := by first | exact congrArg (fun z : B3 => rI z.1 z.2.1) hb | exact congrArg (fun z : B3 => Value.int (rI z.1 z.2.1)) hb | exact (congrArg (fun z : B3 => Value.int (rI z.1 z.2.1)) hb2).trans (congrArg Value.int (if_neg hnz))
        have e3 : rI (bsC A (d + k) d (bsR A d C k) (c + 1)).1 (bsC A (d + k) d (bsR A d C k) (c + 1)).2.2 = rI (bsC A (d + k) d (bsR A d C k) (c)).1 (bsC A (d + k) d (bsR A d C k) (c)).2.2 := by first | exact congrArg (fun z : B3 => rI z.1 z.2.2) hb | exact congrArg (fun z : B3 => Value.int (rI z.1 z.2.2)) hb | exact (congrArg (fun z : B3 => Value.int (rI z.1 z.2.2)) hb2).trans (congrArg Value.int (if_neg hnz))
        have e4 : Int64.ofInt (bsC A (d + k) d (bsR A d C k) (c + 1)).1 = Int64.ofInt (bsC A (d + k) d (bsR A d C k) (c)).1 := by first | exact congrArg (fun z : B3 => Int64.ofInt z.1) hb | exact congrArg (fun z : B3 => Int64.ofInt z.1) hb2
        rw [e2, e3, e4] at ihc
        exact ihc
      · have hn0 : ¬ A (d + k) (d + c) = 0 := fun g => c50 ((lg_z _ _).mpr ((i64_z (sm_abs hse)).mpr (by omega)))
        refine as_lload d26_53 rfl ?_
        refine as_lconst d26_55 ?_
        refine as_lcmp d26_56 ?_
        refine as_if_eq 68 d26_57 (by decide) (fun c57 => ?_) (fun c57 => ?_)
        · have hnz : ¬ ((A (d + k) (d + c)).natAbs : Int) = 0 := by omega
          have hb2 : bsS (A (d + k) (d + c)) (d + k) (d + c) (bsC A (d + k) d (bsR A d C k) (c)) = (((A (d + k) (d + c)).natAbs : Int), d + k, d + c) := bsS_t hn0 (Or.inl ((i64_z hsb).mp ((lg_z _ _).mp c57)))
          refine as_lload d26_68 rfl ?_
          refine as_lstore d26_70 (by decide) ?_
          refine as_iload d26_72 rfl ?_
          refine as_istore_n d26_74 (by decide) ?_
          refine as_iload d26_75 rfl ?_
          refine as_istore_n d26_77 (by decide) ?_
          refine an_iinc 1 d26_78 rfl rfl (by decide) ?_
          refine as_goto 22 d26_81 (by decide) ?_
          refine AW.loc [(0, .ref (22)), (1, .int (nI (d))), (2, .int (nI (d + k))), (3, .int (nI (d + c))), (4, .long (Int64.ofInt ((A (d + k) (d + c)).natAbs : Int))), (6, .int (nI (d + k))), (7, .int (nI (d + c + 1)))] (am_pick [5, 6, 2, 1, 3, 7, 0] rfl rfl) ?_
          have e2 : (.int (rI (bsC A (d + k) d (bsR A d C k) (c + 1)).1 (bsC A (d + k) d (bsR A d C k) (c + 1)).2.1) : Value) = .int (nI (d + k)) := by first | exact congrArg (fun z : B3 => rI z.1 z.2.1) hb | exact congrArg (fun z : B3 => Value.int (rI z.1 z.2.1)) hb | exact (congrArg (fun z : B3 => Value.int (rI z.1 z.2.1)) hb2).trans (congrArg Value.int (if_neg hnz))
          have e3 : (.int (rI (bsC A (d + k) d (bsR A d C k) (c + 1)).1 (bsC A (d + k) d (bsR A d C k) (c + 1)).2.2) : Value) = .int (nI (d + c)) := by first | exact congrArg (fun z : B3 => rI z.1 z.2.2) hb | exact congrArg (fun z : B3 => Value.int (rI z.1 z.2.2)) hb | exact (congrArg (fun z : B3 => Value.int (rI z.1 z.2.2)) hb2).trans (congrArg Value.int (if_neg hnz))
          have e4 : Int64.ofInt (bsC A (d + k) d (bsR A d C k) (c + 1)).1 = Int64.ofInt ((A (d + k) (d + c)).natAbs : Int) := by first | exact congrArg (fun z : B3 => Int64.ofInt z.1) hb | exact congrArg (fun z : B3 => Int64.ofInt z.1) hb2
          rw [e2, e3, e4] at ihc
          exact ihc
        · have hnb : ¬ (bsC A (d + k) d (bsR A d C k) (c)).1 = 0 := fun g => c57 ((lg_z _ _).mpr ((i64_z hsb).mpr g))
          refine as_lload d26_60 rfl ?_
          refine as_lload d26_62 rfl ?_
          refine as_lcmp d26_64 ?_
          refine as_if_ge 78 d26_65 (by decide) (fun c65 => ?_) (fun c65 => ?_)
          · have hb : bsS (A (d + k) (d + c)) (d + k) (d + c) (bsC A (d + k) d (bsR A d C k) (c)) = (bsC A (d + k) d (bsR A d C k) (c)) := bsS_k hnb (fun g => (lg_ge _ _).mp c65 ((i64_lt (sm_abs hse) hsb).mpr g))
            refine an_iinc 1 d26_78 rfl rfl (by decide) ?_
            refine as_goto 22 d26_81 (by decide) ?_
            refine AW.loc [(0, .ref (22)), (1, .int (nI (d))), (2, .int (rI (bsC A (d + k) d (bsR A d C k) (c)).1 (bsC A (d + k) d (bsR A d C k) (c)).2.1)), (3, .int (rI (bsC A (d + k) d (bsR A d C k) (c)).1 (bsC A (d + k) d (bsR A d C k) (c)).2.2)), (4, .long (Int64.ofInt (bsC A (d + k) d (bsR A d C k) (c)).1)), (6, .int (nI (d + k))), (7, .int (nI (d + c + 1)))] (am_pick [2, 3, 4, 5, 6, 7, 0] rfl rfl) ?_
            have e2 : rI (bsC A (d + k) d (bsR A d C k) (c + 1)).1 (bsC A (d + k) d (bsR A d C k) (c + 1)).2.1 = rI (bsC A (d + k) d (bsR A d C k) (c)).1 (bsC A (d + k) d (bsR A d C k) (c)).2.1 := by first | exact congrArg (fun z : B3 => rI z.1 z.2.1) hb | exact congrArg (fun z : B3 => Value.int (rI z.1 z.2.1)) hb | exact (congrArg (fun z : B3 => Value.int (rI z.1 z.2.1)) hb2).trans (congrArg Value.int (if_neg hnz))
            have e3 : rI (bsC A (d + k) d (bsR A d C k) (c + 1)).1 (bsC A (d + k) d (bsR A d C k) (c + 1)).2.2 = rI (bsC A (d + k) d (bsR A d C k) (c)).1 (bsC A (d + k) d (bsR A d C k) (c)).2.2 := by first | exact congrArg (fun z : B3 => rI z.1 z.2.2) hb | exact congrArg (fun z : B3 => Value.int (rI z.1 z.2.2)) hb | exact (congrArg (fun z : B3 => Value.int (rI z.1 z.2.2)) hb2).trans (congrArg Value.int (if_neg hnz))
            have e4 : Int64.ofInt (bsC A (d + k) d (bsR A d C k) (c + 1)).1 = Int64.ofInt (bsC A (d + k) d (bsR A d C k) (c)).1 := by first | exact congrArg (fun z : B3 => Int64.ofInt z.1) hb | exact congrArg (fun z : B3 => Int64.ofInt z.1) hb2
            rw [e2, e3, e4] at ihc
            exact ihc
          · have hnz : ¬ ((A (d + k) (d + c)).natAbs : Int) = 0 := by omega
            have hb2 : bsS (A (d + k) (d + c)) (d + k) (d + c) (bsC A (d + k) d (bsR A d C k) (c)) = (((A (d + k) (d + c)).natAbs : Int), d + k, d + c) := bsS_t hn0 (Or.inr (by
              by_cases g : ((A (d + k) (d + c)).natAbs : Int) < (bsC A (d + k) d (bsR A d C k) (c)).1
              · exact g
              · exact absurd ((lg_ge _ _).mpr (fun w => g ((i64_lt (sm_abs hse) hsb).mp w))) c65))
            refine as_lload d26_68 rfl ?_
            refine as_lstore d26_70 (by decide) ?_
            refine as_iload d26_72 rfl ?_
            refine as_istore_n d26_74 (by decide) ?_
            refine as_iload d26_75 rfl ?_
            refine as_istore_n d26_77 (by decide) ?_
            refine an_iinc 1 d26_78 rfl rfl (by decide) ?_
            refine as_goto 22 d26_81 (by decide) ?_
            refine AW.loc [(0, .ref (22)), (1, .int (nI (d))), (2, .int (nI (d + k))), (3, .int (nI (d + c))), (4, .long (Int64.ofInt ((A (d + k) (d + c)).natAbs : Int))), (6, .int (nI (d + k))), (7, .int (nI (d + c + 1)))] (am_pick [5, 6, 2, 1, 3, 7, 0] rfl rfl) ?_
            have e2 : (.int (rI (bsC A (d + k) d (bsR A d C k) (c + 1)).1 (bsC A (d + k) d (bsR A d C k) (c + 1)).2.1) : Value) = .int (nI (d + k)) := by first | exact congrArg (fun z : B3 => rI z.1 z.2.1) hb | exact congrArg (fun z : B3 => Value.int (rI z.1 z.2.1)) hb | exact (congrArg (fun z : B3 => Value.int (rI z.1 z.2.1)) hb2).trans (congrArg Value.int (if_neg hnz))
            have e3 : (.int (rI (bsC A (d + k) d (bsR A d C k) (c + 1)).1 (bsC A (d + k) d (bsR A d C k) (c + 1)).2.2) : Value) = .int (nI (d + c)) := by first | exact congrArg (fun z : B3 => rI z.1 z.2.2) hb | exact congrArg (fun z : B3 => Value.int (rI z.1 z.2.2)) hb | exact (congrArg (fun z : B3 => Value.int (rI z.1 z.2.2)) hb2).trans (congrArg Value.int (if_neg hnz))
            have e4 : Int64.ofInt (bsC A (d + k) d (bsR A d C k) (c + 1)).1 = Int64.ofInt ((A (d + k) (d + c)).natAbs : Int) := by first | exact congrArg (fun z : B3 => Int64.ofInt z.1) hb | exact congrArg (fun z : B3 => Int64.ofInt z.1) hb2
            rw [e2, e3, e4] at ihc
            exact ihc
    · refine as_iload d26_22 rfl ?_
      refine as_aload_n d26_24 rfl ?_
      refine ap_get d26_25 f26_49 (by decide) rfl rfl ?_
      refine an_top (e' := nI (C)) (h.2.1) ?_
      refine an_icmp_ge 84 d26_28 (by decide) (by omega) (by omega) (fun c28 => ?_) (fun c28 => by omega)
      refine an_iinc 1 d26_84 rfl rfl (by decide) ?_
      refine as_goto 10 d26_87 (by decide) ?_
      refine AW.loc [(0, .ref (22)), (1, .int (nI (d))), (2, .int (rI (bsC A (d + k) d (bsR A d C k) ((C - d))).1 (bsC A (d + k) d (bsR A d C k) ((C - d))).2.1)), (3, .int (rI (bsC A (d + k) d (bsR A d C k) ((C - d))).1 (bsC A (d + k) d (bsR A d C k) ((C - d))).2.2)), (4, .long (Int64.ofInt (bsC A (d + k) d (bsR A d C k) ((C - d))).1)), (6, .int (nI (d + k + 1)))] (am_pick [1, 2, 3, 4, 5, 0] rfl rfl) ?_
      have e2 : rI (bsR A d C (k + 1)).1 (bsR A d C (k + 1)).2.1 = rI (bsC A (d + k) d (bsR A d C k) ((C - d))).1 (bsC A (d + k) d (bsR A d C k) ((C - d))).2.1 := by first | rfl | omega
      have e3 : rI (bsR A d C (k + 1)).1 (bsR A d C (k + 1)).2.2 = rI (bsC A (d + k) d (bsR A d C k) ((C - d))).1 (bsC A (d + k) d (bsR A d C k) ((C - d))).2.2 := by first | rfl | omega
      have e4 : Int64.ofInt (bsR A d C (k + 1)).1 = Int64.ofInt (bsC A (d + k) d (bsR A d C k) ((C - d))).1 := by first | rfl | omega
      rw [e2, e3, e4] at ihk
      exact ihk
  · refine as_iload d26_10 rfl ?_
    refine as_aload_n d26_12 rfl ?_
    refine ap_get d26_13 f26_24 (by decide) rfl rfl ?_
    refine an_top (e' := nI (R)) (by first | exact h.1 | exact m5.1) ?_
    refine an_icmp_ge 90 d26_16 (by decide) (by omega) (by omega) (fun c16 => ?_) (fun c16 => by omega)
    have hbp := BP_R A d C (by omega) (R - d)
    have hsb : sm (bsR A d C (R - d)).1 := hbp.sm (fun i j q => hs i (by omega) (by omega) j (by omega) (by omega))
    refine as_lload d26_90 rfl ?_
    refine as_lconst d26_92 ?_
    refine as_lcmp d26_93 ?_
    refine as_if_ne 99 d26_94 (by decide) (fun c94 => ?_) (fun c94 => ?_)
    · have hnz : ¬ (bsR A d C (R - d)).1 = 0 := fun g => c94 ((lg_z _ _).mpr ((i64_z hsb).mpr g))
      obtain ⟨r0, hr0⟩ : ∃ r0, r0 = (bsR A d C (R - d)).2.1 := ⟨_, rfl⟩
      obtain ⟨c0, hc0⟩ : ∃ c0, c0 = (bsR A d C (R - d)).2.2 := ⟨_, rfl⟩
      have hle : isLe A d R C r0 c0 := by
        rcases hbp with ⟨w, _⟩ | ⟨_, w2, w3, w4⟩
        · exact absurd w hnz
        · rw [← hr0, ← hc0] at w2 w3
          refine ⟨⟨w2.1.1, by omega⟩, w2.2, by omega, fun i j q1 q2 q3 q4 q5 => ?_⟩
          have := w4 i j ⟨⟨q1, by omega⟩, q3, q4⟩ q5
          omega
      have hr1 := hle.1
      have hc1 := hle.2.1
      have m1 := mc_swapRowsC X S d r0 (by omega) (by omega) h.2.2.1
      have g1 := h.swR hR hd hr1.2 (b := r0)
      obtain ⟨T, m2, m3, m4, m5⟩ := mx_swapColsC X (srT S d r0) R C _ hR hC g1 d c0 hd2 hc1.2
      have hk2 := (srT_k S d r0).trans m3
      have m5 : MXc T R C (swM A d r0 c0) := m5
      have hsd : sm (swM A d r0 c0 d d) := by
        show sm (A (swC d r0 d) (swC d c0 d))
        rw [swC_a, swC_a]
        exact hs _ hr1.1 hr1.2 _ hc1.1 hc1.2
      refine as_aload_n d26_99 rfl ?_
      refine as_iload_n d26_100 rfl ?_
      refine as_iload_n d26_101 rfl ?_
      refine an_top (e' := nI (r0)) (by rw [hr0]; exact if_neg hnz) ?_
      refine ac_v2 d26_102 c26_111 (by decide) rfl (Nat.le_of_ble_eq_true rfl) (m1) ?_
      refine as_aload_n d26_105 rfl ?_
      refine as_iload_n d26_106 rfl ?_
      refine as_iload_n d26_107 rfl ?_
      refine an_top (e' := nI (c0)) (by rw [hc0]; exact if_neg hnz) ?_
      refine ac_v2 d26_108 c26_115 (by decide) rfl (Nat.le_of_ble_eq_true rfl) (m2) ?_
      refine as_aload_n d26_111 rfl ?_
      refine ap_get d26_112 f26_13 (by decide) rfl rfl ?_
      refine as_iload_n d26_115 rfl ?_
      refine ap_aald d26_116 isQ23 (Or.inr rfl) (by decide) (by omega) (by decide) (an_topr (show _ = T.2.2.2 23 (d) from rfl) ?_)
      refine as_iload_n d26_117 rfl ?_
      refine ap_lald d26_118 (isJ_row (m5.2.2.1 (d) (by omega))) (by have := m5.2.2.1 (d) (by omega); omega) (by omega) (by decide) (an_topl (e' := Int64.ofInt (swM A d r0 c0 d d)) (m5.2.2.2.2 d hd d hd2) ?_)
      refine as_lconst d26_119 ?_
      refine as_lcmp d26_120 ?_
      refine as_if_ge 161 d26_121 (by decide) (fun c121 => ?_) (fun c121 => ?_)
      · have hng : brM A d r0 c0 C = swM A d r0 c0 := if_neg (fun g => (lg_ge _ _).mp c121 ((i64_lt (b := 0) hsd ⟨by omega, by omega⟩).mpr g))
        refine an_iconst 1 d26_161 rfl ?_
        refine as_ireturn d26_162 (by rw [t26]; rfl) ?_
        exact ⟨_, _, rfl, hk2, Or.inr ⟨rfl, r0, c0, hle, by rw [hng]; exact m5⟩⟩
      · have hng : brM A d r0 c0 C = ngM (swM A d r0 c0) d C := if_pos (by
          by_cases g : swM A d r0 c0 d d < 0
          · exact g
          · exact absurd ((lg_ge _ _).mpr (fun w => g ((i64_lt (b := 0) hsd ⟨by omega, by omega⟩).mp w))) c121)
        refine as_iload_n d26_124 rfl ?_
        refine as_istore d26_125 (by decide) ?_
        refine AW.loc [(0, .ref (22)), (1, .int (nI (d))), (6, .int (nI (d)))] (am_pick [1, 2, 0] rfl rfl) ?_
        refine aw_fromE (fun c U => ((127, [(0, .ref (22)), (1, .int (nI (d))), (6, .int (nI (d + c)))], [], 208, HP (U), 0, 0) : am_Z)) (fun c U => dKeep S U ∧ MXc U R C (ngM (swM A d r0 c0) d (d + c))) (0) (C - d) (by omega) (T) (rfl) (⟨hk2, m5.eq (fun i _ j _ => if_neg (by omega))⟩) (fun c U hc0 hc hI ihc => ?_) (fun U hX => ?_)
        · refine as_iload d26_127 rfl ?_
          refine as_aload_n d26_129 rfl ?_
          refine ap_get d26_130 f26_49 (by decide) rfl rfl ?_
          refine an_top (e' := nI (C)) (hI.2.2.1) ?_
          refine an_icmp_ge 161 d26_133 (by decide) (by omega) (by omega) (fun c133 => by omega) (fun c133 => ?_)
          refine as_aload_n d26_136 rfl ?_
          refine ap_get d26_137 f26_13 (by decide) rfl rfl ?_
          refine as_iload_n d26_140 rfl ?_
          refine ap_aald d26_141 isQ23 (Or.inr rfl) (by decide) (by omega) (by decide) (an_topr (show _ = U.2.2.2 23 (d) from rfl) ?_)
          refine as_iload d26_142 rfl ?_
          refine as_aload_n d26_144 rfl ?_
          refine ap_get d26_145 f26_13 (by decide) rfl rfl ?_
          refine as_iload_n d26_148 rfl ?_
          refine ap_aald d26_149 isQ23 (Or.inr rfl) (by decide) (by omega) (by decide) (an_topr (show _ = U.2.2.2 23 (d) from rfl) ?_)
          refine as_iload d26_150 rfl ?_
          refine ap_lald d26_152 (isJ_row (hI.2.2.2.1 (d) (by omega))) (by have := hI.2.2.2.1 (d) (by omega); omega) (by omega) (by decide) (an_topl (e' := Int64.ofInt (swM A d r0 c0 d (d + c))) (by rw [hI.2.2.2.2.2 d hd (d + c) (by omega)]; exact congrArg Int64.ofInt (if_neg (by omega))) ?_)
          refine as_lneg d26_153 ?_
          refine ap_last d26_154 (isJ_row (hI.2.2.2.1 d (by omega))) (by have := hI.2.2.2.1 d (by omega); omega) (by omega) (by decide) ?_
          have hst := hI.2.sl hR (r := d) hd (c := d + c) (y := -Int64.ofInt (swM A d r0 c0 d (d + c))) (v := -swM A d r0 c0 d (d + c)) (Int64.ofInt_neg _).symm
          refine an_iinc 1 d26_155 rfl rfl (by decide) ?_
          refine as_goto 127 d26_158 (by decide) ?_
          refine AW.loc [(0, .ref (22)), (1, .int (nI (d))), (6, .int (nI (d + c + 1)))] (am_pick [1, 2, 0] rfl rfl) ?_
          have ihc := ihc (U.sl (U.2.2.2 23 d) (d + c) (-(Int64.ofInt (swM A d r0 c0 d (d + c))))) (⟨hI.1.sl (hI.2.2.2.1 d (by omega)) _ _, hst.eq (fun i _ j _ => by
            by_cases w : i = d ∧ j = d + c
            · rw [if_pos w, w.1, w.2]; exact if_pos (by omega)
            · rw [if_neg w]
              unfold ngM
              by_cases w2 : i = d ∧ d ≤ j ∧ j < d + c
              · rw [if_pos w2, if_pos (by omega)]
              · rw [if_neg w2, if_neg (by omega)])⟩)
          exact ihc
        · refine as_iload d26_127 rfl ?_
          refine as_aload_n d26_129 rfl ?_
          refine ap_get d26_130 f26_49 (by decide) rfl rfl ?_
          refine an_top (e' := nI (C)) (hX.2.2.1) ?_
          refine an_icmp_ge 161 d26_133 (by decide) (by omega) (by omega) (fun c133 => ?_) (fun c133 => by omega)
          refine an_iconst 1 d26_161 rfl ?_
          refine as_ireturn d26_162 (by rw [t26]; rfl) ?_
          refine ⟨_, _, rfl, hX.1, Or.inr ⟨rfl, r0, c0, hle, ?_⟩⟩
          rw [hng]
          exact hX.2.eq (fun i _ j _ => by rw [show d + (C - d) = C by omega])
    · have hz : (bsR A d C (R - d)).1 = 0 := (i64_z hsb).mp ((lg_z _ _).mp c94)
      have hall : ∀ i j, d ≤ i → i < R → d ≤ j → j < C → A i j = 0 := by
        rcases hbp with ⟨_, w⟩ | ⟨w, _⟩
        · exact fun i j q1 q2 q3 q4 => w i j ⟨⟨q1, by omega⟩, q3, q4⟩
        · exact absurd hz w
      refine an_iconst 0 d26_97 rfl ?_
      refine as_ireturn d26_98 (by rw [t26]; rfl) ?_
      exact ⟨_, _, rfl, dKeep.rf S, Or.inl ⟨rfl, h, hall⟩⟩
