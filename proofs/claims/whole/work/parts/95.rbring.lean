/-! holes: the reference's table, bring -/
def MXr (T : MS) (R C : Nat) (A : MT) : Prop := T.1 189 11 = nI R ∧ T.1 189 12 = nI C ∧ ∀ r, r < R → ∀ c, c < C → T.2.2.1 198 (6 * r + c) = Int64.ofInt (A r c)
/-- only the table changes -/
def tKeep (S T : MS) : Prop := T.1 = S.1 ∧ T.2.1 = S.2.1 ∧ T.2.2.2 = S.2.2.2 ∧ ∀ k, k ≠ 198 → T.2.2.1 k = S.2.2.1 k
theorem tKeep.rf (S : MS) : tKeep S S := ⟨rfl, rfl, rfl, fun _ _ => rfl⟩
theorem tKeep.trans {S T U : MS} (h : tKeep S T) (g : tKeep T U) : tKeep S U := ⟨g.1.trans h.1, g.2.1.trans h.2.1, g.2.2.1.trans h.2.2.1, fun k a => (g.2.2.2 k a).trans (h.2.2.2 k a)⟩
theorem tKeep.sl {S T : MS} (h : tKeep S T) (i : Nat) (x : Int64) : tKeep S (T.sl 198 i x) := ⟨h.1, h.2.1, h.2.2.1, fun k a => by
  show u2 T.2.2.1 198 i x k = _
  rw [u2_ne _ _ _ a]
  exact h.2.2.2 k a⟩
theorem MXr.sl {T : MS} {R C : Nat} {A : MT} (h : MXr T R C A) (hC : C ≤ 6) {r c : Nat} (hc : c < 6) {y : Int64} {v : Int} (hy : y = Int64.ofInt v) : MXr (T.sl 198 (6 * r + c) y) R C (fun i j => if i = r ∧ j = c then v else A i j) := by
  refine ⟨h.1, h.2.1, fun i hi j hj => ?_⟩
  show (T.sl 198 (6 * r + c) y).2.2.1 198 (6 * i + j) = Int64.ofInt (if i = r ∧ j = c then v else A i j)
  rw [sl_at]
  by_cases e : i = r ∧ j = c
  · rw [if_pos ⟨rfl, by rw [e.1, e.2]⟩, if_pos e, hy]
  · rw [if_neg e, if_neg (fun w => e (by omega))]
    exact h.2.2 i hi j hj
theorem MXr.eq {T : MS} {R C : Nat} {A B : MT} (h : MXr T R C A) (e : ∀ r, r < R → ∀ c, c < C → B r c = A r c) : MXr T R C B := ⟨h.1, h.2.1, fun r hr c hc => by rw [e r hr c hc]; exact h.2.2 r hr c hc⟩
theorem MXr.cell {T : MS} {R C : Nat} {A : MT} (X : am_X) (h : MXr T R C A) (hR : R ≤ 18) (hC : C ≤ 6) {r c : Nat} (hr : r < R) (hc : c < C) : MC X 145 [.ref (189), .int (nI (r)), .int (nI (c))] T (some (.long (Int64.ofInt (A r c)))) T := by
  have := mc_cell X T r c (by omega) (by omega)
  rw [h.2.2 r hr c hc] at this
  exact this
theorem rI_m {b : Int} {r : Nat} (hr : r < 2 ^ 31) : rI b r = -1 ↔ b = 0 := by
  unfold rI
  by_cases h : b = 0
  · rw [if_pos h]; exact ⟨fun _ => h, fun _ => rfl⟩
  · rw [if_neg h]; exact ⟨fun g => absurd g (nI_ne1 hr), fun g => absurd g h⟩
theorem i64_pos {a : Int} (h : sm a) (g : (0 : Int32) ≤ lg_cmp (Int64.ofInt a) (Int64.ofNat 0)) : Int64.ofInt a = Int64.ofInt (a.natAbs : Int) := by
  have : ¬ a < 0 := fun w => (lg_ge _ _).mp g ((i64_lt (b := 0) h ⟨by omega, by omega⟩).mpr w)
  congr 1
  omega
theorem i64_neg {a : Int} (h : sm a) (g : ¬ (0 : Int32) ≤ lg_cmp (Int64.ofInt a) (Int64.ofNat 0)) : -(Int64.ofInt a) = Int64.ofInt (a.natAbs : Int) := by
  have : a < 0 := by
    by_cases w : a < 0
    · exact w
    · exact absurd ((lg_ge _ _).mpr (fun q => w ((i64_lt (b := 0) h ⟨by omega, by omega⟩).mp q))) g
  rw [← Int64.ofInt_neg]
  congr 1
  omega
theorem swC_comm (a b i : Nat) : swC a b i = swC b a i := by
  show (if i = b then a else if i = a then b else i) = (if i = a then b else if i = b then a else i)
  split
  · split
    · omega
    · rfl
  · rfl
theorem mx_bringR (X : am_X) (S : MS) (R C : Nat) (A : MT) (hR : R ≤ 18) (hC : C ≤ 6) (h : MXr S R C A) (d : Nat) (hd : d < R) (hd2 : d < C) (hs : smB A d R C) : ∃ v T, MC X 146 [.ref (189), .int (nI (d))] S v T ∧ tKeep S T ∧ ((v = some (.int (nI 0)) ∧ MXr T R C A ∧ ∀ i j, d ≤ i → i < R → d ≤ j → j < C → A i j = 0) ∨ (v = some (.int (nI 1)) ∧ ∃ r c, isLe A d R C r c ∧ MXr T R C (swM A d r c))) := by
  refine MX.mc (X := X) (mj := 146) (as := [.ref (189), .int (nI (d))]) (S := S) (Post := fun v T => tKeep S T ∧ ((v = some (.int (nI 0)) ∧ MXr T R C A ∧ ∀ i j, d ≤ i → i < R → d ≤ j → j < C → A i j = 0) ∨ (v = some (.int (nI 1)) ∧ ∃ r c, isLe A d R C r c ∧ MXr T R C (swM A d r c)))) ?_
  refine MX.of (Nat.le_of_ble_eq_true rfl) ?_
  refine an_iconstI (-1) d146_0 rfl ?_
  refine as_istore_n d146_1 (by decide) ?_
  refine an_iconstI (-1) d146_2 rfl ?_
  refine as_istore_n d146_3 (by decide) ?_
  refine as_lconst d146_4 ?_
  refine as_lstore d146_5 (by decide) ?_
  refine as_iload_n d146_7 rfl ?_
  refine as_istore d146_8 (by decide) ?_
  refine AW.loc [(0, .ref (189)), (1, .int (nI (d))), (2, .int ((-1))), (3, .int ((-1))), (4, .long (Int64.ofNat 0)), (6, .int (nI (d)))] (am_pick [4, 5, 3, 2, 1, 0] rfl rfl) ?_
  refine aw_for (fun k => ((10, [(0, .ref (189)), (1, .int (nI (d))), (2, .int (rI (bsR A d C (k)).1 (bsR A d C (k)).2.1)), (3, .int (rI (bsR A d C (k)).1 (bsR A d C (k)).2.2)), (4, .long (Int64.ofInt (bsR A d C (k)).1)), (6, .int (nI (d + k)))], [], 208, HP (S), 0, 0) : am_Z)) (R - d) (rfl) (fun k hk ihk => ?_) ?_
  · refine as_iload d146_10 rfl ?_
    refine as_aload_n d146_12 rfl ?_
    refine ap_get d146_13 f146_162 (by decide) rfl rfl ?_
    refine an_top (e' := nI (R)) (h.1) ?_
    refine an_icmp_ge 108 d146_16 (by decide) (by omega) (by omega) (fun c16 => by omega) (fun c16 => ?_)
    refine as_iload_n d146_19 rfl ?_
    refine as_istore d146_20 (by decide) ?_
    refine AW.loc [(0, .ref (189)), (1, .int (nI (d))), (2, .int (rI (bsR A d C (k)).1 (bsR A d C (k)).2.1)), (3, .int (rI (bsR A d C (k)).1 (bsR A d C (k)).2.2)), (4, .long (Int64.ofInt (bsR A d C (k)).1)), (6, .int (nI (d + k))), (7, .int (nI (d)))] (am_pick [1, 2, 3, 4, 5, 6, 0] rfl rfl) ?_
    refine aw_for (fun c => ((22, [(0, .ref (189)), (1, .int (nI (d))), (2, .int (rI (bsC A (d + k) d (bsR A d C k) (c)).1 (bsC A (d + k) d (bsR A d C k) (c)).2.1)), (3, .int (rI (bsC A (d + k) d (bsR A d C k) (c)).1 (bsC A (d + k) d (bsR A d C k) (c)).2.2)), (4, .long (Int64.ofInt (bsC A (d + k) d (bsR A d C k) (c)).1)), (6, .int (nI (d + k))), (7, .int (nI (d + c)))], [], 208, HP (S), 0, 0) : am_Z)) (C - d) (rfl) (fun c hc ihc => ?_) ?_
    · have hse := hs (d + k) (by omega) (by omega) (d + c) (by omega) (by omega)
      have hbc := (BP_R A d C (by omega) k).c (d + k) d c
      have hsb : sm (bsC A (d + k) d (bsR A d C k) (c)).1 := hbc.sm (fun i j q => hs i (by omega) (by omega) j (by omega) (by omega))
      have hrb : (bsC A (d + k) d (bsR A d C k) (c)).2.1 < 2 ^ 31 ∨ (bsC A (d + k) d (bsR A d C k) (c)).1 = 0 := by
        rcases hbc with ⟨w, _⟩ | ⟨_, w, _⟩
        · exact Or.inr w
        · exact Or.inl (by omega)
      have hrm : rI (bsC A (d + k) d (bsR A d C k) (c)).1 (bsC A (d + k) d (bsR A d C k) (c)).2.1 = -1 ↔ (bsC A (d + k) d (bsR A d C k) (c)).1 = 0 := by
        rcases hrb with w | w
        · exact rI_m w
        · exact ⟨fun _ => w, fun _ => if_pos w⟩
      refine as_iload d146_22 rfl ?_
      refine as_aload_n d146_24 rfl ?_
      refine ap_get d146_25 f146_159 (by decide) rfl rfl ?_
      refine an_top (e' := nI (C)) (h.2.1) ?_
      refine an_icmp_ge 102 d146_28 (by decide) (by omega) (by omega) (fun c28 => by omega) (fun c28 => ?_)
      refine as_aload_n d146_31 rfl ?_
      refine as_iload d146_32 rfl ?_
      refine as_iload d146_34 rfl ?_
      refine ac_v2 d146_36 c146_173 (by decide) rfl (Nat.le_of_ble_eq_true rfl) (h.cell X hR hC (show d + k < R by omega) (show d + c < C by omega)) ?_
      refine as_lconst d146_39 ?_
      refine as_lcmp d146_40 ?_
      refine as_if_ge 56 d146_41 (by decide) (fun c41 => ?_) (fun c41 => ?_)
      · refine as_aload_n d146_56 rfl ?_
        refine as_iload d146_57 rfl ?_
        refine as_iload d146_59 rfl ?_
        refine ac_v2 d146_61 c146_173 (by decide) rfl (Nat.le_of_ble_eq_true rfl) (h.cell X hR hC (show d + k < R by omega) (show d + c < C by omega)) ?_
        refine an_topl (e' := Int64.ofInt ((A (d + k) (d + c)).natAbs : Int)) (i64_pos hse c41) ?_
        refine as_lstore d146_64 (by decide) ?_
        refine as_lload d146_66 rfl ?_
        refine as_lconst d146_68 ?_
        refine as_lcmp d146_69 ?_
        refine as_if_le 96 d146_70 (by decide) (fun c70 => ?_) (fun c70 => ?_)
        · have hb : bsS (A (d + k) (d + c)) (d + k) (d + c) (bsC A (d + k) d (bsR A d C k) (c)) = (bsC A (d + k) d (bsR A d C k) (c)) := bsS_z (by have := (i64_le (b := 0) (sm_abs hse) ⟨by omega, by omega⟩).mp ((lg_cmp_le _ _).mp c70); omega)
          refine an_iinc 1 d146_96 rfl rfl (by decide) ?_
          refine as_goto 22 d146_99 (by decide) ?_
          refine AW.loc [(0, .ref (189)), (1, .int (nI (d))), (2, .int (rI (bsC A (d + k) d (bsR A d C k) (c)).1 (bsC A (d + k) d (bsR A d C k) (c)).2.1)), (3, .int (rI (bsC A (d + k) d (bsR A d C k) (c)).1 (bsC A (d + k) d (bsR A d C k) (c)).2.2)), (4, .long (Int64.ofInt (bsC A (d + k) d (bsR A d C k) (c)).1)), (6, .int (nI (d + k))), (7, .int (nI (d + c + 1)))] (am_pick [2, 3, 4, 5, 6, 7, 0] rfl rfl) ?_
          have e2 : rI (bsC A (d + k) d (bsR A d C k) (c + 1)).1 (bsC A (d + k) d (bsR A d C k) (c + 1)).2.1 = rI (bsC A (d + k) d (bsR A d C k) (c)).1 (bsC A (d + k) d (bsR A d C k) (c)).2.1 := by first | exact congrArg (fun z : B3 => rI z.1 z.2.1) hb | exact congrArg (fun z : B3 => Value.int (rI z.1 z.2.1)) hb | exact (congrArg (fun z : B3 => Value.int (rI z.1 z.2.1)) hb2).trans (congrArg Value.int (if_neg hnz))
          have e3 : rI (bsC A (d + k) d (bsR A d C k) (c + 1)).1 (bsC A (d + k) d (bsR A d C k) (c + 1)).2.2 = rI (bsC A (d + k) d (bsR A d C k) (c)).1 (bsC A (d + k) d (bsR A d C k) (c)).2.2 := by first | exact congrArg (fun z : B3 => rI z.1 z.2.2) hb | exact congrArg (fun z : B3 => Value.int (rI z.1 z.2.2)) hb | exact (congrArg (fun z : B3 => Value.int (rI z.1 z.2.2)) hb2).trans (congrArg Value.int (if_neg hnz))
          have e4 : Int64.ofInt (bsC A (d + k) d (bsR A d C k) (c + 1)).1 = Int64.ofInt (bsC A (d + k) d (bsR A d C k) (c)).1 := by first | exact congrArg (fun z : B3 => Int64.ofInt z.1) hb | exact congrArg (fun z : B3 => Int64.ofInt z.1) hb2
          rw [e2, e3, e4] at ihc
          exact ihc
        · have hn0 : ¬ A (d + k) (d + c) = 0 := fun g => c70 ((lg_cmp_le _ _).mpr ((i64_le (b := 0) (sm_abs hse) ⟨by omega, by omega⟩).mpr (by omega)))
          refine as_iload_n d146_73 rfl ?_
          refine an_iconstI (-1) d146_74 rfl ?_
          refine as_icmp_eq 86 d146_75 (by decide) (fun c75 => ?_) (fun c75 => ?_)
          · have hnz : ¬ ((A (d + k) (d + c)).natAbs : Int) = 0 := by omega
            have hb2 : bsS (A (d + k) (d + c)) (d + k) (d + c) (bsC A (d + k) d (bsR A d C k) (c)) = (((A (d + k) (d + c)).natAbs : Int), d + k, d + c) := bsS_t hn0 (Or.inl (hrm.mp c75))
            refine as_iload d146_86 rfl ?_
            refine as_istore_n d146_88 (by decide) ?_
            refine as_iload d146_89 rfl ?_
            refine as_istore_n d146_91 (by decide) ?_
            refine as_lload d146_92 rfl ?_
            refine as_lstore d146_94 (by decide) ?_
            refine an_iinc 1 d146_96 rfl rfl (by decide) ?_
            refine as_goto 22 d146_99 (by decide) ?_
            refine AW.loc [(0, .ref (189)), (1, .int (nI (d))), (2, .int (nI (d + k))), (3, .int (nI (d + c))), (4, .long (Int64.ofInt ((A (d + k) (d + c)).natAbs : Int))), (6, .int (nI (d + k))), (7, .int (nI (d + c + 1)))] (am_pick [5, 6, 3, 2, 1, 7, 0] rfl rfl) ?_
            have e2 : (.int (rI (bsC A (d + k) d (bsR A d C k) (c + 1)).1 (bsC A (d + k) d (bsR A d C k) (c + 1)).2.1) : Value) = .int (nI (d + k)) := by first | exact congrArg (fun z : B3 => rI z.1 z.2.1) hb | exact congrArg (fun z : B3 => Value.int (rI z.1 z.2.1)) hb | exact (congrArg (fun z : B3 => Value.int (rI z.1 z.2.1)) hb2).trans (congrArg Value.int (if_neg hnz))
            have e3 : (.int (rI (bsC A (d + k) d (bsR A d C k) (c + 1)).1 (bsC A (d + k) d (bsR A d C k) (c + 1)).2.2) : Value) = .int (nI (d + c)) := by first | exact congrArg (fun z : B3 => rI z.1 z.2.2) hb | exact congrArg (fun z : B3 => Value.int (rI z.1 z.2.2)) hb | exact (congrArg (fun z : B3 => Value.int (rI z.1 z.2.2)) hb2).trans (congrArg Value.int (if_neg hnz))
            have e4 : Int64.ofInt (bsC A (d + k) d (bsR A d C k) (c + 1)).1 = Int64.ofInt ((A (d + k) (d + c)).natAbs : Int) := by first | exact congrArg (fun z : B3 => Int64.ofInt z.1) hb | exact congrArg (fun z : B3 => Int64.ofInt z.1) hb2
            rw [e2, e3, e4] at ihc
            exact ihc
          · have hnb : ¬ (bsC A (d + k) d (bsR A d C k) (c)).1 = 0 := fun g => c75 (hrm.mpr g)
            refine as_lload d146_78 rfl ?_
            refine as_lload d146_80 rfl ?_
            refine as_lcmp d146_82 ?_
            refine as_if_ge 96 d146_83 (by decide) (fun c83 => ?_) (fun c83 => ?_)
            · have hb : bsS (A (d + k) (d + c)) (d + k) (d + c) (bsC A (d + k) d (bsR A d C k) (c)) = (bsC A (d + k) d (bsR A d C k) (c)) := bsS_k hnb (fun g => (lg_ge _ _).mp c83 ((i64_lt (sm_abs hse) hsb).mpr g))
              refine an_iinc 1 d146_96 rfl rfl (by decide) ?_
              refine as_goto 22 d146_99 (by decide) ?_
              refine AW.loc [(0, .ref (189)), (1, .int (nI (d))), (2, .int (rI (bsC A (d + k) d (bsR A d C k) (c)).1 (bsC A (d + k) d (bsR A d C k) (c)).2.1)), (3, .int (rI (bsC A (d + k) d (bsR A d C k) (c)).1 (bsC A (d + k) d (bsR A d C k) (c)).2.2)), (4, .long (Int64.ofInt (bsC A (d + k) d (bsR A d C k) (c)).1)), (6, .int (nI (d + k))), (7, .int (nI (d + c + 1)))] (am_pick [2, 3, 4, 5, 6, 7, 0] rfl rfl) ?_
              have e2 : rI (bsC A (d + k) d (bsR A d C k) (c + 1)).1 (bsC A (d + k) d (bsR A d C k) (c + 1)).2.1 = rI (bsC A (d + k) d (bsR A d C k) (c)).1 (bsC A (d + k) d (bsR A d C k) (c)).2.1 := by first | exact congrArg (fun z : B3 => rI z.1 z.2.1) hb | exact congrArg (fun z : B3 => Value.int (rI z.1 z.2.1)) hb | exact (congrArg (fun z : B3 => Value.int (rI z.1 z.2.1)) hb2).trans (congrArg Value.int (if_neg hnz))
              have e3 : rI (bsC A (d + k) d (bsR A d C k) (c + 1)).1 (bsC A (d + k) d (bsR A d C k) (c + 1)).2.2 = rI (bsC A (d + k) d (bsR A d C k) (c)).1 (bsC A (d + k) d (bsR A d C k) (c)).2.2 := by first | exact congrArg (fun z : B3 => rI z.1 z.2.2) hb | exact congrArg (fun z : B3 => Value.int (rI z.1 z.2.2)) hb | exact (congrArg (fun z : B3 => Value.int (rI z.1 z.2.2)) hb2).trans (congrArg Value.int (if_neg hnz))
              have e4 : Int64.ofInt (bsC A (d + k) d (bsR A d C k) (c + 1)).1 = Int64.ofInt (bsC A (d + k) d (bsR A d C k) (c)).1 := by first | exact congrArg (fun z : B3 => Int64.ofInt z.1) hb | exact congrArg (fun z : B3 => Int64.ofInt z.1) hb2
              rw [e2, e3, e4] at ihc
              exact ihc
            · have hnz : ¬ ((A (d + k) (d + c)).natAbs : Int) = 0 := by omega
              have hb2 : bsS (A (d + k) (d + c)) (d + k) (d + c) (bsC A (d + k) d (bsR A d C k) (c)) = (((A (d + k) (d + c)).natAbs : Int), d + k, d + c) := bsS_t hn0 (Or.inr (by
                by_cases g : ((A (d + k) (d + c)).natAbs : Int) < (bsC A (d + k) d (bsR A d C k) (c)).1
                · exact g
                · exact absurd ((lg_ge _ _).mpr (fun w => g ((i64_lt (sm_abs hse) hsb).mp w))) c83))
              refine as_iload d146_86 rfl ?_
              refine as_istore_n d146_88 (by decide) ?_
              refine as_iload d146_89 rfl ?_
              refine as_istore_n d146_91 (by decide) ?_
              refine as_lload d146_92 rfl ?_
              refine as_lstore d146_94 (by decide) ?_
              refine an_iinc 1 d146_96 rfl rfl (by decide) ?_
              refine as_goto 22 d146_99 (by decide) ?_
              refine AW.loc [(0, .ref (189)), (1, .int (nI (d))), (2, .int (nI (d + k))), (3, .int (nI (d + c))), (4, .long (Int64.ofInt ((A (d + k) (d + c)).natAbs : Int))), (6, .int (nI (d + k))), (7, .int (nI (d + c + 1)))] (am_pick [5, 6, 3, 2, 1, 7, 0] rfl rfl) ?_
              have e2 : (.int (rI (bsC A (d + k) d (bsR A d C k) (c + 1)).1 (bsC A (d + k) d (bsR A d C k) (c + 1)).2.1) : Value) = .int (nI (d + k)) := by first | exact congrArg (fun z : B3 => rI z.1 z.2.1) hb | exact congrArg (fun z : B3 => Value.int (rI z.1 z.2.1)) hb | exact (congrArg (fun z : B3 => Value.int (rI z.1 z.2.1)) hb2).trans (congrArg Value.int (if_neg hnz))
              have e3 : (.int (rI (bsC A (d + k) d (bsR A d C k) (c + 1)).1 (bsC A (d + k) d (bsR A d C k) (c + 1)).2.2) : Value) = .int (nI (d + c)) := by first | exact congrArg (fun z : B3 => rI z.1 z.2.2) hb | exact congrArg (fun z : B3 => Value.int (rI z.1 z.2.2)) hb | exact (congrArg (fun z : B3 => Value.int (rI z.1 z.2.2)) hb2).trans (congrArg Value.int (if_neg hnz))
              have e4 : Int64.ofInt (bsC A (d + k) d (bsR A d C k) (c + 1)).1 = Int64.ofInt ((A (d + k) (d + c)).natAbs : Int) := by first | exact congrArg (fun z : B3 => Int64.ofInt z.1) hb | exact congrArg (fun z : B3 => Int64.ofInt z.1) hb2
              rw [e2, e3, e4] at ihc
              exact ihc
      · refine as_aload_n d146_44 rfl ?_
        refine as_iload d146_45 rfl ?_
        refine as_iload d146_47 rfl ?_
        refine ac_v2 d146_49 c146_173 (by decide) rfl (Nat.le_of_ble_eq_true rfl) (h.cell X hR hC (show d + k < R by omega) (show d + c < C by omega)) ?_
        refine as_lneg d146_52 ?_
        refine an_topl (e' := Int64.ofInt ((A (d + k) (d + c)).natAbs : Int)) (i64_neg hse c41) ?_
        refine as_goto 64 d146_53 (by decide) ?_
        refine as_lstore d146_64 (by decide) ?_
        refine as_lload d146_66 rfl ?_
        refine as_lconst d146_68 ?_
        refine as_lcmp d146_69 ?_
        refine as_if_le 96 d146_70 (by decide) (fun c70 => ?_) (fun c70 => ?_)
        · have hb : bsS (A (d + k) (d + c)) (d + k) (d + c) (bsC A (d + k) d (bsR A d C k) (c)) = (bsC A (d + k) d (bsR A d C k) (c)) := bsS_z (by have := (i64_le (b := 0) (sm_abs hse) ⟨by omega, by omega⟩).mp ((lg_cmp_le _ _).mp c70); omega)
          refine an_iinc 1 d146_96 rfl rfl (by decide) ?_
          refine as_goto 22 d146_99 (by decide) ?_
          refine AW.loc [(0, .ref (189)), (1, .int (nI (d))), (2, .int (rI (bsC A (d + k) d (bsR A d C k) (c)).1 (bsC A (d + k) d (bsR A d C k) (c)).2.1)), (3, .int (rI (bsC A (d + k) d (bsR A d C k) (c)).1 (bsC A (d + k) d (bsR A d C k) (c)).2.2)), (4, .long (Int64.ofInt (bsC A (d + k) d (bsR A d C k) (c)).1)), (6, .int (nI (d + k))), (7, .int (nI (d + c + 1)))] (am_pick [2, 3, 4, 5, 6, 7, 0] rfl rfl) ?_
          have e2 : rI (bsC A (d + k) d (bsR A d C k) (c + 1)).1 (bsC A (d + k) d (bsR A d C k) (c + 1)).2.1 = rI (bsC A (d + k) d (bsR A d C k) (c)).1 (bsC A (d + k) d (bsR A d C k) (c)).2.1 := by first | exact congrArg (fun z : B3 => rI z.1 z.2.1) hb | exact congrArg (fun z : B3 => Value.int (rI z.1 z.2.1)) hb | exact (congrArg (fun z : B3 => Value.int (rI z.1 z.2.1)) hb2).trans (congrArg Value.int (if_neg hnz))
          have e3 : rI (bsC A (d + k) d (bsR A d C k) (c + 1)).1 (bsC A (d + k) d (bsR A d C k) (c + 1)).2.2 = rI (bsC A (d + k) d (bsR A d C k) (c)).1 (bsC A (d + k) d (bsR A d C k) (c)).2.2 := by first | exact congrArg (fun z : B3 => rI z.1 z.2.2) hb | exact congrArg (fun z : B3 => Value.int (rI z.1 z.2.2)) hb | exact (congrArg (fun z : B3 => Value.int (rI z.1 z.2.2)) hb2).trans (congrArg Value.int (if_neg hnz))
          have e4 : Int64.ofInt (bsC A (d + k) d (bsR A d C k) (c + 1)).1 = Int64.ofInt (bsC A (d + k) d (bsR A d C k) (c)).1 := by first | exact congrArg (fun z : B3 => Int64.ofInt z.1) hb | exact congrArg (fun z : B3 => Int64.ofInt z.1) hb2
          rw [e2, e3, e4] at ihc
          exact ihc
        · have hn0 : ¬ A (d + k) (d + c) = 0 := fun g => c70 ((lg_cmp_le _ _).mpr ((i64_le (b := 0) (sm_abs hse) ⟨by omega, by omega⟩).mpr (by omega)))
          refine as_iload_n d146_73 rfl ?_
          refine an_iconstI (-1) d146_74 rfl ?_
          refine as_icmp_eq 86 d146_75 (by decide) (fun c75 => ?_) (fun c75 => ?_)
          · have hnz : ¬ ((A (d + k) (d + c)).natAbs : Int) = 0 := by omega
            have hb2 : bsS (A (d + k) (d + c)) (d + k) (d + c) (bsC A (d + k) d (bsR A d C k) (c)) = (((A (d + k) (d + c)).natAbs : Int), d + k, d + c) := bsS_t hn0 (Or.inl (hrm.mp c75))
            refine as_iload d146_86 rfl ?_
            refine as_istore_n d146_88 (by decide) ?_
            refine as_iload d146_89 rfl ?_
            refine as_istore_n d146_91 (by decide) ?_
            refine as_lload d146_92 rfl ?_
            refine as_lstore d146_94 (by decide) ?_
            refine an_iinc 1 d146_96 rfl rfl (by decide) ?_
            refine as_goto 22 d146_99 (by decide) ?_
            refine AW.loc [(0, .ref (189)), (1, .int (nI (d))), (2, .int (nI (d + k))), (3, .int (nI (d + c))), (4, .long (Int64.ofInt ((A (d + k) (d + c)).natAbs : Int))), (6, .int (nI (d + k))), (7, .int (nI (d + c + 1)))] (am_pick [5, 6, 3, 2, 1, 7, 0] rfl rfl) ?_
            have e2 : (.int (rI (bsC A (d + k) d (bsR A d C k) (c + 1)).1 (bsC A (d + k) d (bsR A d C k) (c + 1)).2.1) : Value) = .int (nI (d + k)) := by first | exact congrArg (fun z : B3 => rI z.1 z.2.1) hb | exact congrArg (fun z : B3 => Value.int (rI z.1 z.2.1)) hb | exact (congrArg (fun z : B3 => Value.int (rI z.1 z.2.1)) hb2).trans (congrArg Value.int (if_neg hnz))
            have e3 : (.int (rI (bsC A (d + k) d (bsR A d C k) (c + 1)).1 (bsC A (d + k) d (bsR A d C k) (c + 1)).2.2) : Value) = .int (nI (d + c)) := by first | exact congrArg (fun z : B3 => rI z.1 z.2.2) hb | exact congrArg (fun z : B3 => Value.int (rI z.1 z.2.2)) hb | exact (congrArg (fun z : B3 => Value.int (rI z.1 z.2.2)) hb2).trans (congrArg Value.int (if_neg hnz))
            have e4 : Int64.ofInt (bsC A (d + k) d (bsR A d C k) (c + 1)).1 = Int64.ofInt ((A (d + k) (d + c)).natAbs : Int) := by first | exact congrArg (fun z : B3 => Int64.ofInt z.1) hb | exact congrArg (fun z : B3 => Int64.ofInt z.1) hb2
            rw [e2, e3, e4] at ihc
            exact ihc
          · have hnb : ¬ (bsC A (d + k) d (bsR A d C k) (c)).1 = 0 := fun g => c75 (hrm.mpr g)
            refine as_lload d146_78 rfl ?_
            refine as_lload d146_80 rfl ?_
            refine as_lcmp d146_82 ?_
            refine as_if_ge 96 d146_83 (by decide) (fun c83 => ?_) (fun c83 => ?_)
            · have hb : bsS (A (d + k) (d + c)) (d + k) (d + c) (bsC A (d + k) d (bsR A d C k) (c)) = (bsC A (d + k) d (bsR A d C k) (c)) := bsS_k hnb (fun g => (lg_ge _ _).mp c83 ((i64_lt (sm_abs hse) hsb).mpr g))
              refine an_iinc 1 d146_96 rfl rfl (by decide) ?_
              refine as_goto 22 d146_99 (by decide) ?_
              refine AW.loc [(0, .ref (189)), (1, .int (nI (d))), (2, .int (rI (bsC A (d + k) d (bsR A d C k) (c)).1 (bsC A (d + k) d (bsR A d C k) (c)).2.1)), (3, .int (rI (bsC A (d + k) d (bsR A d C k) (c)).1 (bsC A (d + k) d (bsR A d C k) (c)).2.2)), (4, .long (Int64.ofInt (bsC A (d + k) d (bsR A d C k) (c)).1)), (6, .int (nI (d + k))), (7, .int (nI (d + c + 1)))] (am_pick [2, 3, 4, 5, 6, 7, 0] rfl rfl) ?_
              have e2 : rI (bsC A (d + k) d (bsR A d C k) (c + 1)).1 (bsC A (d + k) d (bsR A d C k) (c + 1)).2.1 = rI (bsC A (d + k) d (bsR A d C k) (c)).1 (bsC A (d + k) d (bsR A d C k) (c)).2.1 := by first | exact congrArg (fun z : B3 => rI z.1 z.2.1) hb | exact congrArg (fun z : B3 => Value.int (rI z.1 z.2.1)) hb | exact (congrArg (fun z : B3 => Value.int (rI z.1 z.2.1)) hb2).trans (congrArg Value.int (if_neg hnz))
              have e3 : rI (bsC A (d + k) d (bsR A d C k) (c + 1)).1 (bsC A (d + k) d (bsR A d C k) (c + 1)).2.2 = rI (bsC A (d + k) d (bsR A d C k) (c)).1 (bsC A (d + k) d (bsR A d C k) (c)).2.2 := by first | exact congrArg (fun z : B3 => rI z.1 z.2.2) hb | exact congrArg (fun z : B3 => Value.int (rI z.1 z.2.2)) hb | exact (congrArg (fun z : B3 => Value.int (rI z.1 z.2.2)) hb2).trans (congrArg Value.int (if_neg hnz))
              have e4 : Int64.ofInt (bsC A (d + k) d (bsR A d C k) (c + 1)).1 = Int64.ofInt (bsC A (d + k) d (bsR A d C k) (c)).1 := by first | exact congrArg (fun z : B3 => Int64.ofInt z.1) hb | exact congrArg (fun z : B3 => Int64.ofInt z.1) hb2
              rw [e2, e3, e4] at ihc
              exact ihc
            · have hnz : ¬ ((A (d + k) (d + c)).natAbs : Int) = 0 := by omega
              have hb2 : bsS (A (d + k) (d + c)) (d + k) (d + c) (bsC A (d + k) d (bsR A d C k) (c)) = (((A (d + k) (d + c)).natAbs : Int), d + k, d + c) := bsS_t hn0 (Or.inr (by
                by_cases g : ((A (d + k) (d + c)).natAbs : Int) < (bsC A (d + k) d (bsR A d C k) (c)).1
                · exact g
                · exact absurd ((lg_ge _ _).mpr (fun w => g ((i64_lt (sm_abs hse) hsb).mp w))) c83))
              refine as_iload d146_86 rfl ?_
              refine as_istore_n d146_88 (by decide) ?_
              refine as_iload d146_89 rfl ?_
              refine as_istore_n d146_91 (by decide) ?_
              refine as_lload d146_92 rfl ?_
              refine as_lstore d146_94 (by decide) ?_
              refine an_iinc 1 d146_96 rfl rfl (by decide) ?_
              refine as_goto 22 d146_99 (by decide) ?_
              refine AW.loc [(0, .ref (189)), (1, .int (nI (d))), (2, .int (nI (d + k))), (3, .int (nI (d + c))), (4, .long (Int64.ofInt ((A (d + k) (d + c)).natAbs : Int))), (6, .int (nI (d + k))), (7, .int (nI (d + c + 1)))] (am_pick [5, 6, 3, 2, 1, 7, 0] rfl rfl) ?_
              have e2 : (.int (rI (bsC A (d + k) d (bsR A d C k) (c + 1)).1 (bsC A (d + k) d (bsR A d C k) (c + 1)).2.1) : Value) = .int (nI (d + k)) := by first | exact congrArg (fun z : B3 => rI z.1 z.2.1) hb | exact congrArg (fun z : B3 => Value.int (rI z.1 z.2.1)) hb | exact (congrArg (fun z : B3 => Value.int (rI z.1 z.2.1)) hb2).trans (congrArg Value.int (if_neg hnz))
              have e3 : (.int (rI (bsC A (d + k) d (bsR A d C k) (c + 1)).1 (bsC A (d + k) d (bsR A d C k) (c + 1)).2.2) : Value) = .int (nI (d + c)) := by first | exact congrArg (fun z : B3 => rI z.1 z.2.2) hb | exact congrArg (fun z : B3 => Value.int (rI z.1 z.2.2)) hb | exact (congrArg (fun z : B3 => Value.int (rI z.1 z.2.2)) hb2).trans (congrArg Value.int (if_neg hnz))
              have e4 : Int64.ofInt (bsC A (d + k) d (bsR A d C k) (c + 1)).1 = Int64.ofInt ((A (d + k) (d + c)).natAbs : Int) := by first | exact congrArg (fun z : B3 => Int64.ofInt z.1) hb | exact congrArg (fun z : B3 => Int64.ofInt z.1) hb2
              rw [e2, e3, e4] at ihc
              exact ihc
    · refine as_iload d146_22 rfl ?_
      refine as_aload_n d146_24 rfl ?_
      refine ap_get d146_25 f146_159 (by decide) rfl rfl ?_
      refine an_top (e' := nI (C)) (h.2.1) ?_
      refine an_icmp_ge 102 d146_28 (by decide) (by omega) (by omega) (fun c28 => ?_) (fun c28 => by omega)
      refine an_iinc 1 d146_102 rfl rfl (by decide) ?_
      refine as_goto 10 d146_105 (by decide) ?_
      refine AW.loc [(0, .ref (189)), (1, .int (nI (d))), (2, .int (rI (bsC A (d + k) d (bsR A d C k) ((C - d))).1 (bsC A (d + k) d (bsR A d C k) ((C - d))).2.1)), (3, .int (rI (bsC A (d + k) d (bsR A d C k) ((C - d))).1 (bsC A (d + k) d (bsR A d C k) ((C - d))).2.2)), (4, .long (Int64.ofInt (bsC A (d + k) d (bsR A d C k) ((C - d))).1)), (6, .int (nI (d + k + 1)))] (am_pick [1, 2, 3, 4, 5, 0] rfl rfl) ?_
      have e2 : rI (bsR A d C (k + 1)).1 (bsR A d C (k + 1)).2.1 = rI (bsC A (d + k) d (bsR A d C k) ((C - d))).1 (bsC A (d + k) d (bsR A d C k) ((C - d))).2.1 := by first | rfl | omega
      have e3 : rI (bsR A d C (k + 1)).1 (bsR A d C (k + 1)).2.2 = rI (bsC A (d + k) d (bsR A d C k) ((C - d))).1 (bsC A (d + k) d (bsR A d C k) ((C - d))).2.2 := by first | rfl | omega
      have e4 : Int64.ofInt (bsR A d C (k + 1)).1 = Int64.ofInt (bsC A (d + k) d (bsR A d C k) ((C - d))).1 := by first | rfl | omega
      rw [e2, e3, e4] at ihk
      exact ihk
  · refine as_iload d146_10 rfl ?_
    refine as_aload_n d146_12 rfl ?_
    refine ap_get d146_13 f146_162 (by decide) rfl rfl ?_
    refine an_top (e' := nI (R)) (h.1) ?_
    refine an_icmp_ge 108 d146_16 (by decide) (by omega) (by omega) (fun c16 => ?_) (fun c16 => by omega)
    have hbp := BP_R A d C (by omega) (R - d)
    have hsb : sm (bsR A d C (R - d)).1 := hbp.sm (fun i j q => hs i (by omega) (by omega) j (by omega) (by omega))
    by_cases hz : (bsR A d C (R - d)).1 = 0
    · have hall : ∀ i j, d ≤ i → i < R → d ≤ j → j < C → A i j = 0 := by
        rcases hbp with ⟨_, w⟩ | ⟨w, _⟩
        · exact fun i j q1 q2 q3 q4 => w i j ⟨⟨q1, by omega⟩, q3, q4⟩
        · exact absurd hz w
      have hrz : rI (bsR A d C (R - d)).1 (bsR A d C (R - d)).2.1 = -1 := if_pos hz
      refine an_iconst 0 d146_108 rfl ?_
      refine as_istore d146_109 (by decide) ?_
      refine as_iload d146_111 rfl ?_
      refine as_aload_n d146_113 rfl ?_
      refine ap_get d146_114 f146_159 (by decide) rfl rfl ?_
      refine an_top (e' := nI (C)) (h.2.1) ?_
      refine an_icmp_ge 173 d146_117 (by decide) (by omega) (by omega) (fun c117 => by omega) (fun c117 => ?_)
      refine as_iload_n d146_120 rfl ?_
      refine an_iconstI (-1) d146_121 rfl ?_
      refine as_icmp_eq 173 d146_122 (by decide) (fun c122 => ?_) (fun c122 => absurd hrz c122)
      refine an_iconst 0 d146_173 rfl ?_
      refine as_istore d146_174 (by decide) ?_
      refine as_iload d146_176 rfl ?_
      refine as_aload_n d146_178 rfl ?_
      refine ap_get d146_179 f146_162 (by decide) rfl rfl ?_
      refine an_top (e' := nI (R)) (h.1) ?_
      refine an_icmp_ge 238 d146_182 (by decide) (by omega) (by omega) (fun c182 => by omega) (fun c182 => ?_)
      refine as_iload_n d146_185 rfl ?_
      refine an_iconstI (-1) d146_186 rfl ?_
      refine as_icmp_eq 238 d146_187 (by decide) (fun c187 => ?_) (fun c187 => absurd hrz c187)
      refine as_iload_n d146_238 rfl ?_
      refine an_iconstI (-1) d146_239 rfl ?_
      refine as_icmp_eq 247 d146_240 (by decide) (fun c240 => ?_) (fun c240 => absurd hrz c240)
      refine an_iconst 0 d146_247 rfl ?_
      refine as_ireturn d146_248 (by rw [t146]; rfl) ?_
      exact ⟨_, _, rfl, tKeep.rf S, Or.inl ⟨rfl, h, hall⟩⟩
    · have hnz := hz
      obtain ⟨r0, hr0⟩ : ∃ r0, r0 = (bsR A d C (R - d)).2.1 := ⟨_, rfl⟩
      obtain ⟨c0, hc0⟩ : ∃ c0, c0 = (bsR A d C (R - d)).2.2 := ⟨_, rfl⟩
      have hle : isLe A d R C r0 c0 := by
        rcases hbp with ⟨w, _⟩ | ⟨_, w2, w3, w4⟩
        · exact absurd w hnz
        · rw [← hr0, ← hc0] at w2 w3
          refine ⟨⟨w2.1.1, by omega⟩, w2.2, by omega, fun i j q1 q2 q3 q4 q5 => ?_⟩
          have := w4 i j ⟨⟨q1, by omega⟩, q3, q4⟩ q5
          omega
      have hr1 := hle.1
      have hc1 := hle.2.1
      have hrz : ¬ rI (bsR A d C (R - d)).1 (bsR A d C (R - d)).2.1 = -1 := fun q => hnz ((rI_m (by rw [← hr0]; omega)).mp q)
      have hrr : rI (bsR A d C (R - d)).1 (bsR A d C (R - d)).2.1 = nI r0 := by rw [hr0]; exact if_neg hnz
      have hrc : rI (bsR A d C (R - d)).1 (bsR A d C (R - d)).2.2 = nI c0 := by rw [hc0]; exact if_neg hnz
      refine an_iconst 0 d146_108 rfl ?_
      refine as_istore d146_109 (by decide) ?_
      refine AW.loc [(0, .ref (189)), (1, .int (nI (d))), (2, .int (rI (bsR A d C ((R - d))).1 (bsR A d C ((R - d))).2.1)), (3, .int (rI (bsR A d C ((R - d))).1 (bsR A d C ((R - d))).2.2)), (6, .int (nI (0)))] (am_pick [1, 2, 3, 4, 0] rfl rfl) ?_
      refine aw_fromE (fun c T => ((111, [(0, .ref (189)), (1, .int (nI (d))), (2, .int (rI (bsR A d C (R - d)).1 (bsR A d C (R - d)).2.1)), (3, .int (rI (bsR A d C (R - d)).1 (bsR A d C (R - d)).2.2)), (6, .int (nI (c)))], [], 208, HP (T), 0, 0) : am_Z)) (fun c T => tKeep S T ∧ MXr T R C (fun i j => if j < (c) then trM A j (swC r0 d i) else trM A j i)) (0) (C) (by omega) (S) (rfl) (⟨tKeep.rf S, h.eq (fun i _ j _ => if_neg (by omega))⟩) (fun c T hc0 hc hI ihc => ?_) (fun T hX => ?_)
      · have q1 := hI.2.2.2 r0 hr1.2 c hc
        have q2 := hI.2.2.2 d hd c hc
        dsimp only at q1 q2
        rw [if_neg (by omega)] at q1 q2
        refine as_iload d146_111 rfl ?_
        refine as_aload_n d146_113 rfl ?_
        refine ap_get d146_114 f146_159 (by decide) rfl rfl ?_
        refine an_top (e' := nI (C)) (hI.2.2.1) ?_
        refine an_icmp_ge 173 d146_117 (by decide) (by omega) (by omega) (fun c117 => by omega) (fun c117 => ?_)
        refine as_iload_n d146_120 rfl ?_
        refine an_iconstI (-1) d146_121 rfl ?_
        refine as_icmp_eq 173 d146_122 (by decide) (fun c122 => absurd c122 hrz) (fun c122 => ?_)
        refine as_aload_n d146_125 rfl ?_
        refine as_iload_n d146_126 rfl ?_
        refine an_top (e' := nI (r0)) (hrr) ?_
        refine as_iload d146_127 rfl ?_
        refine ac_v2 d146_129 c146_173 (by decide) rfl (Nat.le_of_ble_eq_true rfl) (mc_cell X T r0 c (by omega) (by omega)) ?_
        refine an_topl (e' := Int64.ofInt (A r0 c)) (q1) ?_
        refine as_lstore d146_132 (by decide) ?_
        refine as_aload_n d146_134 rfl ?_
        refine ap_get d146_135 f146_34 (by decide) rfl rfl ?_
        refine an_bipush 6 d146_138 rfl ?_
        refine as_iload_n d146_140 rfl ?_
        refine an_top (e' := nI (r0)) (hrr) ?_
        refine an_imul d146_141 ?_
        refine as_iload d146_142 rfl ?_
        refine an_iadd d146_144 ?_
        refine as_aload_n d146_145 rfl ?_
        refine as_iload_n d146_146 rfl ?_
        refine as_iload d146_147 rfl ?_
        refine ac_v2 d146_149 c146_173 (by decide) rfl (Nat.le_of_ble_eq_true rfl) (mc_cell X T d c (by omega) (by omega)) ?_
        refine an_topl (e' := Int64.ofInt (A d c)) (q2) ?_
        refine ap_last d146_152 (fun _ _ _ _ => rfl) (by decide) (by omega) (by decide) ?_
        have st1 := hI.2.sl hC (r := r0) (c := c) (by omega) (y := Int64.ofInt (A d c)) (v := A d c) rfl
        refine as_aload_n d146_153 rfl ?_
        refine ap_get d146_154 f146_34 (by decide) rfl rfl ?_
        refine an_bipush 6 d146_157 rfl ?_
        refine as_iload_n d146_159 rfl ?_
        refine an_imul d146_160 ?_
        refine as_iload d146_161 rfl ?_
        refine an_iadd d146_163 ?_
        refine as_lload d146_164 rfl ?_
        refine ap_last d146_166 (fun _ _ _ _ => rfl) (by decide) (by omega) (by decide) ?_
        have st2 := st1.sl hC (r := d) (c := c) (by omega) (y := Int64.ofInt (A r0 c)) (v := A r0 c) rfl
        refine an_iinc 1 d146_167 rfl rfl (by decide) ?_
        refine as_goto 111 d146_170 (by decide) ?_
        refine AW.loc [(0, .ref (189)), (1, .int (nI (d))), (2, .int (rI (bsR A d C (R - d)).1 (bsR A d C (R - d)).2.1)), (3, .int (rI (bsR A d C (R - d)).1 (bsR A d C (R - d)).2.2)), (6, .int (nI (c + 1)))] (am_pick [2, 3, 4, 5, 0] rfl rfl) ?_
        have ihc := ihc (((T).sl 198 (((6) * (r0)) + (c)) (Int64.ofInt (A d c))).sl 198 (((6) * (d)) + (c)) (Int64.ofInt (A r0 c))) (⟨(hI.1.sl _ _).sl _ _, st2.eq (fun i _ j _ => by
          rw [swap_pt (A := trM A) (a := r0) (b := d) (r := c) (i := j) (j := i)]
          by_cases w1 : i = d ∧ j = c
          · rw [if_pos w1, if_pos ⟨w1.2, w1.1⟩]; rfl
          · rw [if_neg w1, if_neg (fun q => w1 ⟨q.2, q.1⟩)]
            by_cases w2 : i = r0 ∧ j = c
            · rw [if_pos w2, if_pos ⟨w2.2, w2.1⟩]; rfl
            · rw [if_neg w2, if_neg (fun q => w2 ⟨q.2, q.1⟩)])⟩)
        exact ihc
      · have hM2 : MXr T R C (fun i j => A (swC r0 d i) j) := hX.2.eq (fun i _ j hj => (if_pos hj).symm)
        refine as_iload d146_111 rfl ?_
        refine as_aload_n d146_113 rfl ?_
        refine ap_get d146_114 f146_159 (by decide) rfl rfl ?_
        refine an_top (e' := nI (C)) (by first | exact hX.2.2.1 | exact hX2.2.2.1) ?_
        refine an_icmp_ge 173 d146_117 (by decide) (by omega) (by omega) (fun c117 => ?_) (fun c117 => by omega)
        refine an_iconst 0 d146_173 rfl ?_
        refine as_istore d146_174 (by decide) ?_
        refine AW.loc [(0, .ref (189)), (1, .int (nI (d))), (2, .int (rI (bsR A d C (R - d)).1 (bsR A d C (R - d)).2.1)), (3, .int (rI (bsR A d C (R - d)).1 (bsR A d C (R - d)).2.2)), (6, .int (nI (0)))] (am_pick [1, 2, 3, 4, 0] rfl rfl) ?_
        refine aw_fromE (fun r U => ((176, [(0, .ref (189)), (1, .int (nI (d))), (2, .int (rI (bsR A d C (R - d)).1 (bsR A d C (R - d)).2.1)), (3, .int (rI (bsR A d C (R - d)).1 (bsR A d C (R - d)).2.2)), (6, .int (nI (r)))], [], 208, HP (U), 0, 0) : am_Z)) (fun r U => tKeep S U ∧ MXr U R C (fun i j => if i < (r) then A (swC r0 d i) (swC c0 d j) else A (swC r0 d i) j)) (0) (R) (by omega) (T) (rfl) (⟨hX.1, hM2.eq (fun i _ j _ => if_neg (by omega))⟩) (fun r U hr0 hr hJ ihr => ?_) (fun U hX2 => ?_)
        · have q1 := hJ.2.2.2 r hr c0 hc1.2
          have q2 := hJ.2.2.2 r hr d hd2
          dsimp only at q1 q2
          rw [if_neg (by omega)] at q1 q2
          refine as_iload d146_176 rfl ?_
          refine as_aload_n d146_178 rfl ?_
          refine ap_get d146_179 f146_162 (by decide) rfl rfl ?_
          refine an_top (e' := nI (R)) (hJ.2.1) ?_
          refine an_icmp_ge 238 d146_182 (by decide) (by omega) (by omega) (fun c182 => by omega) (fun c182 => ?_)
          refine as_iload_n d146_185 rfl ?_
          refine an_iconstI (-1) d146_186 rfl ?_
          refine as_icmp_eq 238 d146_187 (by decide) (fun c187 => absurd c187 hrz) (fun c187 => ?_)
          refine as_aload_n d146_190 rfl ?_
          refine as_iload d146_191 rfl ?_
          refine as_iload_n d146_193 rfl ?_
          refine an_top (e' := nI (c0)) (hrc) ?_
          refine ac_v2 d146_194 c146_173 (by decide) rfl (Nat.le_of_ble_eq_true rfl) (mc_cell X U r c0 (by omega) (by omega)) ?_
          refine an_topl (e' := Int64.ofInt (A (swC r0 d r) c0)) (q1) ?_
          refine as_lstore d146_197 (by decide) ?_
          refine as_aload_n d146_199 rfl ?_
          refine ap_get d146_200 f146_34 (by decide) rfl rfl ?_
          refine an_bipush 6 d146_203 rfl ?_
          refine as_iload d146_205 rfl ?_
          refine an_imul d146_207 ?_
          refine as_iload_n d146_208 rfl ?_
          refine an_top (e' := nI (c0)) (hrc) ?_
          refine an_iadd d146_209 ?_
          refine as_aload_n d146_210 rfl ?_
          refine as_iload d146_211 rfl ?_
          refine as_iload_n d146_213 rfl ?_
          refine ac_v2 d146_214 c146_173 (by decide) rfl (Nat.le_of_ble_eq_true rfl) (mc_cell X U r d (by omega) (by omega)) ?_
          refine an_topl (e' := Int64.ofInt (A (swC r0 d r) d)) (q2) ?_
          refine ap_last d146_217 (fun _ _ _ _ => rfl) (by decide) (by omega) (by decide) ?_
          have st1 := hJ.2.sl hC (r := r) (c := c0) (by omega) (y := Int64.ofInt (A (swC r0 d r) d)) (v := A (swC r0 d r) d) rfl
          refine as_aload_n d146_218 rfl ?_
          refine ap_get d146_219 f146_34 (by decide) rfl rfl ?_
          refine an_bipush 6 d146_222 rfl ?_
          refine as_iload d146_224 rfl ?_
          refine an_imul d146_226 ?_
          refine as_iload_n d146_227 rfl ?_
          refine an_iadd d146_228 ?_
          refine as_lload d146_229 rfl ?_
          refine ap_last d146_231 (fun _ _ _ _ => rfl) (by decide) (by omega) (by decide) ?_
          have st2 := st1.sl hC (r := r) (c := d) (by omega) (y := Int64.ofInt (A (swC r0 d r) c0)) (v := A (swC r0 d r) c0) rfl
          refine an_iinc 1 d146_232 rfl rfl (by decide) ?_
          refine as_goto 176 d146_235 (by decide) ?_
          refine AW.loc [(0, .ref (189)), (1, .int (nI (d))), (2, .int (rI (bsR A d C (R - d)).1 (bsR A d C (R - d)).2.1)), (3, .int (rI (bsR A d C (R - d)).1 (bsR A d C (R - d)).2.2)), (6, .int (nI (r + 1)))] (am_pick [2, 3, 4, 5, 0] rfl rfl) ?_
          have ihr := ihr (((U).sl 198 (((6) * (r)) + (c0)) (Int64.ofInt (A (swC r0 d r) d))).sl 198 (((6) * (r)) + (d)) (Int64.ofInt (A (swC r0 d r) c0))) (⟨(hJ.1.sl _ _).sl _ _, st2.eq (fun i _ j _ => swap_pt (A := fun i j => A (swC r0 d i) j) (a := c0) (b := d) (r := r) (i := i) (j := j))⟩)
          exact ihr
        · refine as_iload d146_176 rfl ?_
          refine as_aload_n d146_178 rfl ?_
          refine ap_get d146_179 f146_162 (by decide) rfl rfl ?_
          refine an_top (e' := nI (R)) (hX2.2.1) ?_
          refine an_icmp_ge 238 d146_182 (by decide) (by omega) (by omega) (fun c182 => ?_) (fun c182 => by omega)
          refine as_iload_n d146_238 rfl ?_
          refine an_iconstI (-1) d146_239 rfl ?_
          refine as_icmp_eq 247 d146_240 (by decide) (fun c240 => absurd c240 hrz) (fun c240 => ?_)
          refine an_iconst 1 d146_243 rfl ?_
          refine as_goto 248 d146_244 (by decide) ?_
          refine as_ireturn d146_248 (by rw [t146]; rfl) ?_
          exact ⟨_, _, rfl, hX2.1, Or.inr ⟨rfl, r0, c0, hle, hX2.2.eq (fun i hi j _ => by unfold swM; rw [swC_comm d r0, swC_comm d c0]; exact (if_pos hi).symm)⟩⟩
