/-! the reference: isWhole, isEven, count -/
def whBad (S : MS) (P : Nat) (mt : Nat → Option Nat) (k : Nat) : Bool := decide (cb S k = k ∧ ¬ lkA S P mt k = nI 2)
def Wh0 (S : MS) (P : Nat) (mt : Nat → Option Nat) : Prop := P ≠ 0 ∧ cnt (sdP mt 1) (4 * P) = 0 ∧ anyN (fun k => decide (lb S (2 * k) = lb S (2 * k + 1))) (6 * P) = 0
def WhA (S : MS) (P : Nat) (mt : Nat → Option Nat) (a : Nat) : Prop := (Wh0 S P mt ∧ a = 1 - anyN (whBad S P mt) (4 * P)) ∨ (¬ Wh0 S P mt ∧ a = 0)
theorem WhA_ex (S : MS) (P : Nat) (mt : Nat → Option Nat) : ∃ a, WhA S P mt a := by
  by_cases h : Wh0 S P mt
  · exact ⟨_, Or.inl ⟨h, rfl⟩⟩
  · exact ⟨_, Or.inr ⟨h, rfl⟩⟩
theorem WhA.lt {S : MS} {P : Nat} {mt : Nat → Option Nat} {a : Nat} (h : WhA S P mt a) : a < 2 := by
  rcases h with h | h <;> omega
theorem an1_s {p : Nat → Bool} {i : Nat} (h : 1 - anyN p i = 0) : 1 - anyN p (i + 1) = 0 := by
  rw [anyN_s (by omega)]
theorem an1_t {p : Nat → Bool} {i : Nat} (h : p i = true) : 1 - anyN p (i + 1) = 0 := by rw [anyN_t h]
theorem an1_f {p : Nat → Bool} {i : Nat} (h : ¬ 1 - anyN p i = 0) (h2 : ¬ p i = true) : 1 - anyN p (i + 1) = 1 := by
  rw [anyN_f (by have := anyN_lt p i; omega) h2]
theorem mc_isWhole (X : am_X) (S : MS) (P : Nat) (mt : Nat → Option Nat) (go : Nat → Nat) (a : Nat) (hG : GW P mt go) (hR : RG S P mt go) (hL : LN S) (ha : WhA S P mt a) : MC X 137 [.ref (189)] S (some (.int (nI a))) S := by
  have hP := hG.1
  have hp := hR.1
  refine MC.of (Nat.le_of_ble_eq_true rfl) ?_
  refine as_aload_n d137_0 rfl ?_
  refine ap_get d137_1 f137_67 (by decide) rfl rfl ?_
  refine an_top (e' := nI (P)) (hp) ?_
  refine as_if_le 26 d137_4 (by decide) (fun c4 => ?_) (fun c4 => ?_)
  · have hw : ¬ Wh0 S P mt := fun h => h.1 (nI_le0 (by omega) c4)
    refine an_iconst 0 d137_26 rfl ?_
    refine as_istore_n d137_27 (by decide) ?_
    refine an_iconst 0 d137_28 rfl ?_
    refine as_istore_n d137_29 (by decide) ?_
    refine AW.loc [(0, .ref (189)), (1, .int (nI (0))), (2, .int (nI (0)))] (am_pick [2, 1, 0] rfl rfl) ?_
    refine aw_for (fun i => ((30, [(0, .ref (189)), (1, .int (nI (0))), (2, .int (nI (i)))], [], 208, HP (S), 0, 0) : am_Z)) (4 * P) (rfl) (fun i hi ih => ?_) ?_
    · refine as_iload_n d137_30 rfl ?_
      refine an_iconst 4 d137_31 rfl ?_
      refine as_aload_n d137_32 rfl ?_
      refine ap_get d137_33 f137_67 (by decide) rfl rfl ?_
      refine an_top (e' := nI (P)) (hp) ?_
      refine an_imul d137_36 ?_
      refine an_icmp_ge 75 d137_37 (by decide) (by omega) (by omega) (fun c37 => by omega) (fun c37 => ?_)
      refine as_iload_n d137_40 rfl ?_
      refine an_if_eq 67 d137_41 (by decide) (by omega) (fun c41 => ?_) (fun c41 => absurd rfl c41)
      refine an_iconst 0 d137_67 rfl ?_
      refine as_istore_n d137_68 (by decide) ?_
      refine an_iinc 1 d137_69 rfl rfl (by decide) ?_
      refine as_goto 30 d137_72 (by decide) ?_
      refine AW.loc [(0, .ref (189)), (1, .int (nI (0))), (2, .int (nI (i + 1)))] (am_pick [2, 1, 0] rfl rfl) ?_
      exact ih
    · refine as_iload_n d137_30 rfl ?_
      refine an_iconst 4 d137_31 rfl ?_
      refine as_aload_n d137_32 rfl ?_
      refine ap_get d137_33 f137_67 (by decide) rfl rfl ?_
      refine an_top (e' := nI (P)) (hp) ?_
      refine an_imul d137_36 ?_
      refine an_icmp_ge 75 d137_37 (by decide) (by omega) (by omega) (fun c37 => ?_) (fun c37 => by omega)
      refine as_iload_n d137_75 rfl ?_
      refine as_ireturn d137_76 (by rw [t137]; have := anyN_lt (whBad S P mt) (4 * P); first | rfl | (rcases (show 1 - anyN (whBad S P mt) (4 * P) = 0 ∨ 1 - anyN (whBad S P mt) (4 * P) = 1 by omega) with e | e <;> rw [e] <;> rfl)) ?_
      refine am_req (congrArg nI ?_)
      rcases ha with h | h <;> first | exact h.2.symm | exact absurd h.1 hw | exact absurd hw h.1
  · have hP0 : P ≠ 0 := fun h => c4 (by subst h; decide)
    refine as_aload_n d137_7 rfl ?_
    refine an_iconst 1 d137_8 rfl ?_
    refine ac_v1 d137_9 c137_132 (by decide) rfl (Nat.le_of_ble_eq_true rfl) (mc_sides X _ P mt go _ (by omega) hG hR) ?_
    refine an_if_ne 26 d137_12 (by decide) (by have := cnt_le (sdP mt 1) (4 * P); omega) (fun c12 => ?_) (fun c12 => ?_)
    · have hw : ¬ Wh0 S P mt := fun h => c12 h.2.1
      refine an_iconst 0 d137_26 rfl ?_
      refine as_istore_n d137_27 (by decide) ?_
      refine an_iconst 0 d137_28 rfl ?_
      refine as_istore_n d137_29 (by decide) ?_
      refine AW.loc [(0, .ref (189)), (1, .int (nI (0))), (2, .int (nI (0)))] (am_pick [2, 1, 0] rfl rfl) ?_
      refine aw_for (fun i => ((30, [(0, .ref (189)), (1, .int (nI (0))), (2, .int (nI (i)))], [], 208, HP (S), 0, 0) : am_Z)) (4 * P) (rfl) (fun i hi ih => ?_) ?_
      · refine as_iload_n d137_30 rfl ?_
        refine an_iconst 4 d137_31 rfl ?_
        refine as_aload_n d137_32 rfl ?_
        refine ap_get d137_33 f137_67 (by decide) rfl rfl ?_
        refine an_top (e' := nI (P)) (hp) ?_
        refine an_imul d137_36 ?_
        refine an_icmp_ge 75 d137_37 (by decide) (by omega) (by omega) (fun c37 => by omega) (fun c37 => ?_)
        refine as_iload_n d137_40 rfl ?_
        refine an_if_eq 67 d137_41 (by decide) (by omega) (fun c41 => ?_) (fun c41 => absurd rfl c41)
        refine an_iconst 0 d137_67 rfl ?_
        refine as_istore_n d137_68 (by decide) ?_
        refine an_iinc 1 d137_69 rfl rfl (by decide) ?_
        refine as_goto 30 d137_72 (by decide) ?_
        refine AW.loc [(0, .ref (189)), (1, .int (nI (0))), (2, .int (nI (i + 1)))] (am_pick [2, 1, 0] rfl rfl) ?_
        exact ih
      · refine as_iload_n d137_30 rfl ?_
        refine an_iconst 4 d137_31 rfl ?_
        refine as_aload_n d137_32 rfl ?_
        refine ap_get d137_33 f137_67 (by decide) rfl rfl ?_
        refine an_top (e' := nI (P)) (hp) ?_
        refine an_imul d137_36 ?_
        refine an_icmp_ge 75 d137_37 (by decide) (by omega) (by omega) (fun c37 => ?_) (fun c37 => by omega)
        refine as_iload_n d137_75 rfl ?_
        refine as_ireturn d137_76 (by rw [t137]; have := anyN_lt (whBad S P mt) (4 * P); first | rfl | (rcases (show 1 - anyN (whBad S P mt) (4 * P) = 0 ∨ 1 - anyN (whBad S P mt) (4 * P) = 1 by omega) with e | e <;> rw [e] <;> rfl)) ?_
        refine am_req (congrArg nI ?_)
        rcases ha with h | h <;> first | exact h.2.symm | exact absurd h.1 hw | exact absurd hw h.1
    · refine as_aload_n d137_15 rfl ?_
      refine ac_v0 d137_16 c137_136 (by decide) rfl (Nat.le_of_ble_eq_true rfl) (mc_anyBent X _ P hP hp hL) ?_
      refine an_if_ne 26 d137_19 (by decide) (by have := anyN_lt (fun k => decide (lb S (2 * k) = lb S (2 * k + 1))) (6 * P); omega) (fun c19 => ?_) (fun c19 => ?_)
      · have hw : ¬ Wh0 S P mt := fun h => c19 h.2.2
        refine an_iconst 0 d137_26 rfl ?_
        refine as_istore_n d137_27 (by decide) ?_
        refine an_iconst 0 d137_28 rfl ?_
        refine as_istore_n d137_29 (by decide) ?_
        refine AW.loc [(0, .ref (189)), (1, .int (nI (0))), (2, .int (nI (0)))] (am_pick [2, 1, 0] rfl rfl) ?_
        refine aw_for (fun i => ((30, [(0, .ref (189)), (1, .int (nI (0))), (2, .int (nI (i)))], [], 208, HP (S), 0, 0) : am_Z)) (4 * P) (rfl) (fun i hi ih => ?_) ?_
        · refine as_iload_n d137_30 rfl ?_
          refine an_iconst 4 d137_31 rfl ?_
          refine as_aload_n d137_32 rfl ?_
          refine ap_get d137_33 f137_67 (by decide) rfl rfl ?_
          refine an_top (e' := nI (P)) (hp) ?_
          refine an_imul d137_36 ?_
          refine an_icmp_ge 75 d137_37 (by decide) (by omega) (by omega) (fun c37 => by omega) (fun c37 => ?_)
          refine as_iload_n d137_40 rfl ?_
          refine an_if_eq 67 d137_41 (by decide) (by omega) (fun c41 => ?_) (fun c41 => absurd rfl c41)
          refine an_iconst 0 d137_67 rfl ?_
          refine as_istore_n d137_68 (by decide) ?_
          refine an_iinc 1 d137_69 rfl rfl (by decide) ?_
          refine as_goto 30 d137_72 (by decide) ?_
          refine AW.loc [(0, .ref (189)), (1, .int (nI (0))), (2, .int (nI (i + 1)))] (am_pick [2, 1, 0] rfl rfl) ?_
          exact ih
        · refine as_iload_n d137_30 rfl ?_
          refine an_iconst 4 d137_31 rfl ?_
          refine as_aload_n d137_32 rfl ?_
          refine ap_get d137_33 f137_67 (by decide) rfl rfl ?_
          refine an_top (e' := nI (P)) (hp) ?_
          refine an_imul d137_36 ?_
          refine an_icmp_ge 75 d137_37 (by decide) (by omega) (by omega) (fun c37 => ?_) (fun c37 => by omega)
          refine as_iload_n d137_75 rfl ?_
          refine as_ireturn d137_76 (by rw [t137]; have := anyN_lt (whBad S P mt) (4 * P); first | rfl | (rcases (show 1 - anyN (whBad S P mt) (4 * P) = 0 ∨ 1 - anyN (whBad S P mt) (4 * P) = 1 by omega) with e | e <;> rw [e] <;> rfl)) ?_
          refine am_req (congrArg nI ?_)
          rcases ha with h | h <;> first | exact h.2.symm | exact absurd h.1 hw | exact absurd hw h.1
      · have hw : Wh0 S P mt := ⟨hP0, c12, c19⟩
        refine an_iconst 1 d137_22 rfl ?_
        refine as_goto 27 d137_23 (by decide) ?_
        refine as_istore_n d137_27 (by decide) ?_
        refine an_iconst 0 d137_28 rfl ?_
        refine as_istore_n d137_29 (by decide) ?_
        refine AW.loc [(0, .ref (189)), (1, .int (nI (1))), (2, .int (nI (0)))] (am_pick [2, 1, 0] rfl rfl) ?_
        refine aw_for (fun i => ((30, [(0, .ref (189)), (1, .int (nI (1 - anyN (whBad S P mt) (i)))), (2, .int (nI (i)))], [], 208, HP (S), 0, 0) : am_Z)) (4 * P) (rfl) (fun i hi ih => ?_) ?_
        · refine as_iload_n d137_30 rfl ?_
          refine an_iconst 4 d137_31 rfl ?_
          refine as_aload_n d137_32 rfl ?_
          refine ap_get d137_33 f137_67 (by decide) rfl rfl ?_
          refine an_top (e' := nI (P)) (hp) ?_
          refine an_imul d137_36 ?_
          refine an_icmp_ge 75 d137_37 (by decide) (by omega) (by omega) (fun c37 => by omega) (fun c37 => ?_)
          refine as_iload_n d137_40 rfl ?_
          refine an_if_eq 67 d137_41 (by decide) (by omega) (fun c41 => ?_) (fun c41 => ?_)
          · refine an_iconst 0 d137_67 rfl ?_
            refine as_istore_n d137_68 (by decide) ?_
            refine an_iinc 1 d137_69 rfl rfl (by decide) ?_
            refine as_goto 30 d137_72 (by decide) ?_
            refine AW.loc [(0, .ref (189)), (1, .int (nI (0))), (2, .int (nI (i + 1)))] (am_pick [2, 1, 0] rfl rfl) ?_
            have e1 : 1 - anyN (whBad S P mt) (i + 1) = 0 := by first | exact an1_s c41 | exact an1_f c41 (fun h => c51 (of_decide_eq_true h).1) | exact an1_f c41 (fun h => (of_decide_eq_true h).2 c60) | exact an1_t (decide_eq_true ⟨c51, c60⟩)
            rw [e1] at ih
            exact ih
          · refine as_aload_n d137_44 rfl ?_
            refine ap_get d137_45 f137_28 (by decide) rfl rfl ?_
            refine as_iload_n d137_48 rfl ?_
            refine ap_iald d137_49 (fun _ _ _ _ => rfl) (by decide) (by omega) (by decide) ?_
            refine an_top (e' := nI (cb S (i))) ((hL.2.1 _ (by omega)).1) ?_
            have hcb := (hL.2.1 i (by omega)).2
            refine as_iload_n d137_50 rfl ?_
            refine an_icmp_ne 63 d137_51 (by decide) (by omega) (by omega) (fun c51 => ?_) (fun c51 => ?_)
            · refine an_iconst 1 d137_63 rfl ?_
              refine as_goto 68 d137_64 (by decide) ?_
              refine as_istore_n d137_68 (by decide) ?_
              refine an_iinc 1 d137_69 rfl rfl (by decide) ?_
              refine as_goto 30 d137_72 (by decide) ?_
              refine AW.loc [(0, .ref (189)), (1, .int (nI (1))), (2, .int (nI (i + 1)))] (am_pick [2, 1, 0] rfl rfl) ?_
              have e1 : 1 - anyN (whBad S P mt) (i + 1) = 1 := by first | exact an1_s c41 | exact an1_f c41 (fun h => c51 (of_decide_eq_true h).1) | exact an1_f c41 (fun h => (of_decide_eq_true h).2 c60) | exact an1_t (decide_eq_true ⟨c51, c60⟩)
              rw [e1] at ih
              exact ih
            · refine as_aload_n d137_54 rfl ?_
              refine as_iload_n d137_55 rfl ?_
              refine ac_v1 d137_56 c137_129 (by decide) rfl (Nat.le_of_ble_eq_true rfl) (mc_linkOf X _ P mt go _ (by omega) hG hR hL) ?_
              refine an_iconst 2 d137_59 rfl ?_
              refine as_icmp_ne 67 d137_60 (by decide) (fun c60 => ?_) (fun c60 => ?_)
              · refine an_iconst 0 d137_67 rfl ?_
                refine as_istore_n d137_68 (by decide) ?_
                refine an_iinc 1 d137_69 rfl rfl (by decide) ?_
                refine as_goto 30 d137_72 (by decide) ?_
                refine AW.loc [(0, .ref (189)), (1, .int (nI (0))), (2, .int (nI (i + 1)))] (am_pick [2, 1, 0] rfl rfl) ?_
                have e1 : 1 - anyN (whBad S P mt) (i + 1) = 0 := by first | exact an1_s c41 | exact an1_f c41 (fun h => c51 (of_decide_eq_true h).1) | exact an1_f c41 (fun h => (of_decide_eq_true h).2 c60) | exact an1_t (decide_eq_true ⟨c51, c60⟩)
                rw [e1] at ih
                exact ih
              · refine an_iconst 1 d137_63 rfl ?_
                refine as_goto 68 d137_64 (by decide) ?_
                refine as_istore_n d137_68 (by decide) ?_
                refine an_iinc 1 d137_69 rfl rfl (by decide) ?_
                refine as_goto 30 d137_72 (by decide) ?_
                refine AW.loc [(0, .ref (189)), (1, .int (nI (1))), (2, .int (nI (i + 1)))] (am_pick [2, 1, 0] rfl rfl) ?_
                have e1 : 1 - anyN (whBad S P mt) (i + 1) = 1 := by first | exact an1_s c41 | exact an1_f c41 (fun h => c51 (of_decide_eq_true h).1) | exact an1_f c41 (fun h => (of_decide_eq_true h).2 c60) | exact an1_t (decide_eq_true ⟨c51, c60⟩)
                rw [e1] at ih
                exact ih
        · refine as_iload_n d137_30 rfl ?_
          refine an_iconst 4 d137_31 rfl ?_
          refine as_aload_n d137_32 rfl ?_
          refine ap_get d137_33 f137_67 (by decide) rfl rfl ?_
          refine an_top (e' := nI (P)) (hp) ?_
          refine an_imul d137_36 ?_
          refine an_icmp_ge 75 d137_37 (by decide) (by omega) (by omega) (fun c37 => ?_) (fun c37 => by omega)
          refine as_iload_n d137_75 rfl ?_
          refine as_ireturn d137_76 (by rw [t137]; have := anyN_lt (whBad S P mt) (4 * P); first | rfl | (rcases (show 1 - anyN (whBad S P mt) (4 * P) = 0 ∨ 1 - anyN (whBad S P mt) (4 * P) = 1 by omega) with e | e <;> rw [e] <;> rfl)) ?_
          refine am_req (congrArg nI ?_)
          rcases ha with h | h <;> first | exact h.2.symm | exact absurd h.1 hw | exact absurd hw h.1
theorem if_c {P : Prop} [Decidable P] : nI 1 = (if P then (1 : Int32) else 0) ↔ P := by
  by_cases h : P
  · simp [h]; rfl
  · simp [h]; decide
theorem if_c0 {P : Prop} [Decidable P] : nI 0 = (if P then (1 : Int32) else 0) ↔ ¬ P := by
  by_cases h : P
  · simp [h]; decide
  · simp [h]; rfl
theorem an1_k {p : Nat → Bool} {i : Nat} (h : ¬ p i = true) : 1 - anyN p (i + 1) = 1 - anyN p i := by
  by_cases hz : 1 - anyN p i = 0
  · rw [an1_s hz, hz]
  · rw [an1_f hz h]
    have := anyN_lt p i
    omega
/-! EVEN -/
def bt (t p : Nat) : Int32 := (nI t >>> (nI p &&& 31)) &&& nI 1
def evBad (mt : Nat → Option Nat) (go : Nat → Nat) (t s : Nat) : Bool := match mt s with
  | none => false
  | some u => decide (¬ ((¬ bt t (s / 4) = bt t (u / 4)) ↔ swO go s 4 % 2 = 0))
theorem evBad_none {mt : Nat → Option Nat} {go : Nat → Nat} {t s : Nat} (h : mt s = none) : ¬ evBad mt go t s = true := by
  unfold evBad
  rw [h]
  exact Bool.false_ne_true
theorem evBad_some {mt : Nat → Option Nat} {go : Nat → Nat} {t s u : Nat} (h : mt s = some u) : evBad mt go t s = true ↔ ¬ ((¬ bt t (s / 4) = bt t (u / 4)) ↔ swO go s 4 % 2 = 0) := by
  unfold evBad
  rw [h]
  exact decide_eq_true_iff
def EvA (P : Nat) (mt : Nat → Option Nat) (go : Nat → Nat) (a : Nat) : Prop := (a = 1 ∧ ∃ t, t < 8 ∧ anyN (evBad mt go t) (4 * P) = 0) ∨ (a = 0 ∧ ∀ t, t < 8 → anyN (evBad mt go t) (4 * P) ≠ 0)
theorem EvA_ex (P : Nat) (mt : Nat → Option Nat) (go : Nat → Nat) : ∃ a, EvA P mt go a := by
  by_cases h : ∃ t, t < 8 ∧ anyN (evBad mt go t) (4 * P) = 0
  · exact ⟨1, Or.inl ⟨rfl, h⟩⟩
  · exact ⟨0, Or.inr ⟨rfl, fun t ht e => h ⟨t, ht, e⟩⟩⟩
theorem if_b {P : Prop} [Decidable P] : (if P then (1 : Int32) else 0) = nI 1 ↔ P := by
  by_cases h : P
  · simp [h]; rfl
  · simp [h]; decide
theorem if_b0 {P : Prop} [Decidable P] : (if P then (1 : Int32) else 0) = nI 0 ↔ ¬ P := by
  by_cases h : P
  · simp [h]; decide
  · simp [h]; rfl
theorem mc_isEven (X : am_X) (S : MS) (P : Nat) (mt : Nat → Option Nat) (go : Nat → Nat) (a : Nat) (hG : GW P mt go) (hR : RG S P mt go) (ha : EvA P mt go a) : MC X 139 [.ref (189)] S (some (.int (nI a))) S := by
  have hP := hG.1
  have hp := hR.1
  refine MC.of (Nat.le_of_ble_eq_true rfl) ?_
  refine an_iconst 0 d139_0 rfl ?_
  refine as_istore_n d139_1 (by decide) ?_
  refine AW.loc [(0, .ref (189)), (1, .int (nI (0)))] (am_pick [1, 0] rfl rfl) ?_
  refine aw_fromI (fun t => ((2, [(0, .ref (189)), (1, .int (nI (t)))], [], 208, HP (S), 0, 0) : am_Z)) (fun t => ∀ r, r < t → anyN (evBad mt go r) (4 * P) ≠ 0) (0) (8) (by omega) (rfl) (fun r hr => by omega) (fun t ht0 ht hI iht => ?_) (fun hX => ?_)
  · refine as_iload_n d139_2 rfl ?_
    refine an_bipush 8 d139_3 rfl ?_
    refine an_icmp_ge 99 d139_5 (by decide) (by omega) (by omega) (fun c5 => by omega) (fun c5 => ?_)
    refine an_iconst 1 d139_8 rfl ?_
    refine as_istore_n d139_9 (by decide) ?_
    refine an_iconst 0 d139_10 rfl ?_
    refine as_istore_n d139_11 (by decide) ?_
    refine AW.loc [(0, .ref (189)), (1, .int (nI (t))), (2, .int (nI (1))), (3, .int (nI (0)))] (am_pick [2, 3, 1, 0] rfl rfl) ?_
    refine aw_for (fun s => ((12, [(0, .ref (189)), (1, .int (nI (t))), (2, .int (nI (1 - anyN (evBad mt go t) (s)))), (3, .int (nI (s)))], [], 208, HP (S), 0, 0) : am_Z)) (4 * P) (rfl) (fun s hs ihs => ?_) ?_
    · refine as_iload_n d139_12 rfl ?_
      refine an_iconst 4 d139_13 rfl ?_
      refine as_aload_n d139_14 rfl ?_
      refine ap_get d139_15 f139_67 (by decide) rfl rfl ?_
      refine an_top (e' := nI (P)) (hp) ?_
      refine an_imul d139_18 ?_
      refine an_icmp_ge 87 d139_19 (by decide) (by omega) (by omega) (fun c19 => by omega) (fun c19 => ?_)
      rcases mt_or mt (s) with e0 | ⟨u, e0⟩
      · skip
        refine as_aload_n d139_22 rfl ?_
        refine ap_get d139_23 f139_7 (by decide) rfl rfl ?_
        refine as_iload_n d139_26 rfl ?_
        refine ap_iald d139_27 (fun _ _ _ _ => rfl) (by decide) (by omega) (by decide) ?_
        refine an_top (e' := (-1)) (by rw [hR.2.1 _ (by omega), e0]; rfl) ?_
        refine an_iconstI (-1) d139_28 rfl ?_
        refine as_icmp_eq 81 d139_29 (by decide) (fun c29 => ?_) (fun c29 => absurd rfl c29)
        refine an_iinc 1 d139_81 rfl rfl (by decide) ?_
        refine as_goto 12 d139_84 (by decide) ?_
        refine AW.loc [(0, .ref (189)), (1, .int (nI (t))), (2, .int (nI (1 - anyN (evBad mt go t) (s)))), (3, .int (nI (s + 1)))] (am_pick [1, 2, 3, 0] rfl rfl) ?_
        have e2 : 1 - anyN (evBad mt go t) (s + 1) = 1 - anyN (evBad mt go t) (s) := by first | exact an1_k (evBad_none e0) | exact an1_s c62 | exact an1_t ((evBad_some e0).mpr (fun h => by simp only [if_c, if_c0, Classical.not_not] at c72; simp [c51, c72] at h)) | exact an1_f c62 (fun h => (evBad_some e0).mp h (by simp only [if_c, if_c0, Classical.not_not] at c72; simp [c51, c72]))
        rw [e2] at ihs
        exact ihs
      · have hu := mt_lt hG hs e0
        refine as_aload_n d139_22 rfl ?_
        refine ap_get d139_23 f139_7 (by decide) rfl rfl ?_
        refine as_iload_n d139_26 rfl ?_
        refine ap_iald d139_27 (fun _ _ _ _ => rfl) (by decide) (by omega) (by decide) ?_
        refine an_top (e' := nI (u)) (by rw [hR.2.1 _ (by omega), e0]; rfl) ?_
        refine an_iconstI (-1) d139_28 rfl ?_
        refine as_icmp_eq 81 d139_29 (by decide) (fun c29 => absurd c29 (nI_ne1 (by omega))) (fun c29 => ?_)
        refine as_iload_n d139_32 rfl ?_
        refine as_iload_n d139_33 rfl ?_
        refine an_iconst 4 d139_34 rfl ?_
        refine an_idiv d139_35 (by omega) (by omega) (by omega) ?_
        refine as_ishr d139_36 ?_
        refine an_iconst 1 d139_37 rfl ?_
        refine as_iand d139_38 ?_
        refine an_top (e' := bt t (s / 4)) (rfl) ?_
        refine as_iload_n d139_39 rfl ?_
        refine as_aload_n d139_40 rfl ?_
        refine ap_get d139_41 f139_7 (by decide) rfl rfl ?_
        refine as_iload_n d139_44 rfl ?_
        refine ap_iald d139_45 (fun _ _ _ _ => rfl) (by decide) (by omega) (by decide) ?_
        refine an_top (e' := nI (u)) (by rw [hR.2.1 _ (by omega), e0]; rfl) ?_
        refine an_iconst 4 d139_46 rfl ?_
        refine an_idiv d139_47 (by omega) (by omega) (by omega) ?_
        refine as_ishr d139_48 ?_
        refine an_iconst 1 d139_49 rfl ?_
        refine as_iand d139_50 ?_
        refine an_top (e' := bt t (u / 4)) (rfl) ?_
        refine as_icmp_eq 58 d139_51 (by decide) (fun c51 => ?_) (fun c51 => ?_)
        · refine an_iconst 0 d139_58 rfl ?_
          refine as_istore d139_59 (by decide) ?_
          refine as_iload_n d139_61 rfl ?_
          refine an_if_eq 79 d139_62 (by decide) (by omega) (fun c62 => ?_) (fun c62 => ?_)
          · refine an_iconst 0 d139_79 rfl ?_
            refine as_istore_n d139_80 (by decide) ?_
            refine an_iinc 1 d139_81 rfl rfl (by decide) ?_
            refine as_goto 12 d139_84 (by decide) ?_
            refine AW.loc [(0, .ref (189)), (1, .int (nI (t))), (2, .int (nI (0))), (3, .int (nI (s + 1)))] (am_pick [3, 4, 1, 0] rfl rfl) ?_
            have e2 : 1 - anyN (evBad mt go t) (s + 1) = 0 := by first | exact an1_k (evBad_none e0) | exact an1_s c62 | exact an1_t ((evBad_some e0).mpr (fun h => by simp only [if_c, if_c0, Classical.not_not] at c72; simp [c51, c72] at h)) | exact an1_f c62 (fun h => (evBad_some e0).mp h (by simp only [if_c, if_c0, Classical.not_not] at c72; simp [c51, c72]))
            rw [e2] at ihs
            exact ihs
          · refine as_iload d139_65 rfl ?_
            refine as_aload_n d139_67 rfl ?_
            refine as_iload_n d139_68 rfl ?_
            refine ac_v1 d139_69 c139_140 (by decide) rfl (Nat.le_of_ble_eq_true rfl) (mc_isEvenChange X _ _ go (by omega) (fun c hc => ⟨hR.2.2 _ _ _ (by omega) e0 hc, hG.go_lt (by omega) e0 hc⟩)) ?_
            refine as_icmp_ne 79 d139_72 (by decide) (fun c72 => ?_) (fun c72 => ?_)
            · refine an_iconst 0 d139_79 rfl ?_
              refine as_istore_n d139_80 (by decide) ?_
              refine an_iinc 1 d139_81 rfl rfl (by decide) ?_
              refine as_goto 12 d139_84 (by decide) ?_
              refine AW.loc [(0, .ref (189)), (1, .int (nI (t))), (2, .int (nI (0))), (3, .int (nI (s + 1)))] (am_pick [3, 4, 1, 0] rfl rfl) ?_
              have e2 : 1 - anyN (evBad mt go t) (s + 1) = 0 := by first | exact an1_k (evBad_none e0) | exact an1_s c62 | exact an1_t ((evBad_some e0).mpr (fun h => by simp only [if_c, if_c0, Classical.not_not] at c72; simp [c51, c72] at h)) | exact an1_f c62 (fun h => (evBad_some e0).mp h (by simp only [if_c, if_c0, Classical.not_not] at c72; simp [c51, c72]))
              rw [e2] at ihs
              exact ihs
            · refine an_iconst 1 d139_75 rfl ?_
              refine as_goto 80 d139_76 (by decide) ?_
              refine as_istore_n d139_80 (by decide) ?_
              refine an_iinc 1 d139_81 rfl rfl (by decide) ?_
              refine as_goto 12 d139_84 (by decide) ?_
              refine AW.loc [(0, .ref (189)), (1, .int (nI (t))), (2, .int (nI (1))), (3, .int (nI (s + 1)))] (am_pick [3, 4, 1, 0] rfl rfl) ?_
              have e2 : 1 - anyN (evBad mt go t) (s + 1) = 1 := by first | exact an1_k (evBad_none e0) | exact an1_s c62 | exact an1_t ((evBad_some e0).mpr (fun h => by simp only [if_c, if_c0, Classical.not_not] at c72; simp [c51, c72] at h)) | exact an1_f c62 (fun h => (evBad_some e0).mp h (by simp only [if_c, if_c0, Classical.not_not] at c72; simp [c51, c72]))
              rw [e2] at ihs
              exact ihs
        · refine an_iconst 1 d139_54 rfl ?_
          refine as_goto 59 d139_55 (by decide) ?_
          refine as_istore d139_59 (by decide) ?_
          refine as_iload_n d139_61 rfl ?_
          refine an_if_eq 79 d139_62 (by decide) (by omega) (fun c62 => ?_) (fun c62 => ?_)
          · refine an_iconst 0 d139_79 rfl ?_
            refine as_istore_n d139_80 (by decide) ?_
            refine an_iinc 1 d139_81 rfl rfl (by decide) ?_
            refine as_goto 12 d139_84 (by decide) ?_
            refine AW.loc [(0, .ref (189)), (1, .int (nI (t))), (2, .int (nI (0))), (3, .int (nI (s + 1)))] (am_pick [3, 4, 1, 0] rfl rfl) ?_
            have e2 : 1 - anyN (evBad mt go t) (s + 1) = 0 := by first | exact an1_k (evBad_none e0) | exact an1_s c62 | exact an1_t ((evBad_some e0).mpr (fun h => by simp only [if_c, if_c0, Classical.not_not] at c72; simp [c51, c72] at h)) | exact an1_f c62 (fun h => (evBad_some e0).mp h (by simp only [if_c, if_c0, Classical.not_not] at c72; simp [c51, c72]))
            rw [e2] at ihs
            exact ihs
          · refine as_iload d139_65 rfl ?_
            refine as_aload_n d139_67 rfl ?_
            refine as_iload_n d139_68 rfl ?_
            refine ac_v1 d139_69 c139_140 (by decide) rfl (Nat.le_of_ble_eq_true rfl) (mc_isEvenChange X _ _ go (by omega) (fun c hc => ⟨hR.2.2 _ _ _ (by omega) e0 hc, hG.go_lt (by omega) e0 hc⟩)) ?_
            refine as_icmp_ne 79 d139_72 (by decide) (fun c72 => ?_) (fun c72 => ?_)
            · refine an_iconst 0 d139_79 rfl ?_
              refine as_istore_n d139_80 (by decide) ?_
              refine an_iinc 1 d139_81 rfl rfl (by decide) ?_
              refine as_goto 12 d139_84 (by decide) ?_
              refine AW.loc [(0, .ref (189)), (1, .int (nI (t))), (2, .int (nI (0))), (3, .int (nI (s + 1)))] (am_pick [3, 4, 1, 0] rfl rfl) ?_
              have e2 : 1 - anyN (evBad mt go t) (s + 1) = 0 := by first | exact an1_k (evBad_none e0) | exact an1_s c62 | exact an1_t ((evBad_some e0).mpr (fun h => by simp only [if_c, if_c0, Classical.not_not] at c72; simp [c51, c72] at h)) | exact an1_f c62 (fun h => (evBad_some e0).mp h (by simp only [if_c, if_c0, Classical.not_not] at c72; simp [c51, c72]))
              rw [e2] at ihs
              exact ihs
            · refine an_iconst 1 d139_75 rfl ?_
              refine as_goto 80 d139_76 (by decide) ?_
              refine as_istore_n d139_80 (by decide) ?_
              refine an_iinc 1 d139_81 rfl rfl (by decide) ?_
              refine as_goto 12 d139_84 (by decide) ?_
              refine AW.loc [(0, .ref (189)), (1, .int (nI (t))), (2, .int (nI (1))), (3, .int (nI (s + 1)))] (am_pick [3, 4, 1, 0] rfl rfl) ?_
              have e2 : 1 - anyN (evBad mt go t) (s + 1) = 1 := by first | exact an1_k (evBad_none e0) | exact an1_s c62 | exact an1_t ((evBad_some e0).mpr (fun h => by simp only [if_c, if_c0, Classical.not_not] at c72; simp [c51, c72] at h)) | exact an1_f c62 (fun h => (evBad_some e0).mp h (by simp only [if_c, if_c0, Classical.not_not] at c72; simp [c51, c72]))
              rw [e2] at ihs
              exact ihs
    · refine as_iload_n d139_12 rfl ?_
      refine an_iconst 4 d139_13 rfl ?_
      refine as_aload_n d139_14 rfl ?_
      refine ap_get d139_15 f139_67 (by decide) rfl rfl ?_
      refine an_top (e' := nI (P)) (hp) ?_
      refine an_imul d139_18 ?_
      refine an_icmp_ge 87 d139_19 (by decide) (by omega) (by omega) (fun c19 => ?_) (fun c19 => by omega)
      refine as_iload_n d139_87 rfl ?_
      refine an_if_eq 93 d139_88 (by decide) (by omega) (fun c88 => ?_) (fun c88 => ?_)
      · refine an_iinc 1 d139_93 rfl rfl (by decide) ?_
        refine as_goto 2 d139_96 (by decide) ?_
        refine AW.loc [(0, .ref (189)), (1, .int (nI (t + 1)))] (am_pick [1, 0] rfl rfl) ?_
        have iht := iht (fun r hr => by
          by_cases e : r = t
          · subst e
            have := anyN_lt (evBad mt go r) (4 * P)
            omega
          · exact hI r (by omega))
        exact iht
      · refine an_iconst 1 d139_91 rfl ?_
        refine as_ireturn d139_92 (by rw [t139]; rfl) ?_
        refine am_req (congrArg nI ?_)
        rcases ha with h | h
        · first | exact h.1.symm | (obtain ⟨t, h1, h2⟩ := h.2; exact absurd h2 (hX t h1))
        · first | exact h.1.symm | (exact absurd (by have := anyN_lt (evBad mt go t) (4 * P); omega) (h.2 t (by omega)))
  · refine as_iload_n d139_2 rfl ?_
    refine an_bipush 8 d139_3 rfl ?_
    refine an_icmp_ge 99 d139_5 (by decide) (by omega) (by omega) (fun c5 => ?_) (fun c5 => by omega)
    refine an_iconst 0 d139_99 rfl ?_
    refine as_ireturn d139_100 (by rw [t139]; rfl) ?_
    refine am_req (congrArg nI ?_)
    rcases ha with h | h
    · first | exact h.1.symm | (obtain ⟨t, h1, h2⟩ := h.2; exact absurd h2 (hX t h1))
    · first | exact h.1.symm | (exact absurd (by have := anyN_lt (evBad mt go t) (4 * P); omega) (h.2 t (by omega)))
/-! count -/
theorem sw_out {x : Int32} (hn : ¬ (0 ≤ x ∧ x < nI 9)) : x.toInt < 0 ∨ 8 < x.toInt := by
  have e : (nI 9).toInt = 9 := by decide
  have e0 : (0 : Int32).toInt = 0 := by decide
  simp only [Int32.le_iff_toInt_le, Int32.lt_iff_toInt_lt, e, e0] at hn
  omega
def cntA (T : MS) (P : Nat) (mt : Nat → Option Nat) (w e : Nat) (what : Int32) : Int32 := if what = nI 0 then nI P else if what = nI 1 then nI (cnt (fun k => decide (cb T k = k)) (4 * P)) else if what = nI 2 then nI (cnt (fun k => decide (eL T k = k)) (6 * P)) else if what = nI 3 then nI (cnt (sdP mt 0) (4 * P)) else if what = nI 4 then nI (cnt (sdP mt 1) (4 * P)) else if what = nI 5 then nI (cnt (fun k => decide (cb T k = k)) (4 * P)) - nI (cnt (fun k => decide (eL T k = k)) (6 * P)) + nI (cnt (sdP mt 0) (4 * P)) - nI P else if what = nI 6 then nI w else if what = nI 7 then nI e else if what = nI 8 then nI (cnt (fun k => decide (sb T k = k)) P) else -2147483648
theorem EvA.lt {P : Nat} {mt : Nat → Option Nat} {go : Nat → Nat} {a : Nat} (h : EvA P mt go a) : a < 2 := by
  rcases h with h | h <;> omega
theorem mc_count (X : am_X) (S : MS) (P : Nat) (mt : Nat → Option Nat) (go : Nat → Nat) (what : Int32) (hG : GW P mt go) (hR : RG S P mt go) : ∃ T w e, MC X 141 [.ref (189), .int (what)] S (some (.int (cntA T P mt w e what))) T ∧ rKeep S T ∧ LabS T P mt go ∧ WhA T P mt w ∧ EvA P mt go e := by
  obtain ⟨T, hM, hK, hLS⟩ := mc_label X S P mt go hG hR
  have hL := hLS.n
  have hRT := hR.keep hK
  have hp := hRT.1
  have hP := hG.1
  obtain ⟨w, hw⟩ := WhA_ex T P mt
  obtain ⟨e, he⟩ := EvA_ex P mt go
  have hw2 := hw.lt
  have he2 := he.lt
  refine ⟨T, w, e, ?_, hK, hLS, hw, he⟩
  rcases nI_cases (x := what) 9 (by decide) with ⟨j, hj, rfl⟩ | hn
  · rcases (show j = 0 ∨ j = 1 ∨ j = 2 ∨ j = 3 ∨ j = 4 ∨ j = 5 ∨ j = 6 ∨ j = 7 ∨ j = 8 by omega) with rfl | rfl | rfl | rfl | rfl | rfl | rfl | rfl | rfl
    · refine MC.of (Nat.le_of_ble_eq_true rfl) ?_
      refine as_aload_n d141_0 rfl ?_
      refine ac_v0 d141_1 c141_118 (by decide) rfl (Nat.le_of_ble_eq_true rfl) (hM) ?_
      refine as_iload_n d141_4 rfl ?_
      refine as_tsw (o := 51) 56 d141_5 (by decide) (by decide) ?_
      refine as_aload_n d141_56 rfl ?_
      refine ap_get d141_57 f141_67 (by decide) rfl rfl ?_
      refine an_top (e' := nI (P)) (hp) ?_
      refine as_ireturn d141_60 (by rw [t141]; rfl) ?_
      refine am_req ?_
      first | rfl | (simp only [cntA]; simp; omega) | (show _ = nI _; refine congrArg nI ?_; omega)
    · refine MC.of (Nat.le_of_ble_eq_true rfl) ?_
      refine as_aload_n d141_0 rfl ?_
      refine ac_v0 d141_1 c141_118 (by decide) rfl (Nat.le_of_ble_eq_true rfl) (hM) ?_
      refine as_iload_n d141_4 rfl ?_
      refine as_tsw (o := 56) 61 d141_5 (by decide) (by decide) ?_
      refine as_aload_n d141_61 rfl ?_
      refine ac_v0 d141_62 c141_143 (by decide) rfl (Nat.le_of_ble_eq_true rfl) (mc_cornerClasses X _ P hP hp hL) ?_
      refine as_ireturn d141_65 (by rw [t141]; rfl) ?_
      refine am_req ?_
      first | rfl | (simp only [cntA]; simp; omega) | (show _ = nI _; refine congrArg nI ?_; omega)
    · refine MC.of (Nat.le_of_ble_eq_true rfl) ?_
      refine as_aload_n d141_0 rfl ?_
      refine ac_v0 d141_1 c141_118 (by decide) rfl (Nat.le_of_ble_eq_true rfl) (hM) ?_
      refine as_iload_n d141_4 rfl ?_
      refine as_tsw (o := 61) 66 d141_5 (by decide) (by decide) ?_
      refine as_aload_n d141_66 rfl ?_
      refine ac_v0 d141_67 c141_147 (by decide) rfl (Nat.le_of_ble_eq_true rfl) (mc_edgeClasses X _ P hP hp hL) ?_
      refine as_ireturn d141_70 (by rw [t141]; rfl) ?_
      refine am_req ?_
      first | rfl | (simp only [cntA]; simp; omega) | (show _ = nI _; refine congrArg nI ?_; omega)
    · refine MC.of (Nat.le_of_ble_eq_true rfl) ?_
      refine as_aload_n d141_0 rfl ?_
      refine ac_v0 d141_1 c141_118 (by decide) rfl (Nat.le_of_ble_eq_true rfl) (hM) ?_
      refine as_iload_n d141_4 rfl ?_
      refine as_tsw (o := 66) 71 d141_5 (by decide) (by decide) ?_
      refine as_aload_n d141_71 rfl ?_
      refine an_iconst 0 d141_72 rfl ?_
      refine ac_v1 d141_73 c141_132 (by decide) rfl (Nat.le_of_ble_eq_true rfl) (mc_sides X _ P mt go _ (by omega) hG hRT) ?_
      refine as_ireturn d141_76 (by rw [t141]; rfl) ?_
      refine am_req ?_
      first | rfl | (simp only [cntA]; simp; omega) | (show _ = nI _; refine congrArg nI ?_; omega)
    · refine MC.of (Nat.le_of_ble_eq_true rfl) ?_
      refine as_aload_n d141_0 rfl ?_
      refine ac_v0 d141_1 c141_118 (by decide) rfl (Nat.le_of_ble_eq_true rfl) (hM) ?_
      refine as_iload_n d141_4 rfl ?_
      refine as_tsw (o := 72) 77 d141_5 (by decide) (by decide) ?_
      refine as_aload_n d141_77 rfl ?_
      refine an_iconst 1 d141_78 rfl ?_
      refine ac_v1 d141_79 c141_132 (by decide) rfl (Nat.le_of_ble_eq_true rfl) (mc_sides X _ P mt go _ (by omega) hG hRT) ?_
      refine as_ireturn d141_82 (by rw [t141]; rfl) ?_
      refine am_req ?_
      first | rfl | (simp only [cntA]; simp; omega) | (show _ = nI _; refine congrArg nI ?_; omega)
    · refine MC.of (Nat.le_of_ble_eq_true rfl) ?_
      refine as_aload_n d141_0 rfl ?_
      refine ac_v0 d141_1 c141_118 (by decide) rfl (Nat.le_of_ble_eq_true rfl) (hM) ?_
      refine as_iload_n d141_4 rfl ?_
      refine as_tsw (o := 78) 83 d141_5 (by decide) (by decide) ?_
      refine as_aload_n d141_83 rfl ?_
      refine ac_v0 d141_84 c141_143 (by decide) rfl (Nat.le_of_ble_eq_true rfl) (mc_cornerClasses X _ P hP hp hL) ?_
      refine as_aload_n d141_87 rfl ?_
      refine ac_v0 d141_88 c141_147 (by decide) rfl (Nat.le_of_ble_eq_true rfl) (mc_edgeClasses X _ P hP hp hL) ?_
      refine as_isub d141_91 ?_
      refine as_aload_n d141_92 rfl ?_
      refine an_iconst 0 d141_93 rfl ?_
      refine ac_v1 d141_94 c141_132 (by decide) rfl (Nat.le_of_ble_eq_true rfl) (mc_sides X _ P mt go _ (by omega) hG hRT) ?_
      refine as_iadd d141_97 ?_
      refine as_aload_n d141_98 rfl ?_
      refine ap_get d141_99 f141_67 (by decide) rfl rfl ?_
      refine an_top (e' := nI (P)) (hp) ?_
      refine as_isub d141_102 ?_
      refine as_ireturn d141_103 (by rw [t141]; rfl) ?_
      refine am_req ?_
      first | rfl | (simp only [cntA]; simp; omega) | (show _ = nI _; refine congrArg nI ?_; omega)
    · refine MC.of (Nat.le_of_ble_eq_true rfl) ?_
      refine as_aload_n d141_0 rfl ?_
      refine ac_v0 d141_1 c141_118 (by decide) rfl (Nat.le_of_ble_eq_true rfl) (hM) ?_
      refine as_iload_n d141_4 rfl ?_
      refine as_tsw (o := 99) 104 d141_5 (by decide) (by decide) ?_
      refine as_aload_n d141_104 rfl ?_
      refine ac_v0 d141_105 c141_150 (by decide) rfl (Nat.le_of_ble_eq_true rfl) (mc_isWhole X _ P mt go w hG hRT hL hw) ?_
      refine an_if_eq 115 d141_108 (by decide) (by omega) (fun c108 => ?_) (fun c108 => ?_)
      · refine an_iconst 0 d141_115 rfl ?_
        refine as_ireturn d141_116 (by rw [t141]; rfl) ?_
        refine am_req ?_
        first | rfl | (simp only [cntA]; simp; omega) | (show _ = nI _; refine congrArg nI ?_; omega)
      · refine an_iconst 1 d141_111 rfl ?_
        refine as_goto 116 d141_112 (by decide) ?_
        refine as_ireturn d141_116 (by rw [t141]; rfl) ?_
        refine am_req ?_
        first | rfl | (simp only [cntA]; simp; omega) | (show _ = nI _; refine congrArg nI ?_; omega)
    · refine MC.of (Nat.le_of_ble_eq_true rfl) ?_
      refine as_aload_n d141_0 rfl ?_
      refine ac_v0 d141_1 c141_118 (by decide) rfl (Nat.le_of_ble_eq_true rfl) (hM) ?_
      refine as_iload_n d141_4 rfl ?_
      refine as_tsw (o := 112) 117 d141_5 (by decide) (by decide) ?_
      refine as_aload_n d141_117 rfl ?_
      refine ac_v0 d141_118 c141_153 (by decide) rfl (Nat.le_of_ble_eq_true rfl) (mc_isEven X _ P mt go e hG hRT he) ?_
      refine an_if_eq 128 d141_121 (by decide) (by omega) (fun c121 => ?_) (fun c121 => ?_)
      · refine an_iconst 0 d141_128 rfl ?_
        refine as_ireturn d141_129 (by rw [t141]; rfl) ?_
        refine am_req ?_
        first | rfl | (simp only [cntA]; simp; omega) | (show _ = nI _; refine congrArg nI ?_; omega)
      · refine an_iconst 1 d141_124 rfl ?_
        refine as_goto 129 d141_125 (by decide) ?_
        refine as_ireturn d141_129 (by rw [t141]; rfl) ?_
        refine am_req ?_
        first | rfl | (simp only [cntA]; simp; omega) | (show _ = nI _; refine congrArg nI ?_; omega)
    · refine MC.of (Nat.le_of_ble_eq_true rfl) ?_
      refine as_aload_n d141_0 rfl ?_
      refine ac_v0 d141_1 c141_118 (by decide) rfl (Nat.le_of_ble_eq_true rfl) (hM) ?_
      refine as_iload_n d141_4 rfl ?_
      refine as_tsw (o := 125) 130 d141_5 (by decide) (by decide) ?_
      refine as_aload_n d141_130 rfl ?_
      refine ac_v0 d141_131 c141_156 (by decide) rfl (Nat.le_of_ble_eq_true rfl) (mc_setMany X _ P hP hp hL) ?_
      refine as_ireturn d141_134 (by rw [t141]; rfl) ?_
      refine am_req ?_
      first | rfl | (simp only [cntA]; simp; omega) | (show _ = nI _; refine congrArg nI ?_; omega)
  · refine MC.of (Nat.le_of_ble_eq_true rfl) ?_
    refine as_aload_n d141_0 rfl ?_
    refine ac_v0 d141_1 c141_118 (by decide) rfl (Nat.le_of_ble_eq_true rfl) (hM) ?_
    refine as_iload_n d141_4 rfl ?_
    refine as_tsw (o := 130) 135 d141_5 (if_pos (sw_out hn)) (by decide) ?_
    refine as_ldc (v := (-2147483648)) d141_135 (by decide +kernel) ?_
    refine as_ireturn d141_137 (by rw [t141]; rfl) ?_
    refine am_req ?_
    symm
    unfold cntA
    repeat (first | rfl | rw [if_neg (fun h => hn (by rw [h]; decide))])
