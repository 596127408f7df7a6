/-! the class: parts -/
def pcKeep (S T : MS) : Prop := (∀ k, ¬ (180 < k ∧ k ≤ 188) → T.2.1 k = S.2.1 k) ∧ T.2.2 = S.2.2 ∧ (∀ i j, ¬ (i = 180 ∧ (j = 5 ∨ j = 6)) → T.1 i j = S.1 i j)
theorem pcKeep.rf (S : MS) : pcKeep S S := ⟨fun _ _ => rfl, rfl, fun _ _ _ => rfl⟩
theorem pcKeep.trans {S T U : MS} (h : pcKeep S T) (g : pcKeep T U) : pcKeep S U := ⟨fun k a => (g.1 k a).trans (h.1 k a), g.2.1.trans h.2.1, fun i j a => (g.2.2 i j a).trans (h.2.2 i j a)⟩
theorem pcKeep.sa {S T : MS} (h : pcKeep S T) {A : Nat} (hA : 180 < A ∧ A ≤ 188) (i : Nat) (x : Int32) : pcKeep S (T.sa A i x) := by
  refine ⟨fun k a => ?_, h.2.1, h.2.2⟩
  rw [sa_row _ _ _ _ (by omega)]
  exact h.1 k a
theorem sKeep.pc {S T : MS} (h : sKeep 180 S T) : pcKeep S T := ⟨fun k a => h.1 k (by omega), h.2.1, h.2.2⟩
theorem SHC.pc {S T : MS} {sh : Nat → Nat} (h : SHC S sh) (g : pcKeep S T) : SHC T sh := by
  intro i hi
  rw [g.1 178 (by omega)]
  exact h i hi
theorem CG.pc {S T : MS} {P : Nat} {mt : Nat → Option Nat} {go : Nat → Nat} (h : CG S P mt go) (g : pcKeep S T) : CG T P mt go := h.keep (g.2.2 1 0 (by omega)) (g.2.2 1 1 (by omega)) (g.1 2 (by omega)) (g.1 3 (by omega))
theorem SD.pc {S T : MS} {P : Nat} {mt : Nat → Option Nat} {go : Nat → Nat} (h : SD S P mt go) (g : pcKeep S T) : SD T P mt go := h.keep (fun k hk => g.1 k (by omega)) (fun i j h1 h2 => g.2.2 i j (by omega))
theorem lkB_t {sh : Nat → Nat} {s c i : Nat} (h : i < sh (7 * (s / 4) + c) ∨ c = 0 ∨ s % 4 = 0) : lkB sh s c i = true := decide_eq_true h
theorem lkB_f {sh : Nat → Nat} {s c i : Nat} (h1 : sh (7 * (s / 4) + c) ≤ i) (h2 : ¬ (c = 0 ∨ s % 4 = 0)) : ¬ lkB sh s c i = true := fun g => by
  have := of_decide_eq_true g
  omega
/-- where the cuts of each kind begin -/
def PFC (S : MS) (sh : Nat → Nat) : Prop := ∀ i, i < 21 → S.2.1 186 i = nI (fsum sh i)
theorem mx_numberCuts (X : am_X) (S : MS) (sh : Nat → Nat) (hS : SHC S sh) (hN : fsum sh 21 ≤ 400) : ∃ T, MC X 36 [.ref (179), .ref (178)] S (some (.int (nI (fsum sh 21)))) T ∧ pcKeep S T ∧ PFC T sh := by
  have key := MX.mc (X := X) (mj := 36) (as := [.ref (179), .ref (178)]) (S := S) (Post := fun v T => v = some (.int (nI (fsum sh 21))) ∧ pcKeep S T ∧ PFC T sh) ?_
  · obtain ⟨v, T, g1, g2, g3⟩ := key
    subst g2
    exact ⟨T, g1, g3⟩
  refine MX.of (Nat.le_of_ble_eq_true rfl) ?_
  refine an_iconst 0 d36_0 rfl ?_
  refine as_istore_n d36_1 (by decide) ?_
  refine an_iconst 0 d36_2 rfl ?_
  refine as_istore_n d36_3 (by decide) ?_
  refine AW.loc [(0, .ref (179)), (1, .ref (178)), (2, .int (nI (0))), (3, .int (nI (0)))] (am_pick [2, 3, 1, 0] rfl rfl) ?_
  refine aw_fromE (fun i T => ((4, [(0, .ref (179)), (1, .ref (178)), (2, .int (nI (fsum sh (i)))), (3, .int (nI (i)))], [], 208, HP (T), 0, 0) : am_Z)) (fun i T => pcKeep S T ∧ ∀ j, j < i → T.2.1 186 j = nI (fsum sh j)) (0) (21) (by omega) (S) (rfl) (⟨pcKeep.rf S, fun j hj => by omega⟩) (fun i T hi0 hi hI ih => ?_) (fun T hX => ?_)
  · refine as_iload_n d36_4 rfl ?_
    refine as_aload_n d36_5 rfl ?_
    refine ap_get d36_6 f36_20 (by decide) rfl rfl ?_
    refine as_alen d36_9 (by decide) rfl (by decide) ?_
    refine an_top (e' := nI 21) rfl ?_
    refine an_icmp_ge 32 d36_10 (by decide) (by omega) (by omega) (fun c10 => by omega) (fun c10 => ?_)
    refine as_aload_n d36_13 rfl ?_
    refine ap_get d36_14 f36_20 (by decide) rfl rfl ?_
    refine as_iload_n d36_17 rfl ?_
    refine as_iload_n d36_18 rfl ?_
    refine ap_iast d36_19 (fun _ _ _ _ => rfl) (by decide) (by omega) (by decide) ?_
    refine as_iload_n d36_20 rfl ?_
    refine as_aload_n d36_21 rfl ?_
    refine as_iload_n d36_22 rfl ?_
    refine ap_iald d36_23 (fun _ _ _ _ => rfl) (by decide) (by omega) (by decide) ?_
    refine an_top (e' := nI (sh i)) (by rw [sa_row _ _ _ _ (by decide), hI.1.1 178 (by omega)]; exact (hS i hi).1) ?_
    refine an_iadd d36_24 ?_
    refine as_istore_n d36_25 (by decide) ?_
    refine an_iinc 1 d36_26 rfl rfl (by decide) ?_
    refine as_goto 4 d36_29 (by decide) ?_
    refine AW.loc [(0, .ref (179)), (1, .ref (178)), (2, .int (nI ((fsum sh (i)) + (sh i)))), (3, .int (nI (i + 1)))] (am_pick [2, 3, 1, 0] rfl rfl) ?_
    have ih := ih ((T).sa 186 (i) (nI (fsum sh (i)))) (⟨hI.1.sa (by omega) _ _, fun j hj => by
      rw [sa_at]
      by_cases e : j = i
      · rw [if_pos e, e]
      · rw [if_neg e]; exact hI.2 j (by omega)⟩)
    have e2 : fsum sh (i + 1) = (fsum sh (i)) + (sh i) := by rfl
    rw [e2] at ih
    exact ih
  · refine as_iload_n d36_4 rfl ?_
    refine as_aload_n d36_5 rfl ?_
    refine ap_get d36_6 f36_20 (by decide) rfl rfl ?_
    refine as_alen d36_9 (by decide) rfl (by decide) ?_
    refine an_top (e' := nI 21) rfl ?_
    refine an_icmp_ge 32 d36_10 (by decide) (by omega) (by omega) (fun c10 => ?_) (fun c10 => by omega)
    refine as_iload_n d36_32 rfl ?_
    refine an_sipush 400 d36_33 rfl ?_
    refine ac_min d36_36 c36_64 (by decide) (Nat.le_of_ble_eq_true rfl) ?_
    refine an_top (e' := nI (fsum sh 21)) (by rw [if_neg (fun g => absurd ((nI_ltI (by decide) (by omega)).mp g) (by omega))]) ?_
    refine as_ireturn d36_39 (by rw [t36]; rfl) ?_
    exact ⟨_, _, rfl, rfl, hX.1, hX.2⟩
theorem mc_isNear (X : am_X) (S : MS) (s c : Nat) (hs : s < 12) (hc : c < 4) : MC X 40 [.int (nI (s)), .int (nI (c))] S (some (.int (if c = 0 ∨ s % 4 = 0 then 1 else 0))) S := by
  refine MC.of (Nat.le_of_ble_eq_true rfl) ?_
  refine as_iload_n d40_0 rfl ?_
  refine an_if_eq 10 d40_1 (by decide) (by omega) (fun c1 => ?_) (fun c1 => ?_)
  · refine an_iconst 1 d40_10 rfl ?_
    refine as_goto 15 d40_11 (by decide) ?_
    refine as_ireturn d40_15 (by rw [t40]; rfl) ?_
    refine am_req ?_
    first | exact (if_pos (by omega)).symm | exact (if_neg (by omega)).symm
  · refine as_iload_n d40_4 rfl ?_
    refine an_iconst 4 d40_5 rfl ?_
    refine an_irem d40_6 (by omega) (by omega) (by omega) ?_
    refine an_if_ne 14 d40_7 (by decide) (by omega) (fun c7 => ?_) (fun c7 => ?_)
    · refine an_iconst 0 d40_14 rfl ?_
      refine as_ireturn d40_15 (by rw [t40]; rfl) ?_
      refine am_req ?_
      first | exact (if_pos (by omega)).symm | exact (if_neg (by omega)).symm
    · refine an_iconst 1 d40_10 rfl ?_
      refine as_goto 15 d40_11 (by decide) ?_
      refine as_ireturn d40_15 (by rw [t40]; rfl) ?_
      refine am_req ?_
      first | exact (if_pos (by omega)).symm | exact (if_neg (by omega)).symm
theorem mc_looksAway (X : am_X) (S : MS) (s c i : Nat) (sh : Nat → Nat) (hS : SHC S sh) (hs : s < 12) (hc : c < 4) (hi : i < 3000) : MC X 39 [.ref (178), .int (nI (s)), .int (nI (c)), .int (nI (i))] S (some (.int (if lkB sh s c i = true then 0 else 1))) S := by
  have b1 := (hS (7 * (s / 4) + c) (by omega)).2
  refine MC.of (Nat.le_of_ble_eq_true rfl) ?_
  refine as_iload_n d39_0 rfl ?_
  refine as_aload_n d39_1 rfl ?_
  refine an_bipush 7 d39_2 rfl ?_
  refine as_iload_n d39_4 rfl ?_
  refine an_iconst 4 d39_5 rfl ?_
  refine an_idiv d39_6 (by omega) (by omega) (by omega) ?_
  refine an_imul d39_7 ?_
  refine as_iload_n d39_8 rfl ?_
  refine an_iadd d39_9 ?_
  refine ap_iald d39_10 (fun _ _ _ _ => rfl) (by decide) (by omega) (by decide) ?_
  refine an_top (e' := nI (sh (((7) * ((s) / (4))) + (c)))) ((hS _ (by omega)).1) ?_
  refine an_icmp_lt 26 d39_11 (by decide) (by omega) (by omega) (fun c11 => ?_) (fun c11 => ?_)
  · refine an_iconst 0 d39_26 rfl ?_
    refine as_ireturn d39_27 (by rw [t39]; rfl) ?_
    refine am_req ?_
    first | exact (if_pos (lkB_t (Or.inl c11))).symm | exact (if_pos (lkB_t (Or.inr (am_b1 c19)))).symm | exact (if_neg (lkB_f c11 (am_b01.mp c19))).symm
  · refine as_iload_n d39_14 rfl ?_
    refine as_iload_n d39_15 rfl ?_
    refine ac_s2 d39_16 c39_95 (by decide) (Nat.le_of_ble_eq_true rfl) (mc_isNear X _ _ _ (by omega) (by omega)) ?_
    refine as_if_ne 26 d39_19 (by decide) (fun c19 => ?_) (fun c19 => ?_)
    · refine an_iconst 0 d39_26 rfl ?_
      refine as_ireturn d39_27 (by rw [t39]; rfl) ?_
      refine am_req ?_
      first | exact (if_pos (lkB_t (Or.inl c11))).symm | exact (if_pos (lkB_t (Or.inr (am_b1 c19)))).symm | exact (if_neg (lkB_f c11 (am_b01.mp c19))).symm
    · refine an_iconst 1 d39_22 rfl ?_
      refine as_goto 27 d39_23 (by decide) ?_
      refine as_ireturn d39_27 (by rw [t39]; rfl) ?_
      refine am_req ?_
      first | exact (if_pos (lkB_t (Or.inl c11))).symm | exact (if_pos (lkB_t (Or.inr (am_b1 c19)))).symm | exact (if_neg (lkB_f c11 (am_b01.mp c19))).symm
theorem mc_cutAtC (X : am_X) (S : MS) (s c i : Nat) (sh : Nat → Nat) (hS : SHC S sh) (hF : PFC S sh) (hs : s < 12) (hc : c < 4) (hcs : c ≠ s % 4) (hi : i < arcP sh (s / 4) (s % 4) c) : MC X 38 [.ref (179), .ref (178), .int (nI (s)), .int (nI (c)), .int (nI (i))] S (some (.int (nI (cutN sh s c i)))) S := by
  have hk := kO_lt hc (show s % 4 < 4 by omega) hcs
  have b1 := (hS (7 * (s / 4) + c) (by omega)).2
  have b2 := (hS (7 * (s / 4) + 4 + kO c (s % 4)) (by omega)).2
  have hi2 : i < sh (7 * (s / 4) + c) + sh (7 * (s / 4) + 4 + kO c (s % 4)) := hi
  refine MC.of (Nat.le_of_ble_eq_true rfl) ?_
  refine an_bipush 7 d38_0 rfl ?_
  refine as_iload_n d38_2 rfl ?_
  refine an_iconst 4 d38_3 rfl ?_
  refine an_idiv d38_4 (by omega) (by omega) (by omega) ?_
  refine an_imul d38_5 ?_
  refine as_istore d38_6 (by decide) ?_
  refine as_aload_n d38_8 rfl ?_
  refine as_iload d38_9 rfl ?_
  refine as_iload_n d38_11 rfl ?_
  refine an_iadd d38_12 ?_
  refine ap_iald d38_13 (fun _ _ _ _ => rfl) (by decide) (by omega) (by decide) ?_
  refine an_top (e' := nI (sh (((7) * ((s) / (4))) + (c)))) ((hS _ (by omega)).1) ?_
  refine as_istore d38_14 (by decide) ?_
  refine as_iload d38_16 rfl ?_
  refine as_iload d38_18 rfl ?_
  refine an_icmp_ge 36 d38_20 (by decide) (by omega) (by omega) (fun c20 => ?_) (fun c20 => ?_)
  · refine as_iload d38_36 rfl ?_
    refine an_iconst 4 d38_38 rfl ?_
    refine an_iadd d38_39 ?_
    refine as_gets d38_40 g38_92 ?_
    refine an_iconst 4 d38_43 rfl ?_
    refine as_iload_n d38_44 rfl ?_
    refine an_imul d38_45 ?_
    refine as_iload_n d38_46 rfl ?_
    refine an_iconst 4 d38_47 rfl ?_
    refine an_irem d38_48 (by omega) (by omega) (by omega) ?_
    refine an_iadd d38_49 ?_
    refine an_stat d38_50 (by decide) (by show _ < 16; omega) ?_
    refine an_top (e' := nI (kO c (s % 4))) (sl_four hc (by omega) hcs) ?_
    refine an_iadd d38_51 ?_
    refine as_istore d38_52 (by decide) ?_
    refine as_iload d38_54 rfl ?_
    refine as_iload d38_56 rfl ?_
    refine an_isub d38_58 (by omega) ?_
    refine as_istore d38_59 (by decide) ?_
    refine as_aload_n d38_61 rfl ?_
    refine ap_get d38_62 f38_20 (by decide) rfl rfl ?_
    refine as_iload d38_65 rfl ?_
    refine ap_iald d38_67 (fun _ _ _ _ => rfl) (by decide) (by omega) (by decide) ?_
    refine an_top (e' := nI (fsum sh ((((7) * ((s) / (4))) + (4)) + (kO c (s % 4))))) (hF _ (by omega)) ?_
    refine as_iload_n d38_68 rfl ?_
    refine as_iload_n d38_69 rfl ?_
    refine ac_s2 d38_70 c38_95 (by decide) (Nat.le_of_ble_eq_true rfl) (mc_isNear X _ _ _ (by omega) (by omega)) ?_
    refine as_if_eq 81 d38_73 (by decide) (fun c73 => ?_) (fun c73 => ?_)
    · refine as_aload_n d38_81 rfl ?_
      refine as_iload d38_82 rfl ?_
      refine ap_iald d38_84 (fun _ _ _ _ => rfl) (by decide) (by omega) (by decide) ?_
      refine an_top (e' := nI (sh ((((7) * ((s) / (4))) + (4)) + (kO c (s % 4))))) ((hS _ (by omega)).1) ?_
      refine an_iconst 1 d38_85 rfl ?_
      refine an_isub d38_86 (by omega) ?_
      refine as_iload d38_87 rfl ?_
      refine an_isub d38_89 (by omega) ?_
      refine an_iadd d38_90 ?_
      refine as_ireturn d38_91 (by rw [t38]; rfl) ?_
      refine am_req (congrArg nI ?_)
      unfold cutN
      first | exact (if_pos c20).symm | (rw [if_neg (by omega)]; first | (rw [if_pos (am_b1 c73)]) | (rw [if_neg (am_b01.mp c73)]))
    · refine as_iload d38_76 rfl ?_
      refine as_goto 90 d38_78 (by decide) ?_
      refine an_iadd d38_90 ?_
      refine as_ireturn d38_91 (by rw [t38]; rfl) ?_
      refine am_req (congrArg nI ?_)
      unfold cutN
      first | exact (if_pos c20).symm | (rw [if_neg (by omega)]; first | (rw [if_pos (am_b1 c73)]) | (rw [if_neg (am_b01.mp c73)]))
  · refine as_aload_n d38_23 rfl ?_
    refine ap_get d38_24 f38_20 (by decide) rfl rfl ?_
    refine as_iload d38_27 rfl ?_
    refine as_iload_n d38_29 rfl ?_
    refine an_iadd d38_30 ?_
    refine ap_iald d38_31 (fun _ _ _ _ => rfl) (by decide) (by omega) (by decide) ?_
    refine an_top (e' := nI (fsum sh (((7) * ((s) / (4))) + (c)))) (hF _ (by omega)) ?_
    refine as_iload d38_32 rfl ?_
    refine an_iadd d38_34 ?_
    refine as_ireturn d38_35 (by rw [t38]; rfl) ?_
    refine am_req (congrArg nI ?_)
    unfold cutN
    first | exact (if_pos c20).symm | (rw [if_neg (by omega)]; first | (rw [if_pos (am_b1 c73)]) | (rw [if_neg (am_b01.mp c73)]))
/-- joins, as far as they have gone -/
def pjR (P : Nat) (mt : Nat → Option Nat) (go : Nat → Nat) (sh : Nat → Nat) (s0 c0 i0 : Nat) : LRel := fun x y b => ∃ s c i, (s < s0 ∨ (s = s0 ∧ (c < c0 ∨ (c = c0 ∧ i < i0)))) ∧ prN mt s = true ∧ LkA P mt go sh s c i x y b
def PJ (P : Nat) (mt : Nat → Option Nat) (go : Nat → Nat) (sh : Nat → Nat) : LRel := pjR P mt go sh (4 * P) 0 0
section PJS
variable {P : Nat} {mt : Nat → Option Nat} {go : Nat → Nat} {sh : Nat → Nat} {s c i t : Nat}
theorem pjR.no (h : ¬ prN mt s = true) (x y : Nat) (b : Bool) : pjR P mt go sh s 0 0 x y b ↔ pjR P mt go sh (s + 1) 0 0 x y b := by
  constructor
  · rintro ⟨s', c', i', h0, h1⟩
    exact ⟨s', c', i', by omega, h1⟩
  · rintro ⟨s', c', i', h0, h1, h2⟩
    have : s' ≠ s := fun q => h (q ▸ h1)
    exact ⟨s', c', i', by omega, h1, h2⟩
theorem pjR.side (x y : Nat) (b : Bool) : pjR P mt go sh s 4 0 x y b ↔ pjR P mt go sh (s + 1) 0 0 x y b := by
  constructor
  · rintro ⟨s', c', i', h0, h1⟩
    exact ⟨s', c', i', by omega, h1⟩
  · rintro ⟨s', c', i', h0, h1, t', g1, g2, g3, g4⟩
    exact ⟨s', c', i', by omega, h1, t', g1, g2, g3, g4⟩
theorem pjR.skip (e : c = s % 4) (x y : Nat) (b : Bool) : pjR P mt go sh s c 0 x y b ↔ pjR P mt go sh s (c + 1) 0 x y b := by
  constructor
  · rintro ⟨s', c', i', h0, h1⟩
    exact ⟨s', c', i', by omega, h1⟩
  · rintro ⟨s', c', i', h0, h1, t', g1, g2, g3, g4, g5⟩
    have : ¬ (s' = s ∧ c' = c) := fun q => g4 (by rw [q.1, q.2]; exact e)
    exact ⟨s', c', i', by omega, h1, t', g1, g2, g3, g4, g5⟩
theorem pjR.corner (x y : Nat) (b : Bool) : pjR P mt go sh s c (arcP sh (s / 4) (s % 4) c) x y b ↔ pjR P mt go sh s (c + 1) 0 x y b := by
  constructor
  · rintro ⟨s', c', i', h0, h1⟩
    exact ⟨s', c', i', by omega, h1⟩
  · rintro ⟨s', c', i', h0, h1, t', g1, g2, g3, g4, g5, g6⟩
    refine ⟨s', c', i', ?_, h1, t', g1, g2, g3, g4, g5, g6⟩
    by_cases e : s' = s ∧ c' = c
    · obtain ⟨rfl, rfl⟩ := e
      omega
    · omega
theorem pjR.step (hs : s < 4 * P) (e0 : mt s = some t) (hp : prN mt s = true) (hc : c < 4) (hcs : c ≠ s % 4) (hi : i < arcP sh (s / 4) (s % 4) c) (x y : Nat) (b : Bool) : jn (pjR P mt go sh s c i) (cutN sh s c i) (cutN sh t (go (4 * s + c)) i) (lkB sh s c i != lkB sh t (go (4 * s + c)) i) x y b ↔ pjR P mt go sh s c (i + 1) x y b := by
  constructor
  · rintro (⟨s', c', i', h0, h1⟩ | ⟨h1, h2, h3⟩)
    · exact ⟨s', c', i', by omega, h1⟩
    · exact ⟨s, c, i, by omega, hp, t, hs, e0, hc, hcs, hi, h1, h2, h3⟩
  · rintro ⟨s', c', i', h0, h1, t', g1, g2, g3, g4, g5, g6, g7, g8⟩
    by_cases e : s' = s ∧ c' = c ∧ i' = i
    · obtain ⟨rfl, rfl, rfl⟩ := e
      rw [e0] at g2
      cases g2
      exact Or.inr ⟨g6, g7, g8⟩
    · exact Or.inl ⟨s', c', i', by omega, h1, t', g1, g2, g3, g4, g5, g6, g7, g8⟩
end PJS
theorem mx_joinU180 (X : am_X) (S : MS) (n : Nat) (J : LRel) (hn : n ≤ 400) (h : UG S 180 n J) (x y : Nat) (b : Bool) (hx : x < n) (hy : y < n) : ∃ T, MC X 3 [.ref (180), .int (nI (x)), .int (nI (y)), .int (nI (bN b))] S none T ∧ gKeep 180 S T ∧ UG T 180 n (jn J x y b) := by
  obtain ⟨pa, un, cl, rt, ph, g1, g2⟩ := h
  obtain ⟨T, pa', un', cl', rt', ph', q1, q2, q3, q4⟩ := mx_join180 X S n J pa un cl rt ph hn g1 g2 x y b hx hy
  exact ⟨T, q1, q2, pa', un', cl', rt', ph', q3, q4⟩
theorem PFC.keep {S T : MS} {sh : Nat → Nat} (h : PFC S sh) (e : T.2.1 186 = S.2.1 186) : PFC T sh := by
  intro i hi
  rw [e]
  exact h i hi
theorem cutN_lt12 {P : Nat} {sh : Nat → Nat} {s c i : Nat} (hz : fsum sh 21 = fsum sh (7 * P)) (hs : s < 4 * P) (hc : c < 4) (hcs : c ≠ s % 4) (hi : i < arcP sh (s / 4) (s % 4) c) : cutN sh s c i < fsum sh 21 := by
  rw [hz]
  exact cutN_lt hs hc hcs hi
theorem lk_eq2 {a b : Bool} (h : (if a = true then (0 : Int32) else 1) = if b = true then 0 else 1) : bN (a != b) = 0 := by
  cases a <;> cases b <;> simp_all [bN]
theorem lk_ne2 {a b : Bool} (h : ¬ (if a = true then (0 : Int32) else 1) = if b = true then 0 else 1) : bN (a != b) = 1 := by
  cases a <;> cases b <;> simp_all [bN]
theorem mx_joinAcross (X : am_X) (S : MS) (P : Nat) (mt : Nat → Option Nat) (go : Nat → Nat) (sh : Nat → Nat) (hG : GW P mt go) (hC : CG S P mt go) (hS : SHC S sh) (hFt : Fits P mt go sh) (hz : fsum sh 21 = fsum sh (7 * P)) (hN : fsum sh 21 ≤ 400) (hF : PFC S sh) (s t : Nat) (hs : s < 4 * P) (e0 : mt s = some t) (hst : s < t) (hU : UG S 180 (fsum sh 21) (pjR P mt go sh s 0 0)) : ∃ T, MC X 37 [.ref (179), .ref (1), .ref (178), .int (nI (s))] S none T ∧ gKeep 180 S T ∧ UG T 180 (fsum sh 21) (pjR P mt go sh (s + 1) 0 0) := by
  have hP := hG.1
  have ht := mt_lt hG hs e0
  have hpr := prN_t e0 hst
  have key := MX.mc (X := X) (mj := 37) (as := [.ref (179), .ref (1), .ref (178), .int (nI (s))]) (S := S) (Post := fun v T => v = none ∧ gKeep 180 S T ∧ UG T 180 (fsum sh 21) (pjR P mt go sh (s + 1) 0 0)) ?_
  · obtain ⟨v, T, g1, g2, g3⟩ := key
    subst g2
    exact ⟨T, g1, g3⟩
  refine MX.of (Nat.le_of_ble_eq_true rfl) ?_
  refine as_aload_n d37_0 rfl ?_
  refine ap_get d37_1 f37_70 (by decide) rfl rfl ?_
  refine as_iload_n d37_4 rfl ?_
  refine ap_iald d37_5 (fun _ _ _ _ => rfl) (by decide) (by omega) (by decide) ?_
  refine an_top (e' := nI (t)) (by rw [hC.2.2.1 _ (by omega), e0]; rfl) ?_
  refine as_istore d37_6 (by decide) ?_
  refine an_iconst 0 d37_8 rfl ?_
  refine as_istore d37_9 (by decide) ?_
  refine AW.loc [(0, .ref (179)), (1, .ref (1)), (2, .ref (178)), (3, .int (nI (s))), (4, .int (nI (t))), (5, .int (nI (0)))] (am_pick [2, 3, 4, 5, 1, 0] rfl rfl) ?_
  refine aw_fromE (fun c T => ((11, [(0, .ref (179)), (1, .ref (1)), (2, .ref (178)), (3, .int (nI (s))), (4, .int (nI (t))), (5, .int (nI (c)))], [], 208, HP (T), 0, 0) : am_Z)) (fun c T => gKeep 180 S T ∧ UG T 180 (fsum sh 21) (pjR P mt go sh s (c) 0)) (0) (4) (by omega) (S) (rfl) (⟨gKeep.rf 180 S, hU⟩) (fun c T hc0 hc hI ihc => ?_) (fun T hX => ?_)
  · have hkT := hI.1.s.pc
    have hCT := hC.pc hkT
    have hST := hS.pc hkT
    have hgl := hG.go_lt hs e0 hc
    refine as_iload d37_11 rfl ?_
    refine an_iconst 4 d37_13 rfl ?_
    refine an_icmp_ge 132 d37_14 (by decide) (by omega) (by omega) (fun c14 => by omega) (fun c14 => ?_)
    refine as_aload_n d37_17 rfl ?_
    refine ap_get d37_18 f37_73 (by decide) rfl rfl ?_
    refine an_iconst 4 d37_21 rfl ?_
    refine as_iload_n d37_22 rfl ?_
    refine an_imul d37_23 ?_
    refine as_iload d37_24 rfl ?_
    refine an_iadd d37_26 ?_
    refine ap_iald d37_27 (fun _ _ _ _ => rfl) (by decide) (by omega) (by decide) ?_
    refine an_top (e' := nI (go (((4) * (s)) + (c)))) (hCT.2.2.2.2 _ _ _ (by omega) e0 (by omega)) ?_
    refine as_istore d37_28 (by decide) ?_
    by_cases hcs : c = s % 4
    · have hD := pjR.skip (P := P) (mt := mt) (go := go) (sh := sh) hcs
      refine as_iload d37_30 rfl ?_
      refine as_iload_n d37_32 rfl ?_
      refine an_iconst 4 d37_33 rfl ?_
      refine an_irem d37_34 (by omega) (by omega) (by omega) ?_
      refine an_icmp_ne 42 d37_35 (by decide) (by omega) (by omega) (fun c35 => absurd hcs c35) (fun c35 => ?_)
      refine an_iconst 0 d37_38 rfl ?_
      refine as_goto 49 d37_39 (by decide) ?_
      refine as_istore d37_49 (by decide) ?_
      refine an_iconst 0 d37_51 rfl ?_
      refine as_istore d37_52 (by decide) ?_
      refine as_iload d37_54 rfl ?_
      refine as_iload d37_56 rfl ?_
      refine an_icmp_ge 126 d37_58 (by decide) (by omega) (by omega) (fun c58 => ?_) (fun c58 => by omega)
      refine an_iinc 1 d37_126 rfl rfl (by decide) ?_
      refine as_goto 11 d37_129 (by decide) ?_
      refine AW.loc [(0, .ref (179)), (1, .ref (1)), (2, .ref (178)), (3, .int (nI (s))), (4, .int (nI (t))), (5, .int (nI (c + 1)))] (am_pick [4, 5, 6, 7, 8, 0] rfl rfl) ?_
      have ihc := ihc (T) (by first | exact ⟨hJX.1, hJX.2.eq hD⟩ | exact ⟨hI.1, hI.2.eq hD⟩)
      exact ihc
    · have hD := pjR.corner (P := P) (mt := mt) (go := go) (sh := sh) (s := s) (c := c)
      have hgn := hG.go_ne hs e0 hc hcs
      have hb1 := arcP_le (fun i hi => (hS i hi).2) (p := s / 4) (f := s % 4) (c := c) (by omega) (by omega) hc hcs
      have hfit : arcP sh (s / 4) (s % 4) c = arcP sh (t / 4) (t % 4) (go (4 * s + c)) := Classical.not_not.mp (fun q => hFt s hs c hc ⟨t, e0, hcs, q⟩)
      refine as_iload d37_30 rfl ?_
      refine as_iload_n d37_32 rfl ?_
      refine an_iconst 4 d37_33 rfl ?_
      refine an_irem d37_34 (by omega) (by omega) (by omega) ?_
      refine an_icmp_ne 42 d37_35 (by decide) (by omega) (by omega) (fun c35 => ?_) (fun c35 => absurd c35 hcs)
      refine as_aload_n d37_42 rfl ?_
      refine as_iload_n d37_43 rfl ?_
      refine as_iload d37_44 rfl ?_
      refine ac_s3 d37_46 c37_76 (by decide) (Nat.le_of_ble_eq_true rfl) (mc_arcsAround X _ _ _ _ sh (by decide) isI178 (fun i hi => (hST i hi).1) (by omega) (by omega) (by omega)) ?_
      refine as_istore d37_49 (by decide) ?_
      refine an_iconst 0 d37_51 rfl ?_
      refine as_istore d37_52 (by decide) ?_
      refine AW.loc [(0, .ref (179)), (1, .ref (1)), (2, .ref (178)), (3, .int (nI (s))), (4, .int (nI (t))), (5, .int (nI (c))), (6, .int (nI (go (((4) * (s)) + (c))))), (7, .int (nI (arcP sh (s / 4) (s % 4) c))), (8, .int (nI (0)))] (am_pick [3, 4, 5, 6, 7, 8, 2, 1, 0] rfl rfl) ?_
      refine aw_fromE (fun i U => ((54, [(0, .ref (179)), (1, .ref (1)), (2, .ref (178)), (3, .int (nI (s))), (4, .int (nI (t))), (5, .int (nI (c))), (6, .int (nI (go (4 * s + c)))), (7, .int (nI (arcP sh (s / 4) (s % 4) c))), (8, .int (nI (i)))], [], 208, HP (U), 0, 0) : am_Z)) (fun i U => gKeep 180 S U ∧ UG U 180 (fsum sh 21) (pjR P mt go sh s c (i))) (0) (arcP sh (s / 4) (s % 4) c) (by omega) (T) (rfl) (hI) (fun i U hi0 hi hJ ihi => ?_) (fun U hJX => ?_)
      · have hkU := hJ.1.s.pc
        have hSU := hS.pc hkU
        have hFU : PFC U sh := hF.keep (hJ.1.1 186 (by decide) (by decide) (by decide))
        have hi5 : i < arcP sh (t / 4) (t % 4) (go (4 * s + c)) := by rw [← hfit]; exact hi
        have hx1 := cutN_lt12 hz hs hc hcs hi
        have hy1 := cutN_lt12 hz ht.1 hgl hgn hi5
        have hDi := pjR.step (go := go) hs e0 hpr hc hcs hi
        obtain ⟨U2, m1, m2, m3⟩ := mx_joinU180 X U (fsum sh 21) _ hN hJ.2 (cutN sh s c i) (cutN sh t (go (4 * s + c)) i) (lkB sh s c i != lkB sh t (go (4 * s + c)) i) hx1 hy1
        refine as_iload d37_54 rfl ?_
        refine as_iload d37_56 rfl ?_
        refine an_icmp_ge 126 d37_58 (by decide) (by omega) (by omega) (fun c58 => by omega) (fun c58 => ?_)
        refine as_aload_n d37_61 rfl ?_
        refine as_iload_n d37_62 rfl ?_
        refine as_iload d37_63 rfl ?_
        refine as_iload d37_65 rfl ?_
        refine ac_s4 d37_67 c37_80 (by decide) (Nat.le_of_ble_eq_true rfl) (mc_looksAway X _ s c i sh hSU (by omega) hc (by omega)) ?_
        refine as_aload_n d37_70 rfl ?_
        refine as_iload d37_71 rfl ?_
        refine as_iload d37_73 rfl ?_
        refine as_iload d37_75 rfl ?_
        refine ac_s4 d37_77 c37_80 (by decide) (Nat.le_of_ble_eq_true rfl) (mc_looksAway X _ t (go (4 * s + c)) i sh hSU (by omega) hgl (by omega)) ?_
        refine as_icmp_eq 87 d37_80 (by decide) (fun c80 => ?_) (fun c80 => ?_)
        · rw [lk_eq2 c80] at m1
          refine an_iconst 0 d37_87 rfl ?_
          refine as_istore d37_88 (by decide) ?_
          refine as_aload_n d37_90 rfl ?_
          refine ap_get d37_91 f37_14 (by decide) rfl rfl ?_
          refine as_aload_n d37_94 rfl ?_
          refine as_aload_n d37_95 rfl ?_
          refine as_iload_n d37_96 rfl ?_
          refine as_iload d37_97 rfl ?_
          refine as_iload d37_99 rfl ?_
          refine ac_v4 d37_101 c37_84 (by decide) rfl (Nat.le_of_ble_eq_true rfl) (mc_cutAtC X _ s c i sh hSU hFU (by omega) hc hcs hi) ?_
          refine as_aload_n d37_104 rfl ?_
          refine as_aload_n d37_105 rfl ?_
          refine as_iload d37_106 rfl ?_
          refine as_iload d37_108 rfl ?_
          refine as_iload d37_110 rfl ?_
          refine ac_v4 d37_112 c37_84 (by decide) rfl (Nat.le_of_ble_eq_true rfl) (mc_cutAtC X _ t (go (4 * s + c)) i sh hSU hFU (by omega) hgl hgn hi5) ?_
          refine as_iload d37_115 rfl ?_
          refine ac_v3 d37_117 c37_88 (by decide) rfl (Nat.le_of_ble_eq_true rfl) (m1) ?_
          refine an_iinc 1 d37_120 rfl rfl (by decide) ?_
          refine as_goto 54 d37_123 (by decide) ?_
          refine AW.loc [(0, .ref (179)), (1, .ref (1)), (2, .ref (178)), (3, .int (nI (s))), (4, .int (nI (t))), (5, .int (nI (c))), (6, .int (nI (go (4 * s + c)))), (7, .int (nI (arcP sh (s / 4) (s % 4) c))), (8, .int (nI (i + 1)))] (am_pick [2, 3, 4, 5, 6, 7, 8, 9, 0] rfl rfl) ?_
          have ihi := ihi (U2) (⟨hJ.1.trans m2, m3.eq hDi⟩)
          exact ihi
        · rw [lk_ne2 c80] at m1
          refine an_iconst 1 d37_83 rfl ?_
          refine as_goto 88 d37_84 (by decide) ?_
          refine as_istore d37_88 (by decide) ?_
          refine as_aload_n d37_90 rfl ?_
          refine ap_get d37_91 f37_14 (by decide) rfl rfl ?_
          refine as_aload_n d37_94 rfl ?_
          refine as_aload_n d37_95 rfl ?_
          refine as_iload_n d37_96 rfl ?_
          refine as_iload d37_97 rfl ?_
          refine as_iload d37_99 rfl ?_
          refine ac_v4 d37_101 c37_84 (by decide) rfl (Nat.le_of_ble_eq_true rfl) (mc_cutAtC X _ s c i sh hSU hFU (by omega) hc hcs hi) ?_
          refine as_aload_n d37_104 rfl ?_
          refine as_aload_n d37_105 rfl ?_
          refine as_iload d37_106 rfl ?_
          refine as_iload d37_108 rfl ?_
          refine as_iload d37_110 rfl ?_
          refine ac_v4 d37_112 c37_84 (by decide) rfl (Nat.le_of_ble_eq_true rfl) (mc_cutAtC X _ t (go (4 * s + c)) i sh hSU hFU (by omega) hgl hgn hi5) ?_
          refine as_iload d37_115 rfl ?_
          refine ac_v3 d37_117 c37_88 (by decide) rfl (Nat.le_of_ble_eq_true rfl) (m1) ?_
          refine an_iinc 1 d37_120 rfl rfl (by decide) ?_
          refine as_goto 54 d37_123 (by decide) ?_
          refine AW.loc [(0, .ref (179)), (1, .ref (1)), (2, .ref (178)), (3, .int (nI (s))), (4, .int (nI (t))), (5, .int (nI (c))), (6, .int (nI (go (4 * s + c)))), (7, .int (nI (arcP sh (s / 4) (s % 4) c))), (8, .int (nI (i + 1)))] (am_pick [2, 3, 4, 5, 6, 7, 8, 9, 0] rfl rfl) ?_
          have ihi := ihi (U2) (⟨hJ.1.trans m2, m3.eq hDi⟩)
          exact ihi
      · refine as_iload d37_54 rfl ?_
        refine as_iload d37_56 rfl ?_
        refine an_icmp_ge 126 d37_58 (by decide) (by omega) (by omega) (fun c58 => ?_) (fun c58 => by omega)
        refine an_iinc 1 d37_126 rfl rfl (by decide) ?_
        refine as_goto 11 d37_129 (by decide) ?_
        refine AW.loc [(0, .ref (179)), (1, .ref (1)), (2, .ref (178)), (3, .int (nI (s))), (4, .int (nI (t))), (5, .int (nI (c + 1)))] (am_pick [1, 2, 3, 4, 5, 0] rfl rfl) ?_
        have ihc := ihc (U) (by first | exact ⟨hJX.1, hJX.2.eq hD⟩ | exact ⟨hI.1, hI.2.eq hD⟩)
        exact ihc
  · refine as_iload d37_11 rfl ?_
    refine an_iconst 4 d37_13 rfl ?_
    refine an_icmp_ge 132 d37_14 (by decide) (by omega) (by omega) (fun c14 => ?_) (fun c14 => by omega)
    refine as_return d37_132 t37 ?_
    exact ⟨_, _, rfl, rfl, hX.1, hX.2.eq pjR.side⟩
