/-! the reference: legal, isWhole, isEven, count -/
theorem mt_or (mt : Nat → Option Nat) (s : Nat) : mt s = none ∨ ∃ t, mt s = some t := by
  cases mt s with
  | none => exact Or.inl rfl
  | some t => exact Or.inr ⟨t, rfl⟩
def setS (S : MS) : Nat → Int32
  | 0 => nI 0
  | i + 1 => setS S i ||| (if S.2.1 192 i = 0 then nI 0 else nI 1 <<< (nI i &&& 31))
theorem setS_s (S : MS) (i : Nat) : setS S (i + 1) = setS S i ||| (if S.2.1 192 i = 0 then nI 0 else nI 1 <<< (nI i &&& 31)) := rfl
def legA (S : MS) (P : Nat) (mt : Nat → Option Nat) (go : Nat → Nat) (a : Nat) : Prop := (Fits P mt go (sv S) ∧ anyN (twoK (setS S (7 * P))) P = 0 ∧ a = 0) ∨ (¬ Fits P mt go (sv S) ∧ a = 1) ∨ (Fits P mt go (sv S) ∧ anyN (twoK (setS S (7 * P))) P ≠ 0 ∧ a = 2)
theorem legA_ex (S : MS) (P : Nat) (mt : Nat → Option Nat) (go : Nat → Nat) : ∃ a, legA S P mt go a := by
  unfold legA
  by_cases h : Fits P mt go (sv S)
  · by_cases h2 : anyN (twoK (setS S (7 * P))) P = 0
    · exact ⟨0, Or.inl ⟨h, h2, rfl⟩⟩
    · exact ⟨2, Or.inr (Or.inr ⟨h, h2, rfl⟩)⟩
  · exact ⟨1, Or.inr (Or.inl ⟨h, rfl⟩)⟩
theorem mc_legal (X : am_X) (S : MS) (P : Nat) (mt : Nat → Option Nat) (go : Nat → Nat) (a : Nat) (hG : GW P mt go) (hR : RG S P mt go) (hS : SHN S) (ha : legA S P mt go a) : MC X 167 [.ref (189)] S (some (.int (nI a))) S := by
  have hP := hG.1
  have hp := hR.1
  refine MC.of (Nat.le_of_ble_eq_true rfl) ?_
  refine an_iconst 0 d167_0 rfl ?_
  refine as_istore_n d167_1 (by decide) ?_
  refine AW.loc [(0, .ref (189)), (1, .int (nI (0)))] (am_pick [1, 0] rfl rfl) ?_
  refine aw_fromI (fun s => ((2, [(0, .ref (189)), (1, .int (nI (s)))], [], 208, HP (S), 0, 0) : am_Z)) (fun s => ∀ r, r < s → ∀ d, d < 4 → ¬ misf mt go (sv S) r d) (0) (4 * P) (by omega) (rfl) (fun r hr => by omega) (fun s hs0 hs hI ihs => ?_) (fun hX => ?_)
  · refine as_iload_n d167_2 rfl ?_
    refine an_iconst 4 d167_3 rfl ?_
    refine as_aload_n d167_4 rfl ?_
    refine ap_get d167_5 f167_67 (by decide) rfl rfl ?_
    refine an_top (e' := nI (P)) (hp) ?_
    refine an_imul d167_8 ?_
    refine an_icmp_ge 94 d167_9 (by decide) (by omega) (by omega) (fun c9 => by omega) (fun c9 => ?_)
    rcases mt_or mt (s) with e0 | ⟨t, e0⟩
    · skip
      refine an_iconst 0 d167_12 rfl ?_
      refine as_istore_n d167_13 (by decide) ?_
      refine as_iload_n d167_14 rfl ?_
      refine an_iconst 4 d167_15 rfl ?_
      refine an_icmp_ge 88 d167_16 (by decide) (by omega) (by omega) (fun c16 => ?_) (fun c16 => ?_)
      · refine an_iinc 1 d167_88 rfl rfl (by decide) ?_
        refine as_goto 2 d167_91 (by decide) ?_
        refine AW.loc [(0, .ref (189)), (1, .int (nI (s + 1)))] (am_pick [2, 0] rfl rfl) ?_
        have ihs := ihs (fun r hr d hd => by
          by_cases e : r = s
          · subst e
            first | exact hJX d hd | (rintro ⟨t', e1, -⟩; rw [e0] at e1; cases e1)
          · exact hI r (by omega) d hd)
        exact ihs
      · refine as_aload_n d167_19 rfl ?_
        refine ap_get d167_20 f167_7 (by decide) rfl rfl ?_
        refine as_iload_n d167_23 rfl ?_
        refine ap_iald d167_24 (fun _ _ _ _ => rfl) (by decide) (by omega) (by decide) ?_
        refine an_top (e' := (-1)) (by rw [hR.2.1 _ (by omega), e0]; rfl) ?_
        refine an_iconstI (-1) d167_25 rfl ?_
        refine as_icmp_eq 88 d167_26 (by decide) (fun c26 => ?_) (fun c26 => absurd rfl c26)
        refine an_iinc 1 d167_88 rfl rfl (by decide) ?_
        refine as_goto 2 d167_91 (by decide) ?_
        refine AW.loc [(0, .ref (189)), (1, .int (nI (s + 1)))] (am_pick [2, 0] rfl rfl) ?_
        have ihs := ihs (fun r hr d hd => by
          by_cases e : r = s
          · subst e
            first | exact hJX d hd | (rintro ⟨t', e1, -⟩; rw [e0] at e1; cases e1)
          · exact hI r (by omega) d hd)
        exact ihs
    · have ht := mt_lt hG hs e0
      have hgl : ∀ c, c < 4 → go (4 * s + c) < 4 := fun c hc => hG.go_lt hs e0 hc
      have hgn : ∀ c, c < 4 → c ≠ s % 4 → go (4 * s + c) ≠ t % 4 := fun c hc h => hG.go_ne hs e0 hc h
      refine an_iconst 0 d167_12 rfl ?_
      refine as_istore_n d167_13 (by decide) ?_
      refine AW.loc [(0, .ref (189)), (1, .int (nI (s))), (2, .int (nI (0)))] (am_pick [1, 2, 0] rfl rfl) ?_
      refine aw_fromI (fun c => ((14, [(0, .ref (189)), (1, .int (nI (s))), (2, .int (nI (c)))], [], 208, HP (S), 0, 0) : am_Z)) (fun c => ∀ d, d < c → ¬ misf mt go (sv S) s d) (0) (4) (by omega) (rfl) (fun d hd => by omega) (fun c hc0 hc hJ ihc => ?_) (fun hJX => ?_)
      · refine as_iload_n d167_14 rfl ?_
        refine an_iconst 4 d167_15 rfl ?_
        refine an_icmp_ge 88 d167_16 (by decide) (by omega) (by omega) (fun c16 => by omega) (fun c16 => ?_)
        refine as_aload_n d167_19 rfl ?_
        refine ap_get d167_20 f167_7 (by decide) rfl rfl ?_
        refine as_iload_n d167_23 rfl ?_
        refine ap_iald d167_24 (fun _ _ _ _ => rfl) (by decide) (by omega) (by decide) ?_
        refine an_top (e' := nI (t)) (by rw [hR.2.1 _ (by omega), e0]; rfl) ?_
        refine an_iconstI (-1) d167_25 rfl ?_
        refine as_icmp_eq 88 d167_26 (by decide) (fun c26 => absurd c26 (nI_ne1 (by omega))) (fun c26 => ?_)
        refine as_iload_n d167_29 rfl ?_
        refine as_iload_n d167_30 rfl ?_
        refine an_iconst 4 d167_31 rfl ?_
        refine an_irem d167_32 (by omega) (by omega) (by omega) ?_
        refine an_icmp_eq 82 d167_33 (by decide) (by omega) (by omega) (fun c33 => ?_) (fun c33 => ?_)
        · refine an_iinc 1 d167_82 rfl rfl (by decide) ?_
          refine as_goto 14 d167_85 (by decide) ?_
          refine AW.loc [(0, .ref (189)), (1, .int (nI (s))), (2, .int (nI (c + 1)))] (am_pick [1, 2, 0] rfl rfl) ?_
          have ihc := ihc (fun d hd => by
            by_cases e : d = c
            · subst e
              rintro ⟨t', e1, e2, e3⟩
              rw [e0] at e1
              cases e1
              first | exact e2 c33 | exact e3 c77
            · exact hJ d (by omega))
          exact ihc
        · have hg1 := hgl c hc
          have hg2 := hgn c hc c33
          refine as_aload_n d167_36 rfl ?_
          refine as_iload_n d167_37 rfl ?_
          refine an_iconst 4 d167_38 rfl ?_
          refine an_idiv d167_39 (by omega) (by omega) (by omega) ?_
          refine as_iload_n d167_40 rfl ?_
          refine an_iconst 4 d167_41 rfl ?_
          refine an_irem d167_42 (by omega) (by omega) (by omega) ?_
          refine as_iload_n d167_43 rfl ?_
          refine ac_v3 d167_44 c167_230 (by decide) rfl (Nat.le_of_ble_eq_true rfl) (mc_arcsP X _ _ _ _ (by omega) (by omega) (by omega) (by omega) hS) ?_
          have hb1 := arcP_le (fun i hi => (hS i hi).2) (p := s / 4) (f := s % 4) (c := c) (by omega) (by omega) hc c33
          refine as_aload_n d167_47 rfl ?_
          refine as_aload_n d167_48 rfl ?_
          refine ap_get d167_49 f167_7 (by decide) rfl rfl ?_
          refine as_iload_n d167_52 rfl ?_
          refine ap_iald d167_53 (fun _ _ _ _ => rfl) (by decide) (by omega) (by decide) ?_
          refine an_top (e' := nI (t)) (by rw [hR.2.1 _ (by omega), e0]; rfl) ?_
          refine an_iconst 4 d167_54 rfl ?_
          refine an_idiv d167_55 (by omega) (by omega) (by omega) ?_
          refine as_aload_n d167_56 rfl ?_
          refine ap_get d167_57 f167_7 (by decide) rfl rfl ?_
          refine as_iload_n d167_60 rfl ?_
          refine ap_iald d167_61 (fun _ _ _ _ => rfl) (by decide) (by omega) (by decide) ?_
          refine an_top (e' := nI (t)) (by rw [hR.2.1 _ (by omega), e0]; rfl) ?_
          refine an_iconst 4 d167_62 rfl ?_
          refine an_irem d167_63 (by omega) (by omega) (by omega) ?_
          refine as_aload_n d167_64 rfl ?_
          refine ap_get d167_65 f167_13 (by decide) rfl rfl ?_
          refine an_iconst 4 d167_68 rfl ?_
          refine as_iload_n d167_69 rfl ?_
          refine an_imul d167_70 ?_
          refine as_iload_n d167_71 rfl ?_
          refine an_iadd d167_72 ?_
          refine ap_iald d167_73 (fun _ _ _ _ => rfl) (by decide) (by omega) (by decide) ?_
          refine an_top (e' := nI (go (((4) * (s)) + (c)))) (hR.2.2 _ _ _ (by omega) e0 (by omega)) ?_
          refine ac_v3 d167_74 c167_230 (by decide) rfl (Nat.le_of_ble_eq_true rfl) (mc_arcsP X _ _ _ _ (by omega) (by omega) (by omega) (by omega) hS) ?_
          have hb2 := arcP_le (fun i hi => (hS i hi).2) (p := t / 4) (f := t % 4) (c := go (4 * s + c)) (by omega) (by omega) hg1 hg2
          refine an_icmp_eq 82 d167_77 (by decide) (by omega) (by omega) (fun c77 => ?_) (fun c77 => ?_)
          · refine an_iinc 1 d167_82 rfl rfl (by decide) ?_
            refine as_goto 14 d167_85 (by decide) ?_
            refine AW.loc [(0, .ref (189)), (1, .int (nI (s))), (2, .int (nI (c + 1)))] (am_pick [1, 2, 0] rfl rfl) ?_
            have ihc := ihc (fun d hd => by
              by_cases e : d = c
              · subst e
                rintro ⟨t', e1, e2, e3⟩
                rw [e0] at e1
                cases e1
                first | exact e2 c33 | exact e3 c77
              · exact hJ d (by omega))
            exact ihc
          · have hnf : ¬ Fits P mt go (sv S) := fun h => h s hs c hc ⟨t, e0, c33, c77⟩
            refine an_iconst 1 d167_80 rfl ?_
            refine as_ireturn d167_81 (by rw [t167]; rfl) ?_
            refine am_req (congrArg nI ?_)
            unfold legA at ha
            first | (have hF : Fits P mt go (sv S) := hX; rcases ha with h | h | h <;> first | (exact absurd hF h.1) | omega) | (rcases ha with h | h | h <;> first | (exact absurd h.1 hnf) | omega)
      · refine as_iload_n d167_14 rfl ?_
        refine an_iconst 4 d167_15 rfl ?_
        refine an_icmp_ge 88 d167_16 (by decide) (by omega) (by omega) (fun c16 => ?_) (fun c16 => by omega)
        refine an_iinc 1 d167_88 rfl rfl (by decide) ?_
        refine as_goto 2 d167_91 (by decide) ?_
        refine AW.loc [(0, .ref (189)), (1, .int (nI (s + 1)))] (am_pick [1, 0] rfl rfl) ?_
        have ihs := ihs (fun r hr d hd => by
          by_cases e : r = s
          · subst e
            first | exact hJX d hd | (rintro ⟨t', e1, -⟩; rw [e0] at e1; cases e1)
          · exact hI r (by omega) d hd)
        exact ihs
  · refine as_iload_n d167_2 rfl ?_
    refine an_iconst 4 d167_3 rfl ?_
    refine as_aload_n d167_4 rfl ?_
    refine ap_get d167_5 f167_67 (by decide) rfl rfl ?_
    refine an_top (e' := nI (P)) (hp) ?_
    refine an_imul d167_8 ?_
    refine an_icmp_ge 94 d167_9 (by decide) (by omega) (by omega) (fun c9 => ?_) (fun c9 => by omega)
    refine an_iconst 0 d167_94 rfl ?_
    refine as_istore_n d167_95 (by decide) ?_
    refine an_iconst 0 d167_96 rfl ?_
    refine as_istore_n d167_97 (by decide) ?_
    refine AW.loc [(0, .ref (189)), (1, .int (nI (0))), (2, .int (nI (0)))] (am_pick [2, 1, 0] rfl rfl) ?_
    refine aw_for (fun i => ((98, [(0, .ref (189)), (1, .int (setS S (i))), (2, .int (nI (i)))], [], 208, HP (S), 0, 0) : am_Z)) (7 * P) (rfl) (fun i hi ih => ?_) ?_
    · refine as_iload_n d167_98 rfl ?_
      refine an_bipush 7 d167_99 rfl ?_
      refine as_aload_n d167_101 rfl ?_
      refine ap_get d167_102 f167_67 (by decide) rfl rfl ?_
      refine an_top (e' := nI (P)) (hp) ?_
      refine an_imul d167_105 ?_
      refine an_icmp_ge 134 d167_106 (by decide) (by omega) (by omega) (fun c106 => by omega) (fun c106 => ?_)
      refine as_iload_n d167_109 rfl ?_
      refine as_aload_n d167_110 rfl ?_
      refine ap_get d167_111 f167_16 (by decide) rfl rfl ?_
      refine as_iload_n d167_114 rfl ?_
      refine ap_iald d167_115 (fun _ _ _ _ => rfl) (by decide) (by omega) (by decide) ?_
      refine an_top (e' := S.2.1 192 i) (rfl) ?_
      refine as_if_eq 125 d167_116 (by decide) (fun c116 => ?_) (fun c116 => ?_)
      · refine an_iconst 0 d167_125 rfl ?_
        refine as_ior d167_126 ?_
        refine as_istore_n d167_127 (by decide) ?_
        refine an_iinc 1 d167_128 rfl rfl (by decide) ?_
        refine as_goto 98 d167_131 (by decide) ?_
        refine AW.loc [(0, .ref (189)), (1, .int ((setS S (i)) ||| nI (0))), (2, .int (nI (i + 1)))] (am_pick [2, 1, 0] rfl rfl) ?_
        have e1 : setS S (i + 1) = (setS S (i)) ||| nI (0) := by rw [setS_s]; first | rw [if_pos c116] | rw [if_neg c116]
        rw [e1] at ih
        exact ih
      · refine an_iconst 1 d167_119 rfl ?_
        refine as_iload_n d167_120 rfl ?_
        refine as_ishl d167_121 ?_
        refine as_goto 126 d167_122 (by decide) ?_
        refine as_ior d167_126 ?_
        refine as_istore_n d167_127 (by decide) ?_
        refine an_iinc 1 d167_128 rfl rfl (by decide) ?_
        refine as_goto 98 d167_131 (by decide) ?_
        refine AW.loc [(0, .ref (189)), (1, .int ((setS S (i)) ||| (nI (1) <<< (nI (i) &&& 31)))), (2, .int (nI (i + 1)))] (am_pick [2, 1, 0] rfl rfl) ?_
        have e1 : setS S (i + 1) = (setS S (i)) ||| (nI (1) <<< (nI (i) &&& 31)) := by rw [setS_s]; first | rw [if_pos c116] | rw [if_neg c116]
        rw [e1] at ih
        exact ih
    · refine as_iload_n d167_98 rfl ?_
      refine an_bipush 7 d167_99 rfl ?_
      refine as_aload_n d167_101 rfl ?_
      refine ap_get d167_102 f167_67 (by decide) rfl rfl ?_
      refine an_top (e' := nI (P)) (hp) ?_
      refine an_imul d167_105 ?_
      refine an_icmp_ge 134 d167_106 (by decide) (by omega) (by omega) (fun c106 => ?_) (fun c106 => by omega)
      refine as_aload_n d167_134 rfl ?_
      refine as_iload_n d167_135 rfl ?_
      refine ac_v1 d167_136 c167_208 (by decide) rfl (Nat.le_of_ble_eq_true rfl) (mc_hasOneKind X _ P _ hP hp) ?_
      refine an_if_eq 146 d167_139 (by decide) (by omega) (fun c139 => ?_) (fun c139 => ?_)
      · refine an_iconst 2 d167_146 rfl ?_
        refine as_ireturn d167_147 (by rw [t167]; rfl) ?_
        refine am_req (congrArg nI ?_)
        unfold legA at ha
        first | (have hF : Fits P mt go (sv S) := hX; rcases ha with h | h | h <;> first | (exact absurd hF h.1) | omega) | (rcases ha with h | h | h <;> first | (exact absurd h.1 hnf) | omega)
      · refine an_iconst 0 d167_142 rfl ?_
        refine as_goto 147 d167_143 (by decide) ?_
        refine as_ireturn d167_147 (by rw [t167]; rfl) ?_
        refine am_req (congrArg nI ?_)
        unfold legA at ha
        first | (have hF : Fits P mt go (sv S) := hX; rcases ha with h | h | h <;> first | (exact absurd hF h.1) | omega) | (rcases ha with h | h | h <;> first | (exact absurd h.1 hnf) | omega)
