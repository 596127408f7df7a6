/-! the reference: findParts -/
def fKeep (S T : MS) : Prop := (∀ k, ¬ (195 ≤ k ∧ k ≤ 197) → ¬ (203 ≤ k ∧ k ≤ 207) → T.2.1 k = S.2.1 k) ∧ T.2.2 = S.2.2 ∧ (∀ i j, ¬ (i = 189 ∧ (j = 9 ∨ j = 19 ∨ j = 24)) → T.1 i j = S.1 i j)
def cKeep (S T : MS) : Prop := (∀ k, k ≠ 203 → T.2.1 k = S.2.1 k) ∧ T.2.2 = S.2.2 ∧ (∀ i j, ¬ (i = 189 ∧ j = 19) → T.1 i j = S.1 i j)
theorem cKeep.sa {S T : MS} (h : cKeep S T) (i : Nat) (x : Int32) : cKeep S (T.sa 203 i x) := by
  refine ⟨fun k a => ?_, h.2.1, h.2.2⟩
  rw [sa_row _ _ _ _ a]
  exact h.1 k a
theorem cKeep.sf {S T : MS} (h : cKeep S T) (x : Int32) : cKeep S (T.sf 189 19 x) := by
  refine ⟨h.1, h.2.1, fun i k a => ?_⟩
  rw [sf_at, if_neg a]
  exact h.2.2 i k a
theorem cKeep.rf (S : MS) : cKeep S S := ⟨fun _ _ => rfl, rfl, fun _ _ _ => rfl⟩
theorem fKeep.of {S T0 T1 T : MS} (h1 : rKeep S T0) (h2 : cKeep T0 T1) (h3 : qKeep T1 T) : fKeep S T := by
  refine ⟨fun k a b => ?_, h3.2.1.trans (h2.2.1.trans h1.2.1), fun i j a => ?_⟩
  · rw [h3.1 k (by omega) (by omega) (by omega) (by omega), h2.1 k (by omega), h1.1 k (by omega) (by omega) (by omega)]
  · rw [h3.2.2 i j (by omega), h2.2.2 i j (by omega), h1.2.2 i j (by omega)]
theorem LabS.keep {S T : MS} {P : Nat} {mt : Nat → Option Nat} {go : Nat → Nat} (h : LabS S P mt go) (h5 : T.2.1 195 = S.2.1 195) (h6 : T.2.1 196 = S.2.1 196) (h7 : T.2.1 197 = S.2.1 197) : LabS T P mt go := by
  unfold LabS
  rw [h5, h6, h7]
  exact h
theorem LabS.cq {T0 T1 T : MS} {P : Nat} {mt : Nat → Option Nat} {go : Nat → Nat} (h : LabS T0 P mt go) (h2 : cKeep T0 T1) (h3 : qKeep T1 T) : LabS T P mt go := by
  refine h.keep ?_ ?_ ?_
  · rw [h3.1 195 (by decide) (by decide) (by decide) (by decide), h2.1 195 (by decide)]
  · rw [h3.1 196 (by decide) (by decide) (by decide) (by decide), h2.1 196 (by decide)]
  · rw [h3.1 197 (by decide) (by decide) (by decide) (by decide), h2.1 197 (by decide)]
theorem RG.ckeep {S T : MS} {P : Nat} {mt : Nat → Option Nat} {go : Nat → Nat} (h : RG S P mt go) (k : cKeep S T) : RG T P mt go := by
  refine ⟨(k.2.2 189 0 (by omega)).trans h.1, fun s hs => ?_, fun s t c hs ht hc => ?_⟩
  · rw [k.1 190 (by decide)]
    exact h.2.1 s hs
  · rw [k.1 191 (by decide)]
    exact h.2.2 s t c hs ht hc
theorem SHN.eq {S T : MS} (h : SHN S) (e : T.2.1 192 = S.2.1 192) : SHN T ∧ sv T = sv S := by
  have e2 : sv T = sv S := by
    funext i
    unfold sv
    rw [e]
  refine ⟨fun i hi => ?_, e2⟩
  rw [e2, e]
  exact h i hi
/-- the parts are found -/
def PH (L : Nat → Nat → Bool → Prop) (N : Nat) (T : MS) : Prop := (∀ y, y < N → ∀ m, fs L m = true → cR (sR2 L) m y → T.2.1 204 y = nI (cnt (fs L) m)) ∧ (∀ m, m < N → fs L m = true → (T.2.1 207 (cnt (fs L) m) = 1 ∧ Tws L m) ∨ (T.2.1 207 (cnt (fs L) m) = 0 ∧ ¬ Tws L m))
theorem MI.zero {L : Nat → Nat → Bool → Prop} {N : Nat} {T : MS} : MI L N 0 T (sRow T 204 0 (fun _ => -1) N) := by
  refine ⟨⟨fun k a b c d => sRow_row _ _ _ _ _ a, rfl, fun _ _ _ => rfl⟩, fun y hy => ⟨fun g => ?_, fun ⟨m, g, _⟩ => by omega⟩, fun y hy m hm => by omega, fun m hm => by omega⟩
  have := sRow_eq (S := T) (A := 204) (off := 0) (f := fun _ => (-1 : Int32)) hy
  rw [Nat.zero_add] at this
  exact absurd this g
theorem MI.last {L : Nat → Nat → Bool → Prop} {N : Nat} {V T : MS} (h : MI L N N V T) : PH L N T := by
  refine ⟨fun y hy m h1 h2 => ?_, h.2.2.2⟩
  by_cases hm : m < N
  · exact h.2.2.1 y hy m hm h1 h2
  · exact absurd h2.symm (fstB_iff.mp h1 y (by omega))
set_option maxHeartbeats 4000000 in
theorem mx_findParts (X : am_X) (S : MS) (P : Nat) (mt : Nat → Option Nat) (go : Nat → Nat) (hG : GW P mt go) (hR : RG S P mt go) (hS : SHN S) (hF : Fits P mt go (sv S)) : ∃ v T, MC X 174 [.ref (189)] S v T ∧ ∃ a, v = some (.int (nI a)) ∧ fKeep S T ∧ LabS T P mt go ∧ T.1 189 19 = nI (fsum (sv S) (7 * P)) ∧ CF T P (sv S) ∧ ((fsum (sv S) (7 * P)) ≤ 400 → a = cnt (fs (Lk P mt go (sv S))) (fsum (sv S) (7 * P)) ∧ PH (Lk P mt go (sv S)) (fsum (sv S) (7 * P)) T) ∧ (400 < (fsum (sv S) (7 * P)) → a = 0) := by
  have hP := hG.1
  have hNb : (fsum (sv S) (7 * P)) ≤ 1000 * (7 * P) := fsum_le (7 * P) (fun i hi => (hS i (by omega)).2)
  have hNi : ∀ i, i ≤ 7 * P → fsum (sv S) i ≤ (fsum (sv S) (7 * P)) := fun i hi => fsum_mono _ hi
  obtain ⟨T0, hM, hK, hLS⟩ := mc_label X S P mt go hG hR
  have hR0 := hR.keep hK
  have h192 : T0.2.1 192 = S.2.1 192 := hK.1 192 (by decide) (by decide) (by decide)
  have hp := hR0.1
  have hLt : ∀ x y b, Lk P mt go (sv S) x y b → x < (fsum (sv S) (7 * P)) ∧ y < (fsum (sv S) (7 * P)) := fun x y b h => ⟨h.lt, (Lk.symm hG hF h).lt⟩
  have hLs : ∀ x y b, Lk P mt go (sv S) x y b → Lk P mt go (sv S) y x b := fun x y b h => Lk.symm hG hF h
  refine MX.mc (X := X) (mj := 174) (as := [.ref (189)]) (S := S) (Post := fun v T => ∃ a, v = some (.int (nI a)) ∧ fKeep S T ∧ LabS T P mt go ∧ T.1 189 19 = nI (fsum (sv S) (7 * P)) ∧ CF T P (sv S) ∧ ((fsum (sv S) (7 * P)) ≤ 400 → a = cnt (fs (Lk P mt go (sv S))) (fsum (sv S) (7 * P)) ∧ PH (Lk P mt go (sv S)) (fsum (sv S) (7 * P)) T) ∧ (400 < (fsum (sv S) (7 * P)) → a = 0)) ?_
  refine MX.of (Nat.le_of_ble_eq_true rfl) ?_
  refine as_aload_n d174_0 rfl ?_
  refine ac_v0 d174_1 c174_118 (by decide) rfl (Nat.le_of_ble_eq_true rfl) (hM) ?_
  refine as_aload_n d174_4 rfl ?_
  refine an_iconst 0 d174_5 rfl ?_
  refine ap_put d174_6 f174_251 (by decide) rfl (Nat.le_of_ble_eq_true rfl) (rfl) rfl rfl ?_
  refine an_iconst 0 d174_9 rfl ?_
  refine as_istore_n d174_10 (by decide) ?_
  refine AW.loc [(0, .ref (189)), (1, .int (nI (0)))] (am_pick [1, 0] rfl rfl) ?_
  refine aw_fromE (fun i T => ((11, [(0, .ref (189)), (1, .int (nI (i)))], [], 208, HP (T), 0, 0) : am_Z)) (fun i T => cKeep T0 T ∧ T.1 189 19 = nI (fsum (sv S) (i)) ∧ ∀ j, j < i → T.2.1 203 j = nI (fsum (sv S) j)) (0) (7 * P) (by omega) ((T0).sf 189 19 (nI (0))) (rfl) (⟨(cKeep.rf T0).sf _, by rw [sf_at, if_pos ⟨rfl, rfl⟩]; rfl, fun j hj => by omega⟩) (fun i T hi0 hi hI ih => ?_) (fun T hX => ?_)
  · refine as_iload_n d174_11 rfl ?_
    refine an_bipush 7 d174_12 rfl ?_
    refine as_aload_n d174_14 rfl ?_
    refine ap_get d174_15 f174_67 (by decide) rfl rfl ?_
    refine an_top (e' := nI (P)) ((hI.1.2.2 189 0 (by omega)).trans hp) ?_
    refine an_imul d174_18 ?_
    refine an_icmp_ge 53 d174_19 (by decide) (by omega) (by omega) (fun c19 => by omega) (fun c19 => ?_)
    refine as_aload_n d174_22 rfl ?_
    refine ap_get d174_23 f174_51 (by decide) rfl rfl ?_
    refine as_iload_n d174_26 rfl ?_
    refine as_aload_n d174_27 rfl ?_
    refine ap_get d174_28 f174_251 (by decide) rfl rfl ?_
    refine an_top (e' := nI (fsum (sv S) i)) (hI.2.1) ?_
    refine ap_iast d174_31 (fun _ _ _ _ => rfl) (by decide) (by omega) (by decide) ?_
    refine as_aload_n d174_32 rfl ?_
    refine as_dup d174_33 rfl ?_
    refine ap_get d174_34 f174_251 (by decide) rfl rfl ?_
    refine an_top (e' := nI (fsum (sv S) i)) (hI.2.1) ?_
    refine as_aload_n d174_37 rfl ?_
    refine ap_get d174_38 f174_16 (by decide) rfl rfl ?_
    refine as_iload_n d174_41 rfl ?_
    refine ap_iald d174_42 (fun _ _ _ _ => rfl) (by decide) (by omega) (by decide) ?_
    refine an_top (e' := nI (sv S i)) (by rw [sa_row _ _ _ _ (by decide), hI.1.1 192 (by decide), h192]; exact (hS i (by omega)).1) ?_
    refine an_iadd d174_43 ?_
    refine ap_put d174_44 f174_251 (by decide) rfl (Nat.le_of_ble_eq_true rfl) (rfl) rfl rfl ?_
    refine an_iinc 1 d174_47 rfl rfl (by decide) ?_
    refine as_goto 11 d174_50 (by decide) ?_
    refine AW.loc [(0, .ref (189)), (1, .int (nI (i + 1)))] (am_pick [1, 0] rfl rfl) ?_
    have ih := ih (((T).sa 203 (i) (nI (fsum (sv S) i))).sf 189 19 (nI ((fsum (sv S) i) + (sv S i)))) (⟨(hI.1.sa _ _).sf _, by rw [sf_at, if_pos ⟨rfl, rfl⟩]; rfl, fun j hj => by
      rw [sf_snd, sa_at]
      by_cases e : j = i
      · rw [if_pos e, e]
      · rw [if_neg e]; exact hI.2.2 j (by omega)⟩)
    exact ih
  · refine as_iload_n d174_11 rfl ?_
    refine an_bipush 7 d174_12 rfl ?_
    refine as_aload_n d174_14 rfl ?_
    refine ap_get d174_15 f174_67 (by decide) rfl rfl ?_
    refine an_top (e' := nI (P)) ((hX.1.2.2 189 0 (by omega)).trans hp) ?_
    refine an_imul d174_18 ?_
    refine an_icmp_ge 53 d174_19 (by decide) (by omega) (by omega) (fun c19 => ?_) (fun c19 => by omega)
    refine as_aload_n d174_53 rfl ?_
    refine ap_get d174_54 f174_51 (by decide) rfl rfl ?_
    refine an_bipush 7 d174_57 rfl ?_
    refine as_aload_n d174_59 rfl ?_
    refine ap_get d174_60 f174_67 (by decide) rfl rfl ?_
    refine an_top (e' := nI (P)) ((hX.1.2.2 189 0 (by omega)).trans hp) ?_
    refine an_imul d174_63 ?_
    refine as_aload_n d174_64 rfl ?_
    refine ap_get d174_65 f174_251 (by decide) rfl rfl ?_
    refine an_top (e' := nI ((fsum (sv S) (7 * P)))) (hX.2.1) ?_
    refine ap_iast d174_68 (fun _ _ _ _ => rfl) (by decide) (by omega) (by decide) ?_
    obtain ⟨T1, hT1⟩ : ∃ T1, T1 = T.sa 203 (7 * P) (nI (fsum (sv S) (7 * P))) := ⟨_, rfl⟩
    refine an_mem (congrArg HP hT1.symm) ?_
    have hk1 : cKeep T0 T1 := by rw [hT1]; exact hX.1.sa _ _
    have hR1 := hR0.ckeep hk1
    have hp1 := hR1.1
    have hc1 : T1.1 189 19 = nI (fsum (sv S) (7 * P)) := by rw [hT1]; exact hX.2.1
    obtain ⟨hS1, hsv1⟩ := hS.eq ((hk1.1 192 (by decide)).trans h192)
    have hC1 : CF T1 P (sv S) := by
      intro j hj
      rw [hT1, sa_at]
      by_cases e : j = 7 * P
      · rw [if_pos e, e]
      · rw [if_neg e]
        exact hX.2.2 j (by omega)
    rcases Nat.lt_or_ge 400 (fsum (sv S) (7 * P)) with hN5 | hN4
    · refine an_iconst 0 d174_69 rfl ?_
      refine as_istore_n d174_70 (by decide) ?_
      refine an_iconst 0 d174_71 rfl ?_
      refine as_istore_n d174_72 (by decide) ?_
      refine as_iload_n d174_73 rfl ?_
      refine as_aload_n d174_74 rfl ?_
      refine ap_get d174_75 f174_251 (by decide) rfl rfl ?_
      refine an_top (e' := nI ((fsum (sv S) (7 * P)))) (hc1) ?_
      refine an_icmp_ge 104 d174_78 (by decide) (by omega) (by omega) (fun c78 => by omega) (fun c78 => ?_)
      refine as_aload_n d174_81 rfl ?_
      refine ap_get d174_82 f174_251 (by decide) rfl rfl ?_
      refine an_top (e' := nI ((fsum (sv S) (7 * P)))) (hc1) ?_
      refine an_sipush 400 d174_85 rfl ?_
      refine an_icmp_gt 104 d174_88 (by decide) (by omega) (by omega) (fun c88 => ?_) (fun c88 => by omega)
      refine an_iconst 0 d174_104 rfl ?_
      refine as_istore_n d174_105 (by decide) ?_
      refine as_iload_n d174_106 rfl ?_
      refine as_aload_n d174_107 rfl ?_
      refine ap_get d174_108 f174_251 (by decide) rfl rfl ?_
      refine an_top (e' := nI ((fsum (sv S) (7 * P)))) (hc1) ?_
      refine an_icmp_ge 209 d174_111 (by decide) (by omega) (by omega) (fun c111 => by omega) (fun c111 => ?_)
      refine as_aload_n d174_114 rfl ?_
      refine ap_get d174_115 f174_251 (by decide) rfl rfl ?_
      refine an_top (e' := nI ((fsum (sv S) (7 * P)))) (hc1) ?_
      refine an_sipush 400 d174_118 rfl ?_
      refine an_icmp_gt 209 d174_121 (by decide) (by omega) (by omega) (fun c121 => ?_) (fun c121 => by omega)
      refine as_iload_n d174_209 rfl ?_
      refine as_ireturn d174_210 (by rw [t174]; rfl) ?_
      exact ⟨_, _, rfl, 0, rfl, fKeep.of hK hk1 (qKeep.rf _), hLS.cq hk1 (qKeep.rf _), hc1, hC1, fun h => by omega, fun _ => rfl⟩
    · refine an_iconst 0 d174_69 rfl ?_
      refine as_istore_n d174_70 (by decide) ?_
      refine an_iconst 0 d174_71 rfl ?_
      refine as_istore_n d174_72 (by decide) ?_
      refine AW.loc [(0, .ref (189)), (1, .int (nI (0))), (2, .int (nI (0)))] (am_pick [2, 1, 0] rfl rfl) ?_
      refine aw_for (fun i => ((73, [(0, .ref (189)), (1, .int (nI (0))), (2, .int (nI (i)))], [], 208, HP (sRow T1 204 0 (fun _ => -1) (i)), 0, 0) : am_Z)) ((fsum (sv S) (7 * P))) (by rw [sRow_0]) (fun i hi ih => ?_) ?_
      · refine as_iload_n d174_73 rfl ?_
        refine as_aload_n d174_74 rfl ?_
        refine ap_get d174_75 f174_251 (by decide) rfl rfl ?_
        refine an_top (e' := nI ((fsum (sv S) (7 * P)))) (hc1) ?_
        refine an_icmp_ge 104 d174_78 (by decide) (by omega) (by omega) (fun c78 => by omega) (fun c78 => ?_)
        refine as_aload_n d174_81 rfl ?_
        refine ap_get d174_82 f174_251 (by decide) rfl rfl ?_
        refine an_top (e' := nI ((fsum (sv S) (7 * P)))) (hc1) ?_
        refine an_sipush 400 d174_85 rfl ?_
        refine an_icmp_gt 104 d174_88 (by decide) (by omega) (by omega) (fun c88 => by omega) (fun c88 => ?_)
        refine as_aload_n d174_91 rfl ?_
        refine ap_get d174_92 f174_54 (by decide) rfl rfl ?_
        refine as_iload_n d174_95 rfl ?_
        refine an_iconstI (-1) d174_96 rfl ?_
        refine ap_iast d174_97 (fun _ _ _ _ => rfl) (by decide) (by omega) (by decide) ?_
        refine an_iinc 1 d174_98 rfl rfl (by decide) ?_
        refine as_goto 73 d174_101 (by decide) ?_
        refine AW.loc [(0, .ref (189)), (1, .int (nI (0))), (2, .int (nI (i + 1)))] (am_pick [1, 2, 0] rfl rfl) ?_
        have eS : sRow T1 204 0 (fun _ => -1) (i + 1) = (sRow T1 204 0 (fun _ => -1) (i)).sa 204 (i) ((-1)) := by rw [sRow_s, Nat.zero_add]
        rw [eS] at ih
        exact ih
      · refine as_iload_n d174_73 rfl ?_
        refine as_aload_n d174_74 rfl ?_
        refine ap_get d174_75 f174_251 (by decide) rfl rfl ?_
        refine an_top (e' := nI ((fsum (sv S) (7 * P)))) (hc1) ?_
        refine an_icmp_ge 104 d174_78 (by decide) (by omega) (by omega) (fun c78 => ?_) (fun c78 => by omega)
        refine an_iconst 0 d174_104 rfl ?_
        refine as_istore_n d174_105 (by decide) ?_
        refine AW.loc [(0, .ref (189)), (1, .int (nI (0))), (2, .int (nI (0)))] (am_pick [1, 2, 0] rfl rfl) ?_
        refine aw_fromE (fun k W => ((106, [(0, .ref (189)), (1, .int (nI (cnt (fs (Lk P mt go (sv S))) (k)))), (2, .int (nI (k)))], [], 208, HP (W), 0, 0) : am_Z)) (fun k W => MI (Lk P mt go (sv S)) (fsum (sv S) (7 * P)) (k) T1 W) (0) ((fsum (sv S) (7 * P))) (by omega) (sRow T1 204 0 (fun _ => -1) (((fsum (sv S) (7 * P))))) (rfl) (MI.zero) (fun k W hk0 hk hW ihk => ?_) (fun W hWX => ?_)
        · refine as_iload_n d174_106 rfl ?_
          refine as_aload_n d174_107 rfl ?_
          refine ap_get d174_108 f174_251 (by decide) rfl rfl ?_
          refine an_top (e' := nI ((fsum (sv S) (7 * P)))) ((hW.1.2.2 189 19 (by omega)).trans hc1) ?_
          refine an_icmp_ge 209 d174_111 (by decide) (by omega) (by omega) (fun c111 => by omega) (fun c111 => ?_)
          refine as_aload_n d174_114 rfl ?_
          refine ap_get d174_115 f174_251 (by decide) rfl rfl ?_
          refine an_top (e' := nI ((fsum (sv S) (7 * P)))) ((hW.1.2.2 189 19 (by omega)).trans hc1) ?_
          refine an_sipush 400 d174_118 rfl ?_
          refine an_icmp_gt 209 d174_121 (by decide) (by omega) (by omega) (fun c121 => by omega) (fun c121 => ?_)
          refine as_aload_n d174_124 rfl ?_
          refine ap_get d174_125 f174_54 (by decide) rfl rfl ?_
          refine as_iload_n d174_128 rfl ?_
          refine ap_iald d174_129 (fun _ _ _ _ => rfl) (by decide) (by omega) (by decide) ?_
          refine an_iconstI (-1) d174_130 rfl ?_
          refine as_icmp_ne 203 d174_131 (by decide) (fun c131 => ?_) (fun c131 => ?_)
          · have hnew := hW.old hk c131
            refine an_iinc 1 d174_203 rfl rfl (by decide) ?_
            refine as_goto 106 d174_206 (by decide) ?_
            refine AW.loc [(0, .ref (189)), (1, .int (nI (cnt (fs (Lk P mt go (sv S))) (k)))), (2, .int (nI (k + 1)))] (am_pick [1, 2, 0] rfl rfl) ?_
            have ihk := ihk (W) (hnew.1)
            have e1 : cnt (fs (Lk P mt go (sv S))) (k + 1) = cnt (fs (Lk P mt go (sv S))) (k) := by exact hnew.2
            rw [e1] at ihk
            exact ihk
          · have hbeg := (MI.begin (L := (Lk P mt go (sv S))) (q := cnt (fs (Lk P mt go (sv S))) k) hN4 hk c131).resolve_right (fun g => g (by have := cnt_le (fs (Lk P mt go (sv S))) k; omega))
            refine as_aload_n d174_134 rfl ?_
            refine ap_get d174_135 f174_54 (by decide) rfl rfl ?_
            refine as_iload_n d174_138 rfl ?_
            refine as_iload_n d174_139 rfl ?_
            refine ap_iast d174_140 (fun _ _ _ _ => rfl) (by decide) (by omega) (by decide) ?_
            refine as_aload_n d174_141 rfl ?_
            refine ap_get d174_142 f174_57 (by decide) rfl rfl ?_
            refine as_iload_n d174_145 rfl ?_
            refine an_iconst 1 d174_146 rfl ?_
            refine ap_iast d174_147 (fun _ _ _ _ => rfl) (by decide) (by omega) (by decide) ?_
            refine as_aload_n d174_148 rfl ?_
            refine ap_get d174_149 f174_60 (by decide) rfl rfl ?_
            refine an_iconst 0 d174_152 rfl ?_
            refine as_iload_n d174_153 rfl ?_
            refine ap_iast d174_154 (fun _ _ _ _ => rfl) (by decide) (by omega) (by decide) ?_
            refine as_aload_n d174_155 rfl ?_
            refine an_iconst 0 d174_156 rfl ?_
            refine ap_put d174_157 f174_248 (by decide) rfl (Nat.le_of_ble_eq_true rfl) (rfl) rfl rfl ?_
            refine an_iconst 1 d174_160 rfl ?_
            refine as_istore_n d174_161 (by decide) ?_
            refine an_iconst 0 d174_162 rfl ?_
            refine as_istore d174_163 (by decide) ?_
            refine AW.loc [(0, .ref (189)), (1, .int (nI (cnt (fs (Lk P mt go (sv S))) (k)))), (2, .int (nI (k))), (3, .int (nI (1))), (4, .int (nI (0)))] (am_pick [2, 3, 4, 1, 0] rfl rfl) ?_
            refine aw_inv2 (σ := (Nat) × (Nat) × (MS)) (fun σ => ((165, [(0, .ref (189)), (1, .int (nI (cnt (fs (Lk P mt go (sv S))) k))), (2, .int (nI (k))), (3, .int (nI (σ.2.1))), (4, .int (nI (σ.1)))], [], 208, HP (σ.2.2), 0, 0) : am_Z)) (fun σ => BI (Lk P mt go (sv S)) (fsum (sv S) (7 * P)) k (cnt (fs (Lk P mt go (sv S))) k) W (σ.2.2) (σ.1) (σ.2.1)) (fun σ => (fsum (sv S) (7 * P)) - σ.1) (fun σ hσ ihσ => ?_) (0, 1, _) (rfl) (hbeg)
            obtain ⟨a, m, U⟩ := σ
            dsimp only at hσ ihσ ⊢
            have ham := hσ.2.2.1
            have hmN : m ≤ (fsum (sv S) (7 * P)) := by
              have q1 := hσ.2.2.2.2.2.2.2.2.1
              have q2 := cnt_le (vb U) (fsum (sv S) (7 * P))
              omega
            have hqU : qKeep T1 U := hW.1.trans hσ.1
            refine as_iload d174_165 rfl ?_
            refine as_iload_n d174_167 rfl ?_
            refine an_icmp_ge 190 d174_168 (by decide) (by omega) (by omega) (fun c168 => ?_) (fun c168 => ?_)
            · have haq : a = m := by have := hσ.2.2.1; omega
              subst haq
              have hnew := hW.new hN4 hLt hLs hk c131 hσ
              refine as_aload_n d174_190 rfl ?_
              refine ap_get d174_191 f174_63 (by decide) rfl rfl ?_
              refine as_iload_n d174_194 rfl ?_
              refine as_aload_n d174_195 rfl ?_
              refine ap_get d174_196 f174_248 (by decide) rfl rfl ?_
              refine ap_zast d174_199 (fun _ _ _ _ => rfl) (by decide) (by have := cnt_le (fs (Lk P mt go (sv S))) k; omega) (by decide) (by rcases hσ.2.2.2.2.2.2.2.2.2.1 with q | q <;> rw [q] <;> rfl) ?_
              refine an_iinc 1 d174_200 rfl rfl (by decide) ?_
              refine an_iinc 1 d174_203 rfl rfl (by decide) ?_
              refine as_goto 106 d174_206 (by decide) ?_
              refine AW.loc [(0, .ref (189)), (1, .int (nI (cnt (fs (Lk P mt go (sv S))) k + 1))), (2, .int (nI (k + 1)))] (am_pick [2, 1, 0] rfl rfl) ?_
              have ihk := ihk ((U).sa 207 (cnt (fs (Lk P mt go (sv S))) k) ((U).1 189 24)) (hnew.1)
              have e1 : cnt (fs (Lk P mt go (sv S))) (k + 1) = cnt (fs (Lk P mt go (sv S))) k + 1 := by exact hnew.2
              rw [e1] at ihk
              exact ihk
            · obtain ⟨y, hy, w1, w2, w3, w4, w5⟩ := hσ.2.2.2.2.2.1 a (by omega)
              obtain ⟨hSU, hsvU⟩ := hS1.eq (hqU.1 192 (by decide) (by decide) (by decide) (by decide))
              rw [hsv1] at hsvU
              obtain ⟨m', T', g1, g2⟩ := mx_spread X U P mt go y m hG (hR1.qkeep hqU) hSU (by rw [hsvU]; exact hC1.qkeep hqU) (by rw [hsvU]; exact hF) (by rw [hsvU]; exact hN4) (by rw [hsvU]; exact hy) w3 hσ.2.2.2.2.2.2.2.2.2.1 (by rw [hsvU]; have := hσ.2.2.2.2.2.2.2.2.1; omega)
              rw [hsvU] at g2
              have hnx := BI.step hN4 hLt (hW.closed hLt) hσ c168 hy w1 g2
              refine as_aload_n d174_171 rfl ?_
              refine as_aload_n d174_172 rfl ?_
              refine ap_get d174_173 f174_60 (by decide) rfl rfl ?_
              refine as_iload d174_176 rfl ?_
              refine ap_iald d174_178 (fun _ _ _ _ => rfl) (by decide) (by omega) (by decide) ?_
              refine an_top (e' := nI (y)) (w1) ?_
              refine as_iload_n d174_179 rfl ?_
              refine ac_v2 d174_180 c174_254 (by decide) rfl (Nat.le_of_ble_eq_true rfl) (g1) ?_
              refine as_istore_n d174_183 (by decide) ?_
              refine an_iinc 1 d174_184 rfl rfl (by decide) ?_
              refine as_goto 165 d174_187 (by decide) ?_
              refine AW.loc [(0, .ref (189)), (1, .int (nI (cnt (fs (Lk P mt go (sv S))) k))), (2, .int (nI (k))), (3, .int (nI (m'))), (4, .int (nI (a + 1)))] (am_pick [2, 3, 4, 1, 0] rfl rfl) ?_
              exact ihσ (a + 1, m', T') hnx (by show (fsum (sv S) (7 * P)) - (a + 1) < (fsum (sv S) (7 * P)) - a; omega)
        · refine as_iload_n d174_106 rfl ?_
          refine as_aload_n d174_107 rfl ?_
          refine ap_get d174_108 f174_251 (by decide) rfl rfl ?_
          refine an_top (e' := nI ((fsum (sv S) (7 * P)))) ((hWX.1.2.2 189 19 (by omega)).trans hc1) ?_
          refine an_icmp_ge 209 d174_111 (by decide) (by omega) (by omega) (fun c111 => ?_) (fun c111 => by omega)
          refine as_iload_n d174_209 rfl ?_
          refine as_ireturn d174_210 (by rw [t174]; rfl) ?_
          exact ⟨_, _, rfl, _, rfl, fKeep.of hK hk1 hWX.1, hLS.cq hk1 hWX.1, (hWX.1.2.2 189 19 (by omega)).trans hc1, hC1.qkeep hWX.1, fun _ => ⟨rfl, hWX.last⟩, fun h => by omega⟩
