/-! the reference: euler, sortOf, cutAt, cutsOf, worth -/
def fsum (f : Nat → Nat) : Nat → Nat
  | 0 => 0
  | n + 1 => fsum f n + f n
theorem fsum_s (f : Nat → Nat) (n : Nat) : fsum f (n + 1) = fsum f n + f n := rfl
theorem fsum_congr {f g : Nat → Nat} : ∀ n, (∀ i, i < n → f i = g i) → fsum f n = fsum g n
  | 0, _ => rfl
  | n + 1, h => by rw [fsum_s, fsum_s, fsum_congr n (fun i hi => h i (by omega)), h n (by omega)]
theorem fsum_mono (f : Nat → Nat) {m n : Nat} (h : m ≤ n) : fsum f m ≤ fsum f n := by
  induction n with
  | zero => rw [show m = 0 by omega]; exact Nat.le_refl _
  | succ n ih =>
    by_cases e : m = n + 1
    · subst e; exact Nat.le_refl _
    · have := ih (by omega)
      rw [fsum_s]
      omega
theorem fsum_le {f : Nat → Nat} {b : Nat} : ∀ n, (∀ i, i < n → f i ≤ b) → fsum f n ≤ b * n
  | 0, _ => Nat.zero_le _
  | n + 1, h => by
    have h1 := fsum_le n (fun i hi => h i (by omega))
    have h2 := h n (by omega)
    rw [fsum_s, Nat.mul_succ]
    omega
theorem fs_eq {f : Nat → Nat} {n x : Nat} (h : f n = x) : fsum f (n + 1) = fsum f n + x := by rw [fsum_s, h]
theorem fs_a {f : Nat → Nat} {n x A : Nat} (h : f n = x) : A + fsum f (n + 1) = A + fsum f n + x := by rw [fsum_s, h, Nat.add_assoc]
def ptI (sh : Nat → Nat) (k so : Nat) : Nat := if mtS so (k % 6) then sh (7 * (k / 6) + so) else 0
def ptO (T : MS) (k : Nat) : Nat := if eL T k = k then fsum (ptI (sv T) k) 7 else 0
def arI (mt : Nat → Option Nat) (sh : Nat → Nat) (s c : Nat) : Nat := if c ≠ s % 4 ∧ sdP mt 0 s = true then arcP sh (s / 4) (s % 4) c else 0
def arO (mt : Nat → Option Nat) (sh : Nat → Nat) (s : Nat) : Nat := fsum (arI mt sh s) 4
def eulA (T : MS) (P : Nat) (mt : Nat → Option Nat) : Int32 := nI (fsum (ptO T) (6 * P)) - nI (fsum (arO mt (sv T)) (4 * P)) + nI (fsum (sv T) (7 * P))
theorem ptI_t {sh : Nat → Nat} {k so : Nat} (h : mtS so (k % 6) = true) : ptI sh k so = sh (7 * (k / 6) + so) := if_pos h
theorem ptI_f {sh : Nat → Nat} {k so : Nat} (h : ¬ mtS so (k % 6) = true) : ptI sh k so = 0 := if_neg h
theorem ptO_t {T : MS} {k : Nat} (h : eL T k = k) : ptO T k = fsum (ptI (sv T) k) 7 := if_pos h
theorem ptO_f {T : MS} {k : Nat} (h : ¬ eL T k = k) : ptO T k = 0 := if_neg h
theorem arI_0 {mt : Nat → Option Nat} {sh : Nat → Nat} {s c : Nat} (h : c = s % 4) : arI mt sh s c = 0 := if_neg (fun g => g.1 h)
theorem arI_n {mt : Nat → Option Nat} {sh : Nat → Nat} {s c : Nat} (h : c ≠ s % 4) (e : mt s = none) : arI mt sh s c = arcP sh (s / 4) (s % 4) c := if_pos ⟨h, sdP_none e⟩
theorem arI_l {mt : Nat → Option Nat} {sh : Nat → Nat} {s c t : Nat} (h : c ≠ s % 4) (e : mt s = some t) (hl : s < t) : arI mt sh s c = arcP sh (s / 4) (s % 4) c := if_pos ⟨h, by rw [sdP_some e]; exact decide_eq_true hl⟩
theorem arI_g {mt : Nat → Option Nat} {sh : Nat → Nat} {s c t : Nat} (e : mt s = some t) (hl : t ≤ s) : arI mt sh s c = 0 := if_neg (fun h => by rw [sdP_some e] at h; have := of_decide_eq_true h.2; omega)
theorem nI_subS (x : Int32) (a b : Nat) : x - nI (a + b) = x - nI a - nI b := by rw [← nI_add, Int32.sub_sub]
theorem fs_s {f : Nat → Nat} {n x A : Nat} {X : Int32} (h : f n = x) : X - nI (A + fsum f (n + 1)) = X - nI (A + fsum f n) - nI x := by rw [fs_a h, nI_subS]
theorem nI_addS (x : Int32) (a b : Nat) : x + nI (a + b) = x + nI a + nI b := by rw [← nI_add, Int32.add_assoc]
theorem SHN.keep {S T : MS} (h : SHN S) (k : rKeep S T) : SHN T := by
  have e : T.2.1 192 = S.2.1 192 := k.1 192 (by decide) (by decide) (by decide)
  intro i hi
  unfold sv
  rw [e]
  exact h i hi
theorem sv_keep {S T : MS} (k : rKeep S T) : sv T = sv S := by
  have e : T.2.1 192 = S.2.1 192 := k.1 192 (by decide) (by decide) (by decide)
  funext i
  unfold sv
  rw [e]
theorem mc_euler0 (X : am_X) (S : MS) (P : Nat) (mt : Nat → Option Nat) (go : Nat → Nat) (hG : GW P mt go) (hR : RG S P mt go) (hS : SHN S) (ha : legA S P mt go 0) : ∃ T, MC X 169 [.ref (189)] S (some (.int (eulA T P mt))) T ∧ rKeep S T ∧ LabS T P mt go := by
  obtain ⟨T, hM, hK, hLS⟩ := mc_label X S P mt go hG hR
  have hL := hLS.n
  have hRT := hR.keep hK
  have hST := hS.keep hK
  have hp := hRT.1
  have hP := hG.1
  refine ⟨T, ?_, hK, hLS⟩
  have h20 : ((92, [(0, .ref (189)), (1, .int (nI (fsum (ptO T) (6 * P)))), (2, .int (nI (0)))], [], 208, HP (T), 0, 0) : am_Z) = (92, [(0, .ref (189)), (1, .int (nI (fsum (ptO T) (6 * P)) - nI (fsum (arO mt (sv T)) (0)))), (2, .int (nI (0)))], [], 208, HP (T), 0, 0) := by
    rw [show fsum (arO mt (sv T)) 0 = 0 from rfl, nI_0, Int32.sub_zero]
  have h30 : ((168, [(0, .ref (189)), (1, .int (nI (fsum (ptO T) (6 * P)) - nI (fsum (arO mt (sv T)) (4 * P)))), (2, .int (nI (0)))], [], 208, HP (T), 0, 0) : am_Z) = (168, [(0, .ref (189)), (1, .int (nI (fsum (ptO T) (6 * P)) - nI (fsum (arO mt (sv T)) (4 * P)) + nI (fsum (sv T) (0)))), (2, .int (nI (0)))], [], 208, HP (T), 0, 0) := by
    rw [show fsum (sv T) 0 = 0 from rfl, nI_0, Int32.add_zero]
  refine MC.of (Nat.le_of_ble_eq_true rfl) ?_
  refine as_aload_n d169_0 rfl ?_
  refine ac_v0 d169_1 c169_233 (by decide) rfl (Nat.le_of_ble_eq_true rfl) (mc_legal X _ P mt go 0 hG hR hS ha) ?_
  refine an_if_eq 10 d169_4 (by decide) (by omega) (fun c4 => ?_) (fun c4 => absurd rfl c4)
  refine as_aload_n d169_10 rfl ?_
  refine ac_v0 d169_11 c169_118 (by decide) rfl (Nat.le_of_ble_eq_true rfl) (hM) ?_
  refine an_iconst 0 d169_14 rfl ?_
  refine as_istore_n d169_15 (by decide) ?_
  refine an_iconst 0 d169_16 rfl ?_
  refine as_istore_n d169_17 (by decide) ?_
  refine AW.loc [(0, .ref (189)), (1, .int (nI (0))), (2, .int (nI (0)))] (am_pick [2, 1, 0] rfl rfl) ?_
  refine aw_for (fun i => ((18, [(0, .ref (189)), (1, .int (nI (fsum (ptO T) (i)))), (2, .int (nI (i)))], [], 208, HP (T), 0, 0) : am_Z)) (6 * P) (rfl) (fun i hi ih => ?_) ?_
  · refine as_iload_n d169_18 rfl ?_
    refine an_bipush 6 d169_19 rfl ?_
    refine as_aload_n d169_21 rfl ?_
    refine ap_get d169_22 f169_67 (by decide) rfl rfl ?_
    refine an_top (e' := nI (P)) (hp) ?_
    refine an_imul d169_25 ?_
    refine an_icmp_ge 90 d169_26 (by decide) (by omega) (by omega) (fun c26 => by omega) (fun c26 => ?_)
    by_cases hf : eL T i = i
    · skip
      refine an_iconst 0 d169_29 rfl ?_
      refine as_istore_n d169_30 (by decide) ?_
      refine AW.loc [(0, .ref (189)), (1, .int (nI (fsum (ptO T) (i)))), (2, .int (nI (i))), (3, .int (nI (0)))] (am_pick [1, 2, 3, 0] rfl rfl) ?_
      refine aw_for (fun q => ((31, [(0, .ref (189)), (1, .int (nI (fsum (ptO T) i + fsum (ptI (sv T) i) (q)))), (2, .int (nI (i))), (3, .int (nI (q)))], [], 208, HP (T), 0, 0) : am_Z)) (7) (rfl) (fun q hq ihq => ?_) ?_
      · refine as_iload_n d169_31 rfl ?_
        refine an_bipush 7 d169_32 rfl ?_
        refine an_icmp_ge 84 d169_34 (by decide) (by omega) (by omega) (fun c34 => by omega) (fun c34 => ?_)
        refine as_aload_n d169_37 rfl ?_
        refine as_iload_n d169_38 rfl ?_
        refine ac_v1 d169_39 c169_105 (by decide) rfl (Nat.le_of_ble_eq_true rfl) (mc_isFirstEdge X _ _ (by omega) hL) ?_
        refine as_if_eq 84 d169_42 (by decide) (fun c42 => absurd hf (am_b01.mp c42)) (fun c42 => ?_)
        refine as_iload_n d169_45 rfl ?_
        refine as_aload_n d169_46 rfl ?_
        refine as_iload_n d169_47 rfl ?_
        refine as_iload_n d169_48 rfl ?_
        refine an_bipush 6 d169_49 rfl ?_
        refine an_irem d169_51 (by omega) (by omega) (by omega) ?_
        refine ac_v2 d169_52 c169_236 (by decide) rfl (Nat.le_of_ble_eq_true rfl) (mc_meets X _ _ _ (by omega) (by omega)) ?_
        refine as_if_eq 75 d169_55 (by decide) (fun c55 => ?_) (fun c55 => ?_)
        · refine an_iconst 0 d169_75 rfl ?_
          refine an_iadd d169_76 ?_
          refine as_istore_n d169_77 (by decide) ?_
          refine an_iinc 1 d169_78 rfl rfl (by decide) ?_
          refine as_goto 31 d169_81 (by decide) ?_
          refine AW.loc [(0, .ref (189)), (1, .int (nI ((fsum (ptO T) i + fsum (ptI (sv T) i) (q)) + (0)))), (2, .int (nI (i))), (3, .int (nI (q + 1)))] (am_pick [2, 1, 3, 0] rfl rfl) ?_
          have e1 : fsum (ptO T) i + fsum (ptI (sv T) i) (q + 1) = (fsum (ptO T) i + fsum (ptI (sv T) i) (q)) + (0) := by first | exact fs_a (ptI_t (am_b1 c55)) | exact fs_a (ptI_f (am_b01.mp c55))
          rw [e1] at ihq
          exact ihq
        · refine as_aload_n d169_58 rfl ?_
          refine ap_get d169_59 f169_16 (by decide) rfl rfl ?_
          refine an_bipush 7 d169_62 rfl ?_
          refine as_iload_n d169_64 rfl ?_
          refine an_bipush 6 d169_65 rfl ?_
          refine an_idiv d169_67 (by omega) (by omega) (by omega) ?_
          refine an_imul d169_68 ?_
          refine as_iload_n d169_69 rfl ?_
          refine an_iadd d169_70 ?_
          refine ap_iald d169_71 (fun _ _ _ _ => rfl) (by decide) (by omega) (by decide) ?_
          refine an_top (e' := nI (sv T (((7) * ((i) / (6))) + (q)))) ((hST _ (by omega)).1) ?_
          refine as_goto 76 d169_72 (by decide) ?_
          refine an_iadd d169_76 ?_
          refine as_istore_n d169_77 (by decide) ?_
          refine an_iinc 1 d169_78 rfl rfl (by decide) ?_
          refine as_goto 31 d169_81 (by decide) ?_
          refine AW.loc [(0, .ref (189)), (1, .int (nI ((fsum (ptO T) i + fsum (ptI (sv T) i) (q)) + (sv T (((7) * ((i) / (6))) + (q)))))), (2, .int (nI (i))), (3, .int (nI (q + 1)))] (am_pick [2, 1, 3, 0] rfl rfl) ?_
          have e1 : fsum (ptO T) i + fsum (ptI (sv T) i) (q + 1) = (fsum (ptO T) i + fsum (ptI (sv T) i) (q)) + (sv T (((7) * ((i) / (6))) + (q))) := by first | exact fs_a (ptI_t (am_b1 c55)) | exact fs_a (ptI_f (am_b01.mp c55))
          rw [e1] at ihq
          exact ihq
      · refine as_iload_n d169_31 rfl ?_
        refine an_bipush 7 d169_32 rfl ?_
        refine an_icmp_ge 84 d169_34 (by decide) (by omega) (by omega) (fun c34 => ?_) (fun c34 => by omega)
        refine an_iinc 1 d169_84 rfl rfl (by decide) ?_
        refine as_goto 18 d169_87 (by decide) ?_
        refine AW.loc [(0, .ref (189)), (1, .int (nI (fsum (ptO T) i + fsum (ptI (sv T) i) ((7))))), (2, .int (nI (i + 1)))] (am_pick [1, 2, 0] rfl rfl) ?_
        have e1 : fsum (ptO T) (i + 1) = fsum (ptO T) i + fsum (ptI (sv T) i) ((7)) := by first | exact fs_eq (ptO_t hf) | exact fs_eq (ptO_f hf)
        rw [e1] at ih
        exact ih
    · skip
      refine an_iconst 0 d169_29 rfl ?_
      refine as_istore_n d169_30 (by decide) ?_
      refine as_iload_n d169_31 rfl ?_
      refine an_bipush 7 d169_32 rfl ?_
      refine an_icmp_ge 84 d169_34 (by decide) (by omega) (by omega) (fun c34 => ?_) (fun c34 => ?_)
      · refine an_iinc 1 d169_84 rfl rfl (by decide) ?_
        refine as_goto 18 d169_87 (by decide) ?_
        refine AW.loc [(0, .ref (189)), (1, .int (nI (fsum (ptO T) (i)))), (2, .int (nI (i + 1)))] (am_pick [2, 3, 0] rfl rfl) ?_
        have e1 : fsum (ptO T) (i + 1) = fsum (ptO T) (i) := by first | exact fs_eq (ptO_t hf) | exact fs_eq (ptO_f hf)
        rw [e1] at ih
        exact ih
      · refine as_aload_n d169_37 rfl ?_
        refine as_iload_n d169_38 rfl ?_
        refine ac_v1 d169_39 c169_105 (by decide) rfl (Nat.le_of_ble_eq_true rfl) (mc_isFirstEdge X _ _ (by omega) hL) ?_
        refine as_if_eq 84 d169_42 (by decide) (fun c42 => ?_) (fun c42 => absurd (am_b1 c42) hf)
        refine an_iinc 1 d169_84 rfl rfl (by decide) ?_
        refine as_goto 18 d169_87 (by decide) ?_
        refine AW.loc [(0, .ref (189)), (1, .int (nI (fsum (ptO T) (i)))), (2, .int (nI (i + 1)))] (am_pick [2, 3, 0] rfl rfl) ?_
        have e1 : fsum (ptO T) (i + 1) = fsum (ptO T) (i) := by first | exact fs_eq (ptO_t hf) | exact fs_eq (ptO_f hf)
        rw [e1] at ih
        exact ih
  · refine as_iload_n d169_18 rfl ?_
    refine an_bipush 6 d169_19 rfl ?_
    refine as_aload_n d169_21 rfl ?_
    refine ap_get d169_22 f169_67 (by decide) rfl rfl ?_
    refine an_top (e' := nI (P)) (hp) ?_
    refine an_imul d169_25 ?_
    refine an_icmp_ge 90 d169_26 (by decide) (by omega) (by omega) (fun c26 => ?_) (fun c26 => by omega)
    refine an_iconst 0 d169_90 rfl ?_
    refine as_istore_n d169_91 (by decide) ?_
    refine AW.loc [(0, .ref (189)), (1, .int (nI (fsum (ptO T) ((6 * P))))), (2, .int (nI (0)))] (am_pick [1, 2, 0] rfl rfl) ?_
    refine aw_for (fun s => ((92, [(0, .ref (189)), (1, .int (nI (fsum (ptO T) (6 * P)) - nI (fsum (arO mt (sv T)) (s)))), (2, .int (nI (s)))], [], 208, HP (T), 0, 0) : am_Z)) (4 * P) (h20) (fun s hs ihs => ?_) ?_
    · refine as_iload_n d169_92 rfl ?_
      refine an_iconst 4 d169_93 rfl ?_
      refine as_aload_n d169_94 rfl ?_
      refine ap_get d169_95 f169_67 (by decide) rfl rfl ?_
      refine an_top (e' := nI (P)) (hp) ?_
      refine an_imul d169_98 ?_
      refine an_icmp_ge 166 d169_99 (by decide) (by omega) (by omega) (fun c99 => by omega) (fun c99 => ?_)
      refine an_iconst 0 d169_102 rfl ?_
      refine as_istore_n d169_103 (by decide) ?_
      refine AW.loc [(0, .ref (189)), (1, .int (nI (fsum (ptO T) (6 * P)) - nI (fsum (arO mt (sv T)) (s)))), (2, .int (nI (s))), (3, .int (nI (0)))] (am_pick [1, 2, 3, 0] rfl rfl) ?_
      refine aw_for (fun c => ((104, [(0, .ref (189)), (1, .int (nI (fsum (ptO T) (6 * P)) - nI (fsum (arO mt (sv T)) s + fsum (arI mt (sv T) s) (c)))), (2, .int (nI (s))), (3, .int (nI (c)))], [], 208, HP (T), 0, 0) : am_Z)) (4) (rfl) (fun c hc ihc => ?_) ?_
      · refine as_iload_n d169_104 rfl ?_
        refine an_iconst 4 d169_105 rfl ?_
        refine an_icmp_ge 160 d169_106 (by decide) (by omega) (by omega) (fun c106 => by omega) (fun c106 => ?_)
        refine as_iload_n d169_109 rfl ?_
        refine as_iload_n d169_110 rfl ?_
        refine as_iload_n d169_111 rfl ?_
        refine an_iconst 4 d169_112 rfl ?_
        refine an_irem d169_113 (by omega) (by omega) (by omega) ?_
        refine an_icmp_eq 151 d169_114 (by decide) (by omega) (by omega) (fun c114 => ?_) (fun c114 => ?_)
        · refine an_iconst 0 d169_151 rfl ?_
          refine as_isub d169_152 ?_
          refine as_istore_n d169_153 (by decide) ?_
          refine an_iinc 1 d169_154 rfl rfl (by decide) ?_
          refine as_goto 104 d169_157 (by decide) ?_
          refine AW.loc [(0, .ref (189)), (1, .int ((nI (fsum (ptO T) (6 * P)) - nI (fsum (arO mt (sv T)) s + fsum (arI mt (sv T) s) (c))) - nI (0))), (2, .int (nI (s))), (3, .int (nI (c + 1)))] (am_pick [2, 1, 3, 0] rfl rfl) ?_
          have e1 : nI (fsum (ptO T) (6 * P)) - nI (fsum (arO mt (sv T)) s + fsum (arI mt (sv T) s) (c + 1)) = (nI (fsum (ptO T) (6 * P)) - nI (fsum (arO mt (sv T)) s + fsum (arI mt (sv T) s) (c))) - nI (0) := by first | exact fs_s (arI_0 c114) | exact fs_s (arI_n c114 (mt_none hG hs c124)) | exact fs_s (arI_l c114 e0 c134) | exact fs_s (arI_g e0 c134)
          rw [e1] at ihc
          exact ihc
        · refine as_aload_n d169_117 rfl ?_
          refine ap_get d169_118 f169_7 (by decide) rfl rfl ?_
          refine as_iload_n d169_121 rfl ?_
          refine ap_iald d169_122 (fun _ _ _ _ => rfl) (by decide) (by omega) (by decide) ?_
          refine an_top (e' := mI (mt (s))) (hRT.2.1 _ (by omega)) ?_
          refine an_iconstI (-1) d169_123 rfl ?_
          refine as_icmp_eq 137 d169_124 (by decide) (fun c124 => ?_) (fun c124 => ?_)
          · refine as_aload_n d169_137 rfl ?_
            refine as_iload_n d169_138 rfl ?_
            refine an_iconst 4 d169_139 rfl ?_
            refine an_idiv d169_140 (by omega) (by omega) (by omega) ?_
            refine as_iload_n d169_141 rfl ?_
            refine an_iconst 4 d169_142 rfl ?_
            refine an_irem d169_143 (by omega) (by omega) (by omega) ?_
            refine as_iload_n d169_144 rfl ?_
            refine ac_v3 d169_145 c169_230 (by decide) rfl (Nat.le_of_ble_eq_true rfl) (mc_arcsP X _ _ _ _ (by omega) (by omega) (by omega) c114 hST) ?_
            refine as_goto 152 d169_148 (by decide) ?_
            refine as_isub d169_152 ?_
            refine as_istore_n d169_153 (by decide) ?_
            refine an_iinc 1 d169_154 rfl rfl (by decide) ?_
            refine as_goto 104 d169_157 (by decide) ?_
            refine AW.loc [(0, .ref (189)), (1, .int ((nI (fsum (ptO T) (6 * P)) - nI (fsum (arO mt (sv T)) s + fsum (arI mt (sv T) s) (c))) - nI (arcP (sv T) ((s) / (4)) ((s) % (4)) (c)))), (2, .int (nI (s))), (3, .int (nI (c + 1)))] (am_pick [2, 1, 3, 0] rfl rfl) ?_
            have e1 : nI (fsum (ptO T) (6 * P)) - nI (fsum (arO mt (sv T)) s + fsum (arI mt (sv T) s) (c + 1)) = (nI (fsum (ptO T) (6 * P)) - nI (fsum (arO mt (sv T)) s + fsum (arI mt (sv T) s) (c))) - nI (arcP (sv T) ((s) / (4)) ((s) % (4)) (c)) := by first | exact fs_s (arI_0 c114) | exact fs_s (arI_n c114 (mt_none hG hs c124)) | exact fs_s (arI_l c114 e0 c134) | exact fs_s (arI_g e0 c134)
            rw [e1] at ihc
            exact ihc
          · obtain ⟨t, e0⟩ := mt_some c124
            have htl := mt_lt hG hs e0
            refine as_iload_n d169_127 rfl ?_
            refine as_aload_n d169_128 rfl ?_
            refine ap_get d169_129 f169_7 (by decide) rfl rfl ?_
            refine as_iload_n d169_132 rfl ?_
            refine ap_iald d169_133 (fun _ _ _ _ => rfl) (by decide) (by omega) (by decide) ?_
            refine an_top (e' := nI (t)) (by rw [hRT.2.1 _ (by omega), e0]; rfl) ?_
            refine an_icmp_ge 151 d169_134 (by decide) (by omega) (by omega) (fun c134 => ?_) (fun c134 => ?_)
            · refine an_iconst 0 d169_151 rfl ?_
              refine as_isub d169_152 ?_
              refine as_istore_n d169_153 (by decide) ?_
              refine an_iinc 1 d169_154 rfl rfl (by decide) ?_
              refine as_goto 104 d169_157 (by decide) ?_
              refine AW.loc [(0, .ref (189)), (1, .int ((nI (fsum (ptO T) (6 * P)) - nI (fsum (arO mt (sv T)) s + fsum (arI mt (sv T) s) (c))) - nI (0))), (2, .int (nI (s))), (3, .int (nI (c + 1)))] (am_pick [2, 1, 3, 0] rfl rfl) ?_
              have e1 : nI (fsum (ptO T) (6 * P)) - nI (fsum (arO mt (sv T)) s + fsum (arI mt (sv T) s) (c + 1)) = (nI (fsum (ptO T) (6 * P)) - nI (fsum (arO mt (sv T)) s + fsum (arI mt (sv T) s) (c))) - nI (0) := by first | exact fs_s (arI_0 c114) | exact fs_s (arI_n c114 (mt_none hG hs c124)) | exact fs_s (arI_l c114 e0 c134) | exact fs_s (arI_g e0 c134)
              rw [e1] at ihc
              exact ihc
            · refine as_aload_n d169_137 rfl ?_
              refine as_iload_n d169_138 rfl ?_
              refine an_iconst 4 d169_139 rfl ?_
              refine an_idiv d169_140 (by omega) (by omega) (by omega) ?_
              refine as_iload_n d169_141 rfl ?_
              refine an_iconst 4 d169_142 rfl ?_
              refine an_irem d169_143 (by omega) (by omega) (by omega) ?_
              refine as_iload_n d169_144 rfl ?_
              refine ac_v3 d169_145 c169_230 (by decide) rfl (Nat.le_of_ble_eq_true rfl) (mc_arcsP X _ _ _ _ (by omega) (by omega) (by omega) c114 hST) ?_
              refine as_goto 152 d169_148 (by decide) ?_
              refine as_isub d169_152 ?_
              refine as_istore_n d169_153 (by decide) ?_
              refine an_iinc 1 d169_154 rfl rfl (by decide) ?_
              refine as_goto 104 d169_157 (by decide) ?_
              refine AW.loc [(0, .ref (189)), (1, .int ((nI (fsum (ptO T) (6 * P)) - nI (fsum (arO mt (sv T)) s + fsum (arI mt (sv T) s) (c))) - nI (arcP (sv T) ((s) / (4)) ((s) % (4)) (c)))), (2, .int (nI (s))), (3, .int (nI (c + 1)))] (am_pick [2, 1, 3, 0] rfl rfl) ?_
              have e1 : nI (fsum (ptO T) (6 * P)) - nI (fsum (arO mt (sv T)) s + fsum (arI mt (sv T) s) (c + 1)) = (nI (fsum (ptO T) (6 * P)) - nI (fsum (arO mt (sv T)) s + fsum (arI mt (sv T) s) (c))) - nI (arcP (sv T) ((s) / (4)) ((s) % (4)) (c)) := by first | exact fs_s (arI_0 c114) | exact fs_s (arI_n c114 (mt_none hG hs c124)) | exact fs_s (arI_l c114 e0 c134) | exact fs_s (arI_g e0 c134)
              rw [e1] at ihc
              exact ihc
      · refine as_iload_n d169_104 rfl ?_
        refine an_iconst 4 d169_105 rfl ?_
        refine an_icmp_ge 160 d169_106 (by decide) (by omega) (by omega) (fun c106 => ?_) (fun c106 => by omega)
        refine an_iinc 1 d169_160 rfl rfl (by decide) ?_
        refine as_goto 92 d169_163 (by decide) ?_
        refine AW.loc [(0, .ref (189)), (1, .int (nI (fsum (ptO T) (6 * P)) - nI (fsum (arO mt (sv T)) s + fsum (arI mt (sv T) s) ((4))))), (2, .int (nI (s + 1)))] (am_pick [1, 2, 0] rfl rfl) ?_
        have e1 : nI (fsum (ptO T) (6 * P)) - nI (fsum (arO mt (sv T)) (s + 1)) = nI (fsum (ptO T) (6 * P)) - nI (fsum (arO mt (sv T)) s + fsum (arI mt (sv T) s) ((4))) := by rw [fsum_s]; rfl
        rw [e1] at ihs
        exact ihs
    · refine as_iload_n d169_92 rfl ?_
      refine an_iconst 4 d169_93 rfl ?_
      refine as_aload_n d169_94 rfl ?_
      refine ap_get d169_95 f169_67 (by decide) rfl rfl ?_
      refine an_top (e' := nI (P)) (hp) ?_
      refine an_imul d169_98 ?_
      refine an_icmp_ge 166 d169_99 (by decide) (by omega) (by omega) (fun c99 => ?_) (fun c99 => by omega)
      refine an_iconst 0 d169_166 rfl ?_
      refine as_istore_n d169_167 (by decide) ?_
      refine AW.loc [(0, .ref (189)), (1, .int (nI (fsum (ptO T) (6 * P)) - nI (fsum (arO mt (sv T)) ((4 * P))))), (2, .int (nI (0)))] (am_pick [1, 2, 0] rfl rfl) ?_
      refine aw_for (fun i => ((168, [(0, .ref (189)), (1, .int (nI (fsum (ptO T) (6 * P)) - nI (fsum (arO mt (sv T)) (4 * P)) + nI (fsum (sv T) (i)))), (2, .int (nI (i)))], [], 208, HP (T), 0, 0) : am_Z)) (7 * P) (h30) (fun i hi ih => ?_) ?_
      · refine as_iload_n d169_168 rfl ?_
        refine an_bipush 7 d169_169 rfl ?_
        refine as_aload_n d169_171 rfl ?_
        refine ap_get d169_172 f169_67 (by decide) rfl rfl ?_
        refine an_top (e' := nI (P)) (hp) ?_
        refine an_imul d169_175 ?_
        refine an_icmp_ge 194 d169_176 (by decide) (by omega) (by omega) (fun c176 => by omega) (fun c176 => ?_)
        refine as_iload_n d169_179 rfl ?_
        refine as_aload_n d169_180 rfl ?_
        refine ap_get d169_181 f169_16 (by decide) rfl rfl ?_
        refine as_iload_n d169_184 rfl ?_
        refine ap_iald d169_185 (fun _ _ _ _ => rfl) (by decide) (by omega) (by decide) ?_
        refine an_top (e' := nI (sv T (i))) ((hST _ (by omega)).1) ?_
        refine as_iadd d169_186 ?_
        refine as_istore_n d169_187 (by decide) ?_
        refine an_iinc 1 d169_188 rfl rfl (by decide) ?_
        refine as_goto 168 d169_191 (by decide) ?_
        refine AW.loc [(0, .ref (189)), (1, .int ((nI (fsum (ptO T) (6 * P)) - nI (fsum (arO mt (sv T)) (4 * P)) + nI (fsum (sv T) (i))) + nI (sv T (i)))), (2, .int (nI (i + 1)))] (am_pick [2, 1, 0] rfl rfl) ?_
        have e1 : nI (fsum (ptO T) (6 * P)) - nI (fsum (arO mt (sv T)) (4 * P)) + nI (fsum (sv T) (i + 1)) = (nI (fsum (ptO T) (6 * P)) - nI (fsum (arO mt (sv T)) (4 * P)) + nI (fsum (sv T) (i))) + nI (sv T (i)) := by exact nI_addS _ _ _
        rw [e1] at ih
        exact ih
      · refine as_iload_n d169_168 rfl ?_
        refine an_bipush 7 d169_169 rfl ?_
        refine as_aload_n d169_171 rfl ?_
        refine ap_get d169_172 f169_67 (by decide) rfl rfl ?_
        refine an_top (e' := nI (P)) (hp) ?_
        refine an_imul d169_175 ?_
        refine an_icmp_ge 194 d169_176 (by decide) (by omega) (by omega) (fun c176 => ?_) (fun c176 => by omega)
        refine as_iload_n d169_194 rfl ?_
        refine as_ireturn d169_195 (by rw [t169]; rfl) ?_
        rfl
theorem mc_eulerN (X : am_X) (S : MS) (P : Nat) (mt : Nat → Option Nat) (go : Nat → Nat) (hG : GW P mt go) (hR : RG S P mt go) (hS : SHN S) (a : Nat) (ha : legA S P mt go a) (h0 : a ≠ 0) (h3 : a < 3) : MC X 169 [.ref (189)] S (some (.int (-2147483648))) S := by
  refine MC.of (Nat.le_of_ble_eq_true rfl) ?_
  refine as_aload_n d169_0 rfl ?_
  refine ac_v0 d169_1 c169_233 (by decide) rfl (Nat.le_of_ble_eq_true rfl) (mc_legal X _ P mt go a hG hR hS ha) ?_
  refine an_if_eq 10 d169_4 (by decide) (by omega) (fun c4 => absurd c4 h0) (fun c4 => ?_)
  refine as_ldc (v := (-2147483648)) d169_7 (by decide +kernel) ?_
  refine as_ireturn d169_9 (by rw [t169]; rfl) ?_
  rfl
/-! cuts -/
def CF (S : MS) (P : Nat) (sh : Nat → Nat) : Prop := ∀ i, i ≤ 7 * P → S.2.1 203 i = nI (fsum sh i)
theorem mc_sortOf (X : am_X) (S : MS) (P x k : Nat) (sh : Nat → Nat) (hP : P ≤ 3) (hC : CF S P sh) (hb : fsum sh (7 * P) < 2 ^ 31) (hk : k < 7 * P) (h1 : fsum sh k ≤ x) (h2 : x < fsum sh (k + 1)) : MC X 172 [.ref (189), .int (nI (x))] S (some (.int (nI k))) S := by
  have hbk := fsum_mono sh (show k + 1 ≤ 7 * P by omega)
  refine MC.of (Nat.le_of_ble_eq_true rfl) ?_
  refine an_iconst 0 d172_0 rfl ?_
  refine as_istore_n d172_1 (by decide) ?_
  refine AW.loc [(0, .ref (189)), (1, .int (nI (x))), (2, .int (nI (0)))] (am_pick [1, 2, 0] rfl rfl) ?_
  refine aw_for (fun i => ((2, [(0, .ref (189)), (1, .int (nI (x))), (2, .int (nI (i)))], [], 208, HP (S), 0, 0) : am_Z)) (k) (rfl) (fun i hi ih => ?_) ?_
  · refine as_aload_n d172_2 rfl ?_
    refine ap_get d172_3 f172_51 (by decide) rfl rfl ?_
    refine as_iload_n d172_6 rfl ?_
    refine an_iconst 1 d172_7 rfl ?_
    refine an_iadd d172_8 ?_
    refine ap_iald d172_9 (fun _ _ _ _ => rfl) (by decide) (by omega) (by decide) ?_
    refine an_top (e' := nI (fsum sh ((i) + (1)))) (hC _ (by omega)) ?_
    have g1 := fsum_mono sh (show i + 1 ≤ k by omega)
    refine as_iload_n d172_10 rfl ?_
    refine an_icmp_gt 20 d172_11 (by decide) (by omega) (by omega) (fun c11 => by omega) (fun c11 => ?_)
    refine an_iinc 1 d172_14 rfl rfl (by decide) ?_
    refine as_goto 2 d172_17 (by decide) ?_
    refine AW.loc [(0, .ref (189)), (1, .int (nI (x))), (2, .int (nI (i + 1)))] (am_pick [1, 2, 0] rfl rfl) ?_
    exact ih
  · refine as_aload_n d172_2 rfl ?_
    refine ap_get d172_3 f172_51 (by decide) rfl rfl ?_
    refine as_iload_n d172_6 rfl ?_
    refine an_iconst 1 d172_7 rfl ?_
    refine an_iadd d172_8 ?_
    refine ap_iald d172_9 (fun _ _ _ _ => rfl) (by decide) (by omega) (by decide) ?_
    refine an_top (e' := nI (fsum sh (((k)) + (1)))) (hC _ (by omega)) ?_
    refine as_iload_n d172_10 rfl ?_
    refine an_icmp_gt 20 d172_11 (by decide) (by omega) (by omega) (fun c11 => ?_) (fun c11 => by omega)
    refine as_iload_n d172_20 rfl ?_
    refine as_ireturn d172_21 (by rw [t172]; rfl) ?_
    rfl
def cutN (sh : Nat → Nat) (s c i : Nat) : Nat := if i < sh (7 * (s / 4) + c) then fsum sh (7 * (s / 4) + c) + i else fsum sh (7 * (s / 4) + 4 + kO c (s % 4)) + (if c = 0 ∨ s % 4 = 0 then i - sh (7 * (s / 4) + c) else sh (7 * (s / 4) + 4 + kO c (s % 4)) - 1 - (i - sh (7 * (s / 4) + c)))
theorem mc_cutAt (X : am_X) (S : MS) (P s c i : Nat) (hP : P ≤ 3) (hC : CF S P (sv S)) (hS : SHN S) (hs : s < 4 * P) (hc : c < 4) (hcs : c ≠ s % 4) (hi : i < arcP (sv S) (s / 4) (s % 4) c) : MC X 170 [.ref (189), .int (nI (s)), .int (nI (c)), .int (nI (i))] S (some (.int (nI (cutN (sv S) s c i)))) S := by
  have hk := kO_lt hc (show s % 4 < 4 by omega) hcs
  have b1 := (hS (7 * (s / 4) + c) (by omega)).2
  have b2 := (hS (7 * (s / 4) + 4 + kO c (s % 4)) (by omega)).2
  have hi2 : i < sv S (7 * (s / 4) + c) + sv S (7 * (s / 4) + 4 + kO c (s % 4)) := hi
  have as : sv S (7 * (s / 4) + (4 + kO c (s % 4))) = sv S (7 * (s / 4) + 4 + kO c (s % 4)) := by rw [Nat.add_assoc]
  refine MC.of (Nat.le_of_ble_eq_true rfl) ?_
  refine as_iload_n d170_0 rfl ?_
  refine an_iconst 4 d170_1 rfl ?_
  refine an_idiv d170_2 (by omega) (by omega) (by omega) ?_
  refine as_istore d170_3 (by decide) ?_
  refine as_aload_n d170_5 rfl ?_
  refine ap_get d170_6 f170_16 (by decide) rfl rfl ?_
  refine an_bipush 7 d170_9 rfl ?_
  refine as_iload d170_11 rfl ?_
  refine an_imul d170_13 ?_
  refine as_iload_n d170_14 rfl ?_
  refine an_iadd d170_15 ?_
  refine ap_iald d170_16 (fun _ _ _ _ => rfl) (by decide) (by omega) (by decide) ?_
  refine an_top (e' := nI (sv S (((7) * ((s) / (4))) + (c)))) ((hS _ (by omega)).1) ?_
  refine as_istore d170_17 (by decide) ?_
  refine as_iload_n d170_19 rfl ?_
  refine as_iload d170_20 rfl ?_
  refine an_icmp_ge 40 d170_22 (by decide) (by omega) (by omega) (fun c22 => ?_) (fun c22 => ?_)
  · refine an_iconst 4 d170_40 rfl ?_
    refine as_iload_n d170_41 rfl ?_
    refine as_iload_n d170_42 rfl ?_
    refine an_iconst 4 d170_43 rfl ?_
    refine an_irem d170_44 (by omega) (by omega) (by omega) ?_
    refine ac_s2 d170_45 c170_186 (by decide) (Nat.le_of_ble_eq_true rfl) (mc_kindOf X _ _ _ (by omega) (by omega) (by omega)) ?_
    refine an_iadd d170_48 ?_
    refine as_istore d170_49 (by decide) ?_
    refine as_iload_n d170_51 rfl ?_
    refine an_if_eq 61 d170_52 (by decide) (by omega) (fun c52 => ?_) (fun c52 => ?_)
    · refine an_iconst 1 d170_61 rfl ?_
      refine as_goto 66 d170_62 (by decide) ?_
      refine as_istore d170_66 (by decide) ?_
      refine as_aload_n d170_68 rfl ?_
      refine ap_get d170_69 f170_16 (by decide) rfl rfl ?_
      refine an_bipush 7 d170_72 rfl ?_
      refine as_iload d170_74 rfl ?_
      refine an_imul d170_76 ?_
      refine as_iload d170_77 rfl ?_
      refine an_iadd d170_79 ?_
      refine ap_iald d170_80 (fun _ _ _ _ => rfl) (by decide) (by omega) (by decide) ?_
      refine an_top (e' := nI (sv S (((7) * ((s) / (4))) + ((4) + (kO (c) ((s) % (4))))))) ((hS _ (by omega)).1) ?_
      refine as_istore d170_81 (by decide) ?_
      refine as_aload_n d170_83 rfl ?_
      refine ap_get d170_84 f170_51 (by decide) rfl rfl ?_
      refine an_bipush 7 d170_87 rfl ?_
      refine as_iload d170_89 rfl ?_
      refine an_imul d170_91 ?_
      refine as_iload d170_92 rfl ?_
      refine an_iadd d170_94 ?_
      refine ap_iald d170_95 (fun _ _ _ _ => rfl) (by decide) (by omega) (by decide) ?_
      refine an_top (e' := nI (fsum (sv S) (((7) * ((s) / (4))) + ((4) + (kO (c) ((s) % (4))))))) (hC _ (by omega)) ?_
      refine as_iload d170_96 rfl ?_
      refine an_if_eq 108 d170_98 (by decide) (by omega) (fun c98 => absurd c98 (by decide)) (fun c98 => ?_)
      refine as_iload_n d170_101 rfl ?_
      refine as_iload d170_102 rfl ?_
      refine an_isub d170_104 (by omega) ?_
      refine as_goto 117 d170_105 (by decide) ?_
      refine an_iadd d170_117 ?_
      refine as_ireturn d170_118 (by rw [t170]; rfl) ?_
      refine am_req (congrArg nI ?_)
      unfold cutN
      try simp only [← Nat.add_assoc]
      first | (rw [if_pos c22]) | (rw [if_neg (by omega), if_pos (by omega)]) | (rw [if_neg (by omega), if_neg (by omega)])
    · refine as_iload_n d170_55 rfl ?_
      refine an_iconst 4 d170_56 rfl ?_
      refine an_irem d170_57 (by omega) (by omega) (by omega) ?_
      refine an_if_ne 65 d170_58 (by decide) (by omega) (fun c58 => ?_) (fun c58 => ?_)
      · refine an_iconst 0 d170_65 rfl ?_
        refine as_istore d170_66 (by decide) ?_
        refine as_aload_n d170_68 rfl ?_
        refine ap_get d170_69 f170_16 (by decide) rfl rfl ?_
        refine an_bipush 7 d170_72 rfl ?_
        refine as_iload d170_74 rfl ?_
        refine an_imul d170_76 ?_
        refine as_iload d170_77 rfl ?_
        refine an_iadd d170_79 ?_
        refine ap_iald d170_80 (fun _ _ _ _ => rfl) (by decide) (by omega) (by decide) ?_
        refine an_top (e' := nI (sv S (((7) * ((s) / (4))) + ((4) + (kO (c) ((s) % (4))))))) ((hS _ (by omega)).1) ?_
        refine as_istore d170_81 (by decide) ?_
        refine as_aload_n d170_83 rfl ?_
        refine ap_get d170_84 f170_51 (by decide) rfl rfl ?_
        refine an_bipush 7 d170_87 rfl ?_
        refine as_iload d170_89 rfl ?_
        refine an_imul d170_91 ?_
        refine as_iload d170_92 rfl ?_
        refine an_iadd d170_94 ?_
        refine ap_iald d170_95 (fun _ _ _ _ => rfl) (by decide) (by omega) (by decide) ?_
        refine an_top (e' := nI (fsum (sv S) (((7) * ((s) / (4))) + ((4) + (kO (c) ((s) % (4))))))) (hC _ (by omega)) ?_
        refine as_iload d170_96 rfl ?_
        refine an_if_eq 108 d170_98 (by decide) (by omega) (fun c98 => ?_) (fun c98 => absurd c98 (by decide))
        refine as_iload d170_108 rfl ?_
        refine an_iconst 1 d170_110 rfl ?_
        refine an_isub d170_111 (by omega) ?_
        refine as_iload_n d170_112 rfl ?_
        refine as_iload d170_113 rfl ?_
        refine an_isub d170_115 (by omega) ?_
        refine an_isub d170_116 (by omega) ?_
        refine an_iadd d170_117 ?_
        refine as_ireturn d170_118 (by rw [t170]; rfl) ?_
        refine am_req (congrArg nI ?_)
        unfold cutN
        try simp only [← Nat.add_assoc]
        first | (rw [if_pos c22]) | (rw [if_neg (by omega), if_pos (by omega)]) | (rw [if_neg (by omega), if_neg (by omega)])
      · refine an_iconst 1 d170_61 rfl ?_
        refine as_goto 66 d170_62 (by decide) ?_
        refine as_istore d170_66 (by decide) ?_
        refine as_aload_n d170_68 rfl ?_
        refine ap_get d170_69 f170_16 (by decide) rfl rfl ?_
        refine an_bipush 7 d170_72 rfl ?_
        refine as_iload d170_74 rfl ?_
        refine an_imul d170_76 ?_
        refine as_iload d170_77 rfl ?_
        refine an_iadd d170_79 ?_
        refine ap_iald d170_80 (fun _ _ _ _ => rfl) (by decide) (by omega) (by decide) ?_
        refine an_top (e' := nI (sv S (((7) * ((s) / (4))) + ((4) + (kO (c) ((s) % (4))))))) ((hS _ (by omega)).1) ?_
        refine as_istore d170_81 (by decide) ?_
        refine as_aload_n d170_83 rfl ?_
        refine ap_get d170_84 f170_51 (by decide) rfl rfl ?_
        refine an_bipush 7 d170_87 rfl ?_
        refine as_iload d170_89 rfl ?_
        refine an_imul d170_91 ?_
        refine as_iload d170_92 rfl ?_
        refine an_iadd d170_94 ?_
        refine ap_iald d170_95 (fun _ _ _ _ => rfl) (by decide) (by omega) (by decide) ?_
        refine an_top (e' := nI (fsum (sv S) (((7) * ((s) / (4))) + ((4) + (kO (c) ((s) % (4))))))) (hC _ (by omega)) ?_
        refine as_iload d170_96 rfl ?_
        refine an_if_eq 108 d170_98 (by decide) (by omega) (fun c98 => absurd c98 (by decide)) (fun c98 => ?_)
        refine as_iload_n d170_101 rfl ?_
        refine as_iload d170_102 rfl ?_
        refine an_isub d170_104 (by omega) ?_
        refine as_goto 117 d170_105 (by decide) ?_
        refine an_iadd d170_117 ?_
        refine as_ireturn d170_118 (by rw [t170]; rfl) ?_
        refine am_req (congrArg nI ?_)
        unfold cutN
        try simp only [← Nat.add_assoc]
        first | (rw [if_pos c22]) | (rw [if_neg (by omega), if_pos (by omega)]) | (rw [if_neg (by omega), if_neg (by omega)])
  · refine as_aload_n d170_25 rfl ?_
    refine ap_get d170_26 f170_51 (by decide) rfl rfl ?_
    refine an_bipush 7 d170_29 rfl ?_
    refine as_iload d170_31 rfl ?_
    refine an_imul d170_33 ?_
    refine as_iload_n d170_34 rfl ?_
    refine an_iadd d170_35 ?_
    refine ap_iald d170_36 (fun _ _ _ _ => rfl) (by decide) (by omega) (by decide) ?_
    refine an_top (e' := nI (fsum (sv S) (((7) * ((s) / (4))) + (c)))) (hC _ (by omega)) ?_
    refine as_iload_n d170_37 rfl ?_
    refine an_iadd d170_38 ?_
    refine as_ireturn d170_39 (by rw [t170]; rfl) ?_
    refine am_req (congrArg nI ?_)
    unfold cutN
    try simp only [← Nat.add_assoc]
    first | (rw [if_pos c22]) | (rw [if_neg (by omega), if_pos (by omega)]) | (rw [if_neg (by omega), if_neg (by omega)])
theorem mc_cutsOf (X : am_X) (S : MS) (q n : Nat) (po : Nat → Nat) (hn : n ≤ 400) (hc : S.1 189 19 = nI n) (hq : q < 2 ^ 31) (hp : ∀ i, i < n → S.2.1 204 i = nI (po i) ∧ po i < 2 ^ 31) : MC X 176 [.ref (189), .int (nI (q))] S (some (.int (nI (cnt (fun i => decide (po i = q)) n)))) S := by
  refine MC.of (Nat.le_of_ble_eq_true rfl) ?_
  refine an_iconst 0 d176_0 rfl ?_
  refine as_istore_n d176_1 (by decide) ?_
  refine an_iconst 0 d176_2 rfl ?_
  refine as_istore_n d176_3 (by decide) ?_
  refine AW.loc [(0, .ref (189)), (1, .int (nI (q))), (2, .int (nI (0))), (3, .int (nI (0)))] (am_pick [2, 3, 1, 0] rfl rfl) ?_
  refine aw_for (fun i => ((4, [(0, .ref (189)), (1, .int (nI (q))), (2, .int (nI (cnt (fun i => decide (po i = q)) (i)))), (3, .int (nI (i)))], [], 208, HP (S), 0, 0) : am_Z)) (n) (rfl) (fun i hi ih => ?_) ?_
  · refine as_iload_n d176_4 rfl ?_
    refine as_aload_n d176_5 rfl ?_
    refine ap_get d176_6 f176_251 (by decide) rfl rfl ?_
    refine an_top (e' := nI (n)) (hc) ?_
    refine an_icmp_ge 36 d176_9 (by decide) (by omega) (by omega) (fun c9 => by omega) (fun c9 => ?_)
    refine as_iload_n d176_12 rfl ?_
    refine as_aload_n d176_13 rfl ?_
    refine ap_get d176_14 f176_54 (by decide) rfl rfl ?_
    refine as_iload_n d176_17 rfl ?_
    refine ap_iald d176_18 (fun _ _ _ _ => rfl) (by decide) (by omega) (by decide) ?_
    refine an_top (e' := nI (po (i))) ((hp _ (by omega)).1) ?_
    refine as_iload_n d176_19 rfl ?_
    refine an_icmp_ne 27 d176_20 (by decide) ((hp _ (by omega)).2) (by omega) (fun c20 => ?_) (fun c20 => ?_)
    · refine an_iconst 0 d176_27 rfl ?_
      refine an_iadd d176_28 ?_
      refine as_istore_n d176_29 (by decide) ?_
      refine an_iinc 1 d176_30 rfl rfl (by decide) ?_
      refine as_goto 4 d176_33 (by decide) ?_
      refine AW.loc [(0, .ref (189)), (1, .int (nI (q))), (2, .int (nI ((cnt (fun i => decide (po i = q)) (i)) + (0)))), (3, .int (nI (i + 1)))] (am_pick [2, 3, 1, 0] rfl rfl) ?_
      have e2 : cnt (fun i => decide (po i = q)) (i + 1) = (cnt (fun i => decide (po i = q)) (i)) + (0) := by first | exact cnt_t (decide_eq_true c20) | exact cnt_f (fun h => c20 (of_decide_eq_true h))
      rw [e2] at ih
      exact ih
    · refine an_iconst 1 d176_23 rfl ?_
      refine as_goto 28 d176_24 (by decide) ?_
      refine an_iadd d176_28 ?_
      refine as_istore_n d176_29 (by decide) ?_
      refine an_iinc 1 d176_30 rfl rfl (by decide) ?_
      refine as_goto 4 d176_33 (by decide) ?_
      refine AW.loc [(0, .ref (189)), (1, .int (nI (q))), (2, .int (nI ((cnt (fun i => decide (po i = q)) (i)) + (1)))), (3, .int (nI (i + 1)))] (am_pick [2, 3, 1, 0] rfl rfl) ?_
      have e2 : cnt (fun i => decide (po i = q)) (i + 1) = (cnt (fun i => decide (po i = q)) (i)) + (1) := by first | exact cnt_t (decide_eq_true c20) | exact cnt_f (fun h => c20 (of_decide_eq_true h))
      rw [e2] at ih
      exact ih
  · refine as_iload_n d176_4 rfl ?_
    refine as_aload_n d176_5 rfl ?_
    refine ap_get d176_6 f176_251 (by decide) rfl rfl ?_
    refine an_top (e' := nI (n)) (hc) ?_
    refine an_icmp_ge 36 d176_9 (by decide) (by omega) (by omega) (fun c9 => ?_) (fun c9 => by omega)
    refine as_iload_n d176_36 rfl ?_
    refine as_ireturn d176_37 (by rw [t176]; rfl) ?_
    rfl
def woE (T : MS) (k e : Nat) : Bool := decide (eL T (6 * (k / 7) + e) = 6 * (k / 7) + e) && mtS (k % 7) e
def woS (mt : Nat → Option Nat) (k x : Nat) : Bool := (decide (3 < k % 7) || decide (x ≠ k % 7)) && sdP mt 0 (4 * (k / 7) + x)
theorem woE_t {T : MS} {k e : Nat} (h1 : eL T (6 * (k / 7) + e) = 6 * (k / 7) + e) (h2 : mtS (k % 7) e = true) : woE T k e = true := by
  unfold woE
  rw [Bool.and_eq_true]
  exact ⟨decide_eq_true h1, h2⟩
theorem woE_f1 {T : MS} {k e : Nat} (h1 : ¬ eL T (6 * (k / 7) + e) = 6 * (k / 7) + e) : ¬ woE T k e = true := by
  unfold woE
  rw [Bool.and_eq_true]
  exact fun h => h1 (of_decide_eq_true h.1)
theorem woE_f2 {T : MS} {k e : Nat} (h1 : ¬ mtS (k % 7) e = true) : ¬ woE T k e = true := by
  unfold woE
  rw [Bool.and_eq_true]
  exact fun h => h1 h.2
theorem cn_t {p : Nat → Bool} {i A : Nat} (h : p i = true) : A + cnt p (i + 1) = A + cnt p i + 1 := by rw [cnt_t h, Nat.add_assoc]
theorem cn_f {p : Nat → Bool} {i A : Nat} (h : ¬ p i = true) : A + cnt p (i + 1) = A + cnt p i + 0 := by rw [cnt_f h, Nat.add_assoc]
theorem cm_t {p : Nat → Bool} {i : Nat} {X : Int32} (h : p i = true) : X - nI (cnt p (i + 1)) = X - nI (cnt p i) - nI 1 := by rw [cnt_t h, nI_subS]
theorem cm_f {p : Nat → Bool} {i : Nat} {X : Int32} (h : ¬ p i = true) : X - nI (cnt p (i + 1)) = X - nI (cnt p i) - nI 0 := by rw [cnt_f h, nI_subS]
theorem woS_t {mt : Nat → Option Nat} {k x : Nat} (h1 : 3 < k % 7 ∨ x ≠ k % 7) (h2 : mt (4 * (k / 7) + x) = none ∨ ∃ t, mt (4 * (k / 7) + x) = some t ∧ 4 * (k / 7) + x < t) : woS mt k x = true := by
  unfold woS
  rw [Bool.and_eq_true, Bool.or_eq_true]
  refine ⟨by simpa using h1, ?_⟩
  rcases h2 with h | ⟨t, h, g⟩
  · exact sdP_none h
  · rw [sdP_some h]
    exact decide_eq_true g
theorem woS_f1 {mt : Nat → Option Nat} {k x : Nat} (h1 : ¬ (3 < k % 7 ∨ x ≠ k % 7)) : ¬ woS mt k x = true := by
  unfold woS
  rw [Bool.and_eq_true, Bool.or_eq_true]
  intro h
  exact h1 (by simpa using h.1)
theorem woS_f2 {mt : Nat → Option Nat} {k x t : Nat} (h : mt (4 * (k / 7) + x) = some t) (g : t ≤ 4 * (k / 7) + x) : ¬ woS mt k x = true := by
  unfold woS
  rw [Bool.and_eq_true, sdP_some h]
  intro h
  have := of_decide_eq_true h.2
  omega
def worthA (T : MS) (mt : Nat → Option Nat) (k : Nat) : Int32 := nI (1 + cnt (woE T k) 6) - nI (cnt (woS mt k) 4)
theorem mc_worth (X : am_X) (S : MS) (P x k : Nat) (sh : Nat → Nat) (mt : Nat → Option Nat) (go : Nat → Nat) (hG : GW P mt go) (hR : RG S P mt go) (hL : LN S) (hC : CF S P sh) (hb : fsum sh (7 * P) < 2 ^ 31) (hk : k < 7 * P) (h1 : fsum sh k ≤ x) (h2 : x < fsum sh (k + 1)) : MC X 177 [.ref (189), .int (nI (x))] S (some (.int (worthA S mt k))) S := by
  have hp := hR.1
  have hP := hG.1
  have h70 : ((72, [(0, .ref (189)), (2, .int (nI (k))), (3, .int (nI (k / 7))), (4, .int (nI (1 + cnt (woE S k) (6)))), (5, .int (nI ((4) * (k / 7))))], [], 208, HP (S), 0, 0) : am_Z) = (72, [(0, .ref (189)), (2, .int (nI (k))), (3, .int (nI (k / 7))), (4, .int (nI (1 + cnt (woE S k) 6) - nI (cnt (woS mt k) (0)))), (5, .int (nI (4 * (k / 7) + (0))))], [], 208, HP (S), 0, 0) := by
    rw [show cnt (woS mt k) 0 = 0 from rfl, nI_0, Int32.sub_zero, Nat.add_zero]
  refine MC.of (Nat.le_of_ble_eq_true rfl) ?_
  refine as_aload_n d177_0 rfl ?_
  refine as_iload_n d177_1 rfl ?_
  refine ac_v1 d177_2 c177_239 (by decide) rfl (Nat.le_of_ble_eq_true rfl) (mc_sortOf X _ P _ k sh hP hC hb hk h1 h2) ?_
  refine as_istore_n d177_5 (by decide) ?_
  refine as_iload_n d177_6 rfl ?_
  refine an_bipush 7 d177_7 rfl ?_
  refine an_idiv d177_9 (by omega) (by omega) (by omega) ?_
  refine as_istore_n d177_10 (by decide) ?_
  refine an_iconst 1 d177_11 rfl ?_
  refine as_istore d177_12 (by decide) ?_
  refine an_iconst 0 d177_14 rfl ?_
  refine as_istore d177_15 (by decide) ?_
  refine AW.loc [(0, .ref (189)), (2, .int (nI (k))), (3, .int (nI ((k) / (7)))), (4, .int (nI (1))), (5, .int (nI (0)))] (am_pick [4, 3, 2, 1, 0] rfl rfl) ?_
  refine aw_for (fun i => ((17, [(0, .ref (189)), (2, .int (nI (k))), (3, .int (nI (k / 7))), (4, .int (nI (1 + cnt (woE S k) (i)))), (5, .int (nI (i)))], [], 208, HP (S), 0, 0) : am_Z)) (6) (rfl) (fun i hi ih => ?_) ?_
  · refine as_iload d177_17 rfl ?_
    refine an_bipush 6 d177_19 rfl ?_
    refine an_icmp_ge 67 d177_21 (by decide) (by omega) (by omega) (fun c21 => by omega) (fun c21 => ?_)
    refine as_iload d177_24 rfl ?_
    refine as_aload_n d177_26 rfl ?_
    refine an_bipush 6 d177_27 rfl ?_
    refine as_iload_n d177_29 rfl ?_
    refine an_imul d177_30 ?_
    refine as_iload d177_31 rfl ?_
    refine an_iadd d177_33 ?_
    refine ac_v1 d177_34 c177_105 (by decide) rfl (Nat.le_of_ble_eq_true rfl) (mc_isFirstEdge X _ _ (by omega) hL) ?_
    refine as_if_eq 57 d177_37 (by decide) (fun c37 => ?_) (fun c37 => ?_)
    · refine an_iconst 0 d177_57 rfl ?_
      refine an_iadd d177_58 ?_
      refine as_istore d177_59 (by decide) ?_
      refine an_iinc 1 d177_61 rfl rfl (by decide) ?_
      refine as_goto 17 d177_64 (by decide) ?_
      refine AW.loc [(0, .ref (189)), (2, .int (nI (k))), (3, .int (nI (k / 7))), (4, .int (nI ((1 + cnt (woE S k) (i)) + (0)))), (5, .int (nI (i + 1)))] (am_pick [2, 3, 4, 1, 0] rfl rfl) ?_
      have e4 : 1 + cnt (woE S k) (i + 1) = (1 + cnt (woE S k) (i)) + (0) := by first | exact cn_t (woE_t (am_b1 c37) (am_b1 c50)) | exact cn_f (woE_f2 (am_b01.mp c50)) | exact cn_f (woE_f1 (am_b01.mp c37))
      rw [e4] at ih
      exact ih
    · refine as_aload_n d177_40 rfl ?_
      refine as_iload_n d177_41 rfl ?_
      refine an_bipush 7 d177_42 rfl ?_
      refine an_irem d177_44 (by omega) (by omega) (by omega) ?_
      refine as_iload d177_45 rfl ?_
      refine ac_v2 d177_47 c177_236 (by decide) rfl (Nat.le_of_ble_eq_true rfl) (mc_meets X _ _ _ (by omega) (by omega)) ?_
      refine as_if_eq 57 d177_50 (by decide) (fun c50 => ?_) (fun c50 => ?_)
      · refine an_iconst 0 d177_57 rfl ?_
        refine an_iadd d177_58 ?_
        refine as_istore d177_59 (by decide) ?_
        refine an_iinc 1 d177_61 rfl rfl (by decide) ?_
        refine as_goto 17 d177_64 (by decide) ?_
        refine AW.loc [(0, .ref (189)), (2, .int (nI (k))), (3, .int (nI (k / 7))), (4, .int (nI ((1 + cnt (woE S k) (i)) + (0)))), (5, .int (nI (i + 1)))] (am_pick [2, 3, 4, 1, 0] rfl rfl) ?_
        have e4 : 1 + cnt (woE S k) (i + 1) = (1 + cnt (woE S k) (i)) + (0) := by first | exact cn_t (woE_t (am_b1 c37) (am_b1 c50)) | exact cn_f (woE_f2 (am_b01.mp c50)) | exact cn_f (woE_f1 (am_b01.mp c37))
        rw [e4] at ih
        exact ih
      · refine an_iconst 1 d177_53 rfl ?_
        refine as_goto 58 d177_54 (by decide) ?_
        refine an_iadd d177_58 ?_
        refine as_istore d177_59 (by decide) ?_
        refine an_iinc 1 d177_61 rfl rfl (by decide) ?_
        refine as_goto 17 d177_64 (by decide) ?_
        refine AW.loc [(0, .ref (189)), (2, .int (nI (k))), (3, .int (nI (k / 7))), (4, .int (nI ((1 + cnt (woE S k) (i)) + (1)))), (5, .int (nI (i + 1)))] (am_pick [2, 3, 4, 1, 0] rfl rfl) ?_
        have e4 : 1 + cnt (woE S k) (i + 1) = (1 + cnt (woE S k) (i)) + (1) := by first | exact cn_t (woE_t (am_b1 c37) (am_b1 c50)) | exact cn_f (woE_f2 (am_b01.mp c50)) | exact cn_f (woE_f1 (am_b01.mp c37))
        rw [e4] at ih
        exact ih
  · refine as_iload d177_17 rfl ?_
    refine an_bipush 6 d177_19 rfl ?_
    refine an_icmp_ge 67 d177_21 (by decide) (by omega) (by omega) (fun c21 => ?_) (fun c21 => by omega)
    refine an_iconst 4 d177_67 rfl ?_
    refine as_iload_n d177_68 rfl ?_
    refine an_imul d177_69 ?_
    refine as_istore d177_70 (by decide) ?_
    refine AW.loc [(0, .ref (189)), (2, .int (nI (k))), (3, .int (nI (k / 7))), (4, .int (nI (1 + cnt (woE S k) ((6))))), (5, .int (nI ((4) * (k / 7))))] (am_pick [1, 2, 3, 4, 0] rfl rfl) ?_
    refine aw_for (fun c => ((72, [(0, .ref (189)), (2, .int (nI (k))), (3, .int (nI (k / 7))), (4, .int (nI (1 + cnt (woE S k) 6) - nI (cnt (woS mt k) (c)))), (5, .int (nI (4 * (k / 7) + (c))))], [], 208, HP (S), 0, 0) : am_Z)) (4) (h70) (fun c hc ihc => ?_) ?_
    · refine as_iload d177_72 rfl ?_
      refine an_iconst 4 d177_74 rfl ?_
      refine as_iload_n d177_75 rfl ?_
      refine an_imul d177_76 ?_
      refine an_iconst 4 d177_77 rfl ?_
      refine an_iadd d177_78 ?_
      refine an_icmp_ge 152 d177_79 (by decide) (by omega) (by omega) (fun c79 => by omega) (fun c79 => ?_)
      refine as_iload_n d177_82 rfl ?_
      refine an_bipush 7 d177_83 rfl ?_
      refine an_irem d177_85 (by omega) (by omega) (by omega) ?_
      refine an_iconst 3 d177_86 rfl ?_
      refine an_icmp_gt 101 d177_87 (by decide) (by omega) (by omega) (fun c87 => ?_) (fun c87 => ?_)
      · refine an_iconst 1 d177_101 rfl ?_
        refine as_goto 106 d177_102 (by decide) ?_
        refine as_istore d177_106 (by decide) ?_
        refine as_iload d177_108 rfl ?_
        refine as_iload d177_110 rfl ?_
        refine an_if_eq 142 d177_112 (by decide) (by omega) (fun c112 => absurd c112 (by decide)) (fun c112 => ?_)
        refine as_aload_n d177_115 rfl ?_
        refine ap_get d177_116 f177_7 (by decide) rfl rfl ?_
        refine as_iload d177_119 rfl ?_
        refine ap_iald d177_121 (fun _ _ _ _ => rfl) (by decide) (by omega) (by decide) ?_
        refine an_top (e' := mI (mt (4 * (k / 7) + (c)))) (hR.2.1 _ (by omega)) ?_
        refine an_iconstI (-1) d177_122 rfl ?_
        refine as_icmp_eq 138 d177_123 (by decide) (fun c123 => ?_) (fun c123 => ?_)
        · refine an_iconst 1 d177_138 rfl ?_
          refine as_goto 143 d177_139 (by decide) ?_
          refine as_isub d177_143 ?_
          refine as_istore d177_144 (by decide) ?_
          refine an_iinc 1 d177_146 rfl rfl (by decide) ?_
          refine as_goto 72 d177_149 (by decide) ?_
          refine AW.loc [(0, .ref (189)), (2, .int (nI (k))), (3, .int (nI (k / 7))), (4, .int ((nI (1 + cnt (woE S k) 6) - nI (cnt (woS mt k) (c))) - nI (1))), (5, .int (nI (4 * (k / 7) + (c) + 1)))] (am_pick [3, 4, 5, 1, 0] rfl rfl) ?_
          have e4 : nI (1 + cnt (woE S k) 6) - nI (cnt (woS mt k) (c + 1)) = (nI (1 + cnt (woE S k) 6) - nI (cnt (woS mt k) (c))) - nI (1) := by first | exact cm_t (woS_t (by omega) (Or.inl (mt_none hG (by omega) c123))) | exact cm_t (woS_t (by omega) (Or.inr ⟨t, e0, c135⟩)) | exact cm_f (woS_f2 e0 c135) | exact cm_f (woS_f1 (by omega))
          have e5 : 4 * (k / 7) + (c + 1) = 4 * (k / 7) + (c) + 1 := by omega
          rw [e4, e5] at ihc
          exact ihc
        · obtain ⟨t, e0⟩ := mt_some c123
          have htl := mt_lt hG (show 4 * (k / 7) + c < 4 * P by omega) e0
          refine as_iload d177_126 rfl ?_
          refine as_aload_n d177_128 rfl ?_
          refine ap_get d177_129 f177_7 (by decide) rfl rfl ?_
          refine as_iload d177_132 rfl ?_
          refine ap_iald d177_134 (fun _ _ _ _ => rfl) (by decide) (by omega) (by decide) ?_
          refine an_top (e' := nI (t)) (by rw [hR.2.1 _ (by omega), e0]; rfl) ?_
          refine an_icmp_ge 142 d177_135 (by decide) (by omega) (by omega) (fun c135 => ?_) (fun c135 => ?_)
          · refine an_iconst 0 d177_142 rfl ?_
            refine as_isub d177_143 ?_
            refine as_istore d177_144 (by decide) ?_
            refine an_iinc 1 d177_146 rfl rfl (by decide) ?_
            refine as_goto 72 d177_149 (by decide) ?_
            refine AW.loc [(0, .ref (189)), (2, .int (nI (k))), (3, .int (nI (k / 7))), (4, .int ((nI (1 + cnt (woE S k) 6) - nI (cnt (woS mt k) (c))) - nI (0))), (5, .int (nI (4 * (k / 7) + (c) + 1)))] (am_pick [3, 4, 5, 1, 0] rfl rfl) ?_
            have e4 : nI (1 + cnt (woE S k) 6) - nI (cnt (woS mt k) (c + 1)) = (nI (1 + cnt (woE S k) 6) - nI (cnt (woS mt k) (c))) - nI (0) := by first | exact cm_t (woS_t (by omega) (Or.inl (mt_none hG (by omega) c123))) | exact cm_t (woS_t (by omega) (Or.inr ⟨t, e0, c135⟩)) | exact cm_f (woS_f2 e0 c135) | exact cm_f (woS_f1 (by omega))
            have e5 : 4 * (k / 7) + (c + 1) = 4 * (k / 7) + (c) + 1 := by omega
            rw [e4, e5] at ihc
            exact ihc
          · refine an_iconst 1 d177_138 rfl ?_
            refine as_goto 143 d177_139 (by decide) ?_
            refine as_isub d177_143 ?_
            refine as_istore d177_144 (by decide) ?_
            refine an_iinc 1 d177_146 rfl rfl (by decide) ?_
            refine as_goto 72 d177_149 (by decide) ?_
            refine AW.loc [(0, .ref (189)), (2, .int (nI (k))), (3, .int (nI (k / 7))), (4, .int ((nI (1 + cnt (woE S k) 6) - nI (cnt (woS mt k) (c))) - nI (1))), (5, .int (nI (4 * (k / 7) + (c) + 1)))] (am_pick [3, 4, 5, 1, 0] rfl rfl) ?_
            have e4 : nI (1 + cnt (woE S k) 6) - nI (cnt (woS mt k) (c + 1)) = (nI (1 + cnt (woE S k) 6) - nI (cnt (woS mt k) (c))) - nI (1) := by first | exact cm_t (woS_t (by omega) (Or.inl (mt_none hG (by omega) c123))) | exact cm_t (woS_t (by omega) (Or.inr ⟨t, e0, c135⟩)) | exact cm_f (woS_f2 e0 c135) | exact cm_f (woS_f1 (by omega))
            have e5 : 4 * (k / 7) + (c + 1) = 4 * (k / 7) + (c) + 1 := by omega
            rw [e4, e5] at ihc
            exact ihc
      · refine as_iload d177_90 rfl ?_
        refine an_iconst 4 d177_92 rfl ?_
        refine an_irem d177_93 (by omega) (by omega) (by omega) ?_
        refine as_iload_n d177_94 rfl ?_
        refine an_bipush 7 d177_95 rfl ?_
        refine an_irem d177_97 (by omega) (by omega) (by omega) ?_
        refine an_icmp_eq 105 d177_98 (by decide) (by omega) (by omega) (fun c98 => ?_) (fun c98 => ?_)
        · refine an_iconst 0 d177_105 rfl ?_
          refine as_istore d177_106 (by decide) ?_
          refine as_iload d177_108 rfl ?_
          refine as_iload d177_110 rfl ?_
          refine an_if_eq 142 d177_112 (by decide) (by omega) (fun c112 => ?_) (fun c112 => absurd c112 (by decide))
          refine an_iconst 0 d177_142 rfl ?_
          refine as_isub d177_143 ?_
          refine as_istore d177_144 (by decide) ?_
          refine an_iinc 1 d177_146 rfl rfl (by decide) ?_
          refine as_goto 72 d177_149 (by decide) ?_
          refine AW.loc [(0, .ref (189)), (2, .int (nI (k))), (3, .int (nI (k / 7))), (4, .int ((nI (1 + cnt (woE S k) 6) - nI (cnt (woS mt k) (c))) - nI (0))), (5, .int (nI (4 * (k / 7) + (c) + 1)))] (am_pick [3, 4, 5, 1, 0] rfl rfl) ?_
          have e4 : nI (1 + cnt (woE S k) 6) - nI (cnt (woS mt k) (c + 1)) = (nI (1 + cnt (woE S k) 6) - nI (cnt (woS mt k) (c))) - nI (0) := by first | exact cm_t (woS_t (by omega) (Or.inl (mt_none hG (by omega) c123))) | exact cm_t (woS_t (by omega) (Or.inr ⟨t, e0, c135⟩)) | exact cm_f (woS_f2 e0 c135) | exact cm_f (woS_f1 (by omega))
          have e5 : 4 * (k / 7) + (c + 1) = 4 * (k / 7) + (c) + 1 := by omega
          rw [e4, e5] at ihc
          exact ihc
        · refine an_iconst 1 d177_101 rfl ?_
          refine as_goto 106 d177_102 (by decide) ?_
          refine as_istore d177_106 (by decide) ?_
          refine as_iload d177_108 rfl ?_
          refine as_iload d177_110 rfl ?_
          refine an_if_eq 142 d177_112 (by decide) (by omega) (fun c112 => absurd c112 (by decide)) (fun c112 => ?_)
          refine as_aload_n d177_115 rfl ?_
          refine ap_get d177_116 f177_7 (by decide) rfl rfl ?_
          refine as_iload d177_119 rfl ?_
          refine ap_iald d177_121 (fun _ _ _ _ => rfl) (by decide) (by omega) (by decide) ?_
          refine an_top (e' := mI (mt (4 * (k / 7) + (c)))) (hR.2.1 _ (by omega)) ?_
          refine an_iconstI (-1) d177_122 rfl ?_
          refine as_icmp_eq 138 d177_123 (by decide) (fun c123 => ?_) (fun c123 => ?_)
          · refine an_iconst 1 d177_138 rfl ?_
            refine as_goto 143 d177_139 (by decide) ?_
            refine as_isub d177_143 ?_
            refine as_istore d177_144 (by decide) ?_
            refine an_iinc 1 d177_146 rfl rfl (by decide) ?_
            refine as_goto 72 d177_149 (by decide) ?_
            refine AW.loc [(0, .ref (189)), (2, .int (nI (k))), (3, .int (nI (k / 7))), (4, .int ((nI (1 + cnt (woE S k) 6) - nI (cnt (woS mt k) (c))) - nI (1))), (5, .int (nI (4 * (k / 7) + (c) + 1)))] (am_pick [3, 4, 5, 1, 0] rfl rfl) ?_
            have e4 : nI (1 + cnt (woE S k) 6) - nI (cnt (woS mt k) (c + 1)) = (nI (1 + cnt (woE S k) 6) - nI (cnt (woS mt k) (c))) - nI (1) := by first | exact cm_t (woS_t (by omega) (Or.inl (mt_none hG (by omega) c123))) | exact cm_t (woS_t (by omega) (Or.inr ⟨t, e0, c135⟩)) | exact cm_f (woS_f2 e0 c135) | exact cm_f (woS_f1 (by omega))
            have e5 : 4 * (k / 7) + (c + 1) = 4 * (k / 7) + (c) + 1 := by omega
            rw [e4, e5] at ihc
            exact ihc
          · obtain ⟨t, e0⟩ := mt_some c123
            have htl := mt_lt hG (show 4 * (k / 7) + c < 4 * P by omega) e0
            refine as_iload d177_126 rfl ?_
            refine as_aload_n d177_128 rfl ?_
            refine ap_get d177_129 f177_7 (by decide) rfl rfl ?_
            refine as_iload d177_132 rfl ?_
            refine ap_iald d177_134 (fun _ _ _ _ => rfl) (by decide) (by omega) (by decide) ?_
            refine an_top (e' := nI (t)) (by rw [hR.2.1 _ (by omega), e0]; rfl) ?_
            refine an_icmp_ge 142 d177_135 (by decide) (by omega) (by omega) (fun c135 => ?_) (fun c135 => ?_)
            · refine an_iconst 0 d177_142 rfl ?_
              refine as_isub d177_143 ?_
              refine as_istore d177_144 (by decide) ?_
              refine an_iinc 1 d177_146 rfl rfl (by decide) ?_
              refine as_goto 72 d177_149 (by decide) ?_
              refine AW.loc [(0, .ref (189)), (2, .int (nI (k))), (3, .int (nI (k / 7))), (4, .int ((nI (1 + cnt (woE S k) 6) - nI (cnt (woS mt k) (c))) - nI (0))), (5, .int (nI (4 * (k / 7) + (c) + 1)))] (am_pick [3, 4, 5, 1, 0] rfl rfl) ?_
              have e4 : nI (1 + cnt (woE S k) 6) - nI (cnt (woS mt k) (c + 1)) = (nI (1 + cnt (woE S k) 6) - nI (cnt (woS mt k) (c))) - nI (0) := by first | exact cm_t (woS_t (by omega) (Or.inl (mt_none hG (by omega) c123))) | exact cm_t (woS_t (by omega) (Or.inr ⟨t, e0, c135⟩)) | exact cm_f (woS_f2 e0 c135) | exact cm_f (woS_f1 (by omega))
              have e5 : 4 * (k / 7) + (c + 1) = 4 * (k / 7) + (c) + 1 := by omega
              rw [e4, e5] at ihc
              exact ihc
            · refine an_iconst 1 d177_138 rfl ?_
              refine as_goto 143 d177_139 (by decide) ?_
              refine as_isub d177_143 ?_
              refine as_istore d177_144 (by decide) ?_
              refine an_iinc 1 d177_146 rfl rfl (by decide) ?_
              refine as_goto 72 d177_149 (by decide) ?_
              refine AW.loc [(0, .ref (189)), (2, .int (nI (k))), (3, .int (nI (k / 7))), (4, .int ((nI (1 + cnt (woE S k) 6) - nI (cnt (woS mt k) (c))) - nI (1))), (5, .int (nI (4 * (k / 7) + (c) + 1)))] (am_pick [3, 4, 5, 1, 0] rfl rfl) ?_
              have e4 : nI (1 + cnt (woE S k) 6) - nI (cnt (woS mt k) (c + 1)) = (nI (1 + cnt (woE S k) 6) - nI (cnt (woS mt k) (c))) - nI (1) := by first | exact cm_t (woS_t (by omega) (Or.inl (mt_none hG (by omega) c123))) | exact cm_t (woS_t (by omega) (Or.inr ⟨t, e0, c135⟩)) | exact cm_f (woS_f2 e0 c135) | exact cm_f (woS_f1 (by omega))
              have e5 : 4 * (k / 7) + (c + 1) = 4 * (k / 7) + (c) + 1 := by omega
              rw [e4, e5] at ihc
              exact ihc
    · refine as_iload d177_72 rfl ?_
      refine an_iconst 4 d177_74 rfl ?_
      refine as_iload_n d177_75 rfl ?_
      refine an_imul d177_76 ?_
      refine an_iconst 4 d177_77 rfl ?_
      refine an_iadd d177_78 ?_
      refine an_icmp_ge 152 d177_79 (by decide) (by omega) (by omega) (fun c79 => ?_) (fun c79 => by omega)
      refine as_iload d177_152 rfl ?_
      refine as_ireturn d177_154 (by rw [t177]; rfl) ?_
      rfl
