/-! the reference: layEquation, areBeside, layRay -/
/-- what the search for the least sheets may change -/
def lKeep (S T : MS) : Prop := (∀ k, k ≠ 200 → k ≠ 201 → k ≠ 202 → T.2.1 k = S.2.1 k) ∧ T.2.2 = S.2.2 ∧ (∀ i j, ¬ (i = 189 ∧ (j = 14 ∨ j = 18)) → T.1 i j = S.1 i j)
theorem lKeep.rf (S : MS) : lKeep S S := ⟨fun _ _ _ _ => rfl, rfl, fun _ _ _ => rfl⟩
theorem lKeep.trans {S T U : MS} (h : lKeep S T) (g : lKeep T U) : lKeep S U := ⟨fun k a b c => (g.1 k a b c).trans (h.1 k a b c), g.2.1.trans h.2.1, fun i j a => (g.2.2 i j a).trans (h.2.2 i j a)⟩
theorem lKeep.row {S T : MS} (h : lKeep S T) {A : Nat} (hA : A = 200 ∨ A = 201 ∨ A = 202) (off : Nat) (f : Nat → Int32) (n : Nat) : lKeep S (sRow T A off f n) := by
  refine ⟨fun k a b c => ?_, h.2.1, h.2.2⟩
  rw [sRow_row _ _ _ _ _ (by omega)]
  exact h.1 k a b c
theorem lKeep.sa {S T : MS} (h : lKeep S T) {A : Nat} (hA : A = 200 ∨ A = 201 ∨ A = 202) (i : Nat) (x : Int32) : lKeep S (T.sa A i x) := by
  refine ⟨fun k a b c => ?_, h.2.1, h.2.2⟩
  show u2 T.2.1 A i x k = _
  rw [u2_ne _ _ _ (by omega)]
  exact h.1 k a b c
theorem lKeep.sf {S T : MS} (h : lKeep S T) {j : Nat} (hj : j = 14 ∨ j = 18) (x : Int32) : lKeep S (T.sf 189 j x) := by
  refine ⟨h.1, h.2.1, fun i k a => ?_⟩
  show u2 T.1 189 j x i k = _
  rw [u2_at, if_neg (by omega)]
  exact h.2.2 i k a
theorem RG.lkeep {S T : MS} {P : Nat} {mt : Nat → Option Nat} {go : Nat → Nat} (h : RG S P mt go) (k : lKeep S T) : RG T P mt go := by
  refine ⟨(k.2.2 189 0 (by omega)).trans h.1, fun s hs => ?_, fun s t c hs ht hc => ?_⟩
  · rw [k.1 190 (by decide) (by decide) (by decide)]
    exact h.2.1 s hs
  · rw [k.1 191 (by decide) (by decide) (by decide)]
    exact h.2.2 s t c hs ht hc
/-- where two places lie at 1, two at -1 -/
def dl (a i : Nat) : Int32 := if i = a then 1 else 0
def eqC (a1 a2 b1 b2 i : Nat) : Int32 := dl a1 i + dl a2 i - dl b1 i - dl b2 i
theorem dl_s (f : Nat → Int32) (a i : Nat) : (if i = a then f a + 1 else f i) = f i + dl a i := by
  unfold dl
  by_cases h : i = a
  · subst h; rw [if_pos rfl, if_pos rfl]
  · rw [if_neg h, if_neg h, Int32.add_zero]
theorem dl_m (f : Nat → Int32) (a i : Nat) : (if i = a then f a - 1 else f i) = f i - dl a i := by
  unfold dl
  by_cases h : i = a
  · subst h; rw [if_pos rfl, if_pos rfl]
  · rw [if_neg h, if_neg h, Int32.sub_zero]
theorem sa_at (S : MS) (A k : Nat) (x : Int32) (i : Nat) : (S.sa A k x).2.1 A i = if i = k then x else S.2.1 A i := by
  show u2 S.2.1 A k x A i = _
  rw [u2_row]
theorem sa_row (S : MS) (A k : Nat) (x : Int32) {i : Nat} (h : i ≠ A) : (S.sa A k x).2.1 i = S.2.1 i := u2_ne _ _ _ h
theorem sf_at (S : MS) (a k : Nat) (x : Int32) (i j : Nat) : (S.sf a k x).1 i j = if i = a ∧ j = k then x else S.1 i j := u2_at _ _ _ _ _ _
def eqA1 (s c : Nat) : Nat := 7 * (s / 4) + c
def eqA2 (s c : Nat) : Nat := 7 * (s / 4) + 4 + kO c (s % 4)
def EQ (S : MS) (s t c d : Nat) : Prop := ∀ i, i < 21 → S.2.1 202 i = eqC (eqA1 s c) (eqA2 s c) (eqA1 t d) (eqA2 t d) i
theorem eq_lay (S : MS) (a1 a2 b1 b2 : Nat) (x1 x2 x3 x4 : Int32) (h1 : x1 = (sRow S 202 0 (fun _ => nI 0) 21).2.1 202 a1 + nI 1) (h2 : x2 = ((sRow S 202 0 (fun _ => nI 0) 21).sa 202 a1 x1).2.1 202 a2 + nI 1) (h3 : x3 = (((sRow S 202 0 (fun _ => nI 0) 21).sa 202 a1 x1).sa 202 a2 x2).2.1 202 b1 - nI 1) (h4 : x4 = ((((sRow S 202 0 (fun _ => nI 0) 21).sa 202 a1 x1).sa 202 a2 x2).sa 202 b1 x3).2.1 202 b2 - nI 1) (i : Nat) (hi : i < 21) : (((((sRow S 202 0 (fun _ => nI 0) 21).sa 202 a1 x1).sa 202 a2 x2).sa 202 b1 x3).sa 202 b2 x4).2.1 202 i = eqC a1 a2 b1 b2 i := by
  have e1 : nI 1 = 1 := rfl
  rw [e1] at h1 h2 h3 h4
  rw [sa_at, h4, dl_m (fun i => ((((sRow S 202 0 (fun _ => nI 0) 21).sa 202 a1 x1).sa 202 a2 x2).sa 202 b1 x3).2.1 202 i) b2 i, sa_at, h3, dl_m (fun i => (((sRow S 202 0 (fun _ => nI 0) 21).sa 202 a1 x1).sa 202 a2 x2).2.1 202 i) b1 i, sa_at, h2, dl_s (fun i => ((sRow S 202 0 (fun _ => nI 0) 21).sa 202 a1 x1).2.1 202 i) a2 i, sa_at, h1, dl_s (fun i => (sRow S 202 0 (fun _ => nI 0) 21).2.1 202 i) a1 i]
  unfold eqC
  have e2 := sRow_eq (S := S) (A := 202) (off := 0) (f := fun _ => nI 0) (n := 21) hi
  rw [Nat.zero_add] at e2
  rw [e2, nI_0, Int32.zero_add]
theorem mx_layEquation (X : am_X) (S : MS) (P : Nat) (mt : Nat → Option Nat) (go : Nat → Nat) (s c t : Nat) (hG : GW P mt go) (hR : RG S P mt go) (hs : s < 4 * P) (e0 : mt s = some t) (hc : c < 4) (hcs : c ≠ s % 4) : ∃ T, MC X 150 [.ref (189), .int (nI (s)), .int (nI (c))] S none T ∧ (T.1 = S.1 ∧ T.2.1 200 = S.2.1 200 ∧ T.2.1 201 = S.2.1 201) ∧ lKeep S T ∧ EQ T s t c (go (4 * s + c)) := by
  have hP := hG.1
  have hp := hR.1
  have ht := mt_lt hG hs e0
  have hgl := hG.go_lt hs e0 hc
  have hgn := hG.go_ne hs e0 hc hcs
  have hk1 := kO_lt hc (show s % 4 < 4 by omega) hcs
  have hk2 := kO_lt hgl (show t % 4 < 4 by omega) hgn
  have key := MX.mc (X := X) (mj := 150) (as := [.ref (189), .int (nI (s)), .int (nI (c))]) (S := S) (Post := fun v T => v = none ∧ (T.1 = S.1 ∧ T.2.1 200 = S.2.1 200 ∧ T.2.1 201 = S.2.1 201) ∧ lKeep S T ∧ EQ T s t c (go (4 * s + c))) ?_
  · obtain ⟨v, T, h1, h2, h3⟩ := key
    subst h2
    exact ⟨T, h1, h3⟩
  refine MX.of (Nat.le_of_ble_eq_true rfl) ?_
  refine as_iload_n d150_0 rfl ?_
  refine an_iconst 4 d150_1 rfl ?_
  refine an_idiv d150_2 (by omega) (by omega) (by omega) ?_
  refine as_istore_n d150_3 (by decide) ?_
  refine as_aload_n d150_4 rfl ?_
  refine ap_get d150_5 f150_7 (by decide) rfl rfl ?_
  refine as_iload_n d150_8 rfl ?_
  refine ap_iald d150_9 (fun _ _ _ _ => rfl) (by decide) (by omega) (by decide) ?_
  refine an_top (e' := nI (t)) (by rw [hR.2.1 _ (by omega), e0]; rfl) ?_
  refine an_iconst 4 d150_10 rfl ?_
  refine an_idiv d150_11 (by omega) (by omega) (by omega) ?_
  refine as_istore d150_12 (by decide) ?_
  refine as_aload_n d150_14 rfl ?_
  refine ap_get d150_15 f150_13 (by decide) rfl rfl ?_
  refine an_iconst 4 d150_18 rfl ?_
  refine as_iload_n d150_19 rfl ?_
  refine an_imul d150_20 ?_
  refine as_iload_n d150_21 rfl ?_
  refine an_iadd d150_22 ?_
  refine ap_iald d150_23 (fun _ _ _ _ => rfl) (by decide) (by omega) (by decide) ?_
  refine an_top (e' := nI (go (((4) * (s)) + (c)))) (hR.2.2 _ _ _ (by omega) e0 (by omega)) ?_
  refine as_istore d150_24 (by decide) ?_
  refine an_iconst 0 d150_26 rfl ?_
  refine as_istore d150_27 (by decide) ?_
  refine AW.loc [(0, .ref (189)), (1, .int (nI (s))), (2, .int (nI (c))), (3, .int (nI ((s) / (4)))), (4, .int (nI ((t) / (4)))), (5, .int (nI (go (((4) * (s)) + (c))))), (6, .int (nI (0)))] (am_pick [4, 5, 6, 3, 2, 1, 0] rfl rfl) ?_
  refine aw_for (fun i => ((29, [(0, .ref (189)), (1, .int (nI (s))), (2, .int (nI (c))), (3, .int (nI (s / 4))), (4, .int (nI (t / 4))), (5, .int (nI (go (4 * s + c)))), (6, .int (nI (i)))], [], 208, HP (sRow S 202 0 (fun _ => nI 0) (i)), 0, 0) : am_Z)) (21) (by rw [sRow_0]) (fun i hi ih => ?_) ?_
  · refine as_iload d150_29 rfl ?_
    refine an_bipush 21 d150_31 rfl ?_
    refine an_icmp_ge 50 d150_33 (by decide) (by omega) (by omega) (fun c33 => by omega) (fun c33 => ?_)
    refine as_aload_n d150_36 rfl ?_
    refine ap_get d150_37 f150_48 (by decide) rfl rfl ?_
    refine as_iload d150_40 rfl ?_
    refine an_iconst 0 d150_42 rfl ?_
    refine ap_iast d150_43 (fun _ _ _ _ => rfl) (by decide) (by omega) (by decide) ?_
    refine an_iinc 1 d150_44 rfl rfl (by decide) ?_
    refine as_goto 29 d150_47 (by decide) ?_
    refine AW.loc [(0, .ref (189)), (1, .int (nI (s))), (2, .int (nI (c))), (3, .int (nI (s / 4))), (4, .int (nI (t / 4))), (5, .int (nI (go (4 * s + c)))), (6, .int (nI (i + 1)))] (am_pick [1, 2, 3, 4, 5, 6, 0] rfl rfl) ?_
    have eS : sRow S 202 0 (fun _ => nI 0) (i + 1) = (sRow S 202 0 (fun _ => nI 0) (i)).sa 202 (i) (nI (0)) := by rw [sRow_s, Nat.zero_add]
    rw [eS] at ih
    exact ih
  · refine as_iload d150_29 rfl ?_
    refine an_bipush 21 d150_31 rfl ?_
    refine an_icmp_ge 50 d150_33 (by decide) (by omega) (by omega) (fun c33 => ?_) (fun c33 => by omega)
    refine as_aload_n d150_50 rfl ?_
    refine ap_get d150_51 f150_48 (by decide) rfl rfl ?_
    refine an_bipush 7 d150_54 rfl ?_
    refine as_iload_n d150_56 rfl ?_
    refine an_imul d150_57 ?_
    refine as_iload_n d150_58 rfl ?_
    refine an_iadd d150_59 ?_
    refine as_dup2 d150_60 rfl rfl ?_
    refine ap_iald d150_61 (fun _ _ _ _ => rfl) (by decide) (by omega) (by decide) ?_
    refine an_iconst 1 d150_62 rfl ?_
    refine as_iadd d150_63 ?_
    refine ap_iast d150_64 (fun _ _ _ _ => rfl) (by decide) (by omega) (by decide) ?_
    refine as_aload_n d150_65 rfl ?_
    refine ap_get d150_66 f150_48 (by decide) rfl rfl ?_
    refine an_bipush 7 d150_69 rfl ?_
    refine as_iload_n d150_71 rfl ?_
    refine an_imul d150_72 ?_
    refine an_iconst 4 d150_73 rfl ?_
    refine an_iadd d150_74 ?_
    refine as_iload_n d150_75 rfl ?_
    refine as_iload_n d150_76 rfl ?_
    refine an_iconst 4 d150_77 rfl ?_
    refine an_irem d150_78 (by omega) (by omega) (by omega) ?_
    refine ac_s2 d150_79 c150_186 (by decide) (Nat.le_of_ble_eq_true rfl) (mc_kindOf X _ _ _ (by omega) (by omega) (by omega)) ?_
    refine an_iadd d150_82 ?_
    refine as_dup2 d150_83 rfl rfl ?_
    refine ap_iald d150_84 (fun _ _ _ _ => rfl) (by decide) (by omega) (by decide) ?_
    refine an_iconst 1 d150_85 rfl ?_
    refine as_iadd d150_86 ?_
    refine ap_iast d150_87 (fun _ _ _ _ => rfl) (by decide) (by omega) (by decide) ?_
    refine as_aload_n d150_88 rfl ?_
    refine ap_get d150_89 f150_48 (by decide) rfl rfl ?_
    refine an_bipush 7 d150_92 rfl ?_
    refine as_iload d150_94 rfl ?_
    refine an_imul d150_96 ?_
    refine as_iload d150_97 rfl ?_
    refine an_iadd d150_99 ?_
    refine as_dup2 d150_100 rfl rfl ?_
    refine ap_iald d150_101 (fun _ _ _ _ => rfl) (by decide) (by omega) (by decide) ?_
    refine an_iconst 1 d150_102 rfl ?_
    refine as_isub d150_103 ?_
    refine ap_iast d150_104 (fun _ _ _ _ => rfl) (by decide) (by omega) (by decide) ?_
    refine as_aload_n d150_105 rfl ?_
    refine ap_get d150_106 f150_48 (by decide) rfl rfl ?_
    refine an_bipush 7 d150_109 rfl ?_
    refine as_iload d150_111 rfl ?_
    refine an_imul d150_113 ?_
    refine an_iconst 4 d150_114 rfl ?_
    refine an_iadd d150_115 ?_
    refine as_iload d150_116 rfl ?_
    refine as_aload_n d150_118 rfl ?_
    skip
    refine ap_get d150_119 f150_7 (by decide) rfl rfl ?_
    refine as_iload_n d150_122 rfl ?_
    refine ap_iald d150_123 (fun _ _ _ _ => rfl) (by decide) (by omega) (by decide) ?_
    refine an_top (e' := nI (t)) (by rw [sa_row _ _ _ _ (by decide), sa_row _ _ _ _ (by decide), sa_row _ _ _ _ (by decide), sRow_row _ _ _ _ _ (by decide), hR.2.1 _ (by omega), e0]; rfl) ?_
    refine an_iconst 4 d150_124 rfl ?_
    refine an_irem d150_125 (by omega) (by omega) (by omega) ?_
    refine ac_s2 d150_126 c150_186 (by decide) (Nat.le_of_ble_eq_true rfl) (mc_kindOf X _ _ _ (by omega) (by omega) (by omega)) ?_
    refine an_iadd d150_129 ?_
    refine as_dup2 d150_130 rfl rfl ?_
    refine ap_iald d150_131 (fun _ _ _ _ => rfl) (by decide) (by omega) (by decide) ?_
    refine an_iconst 1 d150_132 rfl ?_
    refine as_isub d150_133 ?_
    refine ap_iast d150_134 (fun _ _ _ _ => rfl) (by decide) (by omega) (by decide) ?_
    refine as_return d150_135 t150 ?_
    refine ⟨_, _, rfl, rfl, ⟨rfl, ?_, ?_⟩, ?_, ?_⟩
    · rw [sa_row _ _ _ _ (by decide), sa_row _ _ _ _ (by decide), sa_row _ _ _ _ (by decide), sa_row _ _ _ _ (by decide), sRow_row _ _ _ _ _ (by decide)]
    · rw [sa_row _ _ _ _ (by decide), sa_row _ _ _ _ (by decide), sa_row _ _ _ _ (by decide), sa_row _ _ _ _ (by decide), sRow_row _ _ _ _ _ (by decide)]
    · exact (((((lKeep.rf S).row (by omega) _ _ _).sa (by omega) _ _).sa (by omega) _ _).sa (by omega) _ _).sa (by omega) _ _
    · exact fun i hi => eq_lay S _ _ _ _ _ _ _ _ rfl rfl rfl rfl i hi
theorem any_stop (q : Nat → Bool) : ∀ n, ∃ m, m ≤ n ∧ (∀ i, i < m → 1 - anyN q i = 1) ∧ anyN q m = anyN q n ∧ (m < n → 1 - anyN q m = 0)
  | 0 => ⟨0, Nat.le_refl _, fun i hi => by omega, rfl, fun h => by omega⟩
  | n + 1 => by
    obtain ⟨m, h1, h2, h3, h4⟩ := any_stop q n
    by_cases hz : anyN q n = 0
    · have hm : ∀ i, i < n + 1 → 1 - anyN q i = 1 := by
        intro i hi
        have : anyN q i = 0 := by
          unfold anyN at hz ⊢
          have hc := cnt_mono q (show i ≤ n by omega)
          by_cases hzz : cnt q n = 0
          · rw [if_pos (by omega)]
          · rw [if_neg hzz] at hz
            cases hz
        omega
      exact ⟨n + 1, Nat.le_refl _, hm, rfl, fun h => by omega⟩
    · exact ⟨m, by omega, h2, h3.trans (by rw [anyN_s hz]; have := anyN_lt q n; omega), fun _ => by have := anyN_lt q n; omega⟩
/-! side and supportOf, told by numbers -/
/-- rows of numbers are held -/
def RH (S : MS) (P n : Nat) (R : Nat → Nat → Nat) : Prop := S.1 189 14 = nI n ∧ ∀ r, r < n → ∀ i, i < 7 * P → S.2.1 200 (21 * r + i) = nI (R r i)
def exV (s t c d : Nat) (v : Nat → Nat) : Int := (v (eqA1 s c) : Int) + v (eqA2 s c) - v (eqA1 t d) - v (eqA2 t d)
def pick (v : Nat → Nat) (a n : Nat) : Int32 := if a < n then nI (v a) else 0
theorem pick_s (v : Nat → Nat) (a n : Nat) : pick v a (n + 1) = pick v a n + dl a n * nI (v n) := by
  unfold pick dl
  by_cases h : a < n
  · rw [if_pos (by omega), if_pos h, if_neg (by omega), Int32.zero_mul, Int32.add_zero]
  · rw [if_neg h]
    by_cases h2 : a = n
    · subst h2
      rw [if_pos (by omega), if_pos rfl, Int32.one_mul, Int32.zero_add]
    · rw [if_neg (by omega), if_neg (by omega), Int32.zero_mul, Int32.add_zero]
theorem side_pick {S : MS} {r a1 a2 b1 b2 : Nat} {v : Nat → Nat} : ∀ n, (∀ i, i < n → S.2.1 202 i = eqC a1 a2 b1 b2 i ∧ S.2.1 200 (21 * r + i) = nI (v i)) → sideS S r n = pick v a1 n + pick v a2 n - pick v b1 n - pick v b2 n
  | 0, _ => by
    unfold sideS pick
    simp
    rfl
  | n + 1, h => by
    have ih := side_pick n (fun i hi => h i (by omega))
    obtain ⟨h1, h2⟩ := h n (by omega)
    rw [sideS_s, ih, h1, h2, pick_s, pick_s, pick_s, pick_s]
    unfold eqC
    grind
theorem side_ex {S : MS} {P n r s t c d : Nat} {R : Nat → Nat → Nat} (hE : EQ S s t c d) (hH : RH S P n R) (hP : P ≤ 3) (hr : r < n) (h1 : eqA1 s c < 7 * P) (h2 : eqA2 s c < 7 * P) (h3 : eqA1 t d < 7 * P) (h4 : eqA2 t d < 7 * P) : sideS S r (7 * P) = zI (exV s t c d (R r)) := by
  rw [side_pick (v := R r) (7 * P) (fun i hi => ⟨hE i (by omega), hH.2 r hr i hi⟩)]
  unfold pick exV
  rw [if_pos h1, if_pos h2, if_pos h3, if_pos h4, ← zI_nat, ← zI_nat, ← zI_nat, ← zI_nat, zI_add, zI_sub, zI_sub]
def sOf (v : Nat → Nat) : Nat → Int32
  | 0 => nI 0
  | i + 1 => sOf v i ||| (if v i = 0 then nI 0 else nI 1 <<< (nI i &&& 31))
theorem supp_sOf {S : MS} {r : Nat} {v : Nat → Nat} : ∀ n, (∀ i, i < n → S.2.1 200 (21 * r + i) = nI (v i) ∧ v i < 2 ^ 31) → suppS S r n = sOf v n
  | 0, _ => rfl
  | n + 1, h => by
    have ih := supp_sOf n (fun i hi => h i (by omega))
    obtain ⟨h1, h2⟩ := h n (by omega)
    rw [suppS_s, ih, h1]
    unfold sOf
    by_cases h3 : v n = 0
    · rw [if_pos h3, if_pos ((nI_z h2).mpr h3)]
      cases n <;> rfl
    · rw [if_neg h3, if_neg (fun e => h3 ((nI_z h2).mp e))]
      cases n <;> rfl
def RB (P n : Nat) (R : Nat → Nat → Nat) (B : Nat) : Prop := ∀ r, r < n → ∀ i, i < 7 * P → R r i ≤ B
theorem mc_supp (X : am_X) (S : MS) (P n r : Nat) (R : Nat → Nat → Nat) (B : Nat) (hP : P ≤ 3) (hp : S.1 189 0 = nI P) (hn : n ≤ 2000) (hr : r < n) (hH : RH S P n R) (hB : RB P n R B) (hB2 : B < 2 ^ 31) : MC X 152 [.ref 189, .int (nI r)] S (some (.int (sOf (R r) (7 * P)))) S := by
  have h := mc_supportOf X S P r hP hp (by omega)
  rw [supp_sOf (v := R r) (7 * P) (fun i hi => ⟨hH.2 r hr i hi, Nat.lt_of_le_of_lt (hB r hr i hi) hB2⟩)] at h
  exact h
/-- no other row lies within both -/
def bes (R : Nat → Nat → Nat) (w a b : Nat) (x : Int32) (r : Nat) : Bool := decide (r ≠ a ∧ r ≠ b ∧ sOf (R r) w &&& (x ^^^ (-1)) = 0)
theorem mc_areBeside (X : am_X) (S : MS) (P n a b : Nat) (x : Int32) (R : Nat → Nat → Nat) (B : Nat) (hP : P ≤ 3) (hp : S.1 189 0 = nI P) (hn : n ≤ 2000) (ha : a < n) (hb : b < n) (hH : RH S P n R) (hB : RB P n R B) (hB2 : B < 2 ^ 31) : MC X 154 [.ref (189), .int (nI (a)), .int (nI (b)), .int (x)] S (some (.int (nI (1 - anyN (bes R (7 * P) a b x) n)))) S := by
  obtain ⟨m, hm, hz, hx, hy⟩ := any_stop (bes R (7 * P) a b x) n
  refine MC.of (Nat.le_of_ble_eq_true rfl) ?_
  refine an_iconst 1 d154_0 rfl ?_
  refine as_istore d154_1 (by decide) ?_
  refine an_iconst 0 d154_3 rfl ?_
  refine as_istore d154_4 (by decide) ?_
  refine AW.loc [(0, .ref (189)), (1, .int (nI (a))), (2, .int (nI (b))), (3, .int (x)), (4, .int (nI (1))), (5, .int (nI (0)))] (am_pick [2, 3, 4, 5, 1, 0] rfl rfl) ?_
  refine aw_for (fun i => ((6, [(0, .ref (189)), (1, .int (nI (a))), (2, .int (nI (b))), (3, .int (x)), (4, .int (nI (1 - anyN (bes R (7 * P) a b x) (i)))), (5, .int (nI (i)))], [], 208, HP (S), 0, 0) : am_Z)) (m) (rfl) (fun i hi ih => ?_) ?_
  · refine as_iload d154_6 rfl ?_
    refine as_aload_n d154_8 rfl ?_
    refine ap_get d154_9 f154_189 (by decide) rfl rfl ?_
    refine an_top (e' := nI (n)) (hH.1) ?_
    refine an_icmp_ge 58 d154_12 (by decide) (by omega) (by omega) (fun c12 => by omega) (fun c12 => ?_)
    refine as_iload d154_15 rfl ?_
    refine an_if_eq 58 d154_17 (by decide) (by omega) (fun c17 => by have := hz i hi; omega) (fun c17 => ?_)
    refine as_iload d154_20 rfl ?_
    refine as_iload_n d154_22 rfl ?_
    refine an_icmp_eq 45 d154_23 (by decide) (by omega) (by omega) (fun c23 => ?_) (fun c23 => ?_)
    · refine an_iconst 1 d154_45 rfl ?_
      refine as_goto 50 d154_46 (by decide) ?_
      refine as_istore d154_50 (by decide) ?_
      refine an_iinc 1 d154_52 rfl rfl (by decide) ?_
      refine as_goto 6 d154_55 (by decide) ?_
      refine AW.loc [(0, .ref (189)), (1, .int (nI (a))), (2, .int (nI (b))), (3, .int (x)), (4, .int (nI (1))), (5, .int (nI (i + 1)))] (am_pick [2, 3, 4, 5, 1, 0] rfl rfl) ?_
      have e4 : 1 - anyN (bes R (7 * P) a b x) (i + 1) = 1 := by first | exact an1_f (by have := hz i hi; omega) (fun h => (of_decide_eq_true h).1 c23) | exact an1_f (by have := hz i hi; omega) (fun h => (of_decide_eq_true h).2.1 c29) | exact an1_f (by have := hz i hi; omega) (fun h => c42 (of_decide_eq_true h).2.2) | exact an1_t (decide_eq_true ⟨c23, c29, c42⟩)
      rw [e4] at ih
      exact ih
    · refine as_iload d154_26 rfl ?_
      refine as_iload_n d154_28 rfl ?_
      refine an_icmp_eq 45 d154_29 (by decide) (by omega) (by omega) (fun c29 => ?_) (fun c29 => ?_)
      · refine an_iconst 1 d154_45 rfl ?_
        refine as_goto 50 d154_46 (by decide) ?_
        refine as_istore d154_50 (by decide) ?_
        refine an_iinc 1 d154_52 rfl rfl (by decide) ?_
        refine as_goto 6 d154_55 (by decide) ?_
        refine AW.loc [(0, .ref (189)), (1, .int (nI (a))), (2, .int (nI (b))), (3, .int (x)), (4, .int (nI (1))), (5, .int (nI (i + 1)))] (am_pick [2, 3, 4, 5, 1, 0] rfl rfl) ?_
        have e4 : 1 - anyN (bes R (7 * P) a b x) (i + 1) = 1 := by first | exact an1_f (by have := hz i hi; omega) (fun h => (of_decide_eq_true h).1 c23) | exact an1_f (by have := hz i hi; omega) (fun h => (of_decide_eq_true h).2.1 c29) | exact an1_f (by have := hz i hi; omega) (fun h => c42 (of_decide_eq_true h).2.2) | exact an1_t (decide_eq_true ⟨c23, c29, c42⟩)
        rw [e4] at ih
        exact ih
      · refine as_aload_n d154_32 rfl ?_
        refine as_iload d154_33 rfl ?_
        refine ac_v1 d154_35 c154_192 (by decide) rfl (Nat.le_of_ble_eq_true rfl) (mc_supp X _ P n _ R B hP hp hn (by omega) hH hB hB2) ?_
        refine as_iload_n d154_38 rfl ?_
        refine an_iconstI (-1) d154_39 rfl ?_
        refine as_ixor d154_40 ?_
        refine as_iand d154_41 ?_
        refine as_if_eq 49 d154_42 (by decide) (fun c42 => ?_) (fun c42 => ?_)
        · refine an_iconst 0 d154_49 rfl ?_
          refine as_istore d154_50 (by decide) ?_
          refine an_iinc 1 d154_52 rfl rfl (by decide) ?_
          refine as_goto 6 d154_55 (by decide) ?_
          refine AW.loc [(0, .ref (189)), (1, .int (nI (a))), (2, .int (nI (b))), (3, .int (x)), (4, .int (nI (0))), (5, .int (nI (i + 1)))] (am_pick [2, 3, 4, 5, 1, 0] rfl rfl) ?_
          have e4 : 1 - anyN (bes R (7 * P) a b x) (i + 1) = 0 := by first | exact an1_f (by have := hz i hi; omega) (fun h => (of_decide_eq_true h).1 c23) | exact an1_f (by have := hz i hi; omega) (fun h => (of_decide_eq_true h).2.1 c29) | exact an1_f (by have := hz i hi; omega) (fun h => c42 (of_decide_eq_true h).2.2) | exact an1_t (decide_eq_true ⟨c23, c29, c42⟩)
          rw [e4] at ih
          exact ih
        · refine an_iconst 1 d154_45 rfl ?_
          refine as_goto 50 d154_46 (by decide) ?_
          refine as_istore d154_50 (by decide) ?_
          refine an_iinc 1 d154_52 rfl rfl (by decide) ?_
          refine as_goto 6 d154_55 (by decide) ?_
          refine AW.loc [(0, .ref (189)), (1, .int (nI (a))), (2, .int (nI (b))), (3, .int (x)), (4, .int (nI (1))), (5, .int (nI (i + 1)))] (am_pick [2, 3, 4, 5, 1, 0] rfl rfl) ?_
          have e4 : 1 - anyN (bes R (7 * P) a b x) (i + 1) = 1 := by first | exact an1_f (by have := hz i hi; omega) (fun h => (of_decide_eq_true h).1 c23) | exact an1_f (by have := hz i hi; omega) (fun h => (of_decide_eq_true h).2.1 c29) | exact an1_f (by have := hz i hi; omega) (fun h => c42 (of_decide_eq_true h).2.2) | exact an1_t (decide_eq_true ⟨c23, c29, c42⟩)
          rw [e4] at ih
          exact ih
  · refine as_iload d154_6 rfl ?_
    refine as_aload_n d154_8 rfl ?_
    refine ap_get d154_9 f154_189 (by decide) rfl rfl ?_
    refine an_top (e' := nI (n)) (hH.1) ?_
    refine an_icmp_ge 58 d154_12 (by decide) (by omega) (by omega) (fun c12 => ?_) (fun c12 => ?_)
    · refine as_iload d154_58 rfl ?_
      refine as_ireturn d154_60 (by rw [t154]; have := anyN_lt (bes R (7 * P) a b x) m; rcases (show 1 - anyN (bes R (7 * P) a b x) m = 0 ∨ 1 - anyN (bes R (7 * P) a b x) m = 1 by omega) with e | e <;> rw [e] <;> rfl) ?_
      refine am_req (congrArg nI ?_)
      rw [hx]
    · refine as_iload d154_15 rfl ?_
      refine an_if_eq 58 d154_17 (by decide) (by omega) (fun c17 => ?_) (fun c17 => absurd (hy c12) c17)
      refine as_iload d154_58 rfl ?_
      refine as_ireturn d154_60 (by rw [t154]; have := anyN_lt (bes R (7 * P) a b x) m; rcases (show 1 - anyN (bes R (7 * P) a b x) m = 0 ∨ 1 - anyN (bes R (7 * P) a b x) m = 1 by omega) with e | e <;> rw [e] <;> rfl) ?_
      refine am_req (congrArg nI ?_)
      rw [hx]
