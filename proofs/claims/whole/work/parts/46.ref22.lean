/-! the reference: isBefore, swap, findLeast -/
def eqN (u v : Nat → Nat) : Nat → Bool
  | 0 => true
  | n + 1 => eqN u v n && decide (u n = v n)
def bef (u v : Nat → Nat) : Nat → Bool
  | 0 => false
  | n + 1 => bef u v n || (eqN u v n && decide (u n < v n))
theorem eqN_iff {u v : Nat → Nat} : ∀ n, eqN u v n = true ↔ ∀ j, j < n → u j = v j
  | 0 => ⟨fun _ j h => by omega, fun _ => rfl⟩
  | n + 1 => by
    unfold eqN
    rw [Bool.and_eq_true, eqN_iff n, decide_eq_true_iff]
    constructor
    · intro h j hj
      by_cases e : j = n
      · subst e; exact h.2
      · exact h.1 j (by omega)
    · exact fun h => ⟨fun j hj => h j (by omega), h n (by omega)⟩
theorem bef_iff {u v : Nat → Nat} : ∀ n, bef u v n = true ↔ ∃ i, i < n ∧ (∀ j, j < i → u j = v j) ∧ u i < v i
  | 0 => ⟨fun h => (by cases h), fun ⟨i, h, _⟩ => by omega⟩
  | n + 1 => by
    unfold bef
    rw [Bool.or_eq_true, Bool.and_eq_true, bef_iff n, eqN_iff, decide_eq_true_iff]
    constructor
    · rintro (⟨i, h1, h2⟩ | ⟨h1, h2⟩)
      · exact ⟨i, by omega, h2⟩
      · exact ⟨n, by omega, h1, h2⟩
    · rintro ⟨i, h1, h2, h3⟩
      by_cases e : i = n
      · subst e; exact Or.inr ⟨h2, h3⟩
      · exact Or.inl ⟨i, by omega, h2, h3⟩
/-- where two rows differ first, or the last place -/
theorem lex_stop (u v : Nat → Nat) : ∀ w, ∃ m, m ≤ w ∧ (∀ j, j < m → u j = v j) ∧ (m < w → u m ≠ v m)
  | 0 => ⟨0, Nat.le_refl _, fun j h => by omega, fun h => by omega⟩
  | w + 1 => by
    obtain ⟨m, h1, h2, h3⟩ := lex_stop u v w
    by_cases e : m = w
    · subst e
      by_cases e2 : u m = v m
      · refine ⟨m + 1, Nat.le_refl _, fun j hj => ?_, fun h => by omega⟩
        by_cases e3 : j = m
        · subst e3; exact e2
        · exact h2 j (by omega)
      · exact ⟨m, by omega, h2, fun _ => e2⟩
    · exact ⟨m, by omega, h2, fun _ => h3 (by omega)⟩
theorem lex_bef {u v : Nat → Nat} {w m : Nat} (hw : 0 < w) (h1 : m ≤ w - 1) (h2 : ∀ j, j < m → u j = v j) (h3 : m < w - 1 → u m ≠ v m) : bef u v w = true ↔ u m < v m := by
  rw [bef_iff]
  constructor
  · rintro ⟨i, g1, g2, g3⟩
    by_cases e : i = m
    · subst e; exact g3
    · by_cases e2 : i < m
      · have := h2 i e2; omega
      · exact absurd (g2 m (by omega)) (h3 (by omega))
  · exact fun h => ⟨m, by omega, h2, h⟩
theorem mc_isBefore (X : am_X) (S : MS) (P n a b : Nat) (R : Nat → Nat → Nat) (B : Nat) (hP : P ≤ 3) (hP1 : 0 < P) (hp : S.1 189 0 = nI P) (hn : n ≤ 2000) (ha : a < n) (hb : b < n) (hH : RH S P n R) (hB : RB P n R B) (hB2 : B < 2 ^ 31) : MC X 158 [.ref (189), .int (nI (a)), .int (nI (b))] S (some (.int (if bef (R a) (R b) (7 * P) = true then 1 else 0))) S := by
  obtain ⟨m, h1, h2, h3⟩ := lex_stop (R a) (R b) (7 * P - 1)
  refine MC.of (Nat.le_of_ble_eq_true rfl) ?_
  refine an_iconst 0 d158_0 rfl ?_
  refine as_istore_n d158_1 (by decide) ?_
  refine AW.loc [(0, .ref (189)), (1, .int (nI (a))), (2, .int (nI (b))), (3, .int (nI (0)))] (am_pick [1, 2, 3, 0] rfl rfl) ?_
  refine aw_for (fun i => ((2, [(0, .ref (189)), (1, .int (nI (a))), (2, .int (nI (b))), (3, .int (nI (i)))], [], 208, HP (S), 0, 0) : am_Z)) (m) (rfl) (fun i hi ih => ?_) ?_
  · refine as_iload_n d158_2 rfl ?_
    refine an_bipush 7 d158_3 rfl ?_
    refine as_aload_n d158_5 rfl ?_
    refine ap_get d158_6 f158_67 (by decide) rfl rfl ?_
    refine an_top (e' := nI (P)) (hp) ?_
    refine an_imul d158_9 ?_
    refine an_iconst 1 d158_10 rfl ?_
    refine an_isub d158_11 (by omega) ?_
    refine an_icmp_ge 46 d158_12 (by decide) (by omega) (by omega) (fun c12 => by omega) (fun c12 => ?_)
    refine as_aload_n d158_15 rfl ?_
    refine ap_get d158_16 f158_42 (by decide) rfl rfl ?_
    refine an_bipush 21 d158_19 rfl ?_
    refine as_iload_n d158_21 rfl ?_
    refine an_imul d158_22 ?_
    refine as_iload_n d158_23 rfl ?_
    refine an_iadd d158_24 ?_
    refine ap_iald d158_25 (fun _ _ _ _ => rfl) (by decide) (by omega) (by decide) ?_
    refine an_top (e' := nI (R (a) (i))) (hH.2 _ (by omega) _ (by omega)) ?_
    refine as_aload_n d158_26 rfl ?_
    refine ap_get d158_27 f158_42 (by decide) rfl rfl ?_
    refine an_bipush 21 d158_30 rfl ?_
    refine as_iload_n d158_32 rfl ?_
    refine an_imul d158_33 ?_
    refine as_iload_n d158_34 rfl ?_
    refine an_iadd d158_35 ?_
    refine ap_iald d158_36 (fun _ _ _ _ => rfl) (by decide) (by omega) (by decide) ?_
    refine an_top (e' := nI (R (b) (i))) (hH.2 _ (by omega) _ (by omega)) ?_
    refine an_icmp_ne 46 d158_37 (by decide) (by have := hB a ha i (by omega); omega) (by have := hB b hb i (by omega); omega) (fun c37 => absurd (h2 i hi) c37) (fun c37 => ?_)
    refine an_iinc 1 d158_40 rfl rfl (by decide) ?_
    refine as_goto 2 d158_43 (by decide) ?_
    refine AW.loc [(0, .ref (189)), (1, .int (nI (a))), (2, .int (nI (b))), (3, .int (nI (i + 1)))] (am_pick [1, 2, 3, 0] rfl rfl) ?_
    exact ih
  · refine as_iload_n d158_2 rfl ?_
    refine an_bipush 7 d158_3 rfl ?_
    refine as_aload_n d158_5 rfl ?_
    refine ap_get d158_6 f158_67 (by decide) rfl rfl ?_
    refine an_top (e' := nI (P)) (hp) ?_
    refine an_imul d158_9 ?_
    refine an_iconst 1 d158_10 rfl ?_
    refine an_isub d158_11 (by omega) ?_
    refine an_icmp_ge 46 d158_12 (by decide) (by omega) (by omega) (fun c12 => ?_) (fun c12 => ?_)
    · refine as_aload_n d158_46 rfl ?_
      refine ap_get d158_47 f158_42 (by decide) rfl rfl ?_
      refine an_bipush 21 d158_50 rfl ?_
      refine as_iload_n d158_52 rfl ?_
      refine an_imul d158_53 ?_
      refine as_iload_n d158_54 rfl ?_
      refine an_iadd d158_55 ?_
      refine ap_iald d158_56 (fun _ _ _ _ => rfl) (by decide) (by omega) (by decide) ?_
      refine an_top (e' := nI (R (a) (m))) (hH.2 _ (by omega) _ (by omega)) ?_
      refine as_aload_n d158_57 rfl ?_
      refine ap_get d158_58 f158_42 (by decide) rfl rfl ?_
      refine an_bipush 21 d158_61 rfl ?_
      refine as_iload_n d158_63 rfl ?_
      refine an_imul d158_64 ?_
      refine as_iload_n d158_65 rfl ?_
      refine an_iadd d158_66 ?_
      refine ap_iald d158_67 (fun _ _ _ _ => rfl) (by decide) (by omega) (by decide) ?_
      refine an_top (e' := nI (R (b) (m))) (hH.2 _ (by omega) _ (by omega)) ?_
      refine an_icmp_ge 75 d158_68 (by decide) (by have := hB a ha m (by omega); omega) (by have := hB b hb m (by omega); omega) (fun c68 => ?_) (fun c68 => ?_)
      · refine an_iconst 0 d158_75 rfl ?_
        refine as_ireturn d158_76 (by rw [t158]; rfl) ?_
        refine am_req ?_
        have q := lex_bef (u := R a) (v := R b) (w := 7 * P) (by omega) h1 h2 h3
        first | (rw [if_pos (q.mpr (by omega))]; rfl) | (rw [if_neg (fun g => absurd (q.mp g) (by omega))]; rfl)
      · refine an_iconst 1 d158_71 rfl ?_
        refine as_goto 76 d158_72 (by decide) ?_
        refine as_ireturn d158_76 (by rw [t158]; rfl) ?_
        refine am_req ?_
        have q := lex_bef (u := R a) (v := R b) (w := 7 * P) (by omega) h1 h2 h3
        first | (rw [if_pos (q.mpr (by omega))]; rfl) | (rw [if_neg (fun g => absurd (q.mp g) (by omega))]; rfl)
    · refine as_aload_n d158_15 rfl ?_
      refine ap_get d158_16 f158_42 (by decide) rfl rfl ?_
      refine an_bipush 21 d158_19 rfl ?_
      refine as_iload_n d158_21 rfl ?_
      refine an_imul d158_22 ?_
      refine as_iload_n d158_23 rfl ?_
      refine an_iadd d158_24 ?_
      refine ap_iald d158_25 (fun _ _ _ _ => rfl) (by decide) (by omega) (by decide) ?_
      refine an_top (e' := nI (R (a) (m))) (hH.2 _ (by omega) _ (by omega)) ?_
      refine as_aload_n d158_26 rfl ?_
      refine ap_get d158_27 f158_42 (by decide) rfl rfl ?_
      refine an_bipush 21 d158_30 rfl ?_
      refine as_iload_n d158_32 rfl ?_
      refine an_imul d158_33 ?_
      refine as_iload_n d158_34 rfl ?_
      refine an_iadd d158_35 ?_
      refine ap_iald d158_36 (fun _ _ _ _ => rfl) (by decide) (by omega) (by decide) ?_
      refine an_top (e' := nI (R (b) (m))) (hH.2 _ (by omega) _ (by omega)) ?_
      refine an_icmp_ne 46 d158_37 (by decide) (by have := hB a ha m (by omega); omega) (by have := hB b hb m (by omega); omega) (fun c37 => ?_) (fun c37 => absurd c37 (h3 (by omega)))
      refine as_aload_n d158_46 rfl ?_
      refine ap_get d158_47 f158_42 (by decide) rfl rfl ?_
      refine an_bipush 21 d158_50 rfl ?_
      refine as_iload_n d158_52 rfl ?_
      refine an_imul d158_53 ?_
      refine as_iload_n d158_54 rfl ?_
      refine an_iadd d158_55 ?_
      refine ap_iald d158_56 (fun _ _ _ _ => rfl) (by decide) (by omega) (by decide) ?_
      refine an_top (e' := nI (R (a) (m))) (hH.2 _ (by omega) _ (by omega)) ?_
      refine as_aload_n d158_57 rfl ?_
      refine ap_get d158_58 f158_42 (by decide) rfl rfl ?_
      refine an_bipush 21 d158_61 rfl ?_
      refine as_iload_n d158_63 rfl ?_
      refine an_imul d158_64 ?_
      refine as_iload_n d158_65 rfl ?_
      refine an_iadd d158_66 ?_
      refine ap_iald d158_67 (fun _ _ _ _ => rfl) (by decide) (by omega) (by decide) ?_
      refine an_top (e' := nI (R (b) (m))) (hH.2 _ (by omega) _ (by omega)) ?_
      refine an_icmp_ge 75 d158_68 (by decide) (by have := hB a ha m (by omega); omega) (by have := hB b hb m (by omega); omega) (fun c68 => ?_) (fun c68 => ?_)
      · refine an_iconst 0 d158_75 rfl ?_
        refine as_ireturn d158_76 (by rw [t158]; rfl) ?_
        refine am_req ?_
        have q := lex_bef (u := R a) (v := R b) (w := 7 * P) (by omega) h1 h2 h3
        first | (rw [if_pos (q.mpr (by omega))]; rfl) | (rw [if_neg (fun g => absurd (q.mp g) (by omega))]; rfl)
      · refine an_iconst 1 d158_71 rfl ?_
        refine as_goto 76 d158_72 (by decide) ?_
        refine as_ireturn d158_76 (by rw [t158]; rfl) ?_
        refine am_req ?_
        have q := lex_bef (u := R a) (v := R b) (w := 7 * P) (by omega) h1 h2 h3
        first | (rw [if_pos (q.mpr (by omega))]; rfl) | (rw [if_neg (fun g => absurd (q.mp g) (by omega))]; rfl)
/-- two rows change places -/
def swp2 (R : Nat → Nat → Nat) (a b : Nat) (r : Nat) : Nat → Nat := if r = a then R b else if r = b then R a else R r
def swpT (R : Nat → Nat → Nat) (a b t : Nat) (r i : Nat) : Nat := if i < t then swp2 R a b r i else R r i
theorem mx_swap (X : am_X) (S : MS) (P n a b : Nat) (R : Nat → Nat → Nat) (hP : P ≤ 3) (hp : S.1 189 0 = nI P) (hn : n ≤ 2000) (ha : a < n) (hb : b < n) (hab : a ≠ b) (hH : RH S P n R) : ∃ T, MC X 159 [.ref (189), .int (nI (a)), .int (nI (b))] S none T ∧ lKeep S T ∧ RH T P n (swp2 R a b) := by
  have key := MX.mc (X := X) (mj := 159) (as := [.ref (189), .int (nI (a)), .int (nI (b))]) (S := S) (Post := fun v T => v = none ∧ lKeep S T ∧ RH T P n (swp2 R a b)) ?_
  · obtain ⟨v, T, g1, g2, g3⟩ := key
    subst g2
    exact ⟨T, g1, g3⟩
  refine MX.of (Nat.le_of_ble_eq_true rfl) ?_
  refine an_iconst 0 d159_0 rfl ?_
  refine as_istore_n d159_1 (by decide) ?_
  refine AW.loc [(0, .ref (189)), (1, .int (nI (a))), (2, .int (nI (b))), (3, .int (nI (0)))] (am_pick [1, 2, 3, 0] rfl rfl) ?_
  refine aw_fromE (fun i T => ((2, [(0, .ref (189)), (1, .int (nI (a))), (2, .int (nI (b))), (3, .int (nI (i)))], [], 208, HP (T), 0, 0) : am_Z)) (fun i T => lKeep S T ∧ RH T P n (swpT R a b (i))) (0) (7 * P) (by omega) (S) (rfl) (⟨lKeep.rf S, hH.1, fun r hr i hi => by unfold swpT; rw [if_neg (by omega)]; exact hH.2 r hr i hi⟩) (fun i T hi0 hi hI ih => ?_) (fun T hX => ?_)
  · refine as_iload_n d159_2 rfl ?_
    refine an_bipush 7 d159_3 rfl ?_
    refine as_aload_n d159_5 rfl ?_
    refine ap_get d159_6 f159_67 (by decide) rfl rfl ?_
    refine an_top (e' := nI (P)) ((hI.1.2.2 189 0 (by omega)).trans hp) ?_
    refine an_imul d159_9 ?_
    refine an_icmp_ge 67 d159_10 (by decide) (by omega) (by omega) (fun c10 => by omega) (fun c10 => ?_)
    refine as_aload_n d159_13 rfl ?_
    refine ap_get d159_14 f159_42 (by decide) rfl rfl ?_
    refine an_bipush 21 d159_17 rfl ?_
    refine as_iload_n d159_19 rfl ?_
    refine an_imul d159_20 ?_
    refine as_iload_n d159_21 rfl ?_
    refine an_iadd d159_22 ?_
    refine ap_iald d159_23 (fun _ _ _ _ => rfl) (by decide) (by omega) (by decide) ?_
    refine an_top (e' := nI (R a i)) (by rw [hI.2.2 a ha i hi]; unfold swpT; rw [if_neg (by omega)]) ?_
    refine as_istore d159_24 (by decide) ?_
    refine as_aload_n d159_26 rfl ?_
    refine ap_get d159_27 f159_42 (by decide) rfl rfl ?_
    refine an_bipush 21 d159_30 rfl ?_
    refine as_iload_n d159_32 rfl ?_
    refine an_imul d159_33 ?_
    refine as_iload_n d159_34 rfl ?_
    refine an_iadd d159_35 ?_
    refine as_aload_n d159_36 rfl ?_
    refine ap_get d159_37 f159_42 (by decide) rfl rfl ?_
    refine an_bipush 21 d159_40 rfl ?_
    refine as_iload_n d159_42 rfl ?_
    refine an_imul d159_43 ?_
    refine as_iload_n d159_44 rfl ?_
    refine an_iadd d159_45 ?_
    refine ap_iald d159_46 (fun _ _ _ _ => rfl) (by decide) (by omega) (by decide) ?_
    refine an_top (e' := nI (R b i)) (by rw [hI.2.2 b hb i hi]; unfold swpT; rw [if_neg (by omega)]) ?_
    refine ap_iast d159_47 (fun _ _ _ _ => rfl) (by decide) (by omega) (by decide) ?_
    refine as_aload_n d159_48 rfl ?_
    refine ap_get d159_49 f159_42 (by decide) rfl rfl ?_
    refine an_bipush 21 d159_52 rfl ?_
    refine as_iload_n d159_54 rfl ?_
    refine an_imul d159_55 ?_
    refine as_iload_n d159_56 rfl ?_
    refine an_iadd d159_57 ?_
    refine as_iload d159_58 rfl ?_
    refine ap_iast d159_60 (fun _ _ _ _ => rfl) (by decide) (by omega) (by decide) ?_
    refine an_iinc 1 d159_61 rfl rfl (by decide) ?_
    refine as_goto 2 d159_64 (by decide) ?_
    refine AW.loc [(0, .ref (189)), (1, .int (nI (a))), (2, .int (nI (b))), (3, .int (nI (i + 1)))] (am_pick [2, 3, 4, 0] rfl rfl) ?_
    have ih := ih (((T).sa 200 (((21) * (a)) + (i)) (nI (R b i))).sa 200 (((21) * (b)) + (i)) (nI (R a i))) (by
      refine ⟨(hI.1.sa (Or.inl rfl) _ _).sa (Or.inl rfl) _ _, hI.2.1, fun r hr j hj => ?_⟩
      rw [sa_at, sa_at]
      have hq := hI.2.2 r hr j hj
      by_cases q1 : r = b ∧ j = i
      · rw [if_pos (by omega)]
        obtain ⟨rfl, rfl⟩ := q1
        simp [swpT, swp2, Ne.symm hab]
      · rw [if_neg (by omega)]
        by_cases q2 : r = a ∧ j = i
        · rw [if_pos (by omega)]
          obtain ⟨rfl, rfl⟩ := q2
          simp [swpT, swp2]
        · rw [if_neg (by omega), hq]
          by_cases q3 : j = i
          · subst q3
            have q4 : r ≠ a := fun g => q2 ⟨g, rfl⟩
            have q5 : r ≠ b := fun g => q1 ⟨g, rfl⟩
            simp [swpT, swp2, q4, q5]
          · unfold swpT
            by_cases q4 : j < i
            · rw [if_pos q4, if_pos (by omega)]
            · rw [if_neg q4, if_neg (by omega)])
    exact ih
  · refine as_iload_n d159_2 rfl ?_
    refine an_bipush 7 d159_3 rfl ?_
    refine as_aload_n d159_5 rfl ?_
    refine ap_get d159_6 f159_67 (by decide) rfl rfl ?_
    refine an_top (e' := nI (P)) ((hX.1.2.2 189 0 (by omega)).trans hp) ?_
    refine an_imul d159_9 ?_
    refine an_icmp_ge 67 d159_10 (by decide) (by omega) (by omega) (fun c10 => ?_) (fun c10 => by omega)
    refine as_return d159_67 t159 ?_
    refine ⟨_, _, rfl, rfl, hX.1, hX.2.1, fun r hr i hi => ?_⟩
    rw [hX.2.2 r hr i hi]
    unfold swpT
    rw [if_pos hi]
/-! sorting -/
def insI (w : Nat) : Nat → (Nat → Nat → Nat) → (Nat → Nat → Nat)
  | 0, R => R
  | b + 1, R => if bef (R (b + 1)) (R b) w = true then insI w b (swp2 R (b + 1) b) else R
def sortR (w : Nat) (R : Nat → Nat → Nat) : Nat → (Nat → Nat → Nat)
  | 0 => R
  | a + 1 => insI w (a + 1) (sortR w R a)
theorem swp2_or (R : Nat → Nat → Nat) (n a b : Nat) (ha : a < n) (hb : b < n) (r : Nat) (hr : r < n) : ∃ q, q < n ∧ swp2 R a b r = R q := by
  unfold swp2
  split
  · exact ⟨b, hb, rfl⟩
  · split
    · exact ⟨a, ha, rfl⟩
    · exact ⟨r, hr, rfl⟩
theorem insI_or (w n : Nat) : ∀ b (R : Nat → Nat → Nat), b < n → ∀ r, r < n → ∃ q, q < n ∧ insI w b R r = R q
  | 0, R, _, r, hr => ⟨r, hr, rfl⟩
  | b + 1, R, hb, r, hr => by
    unfold insI
    split
    · obtain ⟨q, h1, h2⟩ := insI_or w n b (swp2 R (b + 1) b) (by omega) r hr
      obtain ⟨q', h3, h4⟩ := swp2_or R n (b + 1) b hb (by omega) q h1
      exact ⟨q', h3, h2.trans h4⟩
    · exact ⟨r, hr, rfl⟩
theorem sortR_or (w n : Nat) (R : Nat → Nat → Nat) : ∀ a, a < n → ∀ r, r < n → ∃ q, q < n ∧ sortR w R a r = R q
  | 0, _, r, hr => ⟨r, hr, rfl⟩
  | a + 1, ha, r, hr => by
    obtain ⟨q, h1, h2⟩ := insI_or w n (a + 1) (sortR w R a) ha r hr
    obtain ⟨q', h3, h4⟩ := sortR_or w n R a (by omega) q h1
    exact ⟨q', h3, h2.trans h4⟩
theorem RB.of_or {P n B : Nat} {R R' : Nat → Nat → Nat} (h : RB P n R B) (g : ∀ r, r < n → ∃ q, q < n ∧ R' r = R q) : RB P n R' B := by
  intro r hr i hi
  obtain ⟨q, h1, h2⟩ := g r hr
  rw [h2]
  exact h q h1 i hi
/-! the search -/
def unitR (r i : Nat) : Nat := if i = r then 1 else 0
abbrev DS : Type := Nat × (Nat → Nat → Nat)
def ddStep (P : Nat) (D : DS) (q : Nat × Nat × Nat × Nat) : DS := ((meetL D.2 P D.1 (fun r => exV q.1 q.2.1 q.2.2.1 q.2.2.2 (D.2 r))).length, meetR D.2 P D.1 (fun r => exV q.1 q.2.1 q.2.2.1 q.2.2.2 (D.2 r)))
def eqsC (s t : Nat) (go : Nat → Nat) : Nat → List (Nat × Nat × Nat × Nat)
  | 0 => []
  | c + 1 => eqsC s t go c ++ (if c = s % 4 then [] else [(s, t, c, go (4 * s + c))])
def eqsS (mt : Nat → Option Nat) (go : Nat → Nat) (s : Nat) : List (Nat × Nat × Nat × Nat) := match mt s with
  | none => []
  | some t => if s < t then eqsC s t go 4 else []
def eqs (mt : Nat → Option Nat) (go : Nat → Nat) : Nat → List (Nat × Nat × Nat × Nat)
  | 0 => []
  | s + 1 => eqs mt go s ++ eqsS mt go s
def dd (P : Nat) (l : List (Nat × Nat × Nat × Nat)) : DS := l.foldl (ddStep P) (7 * P, unitR)
theorem dd_app (P : Nat) (l : List (Nat × Nat × Nat × Nat)) (q : Nat × Nat × Nat × Nat) : dd P (l ++ [q]) = ddStep P (dd P l) q := by
  unfold dd
  rw [List.foldl_append]
  rfl
/-- few rows, small numbers, none all 0 -/
def DOk (P : Nat) (D : DS) : Prop := D.1 ≤ 64 ∧ RB P D.1 D.2 20000 ∧ RN P D.1 D.2
def DAll (P : Nat) (mt : Nat → Option Nat) (go : Nat → Nat) : Prop := ∀ l l', l ++ l' = eqs mt go (4 * P) → DOk P (dd P l)
theorem eqs_pre (mt : Nat → Option Nat) (go : Nat → Nat) {s n : Nat} (h : s ≤ n) : ∃ l', eqs mt go s ++ l' = eqs mt go n := by
  induction n with
  | zero => rw [show s = 0 by omega]; exact ⟨[], List.append_nil _⟩
  | succ n ih =>
    by_cases e : s = n + 1
    · subst e; exact ⟨[], List.append_nil _⟩
    · obtain ⟨l', h1⟩ := ih (by omega)
      exact ⟨l' ++ eqsS mt go n, by rw [← List.append_assoc, h1]; rfl⟩
theorem eqsC_pre (s t : Nat) (go : Nat → Nat) {c n : Nat} (h : c ≤ n) : ∃ l', eqsC s t go c ++ l' = eqsC s t go n := by
  induction n with
  | zero => rw [show c = 0 by omega]; exact ⟨[], List.append_nil _⟩
  | succ n ih =>
    by_cases e : c = n + 1
    · subst e; exact ⟨[], List.append_nil _⟩
    · obtain ⟨l', h1⟩ := ih (by omega)
      exact ⟨l' ++ (if n = s % 4 then [] else [(s, t, n, go (4 * s + n))]), by rw [← List.append_assoc, h1]; rfl⟩
theorem DAll.at {P : Nat} {mt : Nat → Option Nat} {go : Nat → Nat} (h : DAll P mt go) {s t c : Nat} (hs : s < 4 * P) (e0 : mt s = some t) (hst : s < t) (hc : c ≤ 4) : DOk P (dd P (eqs mt go s ++ eqsC s t go c)) := by
  obtain ⟨l1, h1⟩ := eqs_pre mt go (show s + 1 ≤ 4 * P by omega)
  obtain ⟨l2, h2⟩ := eqsC_pre s t go hc
  refine h _ (l2 ++ l1) ?_
  have h3 : eqsS mt go s = eqsC s t go 4 := by
    unfold eqsS
    rw [e0]
    exact if_pos hst
  rw [← h1, show eqs mt go (s + 1) = eqs mt go s ++ eqsS mt go s from rfl, h3, ← h2]
  simp only [List.append_assoc]
theorem DAll.at0 {P : Nat} {mt : Nat → Option Nat} {go : Nat → Nat} (h : DAll P mt go) {s : Nat} (hs : s ≤ 4 * P) : DOk P (dd P (eqs mt go s)) := by
  obtain ⟨l1, h1⟩ := eqs_pre mt go hs
  exact h _ l1 h1
theorem eqsS_n {mt : Nat → Option Nat} {go : Nat → Nat} {s : Nat} (e0 : mt s = none) : eqs mt go (s + 1) = eqs mt go s := by
  show eqs mt go s ++ eqsS mt go s = _
  unfold eqsS
  rw [e0]
  exact List.append_nil _
theorem eqsS_g {mt : Nat → Option Nat} {go : Nat → Nat} {s t : Nat} (e0 : mt s = some t) (h : t ≤ s) : eqs mt go (s + 1) = eqs mt go s := by
  show eqs mt go s ++ eqsS mt go s = _
  unfold eqsS
  rw [e0]
  show _ ++ (if s < t then _ else _) = _
  rw [if_neg (by omega)]
  exact List.append_nil _
theorem eqsS_l {mt : Nat → Option Nat} {go : Nat → Nat} {s t : Nat} (e0 : mt s = some t) (h : s < t) : eqs mt go (s + 1) = eqs mt go s ++ eqsC s t go 4 := by
  show eqs mt go s ++ eqsS mt go s = _
  unfold eqsS
  rw [e0]
  show _ ++ (if s < t then _ else _) = _
  rw [if_pos h]
theorem eqsC_e {s t : Nat} {go : Nat → Nat} {c : Nat} (h : c = s % 4) : eqsC s t go (c + 1) = eqsC s t go c := by
  show _ ++ _ = _
  rw [if_pos h, List.append_nil]
theorem eqsC_s {s t : Nat} {go : Nat → Nat} {c : Nat} (h : c ≠ s % 4) : eqsC s t go (c + 1) = eqsC s t go c ++ [(s, t, c, go (4 * s + c))] := by
  show _ ++ _ = _
  rw [if_neg h]
theorem eqA_lt {P s c : Nat} (hs : s < 4 * P) (hc : c < 4) (hcs : c ≠ s % 4) : eqA1 s c < 7 * P ∧ eqA2 s c < 7 * P := by
  unfold eqA1 eqA2
  have := kO_lt hc (show s % 4 < 4 by omega) hcs
  omega
set_option maxHeartbeats 4000000 in
theorem mx_findLeast (X : am_X) (S : MS) (P : Nat) (mt : Nat → Option Nat) (go : Nat → Nat) (hG : GW P mt go) (hR : RG S P mt go) (hD : DAll P mt go) : ∃ T, MC X 160 [.ref (189)] S none T ∧ lKeep S T ∧ RH T P (dd P (eqs mt go (4 * P))).1 (sortR (7 * P) (dd P (eqs mt go (4 * P))).2 ((dd P (eqs mt go (4 * P))).1 - 1)) := by
  have hP := hG.1
  have hp := hR.1
  have key := MX.mc (X := X) (mj := 160) (as := [.ref (189)]) (S := S) (Post := fun v T => v = none ∧ lKeep S T ∧ RH T P (dd P (eqs mt go (4 * P))).1 (sortR (7 * P) (dd P (eqs mt go (4 * P))).2 ((dd P (eqs mt go (4 * P))).1 - 1))) ?_
  · obtain ⟨v, T, g1, g2, g3⟩ := key
    subst g2
    exact ⟨T, g1, g3⟩
  refine MX.of (Nat.le_of_ble_eq_true rfl) ?_
  refine as_aload_n d160_0 rfl ?_
  refine an_bipush 7 d160_1 rfl ?_
  refine as_aload_n d160_3 rfl ?_
  refine ap_get d160_4 f160_67 (by decide) rfl rfl ?_
  refine an_top (e' := nI (P)) (hp) ?_
  refine an_imul d160_7 ?_
  refine ap_put d160_8 f160_189 (by decide) rfl (Nat.le_of_ble_eq_true rfl) (rfl) rfl rfl ?_
  refine an_iconst 0 d160_11 rfl ?_
  refine as_istore_n d160_12 (by decide) ?_
  refine AW.loc [(0, .ref (189)), (1, .int (nI (0)))] (am_pick [1, 0] rfl rfl) ?_
  refine aw_fromE (fun i T => ((13, [(0, .ref (189)), (1, .int (nI (i)))], [], 208, HP (T), 0, 0) : am_Z)) (fun i T => lKeep S T ∧ T.1 189 14 = nI (7 * P) ∧ ∀ r, r < i → ∀ i, i < 21 → T.2.1 200 (21 * r + i) = nI (unitR r i)) (0) (7 * P) (by omega) ((S).sf 189 14 (nI ((7) * (P)))) (rfl) (⟨(lKeep.rf S).sf (Or.inl rfl) _, by rw [sf_at, if_pos ⟨rfl, rfl⟩], fun r hr => by omega⟩) (fun i T hi0 hi hI ih => ?_) (fun T hX => ?_)
  · refine as_iload_n d160_13 rfl ?_
    refine as_aload_n d160_14 rfl ?_
    refine ap_get d160_15 f160_189 (by decide) rfl rfl ?_
    refine an_top (e' := nI (7 * P)) (hI.2.1) ?_
    refine an_icmp_ge 62 d160_18 (by decide) (by omega) (by omega) (fun c18 => by omega) (fun c18 => ?_)
    refine an_iconst 0 d160_21 rfl ?_
    refine as_istore_n d160_22 (by decide) ?_
    refine AW.loc [(0, .ref (189)), (1, .int (nI (i))), (2, .int (nI (0)))] (am_pick [1, 2, 0] rfl rfl) ?_
    refine aw_for (fun j => ((23, [(0, .ref (189)), (1, .int (nI (i))), (2, .int (nI (j)))], [], 208, HP (sRow T 200 (21 * i) (fun j => nI (unitR i j)) (j)), 0, 0) : am_Z)) (21) (by rw [sRow_0]) (fun j hj ihj => ?_) ?_
    · refine as_iload_n d160_23 rfl ?_
      refine an_bipush 21 d160_24 rfl ?_
      refine an_icmp_ge 56 d160_26 (by decide) (by omega) (by omega) (fun c26 => by omega) (fun c26 => ?_)
      refine as_aload_n d160_29 rfl ?_
      refine ap_get d160_30 f160_42 (by decide) rfl rfl ?_
      refine an_bipush 21 d160_33 rfl ?_
      refine as_iload_n d160_35 rfl ?_
      refine an_imul d160_36 ?_
      refine as_iload_n d160_37 rfl ?_
      refine an_iadd d160_38 ?_
      refine as_iload_n d160_39 rfl ?_
      refine as_iload_n d160_40 rfl ?_
      refine an_icmp_ne 48 d160_41 (by decide) (by omega) (by omega) (fun c41 => ?_) (fun c41 => ?_)
      · refine an_iconst 0 d160_48 rfl ?_
        refine ap_iast d160_49 (fun _ _ _ _ => rfl) (by decide) (by omega) (by decide) ?_
        refine an_iinc 1 d160_50 rfl rfl (by decide) ?_
        refine as_goto 23 d160_53 (by decide) ?_
        refine AW.loc [(0, .ref (189)), (1, .int (nI (i))), (2, .int (nI (j + 1)))] (am_pick [1, 2, 0] rfl rfl) ?_
        have eS : sRow T 200 (21 * i) (fun j => nI (unitR i j)) (j + 1) = (sRow T 200 (21 * i) (fun j => nI (unitR i j)) (j)).sa 200 (((21) * (i)) + (j)) (nI (0)) := by rw [sRow_s]; unfold unitR; first | (rw [if_pos c41]) | (rw [if_neg c41])
        rw [eS] at ihj
        exact ihj
      · refine an_iconst 1 d160_44 rfl ?_
        refine as_goto 49 d160_45 (by decide) ?_
        refine ap_iast d160_49 (fun _ _ _ _ => rfl) (by decide) (by omega) (by decide) ?_
        refine an_iinc 1 d160_50 rfl rfl (by decide) ?_
        refine as_goto 23 d160_53 (by decide) ?_
        refine AW.loc [(0, .ref (189)), (1, .int (nI (i))), (2, .int (nI (j + 1)))] (am_pick [1, 2, 0] rfl rfl) ?_
        have eS : sRow T 200 (21 * i) (fun j => nI (unitR i j)) (j + 1) = (sRow T 200 (21 * i) (fun j => nI (unitR i j)) (j)).sa 200 (((21) * (i)) + (j)) (nI (1)) := by rw [sRow_s]; unfold unitR; first | (rw [if_pos c41]) | (rw [if_neg c41])
        rw [eS] at ihj
        exact ihj
    · refine as_iload_n d160_23 rfl ?_
      refine an_bipush 21 d160_24 rfl ?_
      refine an_icmp_ge 56 d160_26 (by decide) (by omega) (by omega) (fun c26 => ?_) (fun c26 => by omega)
      refine an_iinc 1 d160_56 rfl rfl (by decide) ?_
      refine as_goto 13 d160_59 (by decide) ?_
      refine AW.loc [(0, .ref (189)), (1, .int (nI (i + 1)))] (am_pick [1, 0] rfl rfl) ?_
      have ih := ih (sRow T 200 (21 * i) (fun j => nI (unitR i j)) ((21))) (⟨hI.1.row (Or.inl rfl) _ _ _, hI.2.1, fun r hr j hj => by
        by_cases e : r = i
        · subst e; exact sRow_eq hj
        · rw [sRow_ge (by omega)]; exact hI.2.2 r (by omega) j hj⟩)
      exact ih
  · refine as_iload_n d160_13 rfl ?_
    refine as_aload_n d160_14 rfl ?_
    refine ap_get d160_15 f160_189 (by decide) rfl rfl ?_
    refine an_top (e' := nI (7 * P)) (hX.2.1) ?_
    refine an_icmp_ge 62 d160_18 (by decide) (by omega) (by omega) (fun c18 => ?_) (fun c18 => by omega)
    refine an_iconst 0 d160_62 rfl ?_
    refine as_istore_n d160_63 (by decide) ?_
    refine AW.loc [(0, .ref (189)), (1, .int (nI (0)))] (am_pick [1, 0] rfl rfl) ?_
    refine aw_fromE (fun s T1 => ((64, [(0, .ref (189)), (1, .int (nI (s)))], [], 208, HP (T1), 0, 0) : am_Z)) (fun s T1 => lKeep S T1 ∧ RH T1 P (dd P (eqs mt go (s))).1 (dd P (eqs mt go (s))).2) (0) (4 * P) (by omega) (T) (rfl) (⟨hX.1, hX.2.1, fun r hr i hi => hX.2.2 r hr i (by omega)⟩) (fun s T1 hs0 hs hI1 ihs => ?_) (fun T1 hX1 => ?_)
    · refine as_iload_n d160_64 rfl ?_
      refine an_iconst 4 d160_65 rfl ?_
      refine as_aload_n d160_66 rfl ?_
      refine ap_get d160_67 f160_67 (by decide) rfl rfl ?_
      refine an_top (e' := nI (P)) ((hI1.1.2.2 189 0 (by omega)).trans hp) ?_
      refine an_imul d160_70 ?_
      refine an_icmp_ge 130 d160_71 (by decide) (by omega) (by omega) (fun c71 => by omega) (fun c71 => ?_)
      rcases mt_or mt (s) with e0 | ⟨t, e0⟩
      · have hv := eqsS_n (go := go) e0
        refine an_iconst 0 d160_74 rfl ?_
        refine as_istore_n d160_75 (by decide) ?_
        refine as_iload_n d160_76 rfl ?_
        refine an_iconst 4 d160_77 rfl ?_
        refine an_icmp_ge 124 d160_78 (by decide) (by omega) (by omega) (fun c78 => ?_) (fun c78 => ?_)
        · refine an_iinc 1 d160_124 rfl rfl (by decide) ?_
          refine as_goto 64 d160_127 (by decide) ?_
          refine AW.loc [(0, .ref (189)), (1, .int (nI (s + 1)))] (am_pick [2, 0] rfl rfl) ?_
          have ihs := ihs (T1) (by first | (rw [hv]; exact hX2) | (rw [hv]; exact hI1))
          exact ihs
        · refine as_aload_n d160_81 rfl ?_
          refine ap_get d160_82 f160_7 (by decide) rfl rfl ?_
          refine as_iload_n d160_85 rfl ?_
          refine ap_iald d160_86 (fun _ _ _ _ => rfl) (by decide) (by omega) (by decide) ?_
          refine an_top (e' := (-1)) (by rw [(hR.lkeep hI1.1).2.1 _ (by omega), e0]; rfl) ?_
          refine an_iconstI (-1) d160_87 rfl ?_
          refine as_icmp_eq 124 d160_88 (by decide) (fun c88 => ?_) (fun c88 => absurd rfl c88)
          refine an_iinc 1 d160_124 rfl rfl (by decide) ?_
          refine as_goto 64 d160_127 (by decide) ?_
          refine AW.loc [(0, .ref (189)), (1, .int (nI (s + 1)))] (am_pick [2, 0] rfl rfl) ?_
          have ihs := ihs (T1) (by first | (rw [hv]; exact hX2) | (rw [hv]; exact hI1))
          exact ihs
      · have ht := mt_lt hG hs e0
        rcases Nat.lt_or_ge s t with hst | hst
        · have hv := eqsS_l (go := go) e0 hst
          refine an_iconst 0 d160_74 rfl ?_
          refine as_istore_n d160_75 (by decide) ?_
          refine AW.loc [(0, .ref (189)), (1, .int (nI (s))), (2, .int (nI (0)))] (am_pick [1, 2, 0] rfl rfl) ?_
          refine aw_fromE (fun c T2 => ((76, [(0, .ref (189)), (1, .int (nI (s))), (2, .int (nI (c)))], [], 208, HP (T2), 0, 0) : am_Z)) (fun c T2 => lKeep S T2 ∧ RH T2 P (dd P (eqs mt go s ++ eqsC s t go (c))).1 (dd P (eqs mt go s ++ eqsC s t go (c))).2) (0) (4) (by omega) (T1) (rfl) (⟨hI1.1, by show RH T1 P (dd P (eqs mt go s ++ [])).1 (dd P (eqs mt go s ++ [])).2; rw [List.append_nil]; exact hI1.2⟩) (fun c T2 hc0 hc hI2 ihc => ?_) (fun T2 hX2 => ?_)
          · refine as_iload_n d160_76 rfl ?_
            refine an_iconst 4 d160_77 rfl ?_
            refine an_icmp_ge 124 d160_78 (by decide) (by omega) (by omega) (fun c78 => by omega) (fun c78 => ?_)
            refine as_aload_n d160_81 rfl ?_
            refine ap_get d160_82 f160_7 (by decide) rfl rfl ?_
            refine as_iload_n d160_85 rfl ?_
            refine ap_iald d160_86 (fun _ _ _ _ => rfl) (by decide) (by omega) (by decide) ?_
            refine an_top (e' := nI (t)) (by rw [(hR.lkeep hI2.1).2.1 _ (by omega), e0]; rfl) ?_
            refine an_iconstI (-1) d160_87 rfl ?_
            refine as_icmp_eq 124 d160_88 (by decide) (fun c88 => absurd c88 (nI_ne1 (by omega))) (fun c88 => ?_)
            refine as_iload_n d160_91 rfl ?_
            refine as_aload_n d160_92 rfl ?_
            refine ap_get d160_93 f160_7 (by decide) rfl rfl ?_
            refine as_iload_n d160_96 rfl ?_
            refine ap_iald d160_97 (fun _ _ _ _ => rfl) (by decide) (by omega) (by decide) ?_
            refine an_top (e' := nI (t)) (by rw [(hR.lkeep hI2.1).2.1 _ (by omega), e0]; rfl) ?_
            refine an_icmp_ge 124 d160_98 (by decide) (by omega) (by omega) (fun c98 => by omega) (fun c98 => ?_)
            refine as_iload_n d160_101 rfl ?_
            refine as_iload_n d160_102 rfl ?_
            refine an_iconst 4 d160_103 rfl ?_
            refine an_irem d160_104 (by omega) (by omega) (by omega) ?_
            refine an_icmp_eq 118 d160_105 (by decide) (by omega) (by omega) (fun c105 => ?_) (fun c105 => ?_)
            · have hw := eqsC_e (t := t) (go := go) c105
              refine an_iinc 1 d160_118 rfl rfl (by decide) ?_
              refine as_goto 76 d160_121 (by decide) ?_
              refine AW.loc [(0, .ref (189)), (1, .int (nI (s))), (2, .int (nI (c + 1)))] (am_pick [1, 2, 0] rfl rfl) ?_
              have ihc := ihc (T2) (by first | (rw [hw]; exact hI2) | (rw [hw, ← List.append_assoc, dd_app]; exact ⟨hvv, g9⟩))
              exact ihc
            · have hw := eqsC_s (t := t) (go := go) c105
              have hgl := hG.go_lt hs e0 hc
              have hgn := hG.go_ne hs e0 hc c105
              have hok := hD.at hs e0 hst (show c ≤ 4 by omega)
              have hok2 := hD.at hs e0 hst (show c + 1 ≤ 4 by omega)
              rw [hw, ← List.append_assoc, dd_app] at hok2
              obtain ⟨T3, g1, ⟨g2, g3, g3b⟩, g4, g5⟩ := mx_layEquation X T2 P mt go s c t hG (hR.lkeep hI2.1) hs e0 hc c105
              have g6 : RH T3 P (dd P (eqs mt go s ++ eqsC s t go (c))).1 (dd P (eqs mt go s ++ eqsC s t go (c))).2 := ⟨by rw [g2]; exact hI2.2.1, fun r hr i hi => by rw [g3]; exact hI2.2.2 r hr i hi⟩
              have k1 := eqA_lt hs hc c105
              have k2 := eqA_lt ht.1 hgl hgn
              obtain ⟨T4, g7, g8, g9⟩ := mx_meet X T3 P _ s t c (go (4 * s + c)) _ 20000 hP ((g4.2.2 189 0 (by omega)).trans ((hI2.1.2.2 189 0 (by omega)).trans hp)) (by have := hok.1; omega) g5 g6 hok.2.1 (by decide) (by decide) hok.2.2 k1.1 k1.2 k2.1 k2.2 (Nat.le_trans hok2.1 (by decide))
              have hvv : lKeep S T4 := (hI2.1.trans g4).trans g8
              refine as_aload_n d160_108 rfl ?_
              refine as_iload_n d160_109 rfl ?_
              refine as_iload_n d160_110 rfl ?_
              refine ac_v2 d160_111 c160_214 (by decide) rfl (Nat.le_of_ble_eq_true rfl) (g1) ?_
              refine as_aload_n d160_114 rfl ?_
              refine ac_v0 d160_115 c160_218 (by decide) rfl (Nat.le_of_ble_eq_true rfl) (g7) ?_
              refine an_iinc 1 d160_118 rfl rfl (by decide) ?_
              refine as_goto 76 d160_121 (by decide) ?_
              refine AW.loc [(0, .ref (189)), (1, .int (nI (s))), (2, .int (nI (c + 1)))] (am_pick [1, 2, 0] rfl rfl) ?_
              have ihc := ihc (T4) (by first | (rw [hw]; exact hI2) | (rw [hw, ← List.append_assoc, dd_app]; exact ⟨hvv, g9⟩))
              exact ihc
          · refine as_iload_n d160_76 rfl ?_
            refine an_iconst 4 d160_77 rfl ?_
            refine an_icmp_ge 124 d160_78 (by decide) (by omega) (by omega) (fun c78 => ?_) (fun c78 => by omega)
            refine an_iinc 1 d160_124 rfl rfl (by decide) ?_
            refine as_goto 64 d160_127 (by decide) ?_
            refine AW.loc [(0, .ref (189)), (1, .int (nI (s + 1)))] (am_pick [1, 0] rfl rfl) ?_
            have ihs := ihs (T2) (by first | (rw [hv]; exact hX2) | (rw [hv]; exact hI1))
            exact ihs
        · have hv := eqsS_g (go := go) e0 hst
          refine an_iconst 0 d160_74 rfl ?_
          refine as_istore_n d160_75 (by decide) ?_
          refine as_iload_n d160_76 rfl ?_
          refine an_iconst 4 d160_77 rfl ?_
          refine an_icmp_ge 124 d160_78 (by decide) (by omega) (by omega) (fun c78 => ?_) (fun c78 => ?_)
          · refine an_iinc 1 d160_124 rfl rfl (by decide) ?_
            refine as_goto 64 d160_127 (by decide) ?_
            refine AW.loc [(0, .ref (189)), (1, .int (nI (s + 1)))] (am_pick [2, 0] rfl rfl) ?_
            have ihs := ihs (T1) (by first | (rw [hv]; exact hX2) | (rw [hv]; exact hI1))
            exact ihs
          · refine as_aload_n d160_81 rfl ?_
            refine ap_get d160_82 f160_7 (by decide) rfl rfl ?_
            refine as_iload_n d160_85 rfl ?_
            refine ap_iald d160_86 (fun _ _ _ _ => rfl) (by decide) (by omega) (by decide) ?_
            refine an_top (e' := nI (t)) (by rw [(hR.lkeep hI1.1).2.1 _ (by omega), e0]; rfl) ?_
            refine an_iconstI (-1) d160_87 rfl ?_
            refine as_icmp_eq 124 d160_88 (by decide) (fun c88 => absurd c88 (nI_ne1 (by omega))) (fun c88 => ?_)
            refine as_iload_n d160_91 rfl ?_
            refine as_aload_n d160_92 rfl ?_
            refine ap_get d160_93 f160_7 (by decide) rfl rfl ?_
            refine as_iload_n d160_96 rfl ?_
            refine ap_iald d160_97 (fun _ _ _ _ => rfl) (by decide) (by omega) (by decide) ?_
            refine an_top (e' := nI (t)) (by rw [(hR.lkeep hI1.1).2.1 _ (by omega), e0]; rfl) ?_
            refine an_icmp_ge 124 d160_98 (by decide) (by omega) (by omega) (fun c98 => ?_) (fun c98 => by omega)
            refine an_iinc 1 d160_124 rfl rfl (by decide) ?_
            refine as_goto 64 d160_127 (by decide) ?_
            refine AW.loc [(0, .ref (189)), (1, .int (nI (s + 1)))] (am_pick [2, 0] rfl rfl) ?_
            have ihs := ihs (T1) (by first | (rw [hv]; exact hX2) | (rw [hv]; exact hI1))
            exact ihs
    · refine as_iload_n d160_64 rfl ?_
      refine an_iconst 4 d160_65 rfl ?_
      refine as_aload_n d160_66 rfl ?_
      refine ap_get d160_67 f160_67 (by decide) rfl rfl ?_
      refine an_top (e' := nI (P)) ((hX1.1.2.2 189 0 (by omega)).trans hp) ?_
      refine an_imul d160_70 ?_
      refine an_icmp_ge 130 d160_71 (by decide) (by omega) (by omega) (fun c71 => ?_) (fun c71 => by omega)
      have hok9 := hD.at0 (Nat.le_refl (4 * P))
      have hok8 := hok9.1
      refine an_iconst 1 d160_130 rfl ?_
      refine as_istore_n d160_131 (by decide) ?_
      refine AW.loc [(0, .ref (189)), (1, .int (nI (1)))] (am_pick [1, 0] rfl rfl) ?_
      refine aw_fromE (fun a T5 => ((132, [(0, .ref (189)), (1, .int (nI (a + 1)))], [], 208, HP (T5), 0, 0) : am_Z)) (fun a T5 => lKeep S T5 ∧ RH T5 P (dd P (eqs mt go (4 * P))).1 (sortR (7 * P) (dd P (eqs mt go (4 * P))).2 (a))) (0) ((dd P (eqs mt go (4 * P))).1 - 1) (by omega) (T1) (rfl) (hX1) (fun a T5 ha0 ha hI5 iha => ?_) (fun T5 hX5 => ?_)
      · have hP1 : 0 < P := by
          obtain ⟨i, hi, -⟩ := hok9.2.2 0 (by omega)
          omega
        refine as_iload_n d160_132 rfl ?_
        refine as_aload_n d160_133 rfl ?_
        refine ap_get d160_134 f160_189 (by decide) rfl rfl ?_
        refine an_top (e' := nI ((dd P (eqs mt go (4 * P))).1)) (hI5.2.1) ?_
        refine an_icmp_ge 177 d160_137 (by decide) (by omega) (by omega) (fun c137 => by omega) (fun c137 => ?_)
        refine as_iload_n d160_140 rfl ?_
        refine as_istore_n d160_141 (by decide) ?_
        refine AW.loc [(0, .ref (189)), (1, .int (nI (a + 1))), (2, .int (nI (a + 1)))] (am_pick [1, 2, 0] rfl rfl) ?_
        refine aw_inv2 (σ := (Nat) × (Nat → Nat → Nat) × (MS)) (fun σ => ((142, [(0, .ref (189)), (1, .int (nI (a + 1))), (2, .int (nI (σ.1)))], [], 208, HP (σ.2.2), 0, 0) : am_Z)) (fun σ => σ.1 < (dd P (eqs mt go (4 * P))).1 ∧ lKeep S σ.2.2 ∧ RH σ.2.2 P (dd P (eqs mt go (4 * P))).1 σ.2.1 ∧ RB P (dd P (eqs mt go (4 * P))).1 σ.2.1 20000 ∧ insI (7 * P) σ.1 σ.2.1 = sortR (7 * P) (dd P (eqs mt go (4 * P))).2 (a + 1)) (fun σ => σ.1) (fun σ hσ ihσ => ?_) (a + 1, sortR (7 * P) (dd P (eqs mt go (4 * P))).2 a, T5) (rfl) (⟨by omega, hI5.1, hI5.2, hok9.2.1.of_or (sortR_or _ _ _ a (by omega)), rfl⟩)
        obtain ⟨b, R', U⟩ := σ
        dsimp only at hσ ihσ ⊢
        obtain ⟨hb, hk, hh, hbb, hins⟩ := hσ
        refine as_iload_n d160_142 rfl ?_
        refine as_if_le 171 d160_143 (by decide) (fun c143 => ?_) (fun c143 => ?_)
        · have hb0 : b = 0 := nI_le0 (by omega) c143
          have hfin : R' = sortR (7 * P) (dd P (eqs mt go (4 * P))).2 (a + 1) := by
            subst hb0
            exact hins
          skip
          refine an_iinc 1 d160_171 rfl rfl (by decide) ?_
          refine as_goto 132 d160_174 (by decide) ?_
          refine AW.loc [(0, .ref (189)), (1, .int (nI (a + 1 + 1)))] (am_pick [1, 0] rfl rfl) ?_
          have iha := iha (U) (by rw [← hfin]; exact ⟨hk, hh⟩)
          exact iha
        · obtain ⟨q, hq⟩ : ∃ q, b = q + 1 := ⟨b - 1, by have : b ≠ 0 := fun g => c143 (by subst g; decide); omega⟩
          have hq1 : b - 1 = q := by omega
          refine as_aload_n d160_146 rfl ?_
          refine as_iload_n d160_147 rfl ?_
          refine as_iload_n d160_148 rfl ?_
          refine an_iconst 1 d160_149 rfl ?_
          refine an_isub d160_150 (by omega) ?_
          refine ac_v2 d160_151 c160_221 (by decide) rfl (Nat.le_of_ble_eq_true rfl) (mc_isBefore X _ P _ _ _ R' 20000 hP hP1 ((hk.2.2 189 0 (by omega)).trans hp) (by omega) (by omega) (by omega) hh hbb (by decide)) ?_
          refine as_if_eq 171 d160_154 (by decide) (fun c154 => ?_) (fun c154 => ?_)
          · have hfin : R' = sortR (7 * P) (dd P (eqs mt go (4 * P))).2 (a + 1) := by
              have c1 := am_b01.mp c154
              rw [hq1] at c1
              subst hq
              have g := hins
              unfold insI at g
              rw [if_neg c1] at g
              exact g
            skip
            refine an_iinc 1 d160_171 rfl rfl (by decide) ?_
            refine as_goto 132 d160_174 (by decide) ?_
            refine AW.loc [(0, .ref (189)), (1, .int (nI (a + 1 + 1)))] (am_pick [1, 0] rfl rfl) ?_
            have iha := iha (U) (by rw [← hfin]; exact ⟨hk, hh⟩)
            exact iha
          · have hbef := am_b1 c154
            obtain ⟨T6, g1, g2, g3⟩ := mx_swap X U P _ b (b - 1) R' hP ((hk.2.2 189 0 (by omega)).trans hp) (by omega) hb (by omega) (by omega) hh
            refine as_aload_n d160_157 rfl ?_
            refine as_iload_n d160_158 rfl ?_
            refine as_iload_n d160_159 rfl ?_
            refine an_iconst 1 d160_160 rfl ?_
            refine an_isub d160_161 (by omega) ?_
            refine ac_v2 d160_162 c160_224 (by decide) rfl (Nat.le_of_ble_eq_true rfl) (g1) ?_
            refine an_idec d160_165 rfl (by decide) (by omega) ?_
            refine as_goto 142 d160_168 (by decide) ?_
            refine AW.loc [(0, .ref (189)), (1, .int (nI (a + 1))), (2, .int (nI (b - 1)))] (am_pick [1, 2, 0] rfl rfl) ?_
            exact ihσ (b - 1, swp2 R' b (b - 1), T6) ⟨by omega, hk.trans g2, g3, hbb.of_or (swp2_or R' _ _ _ hb (by omega)), by rw [hq1] at hbef ⊢; subst hq; have g := hins; unfold insI at g; rw [if_pos hbef] at g; exact g⟩ (by show b - 1 < b; omega)
      · refine as_iload_n d160_132 rfl ?_
        refine as_aload_n d160_133 rfl ?_
        refine ap_get d160_134 f160_189 (by decide) rfl rfl ?_
        refine an_top (e' := nI ((dd P (eqs mt go (4 * P))).1)) (hX5.2.1) ?_
        refine an_icmp_ge 177 d160_137 (by decide) (by omega) (by omega) (fun c137 => ?_) (fun c137 => by omega)
        refine as_return d160_177 t160 ?_
        exact ⟨_, _, rfl, rfl, hX5⟩
