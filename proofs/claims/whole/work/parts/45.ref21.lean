/-! the reference: layRay, meet -/
def gcdN (v : Nat → Nat) : Nat → Nat
  | 0 => 0
  | n + 1 => Nat.gcd (gcdN v n) (v n)
theorem gcdN_s (v : Nat → Nat) (n : Nat) : gcdN v (n + 1) = Nat.gcd (gcdN v n) (v n) := rfl
theorem gcdN_lt {v : Nat → Nat} {N : Nat} (hN : 0 < N) : ∀ n, (∀ i, i < n → v i < N) → gcdN v n < N
  | 0, _ => hN
  | n + 1, h => by
    have h1 := gcdN_lt hN n (fun i hi => h i (by omega))
    have h2 := h n (by omega)
    rw [gcdN_s]
    by_cases hz : gcdN v n = 0
    · rw [hz, Nat.gcd_zero_left]
      exact h2
    · exact Nat.lt_of_le_of_lt (Nat.gcd_le_left _ (by omega)) h1
theorem gcdN_dvd {v : Nat → Nat} : ∀ n i, i < n → gcdN v n ∣ v i
  | 0, i, h => by omega
  | n + 1, i, h => by
    rw [gcdN_s]
    by_cases e : i = n
    · subst e
      exact Nat.gcd_dvd_right _ _
    · exact Nat.dvd_trans (Nat.gcd_dvd_left _ _) (gcdN_dvd n i (by omega))
theorem gcdN_ne {v : Nat → Nat} {n i : Nat} (h : i < n) (hv : v i ≠ 0) : gcdN v n ≠ 0 := by
  intro e
  have := gcdN_dvd n i h (v := v)
  rw [e] at this
  exact hv (Nat.eq_zero_of_zero_dvd this)
def mixV (R : Nat → Nat → Nat) (a b u v : Nat) (i : Nat) : Nat := u * R a i + v * R b i
theorem none_eq {S T : MS} (h : S = T) : ((none, 208, HP S, 0, 0) : am_R) = (none, 208, HP T, 0, 0) := by rw [h]
theorem mc_layRay (X : am_X) (S : MS) (P n a b u v l : Nat) (R : Nat → Nat → Nat) (hP : P ≤ 3) (hp : S.1 189 0 = nI P) (hn : n ≤ 2000) (ha : a < n) (hb : b < n) (hl : l < 2000) (hl1 : S.1 189 18 = nI l) (hH : RH S P n R) (hv : ∀ i, i < 7 * P → mixV R a b u v i < 2 ^ 31) (hg : gcdN (mixV R a b u v) (7 * P) ≠ 0) : MC X 156 [.ref (189), .int (nI (a)), .int (nI (b)), .int (nI (u)), .int (nI (v))] S none ((sRow S 201 (21 * l) (fun i => nI (mixV R a b u v i / gcdN (mixV R a b u v) (7 * P))) (7 * P)).sf 189 18 (nI (l + 1))) := by
  have hgl := gcdN_lt (v := mixV R a b u v) (N := 2 ^ 31) (by decide) (7 * P) hv
  refine MC.of (Nat.le_of_ble_eq_true rfl) ?_
  refine an_iconst 0 d156_0 rfl ?_
  refine as_istore d156_1 (by decide) ?_
  refine an_iconst 0 d156_3 rfl ?_
  refine as_istore d156_4 (by decide) ?_
  refine AW.loc [(0, .ref (189)), (1, .int (nI (a))), (2, .int (nI (b))), (3, .int (nI (u))), (4, .int (nI (v))), (5, .int (nI (0))), (6, .int (nI (0)))] (am_pick [2, 3, 4, 5, 6, 1, 0] rfl rfl) ?_
  refine aw_for (fun i => ((6, [(0, .ref (189)), (1, .int (nI (a))), (2, .int (nI (b))), (3, .int (nI (u))), (4, .int (nI (v))), (5, .int (nI (gcdN (mixV R a b u v) (i)))), (6, .int (nI (i)))], [], 208, HP (sRow S 201 (21 * l) (fun i => nI (mixV R a b u v i)) (i)), 0, 0) : am_Z)) (7 * P) (by rw [sRow_0]; rfl) (fun i hi ih => ?_) ?_
  · refine as_iload d156_6 rfl ?_
    refine an_bipush 7 d156_8 rfl ?_
    refine as_aload_n d156_10 rfl ?_
    refine ap_get d156_11 f156_67 (by decide) rfl rfl ?_
    refine an_top (e' := nI (P)) (hp) ?_
    refine an_imul d156_14 ?_
    refine an_icmp_ge 82 d156_15 (by decide) (by omega) (by omega) (fun c15 => by omega) (fun c15 => ?_)
    refine as_iload_n d156_18 rfl ?_
    refine as_aload_n d156_19 rfl ?_
    refine ap_get d156_20 f156_42 (by decide) rfl rfl ?_
    refine an_bipush 21 d156_23 rfl ?_
    refine as_iload_n d156_25 rfl ?_
    refine an_imul d156_26 ?_
    refine as_iload d156_27 rfl ?_
    refine an_iadd d156_29 ?_
    refine ap_iald d156_30 (fun _ _ _ _ => rfl) (by decide) (by omega) (by decide) ?_
    refine an_top (e' := nI (R (a) (i))) (by rw [sRow_row _ _ _ _ _ (by decide)]; exact hH.2 _ (by omega) _ (by omega)) ?_
    refine an_imul d156_31 ?_
    refine as_iload d156_32 rfl ?_
    refine as_aload_n d156_34 rfl ?_
    refine ap_get d156_35 f156_42 (by decide) rfl rfl ?_
    refine an_bipush 21 d156_38 rfl ?_
    refine as_iload_n d156_40 rfl ?_
    refine an_imul d156_41 ?_
    refine as_iload d156_42 rfl ?_
    refine an_iadd d156_44 ?_
    refine ap_iald d156_45 (fun _ _ _ _ => rfl) (by decide) (by omega) (by decide) ?_
    refine an_top (e' := nI (R (b) (i))) (by rw [sRow_row _ _ _ _ _ (by decide)]; exact hH.2 _ (by omega) _ (by omega)) ?_
    refine an_imul d156_46 ?_
    refine an_iadd d156_47 ?_
    refine an_top (e' := nI (mixV R a b u v i)) (rfl) ?_
    refine as_istore d156_48 (by decide) ?_
    refine as_aload_n d156_50 rfl ?_
    refine ap_get d156_51 f156_45 (by decide) rfl rfl ?_
    refine an_bipush 21 d156_54 rfl ?_
    refine as_aload_n d156_56 rfl ?_
    refine ap_get d156_57 f156_195 (by decide) rfl rfl ?_
    refine an_top (e' := nI (l)) (hl1) ?_
    refine an_imul d156_60 ?_
    refine as_iload d156_61 rfl ?_
    refine an_iadd d156_63 ?_
    refine as_iload d156_64 rfl ?_
    refine ap_iast d156_66 (fun _ _ _ _ => rfl) (by decide) (by omega) (by decide) ?_
    have hgl := gcdN_lt (v := mixV R a b u v) (N := 2 ^ 31) (by decide) i (fun j hj => hv j (by omega))
    refine as_iload d156_67 rfl ?_
    refine as_iload d156_69 rfl ?_
    refine ac_s2 d156_71 c156_198 (by decide) (Nat.le_of_ble_eq_true rfl) (mc_divisor X _ _ _ hgl (hv i hi)) ?_
    refine as_istore d156_74 (by decide) ?_
    refine an_iinc 1 d156_76 rfl rfl (by decide) ?_
    refine as_goto 6 d156_79 (by decide) ?_
    refine AW.loc [(0, .ref (189)), (1, .int (nI (a))), (2, .int (nI (b))), (3, .int (nI (u))), (4, .int (nI (v))), (5, .int (nI (gcdN (mixV R a b u v) (i + 1)))), (6, .int (nI (i + 1)))] (am_pick [3, 4, 5, 6, 7, 1, 0] rfl rfl) ?_
    have eS : sRow S 201 (21 * l) (fun i => nI (mixV R a b u v i)) (i + 1) = (sRow S 201 (21 * l) (fun i => nI (mixV R a b u v i)) (i)).sa 201 (((21) * (l)) + (i)) (nI (mixV R a b u v i)) := by exact sRow_s _ _ _ _ _
    rw [eS] at ih
    exact ih
  · refine as_iload d156_6 rfl ?_
    refine an_bipush 7 d156_8 rfl ?_
    refine as_aload_n d156_10 rfl ?_
    refine ap_get d156_11 f156_67 (by decide) rfl rfl ?_
    refine an_top (e' := nI (P)) (hp) ?_
    refine an_imul d156_14 ?_
    refine an_icmp_ge 82 d156_15 (by decide) (by omega) (by omega) (fun c15 => ?_) (fun c15 => by omega)
    refine an_iconst 0 d156_82 rfl ?_
    refine as_istore d156_83 (by decide) ?_
    refine AW.loc [(0, .ref (189)), (5, .int (nI (gcdN (mixV R a b u v) ((7 * P))))), (6, .int (nI (0)))] (am_pick [1, 6, 0] rfl rfl) ?_
    refine aw_for (fun i => ((85, [(0, .ref (189)), (5, .int (nI (gcdN (mixV R a b u v) (7 * P)))), (6, .int (nI (i)))], [], 208, HP (sRow (sRow S 201 (21 * l) (fun i => nI (mixV R a b u v i)) (7 * P)) 201 (21 * l) (fun i => nI (mixV R a b u v i / gcdN (mixV R a b u v) (7 * P))) (i)), 0, 0) : am_Z)) (7 * P) (by rw [sRow_0]) (fun i hi ih => ?_) ?_
    · refine as_iload d156_85 rfl ?_
      refine an_bipush 7 d156_87 rfl ?_
      refine as_aload_n d156_89 rfl ?_
      refine ap_get d156_90 f156_67 (by decide) rfl rfl ?_
      refine an_top (e' := nI (P)) (hp) ?_
      refine an_imul d156_93 ?_
      refine an_icmp_ge 123 d156_94 (by decide) (by omega) (by omega) (fun c94 => by omega) (fun c94 => ?_)
      refine as_aload_n d156_97 rfl ?_
      refine ap_get d156_98 f156_45 (by decide) rfl rfl ?_
      refine an_bipush 21 d156_101 rfl ?_
      refine as_aload_n d156_103 rfl ?_
      refine ap_get d156_104 f156_195 (by decide) rfl rfl ?_
      refine an_top (e' := nI (l)) (hl1) ?_
      refine an_imul d156_107 ?_
      refine as_iload d156_108 rfl ?_
      refine an_iadd d156_110 ?_
      refine as_dup2 d156_111 rfl rfl ?_
      refine ap_iald d156_112 (fun _ _ _ _ => rfl) (by decide) (by omega) (by decide) ?_
      refine an_top (e' := nI (mixV R a b u v i)) (by rw [sRow_ge (by omega)]; exact sRow_eq (by omega)) ?_
      refine as_iload d156_113 rfl ?_
      refine an_idiv d156_115 (hv i hi) (by omega) (hgl) ?_
      refine ap_iast d156_116 (fun _ _ _ _ => rfl) (by decide) (by omega) (by decide) ?_
      refine an_iinc 1 d156_117 rfl rfl (by decide) ?_
      refine as_goto 85 d156_120 (by decide) ?_
      refine AW.loc [(0, .ref (189)), (5, .int (nI (gcdN (mixV R a b u v) (7 * P)))), (6, .int (nI (i + 1)))] (am_pick [1, 2, 0] rfl rfl) ?_
      have eS : sRow (sRow S 201 (21 * l) (fun i => nI (mixV R a b u v i)) (7 * P)) 201 (21 * l) (fun i => nI (mixV R a b u v i / gcdN (mixV R a b u v) (7 * P))) (i + 1) = (sRow (sRow S 201 (21 * l) (fun i => nI (mixV R a b u v i)) (7 * P)) 201 (21 * l) (fun i => nI (mixV R a b u v i / gcdN (mixV R a b u v) (7 * P))) (i)).sa 201 (((21) * (l)) + (i)) (nI ((mixV R a b u v i) / (gcdN (mixV R a b u v) (7 * P)))) := by exact sRow_s _ _ _ _ _
      rw [eS] at ih
      exact ih
    · refine as_iload d156_85 rfl ?_
      refine an_bipush 7 d156_87 rfl ?_
      refine as_aload_n d156_89 rfl ?_
      refine ap_get d156_90 f156_67 (by decide) rfl rfl ?_
      refine an_top (e' := nI (P)) (hp) ?_
      refine an_imul d156_93 ?_
      refine an_icmp_ge 123 d156_94 (by decide) (by omega) (by omega) (fun c94 => ?_) (fun c94 => by omega)
      refine as_aload_n d156_123 rfl ?_
      refine as_dup d156_124 rfl ?_
      refine ap_get d156_125 f156_195 (by decide) rfl rfl ?_
      refine an_top (e' := nI (l)) (hl1) ?_
      refine an_iconst 1 d156_128 rfl ?_
      refine an_iadd d156_129 ?_
      refine ap_put d156_130 f156_195 (by decide) rfl (Nat.le_of_ble_eq_true rfl) (rfl) rfl rfl ?_
      refine as_return d156_133 t156 ?_
      refine none_eq ?_
      rw [sRow_sRow]
/-! meet: what is laid, in order -/
def evB (e : Nat → Int) (ok : Nat → Nat → Bool) (a : Nat) : Nat → List (Nat × Nat)
  | 0 => []
  | b + 1 => evB e ok a b ++ (if e b < 0 ∧ ok a b = true then [(a, b)] else [])
def evA (e : Nat → Int) (ok : Nat → Nat → Bool) (n : Nat) : Nat → List (Nat × Nat)
  | 0 => []
  | a + 1 => evA e ok n a ++ (if e a = 0 then [(a, a)] else if 0 < e a then evB e ok a n else [])
theorem evB_t {e : Nat → Int} {ok : Nat → Nat → Bool} {a b : Nat} (h1 : e b < 0) (h2 : ok a b = true) : evB e ok a (b + 1) = evB e ok a b ++ [(a, b)] := by
  show _ ++ _ = _
  rw [if_pos ⟨h1, h2⟩]
theorem evB_f {e : Nat → Int} {ok : Nat → Nat → Bool} {a b : Nat} (h : ¬ (e b < 0 ∧ ok a b = true)) : evB e ok a (b + 1) = evB e ok a b := by
  show _ ++ _ = _
  rw [if_neg h, List.append_nil]
theorem evA_z {e : Nat → Int} {ok : Nat → Nat → Bool} {n a : Nat} (h : e a = 0) : evA e ok n (a + 1) = evA e ok n a ++ [(a, a)] := by
  show _ ++ _ = _
  rw [if_pos h]
theorem evA_p {e : Nat → Int} {ok : Nat → Nat → Bool} {n a : Nat} (h : 0 < e a) : evA e ok n (a + 1) = evA e ok n a ++ evB e ok a n := by
  show _ ++ _ = _
  rw [if_neg (by omega), if_pos h]
theorem evA_n {e : Nat → Int} {ok : Nat → Nat → Bool} {n a : Nat} (h : e a < 0) : evA e ok n (a + 1) = evA e ok n a := by
  show _ ++ _ = _
  rw [if_neg (by omega), if_neg (by omega), List.append_nil]
theorem evA_len (e : Nat → Int) (ok : Nat → Nat → Bool) (n : Nat) {a m : Nat} (h : a ≤ m) : (evA e ok n a).length ≤ (evA e ok n m).length := by
  induction m with
  | zero => rw [show a = 0 by omega]; exact Nat.le_refl _
  | succ m ih =>
    by_cases e1 : a = m + 1
    · subst e1; exact Nat.le_refl _
    · have h2 : (evA e ok n (m + 1)).length = (evA e ok n m ++ (if e m = 0 then [(m, m)] else if 0 < e m then evB e ok m n else [])).length := rfl
      rw [h2, List.length_append]
      have := ih (by omega)
      omega
theorem evB_len (e : Nat → Int) (ok : Nat → Nat → Bool) (a : Nat) {b m : Nat} (h : b ≤ m) : (evB e ok a b).length ≤ (evB e ok a m).length := by
  induction m with
  | zero => rw [show b = 0 by omega]; exact Nat.le_refl _
  | succ m ih =>
    by_cases e1 : b = m + 1
    · subst e1; exact Nat.le_refl _
    · have h2 : (evB e ok a (m + 1)).length = (evB e ok a m ++ (if e m < 0 ∧ ok a m = true then [(a, m)] else [])).length := rfl
      rw [h2, List.length_append]
      have := ih (by omega)
      omega
/-- the row that is laid for two rows (or one that fits) -/
def evV (R : Nat → Nat → Nat) (e : Nat → Int) (q : Nat × Nat) : Nat → Nat := if e q.1 = 0 then mixV R q.1 q.1 1 0 else mixV R q.1 q.2 (-e q.2).toNat (e q.1).toNat
def evRow (w : Nat) (R : Nat → Nat → Nat) (e : Nat → Int) (q : Nat × Nat) (i : Nat) : Nat := evV R e q i / gcdN (evV R e q) w
def okR (R : Nat → Nat → Nat) (P n a b : Nat) : Bool := decide (anyN (twoK (sOf (R a) (7 * P) ||| sOf (R b) (7 * P))) P = 0) && decide (anyN (bes R (7 * P) a b (sOf (R a) (7 * P) ||| sOf (R b) (7 * P))) n = 0)
def meetL (R : Nat → Nat → Nat) (P n : Nat) (e : Nat → Int) : List (Nat × Nat) := evA e (okR R P n) n n
def meetR (R : Nat → Nat → Nat) (P n : Nat) (e : Nat → Int) (j : Nat) : Nat → Nat := evRow (7 * P) R e ((meetL R P n e).getD j (0, 0))
/-- what changes while rows are laid -/
theorem sf_snd (S : MS) (a k : Nat) (x : Int32) : (S.sf a k x).2 = S.2 := rfl
theorem sRow_f (S : MS) (A off : Nat) (f : Nat → Int32) (n : Nat) : (sRow S A off f n).1 = S.1 := rfl
def nKeep (S T : MS) : Prop := (∀ k, k ≠ 201 → T.2.1 k = S.2.1 k) ∧ T.2.2 = S.2.2 ∧ (∀ i j, ¬ (i = 189 ∧ j = 18) → T.1 i j = S.1 i j)
theorem nKeep.rf0 (S : MS) (x : Int32) : nKeep S (S.sf 189 18 x) := ⟨fun _ _ => rfl, rfl, fun i j h => by rw [sf_at, if_neg h]⟩
theorem nKeep.lay {S T : MS} (h : nKeep S T) (off : Nat) (f : Nat → Int32) (n : Nat) (x : Int32) : nKeep S ((sRow T 201 off f n).sf 189 18 x) := by
  refine ⟨fun k hk => ?_, h.2.1, fun i j hij => ?_⟩
  · rw [sf_snd, sRow_row _ _ _ _ _ hk]
    exact h.1 k hk
  · rw [sf_at, if_neg hij]
    exact h.2.2 i j hij
theorem RH.nkeep {S T : MS} {P n : Nat} {R : Nat → Nat → Nat} (h : RH S P n R) (k : nKeep S T) : RH T P n R := by
  refine ⟨(k.2.2 189 14 (by omega)).trans h.1, fun r hr i hi => ?_⟩
  rw [k.1 200 (by decide)]
  exact h.2 r hr i hi
theorem EQ.nkeep {S T : MS} {s t c d : Nat} (h : EQ S s t c d) (k : nKeep S T) : EQ T s t c d := by
  intro i hi
  rw [k.1 202 (by decide)]
  exact h i hi
def NH (T : MS) (P : Nat) (R : Nat → Nat → Nat) (e : Nat → Int) (l : List (Nat × Nat)) : Prop := T.1 189 18 = nI l.length ∧ ∀ j, j < l.length → ∀ i, i < 7 * P → T.2.1 201 (21 * j + i) = nI (evRow (7 * P) R e (l.getD j (0, 0)) i)
theorem NH.app {T : MS} {P : Nat} {R : Nat → Nat → Nat} {e : Nat → Int} {l : List (Nat × Nat)} (h : NH T P R e l) (hP : P ≤ 3) (q : Nat × Nat) {V : Nat → Nat} (hV : V = evV R e q) : NH ((sRow T 201 (21 * l.length) (fun i => nI (V i / gcdN V (7 * P))) (7 * P)).sf 189 18 (nI (l.length + 1))) P R e (l ++ [q]) := by
  subst hV
  refine ⟨by rw [sf_at, if_pos ⟨rfl, rfl⟩, List.length_append]; rfl, fun j hj i hi => ?_⟩
  rw [List.length_append] at hj
  have hj' : j < l.length + 1 := hj
  rw [sf_snd]
  by_cases e1 : j = l.length
  · subst e1
    rw [sRow_eq hi, List.getD_eq_getElem?_getD, List.getElem?_append_right (Nat.le_refl _), Nat.sub_self]
    rfl
  · rw [sRow_ge (by omega), h.2 j (by omega) i hi, List.getD_eq_getElem?_getD, List.getD_eq_getElem?_getD, List.getElem?_append_left (by omega)]
theorem mixV_lt {R : Nat → Nat → Nat} {P n a b u v i B : Nat} (hB : RB P n R B) (ha : a < n) (hb : b < n) (hi : i < 7 * P) (hu : u ≤ 2 * B) (hv : v ≤ 2 * B) (hBB : 4 * (B * B) < 2 ^ 31) : mixV R a b u v i < 2 ^ 31 := by
  unfold mixV
  have h1 := Nat.mul_le_mul hu (hB a ha i hi)
  have h2 := Nat.mul_le_mul hv (hB b hb i hi)
  rw [Nat.mul_assoc] at h1 h2
  omega
/-- no row is all 0 -/
def RN (P n : Nat) (R : Nat → Nat → Nat) : Prop := ∀ r, r < n → ∃ i, i < 7 * P ∧ R r i ≠ 0
theorem mixV_ne {R : Nat → Nat → Nat} {P n a b u v : Nat} (hN : RN P n R) (ha : a < n) (hu : 0 < u) : gcdN (mixV R a b u v) (7 * P) ≠ 0 := by
  obtain ⟨i, hi, h⟩ := hN a ha
  refine gcdN_ne hi ?_
  unfold mixV
  have : 0 < u * R a i := Nat.mul_pos hu (by omega)
  omega
theorem exV_b {R : Nat → Nat → Nat} {P n B s t c d r : Nat} (hB : RB P n R B) (hr : r < n) (h1 : eqA1 s c < 7 * P) (h2 : eqA2 s c < 7 * P) (h3 : eqA1 t d < 7 * P) (h4 : eqA2 t d < 7 * P) : -(2 * B : Int) ≤ exV s t c d (R r) ∧ exV s t c d (R r) ≤ 2 * B := by
  unfold exV
  have g1 := hB r hr _ h1
  have g2 := hB r hr _ h2
  have g3 := hB r hr _ h3
  have g4 := hB r hr _ h4
  omega
theorem mc_side2 (X : am_X) (S : MS) (P n r s t c d : Nat) (R : Nat → Nat → Nat) (hP : P ≤ 3) (hp : S.1 189 0 = nI P) (hn : n ≤ 2000) (hr : r < n) (hE : EQ S s t c d) (hH : RH S P n R) (h1 : eqA1 s c < 7 * P) (h2 : eqA2 s c < 7 * P) (h3 : eqA1 t d < 7 * P) (h4 : eqA2 t d < 7 * P) : MC X 151 [.ref 189, .int (nI r)] S (some (.int (zI (exV s t c d (R r))))) S := by
  have h := mc_side X S P r hP hp (by omega)
  rw [side_ex hE hH hP hr h1 h2 h3 h4] at h
  exact h
theorem okR_iff {R : Nat → Nat → Nat} {P n a b : Nat} : okR R P n a b = true ↔ anyN (twoK (sOf (R a) (7 * P) ||| sOf (R b) (7 * P))) P = 0 ∧ anyN (bes R (7 * P) a b (sOf (R a) (7 * P) ||| sOf (R b) (7 * P))) n = 0 := by
  unfold okR
  rw [Bool.and_eq_true, decide_eq_true_iff, decide_eq_true_iff]
theorem mixV_10 (R : Nat → Nat → Nat) (e : Nat → Int) (a : Nat) (h : e a = 0) : mixV R a a 1 0 = evV R e (a, a) := by
  unfold evV
  rw [if_pos h]
theorem mixV_pn (R : Nat → Nat → Nat) (e : Nat → Int) (a b : Nat) (h : 0 < e a) : mixV R a b (-e b).toNat (e a).toNat = evV R e (a, b) := by
  unfold evV
  rw [if_neg (by show ¬ e a = 0; omega)]
set_option maxHeartbeats 4000000 in
theorem mx_meet (X : am_X) (S : MS) (P n s t c d : Nat) (R : Nat → Nat → Nat) (B : Nat) (hP : P ≤ 3) (hp : S.1 189 0 = nI P) (hn : n ≤ 2000) (hE : EQ S s t c d) (hH : RH S P n R) (hB : RB P n R B) (hB1 : 1 ≤ B) (hBB : 4 * (B * B) < 2 ^ 31) (hN : RN P n R) (h1 : eqA1 s c < 7 * P) (h2 : eqA2 s c < 7 * P) (h3 : eqA1 t d < 7 * P) (h4 : eqA2 t d < 7 * P) (hl : (meetL R P n (fun r => exV s t c d (R r))).length ≤ 2000) : ∃ T, MC X 157 [.ref (189)] S none T ∧ lKeep S T ∧ RH T P (meetL R P n (fun r => exV s t c d (R r))).length (meetR R P n (fun r => exV s t c d (R r))) := by
  have hB2 : B < 2 ^ 29 := by
    have := Nat.mul_le_mul_left B hB1
    omega
  have hb2 : ∀ r, r < n → -(2 * B : Int) ≤ exV s t c d (R r) ∧ exV s t c d (R r) ≤ 2 * B := fun r hr => exV_b hB hr h1 h2 h3 h4
  generalize he : (fun r => exV s t c d (R r)) = e at hl ⊢
  have hee : ∀ r, exV s t c d (R r) = e r := fun r => by rw [← he]
  have hb3 : ∀ r, r < n → -(2 * B : Int) ≤ e r ∧ e r ≤ 2 * B := fun r hr => by rw [← hee]; exact hb2 r hr
  have key := MX.mc (X := X) (mj := 157) (as := [.ref (189)]) (S := S) (Post := fun v T => v = none ∧ lKeep S T ∧ RH T P (meetL R P n e).length (meetR R P n e)) ?_
  · obtain ⟨v, T, g1, g2, g3⟩ := key
    subst g2
    exact ⟨T, g1, g3⟩
  refine MX.of (Nat.le_of_ble_eq_true rfl) ?_
  refine as_aload_n d157_0 rfl ?_
  refine an_iconst 0 d157_1 rfl ?_
  refine ap_put d157_2 f157_195 (by decide) rfl (Nat.le_of_ble_eq_true rfl) (rfl) rfl rfl ?_
  refine an_iconst 0 d157_5 rfl ?_
  refine as_istore_n d157_6 (by decide) ?_
  refine AW.loc [(0, .ref (189)), (1, .int (nI (0)))] (am_pick [1, 0] rfl rfl) ?_
  refine aw_fromE (fun a T => ((7, [(0, .ref (189)), (1, .int (nI (a)))], [], 208, HP (T), 0, 0) : am_Z)) (fun a T => nKeep S T ∧ NH T P R e (evA e (okR R P n) n (a))) (0) (n) (by omega) ((S).sf 189 18 (nI (0))) (rfl) (⟨nKeep.rf0 S _, by rw [sf_at, if_pos ⟨rfl, rfl⟩]; rfl, fun j hj => absurd hj (Nat.not_lt_zero _)⟩) (fun a T ha0 ha hI iha => ?_) (fun T hX => ?_)
  · refine as_iload_n d157_7 rfl ?_
    refine as_aload_n d157_8 rfl ?_
    refine ap_get d157_9 f157_189 (by decide) rfl rfl ?_
    refine an_top (e' := nI (n)) ((hI.1.2.2 189 14 (by omega)).trans hH.1) ?_
    refine an_icmp_ge 114 d157_12 (by decide) (by omega) (by omega) (fun c12 => by omega) (fun c12 => ?_)
    refine as_aload_n d157_15 rfl ?_
    refine as_iload_n d157_16 rfl ?_
    refine ac_v1 d157_17 c157_201 (by decide) rfl (Nat.le_of_ble_eq_true rfl) (hee _ ▸ mc_side2 X _ P n _ s t c d R hP ((hI.1.2.2 189 0 (by omega)).trans hp) hn (by omega) (hE.nkeep hI.1) (hH.nkeep hI.1) h1 h2 h3 h4) ?_
    refine as_istore_n d157_20 (by decide) ?_
    refine as_iload_n d157_21 rfl ?_
    have hba := hb3 a ha
    rcases Int.lt_trichotomy (e a) 0 with hneg | hzer | hpos
    · have hv := evA_n (ok := okR R P n) (n := n) hneg
      refine as_if_ne 33 d157_22 (by decide) (fun c22 => ?_) (fun c22 => absurd ((zI_eq0 (by omega) (by omega)).mp c22) (by omega))
      refine an_iconst 0 d157_33 rfl ?_
      refine as_istore_n d157_34 (by decide) ?_
      refine as_iload_n d157_35 rfl ?_
      refine as_aload_n d157_36 rfl ?_
      refine ap_get d157_37 f157_189 (by decide) rfl rfl ?_
      refine an_top (e' := nI (n)) ((hI.1.2.2 189 14 (by omega)).trans hH.1) ?_
      refine an_icmp_ge 108 d157_40 (by decide) (by omega) (by omega) (fun c40 => by omega) (fun c40 => ?_)
      refine as_iload_n d157_43 rfl ?_
      refine as_if_le 108 d157_44 (by decide) (fun c44 => ?_) (fun c44 => absurd ((zI_le0 (by omega) (by omega)).mpr (by omega)) c44)
      refine an_iinc 1 d157_108 rfl rfl (by decide) ?_
      refine as_goto 7 d157_111 (by decide) ?_
      refine AW.loc [(0, .ref (189)), (1, .int (nI (a + 1)))] (am_pick [3, 0] rfl rfl) ?_
      have iha := iha (T) (by first | (rw [hv0]; exact hJX) | (rw [hv]; exact hI) | (rw [hv]; exact ⟨hI.1.lay _ _ _ _, hI.2.app hP (a, a) (mixV_10 R e a hzer)⟩))
      exact iha
    · have hv := evA_z (ok := okR R P n) (n := n) hzer
      have hlen : (evA e (okR R P n) n a).length < 2000 := by
        have q2 := evA_len e (okR R P n) n (show a + 1 ≤ n by omega)
        have q3 : (meetL R P n e).length = (evA e (okR R P n) n n).length := rfl
        rw [hv, List.length_append] at q2
        have q4 : [(a, a)].length = 1 := rfl
        omega
      refine as_if_ne 33 d157_22 (by decide) (fun c22 => absurd ((zI_eq0 (by omega) (by omega)).mpr hzer) c22) (fun c22 => ?_)
      refine as_aload_n d157_25 rfl ?_
      refine as_iload_n d157_26 rfl ?_
      refine as_iload_n d157_27 rfl ?_
      refine an_iconst 1 d157_28 rfl ?_
      refine an_iconst 0 d157_29 rfl ?_
      refine ac_v4 d157_30 c157_204 (by decide) rfl (Nat.le_of_ble_eq_true rfl) (mc_layRay X _ P n a a 1 0 _ R hP ((hI.1.2.2 189 0 (by omega)).trans hp) hn ha ha hlen hI.2.1 (hH.nkeep hI.1) (fun i hi => mixV_lt hB ha ha hi (by omega) (by omega) hBB) (mixV_ne hN ha (by omega))) ?_
      have hK2 : nKeep S ((sRow T 201 (21 * (evA e (okR R P n) n a).length) (fun i => nI (mixV R a a 1 0 i / gcdN (mixV R a a 1 0) (7 * P))) (7 * P)).sf 189 18 (nI ((evA e (okR R P n) n a).length + 1))) := hI.1.lay _ _ _ _
      refine an_iconst 0 d157_33 rfl ?_
      refine as_istore_n d157_34 (by decide) ?_
      refine as_iload_n d157_35 rfl ?_
      refine as_aload_n d157_36 rfl ?_
      refine ap_get d157_37 f157_189 (by decide) rfl rfl ?_
      refine an_top (e' := nI (n)) ((hK2.2.2 189 14 (by omega)).trans hH.1) ?_
      refine an_icmp_ge 108 d157_40 (by decide) (by omega) (by omega) (fun c40 => by omega) (fun c40 => ?_)
      refine as_iload_n d157_43 rfl ?_
      refine as_if_le 108 d157_44 (by decide) (fun c44 => ?_) (fun c44 => absurd ((zI_le0 (by omega) (by omega)).mpr (by omega)) c44)
      refine an_iinc 1 d157_108 rfl rfl (by decide) ?_
      refine as_goto 7 d157_111 (by decide) ?_
      refine AW.loc [(0, .ref (189)), (1, .int (nI (a + 1)))] (am_pick [3, 0] rfl rfl) ?_
      have iha := iha ((sRow T 201 (21 * (evA e (okR R P n) n a).length) (fun i => nI (mixV R a a 1 0 i / gcdN (mixV R a a 1 0) (7 * P))) (7 * P)).sf 189 18 (nI ((evA e (okR R P n) n a).length + 1))) (by first | (rw [hv0]; exact hJX) | (rw [hv]; exact hI) | (rw [hv]; exact ⟨hI.1.lay _ _ _ _, hI.2.app hP (a, a) (mixV_10 R e a hzer)⟩))
      exact iha
    · have hv0 := evA_p (ok := okR R P n) (n := n) hpos
      refine as_if_ne 33 d157_22 (by decide) (fun c22 => ?_) (fun c22 => absurd ((zI_eq0 (by omega) (by omega)).mp c22) (by omega))
      refine an_iconst 0 d157_33 rfl ?_
      refine as_istore_n d157_34 (by decide) ?_
      refine AW.loc [(0, .ref (189)), (1, .int (nI (a))), (2, .int (zI (e (a)))), (3, .int (nI (0)))] (am_pick [2, 3, 1, 0] rfl rfl) ?_
      refine aw_fromE (fun b U => ((35, [(0, .ref (189)), (1, .int (nI (a))), (2, .int (zI (e a))), (3, .int (nI (b)))], [], 208, HP (U), 0, 0) : am_Z)) (fun b U => nKeep S U ∧ NH U P R e (evA e (okR R P n) n a ++ evB e (okR R P n) a (b))) (0) (n) (by omega) (T) (rfl) (⟨hI.1, by show NH T P R e (_ ++ []); rw [List.append_nil]; exact hI.2⟩) (fun b U hb0 hb hJ ihb => ?_) (fun U hJX => ?_)
      · refine as_iload_n d157_35 rfl ?_
        refine as_aload_n d157_36 rfl ?_
        refine ap_get d157_37 f157_189 (by decide) rfl rfl ?_
        refine an_top (e' := nI (n)) ((hJ.1.2.2 189 14 (by omega)).trans hH.1) ?_
        refine an_icmp_ge 108 d157_40 (by decide) (by omega) (by omega) (fun c40 => by omega) (fun c40 => ?_)
        refine as_iload_n d157_43 rfl ?_
        refine as_if_le 108 d157_44 (by decide) (fun c44 => absurd ((zI_le0 (by omega) (by omega)).mp c44) (by omega)) (fun c44 => ?_)
        refine as_aload_n d157_47 rfl ?_
        refine as_iload_n d157_48 rfl ?_
        refine ac_v1 d157_49 c157_201 (by decide) rfl (Nat.le_of_ble_eq_true rfl) (hee _ ▸ mc_side2 X _ P n _ s t c d R hP ((hJ.1.2.2 189 0 (by omega)).trans hp) hn (by omega) (hE.nkeep hJ.1) (hH.nkeep hJ.1) h1 h2 h3 h4) ?_
        refine as_istore d157_52 (by decide) ?_
        refine as_aload_n d157_54 rfl ?_
        refine as_iload_n d157_55 rfl ?_
        refine ac_v1 d157_56 c157_192 (by decide) rfl (Nat.le_of_ble_eq_true rfl) (mc_supp X _ P n _ R B hP ((hJ.1.2.2 189 0 (by omega)).trans hp) hn (by omega) (hH.nkeep hJ.1) hB (by omega)) ?_
        refine as_aload_n d157_59 rfl ?_
        refine as_iload_n d157_60 rfl ?_
        refine ac_v1 d157_61 c157_192 (by decide) rfl (Nat.le_of_ble_eq_true rfl) (mc_supp X _ P n _ R B hP ((hJ.1.2.2 189 0 (by omega)).trans hp) hn (by omega) (hH.nkeep hJ.1) hB (by omega)) ?_
        refine as_ior d157_64 ?_
        refine as_istore d157_65 (by decide) ?_
        refine as_iload d157_67 rfl ?_
        have hbb := hb3 b hb
        refine as_if_ge 102 d157_69 (by decide) (fun c69 => ?_) (fun c69 => ?_)
        · have hnb : ¬ e b < 0 := fun g => absurd ((zI_ge0 (by omega) (by omega)).mp c69) (by omega)
          have hv : evB e (okR R P n) a (b + 1) = evB e (okR R P n) a b := evB_f (fun g => hnb g.1)
          refine an_iinc 1 d157_102 rfl rfl (by decide) ?_
          refine as_goto 35 d157_105 (by decide) ?_
          refine AW.loc [(0, .ref (189)), (1, .int (nI (a))), (2, .int (zI (e a))), (3, .int (nI (b + 1)))] (am_pick [3, 4, 5, 0] rfl rfl) ?_
          have ihb := ihb (U) (by first | (rw [hv]; exact hJ) | (rw [hv, ← List.append_assoc]; exact ⟨hJ.1.lay _ _ _ _, hJ.2.app hP (a, b) (mixV_pn R e a b hpos)⟩))
          exact ihb
        · have hnb : e b < 0 := Int.not_le.mp (fun g => c69 ((zI_ge0 (by omega) (by omega)).mpr g))
          refine as_aload_n d157_72 rfl ?_
          refine as_iload d157_73 rfl ?_
          refine ac_v1 d157_75 c157_208 (by decide) rfl (Nat.le_of_ble_eq_true rfl) (mc_hasOneKind X _ P _ hP ((hJ.1.2.2 189 0 (by omega)).trans hp)) ?_
          refine an_if_eq 102 d157_78 (by decide) (by omega) (fun c78 => ?_) (fun c78 => ?_)
          · have hv : evB e (okR R P n) a (b + 1) = evB e (okR R P n) a b := evB_f (fun g => by have := (okR_iff.mp g.2).1; omega)
            refine an_iinc 1 d157_102 rfl rfl (by decide) ?_
            refine as_goto 35 d157_105 (by decide) ?_
            refine AW.loc [(0, .ref (189)), (1, .int (nI (a))), (2, .int (zI (e a))), (3, .int (nI (b + 1)))] (am_pick [3, 4, 5, 0] rfl rfl) ?_
            have ihb := ihb (U) (by first | (rw [hv]; exact hJ) | (rw [hv, ← List.append_assoc]; exact ⟨hJ.1.lay _ _ _ _, hJ.2.app hP (a, b) (mixV_pn R e a b hpos)⟩))
            exact ihb
          · have hk1 : anyN (twoK (sOf (R a) (7 * P) ||| sOf (R b) (7 * P))) P = 0 := by have := anyN_lt (twoK (sOf (R a) (7 * P) ||| sOf (R b) (7 * P))) P; omega
            refine as_aload_n d157_81 rfl ?_
            refine as_iload_n d157_82 rfl ?_
            refine as_iload_n d157_83 rfl ?_
            refine as_iload d157_84 rfl ?_
            refine ac_v3 d157_86 c157_211 (by decide) rfl (Nat.le_of_ble_eq_true rfl) (mc_areBeside X _ P n a b _ R B hP ((hJ.1.2.2 189 0 (by omega)).trans hp) hn (by omega) (by omega) (hH.nkeep hJ.1) hB (by omega)) ?_
            refine an_if_eq 102 d157_89 (by decide) (by omega) (fun c89 => ?_) (fun c89 => ?_)
            · have hv : evB e (okR R P n) a (b + 1) = evB e (okR R P n) a b := evB_f (fun g => by have := (okR_iff.mp g.2).2; omega)
              refine an_iinc 1 d157_102 rfl rfl (by decide) ?_
              refine as_goto 35 d157_105 (by decide) ?_
              refine AW.loc [(0, .ref (189)), (1, .int (nI (a))), (2, .int (zI (e a))), (3, .int (nI (b + 1)))] (am_pick [3, 4, 5, 0] rfl rfl) ?_
              have ihb := ihb (U) (by first | (rw [hv]; exact hJ) | (rw [hv, ← List.append_assoc]; exact ⟨hJ.1.lay _ _ _ _, hJ.2.app hP (a, b) (mixV_pn R e a b hpos)⟩))
              exact ihb
            · have hk2 : anyN (bes R (7 * P) a b (sOf (R a) (7 * P) ||| sOf (R b) (7 * P))) n = 0 := by have := anyN_lt (bes R (7 * P) a b (sOf (R a) (7 * P) ||| sOf (R b) (7 * P))) n; omega
              have hv : evB e (okR R P n) a (b + 1) = evB e (okR R P n) a b ++ [(a, b)] := evB_t hnb (okR_iff.mpr ⟨hk1, hk2⟩)
              have hlen : (evA e (okR R P n) n a ++ evB e (okR R P n) a b).length < 2000 := by
                have q1 := evB_len e (okR R P n) a (show b + 1 ≤ n by omega)
                have q2 := evA_len e (okR R P n) n (show a + 1 ≤ n by omega)
                have q3 : (meetL R P n e).length = (evA e (okR R P n) n n).length := rfl
                rw [evA_p hpos, List.length_append] at q2
                rw [hv, List.length_append] at q1
                rw [List.length_append]
                have q4 : [(a, b)].length = 1 := rfl
                omega
              refine as_aload_n d157_92 rfl ?_
              refine as_iload_n d157_93 rfl ?_
              refine as_iload_n d157_94 rfl ?_
              refine as_iload d157_95 rfl ?_
              refine as_ineg d157_97 ?_
              refine an_top (e' := nI ((-e b).toNat)) (by rw [zI_neg, zI_nat' (by omega)]) ?_
              refine as_iload_n d157_98 rfl ?_
              refine an_top (e' := nI ((e a).toNat)) (zI_nat' (by omega)) ?_
              refine ac_v4 d157_99 c157_204 (by decide) rfl (Nat.le_of_ble_eq_true rfl) (mc_layRay X _ P n a b _ _ _ R hP ((hJ.1.2.2 189 0 (by omega)).trans hp) hn (by omega) (by omega) hlen hJ.2.1 (hH.nkeep hJ.1) (fun i hi => mixV_lt hB (by omega) (by omega) hi (by omega) (by omega) hBB) (mixV_ne hN (by omega) (by omega))) ?_
              refine an_iinc 1 d157_102 rfl rfl (by decide) ?_
              refine as_goto 35 d157_105 (by decide) ?_
              refine AW.loc [(0, .ref (189)), (1, .int (nI (a))), (2, .int (zI (e a))), (3, .int (nI (b + 1)))] (am_pick [3, 4, 5, 0] rfl rfl) ?_
              have ihb := ihb ((sRow U 201 (21 * (evA e (okR R P n) n a ++ evB e (okR R P n) a b).length) (fun i => nI (mixV R a b (-e b).toNat (e a).toNat i / gcdN (mixV R a b (-e b).toNat (e a).toNat) (7 * P))) (7 * P)).sf 189 18 (nI ((evA e (okR R P n) n a ++ evB e (okR R P n) a b).length + 1))) (by first | (rw [hv]; exact hJ) | (rw [hv, ← List.append_assoc]; exact ⟨hJ.1.lay _ _ _ _, hJ.2.app hP (a, b) (mixV_pn R e a b hpos)⟩))
              exact ihb
      · refine as_iload_n d157_35 rfl ?_
        refine as_aload_n d157_36 rfl ?_
        refine ap_get d157_37 f157_189 (by decide) rfl rfl ?_
        refine an_top (e' := nI (n)) ((hJX.1.2.2 189 14 (by omega)).trans hH.1) ?_
        refine an_icmp_ge 108 d157_40 (by decide) (by omega) (by omega) (fun c40 => ?_) (fun c40 => by omega)
        refine an_iinc 1 d157_108 rfl rfl (by decide) ?_
        refine as_goto 7 d157_111 (by decide) ?_
        refine AW.loc [(0, .ref (189)), (1, .int (nI (a + 1)))] (am_pick [1, 0] rfl rfl) ?_
        have iha := iha (U) (by first | (rw [hv0]; exact hJX) | (rw [hv]; exact hI) | (rw [hv]; exact ⟨hI.1.lay _ _ _ _, hI.2.app hP (a, a) (mixV_10 R e a hzer)⟩))
        exact iha
  · refine as_iload_n d157_7 rfl ?_
    refine as_aload_n d157_8 rfl ?_
    refine ap_get d157_9 f157_189 (by decide) rfl rfl ?_
    refine an_top (e' := nI (n)) ((hX.1.2.2 189 14 (by omega)).trans hH.1) ?_
    refine an_icmp_ge 114 d157_12 (by decide) (by omega) (by omega) (fun c12 => ?_) (fun c12 => by omega)
    refine as_aload_n d157_114 rfl ?_
    refine as_aload_n d157_115 rfl ?_
    refine ap_get d157_116 f157_195 (by decide) rfl rfl ?_
    refine an_top (e' := nI ((meetL R P n e).length)) (hX.2.1) ?_
    refine ap_put d157_119 f157_189 (by decide) rfl (Nat.le_of_ble_eq_true rfl) (rfl) rfl rfl ?_
    refine an_iconst 0 d157_122 rfl ?_
    refine as_istore_n d157_123 (by decide) ?_
    refine AW.loc [(0, .ref (189)), (1, .int (nI (0)))] (am_pick [1, 0] rfl rfl) ?_
    refine aw_for (fun i => ((124, [(0, .ref (189)), (1, .int (nI (i)))], [], 208, HP (sRow (T.sf 189 14 (nI (meetL R P n e).length)) 200 0 (T.2.1 201) (i)), 0, 0) : am_Z)) (21 * (meetL R P n e).length) (by rw [sRow_0]) (fun i hi ih => ?_) ?_
    · refine as_iload_n d157_124 rfl ?_
      refine an_bipush 21 d157_125 rfl ?_
      refine as_aload_n d157_127 rfl ?_
      refine ap_get d157_128 f157_189 (by decide) rfl rfl ?_
      refine an_top (e' := nI ((meetL R P n e).length)) (by rw [sRow_f, sf_at, if_pos ⟨rfl, rfl⟩]) ?_
      refine an_imul d157_131 ?_
      refine an_icmp_ge 153 d157_132 (by decide) (by omega) (by omega) (fun c132 => by omega) (fun c132 => ?_)
      refine as_aload_n d157_135 rfl ?_
      refine ap_get d157_136 f157_42 (by decide) rfl rfl ?_
      refine as_iload_n d157_139 rfl ?_
      refine as_aload_n d157_140 rfl ?_
      refine ap_get d157_141 f157_45 (by decide) rfl rfl ?_
      refine as_iload_n d157_144 rfl ?_
      refine ap_iald d157_145 (fun _ _ _ _ => rfl) (by decide) (by omega) (by decide) ?_
      refine an_top (e' := T.2.1 201 i) (by rw [sRow_row _ _ _ _ _ (by decide)]) ?_
      refine ap_iast d157_146 (fun _ _ _ _ => rfl) (by decide) (by omega) (by decide) ?_
      refine an_iinc 1 d157_147 rfl rfl (by decide) ?_
      refine as_goto 124 d157_150 (by decide) ?_
      refine AW.loc [(0, .ref (189)), (1, .int (nI (i + 1)))] (am_pick [1, 0] rfl rfl) ?_
      have eS : sRow (T.sf 189 14 (nI (meetL R P n e).length)) 200 0 (T.2.1 201) (i + 1) = (sRow (T.sf 189 14 (nI (meetL R P n e).length)) 200 0 (T.2.1 201) (i)).sa 200 (i) (T.2.1 201 i) := by rw [sRow_s, Nat.zero_add]
      rw [eS] at ih
      exact ih
    · refine as_iload_n d157_124 rfl ?_
      refine an_bipush 21 d157_125 rfl ?_
      refine as_aload_n d157_127 rfl ?_
      refine ap_get d157_128 f157_189 (by decide) rfl rfl ?_
      refine an_top (e' := nI ((meetL R P n e).length)) (by rw [sRow_f, sf_at, if_pos ⟨rfl, rfl⟩]) ?_
      refine an_imul d157_131 ?_
      refine an_icmp_ge 153 d157_132 (by decide) (by omega) (by omega) (fun c132 => ?_) (fun c132 => by omega)
      refine as_return d157_153 t157 ?_
      refine ⟨_, _, rfl, rfl, ?_, ?_, ?_⟩
      · refine lKeep.row (lKeep.sf ⟨fun k q0 q1 q2 => hX.1.1 k q1, hX.1.2.1, fun i j q => hX.1.2.2 i j (fun g => q ⟨g.1, Or.inr g.2⟩)⟩ (Or.inl rfl) _) (Or.inl rfl) _ _ _
      · rw [sRow_f, sf_at, if_pos ⟨rfl, rfl⟩]
      · intro r hr i hi
        have q := sRow_eq (S := T.sf 189 14 (nI (meetL R P n e).length)) (A := 200) (off := 0) (f := T.2.1 201) (n := 21 * (meetL R P n e).length) (i := 21 * r + i) (by omega)
        rw [Nat.zero_add] at q
        rw [q]
        exact hX.2.2 r hr i hi
