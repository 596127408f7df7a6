/-! the class: least sheets, small things -/
section AR4
variable {X : am_X} {mi : Nat} {pc : Nat} {L : am_L} {st : List Value} {n : Nat} {h : am_H} {k j : Nat} {Q : am_R → Prop} {S : MS}
theorem an_topr {a a' : Nat} (he : a = a') (kk : AW X mi (pc, L, .ref a' :: st, n, h, k, j) Q) : AW X mi (pc, L, .ref a :: st, n, h, k, j) Q := by
  rw [he]
  exact kk
end AR4
theorem isQ44 : isQ 3 44 64 := fun _ _ _ _ => rfl
theorem isQ111 : isQ 3 111 64 := fun _ _ _ _ => rfl
theorem gcd_mod (a b : Nat) : Nat.gcd b (a % b) = Nat.gcd a b := by rw [Nat.gcd_comm b (a % b), ← Nat.gcd_rec, Nat.gcd_comm]
theorem euc {b s : Nat} (h : s ≤ b) (hs : 0 < s) : 2 * (s * (b % s)) ≤ b * s := by
  have h1 := Nat.div_add_mod b s
  have h2 := Nat.mod_lt b hs
  have h3 : 1 ≤ b / s := (Nat.le_div_iff_mul_le hs).mpr (by omega)
  have h4 : s ≤ s * (b / s) := Nat.le_mul_of_pos_right s h3
  have h5 : 2 * (b % s) ≤ b := by omega
  calc 2 * (s * (b % s)) = s * (2 * (b % s)) := by rw [← Nat.mul_assoc, ← Nat.mul_assoc, Nat.mul_comm 2 s]
    _ ≤ s * b := Nat.mul_le_mul_left s h5
    _ = b * s := Nat.mul_comm _ _
theorem euc_lt {b s i : Nat} (hs : 0 < s) (hb : s ≤ b) (h : b * s * 2 ^ i < 2 ^ 62) : i < 62 := by
  have h1 : 1 ≤ b * s := Nat.mul_pos (by omega) hs
  have h2 : 2 ^ i < 2 ^ 62 := Nat.lt_of_le_of_lt (by have := Nat.mul_le_mul_right (2 ^ i) h1; omega) h
  exact (Nat.pow_lt_pow_iff_right (by decide)).mp h2
theorem mc_commonDivisor (X : am_X) (S : MS) (a b : Nat) (ha : a < 2 ^ 31) (hb : b < 2 ^ 31) : MC X 16 [.int (nI (a)), .int (nI (b))] S (some (.int (nI (Nat.gcd a b)))) S := by
  refine MC.of (Nat.le_of_ble_eq_true rfl) ?_
  refine as_iload_n d16_0 rfl ?_
  refine as_istore_n d16_1 (by decide) ?_
  refine as_iload_n d16_2 rfl ?_
  refine as_istore_n d16_3 (by decide) ?_
  refine an_iconst 0 d16_4 rfl ?_
  refine as_istore d16_5 (by decide) ?_
  refine AW.loc [(2, .int (nI (a))), (3, .int (nI (b))), (4, .int (nI (0)))] (am_pick [2, 1, 0] rfl rfl) ?_
  refine aw_inv2 (σ := (Nat) × (Nat) × (Nat)) (fun σ => ((7, [(2, .int (nI (σ.1))), (3, .int (nI (σ.2.1))), (4, .int (nI (σ.2.2)))], [], 208, HP (S), 0, 0) : am_Z)) (fun σ => σ.1 < 2 ^ 31 ∧ σ.2.1 < 2 ^ 31 ∧ Nat.gcd σ.1 σ.2.1 = Nat.gcd a b ∧ ((σ.2.2 = 0) ∨ (σ.2.1 ≤ σ.1 ∧ ∃ q, σ.2.2 = q + 1 ∧ σ.1 * σ.2.1 * 2 ^ q < 2 ^ 62 ∧ q < 63))) (fun σ => σ.2.1) (fun σ hσ ihσ => ?_) (a, b, 0) (rfl) (by dsimp only; exact ⟨ha, hb, rfl, Or.inl rfl⟩)
  obtain ⟨x, y, i⟩ := σ
  dsimp only at hσ ihσ ⊢
  obtain ⟨h1, h2, h3, h4⟩ := hσ
  have h5 : y ≠ 0 → i < 63 := fun hy => by
    rcases h4 with h4 | ⟨g1, q, g2, g3, g4⟩
    · omega
    · have := euc_lt (by omega) g1 g3
      omega
  have h6 : i ≤ 64 := by
    rcases h4 with h4 | ⟨g1, q, g2, g3, g4⟩ <;> omega
  refine as_iload d16_7 rfl ?_
  refine an_bipush 64 d16_9 rfl ?_
  refine an_icmp_ge 34 d16_11 (by decide) (by omega) (by omega) (fun c11 => ?_) (fun c11 => ?_)
  · have hy0 : y = 0 := Classical.byContradiction (fun g => by have := h5 g; omega)
    subst hy0
    refine as_iload_n d16_34 rfl ?_
    refine as_ireturn d16_35 (by rw [t16]; rfl) ?_
    refine am_req (congrArg nI ?_)
    first | (rw [Nat.gcd_zero_right] at h3; exact h3) | (rw [hy0, Nat.gcd_zero_right] at h3; exact h3)
  · refine as_iload_n d16_14 rfl ?_
    refine an_if_eq 34 d16_15 (by decide) (by omega) (fun c15 => ?_) (fun c15 => ?_)
    · have hy0 : y = 0 := c15
      refine as_iload_n d16_34 rfl ?_
      refine as_ireturn d16_35 (by rw [t16]; rfl) ?_
      refine am_req (congrArg nI ?_)
      first | (rw [Nat.gcd_zero_right] at h3; exact h3) | (rw [hy0, Nat.gcd_zero_right] at h3; exact h3)
    · refine as_iload_n d16_18 rfl ?_
      refine as_iload_n d16_19 rfl ?_
      refine an_irem d16_20 (h1) (by omega) (h2) ?_
      refine as_istore d16_21 (by decide) ?_
      refine as_iload_n d16_23 rfl ?_
      refine as_istore_n d16_24 (by decide) ?_
      refine as_iload d16_25 rfl ?_
      refine as_istore_n d16_27 (by decide) ?_
      refine an_iinc 1 d16_28 rfl rfl (by decide) ?_
      refine as_goto 7 d16_31 (by decide) ?_
      refine AW.loc [(2, .int (nI (y))), (3, .int (nI ((x) % (y)))), (4, .int (nI (i + 1)))] (am_pick [2, 1, 0] rfl rfl) ?_
      exact ihσ (y, x % y, i + 1) (by
        dsimp only
        have hm := Nat.mod_lt x (show 0 < y by omega)
        refine ⟨h2, by omega, by rw [gcd_mod]; exact h3, Or.inr ⟨by omega, i, rfl, ?_, h5 (by omega)⟩⟩
        rcases h4 with h4 | ⟨g1, q, g2, g3, g4⟩
        · rw [h4, Nat.pow_zero, Nat.mul_one]
          have := Nat.mul_le_mul (show y ≤ 2 ^ 31 - 1 by omega) (show x % y ≤ 2 ^ 31 - 1 by omega)
          omega
        · rw [g2, Nat.pow_succ]
          have e1 := euc g1 (by omega)
          have e2 := Nat.mul_le_mul_right (2 ^ q) e1
          have e3 : y * (x % y) * (2 ^ q * 2) = 2 * (y * (x % y)) * 2 ^ q := by rw [Nat.mul_comm (2 ^ q) 2, ← Nat.mul_assoc, Nat.mul_comm (y * (x % y)) 2]
          rw [e3]
          omega) (by show x % y < y; exact Nat.mod_lt x (by omega))
theorem anyN_top {p : Nat → Bool} {i n : Nat} (h : i < n) (hp : p i = true) : anyN p n = 1 := by
  have h1 := cnt_mono p (show i + 1 ≤ n by omega)
  rw [cnt_t hp] at h1
  unfold anyN
  rw [if_neg (by omega)]
theorem mc_mixesL (X : am_X) (S : MS) (x : Int32) : MC X 14 [.int (x)] S (some (.int (nI (anyN (twoK x) 3)))) S := by
  refine MC.of (Nat.le_of_ble_eq_true rfl) ?_
  refine an_iconst 0 d14_0 rfl ?_
  refine as_istore_n d14_1 (by decide) ?_
  refine AW.loc [(0, .int (x)), (1, .int (nI (0)))] (am_pick [1, 0] rfl rfl) ?_
  refine aw_fromI (fun i => ((2, [(0, .int (x)), (1, .int (nI (i)))], [], 208, HP (S), 0, 0) : am_Z)) (fun i => anyN (twoK x) (i) = 0) (0) (3) (by omega) (rfl) (rfl) (fun i hi0 hi hI ih => ?_) (fun hX => ?_)
  · refine as_iload_n d14_2 rfl ?_
    refine an_iconst 3 d14_3 rfl ?_
    refine an_icmp_ge 35 d14_4 (by decide) (by omega) (by omega) (fun c4 => by omega) (fun c4 => ?_)
    refine as_iload_n d14_7 rfl ?_
    refine an_bipush 7 d14_8 rfl ?_
    refine as_iload_n d14_10 rfl ?_
    refine an_imul d14_11 ?_
    refine an_iconst 4 d14_12 rfl ?_
    refine an_iadd d14_13 ?_
    refine as_ishr d14_14 ?_
    refine an_bipush 7 d14_15 rfl ?_
    refine as_iand d14_17 ?_
    refine an_top (e' := fours x i) (rfl) ?_
    refine as_istore_n d14_18 (by decide) ?_
    refine as_iload_n d14_19 rfl ?_
    refine as_iload_n d14_20 rfl ?_
    refine an_iconst 1 d14_21 rfl ?_
    refine as_isub d14_22 ?_
    refine as_iand d14_23 ?_
    refine as_if_eq 29 d14_24 (by decide) (fun c24 => ?_) (fun c24 => ?_)
    · refine an_iinc 1 d14_29 rfl rfl (by decide) ?_
      refine as_goto 2 d14_32 (by decide) ?_
      refine AW.loc [(0, .int (x)), (1, .int (nI (i + 1)))] (am_pick [2, 0] rfl rfl) ?_
      have ih := ih (anyN_f hI (fun h => (of_decide_eq_true (p := ¬ fours x i &&& (fours x i - nI 1) = 0) h) c24))
      exact ih
    · have hyes : twoK x i = true := decide_eq_true c24
      refine an_iconst 1 d14_27 rfl ?_
      refine as_ireturn d14_28 (by rw [t14]; rfl) ?_
      refine am_req (congrArg nI ?_)
      first | exact hX.symm | exact (anyN_top (show i < 3 by omega) hyes).symm
  · refine as_iload_n d14_2 rfl ?_
    refine an_iconst 3 d14_3 rfl ?_
    refine an_icmp_ge 35 d14_4 (by decide) (by omega) (by omega) (fun c4 => ?_) (fun c4 => by omega)
    refine an_iconst 0 d14_35 rfl ?_
    refine as_ireturn d14_36 (by rw [t14]; rfl) ?_
    refine am_req (congrArg nI ?_)
    first | exact hX.symm | exact (anyN_top (show i < 3 by omega) hyes).symm
theorem bef_no {u v : Nat → Nat} {i j : Nat} (hI : ∀ k, k < i → u k = v k) (hne : u i ≠ v i) (hge : v i ≤ u i) (q2 : ∀ k, k < j → u k = v k) (q3 : u j < v j) : False := by
  rcases Nat.lt_trichotomy i j with g | g | g
  · exact hne (q2 i g)
  · subst g; omega
  · have := hI j g; omega
theorem mc_comesBefore (X : am_X) (S : MS) (w a b : Nat) (u v : Nat → Nat) (hw : S.1 43 0 = nI w) (hw2 : w ≤ 21) (ra : 45 ≤ a ∧ a < 109 ∨ 112 ≤ a ∧ a < 176) (rb : 45 ≤ b ∧ b < 109 ∨ 112 ≤ b ∧ b < 176) (hu : ∀ i, i < w → S.2.1 a i = nI (u i)) (hv : ∀ i, i < w → S.2.1 b i = nI (v i)) (bu : ∀ i, i < w → u i < 2 ^ 31) (bv : ∀ i, i < w → v i < 2 ^ 31) : MC X 19 [.ref (43), .ref (a), .ref (b)] S (some (.int (if bef u v w = true then 1 else 0))) S := by
  refine MC.of (Nat.le_of_ble_eq_true rfl) ?_
  refine an_iconst 0 d19_0 rfl ?_
  refine as_istore_n d19_1 (by decide) ?_
  refine AW.loc [(0, .ref (43)), (1, .ref (a)), (2, .ref (b)), (3, .int (nI (0)))] (am_pick [1, 2, 3, 0] rfl rfl) ?_
  refine aw_fromI (fun i => ((2, [(0, .ref (43)), (1, .ref (a)), (2, .ref (b)), (3, .int (nI (i)))], [], 208, HP (S), 0, 0) : am_Z)) (fun i => ∀ j, j < i → u j = v j) (0) (w) (by omega) (rfl) (fun j hj => by omega) (fun i hi0 hi hI ih => ?_) (fun hX => ?_)
  · refine as_iload_n d19_2 rfl ?_
    refine as_aload_n d19_3 rfl ?_
    refine ap_get d19_4 f19_59 (by decide) rfl rfl ?_
    refine an_top (e' := nI (w)) (hw) ?_
    refine an_icmp_ge 40 d19_7 (by decide) (by omega) (by omega) (fun c7 => by omega) (fun c7 => ?_)
    refine as_aload_n d19_10 rfl ?_
    refine as_iload_n d19_11 rfl ?_
    refine ap_iald d19_12 (isI_row ra) (by omega) (by omega) (by decide) (an_top (e' := nI (u i)) (hu i (by omega)) ?_)
    refine as_aload_n d19_13 rfl ?_
    refine as_iload_n d19_14 rfl ?_
    refine ap_iald d19_15 (isI_row rb) (by omega) (by omega) (by decide) (an_top (e' := nI (v i)) (hv i (by omega)) ?_)
    refine an_icmp_eq 34 d19_16 (by decide) (bu i hi) (bv i hi) (fun c16 => ?_) (fun c16 => ?_)
    · refine an_iinc 1 d19_34 rfl rfl (by decide) ?_
      refine as_goto 2 d19_37 (by decide) ?_
      refine AW.loc [(0, .ref (43)), (1, .ref (a)), (2, .ref (b)), (3, .int (nI (i + 1)))] (am_pick [1, 2, 3, 0] rfl rfl) ?_
      have ih := ih (fun j hj => by
        by_cases e : j = i
        · rw [e]; exact c16
        · exact hI j (by omega))
      exact ih
    · refine as_aload_n d19_19 rfl ?_
      refine as_iload_n d19_20 rfl ?_
      refine ap_iald d19_21 (isI_row ra) (by omega) (by omega) (by decide) (an_top (e' := nI (u i)) (hu i (by omega)) ?_)
      refine as_aload_n d19_22 rfl ?_
      refine as_iload_n d19_23 rfl ?_
      refine ap_iald d19_24 (isI_row rb) (by omega) (by omega) (by decide) (an_top (e' := nI (v i)) (hv i (by omega)) ?_)
      refine an_icmp_ge 32 d19_25 (by decide) (bu i hi) (bv i hi) (fun c25 => ?_) (fun c25 => ?_)
      · refine an_iconst 0 d19_32 rfl ?_
        refine as_ireturn d19_33 (by rw [t19]; rfl) ?_
        refine am_req ?_
        first | exact (if_neg (fun g => by obtain ⟨i2, q1, q2, q3⟩ := (bef_iff w).mp g; have := hX i2 q1; omega)).symm | exact (if_pos ((bef_iff w).mpr ⟨i, hi, hI, by omega⟩)).symm | exact (if_neg (fun g => by obtain ⟨i2, q1, q2, q3⟩ := (bef_iff w).mp g; exact bef_no hI c16 (by omega) q2 q3)).symm
      · refine an_iconst 1 d19_28 rfl ?_
        refine as_goto 33 d19_29 (by decide) ?_
        refine as_ireturn d19_33 (by rw [t19]; rfl) ?_
        refine am_req ?_
        first | exact (if_neg (fun g => by obtain ⟨i2, q1, q2, q3⟩ := (bef_iff w).mp g; have := hX i2 q1; omega)).symm | exact (if_pos ((bef_iff w).mpr ⟨i, hi, hI, by omega⟩)).symm | exact (if_neg (fun g => by obtain ⟨i2, q1, q2, q3⟩ := (bef_iff w).mp g; exact bef_no hI c16 (by omega) q2 q3)).symm
  · refine as_iload_n d19_2 rfl ?_
    refine as_aload_n d19_3 rfl ?_
    refine ap_get d19_4 f19_59 (by decide) rfl rfl ?_
    refine an_top (e' := nI (w)) (hw) ?_
    refine an_icmp_ge 40 d19_7 (by decide) (by omega) (by omega) (fun c7 => ?_) (fun c7 => by omega)
    refine an_iconst 0 d19_40 rfl ?_
    refine as_ireturn d19_41 (by rw [t19]; rfl) ?_
    refine am_req ?_
    first | exact (if_neg (fun g => by obtain ⟨i2, q1, q2, q3⟩ := (bef_iff w).mp g; have := hX i2 q1; omega)).symm | exact (if_pos ((bef_iff w).mpr ⟨i, hi, hI, by omega⟩)).symm | exact (if_neg (fun g => by obtain ⟨i2, q1, q2, q3⟩ := (bef_iff w).mp g; exact bef_no hI c16 (by omega) q2 q3)).symm
