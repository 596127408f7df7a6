/-! the reference: divisor -/
theorem gcd_st (x y : Nat) : Nat.gcd y (x % y) = Nat.gcd x y := by
  rw [Nat.gcd_comm x y, Nat.gcd_rec y x, Nat.gcd_comm]
theorem mc_divisor (X : am_X) (S : MS) (a b : Nat) (ha : a < 2 ^ 31) (hb : b < 2 ^ 31) : MC X 155 [.int (nI a), .int (nI b)] S (some (.int (nI (Nat.gcd a b)))) S := by
  refine MC.of (Nat.le_of_ble_eq_true rfl) ?_
  refine as_iload_n d155_0 rfl ?_
  refine as_istore_n d155_1 (by decide) ?_
  refine as_iload_n d155_2 rfl ?_
  refine as_istore_n d155_3 (by decide) ?_
  refine AW.loc [(2, .int (nI (a))), (3, .int (nI (b)))] (am_pick [1, 0] rfl rfl) ?_
  refine aw_inv (fun q : Nat × Nat => ((4, [(2, .int (nI q.1)), (3, .int (nI q.2))], [], 208, HP S, 0, 0) : am_Z)) (fun q => q.1 < 2 ^ 31 ∧ q.2 < 2 ^ 31 ∧ Nat.gcd q.1 q.2 = Nat.gcd a b) (fun q => q.2) (fun q hq hrec => ?_) (a, b) ⟨ha, hb, rfl⟩
  obtain ⟨x, y⟩ := q
  obtain ⟨h1, h2, h3⟩ := hq
  dsimp only at h1 h2 h3 hrec ⊢
  refine as_iload_n d155_4 rfl ?_
  refine an_if_eq 21 d155_5 (by decide) (by omega) (fun c1 => ?_) (fun c1 => ?_)
  · refine as_iload_n d155_21 rfl ?_
    refine as_ireturn d155_22 (by rw [t155]; rfl) ?_
    refine am_req (congrArg nI ?_)
    rw [← h3, c1, Nat.gcd_zero_right]
  · refine as_iload_n d155_8 rfl ?_
    refine as_iload_n d155_9 rfl ?_
    refine an_irem d155_10 (by omega) (by omega) (by omega) ?_
    refine as_istore d155_11 (by decide) ?_
    refine as_iload_n d155_13 rfl ?_
    refine as_istore_n d155_14 (by decide) ?_
    refine as_iload d155_15 rfl ?_
    refine as_istore_n d155_17 (by decide) ?_
    refine as_goto 4 d155_18 (by decide) ?_
    refine AW.loc [(2, .int (nI (y))), (3, .int (nI ((x) % (y))))] (am_pick [1, 0] rfl rfl) ?_
    exact hrec (y, x % y) ⟨h2, Nat.lt_trans (Nat.mod_lt _ (by omega)) h2, (gcd_st x y).trans h3⟩ (Nat.mod_lt _ (by omega))
