/-! the class: least, number, add -/
theorem HoldW.f {T : MS} {P n : Nat} {R : Nat → Nat → Nat} (h : HoldW T P n R) : HoldF T := ⟨h.1, by
  rcases h.2.2.2 with g | g
  · exact Or.inl g.1
  · exact Or.inr g.1⟩
theorem HoldW.row {T : MS} {P n : Nat} {R : Nat → Nat → Nat} (h : HoldW T P n R) : ∃ q, T.2.2.2 43 2 = q ∧ isQ 3 q 64 ∧ q < 208 ∧ RW T q n R ∧ ∀ i, i < 64 → (45 ≤ T.2.2.2 q i ∧ T.2.2.2 q i < 109 ∨ 112 ≤ T.2.2.2 q i ∧ T.2.2.2 q i < 176) := by
  rcases h.2.2.2 with g | g
  · exact ⟨44, g.1.1, isQ44, by decide, g.2, fun i hi => Or.inl (h.1.1 i hi)⟩
  · exact ⟨111, g.1.1, isQ111, by decide, g.2, fun i hi => Or.inr (h.1.2.2.1 i hi)⟩
/-- what is kept where the search may have run -/
def lfK (S T : MS) : Prop := (∀ k, ¬ (45 ≤ k ∧ k < 111) → ¬ (112 ≤ k ∧ k < 177) → T.2.1 k = S.2.1 k) ∧ T.2.2.1 = S.2.2.1 ∧ (∀ k, k ≠ 43 → k ≠ 44 → k ≠ 111 → T.2.2.2 k = S.2.2.2 k) ∧ (∀ i j, ¬ (i = 43 ∧ (j = 0 ∨ j = 1 ∨ j = 5)) → ¬ (i = 0 ∧ j = 5) → T.1 i j = S.1 i j)
theorem lfK.rf (S : MS) : lfK S S := ⟨fun _ _ _ => rfl, rfl, fun _ _ _ _ => rfl, fun _ _ _ _ => rfl⟩
theorem CG.lf {S T : MS} {P : Nat} {mt : Nat → Option Nat} {go : Nat → Nat} (h : CG S P mt go) (g : lfK S T) : CG T P mt go := h.keep (g.2.2.2 1 0 (by omega) (by omega)) (g.2.2.2 1 1 (by omega) (by omega)) (g.1 2 (by omega) (by omega)) (g.1 3 (by omega) (by omega))
theorem SHC.lf {S T : MS} {sh : Nat → Nat} (h : SHC S sh) (g : lfK S T) : SHC T sh := fun i hi => by rw [g.1 178 (by omega) (by omega)]; exact h i hi
theorem SHC.cg {S T : MS} {P : Nat} (h : S.1 1 0 = nI P) (g : lfK S T) : T.1 1 0 = nI P := (g.2.2.2 1 0 (by omega) (by omega)).trans h
/-- the list is fresh, or it is stale -/
def LSt (S : MS) (P : Nat) (mt : Nat → Option Nat) (go : Nat → Nat) : Prop := HoldF S ∧ (S.1 0 5 = nI 1 ∨ (S.1 0 5 = nI 0 ∧ HoldW S P (dN P mt go) (dR P mt go)))
theorem LSt.of {T : MS} {P : Nat} {mt : Nat → Option Nat} {go : Nat → Nat} (h : T.1 0 5 = nI 0) (g : HoldW T P (dN P mt go) (dR P mt go)) : LSt T P mt go := ⟨g.f, Or.inr ⟨h, g⟩⟩
theorem mx_freshenLeast (X : am_X) (S : MS) (P : Nat) (mt : Nat → Option Nat) (go : Nat → Nat) (hG : GW P mt go) (hC : CG S P mt go) (hD : DAll P mt go) (hl : LSt S P mt go) : ∃ T, MC X 104 [.ref (0)] S none T ∧ lfK S T ∧ T.1 0 5 = nI 0 ∧ HoldW T P (dN P mt go) (dR P mt go) := by
  rcases hl with ⟨hf, hst | ⟨hst, hw⟩⟩
  · obtain ⟨T, a1, a2, a3⟩ := mx_buildL X S P mt go hG hC hf hD
    refine ⟨T.sf 0 5 (nI 0), ?_, ⟨a2.1, a2.2.1, a2.2.2.1, fun i j h1 h2 => by rw [sf_at, if_neg h2]; exact a2.2.2.2 i j h1⟩, by rw [sf_at, if_pos ⟨rfl, rfl⟩], a3.1, by rw [sf_at, if_neg (by omega)]; exact a3.2.1, by rw [sf_at, if_neg (by omega)]; exact a3.2.2.1, a3.2.2.2⟩
    refine MC.of (Nat.le_of_ble_eq_true rfl) ?_
    refine as_aload_n d104_0 rfl ?_
    refine ap_get d104_1 f104_44 (by decide) rfl rfl ?_
    refine an_top (e' := nI (1)) (hst) ?_
    refine an_if_eq 23 d104_4 (by decide) (by omega) (fun c4 => absurd c4 (by decide)) (fun c4 => ?_)
    refine as_aload_n d104_7 rfl ?_
    refine ap_get d104_8 f104_26 (by decide) rfl rfl ?_
    refine as_aload_n d104_11 rfl ?_
    refine ap_get d104_12 f104_10 (by decide) rfl rfl ?_
    refine ac_v1 d104_15 c104_212 (by decide) rfl (Nat.le_of_ble_eq_true rfl) (a1) ?_
    refine as_aload_n d104_18 rfl ?_
    refine an_iconst 0 d104_19 rfl ?_
    refine ap_put d104_20 f104_44 (by decide) rfl (Nat.le_of_ble_eq_true rfl) (rfl) rfl rfl ?_
    refine as_return d104_23 t104 ?_
    rfl
  · refine ⟨S, ?_, lfK.rf S, hst, hw⟩
    refine MC.of (Nat.le_of_ble_eq_true rfl) ?_
    refine as_aload_n d104_0 rfl ?_
    refine ap_get d104_1 f104_44 (by decide) rfl rfl ?_
    refine an_top (e' := nI (0)) (hst) ?_
    refine an_if_eq 23 d104_4 (by decide) (by omega) (fun c4 => ?_) (fun c4 => absurd c4 (by decide))
    refine as_return d104_23 t104 ?_
    rfl
theorem mx_leastC (X : am_X) (S : MS) (P : Nat) (mt : Nat → Option Nat) (go : Nat → Nat) (hG : GW P mt go) (hC : CG S P mt go) (hD : DAll P mt go) (hl : LSt S P mt go) : ∃ T, MC X 89 [.ref (0)] S (some (.int (nI (dN P mt go)))) T ∧ lfK S T ∧ LSt T P mt go := by
  obtain ⟨T, hM, hK, h5, hW⟩ := mx_freshenLeast X S P mt go hG hC hD hl
  have hP := hG.1
  have hp : T.1 1 0 = nI P := SHC.cg hC.1 hK
  have hr1 := hW.2.2.1
  obtain ⟨hn, hB⟩ := dR_b hD
  obtain ⟨q, hqf, hQ, hq8, hRW, hrg⟩ := hW.row
  refine ⟨T, ?_, hK, LSt.of h5 hW⟩
  refine MC.of (Nat.le_of_ble_eq_true rfl) ?_
  refine as_aload_n d89_0 rfl ?_
  refine ac_v0 d89_1 c89_152 (by decide) rfl (Nat.le_of_ble_eq_true rfl) (hM) ?_
  refine as_aload_n d89_4 rfl ?_
  refine ap_get d89_5 f89_26 (by decide) rfl rfl ?_
  refine ap_get d89_8 f89_155 (by decide) rfl rfl ?_
  refine an_top (e' := nI (dN P mt go)) (hr1) ?_
  refine as_ireturn d89_11 (by rw [t89]; rfl) ?_
  rfl
theorem mx_numberC (X : am_X) (S : MS) (P : Nat) (mt : Nat → Option Nat) (go : Nat → Nat) (hG : GW P mt go) (hC : CG S P mt go) (hD : DAll P mt go) (hl : LSt S P mt go) (k i : Int32) : ∃ T, MC X 90 [.ref (0), .int (k), .int (i)] S (some (.int (numA (dN P mt go) (dR P mt go) P k i))) T ∧ lfK S T ∧ LSt T P mt go := by
  obtain ⟨T, hM, hK, h5, hW⟩ := mx_freshenLeast X S P mt go hG hC hD hl
  have hP := hG.1
  have hp : T.1 1 0 = nI P := SHC.cg hC.1 hK
  have hr1 := hW.2.2.1
  obtain ⟨hn, hB⟩ := dR_b hD
  obtain ⟨q, hqf, hQ, hq8, hRW, hrg⟩ := hW.row
  refine ⟨T, ?_, hK, LSt.of h5 hW⟩
  by_cases hv : inR (dN P mt go) k ∧ isNm P i
  · obtain ⟨a, ha, rfl⟩ := nat_of (by omega) hv.1
    obtain ⟨b, hb, rfl⟩ := nat_of (by omega) hv.2
    have hra := hrg a (by omega)
    refine MC.of (Nat.le_of_ble_eq_true rfl) ?_
    refine as_aload_n d90_0 rfl ?_
    refine ac_v0 d90_1 c90_152 (by decide) rfl (Nat.le_of_ble_eq_true rfl) (hM) ?_
    refine as_aload_n d90_4 rfl ?_
    refine as_iload_n d90_5 rfl ?_
    refine ac_v1 d90_6 c90_158 (by decide) rfl (Nat.le_of_ble_eq_true rfl) (mc_hasLeast X _ _ hr1 _) ?_
    refine as_if_eq 20 d90_9 (by decide) (fun c9 => absurd hv.1 (am_b01.mp c9)) (fun c9 => ?_)
    refine as_aload_n d90_12 rfl ?_
    refine as_iload_n d90_13 rfl ?_
    refine ac_v1 d90_14 c90_161 (by decide) rfl (Nat.le_of_ble_eq_true rfl) (mc_hasNumber X _ P hp _) ?_
    refine as_if_ne 23 d90_17 (by decide) (fun c17 => ?_) (fun c17 => absurd hv.2 (am_b01.mp c17))
    refine as_aload_n d90_23 rfl ?_
    refine ap_get d90_24 f90_26 (by decide) rfl rfl ?_
    refine ap_get d90_27 f90_164 (by decide) rfl rfl ?_
    refine an_topr (hqf) ?_
    refine as_iload_n d90_30 rfl ?_
    refine ap_aald d90_31 hQ (Or.inl rfl) hq8 (by omega) (by decide) (an_topr (show _ = T.2.2.2 q a from rfl) ?_)
    refine as_iload_n d90_32 rfl ?_
    refine ap_iald d90_33 (isI_row hra) (by omega) (show b < 21 by omega) (by decide) (an_top (e' := nI (dR P mt go a b)) (hRW a ha b (by omega)) ?_)
    refine as_ireturn d90_34 (by rw [t90]; rfl) ?_
    refine am_req ?_
    unfold numA
    rw [if_pos hv, nI_clamp (by omega), nI_clamp (by omega)]
  · refine MC.of (Nat.le_of_ble_eq_true rfl) ?_
    refine as_aload_n d90_0 rfl ?_
    refine ac_v0 d90_1 c90_152 (by decide) rfl (Nat.le_of_ble_eq_true rfl) (hM) ?_
    refine as_aload_n d90_4 rfl ?_
    refine as_iload_n d90_5 rfl ?_
    refine ac_v1 d90_6 c90_158 (by decide) rfl (Nat.le_of_ble_eq_true rfl) (mc_hasLeast X _ _ hr1 _) ?_
    refine as_if_eq 20 d90_9 (by decide) (fun c9 => ?_) (fun c9 => ?_)
    · refine an_bipushI (-2) d90_20 rfl ?_
      refine as_ireturn d90_22 (by rw [t90]; rfl) ?_
      refine am_req ?_
      unfold numA
      rw [if_neg hv]
    · refine as_aload_n d90_12 rfl ?_
      refine as_iload_n d90_13 rfl ?_
      refine ac_v1 d90_14 c90_161 (by decide) rfl (Nat.le_of_ble_eq_true rfl) (mc_hasNumber X _ P hp _) ?_
      refine as_if_ne 23 d90_17 (by decide) (fun c17 => ?_) (fun c17 => ?_)
      · exact absurd ⟨am_b1 c9, am_b1 c17⟩ hv
      · refine an_bipushI (-2) d90_20 rfl ?_
        refine as_ireturn d90_22 (by rw [t90]; rfl) ?_
        refine am_req ?_
        unfold numA
        rw [if_neg hv]
theorem i64_nat {n : Nat} (h : n < 2 ^ 31) : (nI n).toInt64 = Int64.ofInt n := by
  rw [← Int64.ofInt_toInt (nI n).toInt64, Int32.toInt_toInt64, ← zI_nat, zI_toInt (by omega) (by omega)]
theorem lg1000 {a b c : Nat} (ha : a ≤ 1000) (hb : b ≤ 100) (hc : c ≤ 20000) : lg_cmp ((nI a).toInt64 + (nI b).toInt64 * (nI c).toInt64) 1000 ≤ 0 ↔ a + b * c ≤ 1000 := by
  rw [lg_cmp_le, i64_nat (by omega), i64_nat (by omega), i64_nat (by omega), ← Int64.ofInt_mul, ← Int64.ofInt_add]
  have hd : b * c ≤ 100 * 20000 := Nat.mul_le_mul hb hc
  have e : (a : Int) + (b : Int) * (c : Int) = ((a + b * c : Nat) : Int) := by rw [Int.natCast_add, Int.natCast_mul]
  rw [e]
  generalize b * c = d at *
  rw [Int64.le_iff_toInt_le, Int64.toInt_ofInt_of_le (by omega) (by omega)]
  rw [show (1000 : Int64).toInt = 1000 from rfl]
  omega
theorem mc_hasRoom0 (X : am_X) (S : MS) (r b : Nat) (u sh : Nat → Nat) (hr : 45 ≤ r ∧ r < 109 ∨ 112 ≤ r ∧ r < 176) (hS : SHC S sh) (hu : ∀ i, i < 21 → S.2.1 r i = nI (u i)) (hub : ∀ i, i < 21 → u i ≤ 20000) (hb : b ≤ 100) (m : Nat) (hm : m < 21) (hm2 : 1000 < sh m + b * u m) : MC X 48 [.ref (177), .ref (r), .int (nI (b))] S (some (.int (nI 0))) S := by
  refine MC.of (Nat.le_of_ble_eq_true rfl) ?_
  refine an_iconst 0 d48_0 rfl ?_
  refine as_istore_n d48_1 (by decide) ?_
  refine AW.loc [(0, .ref (177)), (1, .ref (r)), (2, .int (nI (b))), (3, .int (nI (0)))] (am_pick [1, 2, 3, 0] rfl rfl) ?_
  refine aw_fromI (fun i => ((2, [(0, .ref (177)), (1, .ref (r)), (2, .int (nI (b))), (3, .int (nI (i)))], [], 208, HP (S), 0, 0) : am_Z)) (fun i => ∀ j, j < i → sh j + b * u j ≤ 1000) (0) (21) (by omega) (rfl) (fun j hj => by omega) (fun i hi0 hi hI ih => ?_) (fun hX => ?_)
  · refine as_iload_n d48_2 rfl ?_
    refine as_aload_n d48_3 rfl ?_
    refine ap_get d48_4 f48_9 (by decide) rfl rfl ?_
    refine as_alen d48_7 (by decide) rfl (by decide) ?_
    refine an_top (e' := nI 21) rfl ?_
    refine an_icmp_ge 47 d48_8 (by decide) (by omega) (by omega) (fun c8 => by omega) (fun c8 => ?_)
    refine as_iload_n d48_11 rfl ?_
    refine as_aload_n d48_12 rfl ?_
    refine as_alen d48_13 (by omega) (isI_row hr _ _ _ _) (by decide) (an_top (e' := nI 21) rfl ?_)
    refine an_icmp_ge 47 d48_14 (by decide) (by omega) (by omega) (fun c14 => by omega) (fun c14 => ?_)
    refine as_aload_n d48_17 rfl ?_
    refine ap_get d48_18 f48_9 (by decide) rfl rfl ?_
    refine as_iload_n d48_21 rfl ?_
    refine ap_iald d48_22 (fun _ _ _ _ => rfl) (by decide) (by omega) (by decide) ?_
    refine an_top (e' := nI (sh (i))) ((hS _ (by omega)).1) ?_
    refine as_i2l d48_23 ?_
    refine as_iload_n d48_24 rfl ?_
    refine as_i2l d48_25 ?_
    refine as_aload_n d48_26 rfl ?_
    refine as_iload_n d48_27 rfl ?_
    refine ap_iald d48_28 (isI_row hr) (by omega) (by omega) (by decide) (an_top (e' := nI (u i)) (hu i (by omega)) ?_)
    refine as_i2l d48_29 ?_
    refine as_lmul d48_30 ?_
    refine as_ladd d48_31 ?_
    have q1 := hub i (by omega)
    have q2 := (hS i (by omega)).2
    have q3 := lg1000 q2 hb q1
    refine as_ldc2 (v := (1000)) d48_32 (by decide +kernel) ?_
    refine as_lcmp d48_35 ?_
    refine as_if_le 41 d48_36 (by decide) (fun c36 => ?_) (fun c36 => ?_)
    · refine an_iinc 1 d48_41 rfl rfl (by decide) ?_
      refine as_goto 2 d48_44 (by decide) ?_
      refine AW.loc [(0, .ref (177)), (1, .ref (r)), (2, .int (nI (b))), (3, .int (nI (i + 1)))] (am_pick [1, 2, 3, 0] rfl rfl) ?_
      have ih := ih (fun j hj => by
        by_cases e : j = i
        · subst e; exact q3.mp c36
        · exact hI j (by omega))
      exact ih
    · refine an_iconst 0 d48_39 rfl ?_
      refine as_ireturn d48_40 (by rw [t48]; rfl) ?_
      rfl
  · refine as_iload_n d48_2 rfl ?_
    refine as_aload_n d48_3 rfl ?_
    refine ap_get d48_4 f48_9 (by decide) rfl rfl ?_
    refine as_alen d48_7 (by decide) rfl (by decide) ?_
    refine an_top (e' := nI 21) rfl ?_
    refine an_icmp_ge 47 d48_8 (by decide) (by omega) (by omega) (fun c8 => ?_) (fun c8 => by omega)
    exact absurd (hX m hm) (by omega)
theorem mc_hasRoom1 (X : am_X) (S : MS) (r b : Nat) (u sh : Nat → Nat) (hr : 45 ≤ r ∧ r < 109 ∨ 112 ≤ r ∧ r < 176) (hS : SHC S sh) (hu : ∀ i, i < 21 → S.2.1 r i = nI (u i)) (hub : ∀ i, i < 21 → u i ≤ 20000) (hb : b ≤ 100) (hm : ∀ m, m < 21 → sh m + b * u m ≤ 1000) : MC X 48 [.ref (177), .ref (r), .int (nI (b))] S (some (.int (nI 1))) S := by
  refine MC.of (Nat.le_of_ble_eq_true rfl) ?_
  refine an_iconst 0 d48_0 rfl ?_
  refine as_istore_n d48_1 (by decide) ?_
  refine AW.loc [(0, .ref (177)), (1, .ref (r)), (2, .int (nI (b))), (3, .int (nI (0)))] (am_pick [1, 2, 3, 0] rfl rfl) ?_
  refine aw_for (fun i => ((2, [(0, .ref (177)), (1, .ref (r)), (2, .int (nI (b))), (3, .int (nI (i)))], [], 208, HP (S), 0, 0) : am_Z)) (21) (rfl) (fun i hi ih => ?_) ?_
  · refine as_iload_n d48_2 rfl ?_
    refine as_aload_n d48_3 rfl ?_
    refine ap_get d48_4 f48_9 (by decide) rfl rfl ?_
    refine as_alen d48_7 (by decide) rfl (by decide) ?_
    refine an_top (e' := nI 21) rfl ?_
    refine an_icmp_ge 47 d48_8 (by decide) (by omega) (by omega) (fun c8 => by omega) (fun c8 => ?_)
    refine as_iload_n d48_11 rfl ?_
    refine as_aload_n d48_12 rfl ?_
    refine as_alen d48_13 (by omega) (isI_row hr _ _ _ _) (by decide) (an_top (e' := nI 21) rfl ?_)
    refine an_icmp_ge 47 d48_14 (by decide) (by omega) (by omega) (fun c14 => by omega) (fun c14 => ?_)
    refine as_aload_n d48_17 rfl ?_
    refine ap_get d48_18 f48_9 (by decide) rfl rfl ?_
    refine as_iload_n d48_21 rfl ?_
    refine ap_iald d48_22 (fun _ _ _ _ => rfl) (by decide) (by omega) (by decide) ?_
    refine an_top (e' := nI (sh (i))) ((hS _ (by omega)).1) ?_
    refine as_i2l d48_23 ?_
    refine as_iload_n d48_24 rfl ?_
    refine as_i2l d48_25 ?_
    refine as_aload_n d48_26 rfl ?_
    refine as_iload_n d48_27 rfl ?_
    refine ap_iald d48_28 (isI_row hr) (by omega) (by omega) (by decide) (an_top (e' := nI (u i)) (hu i (by omega)) ?_)
    refine as_i2l d48_29 ?_
    refine as_lmul d48_30 ?_
    refine as_ladd d48_31 ?_
    have q1 := hub i (by omega)
    have q2 := (hS i (by omega)).2
    have q3 := lg1000 q2 hb q1
    refine as_ldc2 (v := (1000)) d48_32 (by decide +kernel) ?_
    refine as_lcmp d48_35 ?_
    refine as_if_le 41 d48_36 (by decide) (fun c36 => ?_) (fun c36 => absurd (q3.mpr (hm i (by omega))) c36)
    refine an_iinc 1 d48_41 rfl rfl (by decide) ?_
    refine as_goto 2 d48_44 (by decide) ?_
    refine AW.loc [(0, .ref (177)), (1, .ref (r)), (2, .int (nI (b))), (3, .int (nI (i + 1)))] (am_pick [1, 2, 3, 0] rfl rfl) ?_
    exact ih
  · refine as_iload_n d48_2 rfl ?_
    refine as_aload_n d48_3 rfl ?_
    refine ap_get d48_4 f48_9 (by decide) rfl rfl ?_
    refine as_alen d48_7 (by decide) rfl (by decide) ?_
    refine an_top (e' := nI 21) rfl ?_
    refine an_icmp_ge 47 d48_8 (by decide) (by omega) (by omega) (fun c8 => ?_) (fun c8 => by omega)
    refine an_iconst 1 d48_47 rfl ?_
    refine as_ireturn d48_48 (by rw [t48]; rfl) ?_
    rfl
theorem mc_raise (X : am_X) (S : MS) (r b : Nat) (u sh : Nat → Nat) (hr : 45 ≤ r ∧ r < 109 ∨ 112 ≤ r ∧ r < 176) (hS : SHC S sh) (hu : ∀ i, i < 21 → S.2.1 r i = nI (u i)) (hub : ∀ i, i < 21 → u i ≤ 20000) (hb : b ≤ 100) : MC X 49 [.ref (177), .ref (r), .int (nI (b))] S none (sRow S 178 0 (fun i => nI (sh i + b * u i)) 21) := by
  refine MC.of (Nat.le_of_ble_eq_true rfl) ?_
  refine an_iconst 0 d49_0 rfl ?_
  refine as_istore_n d49_1 (by decide) ?_
  refine AW.loc [(0, .ref (177)), (1, .ref (r)), (2, .int (nI (b))), (3, .int (nI (0)))] (am_pick [1, 2, 3, 0] rfl rfl) ?_
  refine aw_for (fun i => ((2, [(0, .ref (177)), (1, .ref (r)), (2, .int (nI (b))), (3, .int (nI (i)))], [], 208, HP (sRow S 178 0 (fun i => nI (sh i + b * u i)) (i)), 0, 0) : am_Z)) (21) (by rw [sRow_0]) (fun i hi ih => ?_) ?_
  · refine as_iload_n d49_2 rfl ?_
    refine as_aload_n d49_3 rfl ?_
    refine ap_get d49_4 f49_9 (by decide) rfl rfl ?_
    refine as_alen d49_7 (by decide) rfl (by decide) ?_
    refine an_top (e' := nI 21) rfl ?_
    refine an_icmp_ge 37 d49_8 (by decide) (by omega) (by omega) (fun c8 => by omega) (fun c8 => ?_)
    refine as_iload_n d49_11 rfl ?_
    refine as_aload_n d49_12 rfl ?_
    refine as_alen d49_13 (by omega) (isI_row hr _ _ _ _) (by decide) (an_top (e' := nI 21) rfl ?_)
    refine an_icmp_ge 37 d49_14 (by decide) (by omega) (by omega) (fun c14 => by omega) (fun c14 => ?_)
    refine as_aload_n d49_17 rfl ?_
    refine ap_get d49_18 f49_9 (by decide) rfl rfl ?_
    refine as_iload_n d49_21 rfl ?_
    refine as_dup2 d49_22 rfl rfl ?_
    refine ap_iald d49_23 (fun _ _ _ _ => rfl) (by decide) (by omega) (by decide) ?_
    refine an_top (e' := nI (sh i)) (by rw [sRow_ge (by omega)]; exact (hS i (by omega)).1) ?_
    refine as_iload_n d49_24 rfl ?_
    refine as_aload_n d49_25 rfl ?_
    refine as_iload_n d49_26 rfl ?_
    refine ap_iald d49_27 (isI_row hr) (by omega) (by omega) (by decide) (an_top (e' := nI (u i)) (by rw [sRow_row _ _ _ _ _ (by omega)]; exact hu i (by omega)) ?_)
    refine an_imul d49_28 ?_
    refine an_iadd d49_29 ?_
    refine ap_iast d49_30 (fun _ _ _ _ => rfl) (by decide) (by omega) (by decide) ?_
    refine an_iinc 1 d49_31 rfl rfl (by decide) ?_
    refine as_goto 2 d49_34 (by decide) ?_
    refine AW.loc [(0, .ref (177)), (1, .ref (r)), (2, .int (nI (b))), (3, .int (nI (i + 1)))] (am_pick [1, 2, 3, 0] rfl rfl) ?_
    have eS : sRow S 178 0 (fun i => nI (sh i + b * u i)) (i + 1) = (sRow S 178 0 (fun i => nI (sh i + b * u i)) (i)).sa 178 (i) (nI ((sh i) + ((b) * (u i)))) := by rw [sRow_s, Nat.zero_add]
    rw [eS] at ih
    exact ih
  · refine as_iload_n d49_2 rfl ?_
    refine as_aload_n d49_3 rfl ?_
    refine ap_get d49_4 f49_9 (by decide) rfl rfl ?_
    refine as_alen d49_7 (by decide) rfl (by decide) ?_
    refine an_top (e' := nI 21) rfl ?_
    refine an_icmp_ge 37 d49_8 (by decide) (by omega) (by omega) (fun c8 => ?_) (fun c8 => by omega)
    refine as_return d49_37 t49 ?_
    rfl
theorem dR_z {P : Nat} {mt : Nat → Option Nat} {go : Nat → Nat} (hD : DAll P mt go) : RZ P (dN P mt go) (dR P mt go) := by
  intro r hr i hi
  obtain ⟨q, h1, h2⟩ := sortR_or (7 * P) (dN P mt go) (dd P (eqs mt go (4 * P))).2 (dN P mt go - 1) (by omega) r hr
  show sortR (7 * P) (dd P (eqs mt go (4 * P))).2 (dN P mt go - 1) r i = 0
  rw [h2]
  exact (dd_inv hD _ [] (List.append_nil _)).2 q h1 i hi
theorem mx_addBC (X : am_X) (S : MS) (P : Nat) (mt : Nat → Option Nat) (go : Nat → Nat) (hG : GW P mt go) (hC : CG S P mt go) (hD : DAll P mt go) (hl : LSt S P mt go) (k m : Int32) (hv : ¬ addOk (dN P mt go) k m) : ∃ T, MC X 92 [.ref (0), .int (k), .int (m)] S (some (.int (-2))) T ∧ lfK S T ∧ LSt T P mt go := by
  obtain ⟨T, hM, hK, h5, hW⟩ := mx_freshenLeast X S P mt go hG hC hD hl
  have hP := hG.1
  have hp : T.1 1 0 = nI P := SHC.cg hC.1 hK
  have hr1 := hW.2.2.1
  obtain ⟨hn, hB⟩ := dR_b hD
  obtain ⟨q, hqf, hQ, hq8, hRW, hrg⟩ := hW.row
  refine ⟨T, ?_, hK, LSt.of h5 hW⟩
  refine MC.of (Nat.le_of_ble_eq_true rfl) ?_
  refine as_aload_n d92_0 rfl ?_
  refine ac_v0 d92_1 c92_152 (by decide) rfl (Nat.le_of_ble_eq_true rfl) (hM) ?_
  refine as_aload_n d92_4 rfl ?_
  refine as_iload_n d92_5 rfl ?_
  refine ac_v1 d92_6 c92_158 (by decide) rfl (Nat.le_of_ble_eq_true rfl) (mc_hasLeast X _ _ hr1 _) ?_
  refine as_if_eq 22 d92_9 (by decide) (fun c9 => ?_) (fun c9 => ?_)
  · refine an_bipushI (-2) d92_22 rfl ?_
    refine as_ireturn d92_24 (by rw [t92]; rfl) ?_
    rfl
  · refine as_iload_n d92_12 rfl ?_
    refine as_if_lt 22 d92_13 (by decide) (fun c13 => ?_) (fun c13 => ?_)
    · refine an_bipushI (-2) d92_22 rfl ?_
      refine as_ireturn d92_24 (by rw [t92]; rfl) ?_
      rfl
    · refine as_iload_n d92_16 rfl ?_
      refine an_bipush 100 d92_17 rfl ?_
      refine as_icmp_le 25 d92_19 (by decide) (fun c19 => ?_) (fun c19 => ?_)
      · exact absurd ⟨am_b1 c9, Int32.not_lt.mp c13, c19⟩ hv
      · refine an_bipushI (-2) d92_22 rfl ?_
        refine as_ireturn d92_24 (by rw [t92]; rfl) ?_
        rfl
/-- after an add -/
def addTC (sh : Nat → Nat) (R : Nat → Nat → Nat) (a b : Nat) (T : MS) : MS := (sRow T 178 0 (fun i => nI (sh i + b * R a i)) 21).sf 0 6 (nI 1)
theorem mx_addNC (X : am_X) (S : MS) (P : Nat) (mt : Nat → Option Nat) (go : Nat → Nat) (hG : GW P mt go) (hC : CG S P mt go) (hD : DAll P mt go) (hl : LSt S P mt go) (sh : Nat → Nat) (hS : SHC S sh) (hz : ∀ i, 7 * P ≤ i → sh i = 0) (a b : Nat) (ha : a < dN P mt go) (hb : b ≤ 100) : ∃ T, (lfK S T ∧ LSt T P mt go) ∧ (addF sh (dR P mt go) P a b → MC X 92 [.ref (0), .int (nI (a)), .int (nI (b))] S (some (.int (-4))) T) ∧ (¬ addF sh (dR P mt go) P a b → MC X 92 [.ref (0), .int (nI (a)), .int (nI (b))] S (some (.int (nI 1))) (addTC sh (dR P mt go) a b T)) := by
  obtain ⟨T, hM, hK, h5, hW⟩ := mx_freshenLeast X S P mt go hG hC hD hl
  have hP := hG.1
  have hp : T.1 1 0 = nI P := SHC.cg hC.1 hK
  have hr1 := hW.2.2.1
  obtain ⟨hn, hB⟩ := dR_b hD
  obtain ⟨q, hqf, hQ, hq8, hRW, hrg⟩ := hW.row
  have hra := hrg a (by omega)
  have hST := hS.lf hK
  have hZ := dR_z hD a ha
  have hub : ∀ i, i < 21 → dR P mt go a i ≤ 20000 := fun i hi => by
    by_cases e : i < 7 * P
    · exact hB a ha i e
    · rw [hZ i (by omega)]; omega
  refine ⟨T, ⟨hK, LSt.of h5 hW⟩, fun hf => ?_, fun hf => ?_⟩
  · obtain ⟨m, hm, hm2⟩ := hf
    refine MC.of (Nat.le_of_ble_eq_true rfl) ?_
    refine as_aload_n d92_0 rfl ?_
    refine ac_v0 d92_1 c92_152 (by decide) rfl (Nat.le_of_ble_eq_true rfl) (hM) ?_
    refine as_aload_n d92_4 rfl ?_
    refine as_iload_n d92_5 rfl ?_
    refine ac_v1 d92_6 c92_158 (by decide) rfl (Nat.le_of_ble_eq_true rfl) (mc_hasLeast X _ _ hr1 _) ?_
    refine as_if_eq 22 d92_9 (by decide) (fun c9 => absurd ⟨nI_pos' (by omega), nI_lt ha (by omega)⟩ (am_b01.mp c9)) (fun c9 => ?_)
    refine as_iload_n d92_12 rfl ?_
    refine as_if_lt 22 d92_13 (by decide) (fun c13 => absurd c13 (Int32.not_lt.mpr (nI_le (Nat.zero_le _) (by omega)))) (fun c13 => ?_)
    refine as_iload_n d92_16 rfl ?_
    refine an_bipush 100 d92_17 rfl ?_
    refine an_icmp_le 25 d92_19 (by decide) (by omega) (by omega) (fun c19 => ?_) (fun c19 => by omega)
    refine as_aload_n d92_25 rfl ?_
    refine ap_get d92_26 f92_33 (by decide) rfl rfl ?_
    refine as_aload_n d92_29 rfl ?_
    refine ap_get d92_30 f92_26 (by decide) rfl rfl ?_
    refine ap_get d92_33 f92_164 (by decide) rfl rfl ?_
    refine an_topr (hqf) ?_
    refine as_iload_n d92_36 rfl ?_
    refine ap_aald d92_37 hQ (Or.inl rfl) hq8 (by omega) (by decide) (an_topr (show _ = T.2.2.2 q a from rfl) ?_)
    refine as_iload_n d92_38 rfl ?_
    refine ac_v2 d92_39 c92_170 (by decide) rfl (Nat.le_of_ble_eq_true rfl) (mc_hasRoom0 X T _ b _ sh hra hST (hRW a ha) hub hb m (by omega) hm2) ?_
    refine an_if_ne 48 d92_42 (by decide) (by omega) (fun c42 => absurd c42 (by decide)) (fun c42 => ?_)
    refine an_bipushI (-4) d92_45 rfl ?_
    refine as_ireturn d92_47 (by rw [t92]; rfl) ?_
    rfl
  · have hm : ∀ m, m < 21 → sh m + b * dR P mt go a m ≤ 1000 := fun m hm => by
      by_cases e : m < 7 * P
      · exact Nat.not_lt.mp (fun g => hf ⟨m, e, g⟩)
      · rw [hZ m (by omega), hz m (by omega)]; omega
    refine MC.of (Nat.le_of_ble_eq_true rfl) ?_
    refine as_aload_n d92_0 rfl ?_
    refine ac_v0 d92_1 c92_152 (by decide) rfl (Nat.le_of_ble_eq_true rfl) (hM) ?_
    refine as_aload_n d92_4 rfl ?_
    refine as_iload_n d92_5 rfl ?_
    refine ac_v1 d92_6 c92_158 (by decide) rfl (Nat.le_of_ble_eq_true rfl) (mc_hasLeast X _ _ hr1 _) ?_
    refine as_if_eq 22 d92_9 (by decide) (fun c9 => absurd ⟨nI_pos' (by omega), nI_lt ha (by omega)⟩ (am_b01.mp c9)) (fun c9 => ?_)
    refine as_iload_n d92_12 rfl ?_
    refine as_if_lt 22 d92_13 (by decide) (fun c13 => absurd c13 (Int32.not_lt.mpr (nI_le (Nat.zero_le _) (by omega)))) (fun c13 => ?_)
    refine as_iload_n d92_16 rfl ?_
    refine an_bipush 100 d92_17 rfl ?_
    refine an_icmp_le 25 d92_19 (by decide) (by omega) (by omega) (fun c19 => ?_) (fun c19 => by omega)
    refine as_aload_n d92_25 rfl ?_
    refine ap_get d92_26 f92_33 (by decide) rfl rfl ?_
    refine as_aload_n d92_29 rfl ?_
    refine ap_get d92_30 f92_26 (by decide) rfl rfl ?_
    refine ap_get d92_33 f92_164 (by decide) rfl rfl ?_
    refine an_topr (hqf) ?_
    refine as_iload_n d92_36 rfl ?_
    refine ap_aald d92_37 hQ (Or.inl rfl) hq8 (by omega) (by decide) (an_topr (show _ = T.2.2.2 q a from rfl) ?_)
    refine as_iload_n d92_38 rfl ?_
    refine ac_v2 d92_39 c92_170 (by decide) rfl (Nat.le_of_ble_eq_true rfl) (mc_hasRoom1 X T _ b _ sh hra hST (hRW a ha) hub hb hm) ?_
    refine an_if_ne 48 d92_42 (by decide) (by omega) (fun c42 => ?_) (fun c42 => absurd c42 (by decide))
    refine as_aload_n d92_48 rfl ?_
    refine ap_get d92_49 f92_33 (by decide) rfl rfl ?_
    refine as_aload_n d92_52 rfl ?_
    refine ap_get d92_53 f92_26 (by decide) rfl rfl ?_
    refine ap_get d92_56 f92_164 (by decide) rfl rfl ?_
    refine an_topr (hqf) ?_
    refine as_iload_n d92_59 rfl ?_
    refine ap_aald d92_60 hQ (Or.inl rfl) hq8 (by omega) (by decide) (an_topr (show _ = T.2.2.2 q a from rfl) ?_)
    refine as_iload_n d92_61 rfl ?_
    refine ac_v2 d92_62 c92_174 (by decide) rfl (Nat.le_of_ble_eq_true rfl) (mc_raise X T _ b _ sh hra hST (hRW a ha) hub hb) ?_
    refine as_aload_n d92_65 rfl ?_
    refine an_iconst 1 d92_66 rfl ?_
    refine ap_put d92_67 f92_48 (by decide) rfl (Nat.le_of_ble_eq_true rfl) (rfl) rfl rfl ?_
    refine an_iconst 1 d92_70 rfl ?_
    refine as_ireturn d92_71 (by rw [t92]; rfl) ?_
    rfl
