/-! the class: keep, areNeighbours, mix -/
section AR5
variable {X : am_X} {mi : Nat} {pc : Nat} {L : am_L} {st : List Value} {n : Nat} {h : am_H} {k j : Nat} {Q : am_R → Prop} {S : MS}
theorem ac_copy {q mj a0 a1 : Nat} {rest : List Value} (hd : decode (am_code mi) pc = .ok (.invokestatic q, 3)) (hc : am_find am_ctL (am_mc mi) q = some (5, mj)) (h0 : isI a0 21) (h1 : isI a1 21) (b0 : a0 < 208) (b1 : a1 < 208) (f1 : 1 ≤ am_fr mi) (f2 : am_cat rest + (nativeFrameWords "java/lang/System" "arraycopy" 5 + 11) ≤ am_lo mi) (kk : AW X mi (pc + 3, L, rest, 208, HP (sRow S a1 0 (S.2.1 a0) 21), k, j) Q) : AW X mi (pc, L, .int (nI 21) :: .int (nI 0) :: .ref a1 :: .int (nI 0) :: .ref a0 :: rest, 208, HP S, k, j) Q := by
  refine AW.step (fun call => ?_) kk
  have e0 : HP S a0 = .inl (0, 21, .inl (S.2.1 a0)) := h0 _ _ _ _
  have e1 : HP S a1 = .inl (0, 21, .inl (S.2.1 a1)) := h1 _ _ _ _
  have hcp : am_copy (HP S) a0 a1 (nI 0) (nI 0) (nI 21) = some (HP (sRow S a1 0 (S.2.1 a0) 21)) := by
    unfold am_copy
    rw [e0, e1]
    show (if ¬ nI 0 < 0 ∧ ¬ nI 0 < 0 ∧ ¬ nI 21 < 0 ∧ (nI 0).toNatClampNeg + (nI 21).toNatClampNeg ≤ 21 ∧ (nI 0).toNatClampNeg + (nI 21).toNatClampNeg ≤ 21 then some (am_up (HP S) a1 (.inl (0, 21, .inl (va_cpy (S.2.1 a0) (S.2.1 a1) (nI 0).toNatClampNeg (nI 0).toNatClampNeg (nI 21).toNatClampNeg)))) else none) = _
    rw [if_pos (by decide)]
    congr 1
    funext i
    unfold am_up
    by_cases hi : i = a1
    · subst hi
      rw [if_pos rfl]
      have e2 : HP (sRow S i 0 (S.2.1 a0) 21) i = .inl (0, 21, .inl ((sRow S i 0 (S.2.1 a0) 21).2.1 i)) := h1 _ _ _ _
      rw [e2]
      refine congrArg (fun f : Nat → Int32 => (Sum.inl (0, 21, Sum.inl f) : am_E)) (funext fun w => ?_)
      rw [sRow_at]
      unfold va_cpy
      rw [show (nI 0).toNatClampNeg = 0 from rfl, show (nI 21).toNatClampNeg = 21 from rfl]
      by_cases hw : 0 ≤ w ∧ w < 0 + 21
      · rw [if_pos hw, if_pos ⟨rfl, hw⟩, Nat.zero_add]
      · rw [if_neg hw, if_neg (fun g => hw g.2)]
    · rw [if_neg hi]
      show HPk i _ _ _ _ = HPk i _ ((sRow S a1 0 (S.2.1 a0) 21).2.1 i) _ _
      rw [sRow_row _ _ _ _ _ hi]
      rfl
  simp [am_step, hd, am_len, am_ex, am_call, hc, hcp, b0, b1, f1, f2, am_go]
end AR5
/-- rows laid ahead -/
def NC (T : MS) (nr ns P : Nat) (R : Nat → Nat → Nat) (e : Nat → Int) (l : List (Nat × Nat)) : Prop := T.1 43 5 = nI l.length ∧ (∀ j, j < l.length → ∀ i, i < 21 → T.2.1 (T.2.2.2 nr j) i = nI (evRow (7 * P) R e (l.getD j (0, 0)) i)) ∧ (∀ j, j < l.length → T.2.1 ns j = sOf (evRow (7 * P) R e (l.getD j (0, 0))) (7 * P))
theorem getD_app1 {l : List (Nat × Nat)} {q : Nat × Nat} {j : Nat} (h : j < l.length) : (l ++ [q]).getD j (0, 0) = l.getD j (0, 0) := by
  rw [List.getD_eq_getElem?_getD, List.getD_eq_getElem?_getD, List.getElem?_append_left h]
theorem getD_app2 {l : List (Nat × Nat)} {q : Nat × Nat} : (l ++ [q]).getD l.length (0, 0) = q := by
  rw [List.getD_eq_getElem?_getD, List.getElem?_append_right (Nat.le_refl _), Nat.sub_self]
  rfl
/-- rows end in 0 behind the pieces -/
def RZ (P n : Nat) (R : Nat → Nat → Nat) : Prop := ∀ r, r < n → ∀ i, 7 * P ≤ i → R r i = 0
/-- no number above 1 divides a row -/
def RP (P n : Nat) (R : Nat → Nat → Nat) : Prop := ∀ r, r < n → gcdN (R r) (7 * P) = 1
theorem evRow_z {P n : Nat} {R : Nat → Nat → Nat} {e : Nat → Int} {a : Nat} (ha : a < n) (hp : RP P n R) (h : e a = 0) (i : Nat) : evRow (7 * P) R e (a, a) i = R a i := by
  have e1 : evV R e (a, a) = R a := by
    rw [← mixV_10 R e a h]
    funext j
    unfold mixV
    omega
  unfold evRow
  rw [e1, hp a ha, Nat.div_one]
theorem evRow_ne {P n : Nat} {R : Nat → Nat → Nat} {e : Nat → Int} {a b : Nat} (ha : a < n) (hN : RN P n R) (h1 : 0 < e a) (h2 : e b < 0) {i : Nat} (hi : i < 7 * P) : evRow (7 * P) R e (a, b) i = 0 ↔ R a i = 0 ∧ R b i = 0 := by
  have e1 : evV R e (a, b) = mixV R a b (-e b).toNat (e a).toNat := (mixV_pn R e a b h1).symm
  unfold evRow
  rw [e1]
  have hg := mixV_ne (R := R) (P := P) (n := n) (a := a) (b := b) (u := (-e b).toNat) (v := (e a).toNat) hN ha (by omega)
  have hd := gcdN_dvd (v := mixV R a b (-e b).toNat (e a).toNat) (7 * P) i hi
  have key : mixV R a b (-e b).toNat (e a).toNat i = 0 ↔ R a i = 0 ∧ R b i = 0 := by
    unfold mixV
    have p1 : (-e b).toNat ≠ 0 := by omega
    have p2 : (e a).toNat ≠ 0 := by omega
    rw [Nat.add_eq_zero_iff, Nat.mul_eq_zero, Nat.mul_eq_zero]
    omega
  rw [← key]
  constructor
  · intro q
    obtain ⟨c, hc⟩ := hd
    rw [hc, Nat.mul_div_cancel_left _ (Nat.pos_of_ne_zero hg)] at q
    rw [hc, q, Nat.mul_zero]
  · intro q
    rw [q, Nat.zero_div]
theorem evRow_hi {P n : Nat} {R : Nat → Nat → Nat} {e : Nat → Int} {a b : Nat} (ha : a < n) (hb : b < n) (hZ : RZ P n R) {i : Nat} (hi : 7 * P ≤ i) : evRow (7 * P) R e (a, b) i = 0 := by
  have : evV R e (a, b) i = 0 := by
    unfold evV
    split
    · unfold mixV
      rw [hZ a ha i hi]
    · unfold mixV
      rw [hZ a ha i hi, hZ b hb i hi, Nat.mul_zero, Nat.mul_zero]
  unfold evRow
  rw [this, Nat.zero_div]
/-- memory under the laying of one row -/
def layC (T : MS) (nr ns len : Nat) (f : Nat → Int32) (x : Int32) : MS := ((sRow T (T.2.2.2 nr len) 0 f 21).sa ns len x).sf 43 5 (nI (len + 1))
theorem NC.app {T : MS} {nr ns P : Nat} {R : Nat → Nat → Nat} {e : Nat → Int} {l : List (Nat × Nat)} (h : NC T nr ns P R e l) (q : Nat × Nat) {f : Nat → Int32} {x : Int32} (hf : ∀ i, i < 21 → f i = nI (evRow (7 * P) R e q i)) (hx : x = sOf (evRow (7 * P) R e q) (7 * P)) (hl : l.length < 64) (hns : ∀ j, j < 64 → T.2.2.2 nr j ≠ ns) (hinj : ∀ i j, i < 64 → j < 64 → T.2.2.2 nr i = T.2.2.2 nr j → i = j) : NC (layC T nr ns l.length f x) nr ns P R e (l ++ [q]) := by
  have hlen : (l ++ [q]).length = l.length + 1 := by rw [List.length_append]; rfl
  refine ⟨by rw [hlen]; unfold layC; rw [sf_at, if_pos ⟨rfl, rfl⟩], fun j hj i hi => ?_, fun j hj => ?_⟩
  · rw [hlen] at hj
    show ((sRow T (T.2.2.2 nr l.length) 0 f 21).sa ns l.length x).2.1 (T.2.2.2 nr j) i = _
    rw [sa_row _ _ _ _ (hns j (by omega))]
    by_cases e1 : j = l.length
    · subst e1
      have w := sRow_eq (S := T) (A := T.2.2.2 nr l.length) (off := 0) (f := f) (n := 21) hi
      rw [Nat.zero_add] at w
      rw [w, getD_app2]
      exact hf i hi
    · rw [sRow_row _ _ _ _ _ (fun w => e1 (hinj j l.length (by omega) hl w)), getD_app1 (by omega)]
      exact h.2.1 j (by omega) i hi
  · rw [hlen] at hj
    show ((sRow T (T.2.2.2 nr l.length) 0 f 21).sa ns l.length x).2.1 ns j = _
    rw [sa_at]
    by_cases e1 : j = l.length
    · subst e1
      rw [if_pos rfl, getD_app2]
      exact hx
    · rw [if_neg e1, sRow_row _ _ _ _ _ (fun w => hns l.length hl w.symm), getD_app1 (by omega)]
      exact h.2.2 j (by omega)
theorem mc_keep44 (X : am_X) (S : MS) (P n : Nat) (R : Nat → Nat → Nat) (hn : n ≤ 64) (hL : LRf S) (hf : LCf S 44 109 111 176) (hR : RC S 44 109 P n R) (i len : Nat) (hi : i < n) (hl : len < 64) (hlen : S.1 43 5 = nI len) : MC X 12 [.ref (43), .int (nI (i))] S none (layC S 111 176 len (S.2.1 (S.2.2.2 44 i)) (sOf (R i) (7 * P))) := by
  have q1 := hL.1 i (by omega)
  have q2 := hL.2.2.1 len hl
  refine MC.of (Nat.le_of_ble_eq_true rfl) ?_
  refine as_aload_n d12_0 rfl ?_
  refine ap_get d12_1 f12_75 (by decide) rfl rfl ?_
  refine an_top (e' := nI (len)) (hlen) ?_
  refine an_bipush 64 d12_4 rfl ?_
  refine an_icmp_ge 61 d12_6 (by decide) (by omega) (by omega) (fun c6 => by omega) (fun c6 => ?_)
  refine as_aload_n d12_9 rfl ?_
  refine ap_get d12_10 f12_13 (by decide) rfl rfl ?_
  refine an_topr (hf.1) ?_
  refine as_iload_n d12_13 rfl ?_
  refine ap_aald d12_14 isQ44 (Or.inl rfl) (by decide) (by omega) (by decide) (an_topr (show _ = S.2.2.2 44 i from rfl) ?_)
  refine an_iconst 0 d12_15 rfl ?_
  refine as_aload_n d12_16 rfl ?_
  refine ap_get d12_17 f12_23 (by decide) rfl rfl ?_
  refine an_topr (hf.2.2.1) ?_
  refine as_aload_n d12_20 rfl ?_
  refine ap_get d12_21 f12_75 (by decide) rfl rfl ?_
  refine an_top (e' := nI (len)) (hlen) ?_
  refine ap_aald d12_24 isQ111 (Or.inl rfl) (by decide) (by omega) (by decide) (an_topr (show _ = S.2.2.2 111 len from rfl) ?_)
  refine an_iconst 0 d12_25 rfl ?_
  refine as_aload_n d12_26 rfl ?_
  refine ap_get d12_27 f12_13 (by decide) rfl rfl ?_
  refine an_topr (hf.1) ?_
  refine as_iload_n d12_30 rfl ?_
  refine ap_aald d12_31 isQ44 (Or.inl rfl) (by decide) (by omega) (by decide) (an_topr (show _ = S.2.2.2 44 i from rfl) ?_)
  refine as_alen d12_32 (by omega) (isI_row (by omega) _ _ _ _) (by decide) (an_top (e' := nI 21) rfl ?_)
  refine ac_copy d12_33 c12_92 (isI_row (by omega)) (isI_row (by omega)) (by omega) (by omega) (by decide) (by decide) ?_
  refine as_aload_n d12_36 rfl ?_
  refine ap_get d12_37 f12_26 (by decide) rfl rfl ?_
  refine an_topr (hf.2.2.2) ?_
  refine as_aload_n d12_40 rfl ?_
  refine ap_get d12_41 f12_75 (by decide) rfl rfl ?_
  refine an_top (e' := nI (len)) (hlen) ?_
  refine as_aload_n d12_44 rfl ?_
  refine ap_get d12_45 f12_16 (by decide) rfl rfl ?_
  refine an_topr (hf.2.1) ?_
  refine as_iload_n d12_48 rfl ?_
  refine ap_iald d12_49 (fun _ _ _ _ => rfl) (by decide) (by omega) (by decide) ?_
  refine an_top (e' := sOf (R i) (7 * P)) (by rw [sRow_row _ _ _ _ _ (by omega)]; exact hR.2.2.2 i hi) ?_
  refine ap_iast d12_50 (fun _ _ _ _ => rfl) (by decide) (by omega) (by decide) ?_
  refine as_aload_n d12_51 rfl ?_
  refine as_dup d12_52 rfl ?_
  refine ap_get d12_53 f12_75 (by decide) rfl rfl ?_
  refine an_top (e' := nI (len)) (hlen) ?_
  refine an_iconst 1 d12_56 rfl ?_
  refine an_iadd d12_57 ?_
  refine ap_put d12_58 f12_75 (by decide) rfl (Nat.le_of_ble_eq_true rfl) (rfl) rfl rfl ?_
  refine as_return d12_61 t12 ?_
  rfl
theorem mc_areN44 (X : am_X) (S : MS) (P n : Nat) (R : Nat → Nat → Nat) (hn : n ≤ 64) (hL : LRf S) (hf : LCf S 44 109 111 176) (hR : RC S 44 109 P n R) (a b : Nat) (ha : a < n) (hb : b < n) (h3 : anyN (twoK (sOf (R a) (7 * P) ||| sOf (R b) (7 * P))) 3 = anyN (twoK (sOf (R a) (7 * P) ||| sOf (R b) (7 * P))) P) : MC X 13 [.ref (43), .int (nI (a)), .int (nI (b))] S (some (.int (if okR R P n a b = true then 1 else 0))) S := by
  refine MC.of (Nat.le_of_ble_eq_true rfl) ?_
  refine as_aload_n d13_0 rfl ?_
  refine ap_get d13_1 f13_16 (by decide) rfl rfl ?_
  refine an_topr (hf.2.1) ?_
  refine as_iload_n d13_4 rfl ?_
  refine ap_iald d13_5 (fun _ _ _ _ => rfl) (by decide) (by omega) (by decide) ?_
  refine an_top (e' := sOf (R (a)) (7 * P)) (hR.2.2.2 _ (by omega)) ?_
  refine as_aload_n d13_6 rfl ?_
  refine ap_get d13_7 f13_16 (by decide) rfl rfl ?_
  refine an_topr (hf.2.1) ?_
  refine as_iload_n d13_10 rfl ?_
  refine ap_iald d13_11 (fun _ _ _ _ => rfl) (by decide) (by omega) (by decide) ?_
  refine an_top (e' := sOf (R (b)) (7 * P)) (hR.2.2.2 _ (by omega)) ?_
  refine as_ior d13_12 ?_
  refine as_istore_n d13_13 (by decide) ?_
  refine as_iload_n d13_14 rfl ?_
  refine ac_s1 d13_15 c13_98 (by decide) (Nat.le_of_ble_eq_true rfl) (mc_mixesL X _ _) ?_
  refine an_if_eq 23 d13_18 (by decide) (by have := anyN_lt (twoK (sOf (R a) (7 * P) ||| sOf (R b) (7 * P))) 3; omega) (fun c18 => ?_) (fun c18 => ?_)
  · refine an_iconst 0 d13_23 rfl ?_
    refine as_istore d13_24 (by decide) ?_
    refine AW.loc [(0, .ref (43)), (1, .int (nI (a))), (2, .int (nI (b))), (3, .int ((sOf (R (a)) (7 * P)) ||| (sOf (R (b)) (7 * P)))), (4, .int (nI (0)))] (am_pick [2, 3, 4, 1, 0] rfl rfl) ?_
    refine aw_fromI (fun q => ((26, [(0, .ref (43)), (1, .int (nI (a))), (2, .int (nI (b))), (3, .int ((sOf (R a) (7 * P) ||| sOf (R b) (7 * P)))), (4, .int (nI (q)))], [], 208, HP (S), 0, 0) : am_Z)) (fun q => anyN (bes R (7 * P) a b (sOf (R a) (7 * P) ||| sOf (R b) (7 * P))) (q) = 0) (0) (n) (by omega) (rfl) (rfl) (fun q hq0 hq hI ihq => ?_) (fun hX => ?_)
    · refine as_iload d13_26 rfl ?_
      refine as_aload_n d13_28 rfl ?_
      refine ap_get d13_29 f13_62 (by decide) rfl rfl ?_
      refine an_top (e' := nI (n)) (hR.2.1) ?_
      refine an_icmp_ge 69 d13_32 (by decide) (by omega) (by omega) (fun c32 => by omega) (fun c32 => ?_)
      refine as_iload d13_35 rfl ?_
      refine as_iload_n d13_37 rfl ?_
      refine an_icmp_eq 63 d13_38 (by decide) (by omega) (by omega) (fun c38 => ?_) (fun c38 => ?_)
      · refine an_iinc 1 d13_63 rfl rfl (by decide) ?_
        refine as_goto 26 d13_66 (by decide) ?_
        refine AW.loc [(0, .ref (43)), (1, .int (nI (a))), (2, .int (nI (b))), (3, .int ((sOf (R a) (7 * P) ||| sOf (R b) (7 * P)))), (4, .int (nI (q + 1)))] (am_pick [1, 2, 3, 4, 0] rfl rfl) ?_
        have ihq := ihq (by first | exact anyN_f hI (fun g => (of_decide_eq_true g).1 c38) | exact anyN_f hI (fun g => (of_decide_eq_true g).2.1 c44) | exact anyN_f hI (fun g => c58 (of_decide_eq_true g).2.2))
        exact ihq
      · refine as_iload d13_41 rfl ?_
        refine as_iload_n d13_43 rfl ?_
        refine an_icmp_eq 63 d13_44 (by decide) (by omega) (by omega) (fun c44 => ?_) (fun c44 => ?_)
        · refine an_iinc 1 d13_63 rfl rfl (by decide) ?_
          refine as_goto 26 d13_66 (by decide) ?_
          refine AW.loc [(0, .ref (43)), (1, .int (nI (a))), (2, .int (nI (b))), (3, .int ((sOf (R a) (7 * P) ||| sOf (R b) (7 * P)))), (4, .int (nI (q + 1)))] (am_pick [1, 2, 3, 4, 0] rfl rfl) ?_
          have ihq := ihq (by first | exact anyN_f hI (fun g => (of_decide_eq_true g).1 c38) | exact anyN_f hI (fun g => (of_decide_eq_true g).2.1 c44) | exact anyN_f hI (fun g => c58 (of_decide_eq_true g).2.2))
          exact ihq
        · refine as_aload_n d13_47 rfl ?_
          refine ap_get d13_48 f13_16 (by decide) rfl rfl ?_
          refine an_topr (hf.2.1) ?_
          refine as_iload d13_51 rfl ?_
          refine ap_iald d13_53 (fun _ _ _ _ => rfl) (by decide) (by omega) (by decide) ?_
          refine an_top (e' := sOf (R (q)) (7 * P)) (hR.2.2.2 _ (by omega)) ?_
          refine as_iload_n d13_54 rfl ?_
          refine an_iconstI (-1) d13_55 rfl ?_
          refine as_ixor d13_56 ?_
          refine as_iand d13_57 ?_
          refine as_if_ne 63 d13_58 (by decide) (fun c58 => ?_) (fun c58 => ?_)
          · refine an_iinc 1 d13_63 rfl rfl (by decide) ?_
            refine as_goto 26 d13_66 (by decide) ?_
            refine AW.loc [(0, .ref (43)), (1, .int (nI (a))), (2, .int (nI (b))), (3, .int ((sOf (R a) (7 * P) ||| sOf (R b) (7 * P)))), (4, .int (nI (q + 1)))] (am_pick [1, 2, 3, 4, 0] rfl rfl) ?_
            have ihq := ihq (by first | exact anyN_f hI (fun g => (of_decide_eq_true g).1 c38) | exact anyN_f hI (fun g => (of_decide_eq_true g).2.1 c44) | exact anyN_f hI (fun g => c58 (of_decide_eq_true g).2.2))
            exact ihq
          · have hno : ¬ okR R P n a b = true := fun g => by
              have w := (okR_iff.mp g).2
              rw [anyN_top hq (show bes R (7 * P) a b (sOf (R a) (7 * P) ||| sOf (R b) (7 * P)) q = true from decide_eq_true ⟨c38, c44, c58⟩)] at w
              cases w
            refine an_iconst 0 d13_61 rfl ?_
            refine as_ireturn d13_62 (by rw [t13]; rfl) ?_
            refine am_req ?_
            first | exact (if_neg hno).symm | exact (if_pos (okR_iff.mpr ⟨by rw [← h3]; exact c18, hX⟩)).symm
    · refine as_iload d13_26 rfl ?_
      refine as_aload_n d13_28 rfl ?_
      refine ap_get d13_29 f13_62 (by decide) rfl rfl ?_
      refine an_top (e' := nI (n)) (hR.2.1) ?_
      refine an_icmp_ge 69 d13_32 (by decide) (by omega) (by omega) (fun c32 => ?_) (fun c32 => by omega)
      refine an_iconst 1 d13_69 rfl ?_
      refine as_ireturn d13_70 (by rw [t13]; rfl) ?_
      refine am_req ?_
      first | exact (if_neg hno).symm | exact (if_pos (okR_iff.mpr ⟨by rw [← h3]; exact c18, hX⟩)).symm
  · have hno : ¬ okR R P n a b = true := fun g => c18 (by rw [h3]; exact (okR_iff.mp g).1)
    refine an_iconst 0 d13_21 rfl ?_
    refine as_ireturn d13_22 (by rw [t13]; rfl) ?_
    refine am_req ?_
    first | exact (if_neg hno).symm | exact (if_pos (okR_iff.mpr ⟨by rw [← h3]; exact c18, hX⟩)).symm
theorem mc_keep111 (X : am_X) (S : MS) (P n : Nat) (R : Nat → Nat → Nat) (hn : n ≤ 64) (hL : LRf S) (hf : LCf S 111 176 44 109) (hR : RC S 111 176 P n R) (i len : Nat) (hi : i < n) (hl : len < 64) (hlen : S.1 43 5 = nI len) : MC X 12 [.ref (43), .int (nI (i))] S none (layC S 44 109 len (S.2.1 (S.2.2.2 111 i)) (sOf (R i) (7 * P))) := by
  have q1 := hL.2.2.1 i (by omega)
  have q2 := hL.1 len hl
  refine MC.of (Nat.le_of_ble_eq_true rfl) ?_
  refine as_aload_n d12_0 rfl ?_
  refine ap_get d12_1 f12_75 (by decide) rfl rfl ?_
  refine an_top (e' := nI (len)) (hlen) ?_
  refine an_bipush 64 d12_4 rfl ?_
  refine an_icmp_ge 61 d12_6 (by decide) (by omega) (by omega) (fun c6 => by omega) (fun c6 => ?_)
  refine as_aload_n d12_9 rfl ?_
  refine ap_get d12_10 f12_13 (by decide) rfl rfl ?_
  refine an_topr (hf.1) ?_
  refine as_iload_n d12_13 rfl ?_
  refine ap_aald d12_14 isQ111 (Or.inl rfl) (by decide) (by omega) (by decide) (an_topr (show _ = S.2.2.2 111 i from rfl) ?_)
  refine an_iconst 0 d12_15 rfl ?_
  refine as_aload_n d12_16 rfl ?_
  refine ap_get d12_17 f12_23 (by decide) rfl rfl ?_
  refine an_topr (hf.2.2.1) ?_
  refine as_aload_n d12_20 rfl ?_
  refine ap_get d12_21 f12_75 (by decide) rfl rfl ?_
  refine an_top (e' := nI (len)) (hlen) ?_
  refine ap_aald d12_24 isQ44 (Or.inl rfl) (by decide) (by omega) (by decide) (an_topr (show _ = S.2.2.2 44 len from rfl) ?_)
  refine an_iconst 0 d12_25 rfl ?_
  refine as_aload_n d12_26 rfl ?_
  refine ap_get d12_27 f12_13 (by decide) rfl rfl ?_
  refine an_topr (hf.1) ?_
  refine as_iload_n d12_30 rfl ?_
  refine ap_aald d12_31 isQ111 (Or.inl rfl) (by decide) (by omega) (by decide) (an_topr (show _ = S.2.2.2 111 i from rfl) ?_)
  refine as_alen d12_32 (by omega) (isI_row (by omega) _ _ _ _) (by decide) (an_top (e' := nI 21) rfl ?_)
  refine ac_copy d12_33 c12_92 (isI_row (by omega)) (isI_row (by omega)) (by omega) (by omega) (by decide) (by decide) ?_
  refine as_aload_n d12_36 rfl ?_
  refine ap_get d12_37 f12_26 (by decide) rfl rfl ?_
  refine an_topr (hf.2.2.2) ?_
  refine as_aload_n d12_40 rfl ?_
  refine ap_get d12_41 f12_75 (by decide) rfl rfl ?_
  refine an_top (e' := nI (len)) (hlen) ?_
  refine as_aload_n d12_44 rfl ?_
  refine ap_get d12_45 f12_16 (by decide) rfl rfl ?_
  refine an_topr (hf.2.1) ?_
  refine as_iload_n d12_48 rfl ?_
  refine ap_iald d12_49 (fun _ _ _ _ => rfl) (by decide) (by omega) (by decide) ?_
  refine an_top (e' := sOf (R i) (7 * P)) (by rw [sRow_row _ _ _ _ _ (by omega)]; exact hR.2.2.2 i hi) ?_
  refine ap_iast d12_50 (fun _ _ _ _ => rfl) (by decide) (by omega) (by decide) ?_
  refine as_aload_n d12_51 rfl ?_
  refine as_dup d12_52 rfl ?_
  refine ap_get d12_53 f12_75 (by decide) rfl rfl ?_
  refine an_top (e' := nI (len)) (hlen) ?_
  refine an_iconst 1 d12_56 rfl ?_
  refine an_iadd d12_57 ?_
  refine ap_put d12_58 f12_75 (by decide) rfl (Nat.le_of_ble_eq_true rfl) (rfl) rfl rfl ?_
  refine as_return d12_61 t12 ?_
  rfl
theorem mc_areN111 (X : am_X) (S : MS) (P n : Nat) (R : Nat → Nat → Nat) (hn : n ≤ 64) (hL : LRf S) (hf : LCf S 111 176 44 109) (hR : RC S 111 176 P n R) (a b : Nat) (ha : a < n) (hb : b < n) (h3 : anyN (twoK (sOf (R a) (7 * P) ||| sOf (R b) (7 * P))) 3 = anyN (twoK (sOf (R a) (7 * P) ||| sOf (R b) (7 * P))) P) : MC X 13 [.ref (43), .int (nI (a)), .int (nI (b))] S (some (.int (if okR R P n a b = true then 1 else 0))) S := by
  refine MC.of (Nat.le_of_ble_eq_true rfl) ?_
  refine as_aload_n d13_0 rfl ?_
  refine ap_get d13_1 f13_16 (by decide) rfl rfl ?_
  refine an_topr (hf.2.1) ?_
  refine as_iload_n d13_4 rfl ?_
  refine ap_iald d13_5 (fun _ _ _ _ => rfl) (by decide) (by omega) (by decide) ?_
  refine an_top (e' := sOf (R (a)) (7 * P)) (hR.2.2.2 _ (by omega)) ?_
  refine as_aload_n d13_6 rfl ?_
  refine ap_get d13_7 f13_16 (by decide) rfl rfl ?_
  refine an_topr (hf.2.1) ?_
  refine as_iload_n d13_10 rfl ?_
  refine ap_iald d13_11 (fun _ _ _ _ => rfl) (by decide) (by omega) (by decide) ?_
  refine an_top (e' := sOf (R (b)) (7 * P)) (hR.2.2.2 _ (by omega)) ?_
  refine as_ior d13_12 ?_
  refine as_istore_n d13_13 (by decide) ?_
  refine as_iload_n d13_14 rfl ?_
  refine ac_s1 d13_15 c13_98 (by decide) (Nat.le_of_ble_eq_true rfl) (mc_mixesL X _ _) ?_
  refine an_if_eq 23 d13_18 (by decide) (by have := anyN_lt (twoK (sOf (R a) (7 * P) ||| sOf (R b) (7 * P))) 3; omega) (fun c18 => ?_) (fun c18 => ?_)
  · refine an_iconst 0 d13_23 rfl ?_
    refine as_istore d13_24 (by decide) ?_
    refine AW.loc [(0, .ref (43)), (1, .int (nI (a))), (2, .int (nI (b))), (3, .int ((sOf (R (a)) (7 * P)) ||| (sOf (R (b)) (7 * P)))), (4, .int (nI (0)))] (am_pick [2, 3, 4, 1, 0] rfl rfl) ?_
    refine aw_fromI (fun q => ((26, [(0, .ref (43)), (1, .int (nI (a))), (2, .int (nI (b))), (3, .int ((sOf (R a) (7 * P) ||| sOf (R b) (7 * P)))), (4, .int (nI (q)))], [], 208, HP (S), 0, 0) : am_Z)) (fun q => anyN (bes R (7 * P) a b (sOf (R a) (7 * P) ||| sOf (R b) (7 * P))) (q) = 0) (0) (n) (by omega) (rfl) (rfl) (fun q hq0 hq hI ihq => ?_) (fun hX => ?_)
    · refine as_iload d13_26 rfl ?_
      refine as_aload_n d13_28 rfl ?_
      refine ap_get d13_29 f13_62 (by decide) rfl rfl ?_
      refine an_top (e' := nI (n)) (hR.2.1) ?_
      refine an_icmp_ge 69 d13_32 (by decide) (by omega) (by omega) (fun c32 => by omega) (fun c32 => ?_)
      refine as_iload d13_35 rfl ?_
      refine as_iload_n d13_37 rfl ?_
      refine an_icmp_eq 63 d13_38 (by decide) (by omega) (by omega) (fun c38 => ?_) (fun c38 => ?_)
      · refine an_iinc 1 d13_63 rfl rfl (by decide) ?_
        refine as_goto 26 d13_66 (by decide) ?_
        refine AW.loc [(0, .ref (43)), (1, .int (nI (a))), (2, .int (nI (b))), (3, .int ((sOf (R a) (7 * P) ||| sOf (R b) (7 * P)))), (4, .int (nI (q + 1)))] (am_pick [1, 2, 3, 4, 0] rfl rfl) ?_
        have ihq := ihq (by first | exact anyN_f hI (fun g => (of_decide_eq_true g).1 c38) | exact anyN_f hI (fun g => (of_decide_eq_true g).2.1 c44) | exact anyN_f hI (fun g => c58 (of_decide_eq_true g).2.2))
        exact ihq
      · refine as_iload d13_41 rfl ?_
        refine as_iload_n d13_43 rfl ?_
        refine an_icmp_eq 63 d13_44 (by decide) (by omega) (by omega) (fun c44 => ?_) (fun c44 => ?_)
        · refine an_iinc 1 d13_63 rfl rfl (by decide) ?_
          refine as_goto 26 d13_66 (by decide) ?_
          refine AW.loc [(0, .ref (43)), (1, .int (nI (a))), (2, .int (nI (b))), (3, .int ((sOf (R a) (7 * P) ||| sOf (R b) (7 * P)))), (4, .int (nI (q + 1)))] (am_pick [1, 2, 3, 4, 0] rfl rfl) ?_
          have ihq := ihq (by first | exact anyN_f hI (fun g => (of_decide_eq_true g).1 c38) | exact anyN_f hI (fun g => (of_decide_eq_true g).2.1 c44) | exact anyN_f hI (fun g => c58 (of_decide_eq_true g).2.2))
          exact ihq
        · refine as_aload_n d13_47 rfl ?_
          refine ap_get d13_48 f13_16 (by decide) rfl rfl ?_
          refine an_topr (hf.2.1) ?_
          refine as_iload d13_51 rfl ?_
          refine ap_iald d13_53 (fun _ _ _ _ => rfl) (by decide) (by omega) (by decide) ?_
          refine an_top (e' := sOf (R (q)) (7 * P)) (hR.2.2.2 _ (by omega)) ?_
          refine as_iload_n d13_54 rfl ?_
          refine an_iconstI (-1) d13_55 rfl ?_
          refine as_ixor d13_56 ?_
          refine as_iand d13_57 ?_
          refine as_if_ne 63 d13_58 (by decide) (fun c58 => ?_) (fun c58 => ?_)
          · refine an_iinc 1 d13_63 rfl rfl (by decide) ?_
            refine as_goto 26 d13_66 (by decide) ?_
            refine AW.loc [(0, .ref (43)), (1, .int (nI (a))), (2, .int (nI (b))), (3, .int ((sOf (R a) (7 * P) ||| sOf (R b) (7 * P)))), (4, .int (nI (q + 1)))] (am_pick [1, 2, 3, 4, 0] rfl rfl) ?_
            have ihq := ihq (by first | exact anyN_f hI (fun g => (of_decide_eq_true g).1 c38) | exact anyN_f hI (fun g => (of_decide_eq_true g).2.1 c44) | exact anyN_f hI (fun g => c58 (of_decide_eq_true g).2.2))
            exact ihq
          · have hno : ¬ okR R P n a b = true := fun g => by
              have w := (okR_iff.mp g).2
              rw [anyN_top hq (show bes R (7 * P) a b (sOf (R a) (7 * P) ||| sOf (R b) (7 * P)) q = true from decide_eq_true ⟨c38, c44, c58⟩)] at w
              cases w
            refine an_iconst 0 d13_61 rfl ?_
            refine as_ireturn d13_62 (by rw [t13]; rfl) ?_
            refine am_req ?_
            first | exact (if_neg hno).symm | exact (if_pos (okR_iff.mpr ⟨by rw [← h3]; exact c18, hX⟩)).symm
    · refine as_iload d13_26 rfl ?_
      refine as_aload_n d13_28 rfl ?_
      refine ap_get d13_29 f13_62 (by decide) rfl rfl ?_
      refine an_top (e' := nI (n)) (hR.2.1) ?_
      refine an_icmp_ge 69 d13_32 (by decide) (by omega) (by omega) (fun c32 => ?_) (fun c32 => by omega)
      refine an_iconst 1 d13_69 rfl ?_
      refine as_ireturn d13_70 (by rw [t13]; rfl) ?_
      refine am_req ?_
      first | exact (if_neg hno).symm | exact (if_pos (okR_iff.mpr ⟨by rw [← h3]; exact c18, hX⟩)).symm
  · have hno : ¬ okR R P n a b = true := fun g => c18 (by rw [h3]; exact (okR_iff.mp g).1)
    refine an_iconst 0 d13_21 rfl ?_
    refine as_ireturn d13_22 (by rw [t13]; rfl) ?_
    refine am_req ?_
    first | exact (if_neg hno).symm | exact (if_pos (okR_iff.mpr ⟨by rw [← h3]; exact c18, hX⟩)).symm
