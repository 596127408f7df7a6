/-! the class: fitAcross, swapLists -/
theorem and_orR (a b c : Int32) : (a ||| b) &&& c = (a &&& c) ||| (b &&& c) := by
  apply Int32.toBitVec_inj.1
  rw [Int32.toBitVec_and, Int32.toBitVec_or, Int32.toBitVec_or, Int32.toBitVec_and, Int32.toBitVec_and]
  apply BitVec.eq_of_getLsbD_eq
  intro i hi
  rw [BitVec.getLsbD_and, BitVec.getLsbD_or, BitVec.getLsbD_or, BitVec.getLsbD_and, BitVec.getLsbD_and]
  cases a.toBitVec.getLsbD i <;> cases b.toBitVec.getLsbD i <;> cases c.toBitVec.getLsbD i <;> rfl
theorem fours_or (x y : Int32) (p : Nat) : fours (x ||| y) p = fours x p ||| fours y p := by
  unfold fours
  rw [Int32.shiftRight_or, and_orR]
theorem fours_bit : ∀ i, i < 21 → ∀ p, p < 3 → i < 7 * p + 4 → fours (nI 1 <<< (nI i &&& 31)) p = nI 0 := by decide +kernel
theorem fours_sOf {v : Nat → Nat} {p : Nat} (hp : p < 3) : ∀ n, n ≤ 21 → n ≤ 7 * p + 4 → fours (sOf v n) p = nI 0
  | 0, _, _ => by
    show fours (nI 0) p = nI 0
    rcases (show p = 0 ∨ p = 1 ∨ p = 2 by omega) with rfl | rfl | rfl <;> decide
  | n + 1, h1, h2 => by
    unfold sOf
    rw [fours_or, fours_sOf hp n (by omega) (by omega), zor]
    split
    · rcases (show p = 0 ∨ p = 1 ∨ p = 2 by omega) with rfl | rfl | rfl <;> decide
    · exact fours_bit n (by omega) p hp (by omega)
theorem any3 {P : Nat} (hP : P ≤ 3) (u v : Nat → Nat) : anyN (twoK (sOf u (7 * P) ||| sOf v (7 * P))) 3 = anyN (twoK (sOf u (7 * P) ||| sOf v (7 * P))) P := by
  have key : ∀ p, P ≤ p → p < 3 → ¬ twoK (sOf u (7 * P) ||| sOf v (7 * P)) p = true := by
    intro p h1 h2 g
    have := of_decide_eq_true g
    rw [fours_or, fours_sOf h2 _ (by omega) (by omega), fours_sOf h2 _ (by omega) (by omega)] at this
    exact this (by decide)
  have hc : cnt (twoK (sOf u (7 * P) ||| sOf v (7 * P))) 3 = cnt (twoK (sOf u (7 * P) ||| sOf v (7 * P))) P := by
    have := cnt_more (p := twoK (sOf u (7 * P) ||| sOf v (7 * P))) (n := P) (3 - P) (fun i h1 h2 => key i h1 (by omega))
    rw [show P + (3 - P) = 3 by omega] at this
    exact this
  unfold anyN
  rw [hc]
theorem layC_k44 {S T : MS} {P n len : Nat} {R : Nat → Nat → Nat} {e : Nat → Int} {f : Nat → Int32} {x : Int32} (hL : LRf S) (h1 : leK S T) (h2 : T.2.2 = S.2.2) (h3 : RC T 44 109 P n R) (h4 : ∀ i, i < n → T.2.1 110 i = zI (e i)) (hn : n ≤ 64) (hl : len < 64) : leK S (layC T 111 176 len f x) ∧ (layC T 111 176 len f x).2.2 = S.2.2 ∧ RC (layC T 111 176 len f x) 44 109 P n R ∧ (∀ i, i < n → (layC T 111 176 len f x).2.1 110 i = zI (e i)) := by
  have q := hL.2.2.1 len hl
  rw [← h2] at q
  refine ⟨((h1.row (by omega) _ _ _).sa (by omega) _ _).sf (by omega) _, h2, ⟨?_, ?_, fun i hi j hj => ?_, fun i hi => ?_⟩, fun i hi => ?_⟩
  · show (((sRow T (T.2.2.2 111 len) 0 f 21).sa 176 len x).sf 43 5 (nI (len + 1))).1 43 0 = _
    rw [sf_at, if_neg (by omega)]
    exact h3.1
  · show (((sRow T (T.2.2.2 111 len) 0 f 21).sa 176 len x).sf 43 5 (nI (len + 1))).1 43 1 = _
    rw [sf_at, if_neg (by omega)]
    exact h3.2.1
  · have qi := hL.1 i (by omega)
    rw [← h2] at qi
    show ((sRow T (T.2.2.2 111 len) 0 f 21).sa 176 len x).2.1 (T.2.2.2 44 i) j = _
    rw [sa_row _ _ _ _ (by omega), sRow_row _ _ _ _ _ (by omega)]
    exact h3.2.2.1 i hi j hj
  · show ((sRow T (T.2.2.2 111 len) 0 f 21).sa 176 len x).2.1 109 i = _
    rw [sa_row _ _ _ _ (by omega), sRow_row _ _ _ _ _ (by omega)]
    exact h3.2.2.2 i hi
  · show ((sRow T (T.2.2.2 111 len) 0 f 21).sa 176 len x).2.1 110 i = _
    rw [sa_row _ _ _ _ (by omega), sRow_row _ _ _ _ _ (by omega)]
    exact h4 i hi
theorem mc_swapL44 (X : am_X) (S : MS) (len : Nat) (hf : LCf S 44 109 111 176) (hlen : S.1 43 5 = nI len) : MC X 17 [.ref (43)] S none (((((S.sr 43 2 111).sr 43 3 176).sf 43 1 (nI len)).sr 43 6 44).sr 43 7 109) := by
  refine MC.of (Nat.le_of_ble_eq_true rfl) ?_
  refine as_aload_n d17_0 rfl ?_
  refine ap_get d17_1 f17_13 (by decide) rfl rfl ?_
  refine an_topr (hf.1) ?_
  refine as_astore_n d17_4 (by decide) ?_
  refine as_aload_n d17_5 rfl ?_
  refine ap_get d17_6 f17_16 (by decide) rfl rfl ?_
  refine an_topr (hf.2.1) ?_
  refine as_astore_n d17_9 (by decide) ?_
  refine as_aload_n d17_10 rfl ?_
  refine as_aload_n d17_11 rfl ?_
  refine ap_get d17_12 f17_23 (by decide) rfl rfl ?_
  refine an_topr (hf.2.2.1) ?_
  refine ap_putr d17_15 f17_13 (by decide) rfl (Nat.le_of_ble_eq_true rfl) rfl rfl rfl ?_
  refine as_aload_n d17_18 rfl ?_
  refine as_aload_n d17_19 rfl ?_
  refine ap_get d17_20 f17_26 (by decide) rfl rfl ?_
  refine an_topr (hf.2.2.2) ?_
  refine ap_putr d17_23 f17_16 (by decide) rfl (Nat.le_of_ble_eq_true rfl) rfl rfl rfl ?_
  refine as_aload_n d17_26 rfl ?_
  refine as_aload_n d17_27 rfl ?_
  refine ap_get d17_28 f17_75 (by decide) rfl rfl ?_
  refine an_top (e' := nI (len)) (hlen) ?_
  refine ap_put d17_31 f17_62 (by decide) rfl (Nat.le_of_ble_eq_true rfl) (rfl) rfl rfl ?_
  refine as_aload_n d17_34 rfl ?_
  refine as_aload_n d17_35 rfl ?_
  refine ap_putr d17_36 f17_23 (by decide) rfl (Nat.le_of_ble_eq_true rfl) rfl rfl rfl ?_
  refine as_aload_n d17_39 rfl ?_
  refine as_aload_n d17_40 rfl ?_
  refine ap_putr d17_41 f17_26 (by decide) rfl (Nat.le_of_ble_eq_true rfl) rfl rfl rfl ?_
  refine as_return d17_44 t17 ?_
  rfl
set_option maxHeartbeats 4000000 in
theorem mx_fitAcross44 (X : am_X) (S : MS) (P n : Nat) (R : Nat → Nat → Nat) (e : Nat → Int) (hP : P ≤ 3) (hn : n ≤ 64) (hL : LRf S) (hf : LCf S 44 109 111 176) (hR : RC S 44 109 P n R) (hZ : RZ P n R) (hN : RN P n R) (hB : RB P n R 20000) (hPr : RP P n R) (he : ∀ i, i < n → S.2.1 110 i = zI (e i)) (heb : ∀ i, i < n → -40000 ≤ e i ∧ e i ≤ 40000) (hl : (meetL R P n e).length ≤ 64) : ∃ T, MC X 11 [.ref (43)] S none T ∧ leK S T ∧ LRf T ∧ LCf T 111 176 44 109 ∧ RC T 111 176 P (meetL R P n e).length (meetR R P n e) := by
  have key := MX.mc (X := X) (mj := 11) (as := [.ref (43)]) (S := S) (Post := fun v T => v = none ∧ leK S T ∧ LRf T ∧ LCf T 111 176 44 109 ∧ RC T 111 176 P (meetL R P n e).length (meetR R P n e)) ?_
  · obtain ⟨v, T, g1, g2, g3⟩ := key
    subst g2
    exact ⟨T, g1, g3⟩
  refine MX.of (Nat.le_of_ble_eq_true rfl) ?_
  refine as_aload_n d11_0 rfl ?_
  refine an_iconst 0 d11_1 rfl ?_
  refine ap_put d11_2 f11_75 (by decide) rfl (Nat.le_of_ble_eq_true rfl) (rfl) rfl rfl ?_
  refine an_iconst 0 d11_5 rfl ?_
  refine as_istore_n d11_6 (by decide) ?_
  refine AW.loc [(0, .ref (43)), (1, .int (nI (0)))] (am_pick [1, 0] rfl rfl) ?_
  refine aw_fromE (fun a T => ((7, [(0, .ref (43)), (1, .int (nI (a)))], [], 208, HP (T), 0, 0) : am_Z)) (fun a T => (leK S T ∧ T.2.2 = S.2.2 ∧ RC T 44 109 P n R ∧ (∀ i, i < n → T.2.1 110 i = zI (e i))) ∧ NC T 111 176 P R e (evA e (okR R P n) n (a))) (0) (n) (by omega) ((S).sf 43 5 (nI (0))) (rfl) (⟨⟨(leK.rf S).sf (by omega) _, rfl, ⟨by rw [sf_at, if_neg (by omega)]; exact hR.1, by rw [sf_at, if_neg (by omega)]; exact hR.2.1, hR.2.2.1, hR.2.2.2⟩, he⟩, by rw [sf_at, if_pos ⟨rfl, rfl⟩]; rfl, fun j hj => absurd hj (Nat.not_lt_zero _), fun j hj => absurd hj (Nat.not_lt_zero _)⟩) (fun a T ha0 ha hI iha => ?_) (fun T hX => ?_)
  · have hLT : LRf T := by unfold LRf; rw [hI.1.2.1]; exact hL
    have hfT : LCf T 44 109 111 176 := by unfold LCf; rw [hI.1.2.1]; exact hf
    have hnsT : ∀ j, j < 64 → T.2.2.2 111 j ≠ 176 := fun j hj => by have := hL.2.2.1 j hj; rw [← hI.1.2.1] at this; omega
    have hba := heb a ha
    refine as_iload_n d11_7 rfl ?_
    refine as_aload_n d11_8 rfl ?_
    refine ap_get d11_9 f11_62 (by decide) rfl rfl ?_
    refine an_top (e' := nI (n)) (hI.1.2.2.1.2.1) ?_
    refine an_icmp_ge 84 d11_12 (by decide) (by omega) (by omega) (fun c12 => by omega) (fun c12 => ?_)
    refine as_aload_n d11_15 rfl ?_
    refine ap_get d11_16 f11_20 (by decide) rfl rfl ?_
    refine as_iload_n d11_19 rfl ?_
    refine ap_iald d11_20 (fun _ _ _ _ => rfl) (by decide) (by omega) (by decide) ?_
    refine an_top (e' := zI (e (a))) (hI.1.2.2.2 _ (by omega)) ?_
    rcases Int.lt_trichotomy (e a) 0 with hneg | hzer | hpos
    · have hv := evA_n (ok := okR R P n) (n := n) hneg
      refine as_if_ne 29 d11_21 (by decide) (fun c21 => ?_) (fun c21 => absurd ((zI_eq0 (by omega) (by omega)).mp c21) (by omega))
      refine an_iconst 0 d11_29 rfl ?_
      refine as_istore_n d11_30 (by decide) ?_
      refine as_iload_n d11_31 rfl ?_
      refine as_aload_n d11_32 rfl ?_
      refine ap_get d11_33 f11_62 (by decide) rfl rfl ?_
      refine an_top (e' := nI (n)) (hI.1.2.2.1.2.1) ?_
      refine an_icmp_ge 78 d11_36 (by decide) (by omega) (by omega) (fun c36 => by omega) (fun c36 => ?_)
      refine as_aload_n d11_39 rfl ?_
      refine ap_get d11_40 f11_20 (by decide) rfl rfl ?_
      refine as_iload_n d11_43 rfl ?_
      refine ap_iald d11_44 (fun _ _ _ _ => rfl) (by decide) (by omega) (by decide) ?_
      refine an_top (e' := zI (e (a))) (hI.1.2.2.2 _ (by omega)) ?_
      refine as_if_le 78 d11_45 (by decide) (fun c45 => ?_) (fun c45 => absurd ((zI_le0 (by omega) (by omega)).mpr (by omega)) c45)
      refine an_iinc 1 d11_78 rfl rfl (by decide) ?_
      refine as_goto 7 d11_81 (by decide) ?_
      refine AW.loc [(0, .ref (43)), (1, .int (nI (a + 1)))] (am_pick [2, 0] rfl rfl) ?_
      have iha := iha (T) (by first | (rw [hv0]; exact hJX) | (rw [hv]; exact hI) | (rw [hv]; exact ⟨k1, k2⟩))
      exact iha
    · have hv := evA_z (ok := okR R P n) (n := n) hzer
      have hlen : (evA e (okR R P n) n a).length < 64 := by
        have q2 := evA_len e (okR R P n) n (show a + 1 ≤ n by omega)
        have q3 : (meetL R P n e).length = (evA e (okR R P n) n n).length := rfl
        rw [hv, List.length_append] at q2
        have q4 : [(a, a)].length = 1 := rfl
        omega
      have mm := mc_keep44 X T P n R hn hLT hfT hI.1.2.2.1 a _ ha hlen hI.2.1
      have k1 := layC_k44 (e := e) (f := T.2.1 (T.2.2.2 44 a)) (x := sOf (R a) (7 * P)) hL hI.1.1 hI.1.2.1 hI.1.2.2.1 hI.1.2.2.2 hn hlen
      have k2 := hI.2.app (a, a) (f := T.2.1 (T.2.2.2 44 a)) (x := sOf (R a) (7 * P)) (fun i hi => by rw [evRow_z ha hPr hzer]; exact hI.1.2.2.1.2.2.1 a ha i hi) (sOf_congr (7 * P) (fun i _ => by rw [evRow_z ha hPr hzer])) hlen hnsT hLT.2.2.2
      refine as_if_ne 29 d11_21 (by decide) (fun c21 => absurd ((zI_eq0 (by omega) (by omega)).mpr hzer) c21) (fun c21 => ?_)
      refine as_aload_n d11_24 rfl ?_
      refine as_iload_n d11_25 rfl ?_
      refine ac_v1 d11_26 c11_78 (by decide) rfl (Nat.le_of_ble_eq_true rfl) (mm) ?_
      refine an_iconst 0 d11_29 rfl ?_
      refine as_istore_n d11_30 (by decide) ?_
      refine as_iload_n d11_31 rfl ?_
      refine as_aload_n d11_32 rfl ?_
      refine ap_get d11_33 f11_62 (by decide) rfl rfl ?_
      refine an_top (e' := nI (n)) (k1.2.2.1.2.1) ?_
      refine an_icmp_ge 78 d11_36 (by decide) (by omega) (by omega) (fun c36 => by omega) (fun c36 => ?_)
      refine as_aload_n d11_39 rfl ?_
      refine ap_get d11_40 f11_20 (by decide) rfl rfl ?_
      refine as_iload_n d11_43 rfl ?_
      refine ap_iald d11_44 (fun _ _ _ _ => rfl) (by decide) (by omega) (by decide) ?_
      refine an_top (e' := zI (e a)) (k1.2.2.2 a ha) ?_
      refine as_if_le 78 d11_45 (by decide) (fun c45 => ?_) (fun c45 => absurd ((zI_le0 (by omega) (by omega)).mpr (by omega)) c45)
      refine an_iinc 1 d11_78 rfl rfl (by decide) ?_
      refine as_goto 7 d11_81 (by decide) ?_
      refine AW.loc [(0, .ref (43)), (1, .int (nI (a + 1)))] (am_pick [2, 0] rfl rfl) ?_
      have iha := iha (layC T 111 176 (evA e (okR R P n) n a).length (T.2.1 (T.2.2.2 44 a)) (sOf (R a) (7 * P))) (by first | (rw [hv0]; exact hJX) | (rw [hv]; exact hI) | (rw [hv]; exact ⟨k1, k2⟩))
      exact iha
    · have hv0 := evA_p (ok := okR R P n) (n := n) hpos
      refine as_if_ne 29 d11_21 (by decide) (fun c21 => ?_) (fun c21 => absurd ((zI_eq0 (by omega) (by omega)).mp c21) (by omega))
      refine an_iconst 0 d11_29 rfl ?_
      refine as_istore_n d11_30 (by decide) ?_
      refine AW.loc [(0, .ref (43)), (1, .int (nI (a))), (2, .int (nI (0)))] (am_pick [1, 2, 0] rfl rfl) ?_
      refine aw_fromE (fun b U => ((31, [(0, .ref (43)), (1, .int (nI (a))), (2, .int (nI (b)))], [], 208, HP (U), 0, 0) : am_Z)) (fun b U => (leK S U ∧ U.2.2 = S.2.2 ∧ RC U 44 109 P n R ∧ (∀ i, i < n → U.2.1 110 i = zI (e i))) ∧ NC U 111 176 P R e (evA e (okR R P n) n a ++ evB e (okR R P n) a (b))) (0) (n) (by omega) (T) (rfl) (⟨hI.1, by show NC T 111 176 P R e (_ ++ []); rw [List.append_nil]; exact hI.2⟩) (fun b U hb0 hb hJ ihb => ?_) (fun U hJX => ?_)
      · have hLT : LRf U := by unfold LRf; rw [hJ.1.2.1]; exact hL
        have hfT : LCf U 44 109 111 176 := by unfold LCf; rw [hJ.1.2.1]; exact hf
        have hnsT : ∀ j, j < 64 → U.2.2.2 111 j ≠ 176 := fun j hj => by have := hL.2.2.1 j hj; rw [← hJ.1.2.1] at this; omega
        have hbb := heb b hb
        refine as_iload_n d11_31 rfl ?_
        refine as_aload_n d11_32 rfl ?_
        refine ap_get d11_33 f11_62 (by decide) rfl rfl ?_
        refine an_top (e' := nI (n)) (hJ.1.2.2.1.2.1) ?_
        refine an_icmp_ge 78 d11_36 (by decide) (by omega) (by omega) (fun c36 => by omega) (fun c36 => ?_)
        refine as_aload_n d11_39 rfl ?_
        refine ap_get d11_40 f11_20 (by decide) rfl rfl ?_
        refine as_iload_n d11_43 rfl ?_
        refine ap_iald d11_44 (fun _ _ _ _ => rfl) (by decide) (by omega) (by decide) ?_
        refine an_top (e' := zI (e (a))) (hJ.1.2.2.2 _ (by omega)) ?_
        refine as_if_le 78 d11_45 (by decide) (fun c45 => absurd ((zI_le0 (by omega) (by omega)).mp c45) (by omega)) (fun c45 => ?_)
        refine as_aload_n d11_48 rfl ?_
        refine ap_get d11_49 f11_20 (by decide) rfl rfl ?_
        refine as_iload_n d11_52 rfl ?_
        refine ap_iald d11_53 (fun _ _ _ _ => rfl) (by decide) (by omega) (by decide) ?_
        refine an_top (e' := zI (e (b))) (hJ.1.2.2.2 _ (by omega)) ?_
        refine as_if_ge 72 d11_54 (by decide) (fun c54 => ?_) (fun c54 => ?_)
        · have hnb : ¬ e b < 0 := fun g => absurd ((zI_ge0 (by omega) (by omega)).mp c54) (by omega)
          have hv : evB e (okR R P n) a (b + 1) = evB e (okR R P n) a b := evB_f (fun g => hnb g.1)
          refine an_iinc 1 d11_72 rfl rfl (by decide) ?_
          refine as_goto 31 d11_75 (by decide) ?_
          refine AW.loc [(0, .ref (43)), (1, .int (nI (a))), (2, .int (nI (b + 1)))] (am_pick [1, 2, 0] rfl rfl) ?_
          have ihb := ihb (U) (by first | (rw [hv]; exact hJ) | (rw [hv, ← List.append_assoc]; exact ⟨k1, k2⟩))
          exact ihb
        · have hnb : e b < 0 := Int.not_le.mp (fun g => c54 ((zI_ge0 (by omega) (by omega)).mpr g))
          refine as_aload_n d11_57 rfl ?_
          refine as_iload_n d11_58 rfl ?_
          refine as_iload_n d11_59 rfl ?_
          refine ac_v2 d11_60 c11_81 (by decide) rfl (Nat.le_of_ble_eq_true rfl) (mc_areN44 X _ P n R hn hLT hfT hJ.1.2.2.1 a b ha hb (any3 hP _ _)) ?_
          refine as_if_eq 72 d11_63 (by decide) (fun c63 => ?_) (fun c63 => ?_)
          · have hv : evB e (okR R P n) a (b + 1) = evB e (okR R P n) a b := evB_f (fun g => am_b01.mp c63 g.2)
            refine an_iinc 1 d11_72 rfl rfl (by decide) ?_
            refine as_goto 31 d11_75 (by decide) ?_
            refine AW.loc [(0, .ref (43)), (1, .int (nI (a))), (2, .int (nI (b + 1)))] (am_pick [1, 2, 0] rfl rfl) ?_
            have ihb := ihb (U) (by first | (rw [hv]; exact hJ) | (rw [hv, ← List.append_assoc]; exact ⟨k1, k2⟩))
            exact ihb
          · have hv : evB e (okR R P n) a (b + 1) = evB e (okR R P n) a b ++ [(a, b)] := evB_t hnb (am_b1 c63)
            have hlen : (evA e (okR R P n) n a ++ evB e (okR R P n) a b).length < 64 := by
              have q1 := evB_len e (okR R P n) a (show b + 1 ≤ n by omega)
              have q2 := evA_len e (okR R P n) n (show a + 1 ≤ n by omega)
              have q3 : (meetL R P n e).length = (evA e (okR R P n) n n).length := rfl
              rw [evA_p hpos, List.length_append] at q2
              rw [hv, List.length_append] at q1
              rw [List.length_append]
              have q4 : [(a, b)].length = 1 := rfl
              omega
            have mm := mc_mix44 X U P n R hn hLT hfT hJ.1.2.2.1 hP hZ hN hB e hJ.1.2.2.2 heb a b _ ha hb hpos hnb hlen hJ.2.1
            have k1 := layC_k44 (e := e) (f := fun x => nI (evRow (7 * P) R e (a, b) x)) (x := sOf (R a) (7 * P) ||| sOf (R b) (7 * P)) hL hJ.1.1 hJ.1.2.1 hJ.1.2.2.1 hJ.1.2.2.2 hn hlen
            have k2 := hJ.2.app (a, b) (f := fun x => nI (evRow (7 * P) R e (a, b) x)) (x := sOf (R a) (7 * P) ||| sOf (R b) (7 * P)) (fun _ _ => rfl) (sOf_or (7 * P) (fun i hi => evRow_ne ha hN hpos hnb hi)).symm hlen hnsT hLT.2.2.2
            refine as_aload_n d11_66 rfl ?_
            refine as_iload_n d11_67 rfl ?_
            refine as_iload_n d11_68 rfl ?_
            refine ac_v2 d11_69 c11_85 (by decide) rfl (Nat.le_of_ble_eq_true rfl) (mm) ?_
            refine an_iinc 1 d11_72 rfl rfl (by decide) ?_
            refine as_goto 31 d11_75 (by decide) ?_
            refine AW.loc [(0, .ref (43)), (1, .int (nI (a))), (2, .int (nI (b + 1)))] (am_pick [1, 2, 0] rfl rfl) ?_
            have ihb := ihb (layC U 111 176 (evA e (okR R P n) n a ++ evB e (okR R P n) a b).length (fun x => nI (evRow (7 * P) R e (a, b) x)) (sOf (R a) (7 * P) ||| sOf (R b) (7 * P))) (by first | (rw [hv]; exact hJ) | (rw [hv, ← List.append_assoc]; exact ⟨k1, k2⟩))
            exact ihb
      · refine as_iload_n d11_31 rfl ?_
        refine as_aload_n d11_32 rfl ?_
        refine ap_get d11_33 f11_62 (by decide) rfl rfl ?_
        refine an_top (e' := nI (n)) (hJX.1.2.2.1.2.1) ?_
        refine an_icmp_ge 78 d11_36 (by decide) (by omega) (by omega) (fun c36 => ?_) (fun c36 => by omega)
        refine an_iinc 1 d11_78 rfl rfl (by decide) ?_
        refine as_goto 7 d11_81 (by decide) ?_
        refine AW.loc [(0, .ref (43)), (1, .int (nI (a + 1)))] (am_pick [1, 0] rfl rfl) ?_
        have iha := iha (U) (by first | (rw [hv0]; exact hJX) | (rw [hv]; exact hI) | (rw [hv]; exact ⟨k1, k2⟩))
        exact iha
  · refine as_iload_n d11_7 rfl ?_
    refine as_aload_n d11_8 rfl ?_
    refine ap_get d11_9 f11_62 (by decide) rfl rfl ?_
    refine an_top (e' := nI (n)) (hX.1.2.2.1.2.1) ?_
    refine an_icmp_ge 84 d11_12 (by decide) (by omega) (by omega) (fun c12 => ?_) (fun c12 => by omega)
    have hfT : LCf T 44 109 111 176 := by unfold LCf; rw [hX.1.2.1]; exact hf
    have sw := mc_swapL44 X T _ hfT hX.2.1
    refine as_aload_n d11_84 rfl ?_
    refine ac_v0 d11_85 c11_89 (by decide) rfl (Nat.le_of_ble_eq_true rfl) (sw) ?_
    refine as_return d11_88 t11 ?_
    obtain ⟨⟨x1, x2, x3, x4⟩, x5⟩ := hX
    have y44 : ∀ i, (u2 (u2 (u2 (u2 T.2.2.2 43 2 111) 43 3 176) 43 6 44) 43 7 109) 44 i = S.2.2.2 44 i := fun i => by rw [u2_ne _ _ _ (by decide), u2_ne _ _ _ (by decide), u2_ne _ _ _ (by decide), u2_ne _ _ _ (by decide), x2]
    have y111 : ∀ i, (u2 (u2 (u2 (u2 T.2.2.2 43 2 111) 43 3 176) 43 6 44) 43 7 109) 111 i = S.2.2.2 111 i := fun i => by rw [u2_ne _ _ _ (by decide), u2_ne _ _ _ (by decide), u2_ne _ _ _ (by decide), u2_ne _ _ _ (by decide), x2]
    refine ⟨_, _, rfl, rfl, ⟨x1.1, x1.2.1, fun k a1 a2 a3 => ?_, fun i j a => ?_⟩, ?_, ?_, ?_, ?_, fun i hi j hj => ?_, fun i hi => ?_⟩
    · show (u2 (u2 (u2 (u2 T.2.2.2 43 2 111) 43 3 176) 43 6 44) 43 7 109) k = _
      rw [u2_ne _ _ _ a1, u2_ne _ _ _ a1, u2_ne _ _ _ a1, u2_ne _ _ _ a1]
      exact x1.2.2.1 k a1 a2 a3
    · show u2 T.1 43 1 (nI (meetL R P n e).length) i j = _
      rw [u2_at, if_neg (by omega)]
      exact x1.2.2.2 i j a
    · refine ⟨fun i hi => ?_, fun i j hi hj => ?_, fun i hi => ?_, fun i j hi hj => ?_⟩
      · show 45 ≤ (u2 (u2 (u2 (u2 T.2.2.2 43 2 111) 43 3 176) 43 6 44) 43 7 109) 44 i ∧ (u2 (u2 (u2 (u2 T.2.2.2 43 2 111) 43 3 176) 43 6 44) 43 7 109) 44 i < 109
        rw [y44]
        exact hL.1 i hi
      · show (u2 (u2 (u2 (u2 T.2.2.2 43 2 111) 43 3 176) 43 6 44) 43 7 109) 44 i = (u2 (u2 (u2 (u2 T.2.2.2 43 2 111) 43 3 176) 43 6 44) 43 7 109) 44 j → _
        rw [y44, y44]
        exact hL.2.1 i j hi hj
      · show 112 ≤ (u2 (u2 (u2 (u2 T.2.2.2 43 2 111) 43 3 176) 43 6 44) 43 7 109) 111 i ∧ (u2 (u2 (u2 (u2 T.2.2.2 43 2 111) 43 3 176) 43 6 44) 43 7 109) 111 i < 176
        rw [y111]
        exact hL.2.2.1 i hi
      · show (u2 (u2 (u2 (u2 T.2.2.2 43 2 111) 43 3 176) 43 6 44) 43 7 109) 111 i = (u2 (u2 (u2 (u2 T.2.2.2 43 2 111) 43 3 176) 43 6 44) 43 7 109) 111 j → _
        rw [y111, y111]
        exact hL.2.2.2 i j hi hj
    · refine ⟨?_, ?_, ?_, ?_⟩
      · show (u2 (u2 (u2 (u2 T.2.2.2 43 2 111) 43 3 176) 43 6 44) 43 7 109) 43 2 = _
        simp [u2_at]
      · show (u2 (u2 (u2 (u2 T.2.2.2 43 2 111) 43 3 176) 43 6 44) 43 7 109) 43 3 = _
        simp [u2_at]
      · show (u2 (u2 (u2 (u2 T.2.2.2 43 2 111) 43 3 176) 43 6 44) 43 7 109) 43 6 = _
        simp [u2_at]
      · show (u2 (u2 (u2 (u2 T.2.2.2 43 2 111) 43 3 176) 43 6 44) 43 7 109) 43 7 = _
        simp [u2_at]
    · show u2 T.1 43 1 (nI (meetL R P n e).length) 43 0 = _
      rw [u2_at, if_neg (by omega)]
      exact x3.1
    · show u2 T.1 43 1 (nI (meetL R P n e).length) 43 1 = _
      rw [u2_at, if_pos ⟨rfl, rfl⟩]
    · show T.2.1 ((u2 (u2 (u2 (u2 T.2.2.2 43 2 111) 43 3 176) 43 6 44) 43 7 109) 111 i) j = _
      rw [y111, ← x2]
      exact x5.2.1 i hi j hj
    · exact x5.2.2 i hi
theorem layC_k111 {S T : MS} {P n len : Nat} {R : Nat → Nat → Nat} {e : Nat → Int} {f : Nat → Int32} {x : Int32} (hL : LRf S) (h1 : leK S T) (h2 : T.2.2 = S.2.2) (h3 : RC T 111 176 P n R) (h4 : ∀ i, i < n → T.2.1 110 i = zI (e i)) (hn : n ≤ 64) (hl : len < 64) : leK S (layC T 44 109 len f x) ∧ (layC T 44 109 len f x).2.2 = S.2.2 ∧ RC (layC T 44 109 len f x) 111 176 P n R ∧ (∀ i, i < n → (layC T 44 109 len f x).2.1 110 i = zI (e i)) := by
  have q := hL.1 len hl
  rw [← h2] at q
  refine ⟨((h1.row (by omega) _ _ _).sa (by omega) _ _).sf (by omega) _, h2, ⟨?_, ?_, fun i hi j hj => ?_, fun i hi => ?_⟩, fun i hi => ?_⟩
  · show (((sRow T (T.2.2.2 44 len) 0 f 21).sa 109 len x).sf 43 5 (nI (len + 1))).1 43 0 = _
    rw [sf_at, if_neg (by omega)]
    exact h3.1
  · show (((sRow T (T.2.2.2 44 len) 0 f 21).sa 109 len x).sf 43 5 (nI (len + 1))).1 43 1 = _
    rw [sf_at, if_neg (by omega)]
    exact h3.2.1
  · have qi := hL.2.2.1 i (by omega)
    rw [← h2] at qi
    show ((sRow T (T.2.2.2 44 len) 0 f 21).sa 109 len x).2.1 (T.2.2.2 111 i) j = _
    rw [sa_row _ _ _ _ (by omega), sRow_row _ _ _ _ _ (by omega)]
    exact h3.2.2.1 i hi j hj
  · show ((sRow T (T.2.2.2 44 len) 0 f 21).sa 109 len x).2.1 176 i = _
    rw [sa_row _ _ _ _ (by omega), sRow_row _ _ _ _ _ (by omega)]
    exact h3.2.2.2 i hi
  · show ((sRow T (T.2.2.2 44 len) 0 f 21).sa 109 len x).2.1 110 i = _
    rw [sa_row _ _ _ _ (by omega), sRow_row _ _ _ _ _ (by omega)]
    exact h4 i hi
theorem mc_swapL111 (X : am_X) (S : MS) (len : Nat) (hf : LCf S 111 176 44 109) (hlen : S.1 43 5 = nI len) : MC X 17 [.ref (43)] S none (((((S.sr 43 2 44).sr 43 3 109).sf 43 1 (nI len)).sr 43 6 111).sr 43 7 176) := by
  refine MC.of (Nat.le_of_ble_eq_true rfl) ?_
  refine as_aload_n d17_0 rfl ?_
  refine ap_get d17_1 f17_13 (by decide) rfl rfl ?_
  refine an_topr (hf.1) ?_
  refine as_astore_n d17_4 (by decide) ?_
  refine as_aload_n d17_5 rfl ?_
  refine ap_get d17_6 f17_16 (by decide) rfl rfl ?_
  refine an_topr (hf.2.1) ?_
  refine as_astore_n d17_9 (by decide) ?_
  refine as_aload_n d17_10 rfl ?_
  refine as_aload_n d17_11 rfl ?_
  refine ap_get d17_12 f17_23 (by decide) rfl rfl ?_
  refine an_topr (hf.2.2.1) ?_
  refine ap_putr d17_15 f17_13 (by decide) rfl (Nat.le_of_ble_eq_true rfl) rfl rfl rfl ?_
  refine as_aload_n d17_18 rfl ?_
  refine as_aload_n d17_19 rfl ?_
  refine ap_get d17_20 f17_26 (by decide) rfl rfl ?_
  refine an_topr (hf.2.2.2) ?_
  refine ap_putr d17_23 f17_16 (by decide) rfl (Nat.le_of_ble_eq_true rfl) rfl rfl rfl ?_
  refine as_aload_n d17_26 rfl ?_
  refine as_aload_n d17_27 rfl ?_
  refine ap_get d17_28 f17_75 (by decide) rfl rfl ?_
  refine an_top (e' := nI (len)) (hlen) ?_
  refine ap_put d17_31 f17_62 (by decide) rfl (Nat.le_of_ble_eq_true rfl) (rfl) rfl rfl ?_
  refine as_aload_n d17_34 rfl ?_
  refine as_aload_n d17_35 rfl ?_
  refine ap_putr d17_36 f17_23 (by decide) rfl (Nat.le_of_ble_eq_true rfl) rfl rfl rfl ?_
  refine as_aload_n d17_39 rfl ?_
  refine as_aload_n d17_40 rfl ?_
  refine ap_putr d17_41 f17_26 (by decide) rfl (Nat.le_of_ble_eq_true rfl) rfl rfl rfl ?_
  refine as_return d17_44 t17 ?_
  rfl
set_option maxHeartbeats 4000000 in
theorem mx_fitAcross111 (X : am_X) (S : MS) (P n : Nat) (R : Nat → Nat → Nat) (e : Nat → Int) (hP : P ≤ 3) (hn : n ≤ 64) (hL : LRf S) (hf : LCf S 111 176 44 109) (hR : RC S 111 176 P n R) (hZ : RZ P n R) (hN : RN P n R) (hB : RB P n R 20000) (hPr : RP P n R) (he : ∀ i, i < n → S.2.1 110 i = zI (e i)) (heb : ∀ i, i < n → -40000 ≤ e i ∧ e i ≤ 40000) (hl : (meetL R P n e).length ≤ 64) : ∃ T, MC X 11 [.ref (43)] S none T ∧ leK S T ∧ LRf T ∧ LCf T 44 109 111 176 ∧ RC T 44 109 P (meetL R P n e).length (meetR R P n e) := by
  have key := MX.mc (X := X) (mj := 11) (as := [.ref (43)]) (S := S) (Post := fun v T => v = none ∧ leK S T ∧ LRf T ∧ LCf T 44 109 111 176 ∧ RC T 44 109 P (meetL R P n e).length (meetR R P n e)) ?_
  · obtain ⟨v, T, g1, g2, g3⟩ := key
    subst g2
    exact ⟨T, g1, g3⟩
  refine MX.of (Nat.le_of_ble_eq_true rfl) ?_
  refine as_aload_n d11_0 rfl ?_
  refine an_iconst 0 d11_1 rfl ?_
  refine ap_put d11_2 f11_75 (by decide) rfl (Nat.le_of_ble_eq_true rfl) (rfl) rfl rfl ?_
  refine an_iconst 0 d11_5 rfl ?_
  refine as_istore_n d11_6 (by decide) ?_
  refine AW.loc [(0, .ref (43)), (1, .int (nI (0)))] (am_pick [1, 0] rfl rfl) ?_
  refine aw_fromE (fun a T => ((7, [(0, .ref (43)), (1, .int (nI (a)))], [], 208, HP (T), 0, 0) : am_Z)) (fun a T => (leK S T ∧ T.2.2 = S.2.2 ∧ RC T 111 176 P n R ∧ (∀ i, i < n → T.2.1 110 i = zI (e i))) ∧ NC T 44 109 P R e (evA e (okR R P n) n (a))) (0) (n) (by omega) ((S).sf 43 5 (nI (0))) (rfl) (⟨⟨(leK.rf S).sf (by omega) _, rfl, ⟨by rw [sf_at, if_neg (by omega)]; exact hR.1, by rw [sf_at, if_neg (by omega)]; exact hR.2.1, hR.2.2.1, hR.2.2.2⟩, he⟩, by rw [sf_at, if_pos ⟨rfl, rfl⟩]; rfl, fun j hj => absurd hj (Nat.not_lt_zero _), fun j hj => absurd hj (Nat.not_lt_zero _)⟩) (fun a T ha0 ha hI iha => ?_) (fun T hX => ?_)
  · have hLT : LRf T := by unfold LRf; rw [hI.1.2.1]; exact hL
    have hfT : LCf T 111 176 44 109 := by unfold LCf; rw [hI.1.2.1]; exact hf
    have hnsT : ∀ j, j < 64 → T.2.2.2 44 j ≠ 109 := fun j hj => by have := hL.1 j hj; rw [← hI.1.2.1] at this; omega
    have hba := heb a ha
    refine as_iload_n d11_7 rfl ?_
    refine as_aload_n d11_8 rfl ?_
    refine ap_get d11_9 f11_62 (by decide) rfl rfl ?_
    refine an_top (e' := nI (n)) (hI.1.2.2.1.2.1) ?_
    refine an_icmp_ge 84 d11_12 (by decide) (by omega) (by omega) (fun c12 => by omega) (fun c12 => ?_)
    refine as_aload_n d11_15 rfl ?_
    refine ap_get d11_16 f11_20 (by decide) rfl rfl ?_
    refine as_iload_n d11_19 rfl ?_
    refine ap_iald d11_20 (fun _ _ _ _ => rfl) (by decide) (by omega) (by decide) ?_
    refine an_top (e' := zI (e (a))) (hI.1.2.2.2 _ (by omega)) ?_
    rcases Int.lt_trichotomy (e a) 0 with hneg | hzer | hpos
    · have hv := evA_n (ok := okR R P n) (n := n) hneg
      refine as_if_ne 29 d11_21 (by decide) (fun c21 => ?_) (fun c21 => absurd ((zI_eq0 (by omega) (by omega)).mp c21) (by omega))
      refine an_iconst 0 d11_29 rfl ?_
      refine as_istore_n d11_30 (by decide) ?_
      refine as_iload_n d11_31 rfl ?_
      refine as_aload_n d11_32 rfl ?_
      refine ap_get d11_33 f11_62 (by decide) rfl rfl ?_
      refine an_top (e' := nI (n)) (hI.1.2.2.1.2.1) ?_
      refine an_icmp_ge 78 d11_36 (by decide) (by omega) (by omega) (fun c36 => by omega) (fun c36 => ?_)
      refine as_aload_n d11_39 rfl ?_
      refine ap_get d11_40 f11_20 (by decide) rfl rfl ?_
      refine as_iload_n d11_43 rfl ?_
      refine ap_iald d11_44 (fun _ _ _ _ => rfl) (by decide) (by omega) (by decide) ?_
      refine an_top (e' := zI (e (a))) (hI.1.2.2.2 _ (by omega)) ?_
      refine as_if_le 78 d11_45 (by decide) (fun c45 => ?_) (fun c45 => absurd ((zI_le0 (by omega) (by omega)).mpr (by omega)) c45)
      refine an_iinc 1 d11_78 rfl rfl (by decide) ?_
      refine as_goto 7 d11_81 (by decide) ?_
      refine AW.loc [(0, .ref (43)), (1, .int (nI (a + 1)))] (am_pick [2, 0] rfl rfl) ?_
      have iha := iha (T) (by first | (rw [hv0]; exact hJX) | (rw [hv]; exact hI) | (rw [hv]; exact ⟨k1, k2⟩))
      exact iha
    · have hv := evA_z (ok := okR R P n) (n := n) hzer
      have hlen : (evA e (okR R P n) n a).length < 64 := by
        have q2 := evA_len e (okR R P n) n (show a + 1 ≤ n by omega)
        have q3 : (meetL R P n e).length = (evA e (okR R P n) n n).length := rfl
        rw [hv, List.length_append] at q2
        have q4 : [(a, a)].length = 1 := rfl
        omega
      have mm := mc_keep111 X T P n R hn hLT hfT hI.1.2.2.1 a _ ha hlen hI.2.1
      have k1 := layC_k111 (e := e) (f := T.2.1 (T.2.2.2 111 a)) (x := sOf (R a) (7 * P)) hL hI.1.1 hI.1.2.1 hI.1.2.2.1 hI.1.2.2.2 hn hlen
      have k2 := hI.2.app (a, a) (f := T.2.1 (T.2.2.2 111 a)) (x := sOf (R a) (7 * P)) (fun i hi => by rw [evRow_z ha hPr hzer]; exact hI.1.2.2.1.2.2.1 a ha i hi) (sOf_congr (7 * P) (fun i _ => by rw [evRow_z ha hPr hzer])) hlen hnsT hLT.2.1
      refine as_if_ne 29 d11_21 (by decide) (fun c21 => absurd ((zI_eq0 (by omega) (by omega)).mpr hzer) c21) (fun c21 => ?_)
      refine as_aload_n d11_24 rfl ?_
      refine as_iload_n d11_25 rfl ?_
      refine ac_v1 d11_26 c11_78 (by decide) rfl (Nat.le_of_ble_eq_true rfl) (mm) ?_
      refine an_iconst 0 d11_29 rfl ?_
      refine as_istore_n d11_30 (by decide) ?_
      refine as_iload_n d11_31 rfl ?_
      refine as_aload_n d11_32 rfl ?_
      refine ap_get d11_33 f11_62 (by decide) rfl rfl ?_
      refine an_top (e' := nI (n)) (k1.2.2.1.2.1) ?_
      refine an_icmp_ge 78 d11_36 (by decide) (by omega) (by omega) (fun c36 => by omega) (fun c36 => ?_)
      refine as_aload_n d11_39 rfl ?_
      refine ap_get d11_40 f11_20 (by decide) rfl rfl ?_
      refine as_iload_n d11_43 rfl ?_
      refine ap_iald d11_44 (fun _ _ _ _ => rfl) (by decide) (by omega) (by decide) ?_
      refine an_top (e' := zI (e a)) (k1.2.2.2 a ha) ?_
      refine as_if_le 78 d11_45 (by decide) (fun c45 => ?_) (fun c45 => absurd ((zI_le0 (by omega) (by omega)).mpr (by omega)) c45)
      refine an_iinc 1 d11_78 rfl rfl (by decide) ?_
      refine as_goto 7 d11_81 (by decide) ?_
      refine AW.loc [(0, .ref (43)), (1, .int (nI (a + 1)))] (am_pick [2, 0] rfl rfl) ?_
      have iha := iha (layC T 44 109 (evA e (okR R P n) n a).length (T.2.1 (T.2.2.2 111 a)) (sOf (R a) (7 * P))) (by first | (rw [hv0]; exact hJX) | (rw [hv]; exact hI) | (rw [hv]; exact ⟨k1, k2⟩))
      exact iha
    · have hv0 := evA_p (ok := okR R P n) (n := n) hpos
      refine as_if_ne 29 d11_21 (by decide) (fun c21 => ?_) (fun c21 => absurd ((zI_eq0 (by omega) (by omega)).mp c21) (by omega))
      refine an_iconst 0 d11_29 rfl ?_
      refine as_istore_n d11_30 (by decide) ?_
      refine AW.loc [(0, .ref (43)), (1, .int (nI (a))), (2, .int (nI (0)))] (am_pick [1, 2, 0] rfl rfl) ?_
      refine aw_fromE (fun b U => ((31, [(0, .ref (43)), (1, .int (nI (a))), (2, .int (nI (b)))], [], 208, HP (U), 0, 0) : am_Z)) (fun b U => (leK S U ∧ U.2.2 = S.2.2 ∧ RC U 111 176 P n R ∧ (∀ i, i < n → U.2.1 110 i = zI (e i))) ∧ NC U 44 109 P R e (evA e (okR R P n) n a ++ evB e (okR R P n) a (b))) (0) (n) (by omega) (T) (rfl) (⟨hI.1, by show NC T 44 109 P R e (_ ++ []); rw [List.append_nil]; exact hI.2⟩) (fun b U hb0 hb hJ ihb => ?_) (fun U hJX => ?_)
      · have hLT : LRf U := by unfold LRf; rw [hJ.1.2.1]; exact hL
        have hfT : LCf U 111 176 44 109 := by unfold LCf; rw [hJ.1.2.1]; exact hf
        have hnsT : ∀ j, j < 64 → U.2.2.2 44 j ≠ 109 := fun j hj => by have := hL.1 j hj; rw [← hJ.1.2.1] at this; omega
        have hbb := heb b hb
        refine as_iload_n d11_31 rfl ?_
        refine as_aload_n d11_32 rfl ?_
        refine ap_get d11_33 f11_62 (by decide) rfl rfl ?_
        refine an_top (e' := nI (n)) (hJ.1.2.2.1.2.1) ?_
        refine an_icmp_ge 78 d11_36 (by decide) (by omega) (by omega) (fun c36 => by omega) (fun c36 => ?_)
        refine as_aload_n d11_39 rfl ?_
        refine ap_get d11_40 f11_20 (by decide) rfl rfl ?_
        refine as_iload_n d11_43 rfl ?_
        refine ap_iald d11_44 (fun _ _ _ _ => rfl) (by decide) (by omega) (by decide) ?_
        refine an_top (e' := zI (e (a))) (hJ.1.2.2.2 _ (by omega)) ?_
        refine as_if_le 78 d11_45 (by decide) (fun c45 => absurd ((zI_le0 (by omega) (by omega)).mp c45) (by omega)) (fun c45 => ?_)
        refine as_aload_n d11_48 rfl ?_
        refine ap_get d11_49 f11_20 (by decide) rfl rfl ?_
        refine as_iload_n d11_52 rfl ?_
        refine ap_iald d11_53 (fun _ _ _ _ => rfl) (by decide) (by omega) (by decide) ?_
        refine an_top (e' := zI (e (b))) (hJ.1.2.2.2 _ (by omega)) ?_
        refine as_if_ge 72 d11_54 (by decide) (fun c54 => ?_) (fun c54 => ?_)
        · have hnb : ¬ e b < 0 := fun g => absurd ((zI_ge0 (by omega) (by omega)).mp c54) (by omega)
          have hv : evB e (okR R P n) a (b + 1) = evB e (okR R P n) a b := evB_f (fun g => hnb g.1)
          refine an_iinc 1 d11_72 rfl rfl (by decide) ?_
          refine as_goto 31 d11_75 (by decide) ?_
          refine AW.loc [(0, .ref (43)), (1, .int (nI (a))), (2, .int (nI (b + 1)))] (am_pick [1, 2, 0] rfl rfl) ?_
          have ihb := ihb (U) (by first | (rw [hv]; exact hJ) | (rw [hv, ← List.append_assoc]; exact ⟨k1, k2⟩))
          exact ihb
        · have hnb : e b < 0 := Int.not_le.mp (fun g => c54 ((zI_ge0 (by omega) (by omega)).mpr g))
          refine as_aload_n d11_57 rfl ?_
          refine as_iload_n d11_58 rfl ?_
          refine as_iload_n d11_59 rfl ?_
          refine ac_v2 d11_60 c11_81 (by decide) rfl (Nat.le_of_ble_eq_true rfl) (mc_areN111 X _ P n R hn hLT hfT hJ.1.2.2.1 a b ha hb (any3 hP _ _)) ?_
          refine as_if_eq 72 d11_63 (by decide) (fun c63 => ?_) (fun c63 => ?_)
          · have hv : evB e (okR R P n) a (b + 1) = evB e (okR R P n) a b := evB_f (fun g => am_b01.mp c63 g.2)
            refine an_iinc 1 d11_72 rfl rfl (by decide) ?_
            refine as_goto 31 d11_75 (by decide) ?_
            refine AW.loc [(0, .ref (43)), (1, .int (nI (a))), (2, .int (nI (b + 1)))] (am_pick [1, 2, 0] rfl rfl) ?_
            have ihb := ihb (U) (by first | (rw [hv]; exact hJ) | (rw [hv, ← List.append_assoc]; exact ⟨k1, k2⟩))
            exact ihb
          · have hv : evB e (okR R P n) a (b + 1) = evB e (okR R P n) a b ++ [(a, b)] := evB_t hnb (am_b1 c63)
            have hlen : (evA e (okR R P n) n a ++ evB e (okR R P n) a b).length < 64 := by
              have q1 := evB_len e (okR R P n) a (show b + 1 ≤ n by omega)
              have q2 := evA_len e (okR R P n) n (show a + 1 ≤ n by omega)
              have q3 : (meetL R P n e).length = (evA e (okR R P n) n n).length := rfl
              rw [evA_p hpos, List.length_append] at q2
              rw [hv, List.length_append] at q1
              rw [List.length_append]
              have q4 : [(a, b)].length = 1 := rfl
              omega
            have mm := mc_mix111 X U P n R hn hLT hfT hJ.1.2.2.1 hP hZ hN hB e hJ.1.2.2.2 heb a b _ ha hb hpos hnb hlen hJ.2.1
            have k1 := layC_k111 (e := e) (f := fun x => nI (evRow (7 * P) R e (a, b) x)) (x := sOf (R a) (7 * P) ||| sOf (R b) (7 * P)) hL hJ.1.1 hJ.1.2.1 hJ.1.2.2.1 hJ.1.2.2.2 hn hlen
            have k2 := hJ.2.app (a, b) (f := fun x => nI (evRow (7 * P) R e (a, b) x)) (x := sOf (R a) (7 * P) ||| sOf (R b) (7 * P)) (fun _ _ => rfl) (sOf_or (7 * P) (fun i hi => evRow_ne ha hN hpos hnb hi)).symm hlen hnsT hLT.2.1
            refine as_aload_n d11_66 rfl ?_
            refine as_iload_n d11_67 rfl ?_
            refine as_iload_n d11_68 rfl ?_
            refine ac_v2 d11_69 c11_85 (by decide) rfl (Nat.le_of_ble_eq_true rfl) (mm) ?_
            refine an_iinc 1 d11_72 rfl rfl (by decide) ?_
            refine as_goto 31 d11_75 (by decide) ?_
            refine AW.loc [(0, .ref (43)), (1, .int (nI (a))), (2, .int (nI (b + 1)))] (am_pick [1, 2, 0] rfl rfl) ?_
            have ihb := ihb (layC U 44 109 (evA e (okR R P n) n a ++ evB e (okR R P n) a b).length (fun x => nI (evRow (7 * P) R e (a, b) x)) (sOf (R a) (7 * P) ||| sOf (R b) (7 * P))) (by first | (rw [hv]; exact hJ) | (rw [hv, ← List.append_assoc]; exact ⟨k1, k2⟩))
            exact ihb
      · refine as_iload_n d11_31 rfl ?_
        refine as_aload_n d11_32 rfl ?_
        refine ap_get d11_33 f11_62 (by decide) rfl rfl ?_
        refine an_top (e' := nI (n)) (hJX.1.2.2.1.2.1) ?_
        refine an_icmp_ge 78 d11_36 (by decide) (by omega) (by omega) (fun c36 => ?_) (fun c36 => by omega)
        refine an_iinc 1 d11_78 rfl rfl (by decide) ?_
        refine as_goto 7 d11_81 (by decide) ?_
        refine AW.loc [(0, .ref (43)), (1, .int (nI (a + 1)))] (am_pick [1, 0] rfl rfl) ?_
        have iha := iha (U) (by first | (rw [hv0]; exact hJX) | (rw [hv]; exact hI) | (rw [hv]; exact ⟨k1, k2⟩))
        exact iha
  · refine as_iload_n d11_7 rfl ?_
    refine as_aload_n d11_8 rfl ?_
    refine ap_get d11_9 f11_62 (by decide) rfl rfl ?_
    refine an_top (e' := nI (n)) (hX.1.2.2.1.2.1) ?_
    refine an_icmp_ge 84 d11_12 (by decide) (by omega) (by omega) (fun c12 => ?_) (fun c12 => by omega)
    have hfT : LCf T 111 176 44 109 := by unfold LCf; rw [hX.1.2.1]; exact hf
    have sw := mc_swapL111 X T _ hfT hX.2.1
    refine as_aload_n d11_84 rfl ?_
    refine ac_v0 d11_85 c11_89 (by decide) rfl (Nat.le_of_ble_eq_true rfl) (sw) ?_
    refine as_return d11_88 t11 ?_
    obtain ⟨⟨x1, x2, x3, x4⟩, x5⟩ := hX
    have y44 : ∀ i, (u2 (u2 (u2 (u2 T.2.2.2 43 2 44) 43 3 109) 43 6 111) 43 7 176) 44 i = S.2.2.2 44 i := fun i => by rw [u2_ne _ _ _ (by decide), u2_ne _ _ _ (by decide), u2_ne _ _ _ (by decide), u2_ne _ _ _ (by decide), x2]
    have y111 : ∀ i, (u2 (u2 (u2 (u2 T.2.2.2 43 2 44) 43 3 109) 43 6 111) 43 7 176) 111 i = S.2.2.2 111 i := fun i => by rw [u2_ne _ _ _ (by decide), u2_ne _ _ _ (by decide), u2_ne _ _ _ (by decide), u2_ne _ _ _ (by decide), x2]
    refine ⟨_, _, rfl, rfl, ⟨x1.1, x1.2.1, fun k a1 a2 a3 => ?_, fun i j a => ?_⟩, ?_, ?_, ?_, ?_, fun i hi j hj => ?_, fun i hi => ?_⟩
    · show (u2 (u2 (u2 (u2 T.2.2.2 43 2 44) 43 3 109) 43 6 111) 43 7 176) k = _
      rw [u2_ne _ _ _ a1, u2_ne _ _ _ a1, u2_ne _ _ _ a1, u2_ne _ _ _ a1]
      exact x1.2.2.1 k a1 a2 a3
    · show u2 T.1 43 1 (nI (meetL R P n e).length) i j = _
      rw [u2_at, if_neg (by omega)]
      exact x1.2.2.2 i j a
    · refine ⟨fun i hi => ?_, fun i j hi hj => ?_, fun i hi => ?_, fun i j hi hj => ?_⟩
      · show 45 ≤ (u2 (u2 (u2 (u2 T.2.2.2 43 2 44) 43 3 109) 43 6 111) 43 7 176) 44 i ∧ (u2 (u2 (u2 (u2 T.2.2.2 43 2 44) 43 3 109) 43 6 111) 43 7 176) 44 i < 109
        rw [y44]
        exact hL.1 i hi
      · show (u2 (u2 (u2 (u2 T.2.2.2 43 2 44) 43 3 109) 43 6 111) 43 7 176) 44 i = (u2 (u2 (u2 (u2 T.2.2.2 43 2 44) 43 3 109) 43 6 111) 43 7 176) 44 j → _
        rw [y44, y44]
        exact hL.2.1 i j hi hj
      · show 112 ≤ (u2 (u2 (u2 (u2 T.2.2.2 43 2 44) 43 3 109) 43 6 111) 43 7 176) 111 i ∧ (u2 (u2 (u2 (u2 T.2.2.2 43 2 44) 43 3 109) 43 6 111) 43 7 176) 111 i < 176
        rw [y111]
        exact hL.2.2.1 i hi
      · show (u2 (u2 (u2 (u2 T.2.2.2 43 2 44) 43 3 109) 43 6 111) 43 7 176) 111 i = (u2 (u2 (u2 (u2 T.2.2.2 43 2 44) 43 3 109) 43 6 111) 43 7 176) 111 j → _
        rw [y111, y111]
        exact hL.2.2.2 i j hi hj
    · refine ⟨?_, ?_, ?_, ?_⟩
      · show (u2 (u2 (u2 (u2 T.2.2.2 43 2 44) 43 3 109) 43 6 111) 43 7 176) 43 2 = _
        simp [u2_at]
      · show (u2 (u2 (u2 (u2 T.2.2.2 43 2 44) 43 3 109) 43 6 111) 43 7 176) 43 3 = _
        simp [u2_at]
      · show (u2 (u2 (u2 (u2 T.2.2.2 43 2 44) 43 3 109) 43 6 111) 43 7 176) 43 6 = _
        simp [u2_at]
      · show (u2 (u2 (u2 (u2 T.2.2.2 43 2 44) 43 3 109) 43 6 111) 43 7 176) 43 7 = _
        simp [u2_at]
    · show u2 T.1 43 1 (nI (meetL R P n e).length) 43 0 = _
      rw [u2_at, if_neg (by omega)]
      exact x3.1
    · show u2 T.1 43 1 (nI (meetL R P n e).length) 43 1 = _
      rw [u2_at, if_pos ⟨rfl, rfl⟩]
    · show T.2.1 ((u2 (u2 (u2 (u2 T.2.2.2 43 2 44) 43 3 109) 43 6 111) 43 7 176) 44 i) j = _
      rw [y44, ← x2]
      exact x5.2.1 i hi j hj
    · exact x5.2.2 i hi
