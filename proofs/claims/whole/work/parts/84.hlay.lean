/-! holes: the reference lays the loops -/
/-- the numbers below k that have f, in their order -/
def lps (f : Nat → Bool) : Nat → List Nat
  | 0 => []
  | k + 1 => lps f k ++ (if f k = true then [k] else [])
theorem lps_len (f : Nat → Bool) : ∀ k, (lps f k).length ≤ k
  | 0 => Nat.le_refl _
  | k + 1 => by
    have := lps_len f k
    show (lps f k ++ _).length ≤ _
    rw [List.length_append]
    split
    · show _ + 1 ≤ _
      omega
    · show _ + 0 ≤ _
      omega
theorem lps_t {f : Nat → Bool} {k : Nat} (h : f k = true) : lps f (k + 1) = lps f k ++ [k] := by
  show lps f k ++ _ = _
  rw [if_pos h]
theorem lps_f {f : Nat → Bool} {k : Nat} (h : ¬ f k = true) : lps f (k + 1) = lps f k := by
  show lps f k ++ _ = _
  rw [if_neg h, List.append_nil]
theorem lgD1 {l : List Nat} {q j : Nat} (h : j < l.length) : (l ++ [q]).getD j 0 = l.getD j 0 := by
  rw [List.getD_eq_getElem?_getD, List.getD_eq_getElem?_getD, List.getElem?_append_left h]
theorem lgD2 {l : List Nat} {q : Nat} : (l ++ [q]).getD l.length 0 = q := by
  rw [List.getD_eq_getElem?_getD, List.getElem?_append_right (Nat.le_refl _), Nat.sub_self]
  rfl
/-- which ways close -/
def clo (mt : Nat → Option Nat) (go : Nat → Nat) (n : Nat → Nat) (x : Nat → Nat → WS) (k : Nat) : Bool := decide (wst mt go (x k (n k)) = some (ws k))
/-- the table holds the loops of l -/
def TB (T : MS) (mt : Nat → Option Nat) (n : Nat → Nat) (x : Nat → Nat → WS) (m : Nat) (l : List Nat) : Prop := T.1 189 11 = nI l.length ∧ ∀ r, r < l.length → ∀ c, c < m → T.2.2.1 198 (6 * r + c) = Int64.ofInt (rwX mt (x (l.getD r 0)) (n (l.getD r 0) + 1) c)
theorem GRow.hk {S T : MS} {r m : Nat} {f : Nat → Int} (h : GRow S T r m f) : hKeep S T := ⟨fun k _ => by rw [h.2.1], fun k hk => funext fun j => h.2.2.2.1 k j (fun w => hk w.1), h.2.2.1, fun i j _ => by rw [h.1]⟩
theorem TB.junk {S T : MS} {mt : Nat → Option Nat} {n : Nat → Nat} {x : Nat → Nat → WS} {m m2 : Nat} {l : List Nat} {f : Nat → Int} (h : TB S mt n x m l) (hm : m ≤ 6) (g : GRow S T l.length m2 f) : TB T mt n x m l := by
  refine ⟨by rw [g.1]; exact h.1, fun r hr c hc => ?_⟩
  rw [g.2.2.2.1 198 _ (by omega)]
  exact h.2 r hr c hc
theorem TB.add {S T : MS} {mt : Nat → Option Nat} {n : Nat → Nat} {x : Nat → Nat → WS} {m : Nat} {l : List Nat} {k : Nat} (h : TB S mt n x m l) (hm : m ≤ 6) (g : GRow S T l.length m (rwX mt (x k) (n k + 1))) : TB (T.sf 189 11 (nI (l.length + 1))) mt n x m (l ++ [k]) := by
  have hl : (l ++ [k]).length = l.length + 1 := by rw [List.length_append]; rfl
  refine ⟨by rw [sf_at, if_pos ⟨rfl, rfl⟩, hl], fun r hr c hc => ?_⟩
  rw [hl] at hr
  show T.2.2.1 198 (6 * r + c) = _
  by_cases e : r = l.length
  · subst e
    rw [lgD2]
    exact g.2.2.2.2 c hc
  · rw [lgD1 (by omega), g.2.2.2.1 198 _ (by omega)]
    exact h.2 r (by omega) c hc
theorem LN.hk {S T : MS} (h : LN S) (g : hKeep S T) : LN T := by
  unfold LN lb cb sb at *
  rw [g.1 195 (by decide), g.1 196 (by decide), g.1 197 (by decide)]
  exact h
theorem eL_hk {S T : MS} (g : hKeep S T) (k : Nat) : eL T k = eL S k := by
  unfold eL lb
  rw [g.1 195 (by decide)]
theorem mx_layLoops (X : am_X) (S : MS) (P : Nat) (mt : Nat → Option Nat) (go : Nat → Nat) (hG : GW P mt go) (hR : RG S P mt go) (hL : LN S) (n : Nat → Nat) (x : Nat → Nat → WS) (hx : ∀ k, k < 6 * P → WX mt go k (n k) (x k)) : ∃ T, MC X 144 [.ref (189)] S none T ∧ hKeep S T ∧ T.1 189 12 = nI (cnt (prN mt) (4 * P)) ∧ TB T mt n x (cnt (prN mt) (4 * P)) (lps (fun k => decide (eL S k = k) && clo mt go n x k) (6 * P)) := by
  have hP := hG.1
  have hm := prs_6 hG
  obtain ⟨T0, a1, a2, a3, a4⟩ := mx_findPairs X S P mt go hG hR
  have key := MX.mc (X := X) (mj := 144) (as := [.ref (189)]) (S := S) (Post := fun v T => v = none ∧ hKeep S T ∧ T.1 189 12 = nI (cnt (prN mt) (4 * P)) ∧ TB T mt n x (cnt (prN mt) (4 * P)) (lps (fun k => decide (eL S k = k) && clo mt go n x k) (6 * P))) ?_
  · obtain ⟨v, T, g1, g2, g3⟩ := key
    subst g2
    exact ⟨T, g1, g3⟩
  refine MX.of (Nat.le_of_ble_eq_true rfl) ?_
  refine as_aload_n d144_0 rfl ?_
  refine ac_v0 d144_1 c144_167 (by decide) rfl (Nat.le_of_ble_eq_true rfl) (a1) ?_
  refine as_aload_n d144_4 rfl ?_
  refine an_iconst 0 d144_5 rfl ?_
  refine ap_put d144_6 f144_162 (by decide) rfl (Nat.le_of_ble_eq_true rfl) (rfl) rfl rfl ?_
  refine an_iconst 0 d144_9 rfl ?_
  refine as_istore_n d144_10 (by decide) ?_
  refine AW.loc [(0, .ref (189)), (1, .int (nI (0)))] (am_pick [1, 0] rfl rfl) ?_
  refine aw_fromE (fun k T => ((11, [(0, .ref (189)), (1, .int (nI (k)))], [], 208, HP (T), 0, 0) : am_Z)) (fun k T => hKeep S T ∧ T.1 189 12 = nI (cnt (prN mt) (4 * P)) ∧ PO mt (T.2.1 199) P (4 * P) ∧ TB T mt n x (cnt (prN mt) (4 * P)) (lps (fun k => decide (eL S k = k) && clo mt go n x k) (k))) (0) (6 * P) (by omega) ((T0).sf 189 11 (nI (0))) (rfl) (⟨a2.sf (Or.inl rfl) _, by rw [sf_at, if_neg (by omega)]; exact a3, a4, by rw [sf_at, if_pos ⟨rfl, rfl⟩]; rfl, fun r hr => absurd hr (Nat.not_lt_zero _)⟩) (fun k T hk0 hk hI ihk => ?_) (fun T hX => ?_)
  · have hRT := hR.hk hI.1
    have hLT := hL.hk hI.1
    have hle := lps_len (fun k => decide (eL S k = k) && clo mt go n x k) k
    have he := eL_hk hI.1 k
    refine as_iload_n d144_11 rfl ?_
    refine an_bipush 6 d144_12 rfl ?_
    refine as_aload_n d144_14 rfl ?_
    refine ap_get d144_15 f144_67 (by decide) rfl rfl ?_
    refine an_top (e' := nI (P)) (hRT.1) ?_
    refine an_imul d144_18 ?_
    refine an_icmp_ge 54 d144_19 (by decide) (by omega) (by omega) (fun c19 => by omega) (fun c19 => ?_)
    refine as_aload_n d144_22 rfl ?_
    refine as_iload_n d144_23 rfl ?_
    refine ac_v1 d144_24 c144_105 (by decide) rfl (Nat.le_of_ble_eq_true rfl) (mc_isFirstEdge X _ _ (by omega) hLT) ?_
    refine as_if_eq 48 d144_27 (by decide) (fun c27 => ?_) (fun c27 => ?_)
    · have hno : ¬ (fun k => decide (eL S k = k) && clo mt go n x k) k = true := fun g => am_b01.mp c27 (by rw [he]; exact of_decide_eq_true (Bool.and_eq_true_iff.mp g).1)
      refine an_iinc 1 d144_48 rfl rfl (by decide) ?_
      refine as_goto 11 d144_51 (by decide) ?_
      refine AW.loc [(0, .ref (189)), (1, .int (nI (k + 1)))] (am_pick [1, 0] rfl rfl) ?_
      have ihk := ihk (T) (by first | exact ⟨hI.1, hI.2.1, hI.2.2.1, by rw [lps_f hno]; exact hI.2.2.2⟩ | exact ⟨hI.1.trans m4.hk, by rw [m4.1]; exact hI.2.1, by rw [m4.2.1]; exact hI.2.2.1, by rw [lps_f hno]; exact hI.2.2.2.junk hm m4⟩ | exact ⟨(hI.1.trans m4.hk).sf (Or.inl rfl) _, by rw [sf_at, if_neg (by omega), m4.1]; exact hI.2.1, by show PO mt (U.2.1 199) P (4 * P); rw [m4.2.1]; exact hI.2.2.1, by rw [lps_t hye]; exact hI.2.2.2.add hm m4⟩)
      exact ihk
    · have hfi : eL S k = k := by rw [← he]; exact am_b1 c27
      obtain ⟨v, U, m1, m2⟩ := mx_goAround X T P mt go hG hRT (lps (fun k => decide (eL S k = k) && clo mt go n x k) k).length (by omega) hI.2.2.2.1 hm hI.2.1 hI.2.2.1 k (n k) hk (x k) (hx k hk)
      rcases m2 with ⟨rfl, m3, f, m4⟩ | ⟨rfl, m3, m4⟩
      · have hno : ¬ (fun k => decide (eL S k = k) && clo mt go n x k) k = true := fun g => by
          have g2 := of_decide_eq_true (Bool.and_eq_true_iff.mp g).2
          rw [wst_n m3] at g2
          cases g2
        refine as_aload_n d144_30 rfl ?_
        refine as_iload_n d144_31 rfl ?_
        refine ac_v1 d144_32 c144_170 (by decide) rfl (Nat.le_of_ble_eq_true rfl) (m1) ?_
        refine an_if_eq 48 d144_35 (by decide) (by omega) (fun c35 => ?_) (fun c35 => absurd c35 (by decide))
        refine an_iinc 1 d144_48 rfl rfl (by decide) ?_
        refine as_goto 11 d144_51 (by decide) ?_
        refine AW.loc [(0, .ref (189)), (1, .int (nI (k + 1)))] (am_pick [1, 0] rfl rfl) ?_
        have ihk := ihk (U) (by first | exact ⟨hI.1, hI.2.1, hI.2.2.1, by rw [lps_f hno]; exact hI.2.2.2⟩ | exact ⟨hI.1.trans m4.hk, by rw [m4.1]; exact hI.2.1, by rw [m4.2.1]; exact hI.2.2.1, by rw [lps_f hno]; exact hI.2.2.2.junk hm m4⟩ | exact ⟨(hI.1.trans m4.hk).sf (Or.inl rfl) _, by rw [sf_at, if_neg (by omega), m4.1]; exact hI.2.1, by show PO mt (U.2.1 199) P (4 * P); rw [m4.2.1]; exact hI.2.2.1, by rw [lps_t hye]; exact hI.2.2.2.add hm m4⟩)
        exact ihk
      · have hye : (fun k => decide (eL S k = k) && clo mt go n x k) k = true := Bool.and_eq_true_iff.mpr ⟨decide_eq_true hfi, decide_eq_true m3⟩
        have hU : U.1 189 11 = nI (lps (fun k => decide (eL S k = k) && clo mt go n x k) k).length := by rw [m4.1]; exact hI.2.2.2.1
        refine as_aload_n d144_30 rfl ?_
        refine as_iload_n d144_31 rfl ?_
        refine ac_v1 d144_32 c144_170 (by decide) rfl (Nat.le_of_ble_eq_true rfl) (m1) ?_
        refine an_if_eq 48 d144_35 (by decide) (by omega) (fun c35 => absurd c35 (by decide)) (fun c35 => ?_)
        refine as_aload_n d144_38 rfl ?_
        refine as_dup d144_39 rfl ?_
        refine ap_get d144_40 f144_162 (by decide) rfl rfl ?_
        refine an_top (e' := nI ((lps (fun k => decide (eL S k = k) && clo mt go n x k) k).length)) (hU) ?_
        refine an_iconst 1 d144_43 rfl ?_
        refine an_iadd d144_44 ?_
        refine ap_put d144_45 f144_162 (by decide) rfl (Nat.le_of_ble_eq_true rfl) (rfl) rfl rfl ?_
        refine an_iinc 1 d144_48 rfl rfl (by decide) ?_
        refine as_goto 11 d144_51 (by decide) ?_
        refine AW.loc [(0, .ref (189)), (1, .int (nI (k + 1)))] (am_pick [1, 0] rfl rfl) ?_
        have ihk := ihk ((U).sf 189 11 (nI (((lps (fun k => decide (eL S k = k) && clo mt go n x k) k).length) + (1)))) (by first | exact ⟨hI.1, hI.2.1, hI.2.2.1, by rw [lps_f hno]; exact hI.2.2.2⟩ | exact ⟨hI.1.trans m4.hk, by rw [m4.1]; exact hI.2.1, by rw [m4.2.1]; exact hI.2.2.1, by rw [lps_f hno]; exact hI.2.2.2.junk hm m4⟩ | exact ⟨(hI.1.trans m4.hk).sf (Or.inl rfl) _, by rw [sf_at, if_neg (by omega), m4.1]; exact hI.2.1, by show PO mt (U.2.1 199) P (4 * P); rw [m4.2.1]; exact hI.2.2.1, by rw [lps_t hye]; exact hI.2.2.2.add hm m4⟩)
        exact ihk
  · refine as_iload_n d144_11 rfl ?_
    refine an_bipush 6 d144_12 rfl ?_
    refine as_aload_n d144_14 rfl ?_
    refine ap_get d144_15 f144_67 (by decide) rfl rfl ?_
    refine an_top (e' := nI (P)) ((hR.hk hX.1).1) ?_
    refine an_imul d144_18 ?_
    refine an_icmp_ge 54 d144_19 (by decide) (by omega) (by omega) (fun c19 => ?_) (fun c19 => by omega)
    refine as_return d144_54 t144 ?_
    exact ⟨_, _, rfl, rfl, hX.1, hX.2.1, hX.2.2.2⟩
