/-! the reference: label() -/
/-- from a call with some answer to the answer -/
theorem AV.mc {X : am_X} {mj : Nat} {as : List Value} {S : MS} {R : Option Value → MS → Prop} (h : AV X mj as 208 (HP S) (fun r => ∃ v T, r = (v, 208, HP T, 0, 0) ∧ R v T)) : ∃ v T, MC X mj as S v T ∧ R v T := by
  obtain ⟨N, r, h1, v, T, rfl, h2⟩ := h
  exact ⟨v, T, ⟨N, _, h1, rfl⟩, h2⟩
/-- gluings: how many pieces, the mate of a side, where a corner goes -/
def mI : Option Nat → Int32
  | none => -1
  | some t => nI t
def GW (P : Nat) (mt : Nat → Option Nat) (go : Nat → Nat) : Prop := P ≤ 3 ∧ ∀ s, s < 4 * P → ∀ t, mt s = some t → t < 4 * P ∧ t ≠ s ∧ mt t = some s ∧ (∀ c, c < 4 → go (4 * s + c) < 4 ∧ go (4 * t + go (4 * s + c)) = c) ∧ go (4 * s + s % 4) = t % 4
def RG (S : MS) (P : Nat) (mt : Nat → Option Nat) (go : Nat → Nat) : Prop := S.1 189 0 = nI P ∧ (∀ s, s < 4 * P → S.2.1 190 s = mI (mt s)) ∧ ∀ s t c, s < 4 * P → mt s = some t → c < 4 → S.2.1 191 (4 * s + c) = nI (go (4 * s + c))
theorem GW.inj {P : Nat} {mt : Nat → Option Nat} {go : Nat → Nat} (h : GW P mt go) {s t : Nat} (hs : s < 4 * P) (ht : mt s = some t) {c d : Nat} (hc : c < 4) (hd : d < 4) (e : go (4 * s + c) = go (4 * s + d)) : c = d := by
  have h1 := (h.2 s hs t ht).2.2.2.1
  have := (h1 c hc).2
  rw [e, (h1 d hd).2] at this
  exact this.symm
theorem mI_ne {t : Nat} (h : t < 100) : nI t ≠ -1 := by
  intro e
  have h1 := congrArg Int32.toInt e
  rw [nI_toInt (by omega)] at h1
  have : (-1 : Int32).toInt = -1 := by decide
  omega
theorem mI_none {x : Option Nat} (h : ∀ t, x = some t → t < 100) : mI x = -1 ↔ x = none := by
  cases x with
  | none => exact ⟨fun _ => rfl, fun _ => rfl⟩
  | some t => exact ⟨fun e => absurd e (mI_ne (h t rfl)), fun e => by cases e⟩
theorem RG.keep {S T : MS} {P : Nat} {mt : Nat → Option Nat} {go : Nat → Nat} (h : RG S P mt go) (k : rKeep S T) : RG T P mt go :=
  ⟨(k.2.2 189 0 (by decide)).trans h.1, fun s hs => by rw [k.1 190 (by decide) (by decide) (by decide)]; exact h.2.1 s hs, fun s t c hs ht hc => by rw [k.1 191 (by decide) (by decide) (by decide)]; exact h.2.2 s t c hs ht hc⟩
def opsB (s t : Nat) (go : Nat → Nat) (a n : Nat) : List rOp := ((List.range n).filter (fun b => !(decide (b = a ∨ b = s % 4)))).map (fun b => (195, endI (s / 4) a b, endI (t / 4) (go (4 * s + a)) (go (4 * s + b))))
def opsA (s t : Nat) (go : Nat → Nat) (n : Nat) : List rOp := (197, s / 4, t / 4) :: ((List.range n).filter (fun a => !(decide (a = s % 4)))).flatMap (fun a => (196, 4 * (s / 4) + a, 4 * (t / 4) + go (4 * s + a)) :: opsB s t go a 4)
def opsP (mt : Nat → Option Nat) (go : Nat → Nat) (n : Nat) : List rOp := (List.range n).flatMap (fun s => match mt s with | none => [] | some t => opsA s t go 4)
theorem jsB_ops (T : MS) (s t a : Nat) (go : Nat → Nat) : ∀ n, jsB T s t a go n = rjs T (opsB s t go a n)
  | 0 => rfl
  | n + 1 => by
    rw [jsB_s, jsB_ops T s t a go n]
    unfold opsB
    rw [List.range_succ, List.filter_append, List.map_append, rjs_app]
    by_cases h : n = a ∨ n = s % 4
    · rw [if_pos h, List.filter_cons, decide_eq_true h]
      rfl
    · rw [if_neg h, List.filter_cons, decide_eq_false h]
      rfl
theorem jsA_ops (S : MS) (s t : Nat) (go : Nat → Nat) : ∀ n, jsA S s t go n = rjs S (opsA s t go n)
  | 0 => rfl
  | n + 1 => by
    rw [jsA_s, jsA_ops S s t go n]
    unfold opsA
    rw [List.range_succ, List.filter_append, List.flatMap_append, ← List.cons_append, rjs_app]
    by_cases h : n = s % 4
    · rw [if_pos h, List.filter_cons, decide_eq_true h]
      rfl
    · rw [if_neg h, List.filter_cons, decide_eq_false h, jsB_ops]
      simp only [Bool.not_false, if_true, List.filter_nil, List.flatMap_cons, List.flatMap_nil, List.append_nil, rjs_cons]
      rfl
theorem opsP_s (mt : Nat → Option Nat) (go : Nat → Nat) (n : Nat) : opsP mt go (n + 1) = opsP mt go n ++ (match mt n with | none => [] | some t => opsA n t go 4) := by
  unfold opsP
  rw [List.range_succ, List.flatMap_append]
  simp
theorem opsA_ok {s t : Nat} {go : Nat → Nat} (hs : s < 12) (ht : t < 12) (hgo : ∀ c, c < 4 → go (4 * s + c) < 4) : ∀ q ∈ opsA s t go 4, rOkOp q := by
  intro q hq
  unfold opsA at hq
  rcases List.mem_cons.mp hq with rfl | hq
  · exact ⟨Or.inr (Or.inr rfl), by show s / 4 < 3; omega, by show t / 4 < 3; omega⟩
  · obtain ⟨a, ha, hq⟩ := List.mem_flatMap.mp hq
    have ha := List.mem_range.mp (List.mem_filter.mp ha).1
    have hga := hgo a ha
    rcases List.mem_cons.mp hq with rfl | hq
    · exact ⟨Or.inr (Or.inl rfl), by show 4 * (s / 4) + a < 12; omega, by show 4 * (t / 4) + go (4 * s + a) < 12; omega⟩
    · unfold opsB at hq
      obtain ⟨b, hb, rfl⟩ := List.mem_map.mp hq
      have hb := List.mem_range.mp (List.mem_filter.mp hb).1
      exact ⟨Or.inl rfl, endI_lt (by omega) ha hb, endI_lt (by omega) hga (hgo b hb)⟩
theorem opsP_ok {P : Nat} {mt : Nat → Option Nat} {go : Nat → Nat} (h : GW P mt go) : ∀ n, n ≤ 4 * P → ∀ q ∈ opsP mt go n, rOkOp q := by
  intro n hn q hq
  unfold opsP at hq
  obtain ⟨s, hs, hq⟩ := List.mem_flatMap.mp hq
  have hs := List.mem_range.mp hs
  cases e : mt s with
  | none => rw [e] at hq; exact absurd hq List.not_mem_nil
  | some t =>
    rw [e] at hq
    obtain ⟨h1, h2, h3, h4, h5⟩ := h.2 s (by omega) t e
    have := h.1
    exact opsA_ok (by omega) (by omega) (fun c hc => (h4 c hc).1) q hq
/-- a row that begins as its own places -/
def iRow (S : MS) (A : Nat) : Nat → MS
  | 0 => S
  | i + 1 => (iRow S A i).sa A i (nI i)
theorem iRow_0 (S : MS) (A : Nat) : iRow S A 0 = S := rfl
theorem iRow_s (S : MS) (A i : Nat) : iRow S A (i + 1) = (iRow S A i).sa A i (nI i) := rfl
theorem iRow_ne (S : MS) (A k : Nat) (h : k ≠ A) : ∀ n, (iRow S A n).2.1 k = S.2.1 k
  | 0 => rfl
  | n + 1 => by
    rw [iRow_s]
    show u2 (iRow S A n).2.1 A n _ k = _
    rw [u2_ne _ _ _ h, iRow_ne S A k h n]
theorem iRow_at (S : MS) (A : Nat) : ∀ n k, k < n → (iRow S A n).2.1 A k = nI k
  | 0, k, h => by omega
  | n + 1, k, h => by
    rw [iRow_s]
    show u2 (iRow S A n).2.1 A n _ A k = _
    rw [u2_at]
    by_cases e : k = n
    · rw [if_pos ⟨rfl, e⟩, e]
    · rw [if_neg (fun q => e q.2), iRow_at S A n k (by omega)]
theorem iRow_fi (S : MS) (A : Nat) : ∀ n, (iRow S A n).1 = S.1 ∧ (iRow S A n).2.2 = S.2.2
  | 0 => ⟨rfl, rfl⟩
  | n + 1 => iRow_fi S A n
def lab0 (S : MS) : MS := (iRow (iRow (iRow S 195 36) 196 12) 197 3)
theorem lab0_keep (S : MS) (x : Int32) : rKeep S ((lab0 S).sf 189 9 x) := by
  refine ⟨fun k h1 h2 h3 => ?_, ?_, fun i j hij => ?_⟩
  · show (lab0 S).2.1 k = _
    unfold lab0
    rw [iRow_ne _ _ _ h3, iRow_ne _ _ _ h2, iRow_ne _ _ _ h1]
  · show (lab0 S).2.2 = _
    unfold lab0
    rw [(iRow_fi _ _ _).2, (iRow_fi _ _ _).2, (iRow_fi _ _ _).2]
  · show u2 (lab0 S).1 189 9 x i j = _
    rw [u2_at, if_neg hij]
    unfold lab0
    rw [(iRow_fi _ _ _).1, (iRow_fi _ _ _).1, (iRow_fi _ _ _).1]
theorem lab0_at (S : MS) {A k : Nat} (hA : A = 195 ∨ A = 196 ∨ A = 197) (hk : k < rLen A) : (lab0 S).2.1 A k = nI k := by
  unfold lab0
  rcases hA with rfl | rfl | rfl
  · rw [iRow_ne _ _ _ (by decide), iRow_ne _ _ _ (by decide)]
    exact iRow_at S 195 36 k hk
  · rw [iRow_ne _ _ _ (by decide)]
    exact iRow_at _ 196 12 k hk
  · exact iRow_at _ 197 3 k hk
/-- what label() leaves -/
def LabS (T : MS) (P : Nat) (mt : Nat → Option Nat) (go : Nat → Nat) : Prop := Lab (T.2.1 195) (prsOf 195 (opsP mt go (4 * P))) 36 ∧ Lab (T.2.1 196) (prsOf 196 (opsP mt go (4 * P))) 12 ∧ Lab (T.2.1 197) (prsOf 197 (opsP mt go (4 * P))) 3
def labInv (S : MS) (ops : List rOp) (T : MS) : Prop := rKeep S T ∧ rNum T ∧ (∀ A, (A = 195 ∨ A = 196 ∨ A = 197) → LabI (T.2.1 A) (prsOf A ops) (rLen A)) ∧ (T.1 189 9 = 0 ∨ T.1 189 9 = 1) ∧ (T.1 189 9 = 0 → ∀ q ∈ ops, T.2.1 q.1 q.2.1 = T.2.1 q.1 q.2.2)
theorem labInv_end {S T : MS} {P : Nat} {mt : Nat → Option Nat} {go : Nat → Nat} (h : labInv S (opsP mt go (4 * P)) T) (h0 : T.1 189 9 = 0) : LabS T P mt go :=
  ⟨⟨h.2.2.1 195 (Or.inl rfl), fun q hq => h.2.2.2.2 h0 (195, q) (mem_prsOf.mp hq)⟩, ⟨h.2.2.1 196 (Or.inr (Or.inl rfl)), fun q hq => h.2.2.2.2 h0 (196, q) (mem_prsOf.mp hq)⟩, ⟨h.2.2.1 197 (Or.inr (Or.inr rfl)), fun q hq => h.2.2.2.2 h0 (197, q) (mem_prsOf.mp hq)⟩⟩
theorem rKeep.sf {S T : MS} (h : rKeep S T) (x : Int32) : rKeep S (T.sf 189 9 x) := ⟨h.1, h.2.1, fun i j hij => by
  show u2 T.1 189 9 x i j = _
  rw [u2_at, if_neg hij]
  exact h.2.2 i j hij⟩
theorem rj_more01 (S : MS) (q : rOp) (h : S.1 189 9 = 0 ∨ S.1 189 9 = 1) : (rj S q).1 189 9 = 0 ∨ (rj S q).1 189 9 = 1 := by
  unfold rj
  rw [rjoin_more]
  split
  · exact Or.inl rfl
  · exact Or.inr rfl
theorem rjs_more01 : ∀ (l : List rOp) (S : MS), (S.1 189 9 = 0 ∨ S.1 189 9 = 1) → (rjs S l).1 189 9 = 0 ∨ (rjs S l).1 189 9 = 1
  | [], _, h => h
  | q :: l, S, h => rjs_more01 l (rj S q) (rj_more01 S q h)
theorem labInv_pass {S T : MS} {ops : List rOp} (h : labInv S ops T) (hok : ∀ q ∈ ops, rOkOp q) : labInv S ops (rjs (T.sf 189 9 0) ops) := by
  have k1 := h.1.sf 0
  refine ⟨rjs_keep S _ k1 ops _ k1 (fun q hq => (hok q hq).1), rjs_num ops _ h.2.1 hok, fun A hA => ?_, ?_, fun h0 => ?_⟩
  · refine rjs_LabI (by unfold rLen; split <;> (try split) <;> decide) ops _ (h.2.2.1 A hA) (fun q hq e => ?_)
    subst e
    exact ⟨mem_prsOf.mpr hq, (hok q hq).2.1, (hok q hq).2.2⟩
  · exact rjs_more01 ops _ (Or.inl (by show u2 T.1 189 9 0 189 9 = 0; rw [u2_at]; exact if_pos ⟨rfl, rfl⟩))
  · obtain ⟨-, h2, h3⟩ := rjs_more0 ops _ h0
    intro q hq
    rw [h3]
    exact h2 q hq

theorem label_body (X : am_X) (S T : MS) (P : Nat) (mt : Nat → Option Nat) (go : Nat → Nat) (hG : GW P mt go) (hR : RG S P mt go) (hT : labInv S (opsP mt go (4 * P)) T) (hrec : ∀ T' : MS, labInv S (opsP mt go (4 * P)) T' → 2 * rMu T' + (T'.1 189 9).toNatClampNeg < 2 * rMu T + (T.1 189 9).toNatClampNeg → AW X 116 (67, [(0, .ref 189)], [], 208, HP T', 0, 0) (fun r => ∃ v T, r = (v, 208, HP T, 0, 0) ∧ (v = none ∧ rKeep S T ∧ LabS T P mt go))) : AW X 116 (67, [(0, .ref 189)], [], 208, HP T, 0, 0) (fun r => ∃ v T, r = (v, 208, HP T, 0, 0) ∧ (v = none ∧ rKeep S T ∧ LabS T P mt go)) := by
  have hok := opsP_ok hG (4 * P) (Nat.le_refl _)
  have hP := hG.1
  have hkp : ∀ n, n ≤ 4 * P → rKeep S (rjs (T.sf 189 9 0) (opsP mt go n)) := fun n hn => rjs_keep S _ (hT.1.sf 0) _ _ (hT.1.sf 0) (fun q hq => (opsP_ok hG n hn q hq).1)
  refine as_aload_n d116_67 rfl ?_
  refine ap_get d116_68 f116_86 (by decide) rfl rfl ?_
  refine as_if_eq 115 d116_71 (by decide) (fun c0 => ?_) (fun c0 => ?_)
  · refine as_return d116_115 t116 ?_
    exact ⟨none, T, rfl, rfl, hT.1, labInv_end hT c0⟩
  · refine as_aload_n d116_74 rfl ?_
    refine an_iconst 0 d116_75 rfl ?_
    refine ap_put d116_76 f116_86 (by decide) rfl (Nat.le_of_ble_eq_true rfl) (rfl) rfl rfl ?_
    refine an_iconst 0 d116_79 rfl ?_
    refine as_istore_n d116_80 (by decide) ?_
    refine AW.loc [(0, .ref (189)), (1, .int (nI (0)))] (am_pick [1, 0] rfl rfl) ?_
    refine aw_for (fun i => ((81, [(0, .ref (189)), (1, .int (nI (i)))], [], 208, HP (rjs (T.sf 189 9 0) (opsP mt go (i))), 0, 0) : am_Z)) (4 * P) (rfl) (fun i hi ih => ?_) ?_
    · have hRi := hR.keep (hkp i (by omega))
      have hmi := hRi.2.1 i hi
      refine as_iload_n d116_81 rfl ?_
      refine an_iconst 4 d116_82 rfl ?_
      refine as_aload_n d116_83 rfl ?_
      refine ap_get d116_84 f116_67 (by decide) rfl rfl ?_
      refine an_top (e' := nI (P)) (hRi.1) ?_
      refine an_imul d116_87 ?_
      refine an_icmp_ge 112 d116_88 (by decide) (by omega) (by omega) (fun c2 => by omega) (fun c2 => ?_)
      refine as_aload_n d116_91 rfl ?_
      refine ap_get d116_92 f116_7 (by decide) rfl rfl ?_
      refine as_iload_n d116_95 rfl ?_
      refine ap_iald d116_96 (fun _ _ _ _ => rfl) (by decide) (by omega) (by decide) ?_
      refine an_iconstI (-1) d116_97 rfl ?_
      refine as_icmp_eq 106 d116_98 (by decide) (fun c1 => ?_) (fun c1 => ?_)
      · have e0 : mt i = none := (mI_none (fun t e => by have := (hG.2 i hi t e).1; omega)).mp (hmi.symm.trans c1)
        refine an_iinc 1 d116_106 rfl rfl (by decide) ?_
        refine as_goto 81 d116_109 (by decide) ?_
        refine AW.loc [(0, .ref (189)), (1, .int (nI (i + 1)))] (am_pick [1, 0] rfl rfl) ?_
        refine an_mem (congrArg HP (show _ = rjs (T.sf 189 9 0) (opsP mt go (i + 1)) from ?_)) ih
        rw [opsP_s, rjs_app]
        first | (rw [e0]; rfl) | (rw [e0, jsA_ops])
      · obtain ⟨t, e0⟩ : ∃ t, mt i = some t := by
          cases e : mt i with
          | none => rw [e] at hmi; exact absurd hmi c1
          | some t => exact ⟨t, rfl⟩
        obtain ⟨g1, g2, g3, g4, g5⟩ := hG.2 i hi t e0
        refine as_aload_n d116_101 rfl ?_
        refine as_iload_n d116_102 rfl ?_
        refine ac_v1 d116_103 c116_90 (by decide) rfl (Nat.le_of_ble_eq_true rfl) (mc_joinSide X _ i t go (by omega) (by omega) (by rw [hmi, e0]; rfl) (fun c hc => ⟨hRi.2.2 i t c hi e0 hc, (g4 c hc).1⟩) (fun c d hc hd e => hG.inj hi e0 hc hd e)) ?_
        refine an_iinc 1 d116_106 rfl rfl (by decide) ?_
        refine as_goto 81 d116_109 (by decide) ?_
        refine AW.loc [(0, .ref (189)), (1, .int (nI (i + 1)))] (am_pick [1, 0] rfl rfl) ?_
        refine an_mem (congrArg HP (show _ = rjs (T.sf 189 9 0) (opsP mt go (i + 1)) from ?_)) ih
        rw [opsP_s, rjs_app]
        first | (rw [e0]; rfl) | (rw [e0, jsA_ops])
    · refine as_iload_n d116_81 rfl ?_
      refine an_iconst 4 d116_82 rfl ?_
      refine as_aload_n d116_83 rfl ?_
      refine ap_get d116_84 f116_67 (by decide) rfl rfl ?_
      refine an_top (e' := nI (P)) ((hR.keep (hkp (4 * P) (Nat.le_refl _))).1) ?_
      refine an_imul d116_87 ?_
      refine an_icmp_ge 112 d116_88 (by decide) (by omega) (by omega) (fun c4 => ?_) (fun c4 => by omega)
      refine as_goto 67 d116_112 (by decide) ?_
      refine AW.loc [(0, .ref (189))] (am_pick [0] rfl rfl) ?_
      have hI := labInv_pass hT hok
      refine hrec _ hI ?_
      have hnz : T.1 189 9 = 1 := hT.2.2.2.1.resolve_left c0
      have hmu := rjs_mu (opsP mt go (4 * P)) (T.sf 189 9 0) hT.2.1 hok
      have hz : (T.sf 189 9 0).1 189 9 = 0 := by show u2 T.1 189 9 0 189 9 = 0; rw [u2_at]; exact if_pos ⟨rfl, rfl⟩
      have hm2 : rMu (T.sf 189 9 0) = rMu T := rfl
      rw [hnz]
      rcases hI.2.2.2.1 with h0 | h1
      · rw [h0]
        have := hmu.1
        have e1 : (0 : Int32).toNatClampNeg = 0 := by decide
        have e2 : (1 : Int32).toNatClampNeg = 1 := by decide
        omega
      · rw [h1]
        have := hmu.2 hz (by rw [h1]; decide)
        omega
theorem mc_label (X : am_X) (S : MS) (P : Nat) (mt : Nat → Option Nat) (go : Nat → Nat) (hG : GW P mt go) (hR : RG S P mt go) : ∃ T, MC X 116 [.ref 189] S none T ∧ rKeep S T ∧ LabS T P mt go := by
  have hok := opsP_ok hG (4 * P) (Nat.le_refl _)
  have hP := hG.1
  suffices hh : AV X 116 [.ref 189] 208 (HP S) (fun r => ∃ v T, r = (v, 208, HP T, 0, 0) ∧ (v = none ∧ rKeep S T ∧ LabS T P mt go)) by
    obtain ⟨v, T, h1, rfl, h2⟩ := AV.mc hh
    exact ⟨T, h1, h2⟩
  refine AV.of (Nat.le_of_ble_eq_true rfl) ?_
  refine an_iconst 0 d116_0 rfl ?_
  refine as_istore_n d116_1 (by decide) ?_
  refine AW.loc [(0, .ref (189)), (1, .int (nI (0)))] (am_pick [1, 0] rfl rfl) ?_
  refine aw_for (fun i => ((2, [(0, .ref (189)), (1, .int (nI (i)))], [], 208, HP (iRow S 195 (i)), 0, 0) : am_Z)) (36) (by simp only [iRow_0]) (fun i hi ih => ?_) ?_
  · refine as_iload_n d116_2 rfl ?_
    refine an_bipush 36 d116_3 rfl ?_
    refine an_icmp_ge 21 d116_5 (by decide) (by omega) (by omega) (fun c1 => by omega) (fun c1 => ?_)
    refine as_aload_n d116_8 rfl ?_
    refine ap_get d116_9 f116_25 (by decide) rfl rfl ?_
    refine as_iload_n d116_12 rfl ?_
    refine as_iload_n d116_13 rfl ?_
    refine ap_iast d116_14 (fun _ _ _ _ => rfl) (by decide) (by omega) (by decide) ?_
    refine an_iinc 1 d116_15 rfl rfl (by decide) ?_
    refine as_goto 2 d116_18 (by decide) ?_
    refine AW.loc [(0, .ref (189)), (1, .int (nI (i + 1)))] (am_pick [1, 0] rfl rfl) ?_
    exact ih
  · refine as_iload_n d116_2 rfl ?_
    refine an_bipush 36 d116_3 rfl ?_
    refine an_icmp_ge 21 d116_5 (by decide) (by omega) (by omega) (fun c2 => ?_) (fun c2 => by omega)
    refine an_iconst 0 d116_21 rfl ?_
    refine as_istore_n d116_22 (by decide) ?_
    refine AW.loc [(0, .ref (189)), (1, .int (nI (0)))] (am_pick [1, 0] rfl rfl) ?_
    refine aw_for (fun i => ((23, [(0, .ref (189)), (1, .int (nI (i)))], [], 208, HP (iRow (iRow S 195 36) 196 (i)), 0, 0) : am_Z)) (12) (by simp only [iRow_0]) (fun i hi ih => ?_) ?_
    · refine as_iload_n d116_23 rfl ?_
      refine an_bipush 12 d116_24 rfl ?_
      refine an_icmp_ge 42 d116_26 (by decide) (by omega) (by omega) (fun c3 => by omega) (fun c3 => ?_)
      refine as_aload_n d116_29 rfl ?_
      refine ap_get d116_30 f116_28 (by decide) rfl rfl ?_
      refine as_iload_n d116_33 rfl ?_
      refine as_iload_n d116_34 rfl ?_
      refine ap_iast d116_35 (fun _ _ _ _ => rfl) (by decide) (by omega) (by decide) ?_
      refine an_iinc 1 d116_36 rfl rfl (by decide) ?_
      refine as_goto 23 d116_39 (by decide) ?_
      refine AW.loc [(0, .ref (189)), (1, .int (nI (i + 1)))] (am_pick [1, 0] rfl rfl) ?_
      exact ih
    · refine as_iload_n d116_23 rfl ?_
      refine an_bipush 12 d116_24 rfl ?_
      refine an_icmp_ge 42 d116_26 (by decide) (by omega) (by omega) (fun c4 => ?_) (fun c4 => by omega)
      refine an_iconst 0 d116_42 rfl ?_
      refine as_istore_n d116_43 (by decide) ?_
      refine AW.loc [(0, .ref (189)), (1, .int (nI (0)))] (am_pick [1, 0] rfl rfl) ?_
      refine aw_for (fun i => ((44, [(0, .ref (189)), (1, .int (nI (i)))], [], 208, HP (iRow (iRow (iRow S 195 36) 196 12) 197 (i)), 0, 0) : am_Z)) (3) (by simp only [iRow_0]) (fun i hi ih => ?_) ?_
      · refine as_iload_n d116_44 rfl ?_
        refine an_iconst 3 d116_45 rfl ?_
        refine an_icmp_ge 62 d116_46 (by decide) (by omega) (by omega) (fun c5 => by omega) (fun c5 => ?_)
        refine as_aload_n d116_49 rfl ?_
        refine ap_get d116_50 f116_31 (by decide) rfl rfl ?_
        refine as_iload_n d116_53 rfl ?_
        refine as_iload_n d116_54 rfl ?_
        refine ap_iast d116_55 (fun _ _ _ _ => rfl) (by decide) (by omega) (by decide) ?_
        refine an_iinc 1 d116_56 rfl rfl (by decide) ?_
        refine as_goto 44 d116_59 (by decide) ?_
        refine AW.loc [(0, .ref (189)), (1, .int (nI (i + 1)))] (am_pick [1, 0] rfl rfl) ?_
        exact ih
      · refine as_iload_n d116_44 rfl ?_
        refine an_iconst 3 d116_45 rfl ?_
        refine an_icmp_ge 62 d116_46 (by decide) (by omega) (by omega) (fun c6 => ?_) (fun c6 => by omega)
        refine as_aload_n d116_62 rfl ?_
        refine an_iconst 1 d116_63 rfl ?_
        refine ap_put d116_64 f116_86 (by decide) rfl (Nat.le_of_ble_eq_true rfl) (rfl) rfl rfl ?_
        refine AW.loc [(0, .ref (189))] (am_pick [0] rfl rfl) ?_
        refine aw_inv (fun T : MS => ((67, [(0, .ref 189)], [], 208, HP T, 0, 0) : am_Z)) (labInv S (opsP mt go (4 * P))) (fun T => 2 * rMu T + (T.1 189 9).toNatClampNeg) (fun T hT hrec => ?_) _ ?_
        · exact label_body X S T P mt go hG hR hT hrec
        · refine ⟨lab0_keep S _, fun A hA k hk => ?_, fun A hA k hk => ?_, Or.inr ?_, fun h0 => ?_⟩
          · exact ⟨k, by unfold rLen at hk; split at hk <;> (try split at hk) <;> omega, lab0_at S hA hk⟩
          · exact ⟨k, lab0_at S hA hk, Nat.le_refl _, conn.rf _ _⟩
          · show u2 (lab0 S).1 189 9 (nI 1) 189 9 = 1
            rw [u2_at]
            exact if_pos ⟨rfl, rfl⟩
          · exfalso
            have : u2 (lab0 S).1 189 9 (nI 1) 189 9 = 0 := h0
            rw [u2_at, if_pos ⟨rfl, rfl⟩] at this
            exact absurd this (by decide)
