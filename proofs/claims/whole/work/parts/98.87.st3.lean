/-! both memories together: the sheets' calls -/
theorem lfK.kr {S T : MS} (h : lfK S T) : KR S T := ⟨fun k hk => h.1 k (by omega) (by omega), h.2.2.2 _ _ (by omega) (by omega)⟩
theorem InvC.lf {S T : MS} {P : Nat} {mt : Nat → Option Nat} {go : Nat → Nat} {sh : Nat → Nat} (h : InvC S P mt go sh) (k : lfK S T) (l : LSt T P mt go) : InvC T P mt go sh := by
  obtain ⟨a, b, c, d, e⟩ := h
  exact ⟨a.keep (fun i hi => k.1 i (by omega) (by omega)) (fun i j _ hi => k.2.2.2 i j (by omega) (by omega)), b.lf k, l, PS.keep d (k.2.2.2 _ _ (by omega) (by omega)) (fun i _ hi => k.1 i (by omega) (by omega)) (k.2.2.2 _ _ (by omega) (by omega)), e.eq (k.2.2.1 23 (by omega) (by omega) (by omega))⟩
theorem Inv.lf {S T : MS} {P : Nat} {mt : Nat → Option Nat} {go : Nat → Nat} (h : Inv S P mt go) (k : lfK S T) (l : LSt T P mt go) : Inv T P mt go := Inv.mk' h.1 (h.2.1.lf k l) h.2.2 k.kr
theorem st_least (X : am_X) {S : MS} {P : Nat} {mt : Nat → Option Nat} {go : Nat → Nat} (h : Inv S P mt go) : LawS X 89 161 [] S := by
  obtain ⟨T, m1, k, l⟩ := mx_leastC X S P mt go h.1 h.2.1.1.1 (dall h.1) h.2.1.2.2.1
  have hT := h.lf k l
  obtain ⟨U, m2, k2⟩ := mx_least X T P mt go h.1 hT.2.2.1 (dall h.1)
  exact ⟨_, T, U, m1, m2, P, mt, go, hT.ref k2.kc k2.ks⟩
theorem st_number (X : am_X) {S : MS} {P : Nat} {mt : Nat → Option Nat} {go : Nat → Nat} (h : Inv S P mt go) (a b : Int32) : LawS X 90 162 [.int a, .int b] S := by
  obtain ⟨T, m1, k, l⟩ := mx_numberC X S P mt go h.1 h.2.1.1.1 (dall h.1) h.2.1.2.2.1 a b
  have hT := h.lf k l
  obtain ⟨U, m2, k2⟩ := mx_number X T P mt go h.1 hT.2.2.1 (dall h.1) a b
  exact ⟨_, T, U, m1, m2, P, mt, go, hT.ref k2.kc k2.ks⟩
/-- the sheet changed: the class's row, then the reference's -/
theorem Inv.sht {S T U : MS} {P : Nat} {mt : Nat → Option Nat} {go : Nat → Nat} (h : Inv S P mt go) (hc : ∀ k, k ≠ 178 → T.2.1 k = S.2.1 k) (hc2 : T.2.2 = S.2.2) (hc3 : ∀ i j, ¬ (i = 0 ∧ j = 6) → T.1 i j = S.1 i j) (hc4 : T.1 0 6 = nI 1) (hr : ∀ k, k ≠ 192 → U.2.1 k = T.2.1 k) (hr2 : U.2.2 = T.2.2) (hr3 : U.1 = T.1) (sh : Nat → Nat) (h1 : ∀ i, i < 21 → T.2.1 178 i = nI (sh i) ∧ sh i ≤ 1000) (h2 : ∀ i, i < 21 → U.2.1 192 i = nI (sh i)) (h3 : ∀ i, 7 * P ≤ i → U.2.1 192 i = 0) : Inv U P mt go := by
  obtain ⟨hG, ⟨a, b, c, d, e⟩, r1, r2, r3⟩ := h
  have es : ∀ i, i < 21 → sv U i = sh i := fun i hi => by
    unfold sv
    rw [h2 i hi, nI_clamp (by have := (h1 i hi).2; omega)]
  refine ⟨hG, ⟨a.keep (fun k hk => (hr k (by omega)).trans (hc k (by omega))) (fun i j _ hi => by rw [hr3]; exact hc3 i j (by omega)), fun i hi => ?_, c.keep hG (fun k _ => by rw [hr2, hc2]) (fun k _ hk => (hr k (by omega)).trans (hc k (by omega))) (by rw [hr3]; exact hc3 _ _ (by omega)) (by rw [hr3]; exact hc3 _ _ (by omega)) (by rw [hr3]; exact hc3 _ _ (by omega)), Or.inl (by rw [hr3]; exact hc4), e.eq (by rw [hr2, hc2])⟩, ⟨by rw [hr3, hc3 _ _ (by omega)]; exact r1.1, fun s hs => ?_, fun s t c' hs e0 hc' => ?_⟩, fun i hi => ?_, h3⟩
  · rw [hr 178 (by omega), es i hi]; exact h1 i hi
  · rw [hr 190 (by omega), hc 190 (by omega)]; exact r1.2.1 s hs
  · rw [hr 191 (by omega), hc 191 (by omega)]; exact r1.2.2 s t c' hs e0 hc'
  · rw [es i hi]; exact ⟨h2 i hi, (h1 i hi).2⟩
theorem st_put (X : am_X) {S : MS} {P : Nat} {mt : Nat → Option Nat} {go : Nat → Nat} (h : Inv S P mt go) (i v : Int32) : LawS X 91 163 [.int i, .int v] S := by
  have hG := h.1
  have hP := hG.1
  have hp1 : S.1 1 0 = nI P := h.2.1.1.1.1
  have hp2 : S.1 189 0 = nI P := h.2.2.1.1
  by_cases hs : putOk P i v
  · obtain ⟨a, ha, rfl⟩ := inR_n (n := 7 * P) (by omega) hs.1
    obtain ⟨b, hb, rfl⟩ := le0_n hs.2.1
    have hb2 : b ≤ 1000 := (nI_leI hb (by decide)).mp (show nI b ≤ nI 1000 from hs.2.2)
    have m1 := mc_putY X S P a b (sv S) hP hp1 h.2.1.2.1 ha hb2
    have m2 := mc_put X ((S.sa 178 a (nI b)).sf 0 6 (nI 1)) P hP (show ((S.sa 178 a (nI b)).sf 0 6 (nI 1)).1 189 0 = nI P by rw [sf_at, if_neg (by omega)]; exact hp2) (nI a) (nI b)
    unfold putA putM at m2
    rw [if_pos hs, if_pos hs, nI_clamp (by omega)] at m2
    have e : ((S.sa 178 a (nI b)).sf 0 6 (nI 1)).2.1 192 a = nI (sv S a) := by
      show (S.sa 178 a (nI b)).2.1 192 a = _
      rw [sa_row _ _ _ _ (by omega)]
      exact (h.2.2.2.1 a (by omega)).1
    rw [e] at m2
    refine ⟨_, _, _, m1, m2, P, mt, go, h.sht (T := (S.sa 178 a (nI b)).sf 0 6 (nI 1)) (fun k hk => sa_row _ _ _ _ hk) rfl (fun i j hij => (sf_at _ _ _ _ i j).trans (if_neg hij)) (by rw [sf_at, if_pos ⟨rfl, rfl⟩]) (fun k hk => sa_row _ _ _ _ hk) rfl rfl (fun i => if i = a then b else sv S i) (fun i hi => ?_) (fun i hi => ?_) (fun i hi => ?_)⟩
    · show (S.sa 178 a (nI b)).2.1 178 i = _ ∧ _
      rw [sa_at]
      by_cases c : i = a
      · rw [if_pos c, if_pos c]; exact ⟨rfl, hb2⟩
      · rw [if_neg c, if_neg c]; exact h.2.1.2.1 i hi
    · rw [sa_at]
      by_cases c : i = a
      · rw [if_pos c, if_pos c]
      · rw [if_neg c, if_neg c]
        show (S.sa 178 a (nI b)).2.1 192 i = _
        rw [sa_row _ _ _ _ (by omega)]
        exact (h.2.2.2.1 i hi).1
    · rw [sa_at, if_neg (by omega)]
      show (S.sa 178 a (nI b)).2.1 192 i = _
      rw [sa_row _ _ _ _ (by omega)]
      exact h.2.2.2.2 i hi
  · have m1 := mc_putB X S P hp1 i v hs
    have m2 := mc_put X S P hP hp2 i v
    unfold putA putM at m2
    rw [if_neg hs, if_neg hs] at m2
    exact ⟨_, S, S, m1, m2, P, mt, go, h⟩
theorem st_drop (X : am_X) {S : MS} {P : Nat} {mt : Nat → Option Nat} {go : Nat → Nat} (h : Inv S P mt go) : LawS X 93 165 [] S := by
  have hP := h.1.1
  have m1 := mc_dropC X S (sv S) h.2.1.2.1
  have m2 := mc_drop X ((sRow S 178 0 (fun _ => nI 0) 21).sf 0 6 (nI 1))
  have e : cnt (fun i => decide (¬ ((sRow S 178 0 (fun _ => nI 0) 21).sf 0 6 (nI 1)).2.1 192 i = 0)) 21 = cnt (fun i => decide (sv S i ≠ 0)) 21 := cnt_cg _ (fun i hi => by
    show decide (¬ (sRow S 178 0 (fun _ => nI 0) 21).2.1 192 i = 0) = _
    rw [sRow_row _ _ _ _ _ (by omega)]
    obtain ⟨e1, e2⟩ := h.2.2.2.1 i hi
    by_cases c : sv S i = 0
    · rw [decide_eq_false (fun w => w (by rw [e1, c]; rfl)), decide_eq_false (fun w => w c)]
    · have q1 : ¬ S.2.1 192 i = 0 := fun w => c ((nI_z (by omega)).mp (e1.symm.trans w))
      have q2 : sv S i ≠ 0 := c
      rw [decide_eq_true q1, decide_eq_true q2])
  rw [e] at m2
  refine ⟨_, _, _, m1, m2, P, mt, go, h.sht (T := (sRow S 178 0 (fun _ => nI 0) 21).sf 0 6 (nI 1)) (fun k hk => (show (sRow S 178 0 (fun _ => nI 0) 21).2.1 k = S.2.1 k from sRow_row _ _ _ _ _ hk)) rfl (fun i j hij => (sf_at _ _ _ _ i j).trans (if_neg hij)) (by rw [sf_at, if_pos ⟨rfl, rfl⟩]) (fun k hk => zRow_o _ hk _) (zRow_2 _ _ _) (zRow_fi _ _ _) (fun _ => 0) (fun i hi => ?_) (fun i hi => ?_) (fun i hi => ?_)⟩
  · refine ⟨?_, by omega⟩
    show (sRow S 178 0 (fun _ => nI 0) 21).2.1 178 i = _
    rw [sRow_at, if_pos ⟨rfl, by omega, by omega⟩]
  · rw [zRow_at, if_pos hi]; rfl
  · rw [zRow_at]
    by_cases c : i < 21
    · rw [if_pos c]
    · rw [if_neg c]
      show (sRow S 178 0 (fun _ => nI 0) 21).2.1 192 i = _
      rw [sRow_row _ _ _ _ _ (by omega)]
      exact h.2.2.2.2 i hi
theorem st_add (X : am_X) {S : MS} {P : Nat} {mt : Nat → Option Nat} {go : Nat → Nat} (h : Inv S P mt go) (k n : Int32) : LawS X 92 164 [.int k, .int n] S := by
  have hG := h.1
  have hP := hG.1
  have hD := dall hG
  by_cases hs : addOk (dN P mt go) k n
  · obtain ⟨a, ha, rfl⟩ := inR_n (by have := dN64 hG; omega) hs.1
    obtain ⟨b, hb, rfl⟩ := le0_n hs.2.1
    have hb2 : b ≤ 100 := (nI_leI hb (by decide)).mp (show nI b ≤ nI 100 from hs.2.2)
    obtain ⟨T, ⟨kT, lT⟩, f1, f2⟩ := mx_addNC X S P mt go hG h.2.1.1.1 hD h.2.1.2.2.1 (sv S) h.2.1.2.1 (sv_z h.2.2) a b ha hb2
    have hT := h.lf kT lT
    have eT : sv T = sv S := (h.2.2.kr kT.kr).2
    by_cases c : addF (sv S) (dR P mt go) P a b
    · obtain ⟨U, kU, g1, g2⟩ := mx_addN X T P mt go hG hT.2.2.1 hD hT.2.2.2.1 a b ha hb2
      exact ⟨_, T, U, f1 c, g1 (by rw [eT]; exact c), P, mt, go, hT.ref kU.kc kU.ks⟩
    · have hb3 : ∀ i, i < 21 → sv S i + b * dR P mt go a i ≤ 1000 := fun i hi => by
        by_cases q : i < 7 * P
        · exact Nat.not_lt.mp (fun w => c ⟨i, q, w⟩)
        · rw [dR_z hD a ha i (by omega), sv_z h.2.2 i (by omega)]; omega
      have e1 : ∀ q, q ≠ 178 → (addTC (sv S) (dR P mt go) a b T).2.1 q = T.2.1 q := fun q hq => by
        unfold addTC
        show (sRow T 178 0 (fun i => nI (sv S i + b * dR P mt go a i)) 21).2.1 q = _
        exact sRow_row _ _ _ _ _ hq
      have e3 : ∀ i j, ¬ (i = 0 ∧ j = 6) → (addTC (sv S) (dR P mt go) a b T).1 i j = T.1 i j := fun i j hij => by
        unfold addTC
        rw [sf_at, if_neg hij]
        rfl
      have e4 : (addTC (sv S) (dR P mt go) a b T).1 0 6 = nI 1 := by
        unfold addTC
        rw [sf_at, if_pos ⟨rfl, rfl⟩]
      obtain ⟨r, er⟩ := hT.2.2.eq (T := addTC (sv S) (dR P mt go) a b T) (e3 _ _ (by omega)) (e1 _ (by omega)) (e1 _ (by omega)) (e1 _ (by omega))
      obtain ⟨U, kU, g1, g2⟩ := mx_addN X (addTC (sv S) (dR P mt go) a b T) P mt go hG r.1 hD r.2.1 a b ha hb2
      rw [er, eT] at g1 g2
      have hU0 : Inv (sRow (addTC (sv S) (dR P mt go) a b T) 192 0 (fun i => nI (sv S i + b * dR P mt go a i)) (7 * P)) P mt go := by
        refine hT.sht (T := addTC (sv S) (dR P mt go) a b T) e1 rfl e3 e4 (fun q hq => sRow_row _ _ _ _ _ hq) rfl rfl (fun i => sv S i + b * dR P mt go a i) (fun i hi => ⟨?_, hb3 i hi⟩) (fun i hi => ?_) (fun i hi => ?_)
        · unfold addTC
          show (sRow T 178 0 (fun i => nI (sv S i + b * dR P mt go a i)) 21).2.1 178 i = _
          rw [sRow_at, if_pos ⟨rfl, by omega, by omega⟩, Nat.sub_zero]
        · rw [sRow_at]
          by_cases q : i < 7 * P
          · rw [if_pos ⟨rfl, by omega, by omega⟩, Nat.sub_zero]
          · rw [if_neg (by omega), e1 _ (by omega), hT.2.2.2.2 i (by omega), dR_z hD a ha i (by omega), sv_z h.2.2 i (by omega)]
            rfl
        · rw [sRow_at, if_neg (by omega), e1 _ (by omega)]
          exact hT.2.2.2.2 i hi
      refine ⟨_, _, _, f2 c, g2 c, P, mt, go, hU0.ref ⟨fun q hq => ?_, fun q hq => ?_, fun i j hi => ?_⟩ ⟨?_, ?_, ?_, ?_⟩⟩
      · unfold addT
        rw [sRow_row _ _ _ _ _ (by omega), sRow_row _ _ _ _ _ (by omega)]
        exact kU.kc.1 q hq
      · exact kU.kc.2.1 q hq
      · exact kU.kc.2.2 i j hi
      · exact kU.ks.1
      · unfold addT
        rw [sRow_row _ _ _ _ _ (by omega), sRow_row _ _ _ _ _ (by omega)]
        exact kU.ks.2.1
      · unfold addT
        rw [sRow_row _ _ _ _ _ (by omega), sRow_row _ _ _ _ _ (by omega)]
        exact kU.ks.2.2.1
      · unfold addT
        funext i
        rw [sRow_at, sRow_at, kU.ks.2.2.2]
  · obtain ⟨T, m1, kT, lT⟩ := mx_addBC X S P mt go hG h.2.1.1.1 hD h.2.1.2.2.1 k n hs
    have hT := h.lf kT lT
    obtain ⟨U, m2, k2⟩ := mx_addB X T P mt go hG hT.2.2.1 hD k n hs
    exact ⟨_, T, U, m1, m2, P, mt, go, hT.ref k2.kc k2.ks⟩
theorem st_legal (X : am_X) {S : MS} {P : Nat} {mt : Nat → Option Nat} {go : Nat → Nat} (h : Inv S P mt go) : LawS X 94 167 [] S := by
  obtain ⟨a, ha⟩ := FiA_ex P mt go (sv S)
  obtain ⟨b, hb⟩ := MxA_ex (sv S)
  exact ⟨_, S, S, mc_legalC X S P mt go (sv S) h.1 h.2.1.1.1 h.2.1.2.1 a b ha hb, mc_legal X S P mt go _ h.1 h.2.2.1 h.2.2.2.1 (leg_eq h.1.1 h.2.2.2.1 (sv_z h.2.2) ha hb), P, mt, go, h⟩
theorem ab01 {P : Nat} {mt : Nat → Option Nat} {go : Nat → Nat} {sh : Nat → Nat} {a b : Nat} (ha : FiA P mt go sh a) (hb : MxA sh b) : a < 2 ∧ b < 2 := ⟨by rcases ha with w | w <;> omega, by rcases hb with w | w <;> omega⟩
theorem st_euler (X : am_X) {S : MS} {P : Nat} {mt : Nat → Option Nat} {go : Nat → Nat} (h : Inv S P mt go) : LawS X 95 169 [] S := by
  obtain ⟨a, ha⟩ := FiA_ex P mt go (sv S)
  obtain ⟨b, hb⟩ := MxA_ex (sv S)
  have lg := leg_eq h.1.1 h.2.2.2.1 (sv_z h.2.2) ha hb
  have m1 := mc_eulerT X S P mt go (sv S) h.1 h.2.1.1 h.2.1.2.1 a b ha hb
  obtain ⟨a2, b2⟩ := ab01 ha hb
  by_cases c : a = 1 ∧ b = 0
  · rw [if_pos c] at m1
    rw [if_neg (by omega), if_pos (by omega)] at lg
    obtain ⟨T, m2, k, l⟩ := mc_euler0 X S P mt go h.1 h.2.2.1 h.2.2.2.1 lg
    obtain ⟨r, e⟩ := h.2.2.eq k.ks.1 k.ks.2.1 k.ks.2.2.1 k.ks.2.2.2
    rw [eul_eq h.1 l (sv_z r), e] at m2
    exact ⟨_, S, T, m1, m2, P, mt, go, h.ref k.kc k.ks⟩
  · rw [if_neg c] at m1
    refine ⟨_, S, S, m1, mc_eulerN X S P mt go h.1 h.2.2.1 h.2.2.2.1 _ lg ?_ ?_, P, mt, go, h⟩
    · by_cases q : a = 0
      · rw [if_pos q]; omega
      · rw [if_neg q, if_neg (by omega)]; omega
    · split
      · omega
      · split <;> omega
theorem frKeep.kr {S T : MS} (h : frKeep S T) : KR S T := ⟨fun k hk => h.1 k (by omega), h.2.2 _ _ (by omega) (by omega)⟩
theorem Inv.fr {S T : MS} {P : Nat} {mt : Nat → Option Nat} {go : Nat → Nat} (h : Inv S P mt go) (k : frKeep S T) (f : T.1 0 6 = nI 0) (p : PB T P mt go (sv S)) : Inv T P mt go := by
  obtain ⟨hG, ⟨a, b, c, d, e⟩, r⟩ := h
  exact Inv.mk' (S := S) hG ⟨a.fr k, b.eq (k.1 178 (by omega)), c.keep hG (fun i _ => by rw [k.2.1]) (fun i _ hi => k.1 i (by omega)) (k.2.2 _ _ (by omega) (by omega)) (k.2.2 _ _ (by omega) (by omega)) (k.2.2 _ _ (by omega) (by omega)), Or.inr ⟨f, p⟩, e.eq (by rw [k.2.1])⟩ r k.kr
theorem st_parts (X : am_X) {S : MS} {P : Nat} {mt : Nat → Option Nat} {go : Nat → Nat} (h : Inv S P mt go) : LawS X 96 175 [] S := by
  obtain ⟨a, ha⟩ := FiA_ex P mt go (sv S)
  obtain ⟨b, hb⟩ := MxA_ex (sv S)
  have lg := leg_eq h.1.1 h.2.2.2.1 (sv_z h.2.2) ha hb
  obtain ⟨a2, b2⟩ := ab01 ha hb
  have hz := f21 h.1.1 (sv_z h.2.2)
  by_cases c : a = 1 ∧ b = 0
  · have lg0 : legA S P mt go 0 := by
      rw [if_neg (by omega), if_pos (by omega)] at lg
      exact lg
    have hF : Fits P mt go (sv S) := by rcases ha with w | w
                                        · exact w.2
                                        · omega
    by_cases hN : 400 < fsum (sv S) 21
    · have m1 := mc_paF X S P mt go (sv S) h.1 h.2.1.1 h.2.1.2.1 a b ha hb c hN
      obtain ⟨U, m2, k, l⟩ := mx_parts0 X S P mt go h.1 h.2.2.1 h.2.2.2.1 lg0 hF
      unfold prtA at m2
      rw [if_pos (by omega)] at m2
      exact ⟨_, S, U, m1, m2, P, mt, go, h.ref k.kc k.ks⟩
    · obtain ⟨T, m1, kT, fT, pT⟩ := mx_paY X S P mt go (sv S) h.1 h.2.1.1 h.2.1.2.1 a b ha hb c hF hz (by omega) h.2.1.2.2.2.1
      have hT := h.fr kT fT pT
      have eT : sv T = sv S := (h.2.2.kr kT.kr).2
      have lgT : legA T P mt go 0 := by
        rw [← eT] at ha hb
        have := leg_eq hT.1.1 hT.2.2.2.1 (sv_z hT.2.2) ha hb
        rw [if_neg (by omega), if_pos (by omega)] at this
        exact this
      obtain ⟨U, m2, k, l⟩ := mx_parts0 X T P mt go h.1 hT.2.2.1 hT.2.2.2.1 lgT (by rw [eT]; exact hF)
      unfold prtA at m2
      rw [eT, if_neg (by omega), fs_cg (pj_s h.1 hF), ← hz] at m2
      exact ⟨_, T, U, m1, m2, P, mt, go, hT.ref k.kc k.ks⟩
  · have m1 := mc_paN X S P mt go (sv S) h.1 h.2.1.1 h.2.1.2.1 a b ha hb c
    refine ⟨_, S, S, m1, mc_partsN X S P mt go h.1 h.2.2.1 h.2.2.2.1 _ lg ?_ ?_, P, mt, go, h⟩
    · by_cases q : a = 0
      · rw [if_pos q]; omega
      · rw [if_neg q, if_neg (by omega)]; omega
    · split
      · omega
      · split <;> omega
theorem st_part (X : am_X) {S : MS} {P : Nat} {mt : Nat → Option Nat} {go : Nat → Nat} (h : Inv S P mt go) (k w : Int32) : LawS X 97 178 [.int k, .int w] S := by
  obtain ⟨a, ha⟩ := FiA_ex P mt go (sv S)
  obtain ⟨b, hb⟩ := MxA_ex (sv S)
  have lg := leg_eq h.1.1 h.2.2.2.1 (sv_z h.2.2) ha hb
  obtain ⟨a2, b2⟩ := ab01 ha hb
  have hz := f21 h.1.1 (sv_z h.2.2)
  have big : fsum (sv S) 21 ≤ 21000 := by
    have := fsum_le (f := sv S) (b := 1000) 21 (fun i hi => (h.2.2.2.1 i hi).2)
    omega
  by_cases hw : whOk w
  · by_cases c : a = 1 ∧ b = 0
    · have lg0 : legA S P mt go 0 := by
        rw [if_neg (by omega), if_pos (by omega)] at lg
        exact lg
      have hF : Fits P mt go (sv S) := by rcases ha with q | q
                                          · exact q.2
                                          · omega
      by_cases hg : 0 ≤ k ∧ fsum (sv S) 21 ≤ 400
      · obtain ⟨v, hv, rfl⟩ := le0_n hw.1
        have hv2 : v < 3 := by have := (nI_leI hv (by decide)).mp (show nI v ≤ nI 2 from hw.2); omega
        have step : ∀ T, frKeep S T → T.1 0 6 = nI 0 → PB T P mt go (sv S) → Inv T P mt go ∧ sv T = sv S ∧ legA T P mt go 0 := fun T kT fT pT => by
          have hT := h.fr kT fT pT
          have eT : sv T = sv S := (h.2.2.kr kT.kr).2
          refine ⟨hT, eT, ?_⟩
          rw [← eT] at ha hb
          have := leg_eq hT.1.1 hT.2.2.2.1 (sv_z hT.2.2) ha hb
          rw [if_neg (by omega), if_pos (by omega)] at this
          exact this
        have cb := cnt_le (fs (PJ P mt go (sv S))) (fsum (sv S) 21)
        by_cases hk : inR (cnt (fs (PJ P mt go (sv S))) (fsum (sv S) 21)) k
        · obtain ⟨n, hn, rfl⟩ := inR_n (by omega) hk
          obtain ⟨T, r, m1, kT, fT, pT, hr⟩ := mx_ptK X S P mt go (sv S) h.1 h.2.1.1 h.2.1.2.1 a b ha hb c hF hz hg.2 h.2.1.2.2.2.1 n v hv2 hn
          obtain ⟨hT, eT, lgT⟩ := step T kT fT pT
          obtain ⟨U, r', m2, kU, l, hr'⟩ := mx_partK X T P mt go h.1 hT.2.2.1 hT.2.2.2.1 lgT (by rw [eT]; exact hF) n v hv2 (by rw [eT]; omega) (by rw [eT, fs_cg (pj_s h.1 hF), ← hz]; exact hn)
          rw [eT] at hr'
          have e : r' = r := by
            unfold prA at hr'
            unfold ptK at hr
            rw [gno_cg (pj_s h.1 hF), fs_cg (pj_s h.1 hF), ← hz] at hr'
            rcases hr' with ⟨v0, q⟩ | ⟨v1, q⟩ | ⟨v2, m, q1, q2, q3, q4⟩
            · rcases hr with ⟨u0, p⟩ | ⟨u1, p⟩ | ⟨u2, p⟩
              · rw [q, p]; rfl
              · omega
              · omega
            · rcases hr with ⟨u0, p⟩ | ⟨u1, p⟩ | ⟨u2, p⟩
              · omega
              · have g : wsum U mt (sv S) P (Lk P mt go (sv S)) n (fsum (sv S) (7 * P)) = _ := prt_eq (sh := sv S) h.1 l (Lk P mt go (sv S)) n
                rw [q, hz, g, p, hz]
                have gg := gno_cg (pj_s h.1 hF)
                unfold coB caO caI caB cpI cpB
                rw [gg]
              · omega
            · rcases hr with ⟨u0, p⟩ | ⟨u1, p⟩ | ⟨u2, m', p1, p2, p3, p4⟩
              · omega
              · omega
              · have em : m = m' := cnt_inj q1 p1 (q2.trans p2.symm)
                subst em
                have tw : Tws (Lk P mt go (sv S)) m ↔ Tws (PJ P mt go (sv S)) m := pj_d h.1 hF _ _
                rw [tw] at q4
                rcases q4 with ⟨t1, t2⟩ | ⟨t1, t2⟩ <;> rcases p4 with ⟨s1, s2⟩ | ⟨s1, s2⟩
                · rw [t2, s2]
                · exact absurd t1 s1
                · exact absurd s1 t1
                · rw [t2, s2]
          rw [e] at m2
          exact ⟨_, T, U, m1, m2, P, mt, go, hT.ref kU.kc kU.ks⟩
        · obtain ⟨T, m1, kT, fT, pT⟩ := mx_ptO X S P mt go (sv S) h.1 h.2.1.1 h.2.1.2.1 a b ha hb c hF hz hg.2 h.2.1.2.2.2.1 k v hv2 hg.1 hk
          obtain ⟨hT, eT, lgT⟩ := step T kT fT pT
          obtain ⟨U, m2, kU⟩ := mx_partB X T P mt go h.1 hT.2.2.1 hT.2.2.2.1 lgT (by rw [eT]; exact hF) k (nI v) hw (Or.inr (by rw [eT, fs_cg (pj_s h.1 hF), ← hz]; exact hk))
          exact ⟨_, T, U, m1, m2, P, mt, go, hT.ref kU.kc kU.ks⟩
      · have m1 := mc_ptB X S P mt go (sv S) h.1 h.2.1.1 h.2.1.2.1 a b ha hb k w (fun q => hg ⟨q.1, q.2.2.2⟩)
        obtain ⟨U, m2, kU⟩ := mx_partB X S P mt go h.1 h.2.2.1 h.2.2.2.1 lg0 hF k w hw (by
          by_cases q : 400 < fsum (sv S) (7 * P)
          · exact Or.inl q
          · exact Or.inr (fun z => hg ⟨z.1, by omega⟩))
        exact ⟨_, S, U, m1, m2, P, mt, go, h.ref kU.kc kU.ks⟩
    · have m1 := mc_ptB X S P mt go (sv S) h.1 h.2.1.1 h.2.1.2.1 a b ha hb k w (fun q => c q.2.2.1)
      refine ⟨_, S, S, m1, mc_partN X S P mt go h.1 h.2.2.1 h.2.2.2.1 k w _ lg ?_ ?_, P, mt, go, h⟩
      · by_cases q : a = 0
        · rw [if_pos q]; omega
        · rw [if_neg q, if_neg (by omega)]; omega
      · split
        · omega
        · split <;> omega
  · exact ⟨_, S, S, mc_ptB X S P mt go (sv S) h.1 h.2.1.1 h.2.1.2.1 a b ha hb k w (fun q => hw q.2.1), mc_partW X S P mt go h.1 h.2.2.1 h.2.2.2.1 k w hw, P, mt, go, h⟩
