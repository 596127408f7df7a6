/-! both memories together: the space's calls -/
theorem le0_n {x : Int32} (h : 0 ≤ x) : ∃ k, k < 2 ^ 31 ∧ x = nI k := nI_of (x := x) (fun g => by
    simp only [Int32.lt_iff_toInt_lt, Int32.le_iff_toInt_le] at *
    omega)
theorem pcRow_at (S : MS) (P : Nat) : ∀ n i, (pcRow S P n).2.1 190 i = if 4 * P ≤ i ∧ i < 4 * P + n then -1 else S.2.1 190 i
  | 0, i => by rw [if_neg (by omega)]; rfl
  | n + 1, i => by
    show ((pcRow S P n).sa 190 (4 * P + n) (-1)).2.1 190 i = _
    rw [sa_at]
    by_cases c : i = 4 * P + n
    · rw [if_pos c, if_pos (by omega)]
    · rw [if_neg c, pcRow_at S P n i]
      by_cases d : 4 * P ≤ i ∧ i < 4 * P + n
      · rw [if_pos d, if_pos (by omega)]
      · rw [if_neg d, if_neg (by omega)]
theorem pcRow_o (S : MS) (P : Nat) {k : Nat} (h : k ≠ 190) : ∀ n, (pcRow S P n).2.1 k = S.2.1 k
  | 0 => rfl
  | n + 1 => by
    show ((pcRow S P n).sa 190 (4 * P + n) (-1)).2.1 k = _
    rw [sa_row _ _ _ _ h]
    exact pcRow_o S P h n
theorem pcRow_2 (S : MS) (P : Nat) : ∀ n, (pcRow S P n).2.2 = S.2.2
  | 0 => rfl
  | n + 1 => pcRow_2 S P n
theorem sh_zero {U : MS} (h : ∀ i, U.2.1 192 i = 0) : SHN U ∧ ∀ i, sv U i = 0 := by
  have e : ∀ i, sv U i = 0 := fun i => by unfold sv; rw [h i]; rfl
  exact ⟨fun i _ => ⟨by rw [h i, e i]; rfl, by rw [e i]; omega⟩, e⟩
theorem st_piece (X : am_X) {S : MS} {P : Nat} {mt : Nat → Option Nat} {go : Nat → Nat} (h : Inv S P mt go) : LawS X 79 126 [] S := by
  obtain ⟨hG, hC, hR⟩ := h
  have hP := hG.1
  by_cases h3 : P = 3
  · have m1 := mc_pieceF X S P mt go hC.1.1 h3
    have m2 := mc_piece X S P hP hR.1.1
    have e : pcMem S P = S := by unfold pcMem; rw [if_pos h3]
    rw [if_pos h3, e] at m2
    exact ⟨_, S, S, m1, m2, P, mt, go, hG, hC, hR⟩
  · obtain ⟨T, m1, n, z⟩ := mx_pieceC X S P mt go hG hC.1.1 h3
    obtain ⟨r, e⟩ := hR.kr n.2.1.kr
    have m2 := mc_piece X T P hP r.1.1
    have eU : pcMem T P = zRow ((pcRow T P 4).sf 189 0 (nI (P + 1))) 192 21 := by unfold pcMem; rw [if_neg h3]
    rw [if_neg h3, eU] at m2
    have z0 : ∀ i, (zRow ((pcRow T P 4).sf 189 0 (nI (P + 1))) 192 21).2.1 192 i = 0 := fun i => by
      rw [zRow_at]
      by_cases c : i < 21
      · rw [if_pos c]
      · rw [if_neg c]
        show (pcRow T P 4).2.1 192 i = 0
        rw [pcRow_o _ _ (by omega)]
        exact r.2.2 i (by omega)
    have ro : ∀ k, k ≠ 190 → k ≠ 192 → (zRow ((pcRow T P 4).sf 189 0 (nI (P + 1))) 192 21).2.1 k = T.2.1 k := fun k a b => by
      rw [zRow_o _ b]
      show (pcRow T P 4).2.1 k = _
      exact pcRow_o _ _ a _
    have r9 : (zRow ((pcRow T P 4).sf 189 0 (nI (P + 1))) 192 21).2.1 190 = (pcRow T P 4).2.1 190 := zRow_o _ (by omega) _
    have rf : ∀ i j, (zRow ((pcRow T P 4).sf 189 0 (nI (P + 1))) 192 21).1 i j = if i = 189 ∧ j = 0 then nI (P + 1) else T.1 i j := fun i j => by
      rw [zRow_fi, sf_at, pcRow_fi]
    obtain ⟨s1, s2⟩ := sh_zero z0
    refine ⟨_, T, _, m1, m2, P + 1, mtP P mt, go, hG.piece h3, ?_, ?_, s1, fun i _ => z0 i⟩
    · refine InvC.kc (S := T) (hG.piece h3) (New.c hC n (fun i hi => ?_)) ⟨fun k hk => ro k (by omega) (by omega), fun k _ => ?_, fun i j hi => ?_⟩
      · rw [s2 i]; exact ⟨z i hi, by omega⟩
      · rw [zRow_2]
        show (pcRow T P 4).2.2.2 k = _
        rw [pcRow_2]
      · rw [rf, if_neg (by omega)]
    · refine RG.piece r.1 ?_ (fun s hs => ?_) (fun f hf => ?_) (ro _ (by omega) (by omega))
      · rw [rf, if_pos ⟨rfl, rfl⟩]
      · rw [r9, pcRow_at, if_neg (by omega)]
      · rw [r9, pcRow_at, if_pos (by omega)]
theorem st_clear (X : am_X) {S : MS} {P : Nat} {mt : Nat → Option Nat} {go : Nat → Nat} (h : Inv S P mt go) : LawS X 82 130 [] S := by
  obtain ⟨hG, hC, hR⟩ := h
  obtain ⟨T, m1, n, z⟩ := mx_clearC X S P mt go hC.1.1
  obtain ⟨r, e⟩ := hR.kr n.2.1.kr
  have m2 := mc_clear X T
  rw [r.1.1] at m2
  have hP := hG.1
  have z0 : ∀ i, (zRow (T.sf 189 0 (nI 0)) 192 21).2.1 192 i = 0 := fun i => by
    rw [zRow_at]
    by_cases c : i < 21
    · rw [if_pos c]
    · rw [if_neg c]
      exact r.2.2 i (by omega)
  have rf : ∀ i j, (zRow (T.sf 189 0 (nI 0)) 192 21).1 i j = if i = 189 ∧ j = 0 then nI 0 else T.1 i j := fun i j => by rw [zRow_fi, sf_at]
  obtain ⟨s1, s2⟩ := sh_zero z0
  refine ⟨_, T, _, m1, m2, 0, fun _ => none, go, GW.none, ?_, ⟨?_, fun s hs => by omega, fun s t c hs => by omega⟩, s1, fun i _ => z0 i⟩
  · refine InvC.kc (S := T) GW.none (New.c hC n (fun i hi => ?_)) ⟨fun k hk => ?_, fun k _ => ?_, fun i j hi => ?_⟩
    · rw [s2 i]; exact ⟨z i hi, by omega⟩
    · rw [zRow_o _ (by omega)]
    · rw [zRow_2]
    · rw [rf, if_neg (by omega)]
  · rw [rf, if_pos ⟨rfl, rfl⟩]
theorem SHC.of178 {S T : MS} {sh : Nat → Nat} (h : SHC S sh) (e : T.2.1 178 = S.2.1 178) : SHC T sh := h.eq e
/-- a call of the class that changes the space but not the sheet -/
theorem Inv.spc {S T U : MS} {P : Nat} {mt mt' : Nat → Option Nat} {go go' : Nat → Nat} (h : Inv S P mt go) (hG : GW P mt' go') (n : New S T P mt' go') (e : T.2.1 178 = S.2.1 178) (hR : RG U P mt' go') (k : KC T U) (e2 : U.2.1 192 = T.2.1 192) : Inv U P mt' go' := by
  obtain ⟨-, hC, hR0⟩ := h
  obtain ⟨r, s⟩ := hR0.kr n.2.1.kr
  obtain ⟨a, b⟩ := r.2.1.eq e2
  refine ⟨hG, ?_, hR, a, fun i hi => by rw [e2]; exact r.2.2 i hi⟩
  rw [b, s]
  exact (New.c hC n (hC.2.1.eq e)).kc hG k
theorem st_open (X : am_X) {S : MS} {P : Nat} {mt : Nat → Option Nat} {go : Nat → Nat} (h : Inv S P mt go) (p f : Int32) : LawS X 81 129 [.int p, .int f] S := by
  obtain ⟨hG, hC, hR⟩ := h
  have hP := hG.1
  by_cases hs : isSd P p f
  · obtain ⟨q, g, hq, hg, rfl, rfl, esd⟩ := isSd_n hP hs
    rcases mt_or mt (4 * q + g) with e0 | ⟨t, e0⟩
    · have m1 := mc_opN X S P mt go q g hG hC.1.1 hq hg e0
      have m2 := mc_open X S P mt go (nI q) (nI g) hG hR.1
      unfold oBad oMem at m2
      rw [if_pos hs, if_pos hs, esd, e0] at m2
      exact ⟨_, S, S, m1, m2, P, mt, go, hG, hC, hR⟩
    · obtain ⟨T, m1, n, e⟩ := mx_opY X S P mt go q g hG hC.1.1 hq hg t e0
      obtain ⟨r, -⟩ := hR.kr n.2.1.kr
      have m2 := mc_open X T P mt go (nI q) (nI g) hG r.1
      unfold oBad oMem at m2
      rw [if_pos hs, if_pos hs, esd, e0] at m2
      refine ⟨_, T, _, m1, m2, P, mtO mt (4 * q + g) t, go, Inv.spc ⟨hG, hC, hR⟩ (hG.opn (by omega) e0) n e r.1.opn ⟨fun k hk => ?_, fun k _ => rfl, fun i j _ => rfl⟩ ?_⟩
      · show ((T.sa 190 t (-1)).sa 190 (4 * q + g) (-1)).2.1 k = _
        rw [sa_row _ _ _ _ (by omega), sa_row _ _ _ _ (by omega)]
      · show ((T.sa 190 t (-1)).sa 190 (4 * q + g) (-1)).2.1 192 = _
        rw [sa_row _ _ _ _ (by omega), sa_row _ _ _ _ (by omega)]
  · have m1 := mc_opB X S P mt go hC.1.1 p f hs
    have m2 := mc_open X S P mt go p f hG hR.1
    unfold oBad oMem at m2
    rw [if_neg hs, if_neg hs] at m2
    exact ⟨_, S, S, m1, m2, P, mt, go, hG, hC, hR⟩
theorem st_glue (X : am_X) {S : MS} {P : Nat} {mt : Nat → Option Nat} {go : Nat → Nat} (h : Inv S P mt go) (p f q g map : Int32) : LawS X 80 128 [.int p, .int f, .int q, .int g, .int map] S := by
  obtain ⟨hG, hC, hR⟩ := h
  have hP := hG.1
  by_cases hs : isSd P p f ∧ isSd P q g
  · by_cases hm : 0 ≤ map ∧ map ≤ 63
    · obtain ⟨p', f', hp', hf', rfl, rfl, -⟩ := isSd_n hP hs.1
      obtain ⟨q', g', hq', hg', rfl, rfl, -⟩ := isSd_n hP hs.2
      obtain ⟨m, hm1, rfl⟩ := le0_n hm.1
      have hm2 : m < 64 := by have := (nI_leI hm1 (by decide)).mp (show nI m ≤ nI 63 from hm.2); omega
      have hgm : ∀ T : MS, gM T P mt (nI p') (nI f') (nI q') (nI g') (nI m) = gMem T mt p' f' q' g' m := fun T => by
        unfold gM
        rw [if_pos ⟨hs.1, hs.2, hm.1, hm.2⟩, nI_clamp (by omega), nI_clamp (by omega), nI_clamp (by omega), nI_clamp (by omega), nI_clamp (by omega)]
      have hga : gA P mt (nI p') (nI f') (nI q') (nI g') (nI m) = gAns mt p' f' q' g' m := by
        unfold gA
        rw [if_pos ⟨hs.1, hs.2, hm.1, hm.2⟩, nI_clamp (by omega), nI_clamp (by omega), nI_clamp (by omega), nI_clamp (by omega), nI_clamp (by omega)]
      by_cases hb : ¬ gOk g' m ∨ (p' = q' ∧ f' = g')
      · have bad : gBad p' f' q' g' m := by
          unfold gBad
          rcases hb with hb | hb
          · unfold gOk at hb
            omega
          · omega
        have m1 := mc_glueF X S P mt go p' f' q' g' hG hC.1.1 hp' hf' hq' hg' m hm2 hb
        have m2 := mc_glue X S P mt go (nI p') (nI f') (nI q') (nI g') (nI m) hG hR.1
        rw [hga, hgm] at m2
        unfold gAns gMem at m2
        rw [if_pos bad, if_pos bad] at m2
        exact ⟨_, S, S, m1, m2, P, mt, go, hG, hC, hR⟩
      · have ok : gOk g' m := Classical.byContradiction (fun w => hb (Or.inl w))
        have ne : ¬ (p' = q' ∧ f' = g') := fun w => hb (Or.inr w)
        have nbad : ¬ gBad p' f' q' g' m := by
          unfold gBad
          have o := ok
          unfold gOk at o
          omega
        by_cases hgl : mt (4 * p' + f') = none ∧ mt (4 * q' + g') = none
        · obtain ⟨T, m1, n, e⟩ := mx_glueY X S P mt go p' f' q' g' hG hC.1.1 hp' hf' hq' hg' m hm2 ok ne hgl.1 hgl.2
          obtain ⟨r, -⟩ := hR.kr n.2.1.kr
          have m2 := mc_glue X T P mt go (nI p') (nI f') (nI q') (nI g') (nI m) hG r.1
          rw [hga, hgm] at m2
          unfold gAns gMem at m2
          rw [if_neg nbad, if_neg nbad, if_pos hgl, if_pos hgl] at m2
          have hne : 4 * p' + f' ≠ 4 * q' + g' := fun w => ne (by omega)
          exact ⟨_, T, _, m1, m2, P, _, _, Inv.spc ⟨hG, hC, hR⟩ (hG.glue (by omega) (by omega) hne hgl.1 hgl.2 (by omega) (by omega) hm2 ok) n e (r.1.glue hne hf' hg' hm2 ok) ⟨fun k hk => glRow_o _ _ _ _ _ _ (by omega) (by omega) _, fun k _ => by rw [glRow_22], fun i j _ => by rw [glRow_1]⟩ (glRow_o _ _ _ _ _ _ (by omega) (by omega) _)⟩
        · have m1 := mc_glueN2 X S P mt go p' f' q' g' hG hC.1.1 hp' hf' hq' hg' m hm2 ok ne hgl
          have m2 := mc_glue X S P mt go (nI p') (nI f') (nI q') (nI g') (nI m) hG hR.1
          rw [hga, hgm] at m2
          unfold gAns gMem at m2
          rw [if_neg nbad, if_neg nbad, if_neg hgl, if_neg hgl] at m2
          exact ⟨_, S, S, m1, m2, P, mt, go, hG, hC, hR⟩
    · obtain ⟨p', f', hp', hf', rfl, rfl, -⟩ := isSd_n hP hs.1
      obtain ⟨q', g', hq', hg', rfl, rfl, -⟩ := isSd_n hP hs.2
      have m1 := mc_glueO X S P mt go p' f' q' g' hG hC.1.1 hp' hf' hq' hg' map hm
      have m2 := mc_glue X S P mt go (nI p') (nI f') (nI q') (nI g') map hG hR.1
      unfold gA gM at m2
      rw [if_neg (fun w => hm w.2.2), if_neg (fun w => hm w.2.2)] at m2
      exact ⟨_, S, S, m1, m2, P, mt, go, hG, hC, hR⟩
  · have m1 := mc_glueB X S P mt go hC.1.1 p f q g map hs
    have m2 := mc_glue X S P mt go p f q g map hG hR.1
    unfold gA gM at m2
    rw [if_neg (fun w => hs ⟨w.1, w.2.1⟩), if_neg (fun w => hs ⟨w.1, w.2.1⟩)] at m2
    exact ⟨_, S, S, m1, m2, P, mt, go, hG, hC, hR⟩
theorem st_across (X : am_X) {S : MS} {P : Nat} {mt : Nat → Option Nat} {go : Nat → Nat} (h : Inv S P mt go) (p f w : Int32) : LawS X 83 131 [.int p, .int f, .int w] S := by
  obtain ⟨hG, hC, hR⟩ := h
  have hP := hG.1
  have m2 := mc_across X S P mt go p f w hG hR.1
  unfold aAcross at m2
  by_cases hs : isSd P p f ∧ 0 ≤ w ∧ w ≤ 1
  · rw [if_pos hs] at m2
    obtain ⟨q, g, hq, hg, rfl, rfl, esd⟩ := isSd_n hP hs.1
    obtain ⟨v, hv, rfl⟩ := in01 hs.2
    rw [esd] at m2
    rcases mt_or mt (4 * q + g) with e0 | ⟨t, e0⟩
    · rw [e0] at m2
      exact ⟨_, S, S, mc_acN X S P mt go q g hG hC.1.1 hq hg v hv e0, m2, P, mt, go, hG, hC, hR⟩
    · have m1 := mc_acY X S P mt go q g hG hC.1.1 hq hg v t hv e0
      rw [e0] at m2
      refine ⟨_, S, S, m1, ?_, P, mt, go, hG, hC, hR⟩
      have e : (if nI v = 0 then nI (t / 4) else nI (t % 4)) = if v = 0 then nI (t / 4) else nI (t % 4) := by
        by_cases c : v = 0
        · rw [if_pos c, if_pos ((nI_z (by omega)).mpr c)]
        · rw [if_neg c, if_neg (fun z => c ((nI_z (by omega)).mp z))]
      rw [← e]
      exact m2
  · rw [if_neg hs] at m2
    exact ⟨_, S, S, mc_acB X S P mt go hC.1.1 p f w hs, m2, P, mt, go, hG, hC, hR⟩
theorem st_class (X : am_X) {S : MS} {P : Nat} {mt : Nat → Option Nat} {go : Nat → Nat} (h : Inv S P mt go) (w p c : Int32) : LawS X 84 132 [.int w, .int p, .int c] S := by
  obtain ⟨hG, hC, hR⟩ := h
  have hP := hG.1
  by_cases hs : clsOk P w p c
  · obtain ⟨hw, hp, hc, hc2⟩ := hs
    obtain ⟨v, hv, rfl⟩ := in01 hw
    obtain ⟨q, hq, rfl⟩ := isPc_n hP hp
    obtain ⟨d, hd, rfl⟩ := le0_n hc
    have hd2 : d < (if v = 0 then 4 else 6) := by
      by_cases e : v = 0
      · rw [if_pos e]
        rw [if_pos ((nI_z (by omega)).mpr e)] at hc2
        have := (nI_leI hd (by decide)).mp (show nI d ≤ nI 3 from hc2)
        omega
      · rw [if_neg e]
        rw [if_neg (fun z => e ((nI_z (by omega)).mp z))] at hc2
        have := (nI_leI hd (by decide)).mp (show nI d ≤ nI 5 from hc2)
        omega
    have m1 := mc_clN X S P mt go hG hC.1 v q d hv hq hd2
    obtain ⟨T, m2, k, l⟩ := mc_classOfN X S P mt go v q d hG hR.1 hv hq hd2
    rw [cls_eq hG l hv hq hd2] at m2
    exact ⟨_, S, T, m1, m2, P, mt, go, Inv.ref ⟨hG, hC, hR⟩ k.kc k.ks⟩
  · exact ⟨_, S, S, mc_clB X S P mt go hC.1.1 w p c hs, mc_classOfB X S P hP hR.1.1 w p c hs, P, mt, go, hG, hC, hR⟩
theorem st_bent (X : am_X) {S : MS} {P : Nat} {mt : Nat → Option Nat} {go : Nat → Nat} (h : Inv S P mt go) (k : Int32) : LawS X 85 133 [.int k] S := by
  obtain ⟨hG, hC, hR⟩ := h
  have hP := hG.1
  obtain ⟨T, m2, kk, l⟩ := mc_bent X S P mt go k hG hR.1
  by_cases hs : inR (cnt (fs (EJ P mt go)) (6 * P)) k
  · obtain ⟨n, hn, rfl⟩ := inR_n (by have := cnt_le (fs (EJ P mt go)) (6 * P); omega) hs
    obtain ⟨m, a1, a2, a3⟩ := cnt_find _ _ hn
    have m1 := mc_beN X S P mt go hG hC.1 n m a1 a2 a3
    rw [← a3, bent_N hG l a1 a2, a3] at m2
    exact ⟨_, S, T, m1, m2, P, mt, go, Inv.ref ⟨hG, hC, hR⟩ kk.kc kk.ks⟩
  · rw [bent_B hG l hs] at m2
    exact ⟨_, S, T, mc_beB X S P mt go hG hC.1 k hs, m2, P, mt, go, Inv.ref ⟨hG, hC, hR⟩ kk.kc kk.ks⟩
theorem st_link (X : am_X) {S : MS} {P : Nat} {mt : Nat → Option Nat} {go : Nat → Nat} (h : Inv S P mt go) (k : Int32) : LawS X 86 135 [.int k] S := by
  obtain ⟨hG, hC, hR⟩ := h
  have hP := hG.1
  obtain ⟨T, m2, kk, l⟩ := mc_link X S P mt go k hG hR.1
  by_cases hs : inR (cnt (fs (CJ P mt go)) (4 * P)) k
  · obtain ⟨n, hn, rfl⟩ := inR_n (by have := cnt_le (fs (CJ P mt go)) (4 * P); omega) hs
    have m1 := mc_liN X S P mt go hG hC.1 n hn
    rw [link_N hG l hn] at m2
    exact ⟨_, S, T, m1, m2, P, mt, go, Inv.ref ⟨hG, hC, hR⟩ kk.kc kk.ks⟩
  · rw [link_B hG l hs] at m2
    exact ⟨_, S, T, mc_liB X S P mt go hG hC.1 k hs, m2, P, mt, go, Inv.ref ⟨hG, hC, hR⟩ kk.kc kk.ks⟩
theorem st_count (X : am_X) {S : MS} {P : Nat} {mt : Nat → Option Nat} {go : Nat → Nat} (h : Inv S P mt go) (what : Int32) : LawS X 87 141 [.int what] S := by
  obtain ⟨hG, hC, hR⟩ := h
  obtain ⟨T, w, e, m2, kk, l, hw, he⟩ := mc_count X S P mt go what hG hR.1
  obtain ⟨w', hw'⟩ := WhCA_ex P mt go
  obtain ⟨a, ha⟩ := AnyT_ex P (SJ P mt go)
  have m1 := mc_countC X S P mt go hG hC.1 w' a hw' ha what
  rw [cnt_eq hG l hw he hw' ha what] at m2
  exact ⟨_, S, T, m1, m2, P, mt, go, Inv.ref ⟨hG, hC, hR⟩ kk.kc kk.ks⟩
