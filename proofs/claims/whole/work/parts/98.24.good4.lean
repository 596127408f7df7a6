/-! the search: named anew, as many rows -/
theorem lgP_iff {v : Vc} : lgP 3 v ↔ ∀ p, p < 3 → ∀ k l, k < 3 → l < 3 → k ≠ l → v (7 * p + 4 + k) = 0 ∨ v (7 * p + 4 + l) = 0 := by
  constructor
  · intro h p hp k l hk hl hn
    have := h p hp
    by_cases a : v (7 * p + 4 + k) = 0
    · exact Or.inl a
    · by_cases b : v (7 * p + 4 + l) = 0
      · exact Or.inr b
      · exfalso
        rcases (show k = 0 ∨ k = 1 ∨ k = 2 by omega) with rfl | rfl | rfl <;> rcases (show l = 0 ∨ l = 1 ∨ l = 2 by omega) with rfl | rfl | rfl
        · exact hn rfl
        · exact this (Or.inl ⟨a, b⟩)
        · exact this (Or.inr (Or.inl ⟨a, b⟩))
        · exact this (Or.inl ⟨b, a⟩)
        · exact hn rfl
        · exact this (Or.inr (Or.inr ⟨a, b⟩))
        · exact this (Or.inr (Or.inl ⟨b, a⟩))
        · exact this (Or.inr (Or.inr ⟨b, a⟩))
        · exact hn rfl
  · intro h p hp q
    rcases q with q | q | q
    · exact (h p hp 0 1 (by omega) (by omega) (by omega)).elim q.1 q.2
    · exact (h p hp 0 2 (by omega) (by omega) (by omega)).elim q.1 q.2
    · exact (h p hp 1 2 (by omega) (by omega) (by omega)).elim q.1 q.2
section
variable {PP m0 m1 m2 : Nat}
theorem pull_lg (hP : PP ∈ pp6) (h0 : m0 ∈ pms) (h1 : m1 ∈ pms) (h2 : m2 ∈ pms) {v : Vc} (h : lgP 3 (pull PP m0 m1 m2 v)) : lgP 3 v := by
  rw [lgP_iff] at h ⊢
  intro p hp k l hk hl hn
  obtain ⟨p', hp', ep⟩ := inj_surj (n := 3) (f := dg PP) (fun i hi => (pp6_ok _ hP i hi).1) (fun i j hi hj e => (pp6_ok _ hP i hi).2 j hj e) p hp
  have hm := mmf_in h0 h1 h2 p'
  have sj := inj_surj (n := 3) (f := kap (mmf m0 m1 m2 p')) (fun i hi => (kap_in _ hm i hi).1) (fun i j hi hj e => (kap_in _ hm i hi).2 j hj e)
  obtain ⟨k', hk', ek⟩ := sj k hk
  obtain ⟨l', hl', el⟩ := sj l hl
  have at_ : ∀ j, j < 3 → pull PP m0 m1 m2 v (7 * p' + 4 + j) = v (7 * p + 4 + kap (mmf m0 m1 m2 p') j) := fun j hj => by
    unfold pull tau
    rw [if_pos (by omega), show (7 * p' + 4 + j) / 7 = p' by omega, show (7 * p' + 4 + j) % 7 = 4 + j by omega, if_neg (by omega), show 4 + j - 4 = j by omega, ep]
    congr 1
    omega
  have := h p' hp' k' l' hk' hl' (fun e => hn (by rw [← ek, ← el, e]))
  rw [at_ k' hk', at_ l' hl', ek, el] at this
  exact this
theorem NBd.sym (hP : PP ∈ pp6) (h0 : m0 ∈ pms) (h1 : m1 ∈ pms) (h2 : m2 ∈ pms) {l l' : List QF} {k : Nat} (g : ∀ v, (∀ q ∈ l', qF q v = 0) ↔ ∀ q ∈ l, qF q (pull PP m0 m1 m2 v) = 0) (h : NBd (FL l') k) : NBd (FL l) k := fun n R x => by
  obtain ⟨n', R', x'⟩ := FL_ex l'
  refine Nat.le_trans ?_ (h n' R' x')
  obtain ⟨ti, tj⟩ := tau_in hP h0 h1 h2
  have hin : ∀ j, ∃ i, j < 21 → i < 21 ∧ tau PP m0 m1 m2 i = j := fun j => by
    by_cases c : j < 21
    · obtain ⟨i, hi⟩ := inj_surj ti tj j c
      exact ⟨i, fun _ => hi⟩
    · exact ⟨0, fun w => absurd w c⟩
  obtain ⟨inv, hinv⟩ := Classical.skolem.mp hin
  have back : ∀ u : Vc, (∀ i, 21 ≤ i → u i = 0) → pull PP m0 m1 m2 (fun j => if j < 21 then u (inv j) else 0) = u := fun u hu => by
    funext i
    unfold pull
    by_cases c : i < 21
    · rw [if_pos c]
      dsimp only
      have t := ti i c
      rw [if_pos t]
      obtain ⟨a, b⟩ := hinv _ t
      rw [tj _ _ a c b]
    · rw [if_neg c, hu i (by omega)]
  have mv : ∀ u, MinS 21 (lgP 3) (FL l) u → MinS 21 (lgP 3) (FL l') (fun j => if j < 21 then u (inv j) else 0) := fun u hu => by
    have hb := back u hu.1.2.2
    refine ⟨⟨?_, ?_, fun j hj => if_neg (by omega)⟩, ?_, fun y hy hs j z => ?_⟩
    · rw [FL_z, g, hb, ← FL_z]
      exact hu.1.1
    · obtain ⟨i, i1, i2⟩ := hu.1.2.1
      refine ⟨tau PP m0 m1 m2 i, ti i i1, ?_⟩
      dsimp only
      rw [if_pos (ti i i1)]
      obtain ⟨a, b⟩ := hinv _ (ti i i1)
      rw [tj _ _ a i1 b]
      exact i2
    · apply pull_lg hP h0 h1 h2
      rw [hb]
      exact hu.2.1
    · dsimp only
      by_cases c : j < 21
      · rw [if_pos c]
        obtain ⟨a, b⟩ := hinv j c
        have hS : Sol 21 (FL l) (pull PP m0 m1 m2 y) := by
          refine ⟨?_, ?_, fun i hi => if_neg (by omega)⟩
          · rw [FL_z, ← g, ← FL_z]
            exact hy.1
          · obtain ⟨i, i1, i2⟩ := hy.2.1
            obtain ⟨a', b'⟩ := hinv i i1
            refine ⟨inv i, a', ?_⟩
            unfold pull
            rw [if_pos a', b']
            exact i2
        have := hu.2.2 _ hS (fun i zi => by
          unfold pull
          by_cases d : i < 21
          · rw [if_pos d]
            refine hs _ ?_
            dsimp only
            rw [if_pos (ti i d)]
            obtain ⟨a', b'⟩ := hinv _ (ti i d)
            rw [tj _ _ a' d b']
            exact zi
          · rw [if_neg d])
        refine this (inv j) ?_
        unfold pull
        rw [if_pos a, b]
        exact z
      · rw [if_neg c]
  refine rows_le (m := n') (fun r j => j < n' ∧ sbv (R' j) (fun i => if i < 21 then R r (inv i) else 0)) (fun r hr => ?_) (fun r s j hr hs a b => ?_)
  · obtain ⟨j, j1, j2⟩ := x'.2.1 _ (mv _ (x.1 r hr))
    exact ⟨j, j1, j1, j2⟩
  · have a2 := (mv _ (x.1 r hr)).2.2 _ (x'.1 j a.1).1 a.2
    have ab := a2.trans b.2
    refine x.2.2 r s hr hs (fun i z => ?_)
    by_cases c : i < 21
    · have t := ti i c
      obtain ⟨a', b'⟩ := hinv _ t
      have e := tj _ _ a' c b'
      have := ab (tau PP m0 m1 m2 i) (by dsimp only; rw [if_pos t, e]; exact z)
      dsimp only at this
      rw [if_pos t, e] at this
      exact this
    · exact (x.1 r hr).1.2.2 i (by omega)
theorem mem_eqP {g : PG} {q : QF} : q ∈ eqP g ↔ ∃ c, c < 4 ∧ c ≠ g.1 % 4 ∧ q = (g.1, g.2.1, c, dg g.2.2 c) := by
  unfold eqP
  rw [List.mem_map]
  constructor
  · rintro ⟨c, hc, rfl⟩
    have := List.mem_filter.mp hc
    refine ⟨c, ?_, of_decide_eq_true this.2, rfl⟩
    have h4 : ∀ x ∈ [0, 1, 2, 3], x < 4 := by decide
    exact h4 c this.1
  · rintro ⟨c, h1, h2, rfl⟩
    have h4 : ∀ x, x < 4 → x ∈ [0, 1, 2, 3] := by decide
    exact ⟨c, List.mem_filter.mpr ⟨h4 c h1, decide_eq_true h2⟩, rfl⟩
theorem act_ok (hP : PP ∈ pp6) (h0 : m0 ∈ pms) (h1 : m1 ∈ pms) (h2 : m2 ∈ pms) {g : PG} (hg : okG g) : okG (actG PP m0 m1 m2 g) := by
  obtain ⟨g1, g2, g3, g4⟩ := hg
  have s12 : g.1 < 12 := by omega
  obtain ⟨a1, a2, a3⟩ := sg_div hP h0 h1 h2 s12
  obtain ⟨b1, b2, b3⟩ := sg_div hP h0 h1 h2 g2
  have ha := mmf_in h0 h1 h2 (g.1 / 4)
  have hb := mmf_in h0 h1 h2 (g.2.1 / 4)
  obtain ⟨c1, c2⟩ := comp_ok _ hb _ g3
  have m4 := Nat.mod_lt g.1 (show 0 < 4 by decide)
  have hn : comp (mmf m0 m1 m2 (g.2.1 / 4)) g.2.2 |> fun n => dg n (g.1 % 4) = dg (mmf m0 m1 m2 (g.2.1 / 4)) (g.2.1 % 4) := by
    show dg (comp _ _) _ = _
    rw [c2 _ m4, g4]
  have hn : dg (comp (mmf m0 m1 m2 (g.2.1 / 4)) g.2.2) (g.1 % 4) = dg (mmf m0 m1 m2 (g.2.1 / 4)) (g.2.1 % 4) := hn
  unfold actG
  by_cases c : sgS PP m0 m1 m2 g.1 < sgS PP m0 m1 m2 g.2.1
  · rw [if_pos c]
    obtain ⟨r1, r2⟩ := reix_ok _ ha _ c1
    refine ⟨c, b3, r1, ?_⟩
    show dg (reix _ _) (sgS PP m0 m1 m2 g.1 % 4) = sgS PP m0 m1 m2 g.2.1 % 4
    rw [a2, b2, r2 _ m4, hn]
  · rw [if_neg c]
    obtain ⟨r1, r2⟩ := reix_ok _ c1 _ ha
    have ne : sgS PP m0 m1 m2 g.1 ≠ sgS PP m0 m1 m2 g.2.1 := fun e => by
      have := sg_inj hP h0 h1 h2 s12 g2 e
      omega
    refine ⟨by show sgS PP m0 m1 m2 g.2.1 < sgS PP m0 m1 m2 g.1; omega, a3, r1, ?_⟩
    show dg (reix _ _) (sgS PP m0 m1 m2 g.2.1 % 4) = sgS PP m0 m1 m2 g.1 % 4
    rw [a2, b2, ← hn, r2 _ m4]
theorem actQ_in (hP : PP ∈ pp6) (h0 : m0 ∈ pms) (h1 : m1 ∈ pms) (h2 : m2 ∈ pms) {g : PG} (hg : okG g) {c : Nat} (hc : c < 4) (hn : c ≠ g.1 % 4) : actQ PP m0 m1 m2 (g.1, g.2.1, c, dg g.2.2 c) ∈ eqP (actG PP m0 m1 m2 g) := by
  obtain ⟨g1, g2, g3, g4⟩ := hg
  have s12 : g.1 < 12 := by omega
  obtain ⟨a1, a2, a3⟩ := sg_div hP h0 h1 h2 s12
  obtain ⟨b1, b2, b3⟩ := sg_div hP h0 h1 h2 g2
  have ha := mmf_in h0 h1 h2 (g.1 / 4)
  have hb := mmf_in h0 h1 h2 (g.2.1 / 4)
  obtain ⟨c1, c2⟩ := comp_ok _ hb _ g3
  have m4 := Nat.mod_lt g.1 (show 0 < 4 by decide)
  have pa := pms_ok _ ha
  have pn := pms_ok _ c1
  rw [mem_eqP]
  unfold actQ actG
  dsimp only
  by_cases d : sgS PP m0 m1 m2 g.1 < sgS PP m0 m1 m2 g.2.1
  · rw [if_pos d, if_pos d]
    obtain ⟨r1, r2⟩ := reix_ok _ ha _ c1
    refine ⟨dg (mmf m0 m1 m2 (g.1 / 4)) c, (pa c hc).1, fun e => hn ?_, ?_⟩
    · rw [a2] at e
      exact (pa c hc).2 _ m4 e
    · rw [r2 c hc, c2 c hc]
  · rw [if_neg d, if_neg d]
    obtain ⟨r1, r2⟩ := reix_ok _ c1 _ ha
    refine ⟨dg (mmf m0 m1 m2 (g.2.1 / 4)) (dg g.2.2 c), ?_, fun e => hn ?_, ?_⟩
    · rw [← c2 c hc]; exact (pn c hc).1
    · have e : dg (mmf m0 m1 m2 (g.2.1 / 4)) (dg g.2.2 c) = sgS PP m0 m1 m2 g.2.1 % 4 := e
      rw [b2, ← g4, ← c2 c hc, ← c2 _ m4] at e
      exact (pn c hc).2 _ m4 e
    · rw [← c2 c hc, r2 c hc]
theorem actQ_sj (hP : PP ∈ pp6) (h0 : m0 ∈ pms) (h1 : m1 ∈ pms) (h2 : m2 ∈ pms) {g : PG} (hg : okG g) {q : QF} (hq : q ∈ eqP (actG PP m0 m1 m2 g)) : ∃ c, c < 4 ∧ c ≠ g.1 % 4 ∧ q = actQ PP m0 m1 m2 (g.1, g.2.1, c, dg g.2.2 c) := by
  obtain ⟨g1, g2, g3, g4⟩ := hg
  have s12 : g.1 < 12 := by omega
  obtain ⟨a1, a2, a3⟩ := sg_div hP h0 h1 h2 s12
  obtain ⟨b1, b2, b3⟩ := sg_div hP h0 h1 h2 g2
  have ha := mmf_in h0 h1 h2 (g.1 / 4)
  have hb := mmf_in h0 h1 h2 (g.2.1 / 4)
  obtain ⟨c1, c2⟩ := comp_ok _ hb _ g3
  have m4 := Nat.mod_lt g.1 (show 0 < 4 by decide)
  obtain ⟨c', hc', hn', rfl⟩ := mem_eqP.mp hq
  unfold actQ
  unfold actG at hn' ⊢
  dsimp only at hn' ⊢
  by_cases d : sgS PP m0 m1 m2 g.1 < sgS PP m0 m1 m2 g.2.1
  · rw [if_pos d] at hn' ⊢
    obtain ⟨r1, r2⟩ := reix_ok _ ha _ c1
    obtain ⟨c, hc, e⟩ := pms_sj _ ha c' hc'
    refine ⟨c, hc, fun w => hn' ?_, ?_⟩
    · show c' = sgS PP m0 m1 m2 g.1 % 4
      rw [a2, ← w, e]
    · rw [if_pos d]
      dsimp only
      rw [← e, r2 c hc, c2 c hc]
  · rw [if_neg d] at hn' ⊢
    obtain ⟨r1, r2⟩ := reix_ok _ c1 _ ha
    obtain ⟨c, hc, e⟩ := pms_sj _ c1 c' hc'
    refine ⟨c, hc, fun w => hn' ?_, ?_⟩
    · show c' = sgS PP m0 m1 m2 g.2.1 % 4
      rw [b2, ← e, w, c2 _ m4, g4]
    · rw [if_neg d]
      dsimp only
      rw [← e, r2 c hc, c2 c hc]
theorem eqP_lt {g : PG} (hg : okG g) {q : QF} (hq : q ∈ eqP g) : q.1 < 12 ∧ q.2.1 < 12 ∧ q.2.2.1 < 4 ∧ q.2.2.2 < 4 ∧ q.2.2.1 ≠ q.1 % 4 ∧ q.2.2.2 ≠ q.2.1 % 4 := by
  obtain ⟨g1, g2, g3, g4⟩ := hg
  obtain ⟨c, hc, hn, rfl⟩ := mem_eqP.mp hq
  have m4 := Nat.mod_lt g.1 (show 0 < 4 by decide)
  refine ⟨by show g.1 < 12; omega, g2, hc, (pms_ok _ g3 c hc).1, hn, fun e => hn ?_⟩
  have e : dg g.2.2 c = g.2.1 % 4 := e
  rw [← g4] at e
  exact (pms_ok _ g3 c hc).2 _ m4 e
theorem act_sds (hP : PP ∈ pp6) (h0 : m0 ∈ pms) (h1 : m1 ∈ pms) (h2 : m2 ∈ pms) : ∀ K : List PG, (sds (K.map (actG PP m0 m1 m2))).Perm ((sds K).map (sgS PP m0 m1 m2))
  | [] => List.Perm.refl _
  | g :: K => by
    show ((actG PP m0 m1 m2 g).1 :: (actG PP m0 m1 m2 g).2.1 :: sds (K.map (actG PP m0 m1 m2))).Perm (sgS PP m0 m1 m2 g.1 :: sgS PP m0 m1 m2 g.2.1 :: (sds K).map (sgS PP m0 m1 m2))
    have ih := act_sds hP h0 h1 h2 K
    unfold actG
    by_cases d : sgS PP m0 m1 m2 g.1 < sgS PP m0 m1 m2 g.2.1
    · rw [if_pos d]
      exact (ih.cons _).cons _
    · rw [if_neg d]
      exact (List.Perm.swap _ _ _).trans ((ih.cons _).cons _)
theorem act_vld (hP : PP ∈ pp6) (h0 : m0 ∈ pms) (h1 : m1 ∈ pms) (h2 : m2 ∈ pms) {K : List PG} (h : Vld K) : Vld (K.map (actG PP m0 m1 m2)) := by
  refine ⟨fun g hg => ?_, ?_⟩
  · obtain ⟨x, hx, rfl⟩ := List.mem_map.mp hg
    exact act_ok hP h0 h1 h2 (h.1 x hx)
  · refine (act_sds hP h0 h1 h2 K).nodup_iff.mpr ?_
    have h12 : ∀ x ∈ sds K, x < 12 := fun x hx => by
      obtain ⟨g, g1, g2⟩ := mem_sds.mp hx
      have := h.1 g g1
      have a := this.1
      have b := this.2.1
      rcases g2 with e | e <;> omega
    have : ∀ l : List Nat, (∀ x ∈ l, x < 12) → l.Nodup → (l.map (sgS PP m0 m1 m2)).Nodup := by
      intro l
      induction l with
      | nil => exact fun _ _ => List.nodup_nil
      | cons x l ih =>
        intro hl hn
        obtain ⟨n1, n2⟩ := List.nodup_cons.mp hn
        refine List.nodup_cons.mpr ⟨fun w => ?_, ih (fun y hy => hl y (List.mem_cons_of_mem _ hy)) n2⟩
        obtain ⟨y, hy, e⟩ := List.mem_map.mp w
        have := sg_inj hP h0 h1 h2 (hl y (List.mem_cons_of_mem _ hy)) (hl x (List.mem_cons_self ..)) e
        rw [this] at hy
        exact n1 hy
    exact this _ h12 h.2
/-- what holds for the gluing named anew holds for the gluing -/
theorem Good.sym (hP : PP ∈ pp6) (h0 : m0 ∈ pms) (h1 : m1 ∈ pms) (h2 : m2 ∈ pms) {G : List PG} (h : Good (G.map (actG PP m0 m1 m2))) : Good G := by
  intro K hK hs
  obtain ⟨k1, k2⟩ := h (K.map (actG PP m0 m1 m2)) (act_vld hP h0 h1 h2 hK) (fun g hg => by
    obtain ⟨x, hx, rfl⟩ := List.mem_map.mp hg
    exact List.mem_map_of_mem (hs x hx))
  have ek : ∀ K : List PG, Vld K → ∀ v, (∀ q ∈ EqG (K.map (actG PP m0 m1 m2)), qF q v = 0) ↔ ∀ q ∈ EqG K, qF q (pull PP m0 m1 m2 v) = 0 := by
    intro K hK v
    constructor
    · intro a q hq
      obtain ⟨g, hg, hgq⟩ := mem_EqG.mp hq
      have lt := eqP_lt (hK.1 g hg) hgq
      rw [← actQ_z hP h0 h1 h2 lt.1 lt.2.1 lt.2.2.1 lt.2.2.2.1 lt.2.2.2.2.1 lt.2.2.2.2.2]
      obtain ⟨c, hc, hn, rfl⟩ := mem_eqP.mp hgq
      exact a _ (mem_EqG.mpr ⟨_, List.mem_map_of_mem hg, actQ_in hP h0 h1 h2 (hK.1 g hg) hc hn⟩)
    · intro a q hq
      obtain ⟨g', hg', hgq⟩ := mem_EqG.mp hq
      obtain ⟨g, hg, rfl⟩ := List.mem_map.mp hg'
      obtain ⟨c, hc, hn, rfl⟩ := actQ_sj hP h0 h1 h2 (hK.1 g hg) hgq
      have hm : (g.1, g.2.1, c, dg g.2.2 c) ∈ eqP g := mem_eqP.mpr ⟨c, hc, hn, rfl⟩
      have lt := eqP_lt (hK.1 g hg) hm
      rw [actQ_z hP h0 h1 h2 lt.1 lt.2.1 lt.2.2.1 lt.2.2.2.1 lt.2.2.2.2.1 lt.2.2.2.2.2]
      exact a _ (mem_EqG.mpr ⟨g, hg, hm⟩)
  refine ⟨k1.sym hP h0 h1 h2 (ek K hK), fun g hg S hS => ?_⟩
  have hgo : okG g := hg.1 g (List.mem_append_right _ (List.mem_singleton.mpr rfl))
  have hV := act_vld hP h0 h1 h2 hg
  rw [List.map_append] at hV
  refine (k2 (actG PP m0 m1 m2 g) hV (S.map (actQ PP m0 m1 m2)) (fun q hq => by
    obtain ⟨x, hx, rfl⟩ := List.mem_map.mp hq
    obtain ⟨c, hc, hn, rfl⟩ := mem_eqP.mp (hS x hx)
    exact actQ_in hP h0 h1 h2 hgo hc hn)).sym hP h0 h1 h2 (fun v => ?_)
  have e := ek K hK v
  constructor
  · intro a q hq
    rcases List.mem_append.mp hq with w | w
    · exact e.mp (fun x hx => a x (List.mem_append_left _ hx)) q w
    · have lt := eqP_lt hgo (hS q w)
      rw [← actQ_z hP h0 h1 h2 lt.1 lt.2.1 lt.2.2.1 lt.2.2.2.1 lt.2.2.2.2.1 lt.2.2.2.2.2]
      exact a _ (List.mem_append_right _ (List.mem_map_of_mem w))
  · intro a q hq
    rcases List.mem_append.mp hq with w | w
    · exact e.mpr (fun x hx => a x (List.mem_append_left _ hx)) q w
    · obtain ⟨x, hx, rfl⟩ := List.mem_map.mp w
      have lt := eqP_lt hgo (hS x hx)
      rw [actQ_z hP h0 h1 h2 lt.1 lt.2.1 lt.2.2.1 lt.2.2.2.1 lt.2.2.2.2.1 lt.2.2.2.2.2]
      exact a x (List.mem_append_right _ hx)
end
