/-! the search: gluings as lists of pairs of sides -/
abbrev PG := Nat × Nat × Nat
def dg (m c : Nat) : Nat := Nat.land (Nat.shiftRight m (Nat.mul 2 c)) 3
def pms : List Nat := [228, 180, 216, 120, 156, 108, 225, 177, 201, 57, 141, 45, 210, 114, 198, 54, 78, 30, 147, 99, 135, 39, 75, 27]
def okG (g : PG) : Prop := g.1 < g.2.1 ∧ g.2.1 < 12 ∧ g.2.2 ∈ pms ∧ dg g.2.2 (g.1 % 4) = g.2.1 % 4
def eqP (g : PG) : List QF := ([0, 1, 2, 3].filter (fun c => decide (c ≠ g.1 % 4))).map (fun c => (g.1, g.2.1, c, dg g.2.2 c))
def sds (G : List PG) : List Nat := G.flatMap (fun g => [g.1, g.2.1])
def Vld (G : List PG) : Prop := (∀ g ∈ G, okG g) ∧ (sds G).Nodup
def EqG (G : List PG) : List QF := G.flatMap eqP
/-- all gluings that hold G, and all steps on the way to one pair more, have few rows -/
def Good (G : List PG) : Prop := ∀ K, Vld K → (∀ g ∈ G, g ∈ K) → NBd (FL (EqG K)) 64 ∧ ∀ g, Vld (K ++ [g]) → ∀ S : List QF, (∀ q ∈ S, q ∈ eqP g) → NBd (FL (EqG K ++ S)) 64
def Addb (G : List PG) (h : PG) : Prop := okG h ∧ h.1 ∉ sds G ∧ h.2.1 ∉ sds G
theorem Good.sub {G G' : List PG} (h : Good G) (g : ∀ x ∈ G, x ∈ G') : Good G' := fun K hK hs => h K hK (fun x hx => hs x (g x hx))
theorem mem_sds {G : List PG} {x : Nat} : x ∈ sds G ↔ ∃ g ∈ G, x = g.1 ∨ x = g.2.1 := by
  unfold sds
  rw [List.mem_flatMap]
  constructor
  · rintro ⟨g, h1, h2⟩
    rcases List.mem_cons.mp h2 with e | e
    · exact ⟨g, h1, Or.inl e⟩
    · exact ⟨g, h1, Or.inr (List.mem_singleton.mp e)⟩
  · rintro ⟨g, h1, e | e⟩
    · exact ⟨g, h1, by rw [e]; exact List.mem_cons_self ..⟩
    · exact ⟨g, h1, by rw [e]; exact List.mem_cons_of_mem _ (List.mem_singleton.mpr rfl)⟩
/-- two pairs with one side in common are one -/
theorem side_one : ∀ {K : List PG}, (sds K).Nodup → ∀ {g h : PG} {x : Nat}, g ∈ K → h ∈ K → (x = g.1 ∨ x = g.2.1) → (x = h.1 ∨ x = h.2.1) → g = h
  | [], _, g, h, x, hg, _, _, _ => by cases hg
  | k :: K, hn, g, h, x, hg, hh, xg, xh => by
    have hn : (k.1 :: k.2.1 :: sds K).Nodup := hn
    obtain ⟨n1, n2⟩ := List.nodup_cons.mp hn
    obtain ⟨n2, n3⟩ := List.nodup_cons.mp n2
    have no : ∀ y : PG, y ∈ K → (x = y.1 ∨ x = y.2.1) → (x = k.1 ∨ x = k.2.1) → False := fun y hy hy2 hk => by
      have := mem_sds.mpr ⟨y, hy, hy2⟩
      rcases hk with e | e
      · rw [e] at this; exact n1 (List.mem_cons_of_mem _ this)
      · rw [e] at this; exact n2 this
    by_cases eg : g = k
    · by_cases eh : h = k
      · rw [eg, eh]
      · exact (no h ((List.mem_cons.mp hh).resolve_left eh) xh (by rw [← eg]; exact xg)).elim
    · have mg := (List.mem_cons.mp hg).resolve_left eg
      by_cases eh : h = k
      · exact (no g mg xg (by rw [← eh]; exact xh)).elim
      · exact side_one n3 mg ((List.mem_cons.mp hh).resolve_left eh) xg xh
theorem sds_app (K : List PG) (g : PG) : sds (K ++ [g]) = sds K ++ [g.1, g.2.1] := by
  unfold sds
  rw [List.flatMap_append]
  rfl
theorem addb_in {G K : List PG} (hK : Vld K) (hs : ∀ g ∈ G, g ∈ K) {h : PG} (hh : h ∈ K) (hn : h ∉ G) : Addb G h := by
  refine ⟨hK.1 h hh, fun w => ?_, fun w => ?_⟩
  · obtain ⟨g, g1, g2⟩ := mem_sds.mp w
    exact hn (by rw [← side_one hK.2 (hs g g1) hh g2 (Or.inl rfl)]; exact g1)
  · obtain ⟨g, g1, g2⟩ := mem_sds.mp w
    exact hn (by rw [← side_one hK.2 (hs g g1) hh g2 (Or.inr rfl)]; exact g1)
theorem addb_new {G K : List PG} {g : PG} (hK : Vld (K ++ [g])) (hs : ∀ x ∈ G, x ∈ K) : Addb G g := by
  have hn := hK.2
  rw [sds_app] at hn
  obtain ⟨-, -, n3⟩ := List.nodup_append.mp hn
  refine ⟨hK.1 g (List.mem_append_right _ (List.mem_singleton.mpr rfl)), fun w => ?_, fun w => ?_⟩
  · obtain ⟨x, x1, x2⟩ := mem_sds.mp w
    exact n3 _ (mem_sds.mpr ⟨x, hs x x1, x2⟩) _ (List.mem_cons_self ..) rfl
  · obtain ⟨x, x1, x2⟩ := mem_sds.mp w
    exact n3 _ (mem_sds.mpr ⟨x, hs x x1, x2⟩) _ (List.mem_cons_of_mem _ (List.mem_singleton.mpr rfl)) rfl
theorem mem_EqG {K : List PG} {q : QF} : q ∈ EqG K ↔ ∃ g ∈ K, q ∈ eqP g := List.mem_flatMap
/-- S is one of eight -/
theorem Good.step {G : List PG} (h0 : NBd (FL (EqG G)) 64) (h1 : ∀ g, Addb G g → ∀ e ∈ eqP g, NBd (FL (e :: EqG G)) 64) (h2 : ∀ g, Addb G g → ∀ e ∈ eqP g, ∀ e' ∈ eqP g, NBd (FL (e' :: e :: EqG G)) 64) (h3 : ∀ g, Addb G g → NBd (FL (eqP g ++ EqG G)) 64) (h4 : ∀ g, Addb G g → Good (g :: G)) : Good G := by
  intro K hK hs
  by_cases c : ∃ h, h ∈ K ∧ h ∉ G
  · obtain ⟨h, a, b⟩ := c
    exact h4 h (addb_in hK hs a b) K hK (fun x hx => by
      rcases List.mem_cons.mp hx with e | e
      · rw [e]; exact a
      · exact hs x e)
  · have hs2 : ∀ g ∈ K, g ∈ G := fun g hg => by
      by_cases w : g ∈ G
      · exact w
      · exact absurd ⟨g, hg, w⟩ c
    have hq : ∀ q, q ∈ EqG K ↔ q ∈ EqG G := fun q => by
      rw [mem_EqG, mem_EqG]
      exact ⟨fun ⟨g, a, b⟩ => ⟨g, hs2 g a, b⟩, fun ⟨g, a, b⟩ => ⟨g, hs g a, b⟩⟩
    refine ⟨h0.set hq, fun g hg S hS => ?_⟩
    have ha := addb_new hg hs
    by_cases e0 : ∃ e, e ∈ S
    · obtain ⟨e, he⟩ := e0
      by_cases e1 : ∃ e', e' ∈ S ∧ e' ≠ e
      · obtain ⟨e', he', hne⟩ := e1
        by_cases e2 : ∃ e'', e'' ∈ S ∧ e'' ≠ e ∧ e'' ≠ e'
        · -- three of three
          obtain ⟨e'', he'', n1, n2⟩ := e2
          have all : ∀ x ∈ eqP g, x ∈ S := by
            have hl : (eqP g).length ≤ 3 := by
              unfold eqP
              rw [List.length_map]
              have : g.1 % 4 < 4 := Nat.mod_lt _ (by decide)
              rcases (show g.1 % 4 = 0 ∨ g.1 % 4 = 1 ∨ g.1 % 4 = 2 ∨ g.1 % 4 = 3 by omega) with z | z | z | z <;> rw [z] <;> decide
            intro x hx
            by_cases w : x ∈ S
            · exact w
            · exfalso
              have x1 : x ≠ e := fun q => w (by rw [q]; exact he)
              have x2 : x ≠ e' := fun q => w (by rw [q]; exact he')
              have x3 : x ≠ e'' := fun q => w (by rw [q]; exact he'')
              have := rows_le (n := 4) (m := (eqP g).length) (fun r k => (eqP g)[k]? = some (if r = 0 then x else if r = 1 then e else if r = 2 then e' else e'')) (fun r hr => by
                have hm : (if r = 0 then x else if r = 1 then e else if r = 2 then e' else e'') ∈ eqP g := by
                  split
                  · exact hx
                  · split
                    · exact hS e he
                    · split
                      · exact hS e' he'
                      · exact hS e'' he''
                obtain ⟨k, hk, q⟩ := List.getElem_of_mem hm
                exact ⟨k, hk, by rw [List.getElem?_eq_getElem hk, q]⟩) (fun r s k hr hs a b => by
                have q := Option.some.inj (a.symm.trans b)
                rcases (show r = 0 ∨ r = 1 ∨ r = 2 ∨ r = 3 by omega) with rfl | rfl | rfl | rfl <;> rcases (show s = 0 ∨ s = 1 ∨ s = 2 ∨ s = 3 by omega) with rfl | rfl | rfl | rfl <;> simp at q <;> first | rfl | exact absurd q x1 | exact absurd q x2 | exact absurd q x3 | exact absurd q.symm x1 | exact absurd q.symm x2 | exact absurd q.symm x3 | exact absurd q hne | exact absurd q.symm hne | exact absurd q n1 | exact absurd q.symm n1 | exact absurd q n2 | exact absurd q.symm n2)
              omega
          refine (h3 g ha).set (fun q => ?_)
          rw [List.mem_append, List.mem_append, hq]
          exact ⟨fun w => w.elim Or.inr (fun w => Or.inl (hS q w)), fun w => w.elim (fun w => Or.inr (all q w)) Or.inl⟩
        · refine (h2 g ha e (hS e he) e' (hS e' he')).set (fun q => ?_)
          rw [List.mem_append, List.mem_cons, List.mem_cons, hq]
          constructor
          · rintro (w | w)
            · exact Or.inr (Or.inr w)
            · by_cases a : q = e'
              · exact Or.inl a
              · by_cases b : q = e
                · exact Or.inr (Or.inl b)
                · exact absurd ⟨q, w, b, a⟩ e2
          · rintro (w | w | w)
            · exact Or.inr (by rw [w]; exact he')
            · exact Or.inr (by rw [w]; exact he)
            · exact Or.inl w
      · refine (h1 g ha e (hS e he)).set (fun q => ?_)
        rw [List.mem_append, List.mem_cons, hq]
        constructor
        · rintro (w | w)
          · exact Or.inr w
          · by_cases b : q = e
            · exact Or.inl b
            · exact absurd ⟨q, w, b⟩ e1
        · rintro (w | w)
          · exact Or.inr (by rw [w]; exact he)
          · exact Or.inl w
    · refine h0.set (fun q => ?_)
      rw [List.mem_append, hq]
      exact ⟨fun w => w.elim id (fun w => absurd ⟨q, w⟩ e0), Or.inl⟩
/-- few rows and few lawful unions of them -/
theorem Good.prune {G : List PG} {rs : List Ray} (h : ExR (FL (EqG G)) rs) {U : List Nat} (hU : okU legalM U (rs.map Prod.fst)) (hl : U.length ≤ 64) : Good G := by
  have key : ∀ l : List QF, (∀ q ∈ EqG G, q ∈ l) → NBd (FL l) 64 := by
    intro l hs n R x
    obtain ⟨n0, R0, x0⟩ := FL_ex (EqG G)
    have hR : ∀ r, r < n0 → ∃ y ∈ rs, y.1 = mkV (R0 r) 21 := fun r hr => by
      obtain ⟨y, y1, y2⟩ := h.2.1 _ (x0.1 r hr)
      refine ⟨y, y1, ?_⟩
      rw [(h.1 y y1).1.1]
      exact mk_eq y2 ((x0.1 r hr).2.2 _ (h.1 y y1).2.1 y2)
    refine Nat.le_trans (x.masks (U := U) (fun k hk => ?_)) hl
    have m := x.1 k hk
    have hS : Sol 21 (FL (EqG G)) (R k) := ⟨FL_z.mpr (fun q hq => FL_z.mp m.1.1 q (hs q hq)), m.1.2⟩
    obtain ⟨s, hs1⟩ : ∃ s, s = (rs.filter (fun y => @decide (sbv (dvN y.2) (R k)) (Classical.propDecidable _))).map Prod.fst := ⟨_, rfl⟩
    have e : orL s = mkV (R k) 21 := by
      apply Nat.eq_of_testBit_eq
      intro i
      apply Bool.eq_iff_iff.mpr
      rw [orL_bit, hs1]
      constructor
      · rintro ⟨a, ha, hb⟩
        obtain ⟨y, hy, rfl⟩ := List.mem_map.mp ha
        have hy2 := List.mem_filter.mp hy
        have hsb : sbv (dvN y.2) (R k) := (@decide_eq_true_iff _ (Classical.propDecidable _)).mp hy2.2
        rw [(h.1 y hy2.1).1.1] at hb
        exact sb_mk hsb i hb
      · intro hb
        rw [mkV_bit] at hb
        simp at hb
        obtain ⟨q, q1, q2, q3⟩ := MinS.cover lgP_dn (FL_lin _) (i := i) _ (R k) (Nat.le_refl _) hS m.2.1 hb.2
        obtain ⟨y, y1, y2⟩ := h.2.1 q q1
        refine ⟨y.1, List.mem_map.mpr ⟨y, List.mem_filter.mpr ⟨y1, (@decide_eq_true_iff _ (Classical.propDecidable _)).mpr (y2.trans q2)⟩, rfl⟩, ?_⟩
        rw [(h.1 y y1).1.1, mkV_bit]
        simp
        exact ⟨hb.1, fun z => q3 (q1.2.2 _ (h.1 y y1).2.1 y2 i z)⟩
    rw [← e]
    refine hU s ?_ (by rw [e]; exact (legalM_iff _).mpr m.2.1)
    rw [hs1]
    exact List.Sublist.map _ List.filter_sublist
  intro K hK hs
  have hq : ∀ q ∈ EqG G, q ∈ EqG K := fun q hq => by
    obtain ⟨g, a, b⟩ := mem_EqG.mp hq
    exact mem_EqG.mpr ⟨g, hs g a, b⟩
  exact ⟨key _ hq, fun g _ S _ => key _ (fun q w => List.mem_append_left _ (hq q w))⟩
