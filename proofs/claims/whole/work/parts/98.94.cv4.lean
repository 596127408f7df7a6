/-! holes: all gluings that hold some pairs -/
def NBt (mt : Nat → Option Nat) (go : Nat → Nat) : Prop := ∃ L : Nat → Nat → Nat → Nat, (∀ s t a b, s < 12 → mt s = some t → a < 4 → b < 4 → a ≠ b → a ≠ s % 4 → b ≠ s % 4 → L (s / 4) a b = L (t / 4) (go (4 * s + a)) (go (4 * s + b))) ∧ ∀ p a b, p < 3 → a < 4 → b < 4 → a ≠ b → L p a b ≠ L p b a
def Hol (G : List PG) (mt : Nat → Option Nat) (go : Nat → Nat) : Prop := ∀ g ∈ G, mt g.1 = some g.2.1 ∧ ∀ c, c < 4 → go (4 * g.1 + c) = dg g.2.2 c
def Cvd (G : List PG) : Prop := ∀ mt go, GW 3 mt go → Hol G mt go → NBt mt go → ∃ k, k < 2990 ∧ LSy 3 mt go (TT kTB k)
theorem Cvd.sub {G G' : List PG} (h : Cvd G) (g : ∀ x ∈ G, x ∈ G') : Cvd G' := fun mt go hG hH hN => h mt go hG (fun x hx => hH x (g x hx)) hN
theorem NBt.rn {Pi : Nat → Nat} {V : Nat → Nat → Nat} {mt mt' : Nat → Option Nat} {go go' : Nat → Nat} (h : Ren Pi V) (r : Rnm Pi V mt go mt' go') (hG : GW 3 mt go) (n : NBt mt go) : NBt mt' go' := by
  obtain ⟨L, n1, n2⟩ := n
  have x0 : ∀ p', ∃ p, p' < 3 → p < 3 ∧ Pi p = p' := fun p' => by
    by_cases d : p' < 3
    · obtain ⟨p, q⟩ := inj_surj h.1 h.2.1 p' d
      exact ⟨p, fun _ => q⟩
    · exact ⟨0, fun w => absurd w d⟩
  obtain ⟨ip, hp⟩ := Classical.skolem.mp x0
  have x2 : ∀ p, ∃ g : Nat → Nat, ∀ c', c' < 4 → g c' < 4 ∧ V p (g c') = c' := fun p => by
    have : ∀ c', ∃ c, c' < 4 → c < 4 ∧ V p c = c' := fun c' => by
      by_cases d : c' < 4
      · obtain ⟨c, q⟩ := h.vj p c' d
        exact ⟨c, fun _ => q⟩
      · exact ⟨0, fun w => absurd w d⟩
    exact Classical.skolem.mp this
  obtain ⟨ic, hc⟩ := Classical.skolem.mp x2
  have ii : ∀ p, p < 3 → ip (Pi p) = p := fun p hp' => by
    have := hp (Pi p) (h.1 p hp')
    exact h.2.1 _ _ this.1 hp' this.2
  have cc : ∀ p c, c < 4 → ic p (V p c) = c := fun p c hcc => by
    have q := hc p (V p c) (h.2.2 p c hcc).1
    exact (h.2.2 p _ q.1).2 c hcc q.2
  refine ⟨fun p' a' b' => L (ip p') (ic (ip p') a') (ic (ip p') b'), fun s' t' a' b' hs' e' ha' hb' hn has hbs => ?_, fun p' a' b' hp' ha' hb' hn => ?_⟩
  · obtain ⟨s, s1, s2⟩ := h.sj s' hs'
    obtain ⟨r1, r2⟩ := r s s1
    rw [s2, e'] at r1
    cases e : mt s with
    | none => rw [e] at r1; cases r1
    | some t =>
      rw [e] at r1
      have et : t' = rS Pi V t := Option.some.inj r1
      have t12 := (hG.2 s (by omega) t e).1
      have g4 := (hG.2 s (by omega) t e).2.2.2.1
      obtain ⟨-, d1, d2⟩ := h.s s1
      obtain ⟨-, f1, f2⟩ := h.s (show t < 12 by omega)
      rw [s2] at d1 d2
      obtain ⟨a1, a2⟩ := hc (s / 4) a' ha'
      obtain ⟨b1, b2⟩ := hc (s / 4) b' hb'
      have q1 := r2 t e _ a1
      have q2 := r2 t e _ b1
      rw [s2, a2] at q1
      rw [s2, b2] at q2
      dsimp only
      rw [d1, ii _ (by omega), q1, q2, et, f1, ii _ (by omega), cc _ _ (g4 _ a1).1, cc _ _ (g4 _ b1).1]
      refine n1 s t _ _ s1 e a1 b1 (fun w => hn (by rw [← a2, ← b2, w])) (fun w => has (by rw [d2, ← w, a2])) (fun w => hbs (by rw [d2, ← w, b2]))
  · obtain ⟨p1, p2⟩ := hp p' hp'
    obtain ⟨a1, a2⟩ := hc (ip p') a' ha'
    obtain ⟨b1, b2⟩ := hc (ip p') b' hb'
    exact n2 _ _ _ p1 a1 b1 (fun w => hn (by rw [← a2, ← b2, w]))
section
variable {PP m0 m1 m2 : Nat}
theorem ren_of (hP : PP ∈ pp6) (h0 : m0 ∈ pms) (h1 : m1 ∈ pms) (h2 : m2 ∈ pms) : Ren (dg PP) (fun p => dg (mmf m0 m1 m2 p)) := ⟨fun p hp => (pp6_ok _ hP p hp).1, fun p q hp hq e => (pp6_ok _ hP p hp).2 q hq e, fun p c hc => pms_ok _ (mmf_in h0 h1 h2 p) c hc⟩
theorem Hol.act (hP : PP ∈ pp6) (h0 : m0 ∈ pms) (h1 : m1 ∈ pms) (h2 : m2 ∈ pms) {mt mt' : Nat → Option Nat} {go go' : Nat → Nat} (r : Rnm (dg PP) (fun p => dg (mmf m0 m1 m2 p)) mt go mt' go') (hG : GW 3 mt go) {G : List PG} (hV : ∀ g ∈ G, okG g) (h : Hol G mt go) : Hol (G.map (actG PP m0 m1 m2)) mt' go' := by
  intro g' hg'
  obtain ⟨g, hg, rfl⟩ := List.mem_map.mp hg'
  obtain ⟨e1, e2⟩ := h g hg
  obtain ⟨o1, o2, o3, o4⟩ := hV g hg
  have s12 : g.1 < 12 := by omega
  have ha := mmf_in h0 h1 h2 (g.1 / 4)
  have hb := mmf_in h0 h1 h2 (g.2.1 / 4)
  obtain ⟨c1, c2⟩ := comp_ok _ hb _ o3
  have g3 := hG.2 g.1 (by omega) g.2.1 e1
  obtain ⟨rs1, rs2⟩ := r g.1 s12
  obtain ⟨rt1, rt2⟩ := r g.2.1 o2
  rw [e1] at rs1
  rw [g3.2.2.1] at rt1
  have rs2 := rs2 g.2.1 e1
  have rt2 := rt2 g.1 g3.2.2.1
  unfold actG
  by_cases c : sgS PP m0 m1 m2 g.1 < sgS PP m0 m1 m2 g.2.1
  · rw [if_pos c]
    refine ⟨rs1, fun c' hc' => ?_⟩
    obtain ⟨r1, r2⟩ := reix_ok _ ha _ c1
    obtain ⟨d, hd, ed⟩ := pms_sj _ ha c' hc'
    have := rs2 d hd
    dsimp only at this
    rw [ed] at this
    show go' (4 * sgS PP m0 m1 m2 g.1 + c') = dg (reix _ _) c'
    rw [← ed, r2 d hd, c2 d hd, ← e2 d hd, ed]
    exact this
  · rw [if_neg c]
    refine ⟨rt1, fun c' hc' => ?_⟩
    obtain ⟨r1, r2⟩ := reix_ok _ c1 _ ha
    obtain ⟨d, hd, ed⟩ := pms_sj _ c1 c' hc'
    have q := g3.2.2.2.1 d hd
    have := rt2 _ q.1
    dsimp only at this
    rw [q.2, e2 d hd, ← c2 d hd, ed] at this
    show go' (4 * sgS PP m0 m1 m2 g.2.1 + c') = dg (reix _ _) c'
    rw [← ed, r2 d hd, ed]
    exact this
theorem Cvd.sym (hP : PP ∈ pp6) (h0 : m0 ∈ pms) (h1 : m1 ∈ pms) (h2 : m2 ∈ pms) {G : List PG} (hV : ∀ g ∈ G, okG g) (h : Cvd (G.map (actG PP m0 m1 m2))) : Cvd G := by
  intro mt go hG hH hN
  have re := ren_of hP h0 h1 h2
  obtain ⟨mt', go', r, hG'⟩ := Rnm.ex re hG
  obtain ⟨k, k1, k2⟩ := h mt' go' hG' (Hol.act hP h0 h1 h2 r hG hV hH) (hN.rn re r hG)
  exact ⟨k, k1, k2.rn re r hG hG'⟩
end
theorem Cvd.step {G : List PG} (hV : ∀ g ∈ G, okG g) (hx : ∀ mt go, GW 3 mt go → Hol G mt go → (∀ s, s < 12 → s ∉ sds G → mt s = none) → ∃ k, k < 2990 ∧ LSy 3 mt go (TT kTB k)) (hs : ∀ g, Addb G g → Cvd (g :: G)) : Cvd G := by
  intro mt go hG hH hN
  by_cases c : ∃ s, s < 12 ∧ s ∉ sds G ∧ mt s ≠ none
  · obtain ⟨s, s1, s2, s3⟩ := c
    cases e : mt s with
    | none => exact absurd e s3
    | some t =>
      obtain ⟨g1, g2, g3, -⟩ := hG.2 s (by omega) t e
      have t2 : t ∉ sds G := fun w => by
        obtain ⟨g, q1, q2⟩ := mem_sds.mp w
        have a := (hH g q1).1
        rcases q2 with q | q
        · rw [← q, g3] at a
          cases a
          exact s2 (mem_sds.mpr ⟨g, q1, Or.inr rfl⟩)
        · have o := hV g q1
          have b := (hG.2 g.1 (by have := o.1; have := o.2.1; omega) _ a).2.2.1
          rw [← q, g3] at b
          cases b
          exact s2 (mem_sds.mpr ⟨g, q1, Or.inl rfl⟩)
      have fin : ∀ a b, a < 12 → mt a = some b → a < b → a ∉ sds G → b ∉ sds G → ∃ k, k < 2990 ∧ LSy 3 mt go (TT kTB k) := fun a b ha ea hab na nb => by
        refine hs (a, b, pmc go a) ⟨okG_prg hG (by omega) ea hab, na, nb⟩ mt go hG (fun x hx => ?_) hN
        rcases List.mem_cons.mp hx with w | w
        · rw [w]
          exact ⟨ea, fun c hc => ((pmc_ok hG (by omega) ea).2 c hc).symm⟩
        · exact hH x w
      by_cases d : s < t
      · exact fin s t s1 e d s2 t2
      · exact fin t s (by omega) g3 (by omega) t2 s2
  · refine hx mt go hG hH (fun s s1 s2 => ?_)
    cases e : mt s with
    | none => rfl
    | some t => exact absurd ⟨s, s1, s2, by rw [e]; exact fun z => by cases z⟩ c
