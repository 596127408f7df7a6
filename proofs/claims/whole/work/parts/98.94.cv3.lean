/-! holes: pieces and corners named anew -/
def Ren (Pi : Nat → Nat) (V : Nat → Nat → Nat) : Prop := (∀ p, p < 3 → Pi p < 3) ∧ (∀ p q, p < 3 → q < 3 → Pi p = Pi q → p = q) ∧ ∀ p c, c < 4 → V p c < 4 ∧ ∀ d, d < 4 → V p c = V p d → c = d
def rS (Pi : Nat → Nat) (V : Nat → Nat → Nat) (s : Nat) : Nat := 4 * Pi (s / 4) + V (s / 4) (s % 4)
def rW (Pi : Nat → Nat) (V : Nat → Nat → Nat) (w : WS) : WS := (rS Pi V w.1, V (w.1 / 4) w.2.1, V (w.1 / 4) w.2.2)
def Rnm (Pi : Nat → Nat) (V : Nat → Nat → Nat) (mt : Nat → Option Nat) (go : Nat → Nat) (mt' : Nat → Option Nat) (go' : Nat → Nat) : Prop := ∀ s, s < 12 → mt' (rS Pi V s) = (mt s).map (rS Pi V) ∧ ∀ t, mt s = some t → ∀ c, c < 4 → go' (4 * rS Pi V s + V (s / 4) c) = V (t / 4) (go (4 * s + c))
section
variable {Pi : Nat → Nat} {V : Nat → Nat → Nat}
theorem Ren.s (h : Ren Pi V) {s : Nat} (hs : s < 12) : rS Pi V s < 12 ∧ rS Pi V s / 4 = Pi (s / 4) ∧ rS Pi V s % 4 = V (s / 4) (s % 4) := by
  have a := h.1 (s / 4) (by omega)
  have b := (h.2.2 (s / 4) (s % 4) (by omega)).1
  unfold rS
  omega
theorem Ren.si (h : Ren Pi V) {s t : Nat} (hs : s < 12) (ht : t < 12) (e : rS Pi V s = rS Pi V t) : s = t := by
  obtain ⟨-, a1, a2⟩ := h.s hs
  obtain ⟨-, b1, b2⟩ := h.s ht
  have e1 := h.2.1 (s / 4) (t / 4) (by omega) (by omega) (by rw [← a1, ← b1, e])
  have e2 := (h.2.2 (s / 4) (s % 4) (by omega)).2 (t % 4) (by omega) (by rw [← a2, e, b2, e1])
  omega
theorem Ren.sj (h : Ren Pi V) : ∀ s', s' < 12 → ∃ s, s < 12 ∧ rS Pi V s = s' := inj_surj (fun s hs => (h.s hs).1) (fun s t hs ht e => h.si hs ht e)
theorem Ren.vj (h : Ren Pi V) (p : Nat) : ∀ c', c' < 4 → ∃ c, c < 4 ∧ V p c = c' := inj_surj (fun c hc => (h.2.2 p c hc).1) (fun c d hc hd e => (h.2.2 p c hc).2 d hd e)
theorem Ren.v6 (h : Ren Pi V) (p : Nat) {a b c : Nat} (ha : a < 4) (hb : b < 4) (hc : c < 4) (h1 : a ≠ b) (h2 : a ≠ c) (h3 : b ≠ c) : V p (6 - a - b - c) = 6 - V p a - V p b - V p c := by
  have l0 := (h.2.2 p 0 (by omega)).1
  have l1 := (h.2.2 p 1 (by omega)).1
  have l2 := (h.2.2 p 2 (by omega)).1
  have l3 := (h.2.2 p 3 (by omega)).1
  have n01 : V p 0 ≠ V p 1 := fun e => by have := (h.2.2 p 0 (by omega)).2 1 (by omega) e; omega
  have n02 : V p 0 ≠ V p 2 := fun e => by have := (h.2.2 p 0 (by omega)).2 2 (by omega) e; omega
  have n03 : V p 0 ≠ V p 3 := fun e => by have := (h.2.2 p 0 (by omega)).2 3 (by omega) e; omega
  have n12 : V p 1 ≠ V p 2 := fun e => by have := (h.2.2 p 1 (by omega)).2 2 (by omega) e; omega
  have n13 : V p 1 ≠ V p 3 := fun e => by have := (h.2.2 p 1 (by omega)).2 3 (by omega) e; omega
  have n23 : V p 2 ≠ V p 3 := fun e => by have := (h.2.2 p 2 (by omega)).2 3 (by omega) e; omega
  have sum : V p 0 + V p 1 + V p 2 + V p 3 = 6 := by omega
  clear n01 n02 n03 n12 n13 n23
  rcases (show a = 0 ∨ a = 1 ∨ a = 2 ∨ a = 3 by omega) with rfl | rfl | rfl | rfl <;> rcases (show b = 0 ∨ b = 1 ∨ b = 2 ∨ b = 3 by omega) with rfl | rfl | rfl | rfl <;> first | exact absurd rfl h1 | (rcases (show c = 0 ∨ c = 1 ∨ c = 2 ∨ c = 3 by omega) with rfl | rfl | rfl | rfl <;> first | exact absurd rfl h2 | exact absurd rfl h3 | (simp only [Nat.sub_zero, Nat.reduceSub]; omega))
theorem Ren.wv (h : Ren Pi V) {w : WS} (hw : WV 3 w) : WV 3 (rW Pi V w) := by
  obtain ⟨h1, h2, h3, h4, h5, h6⟩ := hw
  obtain ⟨a1, a2, a3⟩ := h.s (show w.1 < 12 by omega)
  refine ⟨by show rS Pi V w.1 < 4 * 3; omega, (h.2.2 _ _ h2).1, (h.2.2 _ _ h3).1, fun e => h4 ((h.2.2 _ _ h2).2 _ h3 e), fun e => h5 ?_, fun e => h6 ?_⟩
  · have e : V (w.1 / 4) w.2.1 = rS Pi V w.1 % 4 := e
    rw [a3] at e
    exact (h.2.2 _ _ h2).2 _ (by omega) e
  · have e : V (w.1 / 4) w.2.2 = rS Pi V w.1 % 4 := e
    rw [a3] at e
    exact (h.2.2 _ _ h3).2 _ (by omega) e
theorem Ren.wi (h : Ren Pi V) {u v : WS} (hu : WV 3 u) (hv : WV 3 v) (e : rW Pi V u = rW Pi V v) : u = v := by
  have e1 : rS Pi V u.1 = rS Pi V v.1 := congrArg Prod.fst e
  have s := h.si (show u.1 < 12 by have := hu.1; omega) (show v.1 < 12 by have := hv.1; omega) e1
  have e2 : V (u.1 / 4) u.2.1 = V (v.1 / 4) v.2.1 := congrArg (fun z => z.2.1) e
  have e3 : V (u.1 / 4) u.2.2 = V (v.1 / 4) v.2.2 := congrArg (fun z => z.2.2) e
  rw [← s] at e2 e3
  exact Prod.ext s (Prod.ext ((h.2.2 _ _ hu.2.1).2 _ hv.2.1 e2) ((h.2.2 _ _ hu.2.2.1).2 _ hv.2.2.1 e3))
theorem Ren.wj (h : Ren Pi V) {v : WS} (hv : WV 3 v) : ∃ w, WV 3 w ∧ rW Pi V w = v := by
  obtain ⟨h1, h2, h3, h4, h5, h6⟩ := hv
  obtain ⟨s, s1, s2⟩ := h.sj v.1 (by omega)
  obtain ⟨a, a1, a2⟩ := h.vj (s / 4) v.2.1 h2
  obtain ⟨b, b1, b2⟩ := h.vj (s / 4) v.2.2 h3
  have q := (h.s s1).2.2
  rw [s2] at q
  refine ⟨(s, a, b), ⟨by show s < 4 * 3; omega, a1, b1, fun e => h4 ?_, fun e => h5 ?_, fun e => h6 ?_⟩, Prod.ext s2 (Prod.ext a2 b2)⟩
  · have e : a = b := e
    rw [← a2, ← b2, e]
  · have e : a = s % 4 := e
    rw [← a2, q, e]
  · have e : b = s % 4 := e
    rw [← b2, q, e]
theorem rW_sw (w : WS) : rW Pi V (wsw w) = wsw (rW Pi V w) := rfl
theorem Ren.rev (h : Ren Pi V) {w : WS} (hw : WV 3 w) : rW Pi V (wrev w) = wrev (rW Pi V w) := by
  obtain ⟨h1, h2, h3, h4, h5, h6⟩ := hw
  obtain ⟨a1, a2, a3⟩ := h.s (show w.1 < 12 by omega)
  have k := oth4 h2 h3 (show w.1 % 4 < 4 by omega) h4 h5 h6
  have e : (wrev w).1 / 4 = w.1 / 4 := by
    show (4 * (w.1 / 4) + (6 - w.2.1 - w.2.2 - w.1 % 4)) / 4 = w.1 / 4
    omega
  have e2 : (wrev w).1 % 4 = 6 - w.2.1 - w.2.2 - w.1 % 4 := by
    show (4 * (w.1 / 4) + (6 - w.2.1 - w.2.2 - w.1 % 4)) % 4 = _
    omega
  refine Prod.ext ?_ (Prod.ext ?_ ?_)
  · show 4 * Pi ((wrev w).1 / 4) + V ((wrev w).1 / 4) ((wrev w).1 % 4) = 4 * (rS Pi V w.1 / 4) + (6 - V (w.1 / 4) w.2.1 - V (w.1 / 4) w.2.2 - rS Pi V w.1 % 4)
    rw [e, e2, a2, a3, h.v6 _ h2 h3 (by omega) h4 h5 h6]
  · show V ((wrev w).1 / 4) w.2.1 = V (w.1 / 4) w.2.1
    rw [e]
  · show V ((wrev w).1 / 4) w.2.2 = V (w.1 / 4) w.2.2
    rw [e]
theorem Ren.wEq (h : Ren Pi V) {u v : WS} (hu : WV 3 u) (hv : WV 3 v) : wE (rW Pi V u) = wE (rW Pi V v) ↔ wE u = wE v := by
  have f : ∀ {u v : WS}, WV 3 u → WV 3 v → (u = v ∨ u = wrev v ∨ u = wsw v ∨ u = wrev (wsw v)) → wE u = wE v := fun {u v} hu hv q => by
    rcases q with q | q | q | q
    · rw [q]
    · rw [q, wE_rev hv]
    · rw [q, wE_sw hv]
    · rw [q, wE_rev (wsw_v hv), wE_sw hv]
  constructor
  · intro e
    refine f hu hv ?_
    rcases wE_four (h.wv hu) (h.wv hv) e with q | q | q | q
    · exact Or.inl (h.wi hu hv q)
    · rw [← h.rev hv] at q
      exact Or.inr (Or.inl (h.wi hu (wrev_v hv) q))
    · exact Or.inr (Or.inr (Or.inl (h.wi hu (wsw_v hv) q)))
    · rw [← rW_sw, ← h.rev (wsw_v hv)] at q
      exact Or.inr (Or.inr (Or.inr (h.wi hu (wrev_v (wsw_v hv)) q)))
  · intro e
    refine f (h.wv hu) (h.wv hv) ?_
    rcases wE_four hu hv e with q | q | q | q
    · exact Or.inl (by rw [q])
    · exact Or.inr (Or.inl (by rw [q, h.rev hv]))
    · exact Or.inr (Or.inr (Or.inl (by rw [q]; rfl)))
    · exact Or.inr (Or.inr (Or.inr (by rw [q, h.rev (wsw_v hv)]; rfl)))
variable {mt mt' : Nat → Option Nat} {go go' : Nat → Nat}
theorem Rnm.st (h : Ren Pi V) (r : Rnm Pi V mt go mt' go') (hG : GW 3 mt go) {w : WS} (hw : WV 3 w) : wst mt' go' (rW Pi V w) = (wst mt go w).map (rW Pi V) := by
  have h1 := hw.1
  obtain ⟨r1, r2⟩ := r w.1 (by omega)
  rcases mt_or mt w.1 with e | ⟨t, e⟩
  · rw [wst_n e, wst_n (show mt' (rW Pi V w).1 = none by show mt' (rS Pi V w.1) = none; rw [r1, e]; rfl)]
    rfl
  · rw [e] at r1
    rw [wst_s (show mt' (rW Pi V w).1 = some (rS Pi V t) from r1), wst_s e]
    obtain ⟨t', e', a2, a3, a4, a5, a6, a7, a8, a9, b1, b2, b3, b4, b5⟩ := wst_f hG hw (wst_s e)
    rw [e] at e'
    cases e'
    have g1 := r2 t e w.2.1 hw.2.1
    have g2 := r2 t e w.2.2 hw.2.2.1
    obtain ⟨c1, c2, c3⟩ := h.s (show t < 12 by omega)
    have a9 : go (4 * w.1 + w.2.1) < 4 := a9
    have b1 : go (4 * w.1 + w.2.2) < 4 := b1
    have b2 : go (4 * w.1 + w.2.1) ≠ go (4 * w.1 + w.2.2) := b2
    have b3 : go (4 * w.1 + w.2.1) ≠ t % 4 := b3
    have b4 : go (4 * w.1 + w.2.2) ≠ t % 4 := b4
    have k := oth4 a9 b1 (show t % 4 < 4 by omega) b2 b3 b4
    refine congrArg some (Prod.ext ?_ (Prod.ext ?_ ?_))
    · show 4 * (rS Pi V t / 4) + (6 - go' (4 * rS Pi V w.1 + V (w.1 / 4) w.2.1) - go' (4 * rS Pi V w.1 + V (w.1 / 4) w.2.2) - rS Pi V t % 4) = 4 * Pi ((4 * (t / 4) + (6 - go (4 * w.1 + w.2.1) - go (4 * w.1 + w.2.2) - t % 4)) / 4) + V ((4 * (t / 4) + (6 - go (4 * w.1 + w.2.1) - go (4 * w.1 + w.2.2) - t % 4)) / 4) ((4 * (t / 4) + (6 - go (4 * w.1 + w.2.1) - go (4 * w.1 + w.2.2) - t % 4)) % 4)
      rw [g1, g2, c2, c3, show (4 * (t / 4) + (6 - go (4 * w.1 + w.2.1) - go (4 * w.1 + w.2.2) - t % 4)) / 4 = t / 4 by omega, show (4 * (t / 4) + (6 - go (4 * w.1 + w.2.1) - go (4 * w.1 + w.2.2) - t % 4)) % 4 = 6 - go (4 * w.1 + w.2.1) - go (4 * w.1 + w.2.2) - t % 4 by omega, h.v6 _ a9 b1 (by omega) b2 b3 b4]
    · show go' (4 * rS Pi V w.1 + V (w.1 / 4) w.2.1) = V ((4 * (t / 4) + (6 - go (4 * w.1 + w.2.1) - go (4 * w.1 + w.2.2) - t % 4)) / 4) (go (4 * w.1 + w.2.1))
      rw [g1, show (4 * (t / 4) + (6 - go (4 * w.1 + w.2.1) - go (4 * w.1 + w.2.2) - t % 4)) / 4 = t / 4 by omega]
    · show go' (4 * rS Pi V w.1 + V (w.1 / 4) w.2.2) = V ((4 * (t / 4) + (6 - go (4 * w.1 + w.2.1) - go (4 * w.1 + w.2.2) - t % 4)) / 4) (go (4 * w.1 + w.2.2))
      rw [g2, show (4 * (t / 4) + (6 - go (4 * w.1 + w.2.1) - go (4 * w.1 + w.2.2) - t % 4)) / 4 = t / 4 by omega]
theorem Rnm.ex (h : Ren Pi V) (hG : GW 3 mt go) : ∃ mt' go', Rnm Pi V mt go mt' go' ∧ GW 3 mt' go' := by
  have x1 : ∀ s', ∃ s, s' < 12 → s < 12 ∧ rS Pi V s = s' := fun s' => by
    by_cases c : s' < 12
    · obtain ⟨s, q⟩ := h.sj s' c
      exact ⟨s, fun _ => q⟩
    · exact ⟨0, fun w => absurd w c⟩
  obtain ⟨inv, hi⟩ := Classical.skolem.mp x1
  have x2 : ∀ p, ∃ g : Nat → Nat, ∀ c', c' < 4 → g c' < 4 ∧ V p (g c') = c' := fun p => by
    have : ∀ c', ∃ c, c' < 4 → c < 4 ∧ V p c = c' := fun c' => by
      by_cases d : c' < 4
      · obtain ⟨c, q⟩ := h.vj p c' d
        exact ⟨c, fun _ => q⟩
      · exact ⟨0, fun w => absurd w d⟩
    exact Classical.skolem.mp this
  obtain ⟨ic, hc⟩ := Classical.skolem.mp x2
  have ii : ∀ s, s < 12 → inv (rS Pi V s) = s := fun s hs => by
    have := hi (rS Pi V s) (h.s hs).1
    exact h.si this.1 hs this.2
  have rn : Rnm Pi V mt go (fun s' => (mt (inv s')).map (rS Pi V)) (fun z => V (((mt (inv (z / 4))).getD 0) / 4) (go (4 * inv (z / 4) + ic (inv (z / 4) / 4) (z % 4)))) := fun s hs => by
    refine ⟨by dsimp only; rw [ii s hs], fun t e c hcc => ?_⟩
    have v := (h.2.2 (s / 4) c hcc).1
    dsimp only
    rw [show (4 * rS Pi V s + V (s / 4) c) / 4 = rS Pi V s by omega, show (4 * rS Pi V s + V (s / 4) c) % 4 = V (s / 4) c by omega, ii s hs, e]
    have q := hc (s / 4) (V (s / 4) c) v
    rw [(h.2.2 (s / 4) _ q.1).2 c hcc q.2]
    rfl
  refine ⟨_, _, rn, by omega, fun s' hs' t' e' => ?_⟩
  obtain ⟨s1, s2⟩ := hi s' (by omega)
  have e' : (mt (inv s')).map (rS Pi V) = some t' := e'
  cases e : mt (inv s') with
  | none => rw [e] at e'; cases e'
  | some t =>
    rw [e] at e'
    have et : rS Pi V t = t' := Option.some.inj e'
    obtain ⟨g1, g2, g3, g4, g5⟩ := hG.2 (inv s') (by omega) t e
    have t12 : t < 12 := by omega
    have rs := rn (inv s') s1
    have rt := rn t t12
    rw [s2] at rs
    rw [et] at rt
    refine ⟨?_, fun w => g2 ?_, ?_, fun c' hc' => ?_, ?_⟩
    · rw [← et]; have := (h.s t12).1; omega
    · rw [← et, ← s2] at w
      exact h.si t12 s1 w
    · rw [rt.1, g3]
      show some (rS Pi V (inv s')) = some s'
      rw [s2]
    · obtain ⟨k1, k2⟩ := hc (inv s' / 4) c' hc'
      have q := rs.2 t e _ k1
      rw [k2] at q
      rw [q]
      have g := g4 _ k1
      refine ⟨(h.2.2 _ _ g.1).1, ?_⟩
      rw [rt.2 (inv s') g3 _ g.1, g.2, k2]
    · have q := rs.2 t e (inv s' % 4) (by omega)
      have z := (h.s s1).2.2
      rw [s2] at z
      rw [← z, g5, ← (h.s t12).2.2, et] at q
      exact q
/-- closed ways, forth and back -/
theorem Rnm.cy (h : Ren Pi V) (r : Rnm Pi V mt go mt' go') (hG : GW 3 mt go) {w : WS} (hw : WV 3 w) {n : Nat} {x : Nat → WS} (c : Cy mt go w n x) : Cy mt' go' (rW Pi V w) n (fun i => rW Pi V (x i)) := by
  have hv := c.v hG hw
  refine ⟨by show rW Pi V (x 0) = _; rw [c.1], fun i hi => ⟨?_, fun e => (c.2.1 i hi).2 (h.wi (hv _ (by omega)) hw e)⟩, ?_⟩
  · rw [r.st h hG (hv i (by omega)), (c.2.1 i hi).1]; rfl
  · rw [r.st h hG (hv n (Nat.le_refl _)), c.2.2]; rfl
theorem Rnm.yc (h : Ren Pi V) (r : Rnm Pi V mt go mt' go') (hG : GW 3 mt go) (hG' : GW 3 mt' go') {w : WS} (hw : WV 3 w) {n : Nat} {x' : Nat → WS} (c : Cy mt' go' (rW Pi V w) n x') : ∃ x, Cy mt go w n x ∧ ∀ i, i ≤ n → rW Pi V (x i) = x' i := by
  have hv := c.v hG' (h.wv hw)
  have ex : ∀ i, ∃ u, i ≤ n → WV 3 u ∧ rW Pi V u = x' i := fun i => by
    by_cases d : i ≤ n
    · obtain ⟨u, q⟩ := h.wj (hv i d)
      exact ⟨u, fun _ => q⟩
    · exact ⟨w, fun q => absurd q d⟩
  obtain ⟨x, hx⟩ := Classical.skolem.mp ex
  have x0 : x 0 = w := h.wi (hx 0 (Nat.zero_le _)).1 hw (by rw [(hx 0 (Nat.zero_le _)).2, c.1])
  have st : ∀ i, i ≤ n → ∀ u v', WV 3 u → rW Pi V u = v' → wst mt' go' (x' i) = some v' → wst mt go (x i) = some u := fun i hi u v' hu e1 e2 => by
    obtain ⟨a, b⟩ := hx i hi
    rw [← b, r.st h hG a] at e2
    cases q : wst mt go (x i) with
    | none => rw [q] at e2; cases e2
    | some z =>
      rw [q] at e2
      have e2 : rW Pi V z = v' := Option.some.inj e2
      rw [h.wi (a.st hG q) hu (e2.trans e1.symm)]
  refine ⟨x, ⟨x0, fun i hi => ⟨st i (by omega) _ _ (hx (i + 1) (by omega)).1 (hx (i + 1) (by omega)).2 (c.2.1 i hi).1, fun e => (c.2.1 i hi).2 ?_⟩, st n (Nat.le_refl _) _ _ hw rfl c.2.2⟩, fun i hi => (hx i hi).2⟩
  rw [← (hx (i + 1) (by omega)).2, e]
theorem rwG_rn (k : Nat → Nat) (f : Nat → Int) {x x' : Nat → WS} {y : Nat} : ∀ m, (∀ i, i < m → rS Pi V (x i).1 = (x' i).1) → rwG (fun s => k (rS Pi V s)) (fun s => f (rS Pi V s)) x m y = rwG k f x' m y
  | 0, _ => rfl
  | m + 1, h => by
    show rwG _ _ x m y + (if k (rS Pi V (x m).1) = y then f (rS Pi V (x m).1) else 0) = rwG k f x' m y + (if k (x' m).1 = y then f (x' m).1 else 0)
    rw [rwG_rn k f m (fun i hi => h i (by omega)), h m (by omega)]
theorem Rnm.on (h : Ren Pi V) (r : Rnm Pi V mt go mt' go') (hG : GW 3 mt go) (hG' : GW 3 mt' go') {w v : WS} (hw : WV 3 w) (hv : WV 3 v) : Onn mt' go' (rW Pi V w) (rW Pi V v) ↔ Onn mt go w v := by
  constructor
  · rintro ⟨n, x', c, i, i1, i2⟩
    obtain ⟨x, d, e⟩ := r.yc h hG hG' hw c
    refine ⟨n, x, d, i, i1, ?_⟩
    rw [← e i i1] at i2
    exact (h.wEq (d.v hG hw i i1) hv).mp i2
  · rintro ⟨n, x, c, i, i1, i2⟩
    exact ⟨n, _, r.cy h hG hw c, i, i1, (h.wEq (c.v hG hw i i1) hv).mpr i2⟩
theorem LSy.rn (h : Ren Pi V) (r : Rnm Pi V mt go mt' go') (hG : GW 3 mt go) (hG' : GW 3 mt' go') {t : MT} (g : LSy 3 mt' go' t) : LSy 3 mt go t := by
  obtain ⟨ro, k, f, f1, f2, f3, f4, f5, f6, f7, f8⟩ := g
  have ex : ∀ v, ∃ w, WV 3 v → WV 3 w ∧ rW Pi V w = v := fun v => by
    by_cases c : WV 3 v
    · obtain ⟨w, q⟩ := h.wj c
      exact ⟨w, fun _ => q⟩
    · exact ⟨v, fun q => absurd q c⟩
  obtain ⟨inv, hi⟩ := Classical.skolem.mp ex
  have nn : ∀ s, s < 4 * 3 → mt s ≠ none → mt' (rS Pi V s) ≠ none := fun s hs w e => by
    rw [(r s (by omega)).1] at e
    cases q : mt s with
    | none => exact w q
    | some t => rw [q] at e; cases e
  refine ⟨ro.map (fun q => (inv q.1, q.2)), fun s => k (rS Pi V s), fun s => f (rS Pi V s), fun s => f1 _, fun s u hs e => ?_, fun s s' hs hs' e e' w => ?_, fun q hq => ?_, fun v n x hv c => ?_, fun q hq q' hq' v hv o o' => ?_, fun q hq q' hq' w => ?_, fun a y w => ?_⟩
  · have := (r s (by omega)).1
    rw [e] at this
    exact f2 _ _ (by have := (h.s (show s < 12 by omega)).1; omega) this
  · have a := (h.s (show s < 12 by omega)).1
    have b := (h.s (show s' < 12 by omega)).1
    rcases f3 _ _ (by omega) (by omega) (nn s hs e) (nn s' hs' e') w with q | q
    · exact Or.inl (h.si (by omega) (by omega) q)
    · right
      rw [(r s (by omega)).1] at q
      cases z : mt s with
      | none => exact absurd z e
      | some t =>
        rw [z] at q
        have q : rS Pi V t = rS Pi V s' := Option.some.inj q
        have := (hG.2 s hs t z).1
        rw [h.si (by omega) (by omega) q]
  · obtain ⟨q', hq', rfl⟩ := List.mem_map.mp hq
    obtain ⟨a, n, x', c, ε, e1, e2⟩ := f4 q' hq'
    obtain ⟨b1, b2⟩ := hi _ a
    rw [← b2] at c
    obtain ⟨x, d1, d2⟩ := r.yc h hG hG' b1 c
    refine ⟨b1, n, x, d1, ε, e1, fun y => ?_⟩
    rw [rwG_rn k f (x' := x') (n + 1) (fun i hi => by rw [← d2 i (by omega)]; rfl)]
    exact e2 y
  · obtain ⟨q, q1, q2⟩ := f5 _ _ _ (h.wv hv) (r.cy h hG hv c)
    obtain ⟨b1, b2⟩ := hi _ (f4 q q1).1
    refine ⟨(inv q.1, q.2), List.mem_map.mpr ⟨q, q1, rfl⟩, ?_⟩
    rw [← b2] at q2
    exact (r.on h hG hG' b1 hv).mp q2
  · obtain ⟨p, hp, rfl⟩ := List.mem_map.mp hq
    obtain ⟨p', hp', rfl⟩ := List.mem_map.mp hq'
    obtain ⟨b1, b2⟩ := hi _ (f4 p hp).1
    obtain ⟨c1, c2⟩ := hi _ (f4 p' hp').1
    have o1 := (r.on h hG hG' b1 hv).mpr o
    have o2 := (r.on h hG hG' c1 hv).mpr o'
    rw [b2] at o1
    rw [c2] at o2
    rw [f6 p hp p' hp' _ (h.wv hv) o1 o2]
  · obtain ⟨p, hp, rfl⟩ := List.mem_map.mp hq
    obtain ⟨p', hp', rfl⟩ := List.mem_map.mp hq'
    rw [f7 p hp p' hp' w]
  · obtain ⟨q, q1, q2⟩ := f8 a y w
    exact ⟨(inv q.1, q.2), List.mem_map.mpr ⟨q, q1, rfl⟩, q2⟩
end
