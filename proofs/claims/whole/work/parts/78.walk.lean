/-! holes: the way around an edge -/
abbrev WS : Type := Nat × Nat × Nat
/-- through the side, to the next piece: the side to leave by, and where the two corners go -/
def wst (mt : Nat → Option Nat) (go : Nat → Nat) (w : WS) : Option WS := match mt w.1 with
  | none => none
  | some t => some (4 * (t / 4) + (6 - go (4 * w.1 + w.2.1) - go (4 * w.1 + w.2.2) - t % 4), go (4 * w.1 + w.2.1), go (4 * w.1 + w.2.2))
def wit (mt : Nat → Option Nat) (go : Nat → Nat) : Nat → WS → Option WS
  | 0, w => some w
  | n + 1, w => (wit mt go n w).bind (wst mt go)
def WV (P : Nat) (w : WS) : Prop := w.1 < 4 * P ∧ w.2.1 < 4 ∧ w.2.2 < 4 ∧ w.2.1 ≠ w.2.2 ∧ w.2.1 ≠ w.1 % 4 ∧ w.2.2 ≠ w.1 % 4
/-- the same edge, left by the other side -/
def wrev (w : WS) : WS := (4 * (w.1 / 4) + (6 - w.2.1 - w.2.2 - w.1 % 4), w.2)
theorem wst_n {mt : Nat → Option Nat} {go : Nat → Nat} {w : WS} (h : mt w.1 = none) : wst mt go w = none := by
  unfold wst
  rw [h]
theorem wst_s {mt : Nat → Option Nat} {go : Nat → Nat} {w : WS} {t : Nat} (h : mt w.1 = some t) : wst mt go w = some (4 * (t / 4) + (6 - go (4 * w.1 + w.2.1) - go (4 * w.1 + w.2.2) - t % 4), go (4 * w.1 + w.2.1), go (4 * w.1 + w.2.2)) := by
  unfold wst
  rw [h]
theorem wst_ex {mt : Nat → Option Nat} {go : Nat → Nat} {w v : WS} (h : wst mt go w = some v) : ∃ t, mt w.1 = some t ∧ v = (4 * (t / 4) + (6 - go (4 * w.1 + w.2.1) - go (4 * w.1 + w.2.2) - t % 4), go (4 * w.1 + w.2.1), go (4 * w.1 + w.2.2)) := by
  rcases mt_or mt w.1 with e0 | ⟨t, e0⟩
  · rw [wst_n e0] at h
    cases h
  · rw [wst_s e0] at h
    cases h
    exact ⟨t, e0, rfl⟩
/-- what one step brings -/
theorem wst_f {P : Nat} {mt : Nat → Option Nat} {go : Nat → Nat} (hG : GW P mt go) {w v : WS} (h : WV P w) (e : wst mt go w = some v) : ∃ t, mt w.1 = some t ∧ t < 4 * P ∧ mt t = some w.1 ∧ t ≠ w.1 ∧ v.2.1 = go (4 * w.1 + w.2.1) ∧ v.2.2 = go (4 * w.1 + w.2.2) ∧ go (4 * t + v.2.1) = w.2.1 ∧ go (4 * t + v.2.2) = w.2.2 ∧ v.2.1 < 4 ∧ v.2.2 < 4 ∧ v.2.1 ≠ v.2.2 ∧ v.2.1 ≠ t % 4 ∧ v.2.2 ≠ t % 4 ∧ v.1 = 4 * (t / 4) + (6 - v.2.1 - v.2.2 - t % 4) := by
  obtain ⟨t, e0, rfl⟩ := wst_ex e
  obtain ⟨h1, h2, h3, h4, h5, h6⟩ := h
  obtain ⟨g1, g2, g3, g4, g5⟩ := hG.2 _ h1 t e0
  have k1 := g4 _ h2
  have k2 := g4 _ h3
  have n1 := hG.go_ne h1 e0 h2 h5
  have n2 := hG.go_ne h1 e0 h3 h6
  refine ⟨t, e0, g1, g3, g2, rfl, rfl, k1.2, k2.2, k1.1, k2.1, fun q => ?_, n1, n2, rfl⟩
  have q : go (4 * w.1 + w.2.1) = go (4 * w.1 + w.2.2) := q
  have k3 := k1.2
  rw [q, k2.2] at k3
  exact h4 k3.symm
theorem oth4 {a b c : Nat} (ha : a < 4) (hb : b < 4) (hc : c < 4) (h1 : a ≠ b) (h2 : a ≠ c) (h3 : b ≠ c) : 6 - a - b - c < 4 ∧ a ≠ 6 - a - b - c ∧ b ≠ 6 - a - b - c ∧ c ≠ 6 - a - b - c := by
  rcases (show a = 0 ∨ a = 1 ∨ a = 2 ∨ a = 3 by omega) with rfl | rfl | rfl | rfl <;> rcases (show b = 0 ∨ b = 1 ∨ b = 2 ∨ b = 3 by omega) with rfl | rfl | rfl | rfl <;> omega
theorem wv_mk {P s a b c : Nat} (hs : s < 4 * P) (ha : a < 4) (hb : b < 4) (hc : c = s % 4) (h1 : a ≠ b) (h2 : a ≠ c) (h3 : b ≠ c) : WV P (4 * (s / 4) + (6 - a - b - c), a, b) := by
  have k := oth4 ha hb (show c < 4 by omega) h1 h2 h3
  unfold WV
  dsimp only
  generalize 6 - a - b - c = x at *
  rw [show (4 * (s / 4) + x) % 4 = x by omega]
  exact ⟨by omega, ha, hb, h1, k.2.1, k.2.2.1⟩
theorem WV.st {P : Nat} {mt : Nat → Option Nat} {go : Nat → Nat} (hG : GW P mt go) {w v : WS} (h : WV P w) (e : wst mt go w = some v) : WV P v := by
  obtain ⟨t, -, h1, -, -, -, -, -, -, h2, h3, h4, h5, h6, h7⟩ := wst_f hG h e
  have q : v = (4 * (t / 4) + (6 - v.2.1 - v.2.2 - t % 4), v.2.1, v.2.2) := Prod.ext h7 rfl
  rw [q]
  exact wv_mk h1 h2 h3 rfl h4 h5 h6
theorem wst_inj {P : Nat} {mt : Nat → Option Nat} {go : Nat → Nat} (hG : GW P mt go) {w u v : WS} (h : WV P w) (g : WV P u) (e : wst mt go w = some v) (f : wst mt go u = some v) : w = u := by
  obtain ⟨t, a1, a2, a3, a4, a5, a6, a7, a8, a9, b1, b2, b3, b4, b5⟩ := wst_f hG h e
  obtain ⟨t', c1, c2, c3, c4, c5, c6, c7, c8, c9, d1, d2, d3, d4, d5⟩ := wst_f hG g f
  have ht : t = t' := by omega
  subst ht
  rw [a3] at c3
  have e1 : w.1 = u.1 := Option.some.inj c3
  have e2 : w.2.1 = u.2.1 := a7.symm.trans c7
  have e3 : w.2.2 = u.2.2 := a8.symm.trans c8
  exact Prod.ext e1 (Prod.ext e2 e3)
theorem wrev_v {P : Nat} {w : WS} (h : WV P w) : WV P (wrev w) := by
  obtain ⟨h1, h2, h3, h4, h5, h6⟩ := h
  exact wv_mk h1 h2 h3 rfl h4 h5 h6
theorem wrev_wrev {P : Nat} {w : WS} (h : WV P w) : wrev (wrev w) = w := by
  obtain ⟨h1, h2, h3, h4, h5, h6⟩ := h
  refine Prod.ext ?_ rfl
  show 4 * ((4 * (w.1 / 4) + (6 - w.2.1 - w.2.2 - w.1 % 4)) / 4) + (6 - w.2.1 - w.2.2 - (4 * (w.1 / 4) + (6 - w.2.1 - w.2.2 - w.1 % 4)) % 4) = w.1
  omega
theorem wrev_ne {P : Nat} {w : WS} (h : WV P w) : wrev w ≠ w := by
  intro q
  obtain ⟨h1, h2, h3, h4, h5, h6⟩ := h
  have q2 : 4 * (w.1 / 4) + (6 - w.2.1 - w.2.2 - w.1 % 4) = w.1 := congrArg Prod.fst q
  omega
/-- and back -/
theorem wst_back {P : Nat} {mt : Nat → Option Nat} {go : Nat → Nat} (hG : GW P mt go) {w v : WS} (h : WV P w) (e : wst mt go w = some v) : wst mt go (wrev v) = some (wrev w) := by
  obtain ⟨t, a1, a2, a3, a4, a5, a6, a7, a8, a9, b1, b2, b3, b4, b5⟩ := wst_f hG h e
  obtain ⟨h1, h2, h3, h4, h5, h6⟩ := h
  have e1 : (wrev v).1 = t := by
    show 4 * (v.1 / 4) + (6 - v.2.1 - v.2.2 - v.1 % 4) = t
    omega
  rw [wst_s (t := w.1) (by rw [e1]; exact a3), e1]
  show some (4 * (w.1 / 4) + (6 - go (4 * t + v.2.1) - go (4 * t + v.2.2) - w.1 % 4), go (4 * t + v.2.1), go (4 * t + v.2.2)) = some (wrev w)
  rw [a7, a8]
  rfl
theorem wst_rev1 {P : Nat} {mt : Nat → Option Nat} {go : Nat → Nat} (hG : GW P mt go) {w : WS} (h : WV P w) : wst mt go w ≠ some (wrev w) := by
  intro e
  obtain ⟨t, a1, a2, a3, a4, a5, a6, a7, a8, a9, b1, b2, b3, b4, b5⟩ := wst_f hG h e
  obtain ⟨h1, h2, h3, h4, h5, h6⟩ := h
  have b5 : 4 * (w.1 / 4) + (6 - w.2.1 - w.2.2 - w.1 % 4) = 4 * (t / 4) + (6 - w.2.1 - w.2.2 - t % 4) := b5
  have b3 : w.2.1 ≠ t % 4 := b3
  have b4 : w.2.2 ≠ t % 4 := b4
  omega
theorem wit_s {mt : Nat → Option Nat} {go : Nat → Nat} {n : Nat} {w v u : WS} (h : wit mt go n w = some v) (e : wst mt go v = some u) : wit mt go (n + 1) w = some u := by
  show (wit mt go n w).bind (wst mt go) = _
  rw [h]
  exact e
theorem wit_p {mt : Nat → Option Nat} {go : Nat → Nat} {n : Nat} {w u : WS} (h : wit mt go (n + 1) w = some u) : ∃ v, wit mt go n w = some v ∧ wst mt go v = some u := by
  have h : (wit mt go n w).bind (wst mt go) = some u := h
  cases e : wit mt go n w with
  | none => rw [e] at h; cases h
  | some v => rw [e] at h; exact ⟨v, rfl, h⟩
theorem WV.it {P : Nat} {mt : Nat → Option Nat} {go : Nat → Nat} (hG : GW P mt go) {w : WS} (h : WV P w) : ∀ n v, wit mt go n w = some v → WV P v
  | 0, v, e => by cases e; exact h
  | n + 1, v, e => by
    obtain ⟨u, e1, e2⟩ := wit_p e
    exact (h.it hG n u e1).st hG e2
/-- the first step first -/
theorem wit_1 {mt : Nat → Option Nat} {go : Nat → Nat} {w v : WS} (h : wst mt go w = some v) : ∀ n, wit mt go (n + 1) w = wit mt go n v
  | 0 => by
    show (some w).bind (wst mt go) = some v
    exact h
  | n + 1 => by
    show (wit mt go (n + 1) w).bind (wst mt go) = (wit mt go n v).bind (wst mt go)
    rw [wit_1 h n]
theorem wit_first {mt : Nat → Option Nat} {go : Nat → Nat} {w u : WS} : ∀ n, wit mt go (n + 1) w = some u → ∃ v, wst mt go w = some v
  | 0, h => by
    obtain ⟨v, h1, h2⟩ := wit_p h
    cases h1
    exact ⟨u, h2⟩
  | n + 1, h => by
    obtain ⟨v, h1, -⟩ := wit_p h
    exact wit_first n h1
/-- the way never comes to its own edge from the other side -/
theorem wit_rev {P : Nat} {mt : Nat → Option Nat} {go : Nat → Nat} (hG : GW P mt go) : ∀ m n, n ≤ m → ∀ w, WV P w → wit mt go n w ≠ some (wrev w) := by
  intro m
  induction m with
  | zero =>
    intro n hn w h e
    rw [show n = 0 by omega] at e
    exact wrev_ne h (Option.some.inj e).symm
  | succ m ih =>
    intro n hn w h e
    rcases (show n = 0 ∨ n = 1 ∨ 2 ≤ n by omega) with rfl | rfl | h2
    · exact wrev_ne h (Option.some.inj e).symm
    · obtain ⟨v, e1, e2⟩ := wit_p e
      cases e1
      exact wst_rev1 hG h e2
    · obtain ⟨k, rfl⟩ : ∃ k, n = k + 1 + 1 := ⟨n - 2, by omega⟩
      obtain ⟨u, e1, e2⟩ := wit_p e
      obtain ⟨v, f1⟩ := wit_first _ e1
      have hu := h.it hG _ u e1
      have hv := h.st hG f1
      have b := wst_back hG hu e2
      rw [wrev_wrev h, f1] at b
      have b2 : v = wrev u := Option.some.inj b
      rw [wit_1 f1 k] at e1
      refine ih k (by omega) v hv ?_
      rw [e1, b2, wrev_wrev hu]
/-- nothing comes twice before the start does -/
theorem wit_back {P : Nat} {mt : Nat → Option Nat} {go : Nat → Nat} (hG : GW P mt go) {w : WS} (h : WV P w) : ∀ i d v, wit mt go i w = some v → wit mt go (i + d) w = some v → wit mt go d w = some w
  | 0, d, v, e, f => by
    cases e
    rw [Nat.zero_add] at f
    exact f
  | i + 1, d, v, e, f => by
    obtain ⟨u, e1, e2⟩ := wit_p e
    rw [show i + 1 + d = (i + d) + 1 by omega] at f
    obtain ⟨u', f1, f2⟩ := wit_p f
    have q := wst_inj hG (h.it hG _ u e1) (h.it hG _ u' f1) e2 f2
    subst q
    exact wit_back hG h i d u e1 f1
