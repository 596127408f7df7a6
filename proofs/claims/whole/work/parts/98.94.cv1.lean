/-! holes: closed ways -/
/-- the way from w comes back after n + 1 steps -/
def Cy (mt : Nat → Option Nat) (go : Nat → Nat) (w : WS) (n : Nat) (x : Nat → WS) : Prop := x 0 = w ∧ (∀ i, i < n → wst mt go (x i) = some (x (i + 1)) ∧ x (i + 1) ≠ w) ∧ wst mt go (x n) = some w
/-- what it adds up to -/
def rwG (k : Nat → Nat) (f : Nat → Int) (x : Nat → WS) : Nat → Nat → Int
  | 0, _ => 0
  | n + 1, c => rwG k f x n c + if k (x n).1 = c then f (x n).1 else 0
theorem rwX_G (mt : Nat → Option Nat) (x : Nat → WS) : ∀ n c, rwX mt x n c = rwG (prOf mt) (sgW mt) x n c
  | 0, _ => rfl
  | n + 1, c => by
    show rwX mt x n c + _ = rwG (prOf mt) (sgW mt) x n c + _
    rw [rwX_G mt x n c]
theorem rwG_cg {k : Nat → Nat} {f : Nat → Int} {x x' : Nat → WS} {c : Nat} : ∀ n, (∀ i, i < n → (x i).1 = (x' i).1) → rwG k f x n c = rwG k f x' n c
  | 0, _ => rfl
  | n + 1, h => by
    show rwG k f x n c + _ = rwG k f x' n c + _
    rw [rwG_cg n (fun i hi => h i (by omega)), h n (by omega)]
/-- the first term first -/
theorem rwG_1 {k : Nat → Nat} {f : Nat → Int} {x : Nat → WS} {c : Nat} : ∀ n, rwG k f x (n + 1) c = (if k (x 0).1 = c then f (x 0).1 else 0) + rwG k f (fun i => x (i + 1)) n c
  | 0 => by
    show 0 + _ = _ + 0
    rw [Int.zero_add, Int.add_zero]
  | n + 1 => by
    show rwG k f x (n + 1) c + _ = _ + (rwG k f (fun i => x (i + 1)) n c + _)
    rw [rwG_1 n]
    exact Int.add_assoc _ _ _
section
variable {P : Nat} {mt : Nat → Option Nat} {go : Nat → Nat}
theorem Cy.v (hG : GW P mt go) {w : WS} {n : Nat} {x : Nat → WS} (h : Cy mt go w n x) (hw : WV P w) : ∀ i, i ≤ n → WV P (x i)
  | 0, _ => by rw [h.1]; exact hw
  | i + 1, hi => (Cy.v hG h hw i (by omega)).st hG (h.2.1 i (by omega)).1
theorem Cy.g {w : WS} {n : Nat} {x : Nat → WS} (h : Cy mt go w n x) : ∀ i, i ≤ n → ∃ t, mt (x i).1 = some t := fun i hi => by
  have : ∃ v, wst mt go (x i) = some v := by
    by_cases c : i < n
    · exact ⟨_, (h.2.1 i c).1⟩
    · rw [show i = n by omega]; exact ⟨_, h.2.2⟩
  obtain ⟨v, e⟩ := this
  obtain ⟨t, e0, -⟩ := wst_ex e
  exact ⟨t, e0⟩
theorem Cy.one {w : WS} {n n' : Nat} {x x' : Nat → WS} (h : Cy mt go w n x) (h' : Cy mt go w n' x') : n = n' ∧ ∀ i, i ≤ n → x i = x' i := by
  have key : ∀ i, i ≤ n → i ≤ n' → x i = x' i := by
    intro i
    induction i with
    | zero => exact fun _ _ => h.1.trans h'.1.symm
    | succ i ih =>
      intro h1 h2
      have a := (h.2.1 i (by omega)).1
      have b := (h'.2.1 i (by omega)).1
      rw [ih (by omega) (by omega), b] at a
      exact (Option.some.inj a).symm
  have e : n = n' := by
    by_cases c : n < n'
    · have a := h.2.2
      rw [key n (Nat.le_refl _) (by omega), (h'.2.1 n c).1] at a
      exact absurd (Option.some.inj a) (h'.2.1 n c).2
    · by_cases d : n' < n
      · have a := h'.2.2
        rw [← key n' (by omega) (Nat.le_refl _), (h.2.1 n' d).1] at a
        exact absurd (Option.some.inj a) (h.2.1 n' d).2
      · omega
  exact ⟨e, fun i hi => key i hi (by omega)⟩
/-- what is the same for two closed ways at one edge -/
def Alk (mt : Nat → Option Nat) (n : Nat) (x x' : Nat → WS) : Prop := (∀ b, (∃ j, j ≤ n ∧ wE (x' j) = b) ↔ ∃ j, j ≤ n ∧ wE (x j) = b) ∧ ∃ ε : Int, sg1 ε ∧ ∀ (k : Nat → Nat) (f : Nat → Int), (∀ s t, s < 4 * P → mt s = some t → f t = - f s ∧ k t = k s) → ∀ y, rwG k f x' (n + 1) y = ε * rwG k f x (n + 1) y
theorem Alk.trans {n : Nat} {x x' x'' : Nat → WS} (h : Alk (P := P) mt n x x') (g : Alk (P := P) mt n x' x'') : Alk (P := P) mt n x x'' := by
  obtain ⟨h1, e, h2, h3⟩ := h
  obtain ⟨g1, d, g2, g3⟩ := g
  refine ⟨fun b => (g1 b).trans (h1 b), d * e, g2.mul h2, fun k f hk y => ?_⟩
  rw [g3 k f hk y, h3 k f hk y, Int.mul_assoc]
/-- one station on -/
theorem Cy.sh (hG : GW P mt go) {w : WS} {n : Nat} {x : Nat → WS} (h : Cy mt go w n x) (hw : WV P w) : ∃ v, wst mt go w = some v ∧ ∃ x', Cy mt go v n x' ∧ (∀ i, i < n → x' i = x (i + 1)) ∧ x' n = w ∧ Alk (P := P) mt n x x' := by
  have hv := h.v hG hw
  by_cases c : n = 0
  · subst c
    refine ⟨w, by rw [← h.1]; exact h.1 ▸ h.2.2, x, ⟨h.1, fun i hi => by omega, h.2.2⟩, fun i hi => by omega, h.1, fun b => Iff.rfl, 1, Or.inl rfl, fun k f _ y => (Int.one_mul _).symm⟩
  · have a0 := h.2.1 0 (by omega)
    rw [h.1] at a0
    have ex : ∀ i, i < n → (fun i => if i < n then x (i + 1) else w) i = x (i + 1) := fun i hi => if_pos hi
    have en : (fun i => if i < n then x (i + 1) else w) n = w := if_neg (by omega)
    refine ⟨x 1, a0.1, fun i => if i < n then x (i + 1) else w, ⟨ex 0 (by omega), fun i hi => ?_, ?_⟩, ex, en, fun b => ?_, 1, Or.inl rfl, fun k f _ y => ?_⟩
    · rw [ex i hi]
      by_cases d : i + 1 < n
      · rw [ex (i + 1) d]
        refine ⟨(h.2.1 (i + 1) d).1, fun q => ?_⟩
        have r := (h.2.1 (i + 1) d).1
        rw [q] at r
        have := wst_inj hG (hv (i + 1) (by omega)) hw r a0.1
        exact (h.2.1 i hi).2 this
      · rw [show i + 1 = n by omega, en]
        refine ⟨h.2.2, fun q => ?_⟩
        exact a0.2 q.symm
    · rw [en]; exact a0.1
    · constructor
      · rintro ⟨j, hj, e⟩
        by_cases d : j < n
        · rw [ex j d] at e; exact ⟨j + 1, by omega, e⟩
        · rw [show j = n by omega, en] at e; exact ⟨0, by omega, by rw [h.1]; exact e⟩
      · rintro ⟨j, hj, e⟩
        by_cases d : j = 0
        · rw [d, h.1] at e; exact ⟨n, Nat.le_refl _, by rw [en]; exact e⟩
        · refine ⟨j - 1, by omega, ?_⟩
          rw [ex (j - 1) (by omega), show j - 1 + 1 = j by omega]
          exact e
    · rw [Int.one_mul, rwG_1 (x := x) n]
      show rwG k f (fun i => if i < n then x (i + 1) else w) n y + (if k ((fun i => if i < n then x (i + 1) else w) n).1 = y then f ((fun i => if i < n then x (i + 1) else w) n).1 else 0) = _
      rw [en, h.1, rwG_cg (x := fun i => if i < n then x (i + 1) else w) (x' := fun i => x (i + 1)) n (fun i hi => by rw [if_pos hi])]
      exact Int.add_comm _ _
theorem Cy.to (hG : GW P mt go) {w : WS} {n : Nat} {x : Nat → WS} (h : Cy mt go w n x) (hw : WV P w) : ∀ i, i ≤ n → ∃ x', Cy mt go (x i) n x' ∧ Alk (P := P) mt n x x'
  | 0, _ => ⟨x, by rw [h.1]; exact h, fun b => Iff.rfl, 1, Or.inl rfl, fun k f _ y => (Int.one_mul _).symm⟩
  | i + 1, hi => by
    obtain ⟨x', c1, c2⟩ := Cy.to hG h hw i (by omega)
    have hv := h.v hG hw i (by omega)
    obtain ⟨v, e, x'', d1, -, -, d2⟩ := c1.sh hG hv
    rw [(h.2.1 i (by omega)).1] at e
    rw [← Option.some.inj e] at d1
    exact ⟨x'', d1, c2.trans d2⟩
/-- the ends named the other way -/
def wsw (w : WS) : WS := (w.1, w.2.2, w.2.1)
theorem wsw_v {w : WS} (h : WV P w) : WV P (wsw w) := ⟨h.1, h.2.2.1, h.2.1, Ne.symm h.2.2.2.1, h.2.2.2.2.2, h.2.2.2.2.1⟩
theorem wsw_2 (w : WS) : wsw (wsw w) = w := rfl
theorem wst_sw {w v : WS} (h : wst mt go w = some v) : wst mt go (wsw w) = some (wsw v) := by
  obtain ⟨t, e0, rfl⟩ := wst_ex h
  rw [wst_s (show mt (wsw w).1 = some t from e0)]
  refine congrArg some (Prod.ext ?_ rfl)
  show 4 * (t / 4) + (6 - go (4 * w.1 + w.2.2) - go (4 * w.1 + w.2.1) - t % 4) = 4 * (t / 4) + (6 - go (4 * w.1 + w.2.1) - go (4 * w.1 + w.2.2) - t % 4)
  omega
theorem eOf_sw {a b : Nat} (ha : a < 4) (hb : b < 4) : eOf b a = eOf a b := by
  rcases (show a = 0 ∨ a = 1 ∨ a = 2 ∨ a = 3 by omega) with rfl | rfl | rfl | rfl <;> rcases (show b = 0 ∨ b = 1 ∨ b = 2 ∨ b = 3 by omega) with rfl | rfl | rfl | rfl <;> rfl
theorem wE_sw {w : WS} (h : WV P w) : wE (wsw w) = wE w := by
  show 6 * (w.1 / 4) + eOf w.2.2 w.2.1 = 6 * (w.1 / 4) + eOf w.2.1 w.2.2
  rw [eOf_sw h.2.1 h.2.2.1]
theorem wE_rev {w : WS} (h : WV P w) : wE (wrev w) = wE w := by
  have k := oth4 h.2.1 h.2.2.1 (show w.1 % 4 < 4 by omega) h.2.2.2.1 h.2.2.2.2.1 h.2.2.2.2.2
  show 6 * ((4 * (w.1 / 4) + (6 - w.2.1 - w.2.2 - w.1 % 4)) / 4) + eOf w.2.1 w.2.2 = _
  rw [show (4 * (w.1 / 4) + (6 - w.2.1 - w.2.2 - w.1 % 4)) / 4 = w.1 / 4 by omega]
theorem Cy.sw (hG : GW P mt go) {w : WS} {n : Nat} {x : Nat → WS} (h : Cy mt go w n x) (hw : WV P w) : ∃ x', Cy mt go (wsw w) n x' ∧ Alk (P := P) mt n x x' := by
  have hv := h.v hG hw
  refine ⟨fun i => wsw (x i), ⟨by show wsw (x 0) = _; rw [h.1], fun i hi => ⟨wst_sw (h.2.1 i hi).1, fun q => (h.2.1 i hi).2 ?_⟩, wst_sw h.2.2⟩, fun b => ⟨?_, ?_⟩, 1, Or.inl rfl, fun k f _ y => ?_⟩
  · have := congrArg wsw q
    rw [wsw_2, wsw_2] at this
    exact this
  · rintro ⟨j, hj, e⟩
    exact ⟨j, hj, by rw [← e]; exact (wE_sw (hv j hj)).symm⟩
  · rintro ⟨j, hj, e⟩
    exact ⟨j, hj, by rw [← e]; exact wE_sw (hv j hj)⟩
  · rw [Int.one_mul]
    exact rwG_cg _ (fun i _ => rfl)
/-- backwards -/
theorem rwG_rev {k : Nat → Nat} {f : Nat → Int} {x : Nat → WS} {c : Nat} : ∀ n, rwG k f (fun i => x (n - i)) (n + 1) c = rwG k f x (n + 1) c
  | 0 => rfl
  | n + 1 => by
    rw [rwG_1 (n + 1)]
    have e : rwG k f (fun i => (fun i => x (n + 1 - i)) (i + 1)) (n + 1) c = rwG k f (fun i => x (n - i)) (n + 1) c := rwG_cg _ (fun i _ => by
      show (x (n + 1 - (i + 1))).1 = (x (n - i)).1
      rw [show n + 1 - (i + 1) = n - i by omega])
    rw [e, rwG_rev n]
    show (if k (x (n + 1 - 0)).1 = c then f (x (n + 1 - 0)).1 else 0) + _ = rwG k f x (n + 1) c + (if k (x (n + 1)).1 = c then f (x (n + 1)).1 else 0)
    rw [Nat.sub_zero]
    omega
theorem wrev_1 (hG : GW P mt go) {w v : WS} (h : WV P w) (e : wst mt go w = some v) : ∃ t, mt w.1 = some t ∧ (wrev v).1 = t := by
  obtain ⟨t, a1, a2, a3, a4, a5, a6, a7, a8, a9, b1, b2, b3, b4, b5⟩ := wst_f hG h e
  refine ⟨t, a1, ?_⟩
  show 4 * (v.1 / 4) + (6 - v.2.1 - v.2.2 - v.1 % 4) = t
  omega
theorem Cy.rev (hG : GW P mt go) {w : WS} {n : Nat} {x : Nat → WS} (h : Cy mt go w n x) (hw : WV P w) : ∃ x', Cy mt go (wrev w) n x' ∧ Alk (P := P) mt n x x' := by
  have hv := h.v hG hw
  -- the stations backwards, from the last: wrev of x n, .., x 1, x 0 comes first
  have nx : ∀ i, i ≤ n → ∃ v, wst mt go (x i) = some v ∧ v = (if i < n then x (i + 1) else w) := fun i hi => by
    by_cases c : i < n
    · exact ⟨_, (h.2.1 i c).1, by rw [if_pos c]⟩
    · rw [show i = n by omega]; exact ⟨_, h.2.2, by rw [if_neg (by omega)]⟩
  have st : ∀ i, i < n → wst mt go (wrev (x (i + 1))) = some (wrev (x i)) := fun i hi => wst_back hG (hv i (by omega)) (h.2.1 i hi).1
  have st0 : wst mt go (wrev w) = some (wrev (x n)) := wst_back hG (hv n (Nat.le_refl _)) h.2.2
  have ri : ∀ {u v : WS}, WV P u → WV P v → wrev u = wrev v → u = v := fun hu hv e => by rw [← wrev_wrev hu, e, wrev_wrev hv]
  have e0 : (fun i => if i = 0 then wrev w else wrev (x (n + 1 - i))) 0 = wrev w := if_pos rfl
  have es : ∀ i, 0 < i → (fun i => if i = 0 then wrev w else wrev (x (n + 1 - i))) i = wrev (x (n + 1 - i)) := fun i hi => if_neg (by omega)
  have ne : ∀ j, 0 < j → j ≤ n → x j ≠ w := fun j h1 h2 => by
    have := (h.2.1 (j - 1) (by omega)).2
    rw [show j - 1 + 1 = j by omega] at this
    exact this
  refine ⟨fun i => if i = 0 then wrev w else wrev (x (n + 1 - i)), ⟨e0, fun i hi => ?_, ?_⟩, fun b => ⟨?_, ?_⟩, -1, Or.inr rfl, fun k f hk y => ?_⟩
  · rw [es (i + 1) (by omega)]
    refine ⟨?_, fun q => ?_⟩
    · by_cases c : i = 0
      · rw [c, e0]; exact st0
      · rw [es i (by omega)]
        have := st (n + 1 - (i + 1)) (by omega)
        rw [show n + 1 - (i + 1) + 1 = n + 1 - i by omega] at this
        exact this
    · exact ne (n + 1 - (i + 1)) (by omega) (by omega) (ri (hv _ (by omega)) hw q)
  · by_cases c : n = 0
    · have := st0
      rw [c, h.1] at this
      show wst mt go (if n = 0 then wrev w else wrev (x (n + 1 - n))) = some (wrev w)
      rw [if_pos c]
      exact this
    · rw [es n (by omega), show n + 1 - n = 1 by omega]
      have := st 0 (by omega)
      rw [h.1] at this
      exact this
  · rintro ⟨j, hj, e⟩
    by_cases c : j = 0
    · rw [c, e0, wE_rev hw] at e
      exact ⟨0, by omega, by rw [h.1]; exact e⟩
    · rw [es j (by omega), wE_rev (hv _ (by omega))] at e
      exact ⟨n + 1 - j, by omega, e⟩
  · rintro ⟨j, hj, e⟩
    by_cases c : j = 0
    · rw [c, h.1] at e
      exact ⟨0, by omega, by rw [e0, wE_rev hw]; exact e⟩
    · refine ⟨n + 1 - j, by omega, ?_⟩
      rw [es (n + 1 - j) (by omega), show n + 1 - (n + 1 - j) = j by omega, wE_rev (hv _ hj)]
      exact e
  · -- each station backwards leaves by the mate of the one before
    have tm : ∀ i, i ≤ n → ∀ v, wst mt go (x i) = some v → (if k (wrev v).1 = y then f (wrev v).1 else 0) = - (if k (x i).1 = y then f (x i).1 else 0) := fun i hi v e => by
      obtain ⟨t, t1, t2⟩ := wrev_1 hG (hv i hi) e
      obtain ⟨k1, k2⟩ := hk (x i).1 t (hv i hi).1 t1
      rw [t2, k1, k2]
      split <;> omega
    have neg : ∀ (z : Nat → WS) m, (∀ i, i < m → (if k (z i).1 = y then f (z i).1 else 0) = - (if k (x i).1 = y then f (x i).1 else 0)) → rwG k f z m y = - rwG k f x m y := by
      intro z m
      induction m with
      | zero => intro _; rfl
      | succ m ih =>
        intro hz
        show rwG k f z m y + _ = - (rwG k f x m y + _)
        rw [ih (fun i hi => hz i (by omega)), hz m (by omega)]
        omega
    have q : rwG k f (fun i => if i = 0 then wrev w else wrev (x (n + 1 - i))) (n + 1) y = rwG k f (fun i => (fun i => if i < n then wrev (x (i + 1)) else wrev w) (n - i)) (n + 1) y := rwG_cg _ (fun i hi => by
      show (if i = 0 then wrev w else wrev (x (n + 1 - i))).1 = (if n - i < n then wrev (x (n - i + 1)) else wrev w).1
      by_cases c : i = 0
      · rw [if_pos c, if_neg (by omega)]
      · rw [if_neg c, if_pos (by omega), show n - i + 1 = n + 1 - i by omega])
    rw [q, rwG_rev (x := fun i => if i < n then wrev (x (i + 1)) else wrev w) n, neg (fun i => if i < n then wrev (x (i + 1)) else wrev w) (n + 1) (fun i hi => ?_), Int.neg_mul, Int.one_mul]
    obtain ⟨v, v1, v2⟩ := nx i (by omega)
    have := tm i (by omega) v v1
    rw [← this, v2]
    show (if k (if i < n then wrev (x (i + 1)) else wrev w).1 = y then _ else 0) = _
    by_cases c : i < n
    · rw [if_pos c, if_pos c]
    · rw [if_neg c, if_neg c]
/-- the four stations at one edge -/
theorem wE_four {u v : WS} (h : WV P u) (g : WV P v) (e : wE u = wE v) : u = v ∨ u = wrev v ∨ u = wsw v ∨ u = wrev (wsw v) := by
  obtain ⟨s, a, b⟩ := u
  obtain ⟨s', a', b'⟩ := v
  obtain ⟨h1, h2, h3, h4, h5, h6⟩ := h
  obtain ⟨g1, g2, g3, g4, g5, g6⟩ := g
  dsimp only at h1 h2 h3 h4 h5 h6 g1 g2 g3 g4 g5 g6
  have e : 6 * (s / 4) + eOf a b = 6 * (s' / 4) + eOf a' b' := e
  have k1 := eOf_lt a h2 b h3
  have k2 := eOf_lt a' g2 b' g3
  have e1 : s / 4 = s' / 4 := by omega
  have e2 : eOf a b = eOf a' b' := by omega
  have o := oth4 g2 g3 (show s' % 4 < 4 by omega) g4 g5 g6
  have sd : s = s' ∨ s = 4 * (s' / 4) + (6 - a' - b' - s' % 4) := by
    have z1 : s % 4 < 4 := by omega
    have z2 : s' % 4 < 4 := by omega
    have : s % 4 = s' % 4 ∨ s % 4 = 6 - a' - b' - s' % 4 := by
      rcases eOf_inj h2 h3 g2 g3 h4 g4 e2 with ⟨q1, q2⟩ | ⟨q1, q2⟩ <;> subst q1 q2 <;> omega
    omega
  rcases eOf_inj h2 h3 g2 g3 h4 g4 e2 with ⟨q1, q2⟩ | ⟨q1, q2⟩
  · subst q1 q2
    rcases sd with q | q
    · exact Or.inl (by rw [q])
    · exact Or.inr (Or.inl (Prod.ext q rfl))
  · subst q1 q2
    rcases sd with q | q
    · exact Or.inr (Or.inr (Or.inl (by rw [q]; rfl)))
    · refine Or.inr (Or.inr (Or.inr (Prod.ext ?_ rfl)))
      show s = 4 * (s' / 4) + (6 - a - b - s' % 4)
      omega
theorem Cy.move (hG : GW P mt go) {w : WS} {n : Nat} {x : Nat → WS} (h : Cy mt go w n x) (hw : WV P w) {u : WS} (hu : WV P u) {i : Nat} (hi : i ≤ n) (e : wE u = wE (x i)) : ∃ x', Cy mt go u n x' ∧ Alk (P := P) mt n x x' := by
  have hv := h.v hG hw i hi
  obtain ⟨x1, c1, c2⟩ := h.to hG hw i hi
  rcases wE_four hu hv e with q | q | q | q
  · rw [q]; exact ⟨x1, c1, c2⟩
  · rw [q]
    obtain ⟨x2, d1, d2⟩ := c1.rev hG hv
    exact ⟨x2, d1, c2.trans d2⟩
  · rw [q]
    obtain ⟨x2, d1, d2⟩ := c1.sw hG hv
    exact ⟨x2, d1, c2.trans d2⟩
  · rw [q]
    obtain ⟨x2, d1, d2⟩ := c1.sw hG hv
    obtain ⟨x3, f1, f2⟩ := d1.rev hG (wsw_v hv)
    exact ⟨x3, f1, (c2.trans d2).trans f2⟩
end
