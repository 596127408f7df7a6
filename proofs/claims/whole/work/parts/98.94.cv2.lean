/-! holes: loops as a system, and the matrix of the loops -/
def Onn (mt : Nat → Option Nat) (go : Nat → Nat) (w v : WS) : Prop := ∃ n x, Cy mt go w n x ∧ ∃ i, i ≤ n ∧ wE (x i) = wE v
def LSy (P : Nat) (mt : Nat → Option Nat) (go : Nat → Nat) (t : MT) : Prop := ∃ (r : List (WS × Nat)) (k : Nat → Nat) (f : Nat → Int), (∀ s, sg1 (f s)) ∧ (∀ s u, s < 4 * P → mt s = some u → f u = - f s ∧ k u = k s) ∧ (∀ s s', s < 4 * P → s' < 4 * P → mt s ≠ none → mt s' ≠ none → k s = k s' → s' = s ∨ mt s = some s') ∧ (∀ q ∈ r, WV P q.1 ∧ ∃ n x, Cy mt go q.1 n x ∧ ∃ ε : Int, sg1 ε ∧ ∀ y, rwG k f x (n + 1) y = ε * t q.2 y) ∧ (∀ v n x, WV P v → Cy mt go v n x → ∃ q ∈ r, Onn mt go q.1 v) ∧ (∀ q ∈ r, ∀ q' ∈ r, ∀ v, WV P v → Onn mt go q.1 v → Onn mt go q'.1 v → q = q') ∧ (∀ q ∈ r, ∀ q' ∈ r, q.2 = q'.2 → q = q') ∧ ∀ a y, t a y ≠ 0 → ∃ q ∈ r, q.2 = a
theorem lps_in {f : Nat → Bool} : ∀ n i, i < (lps f n).length → (lps f n).getD i 0 < n ∧ f ((lps f n).getD i 0) = true
  | 0, i, h => by
    have : (lps f 0).length = 0 := rfl
    omega
  | n + 1, i, h => by
    by_cases c : f n = true
    · rw [lps_t c] at h ⊢
      rw [List.length_append] at h
      have h : i < (lps f n).length + 1 := h
      by_cases d : i < (lps f n).length
      · rw [lgD1 d]
        have := lps_in n i d
        exact ⟨by omega, this.2⟩
      · rw [show i = (lps f n).length by omega, lgD2]
        exact ⟨by omega, c⟩
    · rw [lps_f c] at h ⊢
      have := lps_in n i h
      exact ⟨by omega, this.2⟩
theorem lps_ij {f : Nat → Bool} : ∀ n i j, i < (lps f n).length → j < (lps f n).length → (lps f n).getD i 0 = (lps f n).getD j 0 → i = j
  | 0, i, j, h, _, _ => by
    have : (lps f 0).length = 0 := rfl
    omega
  | n + 1, i, j, h, g, e => by
    by_cases c : f n = true
    · rw [lps_t c] at h g e
      rw [List.length_append] at h g
      have h : i < (lps f n).length + 1 := h
      have g : j < (lps f n).length + 1 := g
      by_cases d : i < (lps f n).length
      · rw [lgD1 d] at e
        by_cases d2 : j < (lps f n).length
        · rw [lgD1 d2] at e
          exact lps_ij n i j d d2 e
        · rw [show j = (lps f n).length by omega, lgD2] at e
          have := (lps_in n i d).1
          omega
      · rw [show i = (lps f n).length by omega, lgD2] at e
        by_cases d2 : j < (lps f n).length
        · rw [lgD1 d2] at e
          have := (lps_in n j d2).1
          omega
        · omega
    · rw [lps_f c] at h g e
      exact lps_ij n i j h g e
theorem lps_has {f : Nat → Bool} : ∀ n m, m < n → f m = true → ∃ i, i < (lps f n).length ∧ (lps f n).getD i 0 = m
  | 0, m, h, _ => by omega
  | n + 1, m, h, e => by
    by_cases c : m = n
    · subst c
      rw [lps_t e, List.length_append]
      exact ⟨(lps f m).length, Nat.lt_succ_self _, lgD2⟩
    · obtain ⟨i, i1, i2⟩ := lps_has n m (by omega) e
      by_cases d : f n = true
      · rw [lps_t d, List.length_append]
        exact ⟨i, Nat.lt_succ_of_lt i1, by rw [lgD1 i1]; exact i2⟩
      · rw [lps_f d]
        exact ⟨i, i1, i2⟩
section
variable {P : Nat} {mt : Nat → Option Nat} {go : Nat → Nat}
theorem wE_lt {w : WS} (h : WV P w) : wE w < 6 * P := by
  have := eOf_lt _ h.2.1 _ h.2.2.1
  have := h.1
  show 6 * (w.1 / 4) + eOf w.2.1 w.2.2 < 6 * P
  omega
theorem wE_ws {k : Nat} : wE (ws k) = k := by
  have f1 := fE_fin (k % 6) (by omega)
  have f2 := fE_opp (k % 6) (by omega)
  show 6 * ((4 * (k / 6) + fE (5 - k % 6)) / 4) + eOf (fE (k % 6)) (tE (k % 6)) = k
  rw [f1.2.2.2]
  omega
theorem wst_wE (hG : GW P mt go) {w v : WS} (h : WV P w) (e : wst mt go w = some v) : cR (sR2 (EJ P mt go)) (wE w) (wE v) := by
  obtain ⟨t, a1, a2, a3, a4, a5, a6, a7, a8, a9, b1, b2, b3, b4, b5⟩ := wst_f hG h e
  obtain ⟨h1, h2, h3, h4, h5, h6⟩ := h
  have m := opsP_mem (go := go) h1 a1 h2 h3 h4 h5 h6
  have c : conn (prsOf 195 (opsP mt go (4 * P))) (endI (w.1 / 4) w.2.1 w.2.2) (endI (t / 4) (go (4 * w.1 + w.2.1)) (go (4 * w.1 + w.2.2))) := fun C hC hq => (hq _ (mem_prsOf.mpr m)).mp hC
  have d := dR2.half ((conn_E hG _ _).mp c)
  have e1 : endI (w.1 / 4) w.2.1 w.2.2 / 2 = wE w := by
    unfold endI
    show (12 * (w.1 / 4) + 2 * eOf w.2.1 w.2.2 + _) / 2 = 6 * (w.1 / 4) + eOf w.2.1 w.2.2
    split <;> omega
  have k := oth4 a9 b1 (show t % 4 < 4 by omega) b2 b3 b4
  have e2 : endI (t / 4) (go (4 * w.1 + w.2.1)) (go (4 * w.1 + w.2.2)) / 2 = wE v := by
    rw [← a5, ← a6]
    unfold endI
    show (12 * (t / 4) + 2 * eOf v.2.1 v.2.2 + _) / 2 = 6 * (v.1 / 4) + eOf v.2.1 v.2.2
    rw [show v.1 / 4 = t / 4 by omega]
    split <;> omega
  rw [e1, e2] at d
  exact d
theorem Cy.cn (hG : GW P mt go) {w : WS} {n : Nat} {x : Nat → WS} (h : Cy mt go w n x) (hw : WV P w) : ∀ i, i ≤ n → cR (sR2 (EJ P mt go)) (wE w) (wE (x i))
  | 0, _ => by rw [h.1]; exact cR.rf _ _
  | i + 1, hi => (Cy.cn hG h hw i (by omega)).trans (wst_wE hG (h.v hG hw i (by omega)) (h.2.1 i (by omega)).1)
theorem Cy.nx (hG : GW P mt go) {w : WS} {n : Nat} {x : Nat → WS} (h : Cy mt go w n x) (hw : WV P w) {A B : WS} (hA : WV P A) (e : wst mt go A = some B) (g : ∃ i, i ≤ n ∧ wE (x i) = wE A) : ∃ i, i ≤ n ∧ wE (x i) = wE B := by
  obtain ⟨i, hi, ei⟩ := g
  obtain ⟨x', c1, c2⟩ := h.move hG hw hA hi ei.symm
  refine (c2.1 (wE B)).mp ?_
  obtain ⟨v, v1, x'', d1, d2, d3, d4⟩ := c1.sh hG hA
  rw [e] at v1
  cases v1
  exact (d4.1 (wE B)).mp ⟨0, by omega, by rw [d1.1]⟩
theorem WX_Cy {k n0 n : Nat} {x0 x : Nat → WS} (h : WX mt go k n0 x0) (g : Cy mt go (ws k) n x) : Cy mt go (ws k) n0 x0 := by
  rcases h.2.2 with c | c
  · exfalso
    have key : ∀ i, i ≤ n0 → i ≤ n → x0 i = x i := by
      intro i
      induction i with
      | zero => exact fun _ _ => h.1.trans g.1.symm
      | succ i ih =>
        intro h1 h2
        have a := (h.2.1 i (by omega)).1
        have b := (g.2.1 i (by omega)).1
        rw [ih (by omega) (by omega), b] at a
        exact (Option.some.inj a).symm
    by_cases d : n0 ≤ n
    · obtain ⟨t, e⟩ := g.g n0 d
      rw [← key n0 (Nat.le_refl _) d, c] at e
      cases e
    · have a := (h.2.1 n (by omega))
      rw [key n (by omega) (Nat.le_refl _), g.2.2] at a
      exact a.2 (Option.some.inj a.1).symm
  · exact ⟨h.1, h.2.1, c⟩
theorem pr_side (hG : GW P mt go) {k : Nat → Nat} {f : Nat → Int} (h2 : ∀ s u, s < 4 * P → mt s = some u → f u = - f s ∧ k u = k s) (h3 : ∀ s s', s < 4 * P → s' < 4 * P → mt s ≠ none → mt s' ≠ none → k s = k s' → s' = s ∨ mt s = some s') {sj : Nat} (hs : sj < 4 * P) (hp : prN mt sj = true) {s t : Nat} (hs' : s < 4 * P) (e : mt s = some t) : (if k s = k sj then f s else 0) = f sj * (if prOf mt s = cnt (prN mt) sj then sgW mt s else 0) := by
  have px : ∃ u, mt sj = some u ∧ sj < u := by
    unfold prN at hp
    cases q : mt sj with
    | none => rw [q] at hp; cases hp
    | some u => rw [q] at hp; exact ⟨u, rfl, of_decide_eq_true hp⟩
  obtain ⟨u, u1, u2⟩ := px
  obtain ⟨g1, g2, g3, -⟩ := hG.2 s hs' t e
  obtain ⟨w1, w2, w3, -⟩ := hG.2 sj hs u u1
  have pm : prN mt (min s t) = true := by
    by_cases q : s < t
    · rw [show min s t = s by omega]; exact prN_t e q
    · rw [show min s t = t by omega]; exact prN_t g3 (by omega)
  rw [prOf_s e]
  have nf : ∀ z v, mt z = some v → ¬ z < v → ¬ prN mt z = true := fun z v hz hv w => by
    unfold prN at w
    rw [hz] at w
    exact hv (of_decide_eq_true w)
  by_cases c : cnt (prN mt) (min s t) = cnt (prN mt) sj
  · rw [if_pos c]
    have m := cnt_inj pm hp c
    by_cases q : s < t
    · have : s = sj := by omega
      subst this
      rw [if_pos rfl]
      unfold sgW
      rw [if_pos hp, Int.mul_one]
    · have q2 : t = sj := by omega
      subst q2
      have := h2 s t hs' e
      rw [if_pos this.2.symm]
      unfold sgW
      rw [if_neg (nf s t e (by omega)), this.1]
      omega
  · rw [if_neg c, Int.mul_zero, if_neg]
    intro w
    rcases h3 s sj hs' hs (by rw [e]; exact fun z => by cases z) (by rw [u1]; exact fun z => by cases z) w with q | q
    · subst q
      rw [e] at u1
      cases u1
      rw [show min sj t = sj by omega] at c
      exact c rfl
    · rw [e] at q
      cases q
      rw [g3] at u1
      cases u1
      rw [show min s sj = sj by omega] at c
      exact c rfl
theorem rw_side (hG : GW P mt go) {k : Nat → Nat} {f : Nat → Int} (h2 : ∀ s u, s < 4 * P → mt s = some u → f u = - f s ∧ k u = k s) (h3 : ∀ s s', s < 4 * P → s' < 4 * P → mt s ≠ none → mt s' ≠ none → k s = k s' → s' = s ∨ mt s = some s') {sj : Nat} (hs : sj < 4 * P) (hp : prN mt sj = true) (x : Nat → WS) : ∀ m, (∀ i, i < m → (x i).1 < 4 * P ∧ ∃ t, mt (x i).1 = some t) → rwG k f x m (k sj) = f sj * rwX mt x m (cnt (prN mt) sj)
  | 0, _ => (Int.mul_zero _).symm
  | m + 1, h => by
    obtain ⟨a, t, b⟩ := h m (by omega)
    show rwG k f x m (k sj) + (if k (x m).1 = k sj then f (x m).1 else 0) = f sj * (rwX mt x m (cnt (prN mt) sj) + (if prOf mt (x m).1 = cnt (prN mt) sj then sgW mt (x m).1 else 0))
    rw [rw_side hG h2 h3 hs hp x m (fun i hi => h i (by omega)), pr_side hG h2 h3 hs hp a b, Int.mul_add]
theorem rwG_nz {k : Nat → Nat} {f : Nat → Int} {x : Nat → WS} {y : Nat} : ∀ m, rwG k f x m y ≠ 0 → ∃ i, i < m ∧ k (x i).1 = y
  | 0, h => absurd rfl h
  | m + 1, h => by
    by_cases c : k (x m).1 = y
    · exact ⟨m, by omega, c⟩
    · have h : rwG k f x m y + (if k (x m).1 = y then f (x m).1 else 0) ≠ 0 := h
      rw [if_neg c, Int.add_zero] at h
      obtain ⟨i, i1, i2⟩ := rwG_nz m h
      exact ⟨i, by omega, i2⟩
/-- the matrix of the loops, from the system -/
theorem LSy.eqv (hG : GW P mt go) {t : MT} (h : LSy P mt go t) (n : Nat → Nat) (x : Nat → Nat → WS) (hx : ∀ k, k < 6 * P → n k < 6 * P ∧ WX mt go k (n k) (x k)) : ∃ p q e f, EqvW (lpM mt n x (lps (fun k => fs (EJ P mt go) k && clo mt go n x k) (6 * P))) 0 ((lps (fun k => fs (EJ P mt go) k && clo mt go n x k) (6 * P)).length) (cnt (prN mt) (4 * P)) t p q e f := by
  obtain ⟨r, k, f, f1, f2, f3, f4, f5, f6, f7, f8⟩ := h
  have row : ∀ i, i < (lps (fun k => fs (EJ P mt go) k && clo mt go n x k) (6 * P)).length → (lps (fun k => fs (EJ P mt go) k && clo mt go n x k) (6 * P)).getD i 0 < 6 * P ∧ fs (EJ P mt go) ((lps (fun k => fs (EJ P mt go) k && clo mt go n x k) (6 * P)).getD i 0) = true ∧ Cy mt go (ws ((lps (fun k => fs (EJ P mt go) k && clo mt go n x k) (6 * P)).getD i 0)) (n ((lps (fun k => fs (EJ P mt go) k && clo mt go n x k) (6 * P)).getD i 0)) (x ((lps (fun k => fs (EJ P mt go) k && clo mt go n x k) (6 * P)).getD i 0)) := fun i hi => by
    obtain ⟨a, b⟩ := lps_in _ i hi
    rw [Bool.and_eq_true] at b
    have c := hx _ a
    exact ⟨a, b.1, c.2.1, c.2.2.1, of_decide_eq_true b.2⟩
  have lij := fun i j => lps_ij (f := fun k => fs (EJ P mt go) k && clo mt go n x k) (6 * P) i j
  have lhas := fun m => lps_has (f := fun k => fs (EJ P mt go) k && clo mt go n x k) (6 * P) m
  unfold lpM
  generalize lps (fun k => fs (EJ P mt go) k && clo mt go n x k) (6 * P) = l at *
  -- a root for each row
  have ex : ∀ i, ∃ q : WS × Nat, ∃ e : Int, sg1 e ∧ (i < l.length → q ∈ r ∧ Onn mt go q.1 (ws (l.getD i 0)) ∧ ∀ y, rwG k f (x (l.getD i 0)) (n (l.getD i 0) + 1) y = e * t q.2 y) := fun i => by
    by_cases c : i < l.length
    · obtain ⟨a1, a2, a3⟩ := row i c
      obtain ⟨q, q1, q2⟩ := f5 _ _ _ (ws_v a1) a3
      obtain ⟨w1, n0, x0, w2, e0, w3, w4⟩ := f4 q q1
      have q2' := q2
      obtain ⟨n', x', c1, j, c2, c3⟩ := q2
      obtain ⟨c4, c5⟩ := w2.one c1
      subst c4
      obtain ⟨x'', d1, d2⟩ := w2.move hG w1 (ws_v a1) c2 (by rw [c5 j c2]; exact c3.symm)
      obtain ⟨g1, g2⟩ := a3.one d1
      obtain ⟨-, e1, d3, d4⟩ := d2
      refine ⟨q, e1 * e0, d3.mul w3, fun _ => ⟨q1, q2', fun y => ?_⟩⟩
      rw [rwG_cg (x' := x'') _ (fun i hi => by rw [g2 i (by omega)]), g1, d4 k f f2 y, w4 y, Int.mul_assoc]
    · exact ⟨((0, 0, 0), 0), 1, Or.inl rfl, fun w => absurd w c⟩
  obtain ⟨Q, hQ⟩ := Classical.skolem.mp ex
  obtain ⟨e, he⟩ := Classical.skolem.mp hQ
  have cx : ∀ j, ∃ s, j < cnt (prN mt) (4 * P) → s < 4 * P ∧ prN mt s = true ∧ cnt (prN mt) s = j := fun j => by
    by_cases c : j < cnt (prN mt) (4 * P)
    · obtain ⟨s, s1⟩ := cnt_find _ _ c
      exact ⟨s, fun _ => s1⟩
    · exact ⟨0, fun w => absurd w c⟩
  obtain ⟨sd, hsd⟩ := Classical.skolem.mp cx
  have gl : ∀ s, prN mt s = true → ∃ u, mt s = some u ∧ s < u := fun s hp => by
    unfold prN at hp
    cases q : mt s with
    | none => rw [q] at hp; cases hp
    | some u => rw [q] at hp; exact ⟨u, rfl, of_decide_eq_true hp⟩
  refine ⟨fun i => (Q i).2, fun j => k (sd j), e, fun j => f (sd j), fun i => (he i).1, fun j => f1 _, fun i i' _ hi _ hi' w => ?_, fun j j' _ hj _ hj' w => ?_, fun i j _ hi _ hj => ?_, fun a y hz => ?_⟩
  · obtain ⟨b1, b2, -⟩ := (he i).2 hi
    obtain ⟨c1, c2, -⟩ := (he i').2 hi'
    have eq := f7 _ b1 _ c1 w
    rw [← eq] at c2
    obtain ⟨n1, x1, g1, j1, g2, g3⟩ := b2
    obtain ⟨n2, x2, g4, j2, g5, g6⟩ := c2
    have hv := (f4 _ b1).1
    have k1 := g1.cn hG hv j1 g2
    have k2 := g4.cn hG hv j2 g5
    rw [g3, wE_ws] at k1
    rw [g6, wE_ws] at k2
    exact lij i i' hi hi' (fst_un (row i hi).2.1 (row i' hi').2.1 (k1.symm.trans k2))
  · obtain ⟨b1, b2, b3⟩ := hsd j hj
    obtain ⟨c1, c2, c3⟩ := hsd j' hj'
    obtain ⟨u, u1, u2⟩ := gl _ b2
    obtain ⟨v, v1, v2⟩ := gl _ c2
    rcases f3 _ _ b1 c1 (by rw [u1]; exact fun z => by cases z) (by rw [v1]; exact fun z => by cases z) w with q | q
    · rw [← b3, ← c3, q]
    · exfalso
      rw [u1] at q
      cases q
      have := (hG.2 _ b1 _ u1).2.2.1
      rw [v1] at this
      cases this
      omega
  · obtain ⟨b1, b2, b3⟩ := hsd j hj
    obtain ⟨a1, a2, a3⟩ := row i hi
    have hv := a3.v hG (ws_v a1)
    have q := rw_side hG f2 f3 b1 b2 (x (l.getD i 0)) (n (l.getD i 0) + 1) (fun i hi => ⟨(hv i (by omega)).1, a3.g i (by omega)⟩)
    rw [b3, ((he i).2 hi).2.2] at q
    have sq := (f1 (sd j)).sq
    show rwX mt (x (l.getD i 0)) (n (l.getD i 0) + 1) j = e i * f (sd j) * t (Q i).2 (k (sd j))
    grind
  · obtain ⟨q, q1, q2⟩ := f8 a y hz
    obtain ⟨w1, n0, x0, w2, e0, w3, w4⟩ := f4 q q1
    have hv := w2.v hG w1
    constructor
    · -- the first edge of its class
      obtain ⟨m, m1, m2, m3⟩ := fst_ex (sR2 (EJ P mt go)) (wE q.1) (wE q.1) (Nat.le_refl _)
      have hm : m < 6 * P := Nat.lt_of_le_of_lt m1 (wE_lt w1)
      have onm : ∃ i, i ≤ n0 ∧ wE (x0 i) = m := m3.symm (fun z => ∃ i, i ≤ n0 ∧ wE (x0 i) = z) ⟨0, by omega, by rw [w2.1]⟩ (fun u v ⟨b, hb⟩ => by
        obtain ⟨s, t', e', -, s1, s2, s3, s4, s5, s6, s7, s8, -⟩ := hb
        have fe := fE_fin e' s4
        have hA : WV P ((s, fE e', tE e') : WS) := ⟨s1, fe.1, fe.2.1, by show fE e' ≠ tE e'; omega, s5, s6⟩
        have eA := wst_s (go := go) (show mt ((s, fE e', tE e') : WS).1 = some t' from s2)
        have hB := hA.st hG eA
        have bk := wst_back hG hA eA
        have u1 : wE ((s, fE e', tE e') : WS) = u := by
          show 6 * (s / 4) + eOf (fE e') (tE e') = u
          rw [fe.2.2.2, s7]
        obtain ⟨t2, z1, z2, z3, z4, z5, z6, z7, z8, z9, y1, y2, y3, y4, y5⟩ := wst_f hG hA eA
        have z1 : mt s = some t2 := z1
        rw [s2] at z1
        cases z1
        have k := oth4 z9 y1 (show t' % 4 < 4 by omega) y2 y3 y4
        have v1 : wE ((4 * (t' / 4) + (6 - go (4 * s + fE e') - go (4 * s + tE e') - t' % 4), go (4 * s + fE e'), go (4 * s + tE e')) : WS) = v := by
          have k : 6 - go (4 * s + fE e') - go (4 * s + tE e') - t' % 4 < 4 := k.1
          show 6 * ((4 * (t' / 4) + (6 - go (4 * s + fE e') - go (4 * s + tE e') - t' % 4)) / 4) + eOf (go (4 * s + fE e')) (go (4 * s + tE e')) = v
          rw [s8, show (4 * (t' / 4) + (6 - go (4 * s + fE e') - go (4 * s + tE e') - t' % 4)) / 4 = t' / 4 by omega]
        rw [← u1, ← v1]
        exact ⟨fun g => w2.nx hG w1 hA eA g, fun g => by
          have := w2.nx hG w1 (wrev_v hB) bk (by rw [wE_rev hB]; exact g)
          rw [wE_rev hA] at this
          exact this⟩)
      obtain ⟨i0, i1, i2⟩ := onm
      have on2 : Onn mt go q.1 (ws m) := ⟨n0, x0, w2, i0, i1, by rw [wE_ws]; exact i2⟩
      obtain ⟨x', d1, -⟩ := w2.move hG w1 (ws_v hm) i1 (by rw [wE_ws]; exact i2.symm)
      have cl := WX_Cy (hx m hm).2 d1
      obtain ⟨i, l1, l2⟩ := lhas m hm (by
        rw [Bool.and_eq_true]
        exact ⟨m2, decide_eq_true cl.2.2⟩)
      refine ⟨i, Nat.zero_le _, l1, ?_⟩
      obtain ⟨b1, b2, -⟩ := (he i).2 l1
      rw [l2] at b2
      have := f6 _ b1 _ q1 _ (ws_v hm) b2 on2
      show (Q i).2 = a
      rw [this, q2]
    · have nz : rwG k f x0 (n0 + 1) y ≠ 0 := by
        rw [w4 y, q2]
        exact Int.mul_ne_zero w3.ne hz
      obtain ⟨i, i1, i2⟩ := rwG_nz _ nz
      obtain ⟨u, u1⟩ := w2.g i (by omega)
      have hs := (hv i (by omega)).1
      have pl := prOf_lt hG hs u1
      obtain ⟨b1, b2, b3⟩ := hsd _ pl
      refine ⟨prOf mt (x0 i).1, Nat.zero_le _, pl, ?_⟩
      obtain ⟨g1, g2, g3, -⟩ := hG.2 _ hs u u1
      have pm : prN mt (min (x0 i).1 u) = true := by
        by_cases q : (x0 i).1 < u
        · rw [show min (x0 i).1 u = (x0 i).1 by omega]; exact prN_t u1 q
        · rw [show min (x0 i).1 u = u by omega]; exact prN_t g3 (by omega)
      have m := cnt_inj b2 pm (b3.trans (prOf_s u1))
      show k (sd (prOf mt (x0 i).1)) = y
      rw [m, ← i2]
      by_cases q : (x0 i).1 < u
      · rw [show min (x0 i).1 u = (x0 i).1 by omega]
      · rw [show min (x0 i).1 u = u by omega]
        exact (f2 _ _ hs u1).2
end
