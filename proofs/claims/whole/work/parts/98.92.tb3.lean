/-! holes: one block of the table -/
def any8 (p : Nat → Bool) : Bool := p 0 || p 1 || p 2 || p 3 || p 4 || p 5 || p 6 || p 7
def any6 (p : Nat → Bool) : Bool := p 0 || p 1 || p 2 || p 3 || p 4 || p 5
theorem any8_t {p : Nat → Bool} (h : any8 p = true) : ∃ i, i < 8 ∧ p i = true := by
  unfold any8 at h
  simp only [Bool.or_eq_true] at h
  rcases h with (((((((h | h) | h) | h) | h) | h) | h) | h)
  · exact ⟨0, by omega, h⟩
  · exact ⟨1, by omega, h⟩
  · exact ⟨2, by omega, h⟩
  · exact ⟨3, by omega, h⟩
  · exact ⟨4, by omega, h⟩
  · exact ⟨5, by omega, h⟩
  · exact ⟨6, by omega, h⟩
  · exact ⟨7, by omega, h⟩
theorem any8_f {p : Nat → Bool} (h : ¬ any8 p = true) {i : Nat} (hi : i < 8) : ¬ p i = true := by
  intro w
  apply h
  unfold any8
  simp only [Bool.or_eq_true]
  rcases (show i = 0 ∨ i = 1 ∨ i = 2 ∨ i = 3 ∨ i = 4 ∨ i = 5 ∨ i = 6 ∨ i = 7 by omega) with rfl | rfl | rfl | rfl | rfl | rfl | rfl | rfl <;> simp only [w, true_or, or_true]
theorem any6_t {p : Nat → Bool} (h : any6 p = true) : ∃ i, i < 6 ∧ p i = true := by
  unfold any6 at h
  simp only [Bool.or_eq_true] at h
  rcases h with (((((h | h) | h) | h) | h) | h)
  · exact ⟨0, by omega, h⟩
  · exact ⟨1, by omega, h⟩
  · exact ⟨2, by omega, h⟩
  · exact ⟨3, by omega, h⟩
  · exact ⟨4, by omega, h⟩
  · exact ⟨5, by omega, h⟩
theorem any6_f {p : Nat → Bool} (h : ¬ any6 p = true) {i : Nat} (hi : i < 6) : ¬ p i = true := by
  intro w
  apply h
  unfold any6
  simp only [Bool.or_eq_true]
  rcases (show i = 0 ∨ i = 1 ∨ i = 2 ∨ i = 3 ∨ i = 4 ∨ i = 5 by omega) with rfl | rfl | rfl | rfl | rfl | rfl <;> simp only [w, true_or, or_true]
def nzB (v : Int) : Bool := decide (v ≠ 0)
section
variable (TB LB K : Nat)
def nxB (lab : List Nat) (m : Nat) (U : ML) (w : Nat) : Bool := simB TB U w && (Nat.blt (wK w) K && (decide (lbT LB (wK w) = lab) && Nat.blt (muT LB (wK w)) m))
theorem nxB_ok {lab : List Nat} {m : Nat} {U : ML} (hU : rec8 U) {w : Nat} (h : nxB TB LB K lab m U w = true) : Nxt K (TT TB) (lbT LB) (muT LB) m (gMt U) lab := by
  unfold nxB at h
  simp only [Bool.and_eq_true] at h
  exact ⟨wK w, Nat.le_of_ble_eq_true h.2.1, simB_ok hU h.1, of_decide_eq_true h.2.2.1, Nat.le_of_ble_eq_true h.2.2.2⟩
/-- some number of row r is not a multiple -/
def ndB (W : ML) (x y r : Nat) : Bool := decide (r ≠ x) && any6 (fun c => decide (c ≠ y) && decide (gMt W r c ≠ (gMt W r c).tdiv (gMt W x y) * gMt W x y))
/-- rows that come to row x -/
def adK (lab : List Nat) (m : Nat) (W : ML) (x y : Nat) (cont : List Nat → Bool) : Nat → List Nat → Bool
  | 0, ws => cont ws
  | r + 1, ws => if ndB W x y r = true then nxB TB LB K lab m (adL W x r 1) (ws.headD 0) && (nxB TB LB K lab m (adL W x r (-1)) (ws.tail.headD 0) && adK lab m W x y cont r ws.tail.tail) else adK lab m W x y cont r ws
theorem adK_ok {lab : List Nat} {m : Nat} {W : ML} {x y : Nat} {cont : List Nat → Bool} : ∀ n ws, adK TB LB K lab m W x y cont n ws = true → (∀ r, r < n → ndB W x y r = true → ∃ w1 w2, nxB TB LB K lab m (adL W x r 1) w1 = true ∧ nxB TB LB K lab m (adL W x r (-1)) w2 = true) ∧ ∃ ws', cont ws' = true
  | 0, ws, h => ⟨fun r hr => by omega, ws, h⟩
  | n + 1, ws, h => by
    unfold adK at h
    by_cases c : ndB W x y n = true
    · rw [if_pos c] at h
      simp only [Bool.and_eq_true] at h
      obtain ⟨a, b⟩ := adK_ok n _ h.2.2
      refine ⟨fun r hr hn => ?_, b⟩
      by_cases e : r = n
      · subst e; exact ⟨_, _, h.1, h.2.1⟩
      · exact a r (by omega) hn
    · rw [if_neg c] at h
      obtain ⟨a, b⟩ := adK_ok n _ h
      refine ⟨fun r hr hn => ?_, b⟩
      by_cases e : r = n
      · subst e; exact absurd hn c
      · exact a r (by omega) hn
/-- one place of the least number -/
def psK (lab : List Nat) (m pv : Nat) (L : ML) (x y : Nat) (ws : List Nat) (cont : List Nat → Bool) : Bool :=
  if (gMt L x y).natAbs = pv then
    (fun U => if any8 (fun i => decide (i ≠ x) && nzB (gMt U i y)) = true then nxB TB LB K lab m U (ws.headD 0) && (nxB TB LB K lab m (st2L U x y) (ws.tail.headD 0) && cont ws.tail.tail)
      else (fun W => if any6 (fun j => decide (j ≠ y) && nzB (gMt W x j)) = true then nxB TB LB K lab m W (ws.headD 0) && cont ws.tail
        else if any8 (fun r => ndB W x y r) = true then adK TB LB K lab m W x y cont 8 ws
          else simB TB (fnL W x y) (ws.headD 0) && (Nat.blt (wK (ws.headD 0)) K && (decide (lab = pv :: lbT LB (wK (ws.headD 0))) && cont ws.tail))) (st2L U x y)) (st1L L x y)
  else cont ws
/-- what the table wants of a place -/
def PlOK (k x y : Nat) : Prop :=
  ((∃ i, i ≠ x ∧ st1 (TT TB k) x y i y ≠ 0) → Nxt K (TT TB) (lbT LB) (muT LB) (muT LB k) (st1 (TT TB k) x y) (lbT LB k) ∧ Nxt K (TT TB) (lbT LB) (muT LB) (muT LB k) (st2 (st1 (TT TB k) x y) x y) (lbT LB k)) ∧
  ((∀ i, i ≠ x → st1 (TT TB k) x y i y = 0) →
    ((∃ j, j ≠ y ∧ st2 (st1 (TT TB k) x y) x y x j ≠ 0) → Nxt K (TT TB) (lbT LB) (muT LB) (muT LB k) (st2 (st1 (TT TB k) x y) x y) (lbT LB k)) ∧
    ((∀ j, j ≠ y → st2 (st1 (TT TB k) x y) x y x j = 0) →
      (∀ r c s, r ≠ x → c ≠ y → sg1 s → ¬ dvT (st2 (st1 (TT TB k) x y) x y) x y r c → Nxt K (TT TB) (lbT LB) (muT LB) (muT LB k) (adT (st2 (st1 (TT TB k) x y) x y) x r s) (lbT LB k)) ∧
      ((∀ r c, r ≠ x → c ≠ y → dvT (st2 (st1 (TT TB k) x y) x y) x y r c) → ∃ k', k' < K ∧ Sim (fnT (st2 (st1 (TT TB k) x y) x y) x y) (TT TB k') ∧ lbT LB k = (TT TB k x y).natAbs :: lbT LB k')))
theorem psK_ok {k pv x y : Nat} (hx : x < 8) (hy : y < 6) (hpv : (TT TB k x y).natAbs = pv) {ws : List Nat} {cont : List Nat → Bool} (h : psK TB LB K (lbT LB k) (muT LB k) pv (mlT (bkT TB k)) x y ws cont = true) : PlOK TB LB K k x y ∧ ∃ ws', cont ws' = true := by
  have rL := mlT_rec (bkT TB k)
  have rU := st1L_rec rL hx y
  have eU : gMt (st1L (mlT (bkT TB k)) x y) = st1 (TT TB k) x y := st1L_eq rL hx y
  have rW := st2L_rec rU hx y
  have eW : gMt (st2L (st1L (mlT (bkT TB k)) x y) x y) = st2 (st1 (TT TB k) x y) x y := by rw [st2L_eq rU hx y, eU]
  unfold psK at h
  rw [if_pos (show (gMt (mlT (bkT TB k)) x y).natAbs = pv from hpv)] at h
  dsimp only at h
  by_cases c1 : any8 (fun i => decide (i ≠ x) && nzB (gMt (st1L (mlT (bkT TB k)) x y) i y)) = true
  · rw [if_pos c1] at h
    simp only [Bool.and_eq_true] at h
    obtain ⟨i, hi, w⟩ := any8_t c1
    rw [Bool.and_eq_true, eU] at w
    have w1 := of_decide_eq_true w.1
    have w2 : st1 (TT TB k) x y i y ≠ 0 := of_decide_eq_true w.2
    have n1 := nxB_ok TB LB K rU h.1
    have n2 := nxB_ok TB LB K rW h.2.1
    rw [eU] at n1
    rw [eW] at n2
    exact ⟨⟨fun _ => ⟨n1, n2⟩, fun z => absurd (z i w1) w2⟩, _, h.2.2⟩
  · rw [if_neg c1] at h
    have cl : ∀ i, i ≠ x → st1 (TT TB k) x y i y = 0 := fun i hi => by
      by_cases c : i < 8
      · have := any8_f c1 c
        rw [Bool.and_eq_true, eU] at this
        by_cases z : st1 (TT TB k) x y i y = 0
        · exact z
        · exact absurd ⟨decide_eq_true hi, decide_eq_true z⟩ this
      · rw [← eU]; exact rU.out (Or.inl (by omega))
    have no1 : (∃ i, i ≠ x ∧ st1 (TT TB k) x y i y ≠ 0) → False := fun ⟨i, a, b⟩ => b (cl i a)
    by_cases c2 : any6 (fun j => decide (j ≠ y) && nzB (gMt (st2L (st1L (mlT (bkT TB k)) x y) x y) x j)) = true
    · rw [if_pos c2] at h
      simp only [Bool.and_eq_true] at h
      obtain ⟨j, hj, w⟩ := any6_t c2
      rw [Bool.and_eq_true, eW] at w
      have w1 := of_decide_eq_true w.1
      have w2 : st2 (st1 (TT TB k) x y) x y x j ≠ 0 := of_decide_eq_true w.2
      have n1 := nxB_ok TB LB K rW h.1
      rw [eW] at n1
      exact ⟨⟨fun z => (no1 z).elim, fun _ => ⟨fun _ => n1, fun z => absurd (z j w1) w2⟩⟩, _, h.2⟩
    · rw [if_neg c2] at h
      have cr : ∀ j, j ≠ y → st2 (st1 (TT TB k) x y) x y x j = 0 := fun j hj => by
        by_cases c : j < 6
        · have := any6_f c2 c
          rw [Bool.and_eq_true, eW] at this
          by_cases z : st2 (st1 (TT TB k) x y) x y x j = 0
          · exact z
          · exact absurd ⟨decide_eq_true hj, decide_eq_true z⟩ this
        · rw [← eW]; exact rW.out (Or.inr (by omega))
      have no2 : (∃ j, j ≠ y ∧ st2 (st1 (TT TB k) x y) x y x j ≠ 0) → False := fun ⟨j, a, b⟩ => b (cr j a)
      have nd : ∀ r c, r ≠ x → c ≠ y → ¬ dvT (st2 (st1 (TT TB k) x y) x y) x y r c → r < 8 ∧ ndB (st2L (st1L (mlT (bkT TB k)) x y) x y) x y r = true := fun r c h1 h2 h3 => by
        have hr : r < 8 ∧ c < 6 := by
          by_cases q : r < 8 ∧ c < 6
          · exact q
          · exfalso
            apply h3
            unfold dvT
            rw [← eW, rW.out (i := r) (j := c) (by omega), Int.zero_tdiv, Int.zero_mul]
        refine ⟨hr.1, ?_⟩
        unfold ndB
        rw [Bool.and_eq_true]
        refine ⟨decide_eq_true h1, ?_⟩
        by_cases q : any6 (fun c => decide (c ≠ y) && decide (gMt (st2L (st1L (mlT (bkT TB k)) x y) x y) r c ≠ (gMt (st2L (st1L (mlT (bkT TB k)) x y) x y) r c).tdiv (gMt (st2L (st1L (mlT (bkT TB k)) x y) x y) x y) * gMt (st2L (st1L (mlT (bkT TB k)) x y) x y) x y)) = true
        · exact q
        · exfalso
          have := any6_f q hr.2
          rw [Bool.and_eq_true, eW] at this
          exact this ⟨decide_eq_true h2, decide_eq_true h3⟩
      by_cases c3 : any8 (fun r => ndB (st2L (st1L (mlT (bkT TB k)) x y) x y) x y r) = true
      · rw [if_pos c3] at h
        obtain ⟨a, b⟩ := adK_ok TB LB K 8 ws h
        refine ⟨⟨fun z => (no1 z).elim, fun _ => ⟨fun z => (no2 z).elim, fun _ => ⟨fun r c s h1 h2 hs h3 => ?_, fun z => ?_⟩⟩⟩, b⟩
        · obtain ⟨hr, hn⟩ := nd r c h1 h2 h3
          obtain ⟨w1, w2, n1, n2⟩ := a r hr hn
          have m1 := nxB_ok TB LB K (adL_rec rW hr x 1) n1
          have m2 := nxB_ok TB LB K (adL_rec rW hr x (-1)) n2
          rw [adL_eq rW hx hr, eW] at m1 m2
          rcases hs with e | e
          · rw [e]; exact m1
          · rw [e]; exact m2
        · exfalso
          obtain ⟨r, hr, w⟩ := any8_t c3
          unfold ndB at w
          rw [Bool.and_eq_true] at w
          obtain ⟨c, hc, w2⟩ := any6_t w.2
          rw [Bool.and_eq_true, eW] at w2
          exact (of_decide_eq_true w2.2) (z r c (of_decide_eq_true w.1) (of_decide_eq_true w2.1))
      · rw [if_neg c3] at h
        simp only [Bool.and_eq_true] at h
        have s := simB_ok (fnL_rec rW x y) h.1
        rw [fnL_eq rW x y, eW] at s
        refine ⟨⟨fun z => (no1 z).elim, fun _ => ⟨fun z => (no2 z).elim, fun _ => ⟨fun r c s h1 h2 hs h3 => ?_, fun _ => ?_⟩⟩⟩, _, h.2.2.2⟩
        · obtain ⟨hr, hn⟩ := nd r c h1 h2 h3
          exact absurd hn (any8_f c3 hr)
        · exact ⟨_, Nat.le_of_ble_eq_true h.2.1, s, by rw [hpv]; exact of_decide_eq_true h.2.2.1⟩
/-- all places -/
def poK (lab : List Nat) (m pv : Nat) (L : ML) : List (Nat × Nat) → List Nat → Bool
  | [], _ => true
  | p :: ps, ws => psK TB LB K lab m pv L p.1 p.2 ws (fun ws => poK lab m pv L ps ws)
theorem poK_ok {k pv : Nat} : ∀ {ps : List (Nat × Nat)} {ws : List Nat}, (∀ p ∈ ps, p.1 < 8 ∧ p.2 < 6) → poK TB LB K (lbT LB k) (muT LB k) pv (mlT (bkT TB k)) ps ws = true → ∀ p ∈ ps, (TT TB k p.1 p.2).natAbs = pv → PlOK TB LB K k p.1 p.2
  | [], _, _, _, p, hp, _ => by cases hp
  | q :: ps, ws, hb, h, p, hp, hv => by
    have h : psK TB LB K (lbT LB k) (muT LB k) pv (mlT (bkT TB k)) q.1 q.2 ws (fun ws => poK TB LB K (lbT LB k) (muT LB k) pv (mlT (bkT TB k)) ps ws) = true := h
    have bq := hb q (List.mem_cons_self ..)
    by_cases c : (TT TB k q.1 q.2).natAbs = pv
    · obtain ⟨a, ws', b⟩ := psK_ok TB LB K bq.1 bq.2 c h
      rcases List.mem_cons.mp hp with e | e
      · rw [e]; exact a
      · exact poK_ok (fun x hx => hb x (List.mem_cons_of_mem _ hx)) b p e hv
    · unfold psK at h
      rw [if_neg (show ¬ (gMt (mlT (bkT TB k)) q.1 q.2).natAbs = pv from c)] at h
      rcases List.mem_cons.mp hp with e | e
      · rw [e] at hv; exact absurd hv c
      · exact poK_ok (fun x hx => hb x (List.mem_cons_of_mem _ hx)) h p e hv
def ps48 : List (Nat × Nat) := [(0, 0), (0, 1), (0, 2), (0, 3), (0, 4), (0, 5), (1, 0), (1, 1), (1, 2), (1, 3), (1, 4), (1, 5), (2, 0), (2, 1), (2, 2), (2, 3), (2, 4), (2, 5), (3, 0), (3, 1), (3, 2), (3, 3), (3, 4), (3, 5), (4, 0), (4, 1), (4, 2), (4, 3), (4, 4), (4, 5), (5, 0), (5, 1), (5, 2), (5, 3), (5, 4), (5, 5), (6, 0), (6, 1), (6, 2), (6, 3), (6, 4), (6, 5), (7, 0), (7, 1), (7, 2), (7, 3), (7, 4), (7, 5)]
theorem ps48_ok : (∀ p ∈ ps48, p.1 < 8 ∧ p.2 < 6) ∧ ∀ x, x < 8 → ∀ y, y < 6 → (x, y) ∈ ps48 := by decide +kernel
def enK (k pv : Nat) (ws : List Nat) : Bool := (fun L => if pv = 0 then all8 (fun i => all6 (fun j => decide (gMt L i j = 0))) && decide (lbT LB k = []) else any8 (fun i => any6 (fun j => decide ((gMt L i j).natAbs = pv))) && all8 (fun i => all6 (fun j => decide ((gMt L i j).natAbs = 0 ∨ pv ≤ (gMt L i j).natAbs))) && poK TB LB K (lbT LB k) (muT LB k) pv L ps48 ws) (mlT (bkT TB k))
/-- what the table wants of a block -/
def BlOK (k : Nat) : Prop := (∀ i j, (TT TB k i j).natAbs ≤ 1000) ∧ muT LB k < 100000 ∧ ((∀ i j, TT TB k i j = 0) → lbT LB k = []) ∧ ∀ x y, mnE (TT TB k) x y → PlOK TB LB K k x y
theorem byT_le (X n : Nat) : (byT X n).natAbs ≤ 1000 := by
  unfold byT
  have : Nat.land (Nat.shiftRight X (Nat.mul 8 n)) 255 < 256 := by
    show (X >>> (8 * n)) &&& 255 < 256
    rw [show (255 : Nat) = 2 ^ 8 - 1 from rfl, Nat.and_two_pow_sub_one_eq_mod]
    exact Nat.mod_lt _ (by decide)
  show ((Nat.land (Nat.shiftRight X (Nat.mul 8 n)) 255 : Nat) - 128 : Int).natAbs ≤ 1000
  omega
theorem enK_ok {k pv : Nat} {ws : List Nat} (h : enK TB LB K k pv ws = true) : BlOK TB LB K k := by
  have rL := mlT_rec (bkT TB k)
  have inR : ∀ i j, TT TB k i j ≠ 0 → i < 8 ∧ j < 6 := fun i j w => by
    by_cases c : i < 8 ∧ j < 6
    · exact c
    · exact absurd (rL.out (by omega)) w
  refine ⟨fun i j => ?_, ?_, ?_⟩
  · by_cases c : i < 8 ∧ j < 6
    · show (gMt (mlT (bkT TB k)) i j).natAbs ≤ 1000
      rw [mlT_at _ c.1 c.2]
      exact byT_le _ _
    · rw [show TT TB k i j = 0 from rL.out (by omega)]; decide
  · unfold muT
    have : (LB >>> (64 * k + 48)) &&& 65535 < 65536 := by
      rw [show (65535 : Nat) = 2 ^ 16 - 1 from rfl, Nat.and_two_pow_sub_one_eq_mod]
      exact Nat.mod_lt _ (by decide)
    have : Nat.land (Nat.shiftRight LB (Nat.add (Nat.mul 64 k) 48)) 65535 < 65536 := this
    omega
  · unfold enK at h
    dsimp only at h
    by_cases c : pv = 0
    · rw [if_pos c, Bool.and_eq_true] at h
      have z : ∀ i j, TT TB k i j = 0 := fun i j => by
        by_cases q : i < 8 ∧ j < 6
        · exact of_decide_eq_true (all6_t (all8_t h.1 q.1) q.2)
        · exact rL.out (by omega)
      exact ⟨fun _ => of_decide_eq_true h.2, fun x y hm => absurd (z x y) hm.1⟩
    · rw [if_neg c] at h
      simp only [Bool.and_eq_true] at h
      obtain ⟨i, hi, w⟩ := any8_t h.1.1
      obtain ⟨j, hj, w⟩ := any6_t w
      have w : (TT TB k i j).natAbs = pv := of_decide_eq_true w
      refine ⟨fun z => ?_, fun x y hm => ?_⟩
      · exfalso
        rw [z i j] at w
        exact c w.symm
      · obtain ⟨hx, hy⟩ := inR x y hm.1
        have a := hm.2 i j (fun z => by rw [z] at w; exact c w.symm)
        have b := of_decide_eq_true (all6_t (all8_t h.1.2 hx) hy)
        have b : (TT TB k x y).natAbs = 0 ∨ pv ≤ (TT TB k x y).natAbs := b
        have e : (TT TB k x y).natAbs = pv := by
          rcases b with b | b
          · exact absurd (Int.natAbs_eq_zero.mp b) hm.1
          · omega
        exact poK_ok TB LB K ps48_ok.1 h.2 (x, y) (ps48_ok.2 x hx y hy) e
def chT : Nat → List (Nat × List Nat) → Bool
  | _, [] => true
  | k, p :: ps => enK TB LB K k p.1 p.2 && chT (k + 1) ps
theorem chT_ok : ∀ {ps : List (Nat × List Nat)} {k : Nat}, chT TB LB K k ps = true → ∀ j, k ≤ j → j < k + ps.length → BlOK TB LB K j
  | [], k, _, j, h1, h2 => by
    have : ([] : List (Nat × List Nat)).length = 0 := rfl
    omega
  | p :: ps, k, h, j, h1, h2 => by
    have h : (enK TB LB K k p.1 p.2 && chT TB LB K (k + 1) ps) = true := h
    rw [Bool.and_eq_true] at h
    have hl : (p :: ps).length = ps.length + 1 := rfl
    by_cases e : j = k
    · rw [e]; exact enK_ok TB LB K h.1
    · exact chT_ok h.2 j (by omega) (by omega)
end
