/-! holes: one gluing's loops are a table's block -/
def OnB (mt : Nat → Option Nat) (go : Nat → Nat) (w : WS) (b : Nat) : Prop := ∃ n x, Cy mt go w n x ∧ ∃ i, i ≤ n ∧ wE (x i) = b
theorem frK_bit (u x : Nat) : frK u x = true ↔ u.testBit x = false := by
  unfold frK
  show Nat.beq ((u >>> x) &&& 1) 0 = true ↔ _
  have e : (u >>> x) &&& 1 = (u.testBit x).toNat := by
    rw [Nat.testBit]
    have : (u >>> x) &&& 1 < 2 := by rw [Nat.and_one_is_mod]; exact Nat.mod_lt _ (by decide)
    rw [Nat.and_comm 1]
    rcases (show (u >>> x) &&& 1 = 0 ∨ (u >>> x) &&& 1 = 1 by omega) with z | z <;> rw [z] <;> rfl
  rw [e]
  cases u.testBit x <;> simp <;> rfl
noncomputable def finK (X used : Nat) : Bool := a8K (fun r => orK (Nat.beq (roX X r) cC) (Bool.rec (motive := fun _ => Bool) true false (frK used r)))
theorem finK_ok {k used : Nat} (h : finK (bkT kTB k) used = true) : ∀ a y, TT kTB k a y ≠ 0 → used.testBit a = true := by
  intro a y hz
  have rL := mlT_rec (bkT kTB k)
  have hay : a < 8 ∧ y < 6 := by
    by_cases c : a < 8 ∧ y < 6
    · exact c
    · exact absurd (rL.out (by omega)) hz
  rcases orK_t (a8K_t h a hay.1) with w | w
  · exfalso
    have w : roX (bkT kTB k) a = cC := Nat.eq_of_beq_eq_true w
    have rr := rrX_ok k a
    have e : rrX (bkT kTB k) a = cC := by
      unfold rrX
      rw [Nat.ble_eq_true_of_le (show Nat.succ a ≤ 8 from hay.1)]
      exact w
    rw [e] at rr
    have z := s8_one (g := fun y => TT kTB k a y) (h := fun _ => 0) (by
      rw [← rr]
      unfold s8
      dsimp only
      omega) (fun y _ => by
        have := TT_abs k a y
        omega) y (by omega)
    exact hz z
  · cases c : used.testBit a
    · rw [(frK_bit used a).mpr c] at w
      cases w
    · rfl
noncomputable def lsL (M X Dp D : Nat) (l : List (Nat × Nat × Nat × Nat)) : Nat → Nat → Bool := List.rec (motive := fun _ => Nat → Nat → Bool) (fun _ used => finK X used) (fun q _ ih seen used => Bool.rec (motive := fun _ => Bool) (ih seen used) (wkK M D q.2.1 q.2.2.1 q.2.2.2 (ih seen used) (fun mask pos neg => andK (frK used (dgt Dp q.1)) (andK (rowK X (dgt Dp q.1) pos neg) (ih (Nat.lor seen mask) (Nat.lor used (Nat.pow 2 (dgt Dp q.1)))))) 20 q.2.1 q.2.2.1 q.2.2.2 (Nat.pow 2 q.1) 0 0) (frK seen q.1)) l
section
variable {M D : Nat} {mt : Nat → Option Nat} {go : Nat → Nat}
theorem opn_no {w : WS} {n0 n : Nat} {y x : Nat → WS} (h1 : y 0 = w) (h2 : ∀ j, j < n0 → wst mt go (y j) = some (y (j + 1)) ∧ y (j + 1) ≠ w) (h3 : mt (y n0).1 = none) (g : Cy mt go w n x) : False := by
  have key : ∀ i, i ≤ n0 → i ≤ n → y i = x i := by
    intro i
    induction i with
    | zero => exact fun _ _ => h1.trans g.1.symm
    | succ i ih =>
      intro a1 a2
      have a := (h2 i (by omega)).1
      have b := (g.2.1 i (by omega)).1
      rw [ih (by omega) (by omega), b] at a
      exact (Option.some.inj a).symm
  by_cases d : n0 ≤ n
  · obtain ⟨t, e⟩ := g.g n0 d
    rw [← key n0 (Nat.le_refl _) d, h3] at e
    cases e
  · have a := h2 n (by omega)
    rw [key n (by omega) (Nat.le_refl _), g.2.2] at a
    exact a.2 (Option.some.inj a.1).symm
def LsI (mt : Nat → Option Nat) (go : Nat → Nat) (k D : Nat) (r : List (WS × Nat)) (seen used : Nat) : Prop := (∀ b, seen.testBit b = true ↔ ∃ q ∈ r, OnB mt go q.1 b) ∧ (∀ b, used.testBit b = true ↔ ∃ q ∈ r, q.2 = b) ∧ (∀ q ∈ r, WV 3 q.1 ∧ ∃ n x, Cy mt go q.1 n x ∧ ∃ ε : Int, sg1 ε ∧ ∀ y, rwG (kD D) (fD D) x (n + 1) y = ε * TT kTB k q.2 y) ∧ (∀ q ∈ r, ∀ q' ∈ r, q.2 = q'.2 → q = q') ∧ ∀ q ∈ r, ∀ q' ∈ r, ∀ b, OnB mt go q.1 b → OnB mt go q'.1 b → q = q'
/-- two closed ways with an edge in common have the same edges -/
theorem on_same (hG : GW 3 mt go) {w v : WS} (hw : WV 3 w) (hv : WV 3 v) {b : Nat} (h : OnB mt go w b) (g : OnB mt go v b) : OnB mt go v (wE w) := by
  obtain ⟨n, y, c1, j, j1, j2⟩ := h
  obtain ⟨n', x', c2, i, i1, i2⟩ := g
  have hx := c2.v hG hv i i1
  obtain ⟨z, d1, d2⟩ := c1.move hG hw hx j1 (i2.trans j2.symm)
  obtain ⟨z', f1, f2⟩ := c2.to hG hv i i1
  obtain ⟨e1, e2⟩ := f1.one d1
  subst e1
  have m : ∃ j, j ≤ n' ∧ wE (z j) = wE w := (d2.1 (wE w)).mpr ⟨0, by omega, by rw [c1.1]⟩
  obtain ⟨j', k1, k2⟩ := m
  obtain ⟨j'', l1, l2⟩ := (f2.1 (wE w)).mp ⟨j', k1, by rw [e2 j' k1]; exact k2⟩
  exact ⟨n', x', c2, j'', l1, l2⟩
theorem LsI.add (hG : GW 3 mt go) {k : Nat} {r : List (WS × Nat)} {seen used : Nat} (h : LsI mt go k D r seen used) {w : WS} (hw : WV 3 w) {a : Nat} (h1 : seen.testBit (wE w) = false) (h2 : used.testBit a = false) {n : Nat} {y : Nat → WS} (hc : Cy mt go w n y) {mask : Nat} (hm : ∀ b, Nat.testBit mask b = true ↔ ∃ j, j ≤ n ∧ wE (y j) = b) (hr : ∃ ε : Int, sg1 ε ∧ ∀ z, rwG (kD D) (fD D) y (n + 1) z = ε * TT kTB k a z) : LsI mt go k D ((w, a) :: r) (seen ||| mask) (used ||| 2 ^ a) := by
  obtain ⟨i1, i2, i3, i4, i5⟩ := h
  have ob : ∀ b, OnB mt go w b ↔ ∃ j, j ≤ n ∧ wE (y j) = b := fun b => by
    constructor
    · rintro ⟨n', x', c, i, a1, a2⟩
      obtain ⟨e1, e2⟩ := hc.one c
      subst e1
      exact ⟨i, a1, by rw [e2 i a1]; exact a2⟩
    · rintro ⟨j, a1, a2⟩
      exact ⟨n, y, hc, j, a1, a2⟩
  have no : ∀ q ∈ r, ∀ b, OnB mt go w b → OnB mt go q.1 b → False := fun q hq b o1 o2 => by
    have := (i1 (wE w)).mpr ⟨q, hq, on_same hG hw (i3 q hq).1 o1 o2⟩
    rw [h1] at this
    cases this
  have na : ∀ q ∈ r, q.2 ≠ a := fun q hq e => by
    have := (i2 a).mpr ⟨q, hq, e⟩
    rw [h2] at this
    cases this
  refine ⟨fun b => ?_, fun b => ?_, fun q hq => ?_, fun q hq q' hq' e => ?_, fun q hq q' hq' b o o' => ?_⟩
  · rw [Nat.testBit_or, Bool.or_eq_true, i1 b, hm b, ← ob b]
    constructor
    · rintro (⟨q, a1, a2⟩ | e)
      · exact ⟨q, List.mem_cons_of_mem _ a1, a2⟩
      · exact ⟨(w, a), List.mem_cons_self .., e⟩
    · rintro ⟨q, a1, a2⟩
      rcases List.mem_cons.mp a1 with e | e
      · rw [e] at a2; exact Or.inr a2
      · exact Or.inl ⟨q, e, a2⟩
  · rw [Nat.testBit_or, Bool.or_eq_true, i2 b, Nat.testBit_two_pow, decide_eq_true_iff]
    constructor
    · rintro (⟨q, a1, a2⟩ | e)
      · exact ⟨q, List.mem_cons_of_mem _ a1, a2⟩
      · exact ⟨(w, a), List.mem_cons_self .., e⟩
    · rintro ⟨q, a1, a2⟩
      rcases List.mem_cons.mp a1 with e | e
      · rw [e] at a2; exact Or.inr a2
      · exact Or.inl ⟨q, e, a2⟩
  · rcases List.mem_cons.mp hq with e | e
    · rw [e]; exact ⟨hw, n, y, hc, hr⟩
    · exact i3 q e
  · rcases List.mem_cons.mp hq with a1 | a1 <;> rcases List.mem_cons.mp hq' with b1 | b1
    · rw [a1, b1]
    · rw [a1] at e
      exact absurd e.symm (na q' b1)
    · rw [b1] at e
      exact absurd e (na q a1)
    · exact i4 q a1 q' b1 e
  · rcases List.mem_cons.mp hq with a1 | a1 <;> rcases List.mem_cons.mp hq' with b1 | b1
    · rw [a1, b1]
    · rw [a1] at o
      exact (no q' b1 b o o').elim
    · rw [b1] at o'
      exact (no q a1 b o' o).elim
    · exact i5 q a1 q' b1 b o o'
theorem lsL_ok (hG : GW 3 mt go) (hM : MKw M mt go) (hX : ∀ s, s < 12 → feM M s = 0 → mt s = none) {k Dp : Nat} : ∀ (l : List (Nat × Nat × Nat × Nat)), (∀ q ∈ l, q.1 < 18 ∧ q.2 = ws q.1) → ∀ (r : List (WS × Nat)) (seen used : Nat), LsI mt go k D r seen used → lsL M (bkT kTB k) Dp D l seen used = true → ∃ r' seen' used', LsI mt go k D r' seen' used' ∧ (∀ q ∈ r, q ∈ r') ∧ finK (bkT kTB k) used' = true ∧ ∀ q ∈ l, (∃ n x, Cy mt go (ws q.1) n x) → ∃ p ∈ r', OnB mt go p.1 q.1
  | [], _, r, seen, used, hI, h => ⟨r, seen, used, hI, fun q hq => hq, h, fun q hq => by cases hq⟩
  | q :: l, hl, r, seen, used, hI, h => by
    have hq := hl q (List.mem_cons_self ..)
    have hl' : ∀ q ∈ l, q.1 < 18 ∧ q.2 = ws q.1 := fun x hx => hl x (List.mem_cons_of_mem _ hx)
    have hv := ws_v (P := 3) (k := q.1) (by omega)
    have h : Bool.rec (motive := fun _ => Bool) (lsL M (bkT kTB k) Dp D l seen used) (wkK M D q.2.1 q.2.2.1 q.2.2.2 (lsL M (bkT kTB k) Dp D l seen used) (fun mask pos neg => andK (frK used (dgt Dp q.1)) (andK (rowK (bkT kTB k) (dgt Dp q.1) pos neg) (lsL M (bkT kTB k) Dp D l (seen ||| mask) (used ||| 2 ^ (dgt Dp q.1))))) 20 q.2.1 q.2.2.1 q.2.2.2 (2 ^ q.1) 0 0) (frK seen q.1) = true := h
    cases c : frK seen q.1
    · rw [c] at h
      obtain ⟨r', s', u', a1, a2, a3, a4⟩ := lsL_ok hG hM hX l hl' r seen used hI h
      refine ⟨r', s', u', a1, a2, a3, fun x hx hc => ?_⟩
      rcases List.mem_cons.mp hx with e | e
      · have bt : seen.testBit q.1 = true := by
          cases d : seen.testBit q.1
          · rw [(frK_bit seen q.1).mpr d] at c
            cases c
          · rfl
        obtain ⟨p, p1, p2⟩ := (hI.1 q.1).mp bt
        rw [e]
        exact ⟨p, a2 p p1, p2⟩
      · exact a4 x e hc
    · rw [c, hq.2] at h
      have nb := (frK_bit seen q.1).mp c
      rcases wkK_ok hG hM hX hv 20 0 (fun _ => ws q.1) (2 ^ q.1) 0 0 rfl (fun j hj => by omega) hv (fun b => by
        rw [Nat.testBit_two_pow, decide_eq_true_iff]
        constructor
        · intro e
          exact ⟨0, Nat.le_refl _, by rw [wE_ws]; exact e⟩
        · rintro ⟨j, -, e⟩
          rw [wE_ws] at e
          exact e) rfl h with ⟨e1, n0, y, e2, e3, e4⟩ | ⟨n, y, mask, pos, neg, n1, n2, n3, n4, n5⟩
      · obtain ⟨r', s', u', a1, a2, a3, a4⟩ := lsL_ok hG hM hX l hl' r seen used hI e1
        refine ⟨r', s', u', a1, a2, a3, fun x hx hc => ?_⟩
        rcases List.mem_cons.mp hx with e | e
        · rw [e] at hc
          obtain ⟨n, x', hc⟩ := hc
          exact (opn_no e2 e3 e4 hc).elim
        · exact a4 x e hc
      · obtain ⟨k1, n5⟩ := andK_t n5
        obtain ⟨k2, k3⟩ := andK_t n5
        have row := rowK_ok k2 (g := rwG (kD D) (fD D) y (n + 1)) (by rw [n4, vl_s8]) (fun z _ => by
          have := rwG_abs D y z (n + 1)
          omega) (fun z hz => rwG_8 D y hz _)
        have hI' := hI.add hG hv (a := dgt Dp q.1) (by rw [wE_ws]; exact nb) ((frK_bit used _).mp k1) n2 n3 row
        obtain ⟨r', s', u', a1, a2, a3, a4⟩ := lsL_ok hG hM hX l hl' _ _ _ hI' k3
        refine ⟨r', s', u', a1, fun x hx => a2 x (List.mem_cons_of_mem _ hx), a3, fun x hx hc => ?_⟩
        rcases List.mem_cons.mp hx with e | e
        · rw [e]
          exact ⟨_, a2 _ (List.mem_cons_self ..), n, y, n2, 0, Nat.zero_le _, by rw [n2.1, wE_ws]⟩
        · exact a4 x e hc
end
/-- columns -/
noncomputable def colK (D : Nat) (G : List PG) : Nat → Bool := List.rec (motive := fun _ => Nat → Bool) (fun _ => true) (fun g _ ih used => andK (Nat.beq (dgt D g.2.1) (Nat.xor (dgt D g.1) 8)) (andK (frK used (Nat.land (dgt D g.1) 7)) (ih (Nat.lor used (Nat.pow 2 (Nat.land (dgt D g.1) 7)))))) G
theorem x8 : ∀ z, z < 16 → Nat.land (Nat.xor z 8) 7 = Nat.land z 7 ∧ (Nat.xor z 8 ≤ 7 ↔ ¬ z ≤ 7) := by decide
theorem colK_ok {D : Nat} : ∀ {G : List PG} {used : Nat}, colK D G used = true → (∀ g ∈ G, (kD D g.2.1 = kD D g.1 ∧ fD D g.2.1 = - fD D g.1) ∧ used.testBit (kD D g.1) = false) ∧ ∀ g ∈ G, ∀ g' ∈ G, kD D g.1 = kD D g'.1 → g = g'
  | [], _, _ => ⟨fun g hg => (by cases hg), fun g hg => (by cases hg)⟩
  | g :: G, used, h => by
    have h : andK (Nat.beq (dgt D g.2.1) (Nat.xor (dgt D g.1) 8)) (andK (frK used (kD D g.1)) (colK D G (used ||| 2 ^ (kD D g.1)))) = true := h
    obtain ⟨h1, h⟩ := andK_t h
    obtain ⟨h2, h3⟩ := andK_t h
    obtain ⟨i1, i2⟩ := colK_ok h3
    have e : dgt D g.2.1 = Nat.xor (dgt D g.1) 8 := Nat.eq_of_beq_eq_true h1
    have x := x8 (dgt D g.1) (dgt_lt D g.1)
    have me : kD D g.2.1 = kD D g.1 ∧ fD D g.2.1 = - fD D g.1 := by
      constructor
      · show Nat.land (dgt D g.2.1) 7 = Nat.land (dgt D g.1) 7
        rw [e]
        exact x.1
      · unfold fD
        rw [e]
        by_cases c : dgt D g.1 ≤ 7
        · rw [if_pos c, if_neg (fun w => x.2.mp w c)]
        · rw [if_neg c, if_pos (x.2.mpr c)]
          rfl
    have fr := (frK_bit used _).mp h2
    have ot : ∀ y ∈ G, used.testBit (kD D y.1) = false ∧ kD D g.1 ≠ kD D y.1 := fun y hy => by
      have := (i1 y hy).2
      rw [Nat.testBit_or, Bool.or_eq_false_iff, Nat.testBit_two_pow, decide_eq_false_iff_not] at this
      exact this
    refine ⟨fun y hy => ?_, fun y hy y' hy' e => ?_⟩
    · rcases List.mem_cons.mp hy with w | w
      · rw [w]; exact ⟨me, fr⟩
      · exact ⟨(i1 y w).1, (ot y w).1⟩
    · rcases List.mem_cons.mp hy with w | w <;> rcases List.mem_cons.mp hy' with w' | w'
      · rw [w, w']
      · rw [w] at e; exact absurd e (ot y' w').2
      · rw [w'] at e; exact absurd e.symm (ot y w).2
      · exact i2 y w y' w' e
def lw18 : List (Nat × Nat × Nat × Nat) := [(0, 2, 0, 1), (1, 1, 0, 2), (2, 1, 0, 3), (3, 0, 1, 2), (4, 0, 1, 3), (5, 0, 2, 3), (6, 6, 0, 1), (7, 5, 0, 2), (8, 5, 0, 3), (9, 4, 1, 2), (10, 4, 1, 3), (11, 4, 2, 3), (12, 10, 0, 1), (13, 9, 0, 2), (14, 9, 0, 3), (15, 8, 1, 2), (16, 8, 1, 3), (17, 8, 2, 3)]
theorem lw18_ok : (∀ q ∈ lw18, q.1 < 18 ∧ q.2 = ws q.1) ∧ ∀ k, k < 18 → ∃ q ∈ lw18, q.1 = k := by decide +kernel
noncomputable def lsK (G : List PG) (w : Nat) : Bool := andK (Nat.ble (Nat.succ (Nat.land w 65535)) 2990) (andK (colK (Nat.shiftRight w 88) G 0) (lsL (mtK G) (bkT kTB (Nat.land w 65535)) (Nat.shiftRight w 16) (Nat.shiftRight w 88) lw18 0 0))
theorem lsK_ok {G : List PG} (hV : Vld G) {w : Nat} (h : lsK G w = true) : ∀ mt go, GW 3 mt go → Hol G mt go → (∀ s, s < 12 → s ∉ sds G → mt s = none) → ∃ k, k < 2990 ∧ LSy 3 mt go (TT kTB k) := by
  intro mt go hG hH hX
  obtain ⟨h1, h⟩ := andK_t h
  obtain ⟨h2, h3⟩ := andK_t h
  refine ⟨Nat.land w 65535, Nat.le_of_ble_eq_true h1, ?_⟩
  generalize Nat.land w 65535 = k at *
  generalize Nat.shiftRight w 88 = D at *
  obtain ⟨c1, c2⟩ := colK_ok h2
  have hM := mkw_of hV hG hH
  have inS : ∀ s, s < 12 → mt s ≠ none → s ∈ sds G := fun s hs e => by
    by_cases c : s ∈ sds G
    · exact c
    · exact absurd (hX s hs c) e
  have hX' : ∀ s, s < 12 → feM (mtK G) s = 0 → mt s = none := fun s hs e => by
    cases q : mt s with
    | none => rfl
    | some t =>
      exfalso
      obtain ⟨a, b⟩ := mtK_at hV
      obtain ⟨g, g1, g2⟩ := mem_sds.mp (inS s hs (by rw [q]; exact fun z => by cases z))
      obtain ⟨o1, o2, o3, o4⟩ := hV.1 g g1
      have np : ∀ m ∈ pms, m ≠ 0 := by decide
      rcases g2 with z | z
      · rw [z, (a g g1).1] at e
        exact np _ o3 (by omega)
      · rw [z, (a g g1).2] at e
        exact np _ (reix_ok _ o3 _ id_in).1 (by omega)
  obtain ⟨r, seen, used, hI, -, hf, hcl⟩ := lsL_ok hG hM hX' lw18 lw18_ok.1 [] 0 0 ⟨fun b => by rw [Nat.zero_testBit]; exact ⟨fun z => (by cases z), fun ⟨q, hq, _⟩ => by cases hq⟩, fun b => by rw [Nat.zero_testBit]; exact ⟨fun z => (by cases z), fun ⟨q, hq, _⟩ => by cases hq⟩, fun q hq => (by cases hq), fun q hq => (by cases hq), fun q hq => (by cases hq)⟩ h3
  obtain ⟨i1, i2, i3, i4, i5⟩ := hI
  have mate : ∀ g ∈ G, mt g.1 = some g.2.1 ∧ mt g.2.1 = some g.1 := fun g hg => by
    have e := (hH g hg).1
    have o := hV.1 g hg
    exact ⟨e, (hG.2 g.1 (by have := o.1; have := o.2.1; omega) _ e).2.2.1⟩
  refine ⟨r, kD D, fD D, fD_1 D, fun s u hs e => ?_, fun s s' hs hs' e e' q => ?_, i3, fun v n x hv c => ?_, fun q hq q' hq' v _ o o' => i5 q hq q' hq' _ o o', i4, fun a y hz => (i2 a).mp (finK_ok hf a y hz)⟩
  · obtain ⟨g, g1, g2⟩ := mem_sds.mp (inS s (by omega) (by rw [e]; exact fun z => by cases z))
    have m := mate g g1
    have c := (c1 g g1).1
    rcases g2 with z | z
    · rw [z, m.1] at e
      cases e
      rw [z]
      exact ⟨c.2, c.1⟩
    · rw [z, m.2] at e
      cases e
      rw [z]
      exact ⟨by rw [c.2]; omega, c.1.symm⟩
  · obtain ⟨g, g1, g2⟩ := mem_sds.mp (inS s (by omega) e)
    obtain ⟨g', g1', g2'⟩ := mem_sds.mp (inS s' (by omega) e')
    have kk : ∀ g ∈ G, ∀ s, (s = g.1 ∨ s = g.2.1) → kD D s = kD D g.1 := fun g hg s hs => by
      rcases hs with z | z
      · rw [z]
      · rw [z]; exact (c1 g hg).1.1
    have := c2 g g1 g' g1' (by rw [← kk g g1 s g2, q, kk g' g1' s' g2'])
    subst this
    have m := mate g g1
    rcases g2 with z | z <;> rcases g2' with z' | z'
    · left; rw [z, z']
    · right; rw [z, z']; exact m.1
    · right; rw [z, z']; exact m.2
    · left; rw [z, z']
  · have he := wE_lt hv
    obtain ⟨q, q1, q2⟩ := lw18_ok.2 (wE v) (by omega)
    obtain ⟨x', d1, -⟩ := c.move hG hv (ws_v (P := 3) (k := wE v) he) (Nat.zero_le n) (by rw [wE_ws, c.1])
    obtain ⟨p, p1, p2⟩ := hcl q q1 ⟨n, x', by rw [q2]; exact d1⟩
    rw [q2] at p2
    exact ⟨p, p1, p2⟩
