/-! the search for the kernel: one step -/
def legalM (b : Nat) : Bool := Nat.beq (Nat.land b (Nat.lor (Nat.land (Nat.shiftRight b 1) 0xC1830) (Nat.land (Nat.shiftRight b 2) 0x40810))) 0
theorem bA : ∀ i, i < 32 → (0xC1830 : Nat).testBit i = true → ∃ p, p < 3 ∧ (i = 7 * p + 4 ∨ i = 7 * p + 5) := by decide
theorem bA2 : ∀ p, p < 3 → (0xC1830 : Nat).testBit (7 * p + 4) = true ∧ (0xC1830 : Nat).testBit (7 * p + 5) = true := by decide
theorem bB : ∀ i, i < 32 → (0x40810 : Nat).testBit i = true → ∃ p, p < 3 ∧ i = 7 * p + 4 := by decide
theorem bB2 : ∀ p, p < 3 → (0x40810 : Nat).testBit (7 * p + 4) = true := by decide
theorem legalM_iff (v : Vc) : legalM (mkV v 21) = true ↔ lgP 3 v := by
  have hb : ∀ i, (mkV v 21).testBit i = true ↔ i < 21 ∧ v i ≠ 0 := fun i => by rw [mkV_bit]; simp
  have e : legalM (mkV v 21) = true ↔ ∀ i, ¬ ((mkV v 21).testBit i = true ∧ (((mkV v 21).testBit (1 + i) = true ∧ (0xC1830 : Nat).testBit i = true) ∨ ((mkV v 21).testBit (2 + i) = true ∧ (0x40810 : Nat).testBit i = true))) := by
    unfold legalM
    constructor
    · intro h i hi
      have h : mkV v 21 &&& (((mkV v 21 >>> 1) &&& 0xC1830) ||| ((mkV v 21 >>> 2) &&& 0x40810)) = 0 := Nat.eq_of_beq_eq_true h
      have := congrArg (fun z => z.testBit i) h
      simp only [Nat.testBit_and, Nat.testBit_or, Nat.testBit_shiftRight, Nat.zero_testBit] at this
      rcases hi with ⟨a, b | b⟩
      · simp [a, b.1, b.2] at this
      · simp [a, b.1, b.2] at this
    · intro h
      show Nat.beq (mkV v 21 &&& (((mkV v 21 >>> 1) &&& 0xC1830) ||| ((mkV v 21 >>> 2) &&& 0x40810))) 0 = true
      have : mkV v 21 &&& (((mkV v 21 >>> 1) &&& 0xC1830) ||| ((mkV v 21 >>> 2) &&& 0x40810)) = 0 := by
        apply Nat.eq_of_testBit_eq
        intro i
        rw [Nat.zero_testBit]
        have hi := h i
        rw [Nat.testBit_and, Nat.testBit_or, Nat.testBit_and, Nat.testBit_and, Nat.testBit_shiftRight, Nat.testBit_shiftRight]
        cases a : (mkV v 21).testBit i
        · simp
        · rw [a] at hi
          cases b : ((mkV v 21).testBit (1 + i) && (0xC1830 : Nat).testBit i)
          · cases c : ((mkV v 21).testBit (2 + i) && (0x40810 : Nat).testBit i)
            · simp
            · exact absurd ⟨rfl, Or.inr ((Bool.and_eq_true _ _).mp c)⟩ hi
          · exact absurd ⟨rfl, Or.inl ((Bool.and_eq_true _ _).mp b)⟩ hi
      rw [this]
      rfl
  rw [e]
  constructor
  · intro h p hp q
    rcases q with q | q | q
    · exact h (7 * p + 4) ⟨(hb _).mpr ⟨by omega, q.1⟩, Or.inl ⟨(hb _).mpr ⟨by omega, by rw [show 1 + (7 * p + 4) = 7 * p + 5 by omega]; exact q.2⟩, (bA2 p hp).1⟩⟩
    · exact h (7 * p + 4) ⟨(hb _).mpr ⟨by omega, q.1⟩, Or.inr ⟨(hb _).mpr ⟨by omega, by rw [show 2 + (7 * p + 4) = 7 * p + 6 by omega]; exact q.2⟩, bB2 p hp⟩⟩
    · exact h (7 * p + 5) ⟨(hb _).mpr ⟨by omega, q.1⟩, Or.inl ⟨(hb _).mpr ⟨by omega, by rw [show 1 + (7 * p + 5) = 7 * p + 6 by omega]; exact q.2⟩, (bA2 p hp).2⟩⟩
  · intro h i ⟨a, b⟩
    have hi := ((hb i).mp a).1
    have ai := ((hb i).mp a).2
    rcases b with ⟨b1, b2⟩ | ⟨b1, b2⟩
    · have bi := ((hb _).mp b1).2
      obtain ⟨p, hp, e | e⟩ := bA i (by omega) b2
      · subst e
        exact h p hp (Or.inl ⟨ai, by rw [show 7 * p + 5 = 1 + (7 * p + 4) by omega]; exact bi⟩)
      · subst e
        exact h p hp (Or.inr (Or.inr ⟨ai, by rw [show 7 * p + 6 = 1 + (7 * p + 5) by omega]; exact bi⟩))
    · have bi := ((hb _).mp b1).2
      obtain ⟨p, hp, e⟩ := bB i (by omega) b2
      subst e
      exact h p hp (Or.inr (Or.inl ⟨ai, by rw [show 7 * p + 6 = 2 + (7 * p + 4) by omega]; exact bi⟩))
/-- a row and its support -/
def okRy (r : Ray) : Prop := r.1 = mkV (dvN r.2) 21 ∧ smX r.2
theorem mkV_lt (v : Vc) : mkV v 21 < 2097152 := by
  show _ < 2 ^ 21
  apply Nat.lt_pow_two_of_testBit
  intro i hi
  rw [mkV_bit]
  simp
  omega
theorem dvN_hi (x : Nat) : ∀ i, 21 ≤ i → dvN x i = 0 := fun i hi => if_neg (by omega)
theorem mk_sb {x y : Nat} (h : ∀ i, (mkV (dvN x) 21).testBit i = true → (mkV (dvN y) 21).testBit i = true) : sbv (dvN x) (dvN y) := mkV_sb (dvN_hi x) h
theorem sb_mk {u v : Vc} (h : sbv u v) (i : Nat) (hi : (mkV u 21).testBit i = true) : (mkV v 21).testBit i = true := by
  rw [mkV_bit] at hi ⊢
  simp at hi ⊢
  exact ⟨hi.1, fun z => hi.2 (h i z)⟩
theorem mk_eq {u v : Vc} (h : sbv u v) (g : sbv v u) : mkV u 21 = mkV v 21 := by
  apply Nat.eq_of_testBit_eq
  intro i
  exact Bool.eq_iff_iff.mpr ⟨sb_mk h i, sb_mk g i⟩
/-- the rows are just the least supports -/
def ExR (E : List (Vc → Int)) (rs : List Ray) : Prop := (∀ r ∈ rs, okRy r ∧ MinS 21 (lgP 3) E (dvN r.2)) ∧ (∀ v, MinS 21 (lgP 3) E v → ∃ r ∈ rs, sbv (dvN r.2) v) ∧ (rs.map Prod.fst).Nodup ∧ rs.length ≤ 64
theorem ExR.step {E : List (Vc → Int)} {f : Vc → Int} (hE : ∀ e ∈ E, Lin e) (hf : Lin f) {rs rs' : List Ray} (h : ExR E rs)
    (h1 : ∀ y ∈ rs', okRy y ∧ ((y ∈ rs ∧ f (dvN y.2) = 0) ∨ ∃ p ∈ rs, ∃ q ∈ rs, 0 < f (dvN p.2) ∧ f (dvN q.2) < 0 ∧ lgP 3 (mixW f (dvN p.2) (dvN q.2)) ∧ (∀ r ∈ rs, sbv (dvN r.2) (mixW f (dvN p.2) (dvN q.2)) → r = p ∨ r = q) ∧ ∃ g, 0 < g ∧ ∀ i, g * dvN y.2 i = mixW f (dvN p.2) (dvN q.2) i))
    (h2 : ∀ z ∈ rs, f (dvN z.2) = 0 → z ∈ rs')
    (h3 : ∀ p ∈ rs, ∀ q ∈ rs, 0 < f (dvN p.2) → f (dvN q.2) < 0 → lgP 3 (mixW f (dvN p.2) (dvN q.2)) → (∀ r ∈ rs, sbv (dvN r.2) (mixW f (dvN p.2) (dvN q.2)) → sbv (dvN r.2) (dvN p.2) ∨ sbv (dvN r.2) (dvN q.2)) → ∃ y ∈ rs', sbv (dvN y.2) (mixW f (dvN p.2) (dvN q.2)))
    (h4 : (rs'.map Prod.fst).Nodup) (h5 : rs'.length ≤ 64) : ExR (f :: E) rs' := by
  have hE' : ∀ e ∈ f :: E, Lin e := fun e he => by rcases List.mem_cons.mp he with rfl | he; exact hf; exact hE e he
  refine ⟨fun y hy => ?_, fun v hv => ?_, h4, h5⟩
  · obtain ⟨o, c⟩ := h1 y hy
    refine ⟨o, ?_⟩
    rcases c with ⟨a, b⟩ | ⟨p, hp, q, hq, c1, c2, c3, c4, g, g1, g2⟩
    · exact (h.1 y a).2.keep b
    · refine (MinS.mix lgP_dn hE hf (h.1 p hp).2 (h.1 q hq).2 c1 c2 c3 (fun r hr hrs => ?_)).scale lgP_dn hE' g1 g2
      obtain ⟨t, t1, t2⟩ := h.2.1 r hr
      rcases c4 t t1 (t2.trans hrs) with rfl | rfl
      · exact Or.inl t2
      · exact Or.inr t2
  · by_cases c : MinS 21 (lgP 3) E v
    · obtain ⟨r, r1, r2⟩ := h.2.1 v c
      obtain ⟨a, b, ha, hb, hab⟩ := c.pr hE hf (h.1 r r1).2.1 r2
      have z := (pr_z ha hb hab).1.mp (hv.1.1 f (List.mem_cons_self ..))
      exact ⟨r, h2 r r1 z, r2⟩
    · obtain ⟨p, q, a1, a2, a3, a4, a5, a6⟩ := hv.cut lgP_dn hE hf c
      obtain ⟨rp, b1, b2⟩ := h.2.1 p a1
      obtain ⟨rq, c1, c2⟩ := h.2.1 q a2
      have hp : 0 < f (dvN rp.2) := by
        obtain ⟨a, b, ha, hb, hab⟩ := a1.pr hE hf (h.1 rp b1).2.1 b2
        exact (pr_z ha hb hab).2.mp a5
      have hq : f (dvN rq.2) < 0 := by
        obtain ⟨a, b, ha, hb, hab⟩ := a2.pr hE hf (h.1 rq c1).2.1 c2
        have z := pr_z ha hb hab
        by_cases w : f (dvN rq.2) < 0
        · exact w
        · by_cases w2 : f (dvN rq.2) = 0
          · have := z.1.mpr w2; omega
          · have := z.2.mpr (by omega); omega
      have sp := b2.trans a3
      have sq := c2.trans a4
      have hm := mixW_sb (f := f) sp sq
      obtain ⟨y, y1, y2⟩ := h3 rp b1 rq c1 hp hq (lgP_dn _ v hm hv.2.1) (fun r hr hrs => hv.other hE hf c (h.1 rp b1).2 (h.1 rq c1).2 sp sq hp hq (h.1 r hr).2 (hrs.trans hm))
      exact ⟨y, y1, y2.trans hm⟩
/-- how many lie within -/
def cinM (b : Nat) : List Nat → Nat
  | [] => 0
  | m :: l => cinM b l + (if m &&& (2097151 ^^^ b) = 0 then 1 else 0)
theorem cin_cw (b : Nat) : ∀ l : List Nat, cinM b l + cwM b l = l.length
  | [] => rfl
  | m :: l => by
    have := cin_cw b l
    show cinM b l + (if m &&& (2097151 ^^^ b) = 0 then 1 else 0) + (cwM b l + (if m &&& (2097151 ^^^ b) = 0 then 0 else 1)) = l.length + 1
    split <;> omega
theorem cin1 {b p : Nat} (hp : p &&& (2097151 ^^^ b) = 0) : ∀ {l : List Nat}, p ∈ l → 1 ≤ cinM b l
  | [], h => by cases h
  | m :: l, h => by
    show 1 ≤ cinM b l + (if m &&& (2097151 ^^^ b) = 0 then 1 else 0)
    rcases List.mem_cons.mp h with e | e
    · rw [← e, if_pos hp]; omega
    · have := cin1 hp e; omega
theorem cin2 {b p q : Nat} (hp : p &&& (2097151 ^^^ b) = 0) (hq : q &&& (2097151 ^^^ b) = 0) (n : p ≠ q) : ∀ {l : List Nat}, p ∈ l → q ∈ l → 2 ≤ cinM b l
  | [], h, _ => by cases h
  | m :: l, h, g => by
    show 2 ≤ cinM b l + (if m &&& (2097151 ^^^ b) = 0 then 1 else 0)
    rcases List.mem_cons.mp h with e | e
    · rcases List.mem_cons.mp g with e2 | e2
      · exact absurd (e.trans e2.symm) n
      · have := cin1 hq e2
        rw [← e, if_pos hp]; omega
    · rcases List.mem_cons.mp g with e2 | e2
      · have := cin1 hp e
        rw [← e2, if_pos hq]; omega
      · have := cin2 hp hq n e e2; omega
theorem cin3 {b p q r : Nat} (hp : p &&& (2097151 ^^^ b) = 0) (hq : q &&& (2097151 ^^^ b) = 0) (hr : r &&& (2097151 ^^^ b) = 0) (n1 : p ≠ q) (n2 : p ≠ r) (n3 : q ≠ r) : ∀ {l : List Nat}, p ∈ l → q ∈ l → r ∈ l → 3 ≤ cinM b l
  | [], h, _, _ => by cases h
  | m :: l, h, g, k => by
    show 3 ≤ cinM b l + (if m &&& (2097151 ^^^ b) = 0 then 1 else 0)
    by_cases e1 : p = m
    · have a : q ∈ l := (List.mem_cons.mp g).resolve_left (fun e => n1 (e1.trans e.symm))
      have c : r ∈ l := (List.mem_cons.mp k).resolve_left (fun e => n2 (e1.trans e.symm))
      have := cin2 hq hr n3 a c
      rw [← e1, if_pos hp]; omega
    · have a := (List.mem_cons.mp h).resolve_left e1
      by_cases e2 : q = m
      · have c : r ∈ l := (List.mem_cons.mp k).resolve_left (fun e => n3 (e2.trans e.symm))
        have := cin2 hp hr n2 a c
        rw [← e2, if_pos hq]; omega
      · have c := (List.mem_cons.mp g).resolve_left e2
        by_cases e3 : r = m
        · have := cin2 hp hq n1 a c
          rw [← e3, if_pos hr]; omega
        · have := cin3 hp hq hr n1 n2 n3 a c ((List.mem_cons.mp k).resolve_left e3); omega
theorem cin_le2 {b P Q : Nat} : ∀ {l : List Nat}, l.Nodup → (∀ m ∈ l, m &&& (2097151 ^^^ b) = 0 → m = P ∨ m = Q) → cinM b l ≤ (if P ∈ l then 1 else 0) + (if Q ∈ l then 1 else 0)
  | [], _, _ => Nat.zero_le _
  | m :: l, hn, h => by
    have hn' := List.nodup_cons.mp hn
    have ih := cin_le2 (b := b) (P := P) (Q := Q) hn'.2 (fun x hx => h x (List.mem_cons_of_mem _ hx))
    have up : ∀ X, (if X ∈ l then 1 else 0) ≤ (if X ∈ m :: l then 1 else 0) := fun X => by
      by_cases c : X ∈ l
      · rw [if_pos c, if_pos (List.mem_cons_of_mem _ c)]; exact Nat.le_refl _
      · rw [if_neg c]; exact Nat.zero_le _
    show cinM b l + (if m &&& (2097151 ^^^ b) = 0 then 1 else 0) ≤ _
    by_cases c : m &&& (2097151 ^^^ b) = 0
    · rw [if_pos c]
      rcases h m (List.mem_cons_self ..) c with e | e
      · have n : P ∉ l := by rw [← e]; exact hn'.1
        have i : P ∈ m :: l := by rw [e]; exact List.mem_cons_self ..
        rw [if_neg n] at ih
        rw [if_pos i]
        have := up Q
        omega
      · have n : Q ∉ l := by rw [← e]; exact hn'.1
        have i : Q ∈ m :: l := by rw [e]; exact List.mem_cons_self ..
        rw [if_neg n] at ih
        rw [if_pos i]
        have := up P
        omega
    · rw [if_neg c]
      have a := up P
      have d := up Q
      omega
