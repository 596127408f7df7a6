/-! the search for the kernel: the step as it is computed -/
noncomputable def pkR (l : List Ray) : Nat := List.rec (motive := fun _ => Nat) 0 (fun r _ ih => Nat.add (Nat.mul ih 4294967296) r.1) l
noncomputable def lenR (l : List Ray) : Nat := List.rec (motive := fun _ => Nat) 0 (fun _ _ ih => Nat.succ ih) l
noncomputable def clsZ (a1 a2 b1 b2 : Nat) (l : List Ray) : List Ray := List.rec (motive := fun _ => List Ray) [] (fun r _ ih => Bool.rec (motive := fun _ => List Ray) ih (r :: ih) (Nat.beq (Nat.add (fld r.2 a1) (fld r.2 a2)) (Nat.add (fld r.2 b1) (fld r.2 b2)))) l
noncomputable def clsP (a1 a2 b1 b2 : Nat) (l : List Ray) : List (Nat × Ray) := List.rec (motive := fun _ => List (Nat × Ray)) [] (fun r _ ih => (fun d => Bool.rec (motive := fun _ => List (Nat × Ray)) ((d, r) :: ih) ih (Nat.beq d 0)) (Nat.sub (Nat.add (fld r.2 a1) (fld r.2 a2)) (Nat.add (fld r.2 b1) (fld r.2 b2)))) l
def nwR (a b : Nat × Ray) : Ray := (Nat.lor a.2.1 b.2.1, (fun g => Nat.add (Nat.mul (Nat.div a.1 g) b.2.2) (Nat.mul (Nat.div b.1 g) a.2.2)) (Nat.gcd a.1 b.1))
noncomputable def tstR (sm n2 m : Nat) : Bool := Bool.rec (motive := fun _ => Bool) false (Nat.beq (nzc sm m) n2) (legalM m)
noncomputable def prs1 (sm n2 : Nat) (a : Nat × Ray) (ns : List (Nat × Ray)) (acc : List Ray) : List Ray :=
  List.rec (motive := fun _ => List Ray) acc (fun b _ ih => Bool.rec (motive := fun _ => List Ray) ih (nwR a b :: ih) (tstR sm n2 (Nat.lor a.2.1 b.2.1))) ns
noncomputable def prsA (sm n2 : Nat) (ns ps : List (Nat × Ray)) (acc : List Ray) : List Ray :=
  List.rec (motive := fun _ => List Ray) acc (fun a _ ih => prs1 sm n2 a ns ih) ps
noncomputable def v31 (l : List (Nat × Ray)) : Bool := List.rec (motive := fun _ => Bool) true (fun r _ ih => Bool.rec (motive := fun _ => Bool) false ih (Nat.ble r.1 63)) l
noncomputable def smA (l : List Ray) : Bool := List.rec (motive := fun _ => Bool) true (fun r _ ih => Bool.rec (motive := fun _ => Bool) false ih (okX r.2)) l
noncomputable def okS (ps ns : List (Nat × Ray)) (rs : List Ray) : Bool := Bool.rec (motive := fun _ => Bool) false (Bool.rec (motive := fun _ => Bool) false (Bool.rec (motive := fun _ => Bool) false (Nat.ble (lenR rs) 64) (smA rs)) (v31 ns)) (v31 ps)
noncomputable def stepK (a1 a2 b1 b2 : Nat) (rs : List Ray) (k : List Ray → Bool) : Bool :=
  (fun ps ns => (fun rs' => Bool.rec (motive := fun _ => Bool) false (k rs') (okS ps ns rs')) (prsA (pkR rs) (Nat.sub (lenR rs) 2) ns ps (clsZ a1 a2 b1 b2 rs))) (clsP a1 a2 b1 b2 rs) (clsP b1 b2 a1 a2 rs)
theorem bif_t {b c : Bool} (h : Bool.rec (motive := fun _ => Bool) false c b = true) : b = true ∧ c = true := by
  cases b
  · cases h
  · exact ⟨rfl, h⟩
theorem pkR_eq : ∀ l : List Ray, pkR l = pkM (l.map Prod.fst)
  | [] => rfl
  | r :: l => by
    show pkR l * 4294967296 + r.1 = pkM (l.map Prod.fst) * 4294967296 + r.1
    rw [pkR_eq l]
theorem lenR_eq : ∀ l : List Ray, lenR l = l.length
  | [] => rfl
  | r :: l => by
    show Nat.succ (lenR l) = l.length + 1
    rw [lenR_eq l]
theorem clsZ_iff {a1 a2 b1 b2 : Nat} {y : Ray} : ∀ l : List Ray, y ∈ clsZ a1 a2 b1 b2 l ↔ y ∈ l ∧ fld y.2 a1 + fld y.2 a2 = fld y.2 b1 + fld y.2 b2
  | [] => ⟨fun h => (by cases h), fun h => (by cases h.1)⟩
  | r :: l => by
    have ih := clsZ_iff (a1 := a1) (a2 := a2) (b1 := b1) (b2 := b2) (y := y) l
    have e : clsZ a1 a2 b1 b2 (r :: l) = Bool.rec (motive := fun _ => List Ray) (clsZ a1 a2 b1 b2 l) (r :: clsZ a1 a2 b1 b2 l) (Nat.beq (fld r.2 a1 + fld r.2 a2) (fld r.2 b1 + fld r.2 b2)) := rfl
    rw [e]
    cases c : Nat.beq (fld r.2 a1 + fld r.2 a2) (fld r.2 b1 + fld r.2 b2)
    · show y ∈ clsZ a1 a2 b1 b2 l ↔ _
      rw [ih, List.mem_cons]
      constructor
      · exact fun h => ⟨Or.inr h.1, h.2⟩
      · rintro ⟨h | h, g⟩
        · rw [h] at g
          exact absurd g (Nat.ne_of_beq_eq_false c)
        · exact ⟨h, g⟩
    · show y ∈ r :: clsZ a1 a2 b1 b2 l ↔ _
      rw [List.mem_cons, ih, List.mem_cons]
      constructor
      · rintro (h | h)
        · exact ⟨Or.inl h, by rw [h]; exact Nat.eq_of_beq_eq_true c⟩
        · exact ⟨Or.inr h.1, h.2⟩
      · rintro ⟨h | h, g⟩
        · exact Or.inl h
        · exact Or.inr ⟨h, g⟩
theorem clsP_iff {a1 a2 b1 b2 : Nat} {y : Nat × Ray} : ∀ l : List Ray, y ∈ clsP a1 a2 b1 b2 l ↔ y.2 ∈ l ∧ y.1 = (fld y.2.2 a1 + fld y.2.2 a2) - (fld y.2.2 b1 + fld y.2.2 b2) ∧ y.1 ≠ 0
  | [] => ⟨fun h => (by cases h), fun h => (by cases h.1)⟩
  | r :: l => by
    have ih := clsP_iff (a1 := a1) (a2 := a2) (b1 := b1) (b2 := b2) (y := y) l
    have e : clsP a1 a2 b1 b2 (r :: l) = Bool.rec (motive := fun _ => List (Nat × Ray)) (((fld r.2 a1 + fld r.2 a2) - (fld r.2 b1 + fld r.2 b2), r) :: clsP a1 a2 b1 b2 l) (clsP a1 a2 b1 b2 l) (Nat.beq ((fld r.2 a1 + fld r.2 a2) - (fld r.2 b1 + fld r.2 b2)) 0) := rfl
    rw [e]
    cases c : Nat.beq ((fld r.2 a1 + fld r.2 a2) - (fld r.2 b1 + fld r.2 b2)) 0
    · show y ∈ (_ :: clsP a1 a2 b1 b2 l) ↔ _
      rw [List.mem_cons, ih, List.mem_cons]
      constructor
      · rintro (h | h)
        · subst h
          exact ⟨Or.inl rfl, rfl, Nat.ne_of_beq_eq_false c⟩
        · exact ⟨Or.inr h.1, h.2⟩
      · rintro ⟨h | h, g⟩
        · refine Or.inl (Prod.ext ?_ h)
          rw [g.1, h]
        · exact Or.inr ⟨h, g⟩
    · show y ∈ clsP a1 a2 b1 b2 l ↔ _
      rw [ih, List.mem_cons]
      constructor
      · exact fun h => ⟨Or.inr h.1, h.2⟩
      · rintro ⟨h | h, g⟩
        · have z := Nat.eq_of_beq_eq_true c
          rw [g.1, h] at g
          exact absurd z g.2
        · exact ⟨h, g⟩
theorem tstR_iff {sm n2 m : Nat} : tstR sm n2 m = true ↔ legalM m = true ∧ nzc sm m = n2 := by
  unfold tstR
  cases h : legalM m
  · exact ⟨fun g => (by cases g), fun g => (by cases g.1)⟩
  · exact ⟨fun g => ⟨rfl, Nat.eq_of_beq_eq_true g⟩, fun g => by show Nat.beq (nzc sm m) n2 = true; rw [g.2]; exact Nat.beq_refl n2⟩
theorem prs1_iff {sm n2 : Nat} {a : Nat × Ray} {acc : List Ray} {y : Ray} : ∀ ns : List (Nat × Ray), y ∈ prs1 sm n2 a ns acc ↔ y ∈ acc ∨ ∃ b ∈ ns, tstR sm n2 (Nat.lor a.2.1 b.2.1) = true ∧ y = nwR a b
  | [] => ⟨Or.inl, fun h => h.elim id (fun ⟨b, hb, _⟩ => by cases hb)⟩
  | b :: ns => by
    have ih := prs1_iff (sm := sm) (n2 := n2) (a := a) (acc := acc) (y := y) ns
    have e : prs1 sm n2 a (b :: ns) acc = Bool.rec (motive := fun _ => List Ray) (prs1 sm n2 a ns acc) (nwR a b :: prs1 sm n2 a ns acc) (tstR sm n2 (Nat.lor a.2.1 b.2.1)) := rfl
    rw [e]
    cases c : tstR sm n2 (Nat.lor a.2.1 b.2.1)
    · show y ∈ prs1 sm n2 a ns acc ↔ _
      rw [ih]
      constructor
      · rintro (h | ⟨d, h1, h2⟩)
        · exact Or.inl h
        · exact Or.inr ⟨d, List.mem_cons_of_mem _ h1, h2⟩
      · rintro (h | ⟨d, h1, h2⟩)
        · exact Or.inl h
        · rcases List.mem_cons.mp h1 with rfl | h1
          · rw [c] at h2; cases h2.1
          · exact Or.inr ⟨d, h1, h2⟩
    · show y ∈ nwR a b :: prs1 sm n2 a ns acc ↔ _
      rw [List.mem_cons, ih]
      constructor
      · rintro (h | h | ⟨d, h1, h2⟩)
        · exact Or.inr ⟨b, List.mem_cons_self .., c, h⟩
        · exact Or.inl h
        · exact Or.inr ⟨d, List.mem_cons_of_mem _ h1, h2⟩
      · rintro (h | ⟨d, h1, h2⟩)
        · exact Or.inr (Or.inl h)
        · rcases List.mem_cons.mp h1 with rfl | h1
          · exact Or.inl h2.2
          · exact Or.inr (Or.inr ⟨d, h1, h2⟩)
theorem prsA_iff {sm n2 : Nat} {ns : List (Nat × Ray)} {acc : List Ray} {y : Ray} : ∀ ps : List (Nat × Ray), y ∈ prsA sm n2 ns ps acc ↔ y ∈ acc ∨ ∃ a ∈ ps, ∃ b ∈ ns, tstR sm n2 (Nat.lor a.2.1 b.2.1) = true ∧ y = nwR a b
  | [] => ⟨Or.inl, fun h => h.elim id (fun ⟨b, hb, _⟩ => by cases hb)⟩
  | a :: ps => by
    have ih := prsA_iff (sm := sm) (n2 := n2) (ns := ns) (acc := acc) (y := y) ps
    have e : prsA sm n2 ns (a :: ps) acc = prs1 sm n2 a ns (prsA sm n2 ns ps acc) := rfl
    rw [e, prs1_iff, ih]
    constructor
    · rintro ((h | ⟨d, h1, h2⟩) | ⟨b, h1, h2⟩)
      · exact Or.inl h
      · exact Or.inr ⟨d, List.mem_cons_of_mem _ h1, h2⟩
      · exact Or.inr ⟨a, List.mem_cons_self .., b, h1, h2⟩
    · rintro (h | ⟨d, h1, h2⟩)
      · exact Or.inl (Or.inl h)
      · rcases List.mem_cons.mp h1 with rfl | h1
        · exact Or.inr h2
        · exact Or.inl (Or.inr ⟨d, h1, h2⟩)
theorem v31_ok : ∀ {l : List (Nat × Ray)}, v31 l = true → ∀ y ∈ l, y.1 ≤ 63
  | [], _, y, h => by cases h
  | r :: l, h, y, g => by
    have h : Bool.rec (motive := fun _ => Bool) false (v31 l) (Nat.ble r.1 63) = true := h
    obtain ⟨h1, h2⟩ := bif_t h
    rcases List.mem_cons.mp g with e | e
    · rw [e]; exact Nat.le_of_ble_eq_true h1
    · exact v31_ok h2 y e
theorem smA_ok : ∀ {l : List Ray}, smA l = true → ∀ y ∈ l, smX y.2
  | [], _, y, h => by cases h
  | r :: l, h, y, g => by
    have h : Bool.rec (motive := fun _ => Bool) false (smA l) (okX r.2) = true := h
    obtain ⟨h1, h2⟩ := bif_t h
    rcases List.mem_cons.mp g with e | e
    · rw [e]; exact okX_sm h1
    · exact smA_ok h2 y e
theorem nd_eq {rs : List Ray} (h : (rs.map Prod.fst).Nodup) {p q : Ray} (hp : p ∈ rs) (hq : q ∈ rs) (e : p.1 = q.1) : p = q := by
  induction rs with
  | nil => cases hp
  | cons r l ih =>
    have hn := List.nodup_cons.mp h
    by_cases ep : p = r
    · by_cases eq : q = r
      · rw [ep, eq]
      · have mq := (List.mem_cons.mp hq).resolve_left eq
        exact absurd (by rw [← ep, e]; exact List.mem_map_of_mem mq) hn.1
    · have mp := (List.mem_cons.mp hp).resolve_left ep
      by_cases eq : q = r
      · exact absurd (by rw [← eq, ← e]; exact List.mem_map_of_mem mp) hn.1
      · exact ih hn.2 mp ((List.mem_cons.mp hq).resolve_left eq)
theorem nod1 {sm n2 : Nat} {a : Nat × Ray} {acc : List Ray} (ha : (acc.map Prod.fst).Nodup) : ∀ {ns : List (Nat × Ray)}, ns.Nodup → (∀ b ∈ ns, ∀ b' ∈ ns, tstR sm n2 (Nat.lor a.2.1 b.2.1) = true → tstR sm n2 (Nat.lor a.2.1 b'.2.1) = true → Nat.lor a.2.1 b.2.1 = Nat.lor a.2.1 b'.2.1 → b = b') → (∀ b ∈ ns, tstR sm n2 (Nat.lor a.2.1 b.2.1) = true → Nat.lor a.2.1 b.2.1 ∉ acc.map Prod.fst) → ((prs1 sm n2 a ns acc).map Prod.fst).Nodup
  | [], _, _, _ => ha
  | b :: ns, hn, hu, hx => by
    obtain ⟨n1, n2'⟩ := List.nodup_cons.mp hn
    have ih := nod1 (sm := sm) (n2 := n2) (a := a) ha n2' (fun c hc d hd => hu c (List.mem_cons_of_mem _ hc) d (List.mem_cons_of_mem _ hd)) (fun c hc => hx c (List.mem_cons_of_mem _ hc))
    have e : prs1 sm n2 a (b :: ns) acc = Bool.rec (motive := fun _ => List Ray) (prs1 sm n2 a ns acc) (nwR a b :: prs1 sm n2 a ns acc) (tstR sm n2 (Nat.lor a.2.1 b.2.1)) := rfl
    rw [e]
    cases c : tstR sm n2 (Nat.lor a.2.1 b.2.1)
    · exact ih
    · show (Nat.lor a.2.1 b.2.1 :: (prs1 sm n2 a ns acc).map Prod.fst).Nodup
      refine List.nodup_cons.mpr ⟨fun w => ?_, ih⟩
      obtain ⟨y, hy, ey⟩ := List.mem_map.mp w
      rcases (prs1_iff ns).mp hy with q | ⟨d, d1, d2, rfl⟩
      · exact hx b (List.mem_cons_self ..) c (by rw [← ey]; exact List.mem_map_of_mem q)
      · have := hu b (List.mem_cons_self ..) d (List.mem_cons_of_mem _ d1) c d2 ey.symm
        rw [this] at n1
        exact n1 d1
theorem nodA {sm n2 : Nat} {ns : List (Nat × Ray)} {acc : List Ray} (ha : (acc.map Prod.fst).Nodup) (hns : ns.Nodup) : ∀ {ps : List (Nat × Ray)}, ps.Nodup → (∀ a ∈ ps, ∀ a' ∈ ps, ∀ b ∈ ns, ∀ b' ∈ ns, tstR sm n2 (Nat.lor a.2.1 b.2.1) = true → tstR sm n2 (Nat.lor a'.2.1 b'.2.1) = true → Nat.lor a.2.1 b.2.1 = Nat.lor a'.2.1 b'.2.1 → a = a' ∧ b = b') → (∀ a ∈ ps, ∀ b ∈ ns, tstR sm n2 (Nat.lor a.2.1 b.2.1) = true → Nat.lor a.2.1 b.2.1 ∉ acc.map Prod.fst) → ((prsA sm n2 ns ps acc).map Prod.fst).Nodup
  | [], _, _, _ => ha
  | a :: ps, hn, hu, hx => by
    obtain ⟨n1, n2'⟩ := List.nodup_cons.mp hn
    have ih := nodA (sm := sm) (n2 := n2) ha hns n2' (fun c hc d hd => hu c (List.mem_cons_of_mem _ hc) d (List.mem_cons_of_mem _ hd)) (fun c hc => hx c (List.mem_cons_of_mem _ hc))
    show ((prs1 sm n2 a ns (prsA sm n2 ns ps acc)).map Prod.fst).Nodup
    refine nod1 ih hns (fun b hb b' hb' t t' e => (hu a (List.mem_cons_self ..) a (List.mem_cons_self ..) b hb b' hb' t t' e).2) (fun b hb t w => ?_)
    obtain ⟨y, hy, ey⟩ := List.mem_map.mp w
    rcases (prsA_iff ps).mp hy with q | ⟨d, d1, f, f1, f2, rfl⟩
    · exact hx a (List.mem_cons_self ..) b hb t (by rw [← ey]; exact List.mem_map_of_mem q)
    · have := (hu a (List.mem_cons_self ..) d (List.mem_cons_of_mem _ d1) b hb f f1 t f2 ey.symm).1
      rw [this] at n1
      exact n1 d1
theorem clsP_nd {a1 a2 b1 b2 : Nat} : ∀ {l : List Ray}, l.Nodup → (clsP a1 a2 b1 b2 l).Nodup
  | [], _ => List.nodup_nil
  | r :: l, h => by
    obtain ⟨n1, n2⟩ := List.nodup_cons.mp h
    have ih := clsP_nd (a1 := a1) (a2 := a2) (b1 := b1) (b2 := b2) n2
    have e : clsP a1 a2 b1 b2 (r :: l) = Bool.rec (motive := fun _ => List (Nat × Ray)) (((fld r.2 a1 + fld r.2 a2) - (fld r.2 b1 + fld r.2 b2), r) :: clsP a1 a2 b1 b2 l) (clsP a1 a2 b1 b2 l) (Nat.beq ((fld r.2 a1 + fld r.2 a2) - (fld r.2 b1 + fld r.2 b2)) 0) := rfl
    rw [e]
    cases Nat.beq ((fld r.2 a1 + fld r.2 a2) - (fld r.2 b1 + fld r.2 b2)) 0
    · exact List.nodup_cons.mpr ⟨fun w => n1 ((clsP_iff l).mp w).1, ih⟩
    · exact ih
theorem clsZ_nd {a1 a2 b1 b2 : Nat} : ∀ {l : List Ray}, (l.map Prod.fst).Nodup → ((clsZ a1 a2 b1 b2 l).map Prod.fst).Nodup
  | [], _ => List.nodup_nil
  | r :: l, h => by
    obtain ⟨n1, n2⟩ := List.nodup_cons.mp h
    have ih := clsZ_nd (a1 := a1) (a2 := a2) (b1 := b1) (b2 := b2) n2
    have e : clsZ a1 a2 b1 b2 (r :: l) = Bool.rec (motive := fun _ => List Ray) (clsZ a1 a2 b1 b2 l) (r :: clsZ a1 a2 b1 b2 l) (Nat.beq (fld r.2 a1 + fld r.2 a2) (fld r.2 b1 + fld r.2 b2)) := rfl
    rw [e]
    cases Nat.beq (fld r.2 a1 + fld r.2 a2) (fld r.2 b1 + fld r.2 b2)
    · exact ih
    · refine List.nodup_cons.mpr ⟨fun w => ?_, ih⟩
      obtain ⟨y, hy, ey⟩ := List.mem_map.mp w
      exact n1 (by rw [← ey]; exact List.mem_map_of_mem ((clsZ_iff l).mp hy).1)
theorem nd_of {rs : List Ray} (h : (rs.map Prod.fst).Nodup) : rs.Nodup := by
  induction rs with
  | nil => exact List.nodup_nil
  | cons r l ih =>
    obtain ⟨n1, n2⟩ := List.nodup_cons.mp h
    exact List.nodup_cons.mpr ⟨fun w => n1 (List.mem_map_of_mem w), ih n2⟩
theorem stepK_ok {E : List (Vc → Int)} (hE : ∀ e ∈ E, Lin e) {f : Vc → Int} (hf : Lin f) {A1 A2 B1 B2 : Nat} (hA1 : A1 < 21) (hA2 : A2 < 21) (hB1 : B1 < 21) (hB2 : B2 < 21) (he : ∀ v, f v = (v A1 : Int) + v A2 - v B1 - v B2) {rs : List Ray} (h : ExR E rs) {k : List Ray → Bool} (hk : stepK (16 * A1) (16 * A2) (16 * B1) (16 * B2) rs k = true) : ∃ rs', ExR (f :: E) rs' ∧ k rs' = true := by
  have hk : Bool.rec (motive := fun _ => Bool) false (k (prsA (pkR rs) (Nat.sub (lenR rs) 2) (clsP (16 * B1) (16 * B2) (16 * A1) (16 * A2) rs) (clsP (16 * A1) (16 * A2) (16 * B1) (16 * B2) rs) (clsZ (16 * A1) (16 * A2) (16 * B1) (16 * B2) rs))) (okS (clsP (16 * A1) (16 * A2) (16 * B1) (16 * B2) rs) (clsP (16 * B1) (16 * B2) (16 * A1) (16 * A2) rs) (prsA (pkR rs) (Nat.sub (lenR rs) 2) (clsP (16 * B1) (16 * B2) (16 * A1) (16 * A2) rs) (clsP (16 * A1) (16 * A2) (16 * B1) (16 * B2) rs) (clsZ (16 * A1) (16 * A2) (16 * B1) (16 * B2) rs))) = true := hk
  obtain ⟨hok, hk⟩ := bif_t hk
  refine ⟨_, ?_, hk⟩
  obtain ⟨o1, o2⟩ := bif_t hok
  obtain ⟨o2, o3⟩ := bif_t o2
  obtain ⟨o3, o5⟩ := bif_t o3
  have p31 := v31_ok o1
  have n31 := v31_ok o2
  have hsm := smA_ok o3
  have hlen := Nat.le_of_ble_eq_true o5
  rw [lenR_eq] at hlen
  have val : ∀ r : Ray, f (dvN r.2) = ((fld r.2 (16 * A1) + fld r.2 (16 * A2) : Nat) : Int) - ((fld r.2 (16 * B1) + fld r.2 (16 * B2) : Nat) : Int) := fun r => by
    rw [he, fld_dv hA1, fld_dv hA2, fld_dv hB1, fld_dv hB2]
    omega
  have inP : ∀ y, y ∈ clsP (16 * A1) (16 * A2) (16 * B1) (16 * B2) rs → y.2 ∈ rs ∧ f (dvN y.2.2) = y.1 ∧ 0 < y.1 := fun y hy => by
    obtain ⟨a, b, c⟩ := (clsP_iff rs).mp hy
    refine ⟨a, ?_, by omega⟩
    rw [val]; omega
  have inN : ∀ y, y ∈ clsP (16 * B1) (16 * B2) (16 * A1) (16 * A2) rs → y.2 ∈ rs ∧ f (dvN y.2.2) = -(y.1 : Int) ∧ 0 < y.1 := fun y hy => by
    obtain ⟨a, b, c⟩ := (clsP_iff rs).mp hy
    refine ⟨a, ?_, by omega⟩
    rw [val]; omega
  have msk : ∀ p q : Ray, okRy p → okRy q → 0 < f (dvN p.2) → f (dvN q.2) < 0 → Nat.lor p.1 q.1 = mkV (mixW f (dvN p.2) (dvN q.2)) 21 := fun p q hp hq c1 c2 => by
    apply Nat.eq_of_testBit_eq
    intro i
    show (p.1 ||| q.1).testBit i = _
    rw [Nat.testBit_or, hp.1, hq.1, mkV_bit, mkV_bit, mkV_bit]
    have := mixW_z c1 c2 i
    by_cases d : dvN p.2 i = 0
    · by_cases e : dvN q.2 i = 0
      · have : mixW f (dvN p.2) (dvN q.2) i = 0 := this.mpr ⟨d, e⟩
        simp [d, e, this]
      · have : ¬ mixW f (dvN p.2) (dvN q.2) i = 0 := fun z => e (this.mp z).2
        simp [d, e, this]
    · have : ¬ mixW f (dvN p.2) (dvN q.2) i = 0 := fun z => d (this.mp z).1
      cases decide (i < 21) <;> simp [d, this]
  have mlt : ∀ m ∈ rs.map Prod.fst, m < 2097152 := fun m hm => by
    obtain ⟨r, hr, rfl⟩ := List.mem_map.mp hm
    rw [(h.1 r hr).1.1]
    exact mkV_lt _
  have mlen : (rs.map Prod.fst).length = rs.length := List.length_map ..
  have within : ∀ (r : Ray) (v : Vc), r ∈ rs → (r.1 &&& (2097151 ^^^ mkV v 21) = 0 ↔ sbv (dvN r.2) v) := fun r v hr => by
    rw [in_iff (mlt _ (List.mem_map_of_mem hr)) (mkV_lt v), (h.1 r hr).1.1]
    exact ⟨fun g => mkV_sb (dvN_hi r.2) g, fun g => sb_mk g⟩
  have distinct : ∀ p q : Ray, 0 < f (dvN p.2) → f (dvN q.2) < 0 → okRy p → okRy q → p ∈ rs → q ∈ rs → p.1 ≠ q.1 := fun p q c1 c2 hp hq mp mq e => by
    have := nd_eq h.2.2.1 mp mq e
    rw [this] at c1
    omega
  have tst : ∀ p q : Ray, p ∈ rs → q ∈ rs → 0 < f (dvN p.2) → f (dvN q.2) < 0 → (tstR (pkR rs) (Nat.sub (lenR rs) 2) (Nat.lor p.1 q.1) = true ↔ lgP 3 (mixW f (dvN p.2) (dvN q.2)) ∧ cinM (mkV (mixW f (dvN p.2) (dvN q.2)) 21) (rs.map Prod.fst) = 2) := fun p q mp mq c1 c2 => by
    have op := (h.1 p mp).1
    have oq := (h.1 q mq).1
    rw [tstR_iff, msk p q op oq c1 c2, legalM_iff, pkR_eq, lenR_eq, nzc_eq (mkV_lt _) (by rw [mlen]; exact h.2.2.2) mlt]
    have cc := cin_cw (mkV (mixW f (dvN p.2) (dvN q.2)) 21) (rs.map Prod.fst)
    have c2' := cin2 ((within p _ mp).mpr (mixW_l c2)) ((within q _ mq).mpr (mixW_r c1)) (distinct p q c1 c2 op oq mp mq) (List.mem_map_of_mem mp) (List.mem_map_of_mem mq)
    rw [mlen] at cc
    show (_ ∧ _ = rs.length - 2) ↔ _
    constructor
    · exact fun g => ⟨g.1, by omega⟩
    · exact fun g => ⟨g.1, by omega⟩
  have three : ∀ p q r : Ray, p ∈ rs → q ∈ rs → r ∈ rs → 0 < f (dvN p.2) → f (dvN q.2) < 0 → tstR (pkR rs) (Nat.sub (lenR rs) 2) (Nat.lor p.1 q.1) = true → sbv (dvN r.2) (mixW f (dvN p.2) (dvN q.2)) → r = p ∨ r = q := fun p q r mp mq mr c1 c2 ht hrs => by
    obtain ⟨t1, t2⟩ := (tst p q mp mq c1 c2).mp ht
    by_cases e1 : r = p
    · exact Or.inl e1
    · by_cases e2 : r = q
      · exact Or.inr e2
      · exfalso
        have := cin3 ((within _ _ mp).mpr (mixW_l c2)) ((within _ _ mq).mpr (mixW_r c1)) ((within r _ mr).mpr hrs) (distinct _ _ c1 c2 (h.1 p mp).1 (h.1 q mq).1 mp mq) (fun e => e1 (nd_eq h.2.2.1 mr mp e.symm)) (fun e => e2 (nd_eq h.2.2.1 mr mq e.symm)) (List.mem_map_of_mem mp) (List.mem_map_of_mem mq) (List.mem_map_of_mem mr)
        omega
  have sbm : ∀ p q r : Ray, p ∈ rs → q ∈ rs → r ∈ rs → 0 < f (dvN p.2) → f (dvN q.2) < 0 → (∀ i, r.1.testBit i = true → (Nat.lor p.1 q.1).testBit i = true) → sbv (dvN r.2) (mixW f (dvN p.2) (dvN q.2)) := fun p q r mp mq mr c1 c2 hb => by
    refine mkV_sb (dvN_hi r.2) (fun i hi => ?_)
    rw [← msk p q (h.1 p mp).1 (h.1 q mq).1 c1 c2]
    exact hb i (by rw [(h.1 r mr).1.1]; exact hi)
  have orl : ∀ (x y i : Nat), x.testBit i = true → (Nat.lor x y).testBit i = true := fun x y i hx => by
    show (x ||| y).testBit i = true
    rw [Nat.testBit_or, hx]; rfl
  have orr : ∀ (x y i : Nat), y.testBit i = true → (Nat.lor x y).testBit i = true := fun x y i hy => by
    show (x ||| y).testBit i = true
    rw [Nat.testBit_or, hy]; simp
  have hnd := nodA (sm := pkR rs) (n2 := Nat.sub (lenR rs) 2) (clsZ_nd (a1 := 16 * A1) (a2 := 16 * A2) (b1 := 16 * B1) (b2 := 16 * B2) h.2.2.1) (clsP_nd (a1 := 16 * B1) (a2 := 16 * B2) (b1 := 16 * A1) (b2 := 16 * A2) (nd_of h.2.2.1)) (clsP_nd (a1 := 16 * A1) (a2 := 16 * A2) (b1 := 16 * B1) (b2 := 16 * B2) (nd_of h.2.2.1)) (fun a ha a' ha' b hb b' hb' t t' e => by
    obtain ⟨x1, x2, x3⟩ := inP a ha
    obtain ⟨x1', x2', x3'⟩ := inP a' ha'
    obtain ⟨y1, y2, y3⟩ := inN b hb
    obtain ⟨y1', y2', y3'⟩ := inN b' hb'
    have ea : a'.2 = a.2 := by
      rcases three a.2 b.2 a'.2 x1 y1 x1' (by omega) (by omega) t (sbm _ _ _ x1 y1 x1' (by omega) (by omega) (fun i hi => by rw [e]; exact orl _ _ i hi)) with w | w
      · exact w
      · rw [w] at x2'; omega
    have eb : b'.2 = b.2 := by
      rcases three a.2 b.2 b'.2 x1 y1 y1' (by omega) (by omega) t (sbm _ _ _ x1 y1 y1' (by omega) (by omega) (fun i hi => by rw [e]; exact orr _ _ i hi)) with w | w
      · rw [w] at y2'; omega
      · exact w
    rw [ea] at x2'
    rw [eb] at y2'
    exact ⟨Prod.ext (by omega) ea.symm, Prod.ext (by omega) eb.symm⟩) (fun a ha b hb t w => by
    obtain ⟨x1, x2, x3⟩ := inP a ha
    obtain ⟨y1, y2, y3⟩ := inN b hb
    obtain ⟨z, hz, ez⟩ := List.mem_map.mp w
    obtain ⟨g1, g2⟩ := (clsZ_iff rs).mp hz
    have z0 : f (dvN z.2) = 0 := by rw [val]; omega
    rcases three a.2 b.2 z x1 y1 g1 (by omega) (by omega) t (sbm _ _ _ x1 y1 g1 (by omega) (by omega) (fun i hi => by rw [← ez]; exact hi)) with w | w
    · rw [w] at z0; omega
    · rw [w] at z0; omega)
  refine h.step hE hf (fun y hy => ?_) (fun z hz z0 => ?_) (fun p mp q mq c1 c2 hl ho => ?_) hnd hlen
  · rcases (prsA_iff _).mp hy with hz | ⟨a, ha, b, hb, ht, rfl⟩
    · obtain ⟨g1, g2⟩ := (clsZ_iff rs).mp hz
      refine ⟨(h.1 y g1).1, Or.inl ⟨g1, ?_⟩⟩
      rw [val]; omega
    · obtain ⟨a1, a2, a3⟩ := inP a ha
      obtain ⟨b1, b2, b3⟩ := inN b hb
      have c1 : 0 < f (dvN a.2.2) := by omega
      have c2 : f (dvN b.2.2) < 0 := by omega
      have oa := (h.1 _ a1).1
      have ob := (h.1 _ b1).1
      have hg : 0 < Nat.gcd a.1 b.1 := Nat.gcd_pos_of_pos_left _ a3
      have hda : a.1 / Nat.gcd a.1 b.1 * Nat.gcd a.1 b.1 = a.1 := Nat.div_mul_cancel (Nat.gcd_dvd_left _ _)
      have hdb : b.1 / Nat.gcd a.1 b.1 * Nat.gcd a.1 b.1 = b.1 := Nat.div_mul_cancel (Nat.gcd_dvd_right _ _)
      have la : a.1 / Nat.gcd a.1 b.1 ≤ 63 := Nat.le_trans (Nat.div_le_self _ _) (p31 a ha)
      have lb : b.1 / Nat.gcd a.1 b.1 ≤ 63 := Nat.le_trans (Nat.div_le_self _ _) (n31 b hb)
      have hv : ∀ i, Nat.gcd a.1 b.1 * dvN (nwR a b).2 i = mixW f (dvN a.2.2) (dvN b.2.2) i := fun i => by
        have e : mixW f (dvN a.2.2) (dvN b.2.2) i = b.1 * dvN a.2.2 i + a.1 * dvN b.2.2 i := by
          unfold mixW
          rw [a2, b2]
          simp
        rw [e]
        unfold dvN
        by_cases c : i < 21
        · rw [if_pos c, if_pos c, if_pos c]
          show Nat.gcd a.1 b.1 * ((a.1 / Nat.gcd a.1 b.1 * b.2.2 + b.1 / Nat.gcd a.1 b.1 * a.2.2) / 65536 ^ i % 65536) = _
          rw [mix_fld la lb i a.2.2 b.2.2 oa.2 ob.2, Nat.mul_add, ← Nat.mul_assoc, ← Nat.mul_assoc, Nat.mul_comm (Nat.gcd a.1 b.1), hda, Nat.mul_comm (Nat.gcd a.1 b.1), hdb]
          omega
        · rw [if_neg c, if_neg c, if_neg c]
          rfl
      obtain ⟨t1, t2⟩ := (tst a.2 b.2 a1 b1 c1 c2).mp ht
      refine ⟨⟨?_, hsm _ hy⟩, Or.inr ⟨a.2, a1, b.2, b1, c1, c2, t1, fun r hr hrs => ?_, _, hg, hv⟩⟩
      · show Nat.lor a.2.1 b.2.1 = _
        rw [msk _ _ oa ob c1 c2]
        exact mk_eq (sc_r hv) (sc_l hg hv)
      · by_cases e1 : r = a.2
        · exact Or.inl e1
        · by_cases e2 : r = b.2
          · exact Or.inr e2
          · exfalso
            have := cin3 ((within _ _ a1).mpr (mixW_l c2)) ((within _ _ b1).mpr (mixW_r c1)) ((within r _ hr).mpr hrs) (distinct _ _ c1 c2 oa ob a1 b1) (fun e => e1 (nd_eq h.2.2.1 hr a1 e.symm)) (fun e => e2 (nd_eq h.2.2.1 hr b1 e.symm)) (List.mem_map_of_mem a1) (List.mem_map_of_mem b1) (List.mem_map_of_mem hr)
            omega
  · refine (prsA_iff _).mpr (Or.inl ((clsZ_iff rs).mpr ⟨hz, ?_⟩))
    rw [val] at z0; omega
  · have op := (h.1 p mp).1
    have oq := (h.1 q mq).1
    have h2 := cin2 ((within p _ mp).mpr (mixW_l c2)) ((within q _ mq).mpr (mixW_r c1)) (distinct p q c1 c2 op oq mp mq) (List.mem_map_of_mem mp) (List.mem_map_of_mem mq)
    have h3 := cin_le2 (b := mkV (mixW f (dvN p.2) (dvN q.2)) 21) (P := p.1) (Q := q.1) h.2.2.1 (fun m hm hz => by
      obtain ⟨r, hr, rfl⟩ := List.mem_map.mp hm
      rcases ho r hr ((within r _ hr).mp hz) with t | t
      · refine Or.inl ?_
        rw [(h.1 r hr).1.1, op.1]
        exact mk_eq t ((h.1 p mp).2.2.2 _ (h.1 r hr).2.1 t)
      · refine Or.inr ?_
        rw [(h.1 r hr).1.1, oq.1]
        exact mk_eq t ((h.1 q mq).2.2.2 _ (h.1 r hr).2.1 t))
    rw [if_pos (List.mem_map_of_mem mp), if_pos (List.mem_map_of_mem mq)] at h3
    have ht := (tst p q mp mq c1 c2).mpr ⟨hl, by omega⟩
    have vp := val p
    have vq := val q
    refine ⟨_, (prsA_iff _).mpr (Or.inr ⟨((fld p.2 (16 * A1) + fld p.2 (16 * A2)) - (fld p.2 (16 * B1) + fld p.2 (16 * B2)), p), (clsP_iff rs).mpr ⟨mp, rfl, by show _ - _ ≠ 0; omega⟩, ((fld q.2 (16 * B1) + fld q.2 (16 * B2)) - (fld q.2 (16 * A1) + fld q.2 (16 * A2)), q), (clsP_iff rs).mpr ⟨mq, rfl, by show _ - _ ≠ 0; omega⟩, ht, rfl⟩), ?_⟩
    have hy := (prsA_iff (sm := pkR rs) (n2 := Nat.sub (lenR rs) 2) (acc := clsZ (16 * A1) (16 * A2) (16 * B1) (16 * B2) rs) (ns := clsP (16 * B1) (16 * B2) (16 * A1) (16 * A2) rs) (clsP (16 * A1) (16 * A2) (16 * B1) (16 * B2) rs)).mpr (Or.inr ⟨((fld p.2 (16 * A1) + fld p.2 (16 * A2)) - (fld p.2 (16 * B1) + fld p.2 (16 * B2)), p), (clsP_iff rs).mpr ⟨mp, rfl, by show _ - _ ≠ 0; omega⟩, ((fld q.2 (16 * B1) + fld q.2 (16 * B2)) - (fld q.2 (16 * A1) + fld q.2 (16 * A2)), q), (clsP_iff rs).mpr ⟨mq, rfl, by show _ - _ ≠ 0; omega⟩, ht, rfl⟩)
    have la := p31 ((fld p.2 (16 * A1) + fld p.2 (16 * A2)) - (fld p.2 (16 * B1) + fld p.2 (16 * B2)), p) ((clsP_iff rs).mpr ⟨mp, rfl, by show _ - _ ≠ 0; omega⟩)
    have lb := n31 ((fld q.2 (16 * B1) + fld q.2 (16 * B2)) - (fld q.2 (16 * A1) + fld q.2 (16 * A2)), q) ((clsP_iff rs).mpr ⟨mq, rfl, by show _ - _ ≠ 0; omega⟩)
    intro i z
    obtain ⟨z1, z2⟩ := (mixW_z c1 c2 i).mp z
    unfold dvN at z1 z2 ⊢
    by_cases c : i < 21
    · rw [if_pos c] at z1 z2 ⊢
      show ((_ / _ * q.2 + _ / _ * p.2) / 65536 ^ i % 65536) = 0
      rw [mix_fld (Nat.le_trans (Nat.div_le_self _ _) la) (Nat.le_trans (Nat.div_le_self _ _) lb) i p.2 q.2 op.2 oq.2, z1, z2, Nat.mul_zero, Nat.mul_zero]
    · rw [if_neg c]
