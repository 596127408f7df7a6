/-! the search for the kernel: steps on the way to one pair more -/
noncomputable def andK (a b : Bool) : Bool := Bool.rec (motive := fun _ => Bool) false b a
theorem andK_t {a b : Bool} (h : andK a b = true) : a = true ∧ b = true := bif_t h
noncomputable def orK (a b : Bool) : Bool := Bool.rec (motive := fun _ => Bool) b true a
theorem orK_t {a b : Bool} (h : orK a b = true) : a = true ∨ b = true := by
  cases a
  · exact Or.inr h
  · exact Or.inl rfl
/-- all of four -/
noncomputable def all4 (p : Nat → Bool) : Bool := andK (p 0) (andK (p 1) (andK (p 2) (p 3)))
theorem all4_t {p : Nat → Bool} (h : all4 p = true) : ∀ c, c < 4 → p c = true := by
  obtain ⟨h0, h⟩ := andK_t h
  obtain ⟨h1, h⟩ := andK_t h
  obtain ⟨h2, h3⟩ := andK_t h
  intro c hc
  rcases (show c = 0 ∨ c = 1 ∨ c = 2 ∨ c = 3 by omega) with rfl | rfl | rfl | rfl <;> assumption
noncomputable def e2K (s t c d : Nat) (r1 : List Ray) : Bool := all4 (fun c' => orK (Nat.beq c' c) (orK (Nat.beq c' (Nat.mod s 4)) (all4 (fun d' => orK (Nat.beq d' d) (orK (Nat.beq d' (Nat.mod t 4)) (orK (Nat.ble (prdQ s t c' d' r1) 64) (stepQ s t c' d' r1 (fun _ => true))))))))
noncomputable def e1K (s t c d : Nat) (rs : List Ray) : Bool := orK (Nat.ble (prdQ s t c d rs) 16) (stepQ s t c d rs (fun r1 => orK (Nat.ble (lenR r1) 16) (e2K s t c d r1)))
noncomputable def e1A (s t : Nat) (rs : List Ray) : Bool := all4 (fun c => orK (Nat.beq c (Nat.mod s 4)) (all4 (fun d => orK (Nat.beq d (Nat.mod t 4)) (e1K s t c d rs))))
theorem e1K_ok {l : List QF} {s t c d : Nat} (hq : okQ s t c d) {rs : List Ray} (h : ExR (FL l) rs) (hk : e1K s t c d rs = true) : NBd (FL ((s, t, c, d) :: l)) 64 ∧ ∀ c' d', okQ s t c' d' → c' ≠ c → d' ≠ d → NBd (FL ((s, t, c', d') :: (s, t, c, d) :: l)) 64 := by
  have big : NBd (FL ((s, t, c, d) :: l)) 16 → NBd (FL ((s, t, c, d) :: l)) 64 ∧ ∀ c' d', okQ s t c' d' → c' ≠ c → d' ≠ d → NBd (FL ((s, t, c', d') :: (s, t, c, d) :: l)) 64 := fun w => ⟨w.mono (by decide), fun c' d' _ _ _ => w.sq _⟩
  rcases orK_t hk with w | w
  · exact big ((prdQ_ok hq h).mono (Nat.le_of_ble_eq_true w))
  · obtain ⟨r1, a, b⟩ := stepQ_ok hq h w
    rcases orK_t b with x | x
    · have := Nat.le_of_ble_eq_true x
      rw [lenR_eq] at this
      exact big (a.nb.mono this)
    · refine ⟨a.nb.mono a.2.2.2, fun c' d' hq' n1 n2 => ?_⟩
      have y := all4_t x c' hq'.2.2.1
      rcases orK_t y with z | z
      · exact absurd (Nat.eq_of_beq_eq_true z) n1
      · rcases orK_t z with z | z
        · exact absurd (Nat.eq_of_beq_eq_true z) hq'.2.2.2.2.1
        · rcases orK_t (all4_t z d' hq'.2.2.2.1) with u | u
          · exact absurd (Nat.eq_of_beq_eq_true u) n2
          · rcases orK_t u with u | u
            · exact absurd (Nat.eq_of_beq_eq_true u) hq'.2.2.2.2.2
            · rcases orK_t u with u | u
              · exact (prdQ_ok hq' a).mono (Nat.le_of_ble_eq_true u)
              · obtain ⟨r2, a2, -⟩ := stepQ_ok hq' a u
                exact a2.nb.mono a2.2.2.2
theorem e1A_ok {l : List QF} {s t : Nat} {rs : List Ray} (h : ExR (FL l) rs) (hk : e1A s t rs = true) {c d : Nat} (hq : okQ s t c d) : e1K s t c d rs = true := by
  rcases orK_t (all4_t hk c hq.2.2.1) with z | z
  · exact absurd (Nat.eq_of_beq_eq_true z) hq.2.2.2.2.1
  · rcases orK_t (all4_t z d hq.2.2.2.1) with u | u
    · exact absurd (Nat.eq_of_beq_eq_true u) hq.2.2.2.2.2
    · exact u
/-- the six ways to lay a side on a side -/
def pm6 (f g j : Nat) : Nat := Nat.land (Nat.shiftRight cPT (Nat.add (Nat.mul 48 (Nat.add (Nat.mul 4 f) g)) (Nat.mul 8 j))) 255
theorem pm6_ok : ∀ m ∈ pms, ∀ f, f < 4 → pm6 f (dg m f) 0 = m ∨ pm6 f (dg m f) 1 = m ∨ pm6 f (dg m f) 2 = m ∨ pm6 f (dg m f) 3 = m ∨ pm6 f (dg m f) 4 = m ∨ pm6 f (dg m f) 5 = m := by decide +kernel
/-- all pairs of sides that are free, with a witness for each way -/
noncomputable def frK (used s : Nat) : Bool := Nat.beq (Nat.land (Nat.shiftRight used s) 1) 0
noncomputable def extK (used : Nat) (chk : Nat → Nat → Bool) (wit : Nat → Nat → Nat → Nat → Bool) (ps : List (Nat × Nat)) : Nat → Bool :=
  List.rec (motive := fun _ => Nat → Bool) (fun _ => true) (fun p _ ih W => Bool.rec (motive := fun _ => Bool) (ih W) (andK (chk p.1 p.2) (andK (wit p.1 p.2 (pm6 (Nat.mod p.1 4) (Nat.mod p.2 4) 0) (Nat.land W 4294967295)) (andK (wit p.1 p.2 (pm6 (Nat.mod p.1 4) (Nat.mod p.2 4) 1) (Nat.land (Nat.shiftRight W 32) 4294967295)) (andK (wit p.1 p.2 (pm6 (Nat.mod p.1 4) (Nat.mod p.2 4) 2) (Nat.land (Nat.shiftRight W 64) 4294967295)) (andK (wit p.1 p.2 (pm6 (Nat.mod p.1 4) (Nat.mod p.2 4) 3) (Nat.land (Nat.shiftRight W 96) 4294967295)) (andK (wit p.1 p.2 (pm6 (Nat.mod p.1 4) (Nat.mod p.2 4) 4) (Nat.land (Nat.shiftRight W 128) 4294967295)) (andK (wit p.1 p.2 (pm6 (Nat.mod p.1 4) (Nat.mod p.2 4) 5) (Nat.land (Nat.shiftRight W 160) 4294967295)) (ih (Nat.shiftRight W 192))))))))) (andK (frK used p.1) (frK used p.2))) ps
theorem extK_ok {used : Nat} {chk : Nat → Nat → Bool} {wit : Nat → Nat → Nat → Nat → Bool} : ∀ {ps : List (Nat × Nat)} {W : Nat}, extK used chk wit ps W = true → ∀ p ∈ ps, frK used p.1 = true → frK used p.2 = true → chk p.1 p.2 = true ∧ ∀ m ∈ pms, dg m (p.1 % 4) = p.2 % 4 → ∃ w, wit p.1 p.2 m w = true
  | [], _, _, p, hp, _, _ => by cases hp
  | q :: ps, W, h, p, hp, f1, f2 => by
    have h : Bool.rec (motive := fun _ => Bool) (extK used chk wit ps W) (andK (chk q.1 q.2) (andK (wit q.1 q.2 (pm6 (q.1 % 4) (q.2 % 4) 0) (Nat.land W 4294967295)) (andK (wit q.1 q.2 (pm6 (q.1 % 4) (q.2 % 4) 1) (Nat.land (Nat.shiftRight W 32) 4294967295)) (andK (wit q.1 q.2 (pm6 (q.1 % 4) (q.2 % 4) 2) (Nat.land (Nat.shiftRight W 64) 4294967295)) (andK (wit q.1 q.2 (pm6 (q.1 % 4) (q.2 % 4) 3) (Nat.land (Nat.shiftRight W 96) 4294967295)) (andK (wit q.1 q.2 (pm6 (q.1 % 4) (q.2 % 4) 4) (Nat.land (Nat.shiftRight W 128) 4294967295)) (andK (wit q.1 q.2 (pm6 (q.1 % 4) (q.2 % 4) 5) (Nat.land (Nat.shiftRight W 160) 4294967295)) (extK used chk wit ps (Nat.shiftRight W 192))))))))) (andK (frK used q.1) (frK used q.2)) = true := h
    cases c : andK (frK used q.1) (frK used q.2)
    · rw [c] at h
      rcases List.mem_cons.mp hp with e | e
      · exfalso
        rw [← e, f1, f2] at c
        cases c
      · exact extK_ok h p e f1 f2
    · rw [c] at h
      obtain ⟨hc, h⟩ := andK_t h
      obtain ⟨w0, h⟩ := andK_t h
      obtain ⟨w1, h⟩ := andK_t h
      obtain ⟨w2, h⟩ := andK_t h
      obtain ⟨w3, h⟩ := andK_t h
      obtain ⟨w4, h⟩ := andK_t h
      obtain ⟨w5, h⟩ := andK_t h
      rcases List.mem_cons.mp hp with e | e
      · rw [e]
        refine ⟨hc, fun m hm hd => ?_⟩
        have := pm6_ok m hm (q.1 % 4) (Nat.mod_lt _ (by decide))
        rw [hd] at this
        rcases this with e | e | e | e | e | e
        · exact ⟨_, by rw [← e]; exact w0⟩
        · exact ⟨_, by rw [← e]; exact w1⟩
        · exact ⟨_, by rw [← e]; exact w2⟩
        · exact ⟨_, by rw [← e]; exact w3⟩
        · exact ⟨_, by rw [← e]; exact w4⟩
        · exact ⟨_, by rw [← e]; exact w5⟩
      · exact extK_ok h p e f1 f2
def ps66 : List (Nat × Nat) := [(0, 1), (0, 2), (0, 3), (0, 4), (0, 5), (0, 6), (0, 7), (0, 8), (0, 9), (0, 10), (0, 11), (1, 2), (1, 3), (1, 4), (1, 5), (1, 6), (1, 7), (1, 8), (1, 9), (1, 10), (1, 11), (2, 3), (2, 4), (2, 5), (2, 6), (2, 7), (2, 8), (2, 9), (2, 10), (2, 11), (3, 4), (3, 5), (3, 6), (3, 7), (3, 8), (3, 9), (3, 10), (3, 11), (4, 5), (4, 6), (4, 7), (4, 8), (4, 9), (4, 10), (4, 11), (5, 6), (5, 7), (5, 8), (5, 9), (5, 10), (5, 11), (6, 7), (6, 8), (6, 9), (6, 10), (6, 11), (7, 8), (7, 9), (7, 10), (7, 11), (8, 9), (8, 10), (8, 11), (9, 10), (9, 11), (10, 11)]
theorem ps66_ok : ∀ t, t < 12 → ∀ s, s < t → (s, t) ∈ ps66 := by decide +kernel
/-- which sides are glued -/
noncomputable def usK (G : List PG) : Nat := List.rec (motive := fun _ => Nat) 0 (fun g _ ih => Nat.lor (Nat.lor (Nat.pow 2 g.1) (Nat.pow 2 g.2.1)) ih) G
theorem usK_bit : ∀ (G : List PG) (x : Nat), (usK G).testBit x = true ↔ x ∈ sds G
  | [], x => by
    show (0 : Nat).testBit x = true ↔ x ∈ []
    simp
  | g :: G, x => by
    have ih := usK_bit G x
    show (((2 ^ g.1) ||| (2 ^ g.2.1)) ||| usK G).testBit x = true ↔ x ∈ g.1 :: g.2.1 :: sds G
    rw [Nat.testBit_or, Nat.testBit_or, Nat.testBit_two_pow, Nat.testBit_two_pow, Bool.or_eq_true, Bool.or_eq_true, ih, List.mem_cons, List.mem_cons]
    simp only [decide_eq_true_eq]
    constructor
    · rintro ((w | w) | w)
      · exact Or.inl w.symm
      · exact Or.inr (Or.inl w.symm)
      · exact Or.inr (Or.inr w)
    · rintro (w | w | w)
      · exact Or.inl (Or.inl w.symm)
      · exact Or.inl (Or.inr w.symm)
      · exact Or.inr w
theorem frK_iff {G : List PG} {x : Nat} : frK (usK G) x = true ↔ x ∉ sds G := by
  rw [← usK_bit G x]
  unfold frK
  show Nat.beq ((usK G >>> x) &&& 1) 0 = true ↔ _
  have e : (usK G >>> x) &&& 1 = ((usK G).testBit x).toNat := by
    rw [Nat.testBit]
    have : (usK G >>> x) &&& 1 < 2 := by rw [Nat.and_one_is_mod]; exact Nat.mod_lt _ (by decide)
    rw [Nat.and_comm 1]
    rcases (show (usK G >>> x) &&& 1 = 0 ∨ (usK G >>> x) &&& 1 = 1 by omega) with z | z <;> rw [z] <;> rfl
  rw [e]
  cases (usK G).testBit x <;> simp <;> rfl
/-- a gluing that may be -/
noncomputable def vlK (G : List PG) : Bool := List.rec (motive := fun _ => Bool) true (fun g t ih => andK (Nat.ble (Nat.succ g.1) g.2.1) (andK (Nat.ble (Nat.succ g.2.1) 12) (andK (orK (Nat.beq (pm6 (Nat.mod g.1 4) (Nat.mod g.2.1 4) 0) g.2.2) (orK (Nat.beq (pm6 (Nat.mod g.1 4) (Nat.mod g.2.1 4) 1) g.2.2) (orK (Nat.beq (pm6 (Nat.mod g.1 4) (Nat.mod g.2.1 4) 2) g.2.2) (orK (Nat.beq (pm6 (Nat.mod g.1 4) (Nat.mod g.2.1 4) 3) g.2.2) (orK (Nat.beq (pm6 (Nat.mod g.1 4) (Nat.mod g.2.1 4) 4) g.2.2) (Nat.beq (pm6 (Nat.mod g.1 4) (Nat.mod g.2.1 4) 5) g.2.2)))))) (andK (frK (usK t) g.1) (andK (frK (usK t) g.2.1) ih))))) G
theorem pm6_in : ∀ f, f < 4 → ∀ g, g < 4 → ∀ j, j < 6 → pm6 f g j ∈ pms ∧ dg (pm6 f g j) f = g := by decide +kernel
theorem vlK_ok : ∀ {G : List PG}, vlK G = true → Vld G
  | [], _ => ⟨fun g h => (by cases h), List.nodup_nil⟩
  | g :: G, h => by
    obtain ⟨h1, h⟩ := andK_t h
    obtain ⟨h2, h⟩ := andK_t h
    obtain ⟨h3, h⟩ := andK_t h
    obtain ⟨h4, h⟩ := andK_t h
    obtain ⟨h5, h⟩ := andK_t h
    have ih : Vld G := vlK_ok h
    have a1 : g.1 < g.2.1 := Nat.le_of_ble_eq_true h1
    have a2 : g.2.1 < 12 := Nat.le_of_ble_eq_true h2
    have a3 : ∃ j, j < 6 ∧ pm6 (g.1 % 4) (g.2.1 % 4) j = g.2.2 := by
      rcases orK_t h3 with w | w
      · exact ⟨0, by omega, Nat.eq_of_beq_eq_true w⟩
      · rcases orK_t w with w | w
        · exact ⟨1, by omega, Nat.eq_of_beq_eq_true w⟩
        · rcases orK_t w with w | w
          · exact ⟨2, by omega, Nat.eq_of_beq_eq_true w⟩
          · rcases orK_t w with w | w
            · exact ⟨3, by omega, Nat.eq_of_beq_eq_true w⟩
            · rcases orK_t w with w | w
              · exact ⟨4, by omega, Nat.eq_of_beq_eq_true w⟩
              · exact ⟨5, by omega, Nat.eq_of_beq_eq_true w⟩
    obtain ⟨j, hj, e⟩ := a3
    have p := pm6_in (g.1 % 4) (Nat.mod_lt _ (by decide)) (g.2.1 % 4) (Nat.mod_lt _ (by decide)) j hj
    rw [e] at p
    refine ⟨fun x hx => ?_, ?_⟩
    · rcases List.mem_cons.mp hx with rfl | hx
      · exact ⟨a1, a2, p.1, p.2⟩
      · exact ih.1 x hx
    · show (g.1 :: g.2.1 :: sds G).Nodup
      refine List.nodup_cons.mpr ⟨fun w => ?_, List.nodup_cons.mpr ⟨frK_iff.mp h5, ih.2⟩⟩
      rcases List.mem_cons.mp w with z | z
      · omega
      · exact frK_iff.mp h4 z
/-- few lawful unions -/
noncomputable def lenN (l : List Nat) : Nat := List.rec (motive := fun _ => Nat) 0 (fun _ _ ih => Nat.succ ih) l
theorem lenN_eq : ∀ l : List Nat, lenN l = l.length
  | [] => rfl
  | r :: l => by
    show Nat.succ (lenN l) = l.length + 1
    rw [lenN_eq l]
noncomputable def uxK (a : Nat) (U : List Nat) : List Nat := List.rec (motive := fun _ => List Nat) U (fun x _ ih => Bool.rec (motive := fun _ => List Nat) ih (Nat.lor a x :: ih) (legalM (Nat.lor a x))) U
theorem uxK_in {a : Nat} : ∀ (U V : List Nat) (y : Nat), y ∈ List.rec (motive := fun _ => List Nat) V (fun x _ ih => Bool.rec (motive := fun _ => List Nat) ih (Nat.lor a x :: ih) (legalM (Nat.lor a x))) U ↔ y ∈ V ∨ ∃ x ∈ U, legalM (Nat.lor a x) = true ∧ y = Nat.lor a x
  | [], V, y => ⟨Or.inl, fun h => h.elim id (fun ⟨x, hx, _⟩ => by cases hx)⟩
  | x :: U, V, y => by
    have ih := uxK_in (a := a) U V y
    show y ∈ Bool.rec (motive := fun _ => List Nat) (List.rec (motive := fun _ => List Nat) V (fun x _ ih => Bool.rec (motive := fun _ => List Nat) ih (Nat.lor a x :: ih) (legalM (Nat.lor a x))) U) (Nat.lor a x :: (List.rec (motive := fun _ => List Nat) V (fun x _ ih => Bool.rec (motive := fun _ => List Nat) ih (Nat.lor a x :: ih) (legalM (Nat.lor a x))) U)) (legalM (Nat.lor a x)) ↔ _
    cases c : legalM (Nat.lor a x)
    · refine ih.trans ⟨fun h => h.elim Or.inl (fun ⟨z, z1, z2⟩ => Or.inr ⟨z, List.mem_cons_of_mem _ z1, z2⟩), fun h => h.elim Or.inl (fun ⟨z, z1, z2⟩ => ?_)⟩
      rcases List.mem_cons.mp z1 with rfl | z1
      · rw [c] at z2; cases z2.1
      · exact Or.inr ⟨z, z1, z2⟩
    · refine List.mem_cons.trans ⟨fun h => ?_, fun h => ?_⟩
      · rcases h with h | h
        · exact Or.inr ⟨x, List.mem_cons_self .., c, h⟩
        · rcases ih.mp h with w | ⟨z, z1, z2⟩
          · exact Or.inl w
          · exact Or.inr ⟨z, List.mem_cons_of_mem _ z1, z2⟩
      · rcases h with w | ⟨z, z1, z2⟩
        · exact Or.inr (ih.mpr (Or.inl w))
        · rcases List.mem_cons.mp z1 with rfl | z1
          · exact Or.inl z2.2
          · exact Or.inr (ih.mpr (Or.inr ⟨z, z1, z2⟩))
noncomputable def ucK (rs : List Ray) : List Nat := List.rec (motive := fun _ => List Nat) [0] (fun r _ ih => Bool.rec (motive := fun _ => List Nat) (uxK r.1 ih) ih (Nat.ble 65 (lenN ih))) rs
noncomputable def prnK (rs : List Ray) : Bool := Nat.ble (lenN (ucK rs)) 64
theorem uxK_len {a : Nat} : ∀ (U V : List Nat), V.length ≤ (List.rec (motive := fun _ => List Nat) V (fun x _ ih => Bool.rec (motive := fun _ => List Nat) ih (Nat.lor a x :: ih) (legalM (Nat.lor a x))) U : List Nat).length
  | [], V => Nat.le_refl _
  | x :: U, V => by
    have ih := uxK_len (a := a) U V
    show V.length ≤ (Bool.rec (motive := fun _ => List Nat) (List.rec (motive := fun _ => List Nat) V (fun x _ ih => Bool.rec (motive := fun _ => List Nat) ih (Nat.lor a x :: ih) (legalM (Nat.lor a x))) U) (Nat.lor a x :: (List.rec (motive := fun _ => List Nat) V (fun x _ ih => Bool.rec (motive := fun _ => List Nat) ih (Nat.lor a x :: ih) (legalM (Nat.lor a x))) U)) (legalM (Nat.lor a x)) : List Nat).length
    cases legalM (Nat.lor a x)
    · exact ih
    · exact Nat.le_succ_of_le ih
theorem legalM_dn {a b : Nat} (h : legalM (a ||| b) = true) : legalM b = true := by
  unfold legalM at h ⊢
  have h : (a ||| b) &&& ((((a ||| b) >>> 1) &&& 0xC1830) ||| (((a ||| b) >>> 2) &&& 0x40810)) = 0 := Nat.eq_of_beq_eq_true h
  have : b &&& (((b >>> 1) &&& 0xC1830) ||| ((b >>> 2) &&& 0x40810)) = 0 := by
    apply Nat.eq_of_testBit_eq
    intro i
    have hi := congrArg (fun z => z.testBit i) h
    simp only [Nat.testBit_and, Nat.testBit_or, Nat.testBit_shiftRight, Nat.zero_testBit] at hi ⊢
    generalize a.testBit i = x1 at hi
    generalize a.testBit (1 + i) = x2 at hi
    generalize a.testBit (2 + i) = x3 at hi
    generalize b.testBit i = y1 at hi ⊢
    generalize b.testBit (1 + i) = y2 at hi ⊢
    generalize b.testBit (2 + i) = y3 at hi ⊢
    generalize Nat.testBit 0xC1830 i = z1 at hi ⊢
    generalize Nat.testBit 0x40810 i = z2 at hi ⊢
    revert x1 x2 x3 y1 y2 y3 z1 z2
    decide
  show Nat.beq (b &&& (((b >>> 1) &&& 0xC1830) ||| ((b >>> 2) &&& 0x40810))) 0 = true
  rw [this]
  rfl
theorem ucK_ok : ∀ {rs : List Ray}, (ucK rs).length ≤ 64 → okU legalM (ucK rs) (rs.map Prod.fst)
  | [], _ => okU_nil _
  | r :: rs, h => by
    have e : ucK (r :: rs) = Bool.rec (motive := fun _ => List Nat) (uxK r.1 (ucK rs)) (ucK rs) (Nat.ble 65 (lenN (ucK rs))) := rfl
    rw [e] at h ⊢
    cases c : Nat.ble 65 (lenN (ucK rs))
    · rw [c] at h
      have h : (uxK r.1 (ucK rs)).length ≤ 64 := h
      have hl : (ucK rs).length ≤ 64 := Nat.le_trans (uxK_len (ucK rs) (ucK rs)) h
      have ih := ucK_ok (rs := rs) hl
      refine okU_cons (fun a b w => legalM_dn w) ih (fun x hx => (uxK_in _ _ x).mpr (Or.inl hx)) (fun x hx w => (uxK_in _ _ _).mpr (Or.inr ⟨x, hx, w, rfl⟩))
    · rw [c] at h
      have h : (ucK rs).length ≤ 64 := h
      have := Nat.le_of_ble_eq_true c
      rw [lenN_eq] at this
      omega
theorem prnK_ok {G : List PG} {rs : List Ray} (h : ExR (FL (EqG G)) rs) (hk : prnK rs = true) : Good G := by
  have := Nat.le_of_ble_eq_true hk
  rw [lenN_eq] at this
  exact Good.prune h (ucK_ok this) this
