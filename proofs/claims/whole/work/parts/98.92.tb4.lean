/-! holes: blocks with a one in them -/
theorem td_u {π : Int} (h : sg1 π) (a : Int) : a.tdiv π = π * a := by
  rcases h with rfl | rfl
  · rw [Int.tdiv_one, Int.one_mul]
  · rw [Int.tdiv_neg, Int.tdiv_one, Int.neg_mul, Int.one_mul]
/-- what a one leaves -/
def unM (t : MT) (x y : Nat) : MT := fun i j => t i j - t x y * t i y * t x j
theorem un_st {t : MT} {x y : Nat} (h : sg1 (t x y)) : (∀ i, i ≠ x → st1 t x y i y = 0) ∧ (∀ j, j ≠ y → st2 (st1 t x y) x y x j = 0) ∧ (∀ r c, dvT (st2 (st1 t x y) x y) x y r c) ∧ fnT (st2 (st1 t x y) x y) x y = unM t x y := by
  have sq := h.sq
  have e1 : ∀ i, i ≠ x → st1 t x y i y = 0 := fun i hi => by
    unfold st1
    rw [if_neg hi, td_u h]
    grind
  have ex : ∀ j, st1 t x y x j = t x j := fun j => if_pos rfl
  have e2 : ∀ j, j ≠ y → st2 (st1 t x y) x y x j = 0 := fun j hj => by
    unfold st2
    rw [if_neg hj, ex, ex, td_u h]
    grind
  have e3 : st2 (st1 t x y) x y x y = t x y := by
    unfold st2
    rw [if_pos rfl, ex]
  refine ⟨e1, e2, fun r c => ?_, ?_⟩
  · unfold dvT
    rw [e3, td_u h]
    grind
  · funext i j
    unfold fnT unM
    by_cases c : i = x ∨ j = y
    · rw [if_pos c]
      rcases c with c | c
      · rw [c]; grind
      · rw [c]; grind
    · rw [if_neg c]
      unfold st2
      rw [if_neg (fun q => c (Or.inr q)), e1 i (fun q => c (Or.inl q)), Int.mul_zero, Int.sub_zero]
      unfold st1
      rw [if_neg (fun q => c (Or.inl q)), td_u h]
theorem sim_of {TB : Nat} {u : MT} (hU : ∀ i j, 8 ≤ i ∨ 6 ≤ j → u i j = 0) {w : Nat} (hp : prmOK w = true) (hc : ∀ i j, i < 8 → j < 6 → u i j = sgB (wEt w i) * sgB (wF w j) * byT (bkT TB (wK w)) (6 * wR w i + wC w j)) : Sim u (TT TB (wK w)) := by
  obtain ⟨s8, s6⟩ := hit8 hp
  have r8 : ∀ i, wR w i < 8 := fun i => by
    show (w >>> (3 * i)) &&& 7 < 8
    rw [show (7 : Nat) = 2 ^ 3 - 1 from rfl, Nat.and_two_pow_sub_one_eq_mod]
    exact Nat.mod_lt _ (by decide)
  have c6 : ∀ j, j < 6 → wC w j < 6 := fun j hj => by
    unfold prmOK at hp
    rw [Bool.and_eq_true] at hp
    have h2 : ((2 ^ wC w 0 ||| 2 ^ wC w 1) ||| (2 ^ wC w 2 ||| 2 ^ wC w 3)) ||| (2 ^ wC w 4 ||| 2 ^ wC w 5) = 63 := Nat.eq_of_beq_eq_true hp.2
    have b : (63 : Nat).testBit (wC w j) = true := by
      rw [← h2]
      simp only [Nat.testBit_or, Nat.testBit_two_pow, Bool.or_eq_true, decide_eq_true_eq]
      rcases (show j = 0 ∨ j = 1 ∨ j = 2 ∨ j = 3 ∨ j = 4 ∨ j = 5 by omega) with rfl | rfl | rfl | rfl | rfl | rfl <;> simp
    by_cases q : wC w j < 6
    · exact q
    · have : (63 : Nat).testBit (wC w j) = false := Nat.testBit_lt_two_pow (Nat.lt_of_lt_of_le (show 63 < 2 ^ 6 by decide) (Nat.pow_le_pow_right (by decide) (by omega)))
      rw [this] at b; cases b
  have i8 := fin_inj (fun i _ => r8 i) s8
  have i6 := fin_inj c6 s6
  refine ⟨fun i => if i < 8 then wR w i else i, fun j => if j < 6 then wC w j else j, fun i => sgB (wEt w i), fun j => sgB (wF w j), fun i => sgB_1 _, fun j => sgB_1 _, fun i i' e => ?_, fun j j' e => ?_, fun i j => ?_, fun x y hx => ?_⟩
  · have e : (if i < 8 then wR w i else i) = (if i' < 8 then wR w i' else i') := e
    have a := r8 i
    have b := r8 i'
    by_cases c : i < 8
    · rw [if_pos c] at e
      by_cases d : i' < 8
      · rw [if_pos d] at e; exact i8 i i' c d e
      · rw [if_neg d] at e; omega
    · rw [if_neg c] at e
      by_cases d : i' < 8
      · rw [if_pos d] at e; omega
      · rw [if_neg d] at e; exact e
  · have e : (if j < 6 then wC w j else j) = (if j' < 6 then wC w j' else j') := e
    by_cases c : j < 6
    · rw [if_pos c] at e
      have a := c6 j c
      by_cases d : j' < 6
      · rw [if_pos d] at e; exact i6 j j' c d e
      · rw [if_neg d] at e; omega
    · rw [if_neg c] at e
      by_cases d : j' < 6
      · rw [if_pos d] at e
        have a := c6 j' d
        omega
      · rw [if_neg d] at e; exact e
  · dsimp only
    by_cases c : i < 8
    · by_cases d : j < 6
      · rw [if_pos c, if_pos d]
        unfold TT
        rw [mlT_at _ (r8 i) (c6 j d)]
        exact hc i j c d
      · rw [hU i j (Or.inr (by omega)), if_neg d]
        unfold TT
        rw [(mlT_rec _).out (Or.inr (by omega)), Int.mul_zero]
    · rw [hU i j (Or.inl (by omega)), if_neg c]
      unfold TT
      rw [(mlT_rec _).out (Or.inl (by omega)), Int.mul_zero]
  · have hxy : x < 8 ∧ y < 6 := by
      by_cases c : x < 8 ∧ y < 6
      · exact c
      · exact absurd ((mlT_rec _).out (by omega)) hx
    obtain ⟨i, i1, i2⟩ := s8 x hxy.1
    obtain ⟨j, j1, j2⟩ := s6 y hxy.2
    exact ⟨⟨i, by dsimp only; rw [if_pos i1]; exact i2⟩, ⟨j, by dsimp only; rw [if_pos j1]; exact j2⟩⟩
/-- bytes -/
def enB (X n : Nat) : Nat := Nat.land (Nat.shiftRight X (Nat.mul 8 n)) 255
theorem enB_lt (X n : Nat) : enB X n < 256 := by
  show (X >>> (8 * n)) &&& 255 < 256
  rw [show (255 : Nat) = 2 ^ 8 - 1 from rfl, Nat.and_two_pow_sub_one_eq_mod]
  exact Nat.mod_lt _ (by decide)
theorem byT_en (X n : Nat) : byT X n = (enB X n : Int) - 128 := rfl
noncomputable def a6K (p : Nat → Bool) : Bool := andK (p 0) (andK (p 1) (andK (p 2) (andK (p 3) (andK (p 4) (p 5)))))
theorem a6K_t {p : Nat → Bool} (h : a6K p = true) : ∀ j, j < 6 → p j = true := by
  obtain ⟨h0, h⟩ := andK_t h
  obtain ⟨h1, h⟩ := andK_t h
  obtain ⟨h2, h⟩ := andK_t h
  obtain ⟨h3, h⟩ := andK_t h
  obtain ⟨h4, h5⟩ := andK_t h
  intro j hj
  rcases (show j = 0 ∨ j = 1 ∨ j = 2 ∨ j = 3 ∨ j = 4 ∨ j = 5 by omega) with rfl | rfl | rfl | rfl | rfl | rfl <;> assumption
noncomputable def a8K (p : Nat → Bool) : Bool := andK (p 0) (andK (p 1) (andK (p 2) (andK (p 3) (andK (p 4) (andK (p 5) (andK (p 6) (p 7)))))))
theorem a8K_t {p : Nat → Bool} (h : a8K p = true) : ∀ j, j < 8 → p j = true := by
  obtain ⟨h0, h⟩ := andK_t h
  obtain ⟨h1, h⟩ := andK_t h
  obtain ⟨h2, h⟩ := andK_t h
  obtain ⟨h3, h⟩ := andK_t h
  obtain ⟨h4, h⟩ := andK_t h
  obtain ⟨h5, h⟩ := andK_t h
  obtain ⟨h6, h7⟩ := andK_t h
  intro j hj
  rcases (show j = 0 ∨ j = 1 ∨ j = 2 ∨ j = 3 ∨ j = 4 ∨ j = 5 ∨ j = 6 ∨ j = 7 by omega) with rfl | rfl | rfl | rfl | rfl | rfl | rfl | rfl <;> assumption
/-- with the sign -/
noncomputable def sgK (d z : Nat) : Nat := Bool.rec (motive := fun _ => Nat) (Nat.sub 256 d) d (Nat.beq z 0)
noncomputable def eqP1 (a b c d : Nat) : Bool := Nat.beq (Nat.add a (Nat.mul 128 (Nat.add b c))) (Nat.add (Nat.add d (Nat.mul b c)) 16384)
noncomputable def eqN1 (a b c d : Nat) : Bool := Nat.beq (Nat.add (Nat.add a (Nat.mul b c)) 16384) (Nat.add d (Nat.mul 128 (Nat.add b c)))
noncomputable def unK (q : Nat → Nat → Nat → Nat → Bool) (X X' w x y : Nat) : Bool := a8K (fun i => a6K (fun j => q (enB X (Nat.add (Nat.mul 6 i) j)) (enB X (Nat.add (Nat.mul 6 i) y)) (enB X (Nat.add (Nat.mul 6 x) j)) (sgK (enB X' (Nat.add (Nat.mul 6 (wR w i)) (wC w j))) (Nat.xor (wEt w i) (wF w j)))))
theorem sgK_ok (X n w i j : Nat) : (sgK (enB X n) (Nat.xor (wEt w i) (wF w j)) : Int) - 128 = sgB (wEt w i) * sgB (wF w j) * byT X n := by
  have lt := enB_lt X n
  have b1 : wEt w i = 0 ∨ wEt w i = 1 := wb w (42 + i)
  have b2 : wF w j = 0 ∨ wF w j = 1 := wb w (50 + j)
  rw [byT_en]
  rcases b1 with b1 | b1 <;> rcases b2 with b2 | b2 <;> rw [b1, b2]
  · show ((enB X n : Nat) : Int) - 128 = _
    simp [sgB]
  · show ((256 - enB X n : Nat) : Int) - 128 = _
    simp [sgB]; omega
  · show ((256 - enB X n : Nat) : Int) - 128 = _
    simp [sgB]; omega
  · show ((enB X n : Nat) : Int) - 128 = _
    simp [sgB]
theorem unK_ok {TB k x y w : Nat} (hx : x < 8) (hy : y < 6) {q : Nat → Nat → Nat → Nat → Bool} {π : Int} (hπ : TT TB k x y = π) (hq : ∀ a b c d, q a b c d = true → (a : Int) - 128 - π * ((b : Int) - 128) * ((c : Int) - 128) = (d : Int) - 128) (hp : prmOK w = true) (h : unK q (bkT TB k) (bkT TB (wK w)) w x y = true) : Sim (unM (TT TB k) x y) (TT TB (wK w)) := by
  have rL := mlT_rec (bkT TB k)
  have out : ∀ i j, 8 ≤ i ∨ 6 ≤ j → TT TB k i j = 0 := fun i j hij => rL.out hij
  have at_ : ∀ i j, i < 8 → j < 6 → TT TB k i j = (enB (bkT TB k) (6 * i + j) : Int) - 128 := fun i j hi hj => (mlT_at _ hi hj).trans (byT_en _ _)
  refine sim_of (fun i j hij => ?_) hp (fun i j hi hj => ?_)
  · unfold unM
    rcases hij with c | c
    · rw [out i j (Or.inl c), out i y (Or.inl c), Int.mul_zero, Int.zero_mul]; rfl
    · rw [out i j (Or.inr c), out x j (Or.inr c), Int.mul_zero]; rfl
  · have e := hq _ _ _ _ (a6K_t (a8K_t h i hi) j hj)
    have e2 := sgK_ok (bkT TB (wK w)) (6 * wR w i + wC w j) w i j
    unfold unM
    rw [hπ, at_ i j hi hj, at_ i y hi hy, at_ x j hx hj, ← e2]
    exact e
theorem eqP1_ok (a b c d : Nat) (h : eqP1 a b c d = true) : (a : Int) - 128 - 1 * ((b : Int) - 128) * ((c : Int) - 128) = (d : Int) - 128 := by
  have h : a + 128 * (b + c) = d + b * c + 16384 := Nat.eq_of_beq_eq_true h
  have h2 : (a : Int) + 128 * (b + c) = d + b * c + 16384 := by
    have h3 : ((b * c : Nat) : Int) = (b : Int) * c := Int.natCast_mul b c
    generalize (b : Int) * c = z at *
    generalize b * c = y at *
    omega
  grind
theorem eqN1_ok (a b c d : Nat) (h : eqN1 a b c d = true) : (a : Int) - 128 - (-1) * ((b : Int) - 128) * ((c : Int) - 128) = (d : Int) - 128 := by
  have h : a + b * c + 16384 = d + 128 * (b + c) := Nat.eq_of_beq_eq_true h
  have h2 : (a : Int) + b * c + 16384 = d + 128 * (b + c) := by
    have h3 : ((b * c : Nat) : Int) = (b : Int) * c := Int.natCast_mul b c
    generalize (b : Int) * c = z at *
    generalize b * c = y at *
    omega
  grind
/-- labels -/
def lbX (LB k : Nat) : Nat := Nat.land (Nat.shiftRight LB (Nat.mul 64 k)) (2 ^ 48 - 1)
theorem lbA_le : ∀ (n Y : Nat), Y < 256 ^ n → lbA Y (n + 1) = lbA Y n
  | 0, Y, h => by
    have : Y = 0 := by simpa using h
    subst this
    rfl
  | n + 1, Y, h => by
    show (if Nat.land Y 255 = 0 then [] else Nat.land Y 255 :: lbA (Nat.shiftRight Y 8) (n + 1)) = (if Nat.land Y 255 = 0 then [] else Nat.land Y 255 :: lbA (Nat.shiftRight Y 8) n)
    have : Nat.shiftRight Y 8 < 256 ^ n := by
      show Y >>> 8 < 256 ^ n
      rw [Nat.shiftRight_eq_div_pow]
      rw [Nat.pow_succ] at h
      exact Nat.div_lt_of_lt_mul (by rw [Nat.mul_comm]; exact h)
    rw [lbA_le n _ this]
theorem lb_one {LB k k' : Nat} (h : Nat.beq (lbX LB k) (Nat.add 1 (Nat.mul 256 (lbX LB k'))) = true) : lbT LB k = 1 :: lbT LB k' := by
  have e : lbX LB k = 1 + 256 * lbX LB k' := Nat.eq_of_beq_eq_true h
  have lt : lbX LB k < 2 ^ 48 := by
    show (LB >>> (64 * k)) &&& (2 ^ 48 - 1) < 2 ^ 48
    rw [Nat.and_two_pow_sub_one_eq_mod]
    exact Nat.mod_lt _ (by decide)
  show lbA (lbX LB k) 6 = 1 :: lbA (lbX LB k') 6
  rw [lbA_le 5 (lbX LB k') (by omega), e]
  have e1 : Nat.land (1 + 256 * lbX LB k') 255 = 1 := by
    show (1 + 256 * lbX LB k') &&& 255 = 1
    rw [show (255 : Nat) = 2 ^ 8 - 1 from rfl, Nat.and_two_pow_sub_one_eq_mod]
    omega
  have e2 : Nat.shiftRight (1 + 256 * lbX LB k') 8 = lbX LB k' := by
    show (1 + 256 * lbX LB k') >>> 8 = lbX LB k'
    rw [Nat.shiftRight_eq_div_pow]
    omega
  show (if Nat.land (1 + 256 * lbX LB k') 255 = 0 then [] else Nat.land (1 + 256 * lbX LB k') 255 :: lbA (Nat.shiftRight (1 + 256 * lbX LB k') 8) 5) = _
  rw [e1, e2]
  rfl
section
variable (TB LB K : Nat)
/-- one place of a block: if a one stands there, a witness -/
noncomputable def plK (k X x y w : Nat) (q : Nat → Nat → Nat → Nat → Bool) : Bool := andK (Nat.ble (Nat.succ (wK w)) K) (andK (Nat.beq (lbX LB k) (Nat.add 1 (Nat.mul 256 (lbX LB (wK w))))) (andK (prmOK w) (unK q X (bkT TB (wK w)) w x y)))
noncomputable def unA (k X : Nat) (ps : List (Nat × Nat)) : List Nat → Bool := List.rec (motive := fun _ => List Nat → Bool) (fun _ => true) (fun p _ ih ws => (fun v => Bool.rec (motive := fun _ => Bool) (Bool.rec (motive := fun _ => Bool) (ih ws) (List.rec (motive := fun _ => Bool) false (fun w t _ => andK (plK TB LB K k X p.1 p.2 w eqN1) (ih t)) ws) (Nat.beq v 127)) (List.rec (motive := fun _ => Bool) false (fun w t _ => andK (plK TB LB K k X p.1 p.2 w eqP1) (ih t)) ws) (Nat.beq v 129)) (enB X (Nat.add (Nat.mul 6 p.1) p.2))) ps
theorem plK_ok {k x y w : Nat} (hx : x < 8) (hy : y < 6) {q : Nat → Nat → Nat → Nat → Bool} {π : Int} (h1 : sg1 π) (hπ : TT TB k x y = π) (hq : ∀ a b c d, q a b c d = true → (a : Int) - 128 - π * ((b : Int) - 128) * ((c : Int) - 128) = (d : Int) - 128) (h : plK TB LB K k (bkT TB k) x y w q = true) : PlOK TB LB K k x y := by
  obtain ⟨a, h⟩ := andK_t h
  obtain ⟨b, h⟩ := andK_t h
  obtain ⟨c, d⟩ := andK_t h
  have s := unK_ok hx hy hπ hq c d
  have hs : sg1 (TT TB k x y) := by rw [hπ]; exact h1
  obtain ⟨u1, u2, u3, u4⟩ := un_st hs
  refine ⟨fun ⟨i, i1, i2⟩ => absurd (u1 i i1) i2, fun _ => ⟨fun ⟨j, j1, j2⟩ => absurd (u2 j j1) j2, fun _ => ⟨fun r c s _ _ _ n => absurd (u3 r c) n, fun _ => ⟨wK w, Nat.le_of_ble_eq_true a, by rw [u4]; exact s, ?_⟩⟩⟩⟩
  rw [lb_one b, hπ]
  rcases h1 with e | e <;> rw [e] <;> rfl
theorem unA_ok {k : Nat} : ∀ {ps : List (Nat × Nat)} {ws : List Nat}, (∀ p ∈ ps, p.1 < 8 ∧ p.2 < 6) → unA TB LB K k (bkT TB k) ps ws = true → ∀ p ∈ ps, sg1 (TT TB k p.1 p.2) → PlOK TB LB K k p.1 p.2
  | [], _, _, _, p, hp, _ => by cases hp
  | q :: ps, ws, hb, h, p, hp, hv => by
    have bq := hb q (List.mem_cons_self ..)
    have h : Bool.rec (motive := fun _ => Bool) (Bool.rec (motive := fun _ => Bool) (unA TB LB K k (bkT TB k) ps ws) (List.rec (motive := fun _ => Bool) false (fun w t _ => andK (plK TB LB K k (bkT TB k) q.1 q.2 w eqN1) (unA TB LB K k (bkT TB k) ps t)) ws) (Nat.beq (enB (bkT TB k) (Nat.add (Nat.mul 6 q.1) q.2)) 127)) (List.rec (motive := fun _ => Bool) false (fun w t _ => andK (plK TB LB K k (bkT TB k) q.1 q.2 w eqP1) (unA TB LB K k (bkT TB k) ps t)) ws) (Nat.beq (enB (bkT TB k) (Nat.add (Nat.mul 6 q.1) q.2)) 129) = true := h
    have at_ : TT TB k q.1 q.2 = (enB (bkT TB k) (6 * q.1 + q.2) : Int) - 128 := (mlT_at _ bq.1 bq.2).trans (byT_en _ _)
    have rest : ∀ {ws'}, unA TB LB K k (bkT TB k) ps ws' = true → (p = q → PlOK TB LB K k q.1 q.2) → PlOK TB LB K k p.1 p.2 := fun {ws'} g f => by
      rcases List.mem_cons.mp hp with e | e
      · rw [e]; exact f e
      · exact unA_ok (fun x hx => hb x (List.mem_cons_of_mem _ hx)) g p e hv
    cases c : Nat.beq (enB (bkT TB k) (Nat.add (Nat.mul 6 q.1) q.2)) 129
    · rw [c] at h
      cases d : Nat.beq (enB (bkT TB k) (Nat.add (Nat.mul 6 q.1) q.2)) 127
      · rw [d] at h
        refine rest h (fun e => ?_)
        exfalso
        rw [e, at_] at hv
        have c : enB (bkT TB k) (6 * q.1 + q.2) ≠ 129 := Nat.ne_of_beq_eq_false c
        have d : enB (bkT TB k) (6 * q.1 + q.2) ≠ 127 := Nat.ne_of_beq_eq_false d
        rcases hv with w | w <;> omega
      · rw [d] at h
        have d : enB (bkT TB k) (6 * q.1 + q.2) = 127 := Nat.eq_of_beq_eq_true d
        cases ws with
        | nil => cases h
        | cons w t =>
          obtain ⟨a, b⟩ := andK_t h
          exact rest b (fun _ => plK_ok TB LB K bq.1 bq.2 (π := -1) (Or.inr rfl) (by rw [at_, d]; rfl) eqN1_ok a)
    · rw [c] at h
      have c : enB (bkT TB k) (6 * q.1 + q.2) = 129 := Nat.eq_of_beq_eq_true c
      cases ws with
      | nil => cases h
      | cons w t =>
        obtain ⟨a, b⟩ := andK_t h
        exact rest b (fun _ => plK_ok TB LB K bq.1 bq.2 (π := 1) (Or.inl rfl) (by rw [at_, c]; rfl) eqP1_ok a)
/-- a block with a one at n -/
noncomputable def b1K (k n : Nat) (ws : List Nat) : Bool := (fun X => andK (Nat.ble (Nat.succ n) 48) (andK (orK (Nat.beq (enB X n) 129) (Nat.beq (enB X n) 127)) (unA TB LB K k X ps48 ws))) (bkT TB k)
theorem b1K_ok {k n : Nat} {ws : List Nat} (h : b1K TB LB K k n ws = true) : BlOK TB LB K k := by
  obtain ⟨a, h⟩ := andK_t h
  obtain ⟨b, c⟩ := andK_t h
  have rL := mlT_rec (bkT TB k)
  have hn : n < 48 := Nat.le_of_ble_eq_true a
  have inR : ∀ i j, TT TB k i j ≠ 0 → i < 8 ∧ j < 6 := fun i j w => by
    by_cases c : i < 8 ∧ j < 6
    · exact c
    · exact absurd (rL.out (by omega)) w
  have at_ : TT TB k (n / 6) (n % 6) = (enB (bkT TB k) n : Int) - 128 := by
    have := (mlT_at (bkT TB k) (show n / 6 < 8 by omega) (show n % 6 < 6 by omega)).trans (byT_en _ _)
    rw [show 6 * (n / 6) + n % 6 = n by omega] at this
    exact this
  have one : sg1 (TT TB k (n / 6) (n % 6)) := by
    rw [at_]
    rcases orK_t b with w | w
    · rw [Nat.eq_of_beq_eq_true w]; exact Or.inl rfl
    · rw [Nat.eq_of_beq_eq_true w]; exact Or.inr rfl
  refine ⟨fun i j => ?_, ?_, fun z => absurd (z _ _) one.ne, fun x y hm => ?_⟩
  · by_cases c : i < 8 ∧ j < 6
    · show (gMt (mlT (bkT TB k)) i j).natAbs ≤ 1000
      rw [mlT_at _ c.1 c.2]
      exact byT_le _ _
    · rw [show TT TB k i j = 0 from rL.out (by omega)]; decide
  · unfold muT
    have : (LB >>> (64 * k + 48)) &&& 65535 < 65536 := by
      rw [show (65535 : Nat) = 2 ^ 16 - 1 from rfl, Nat.and_two_pow_sub_one_eq_mod]
      exact Nat.mod_lt _ (by decide)
    have : Nat.land (Nat.shiftRight LB (Nat.add (Nat.mul 64 k) 48)) 65535 < 65536 := this
    omega
  · obtain ⟨hx, hy⟩ := inR x y hm.1
    refine unA_ok TB LB K ps48_ok.1 c (x, y) (ps48_ok.2 x hx y hy) ?_
    have := hm.2 _ _ one.ne
    have e : (TT TB k (n / 6) (n % 6)).natAbs = 1 := by rcases one with w | w <;> rw [w] <;> rfl
    have n0 : (TT TB k x y).natAbs ≠ 0 := fun z => hm.1 (Int.natAbs_eq_zero.mp z)
    show TT TB k x y = 1 ∨ TT TB k x y = -1
    omega
noncomputable def c1K (l : List (Nat × List Nat)) : Nat → Bool := List.rec (motive := fun _ => Nat → Bool) (fun _ => true) (fun p _ ih k => andK (b1K TB LB K k p.1 p.2) (ih (Nat.succ k))) l
theorem c1K_ok : ∀ {ps : List (Nat × List Nat)} {k : Nat}, c1K TB LB K ps k = true → ∀ j, k ≤ j → j < k + ps.length → BlOK TB LB K j
  | [], k, _, j, h1, h2 => by
    have : ([] : List (Nat × List Nat)).length = 0 := rfl
    omega
  | p :: ps, k, h, j, h1, h2 => by
    obtain ⟨a, b⟩ := andK_t h
    have hl : (p :: ps).length = ps.length + 1 := rfl
    by_cases e : j = k
    · rw [e]; exact b1K_ok TB LB K a
    · exact c1K_ok b j (by show k + 1 ≤ j; omega) (by show j < k + 1 + ps.length; omega)
end
