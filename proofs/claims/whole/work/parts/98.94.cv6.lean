/-! holes: the loops of one gluing for the kernel -/
def cEd : Nat := 0x542503143002100
def edK (s a b : Nat) : Nat := Nat.add (Nat.mul 6 (Nat.div s 4)) (Nat.land (Nat.shiftRight cEd (Nat.mul 4 (Nat.add (Nat.mul 4 a) b))) 15)
theorem edK_fin : ∀ a, a < 4 → ∀ b, b < 4 → Nat.land (Nat.shiftRight cEd (Nat.mul 4 (Nat.add (Nat.mul 4 a) b))) 15 = eOf a b := by decide +kernel
theorem edK_ok {w : WS} (hw : WV 3 w) : edK w.1 w.2.1 w.2.2 = wE w := by
  show 6 * (w.1 / 4) + _ = 6 * (w.1 / 4) + eOf w.2.1 w.2.2
  rw [edK_fin _ hw.2.1 _ hw.2.2.1]
def dgt (D s : Nat) : Nat := Nat.land (Nat.shiftRight D (Nat.mul 4 s)) 15
def kD (D s : Nat) : Nat := Nat.land (dgt D s) 7
def fD (D s : Nat) : Int := if dgt D s ≤ 7 then 1 else -1
theorem fD_1 (D s : Nat) : sg1 (fD D s) := by
  unfold fD
  split
  · exact Or.inl rfl
  · exact Or.inr rfl
theorem kD_lt (D s : Nat) : kD D s < 8 := by
  show dgt D s &&& 7 < 8
  rw [show (7 : Nat) = 2 ^ 3 - 1 from rfl, Nat.and_two_pow_sub_one_eq_mod]
  exact Nat.mod_lt _ (by decide)
theorem dgt_lt (D s : Nat) : dgt D s < 16 := by
  show (D >>> (4 * s)) &&& 15 < 16
  rw [show (15 : Nat) = 2 ^ 4 - 1 from rfl, Nat.and_two_pow_sub_one_eq_mod]
  exact Nat.mod_lt _ (by decide)
def vlD (D : Nat) (x : Nat → WS) : Nat → Int
  | 0 => 0
  | n + 1 => vlD D x n + fD D (x n).1 * 256 ^ (kD D (x n).1)
noncomputable def pK (pos z : Nat) : Nat := Nat.add pos (Bool.rec (motive := fun _ => Nat) 0 (Nat.pow 256 (Nat.land z 7)) (Nat.ble z 7))
noncomputable def nK (neg z : Nat) : Nat := Nat.add neg (Bool.rec (motive := fun _ => Nat) (Nat.pow 256 (Nat.land z 7)) 0 (Nat.ble z 7))
theorem pn_ok (pos neg D s : Nat) : ((pK pos (dgt D s) : Nat) : Int) - (nK neg (dgt D s) : Nat) = (pos : Int) - neg + fD D s * 256 ^ (kD D s) := by
  have e : ((Nat.pow 256 (Nat.land (dgt D s) 7) : Nat) : Int) = 256 ^ (kD D s) := by
    show ((256 ^ (kD D s) : Nat) : Int) = 256 ^ (kD D s)
    rw [Int.natCast_pow]
    rfl
  unfold pK nK fD
  cases c : Nat.ble (dgt D s) 7
  · have : ¬ dgt D s ≤ 7 := fun w => by
      rw [Nat.ble_eq_true_of_le w] at c
      cases c
    rw [if_neg this, ← e]
    show ((pos + 0 : Nat) : Int) - (neg + Nat.pow 256 (Nat.land (dgt D s) 7) : Nat) = _
    generalize Nat.pow 256 (Nat.land (dgt D s) 7) = z
    omega
  · rw [if_pos (Nat.le_of_ble_eq_true c), ← e]
    show ((pos + Nat.pow 256 (Nat.land (dgt D s) 7) : Nat) : Int) - (neg + 0 : Nat) = _
    generalize Nat.pow 256 (Nat.land (dgt D s) 7) = z
    omega
/-- a way with what it adds up to -/
noncomputable def wkK (M D s0 a0 b0 : Nat) (ko : Bool) (kc : Nat → Nat → Nat → Bool) (fuel : Nat) : Nat → Nat → Nat → Nat → Nat → Nat → Bool := Nat.rec (motive := fun _ => Nat → Nat → Nat → Nat → Nat → Nat → Bool) (fun _ _ _ _ _ _ => false) (fun _ ih s a b mask pos neg => stK M s a b ko (fun s' a' b' => Bool.rec (motive := fun _ => Bool) (ih s' a' b' (Nat.lor mask (Nat.pow 2 (edK s' a' b'))) (pK pos (dgt D s)) (nK neg (dgt D s))) (kc mask (pK pos (dgt D s)) (nK neg (dgt D s))) (andK (Nat.beq s' s0) (andK (Nat.beq a' a0) (Nat.beq b' b0))))) fuel
section
variable {M D : Nat} {mt : Nat → Option Nat} {go : Nat → Nat}
theorem vlD_cg {x x' : Nat → WS} : ∀ n, (∀ i, i < n → x i = x' i) → vlD D x n = vlD D x' n
  | 0, _ => rfl
  | n + 1, h => by
    show vlD D x n + _ = vlD D x' n + _
    rw [vlD_cg n (fun i hi => h i (by omega)), h n (by omega)]
theorem wkK_ok (hG : GW 3 mt go) (hM : MKw M mt go) (hX : ∀ s, s < 12 → feM M s = 0 → mt s = none) {w0 : WS} (h0 : WV 3 w0) {ko : Bool} {kc : Nat → Nat → Nat → Bool} : ∀ (fuel i : Nat) (x : Nat → WS) (mask pos neg : Nat), x 0 = w0 → (∀ j, j < i → wst mt go (x j) = some (x (j + 1)) ∧ x (j + 1) ≠ w0) → WV 3 (x i) → (∀ b, mask.testBit b = true ↔ ∃ j, j ≤ i ∧ wE (x j) = b) → (pos : Int) - neg = vlD D x i → wkK M D w0.1 w0.2.1 w0.2.2 ko kc fuel (x i).1 (x i).2.1 (x i).2.2 mask pos neg = true → (ko = true ∧ ∃ (n : Nat) (y : Nat → WS), y 0 = w0 ∧ (∀ j, j < n → wst mt go (y j) = some (y (j + 1)) ∧ y (j + 1) ≠ w0) ∧ mt (y n).1 = none) ∨ ∃ (n : Nat) (y : Nat → WS) (mask pos neg : Nat), n < i + fuel ∧ Cy mt go w0 n y ∧ (∀ b, Nat.testBit mask b = true ↔ ∃ j, j ≤ n ∧ wE (y j) = b) ∧ ((pos : Nat) : Int) - (neg : Nat) = vlD D y (n + 1) ∧ kc mask pos neg = true := by
  intro fuel
  induction fuel with
  | zero => intro i x mask pos neg _ _ _ _ _ h; cases h
  | succ fuel ih =>
    intro i x mask pos neg x0 xs xv xm xp h
    have h : stK M (x i).1 (x i).2.1 (x i).2.2 ko (fun s' a' b' => Bool.rec (motive := fun _ => Bool) (wkK M D w0.1 w0.2.1 w0.2.2 ko kc fuel s' a' b' (mask ||| 2 ^ (edK s' a' b')) (pK pos (dgt D (x i).1)) (nK neg (dgt D (x i).1))) (kc mask (pK pos (dgt D (x i).1)) (nK neg (dgt D (x i).1))) (andK (Nat.beq s' w0.1) (andK (Nat.beq a' w0.2.1) (Nat.beq b' w0.2.2)))) = true := h
    rcases stK_ok hM xv h with ⟨e1, e2⟩ | ⟨v, e1, e2⟩
    · exact Or.inl ⟨e2, i, x, x0, xs, hX _ (by have := xv.1; omega) e1⟩
    · have hv := xv.st hG e1
      have pn := pn_ok pos neg D (x i).1
      rw [xp] at pn
      cases c : andK (Nat.beq v.1 w0.1) (andK (Nat.beq v.2.1 w0.2.1) (Nat.beq v.2.2 w0.2.2))
      · rw [c] at e2
        have ne : v ≠ w0 := fun e => by
          rw [e, Nat.beq_refl, Nat.beq_refl, Nat.beq_refl] at c
          cases c
        have e2 : wkK M D w0.1 w0.2.1 w0.2.2 ko kc fuel v.1 v.2.1 v.2.2 (mask ||| 2 ^ (edK v.1 v.2.1 v.2.2)) (pK pos (dgt D (x i).1)) (nK neg (dgt D (x i).1)) = true := e2
        obtain ⟨u, ul, ue⟩ : ∃ u : Nat → WS, (∀ j, j ≤ i → u j = x j) ∧ u (i + 1) = v := ⟨fun j => if j = i + 1 then v else x j, fun j hj => if_neg (by omega), if_pos rfl⟩
        have key := ih (i + 1) u (mask ||| 2 ^ (edK v.1 v.2.1 v.2.2)) (pK pos (dgt D (x i).1)) (nK neg (dgt D (x i).1)) (by rw [ul 0 (by omega)]; exact x0) (fun j hj => by
          by_cases d : j = i
          · rw [d, ue, ul i (Nat.le_refl _)]
            exact ⟨e1, ne⟩
          · rw [ul j (by omega), ul (j + 1) (by omega)]
            exact xs j (by omega)) (by rw [ue]; exact hv) (fun b => by
          rw [Nat.testBit_or, Bool.or_eq_true, xm b, Nat.testBit_two_pow, decide_eq_true_iff, edK_ok hv]
          constructor
          · rintro (⟨j, j1, j2⟩ | e)
            · exact ⟨j, by omega, by rw [ul j j1]; exact j2⟩
            · exact ⟨i + 1, Nat.le_refl _, by rw [ue]; exact e⟩
          · rintro ⟨j, j1, j2⟩
            by_cases d : j = i + 1
            · rw [d, ue] at j2
              exact Or.inr j2
            · rw [ul j (by omega)] at j2
              exact Or.inl ⟨j, by omega, j2⟩) (by
          rw [pn]
          show vlD D x i + _ = vlD D u i + fD D (u i).1 * 256 ^ (kD D (u i).1)
          rw [ul i (Nat.le_refl _), vlD_cg (x := u) (x' := x) i (fun j hj => ul j (by omega))]) (by rw [ue]; exact e2)
        rcases key with k | ⟨n, y, m', p', n', k1, k2⟩
        · exact Or.inl k
        · exact Or.inr ⟨n, y, m', p', n', by omega, k2⟩
      · rw [c] at e2
        obtain ⟨c1, c⟩ := andK_t c
        obtain ⟨c2, c3⟩ := andK_t c
        have ev : v = w0 := Prod.ext (Nat.eq_of_beq_eq_true c1) (Prod.ext (Nat.eq_of_beq_eq_true c2) (Nat.eq_of_beq_eq_true c3))
        refine Or.inr ⟨i, x, mask, _, _, by omega, ⟨x0, xs, by rw [e1, ev]⟩, xm, ?_, e2⟩
        rw [pn]
        rfl
end
/-- numbers from digits -/
def s8 (g : Nat → Int) : Int := g 0 + 256 * (g 1 + 256 * (g 2 + 256 * (g 3 + 256 * (g 4 + 256 * (g 5 + 256 * (g 6 + 256 * g 7))))))
theorem s8_add (g : Nat → Int) (f : Int) {k : Nat} (hk : k < 8) : s8 (fun y => g y + if k = y then f else 0) = s8 g + f * 256 ^ k := by
  unfold s8
  rcases (show k = 0 ∨ k = 1 ∨ k = 2 ∨ k = 3 ∨ k = 4 ∨ k = 5 ∨ k = 6 ∨ k = 7 by omega) with rfl | rfl | rfl | rfl | rfl | rfl | rfl | rfl <;> simp <;> omega
theorem vl_s8 (D : Nat) (x : Nat → WS) : ∀ n, vlD D x n = s8 (rwG (kD D) (fD D) x n)
  | 0 => rfl
  | n + 1 => by
    have e : rwG (kD D) (fD D) x (n + 1) = fun y => rwG (kD D) (fD D) x n y + if kD D (x n).1 = y then fD D (x n).1 else 0 := rfl
    rw [e, s8_add _ _ (kD_lt D (x n).1), ← vl_s8 D x n]
    rfl
theorem rwG_abs (D : Nat) (x : Nat → WS) (y : Nat) : ∀ n : Nat, - (n : Int) ≤ rwG (kD D) (fD D) x n y ∧ rwG (kD D) (fD D) x n y ≤ n
  | 0 => ⟨by show -(0 : Int) ≤ 0; omega, by show (0 : Int) ≤ 0; omega⟩
  | n + 1 => by
    have ih := rwG_abs D x y n
    have e : rwG (kD D) (fD D) x (n + 1) y = rwG (kD D) (fD D) x n y + if kD D (x n).1 = y then fD D (x n).1 else 0 := rfl
    rw [e]
    have f := fD_1 D (x n).1
    split
    · rcases f with f | f <;> rw [f] <;> omega
    · omega
theorem rwG_8 (D : Nat) (x : Nat → WS) {y : Nat} (hy : 8 ≤ y) : ∀ n : Nat, rwG (kD D) (fD D) x n y = 0
  | 0 => rfl
  | n + 1 => by
    show rwG (kD D) (fD D) x n y + (if kD D (x n).1 = y then fD D (x n).1 else 0) = 0
    have := kD_lt D (x n).1
    rw [rwG_8 D x hy n, if_neg (by omega)]
    rfl
theorem s8_one {g h : Nat → Int} (e : s8 g = s8 h) (b : ∀ y, y < 8 → -255 ≤ g y - h y ∧ g y - h y ≤ 255) : ∀ y, y < 8 → g y = h y := by
  unfold s8 at e
  have b0 := b 0 (by omega)
  have b1 := b 1 (by omega)
  have b2 := b 2 (by omega)
  have b3 := b 3 (by omega)
  have b4 := b 4 (by omega)
  have b5 := b 5 (by omega)
  have b6 := b 6 (by omega)
  have b7 := b 7 (by omega)
  have d0 : g 0 = h 0 := by omega
  have e := show g 1 + 256 * (g 2 + 256 * (g 3 + 256 * (g 4 + 256 * (g 5 + 256 * (g 6 + 256 * g 7))))) = h 1 + 256 * (h 2 + 256 * (h 3 + 256 * (h 4 + 256 * (h 5 + 256 * (h 6 + 256 * h 7))))) by omega
  have d1 : g 1 = h 1 := by omega
  have e := show g 2 + 256 * (g 3 + 256 * (g 4 + 256 * (g 5 + 256 * (g 6 + 256 * g 7)))) = h 2 + 256 * (h 3 + 256 * (h 4 + 256 * (h 5 + 256 * (h 6 + 256 * h 7)))) by omega
  have d2 : g 2 = h 2 := by omega
  have e := show g 3 + 256 * (g 4 + 256 * (g 5 + 256 * (g 6 + 256 * g 7))) = h 3 + 256 * (h 4 + 256 * (h 5 + 256 * (h 6 + 256 * h 7))) by omega
  have d3 : g 3 = h 3 := by omega
  have e := show g 4 + 256 * (g 5 + 256 * (g 6 + 256 * g 7)) = h 4 + 256 * (h 5 + 256 * (h 6 + 256 * h 7)) by omega
  have d4 : g 4 = h 4 := by omega
  have d5 : g 5 = h 5 := by omega
  have d6 : g 6 = h 6 := by omega
  have d7 : g 7 = h 7 := by omega
  intro y hy
  rcases (show y = 0 ∨ y = 1 ∨ y = 2 ∨ y = 3 ∨ y = 4 ∨ y = 5 ∨ y = 6 ∨ y = 7 by omega) with rfl | rfl | rfl | rfl | rfl | rfl | rfl | rfl <;> assumption
/-- a row of a block -/
def cC : Nat := 0x808080808080
def roX (X r : Nat) : Nat := Nat.land (Nat.shiftRight X (Nat.mul 48 r)) 281474976710655
theorem enB_Y (X r y : Nat) : enB X (6 * r + y) = X / 2 ^ (48 * r) / 2 ^ (8 * y) % 256 := by
  show (X >>> (8 * (6 * r + y))) &&& 255 = _
  rw [show (255 : Nat) = 2 ^ 8 - 1 from rfl, Nat.and_two_pow_sub_one_eq_mod, Nat.shiftRight_eq_div_pow, Nat.div_div_eq_div_mul, ← Nat.pow_add, show 8 * (6 * r + y) = 48 * r + 8 * y by omega]
theorem Y_dig (Y : Nat) : Y % 281474976710656 = Y % 256 + 256 * (Y / 256 % 256 + 256 * (Y / 65536 % 256 + 256 * (Y / 16777216 % 256 + 256 * (Y / 4294967296 % 256 + 256 * (Y / 1099511627776 % 256))))) := by
  have a1 : Y / 65536 = Y / 256 / 256 := by rw [Nat.div_div_eq_div_mul]
  have a2 : Y / 16777216 = Y / 256 / 256 / 256 := by rw [Nat.div_div_eq_div_mul, Nat.div_div_eq_div_mul]
  have a3 : Y / 4294967296 = Y / 256 / 256 / 256 / 256 := by rw [Nat.div_div_eq_div_mul, Nat.div_div_eq_div_mul, Nat.div_div_eq_div_mul]
  have a4 : Y / 1099511627776 = Y / 256 / 256 / 256 / 256 / 256 := by rw [Nat.div_div_eq_div_mul, Nat.div_div_eq_div_mul, Nat.div_div_eq_div_mul, Nat.div_div_eq_div_mul]
  rw [a1, a2, a3, a4]
  omega
theorem roX_sum (X r : Nat) : roX X r = enB X (6 * r + 0) + 256 * (enB X (6 * r + 1) + 256 * (enB X (6 * r + 2) + 256 * (enB X (6 * r + 3) + 256 * (enB X (6 * r + 4) + 256 * enB X (6 * r + 5))))) := by
  rw [enB_Y, enB_Y, enB_Y, enB_Y, enB_Y, enB_Y]
  show (X >>> (48 * r)) &&& 281474976710655 = _
  rw [show (281474976710655 : Nat) = 2 ^ 48 - 1 from rfl, Nat.and_two_pow_sub_one_eq_mod, Nat.shiftRight_eq_div_pow]
  generalize X / 2 ^ (48 * r) = Y
  have := Y_dig Y
  simp only [Nat.mul_zero, Nat.pow_zero, Nat.div_one, Nat.mul_one, Nat.reduceMul, Nat.reducePow]
  exact this
noncomputable def rrX (X r : Nat) : Nat := Bool.rec (motive := fun _ => Nat) cC (roX X r) (Nat.ble (Nat.succ r) 8)
theorem rrX_ok (k r : Nat) : ((rrX (bkT kTB k) r : Nat) : Int) - cC = s8 (fun y => TT kTB k r y) := by
  have rL := mlT_rec (bkT kTB k)
  have out : ∀ i j, 8 ≤ i ∨ 6 ≤ j → TT kTB k i j = 0 := fun i j hij => rL.out hij
  have at_ : ∀ i j, i < 8 → j < 6 → TT kTB k i j = (enB (bkT kTB k) (6 * i + j) : Int) - 128 := fun i j hi hj => (mlT_at _ hi hj).trans (byT_en _ _)
  unfold rrX s8
  dsimp only
  cases c : Nat.ble (Nat.succ r) 8
  · have hr : 8 ≤ r := by
      by_cases d : 8 ≤ r
      · exact d
      · rw [Nat.ble_eq_true_of_le (show Nat.succ r ≤ 8 by omega)] at c
        cases c
    rw [out r 0 (Or.inl hr), out r 1 (Or.inl hr), out r 2 (Or.inl hr), out r 3 (Or.inl hr), out r 4 (Or.inl hr), out r 5 (Or.inl hr), out r 6 (Or.inl hr), out r 7 (Or.inl hr)]
    show ((cC : Nat) : Int) - cC = _
    omega
  · have hr : r < 8 := Nat.le_of_ble_eq_true c
    rw [at_ r 0 hr (by omega), at_ r 1 hr (by omega), at_ r 2 hr (by omega), at_ r 3 hr (by omega), at_ r 4 hr (by omega), at_ r 5 hr (by omega), out r 6 (Or.inr (by omega)), out r 7 (Or.inr (by omega))]
    show ((roX (bkT kTB k) r : Nat) : Int) - cC = _
    rw [roX_sum]
    have : cC = 141289400074368 := rfl
    rw [this]
    generalize enB (bkT kTB k) (6 * r + 0) = z0
    generalize enB (bkT kTB k) (6 * r + 1) = z1
    generalize enB (bkT kTB k) (6 * r + 2) = z2
    generalize enB (bkT kTB k) (6 * r + 3) = z3
    generalize enB (bkT kTB k) (6 * r + 4) = z4
    generalize enB (bkT kTB k) (6 * r + 5) = z5
    omega
noncomputable def rowK (X r pos neg : Nat) : Bool := orK (Nat.beq (Nat.add pos cC) (Nat.add neg (rrX X r))) (Nat.beq (Nat.add neg cC) (Nat.add pos (rrX X r)))
theorem TT_abs (k r y : Nat) : -128 ≤ TT kTB k r y ∧ TT kTB k r y ≤ 127 := by
  have rL := mlT_rec (bkT kTB k)
  by_cases c : r < 8 ∧ y < 6
  · have e : TT kTB k r y = (enB (bkT kTB k) (6 * r + y) : Int) - 128 := (mlT_at _ c.1 c.2).trans (byT_en _ _)
    have := enB_lt (bkT kTB k) (6 * r + y)
    omega
  · have e : TT kTB k r y = 0 := rL.out (by omega)
    omega
theorem rowK_ok {k r pos neg : Nat} {g : Nat → Int} (h : rowK (bkT kTB k) r pos neg = true) (hg : (pos : Int) - neg = s8 g) (hb : ∀ y, y < 8 → -100 ≤ g y ∧ g y ≤ 100) (h8 : ∀ y, 8 ≤ y → g y = 0) : ∃ ε : Int, sg1 ε ∧ ∀ y, g y = ε * TT kTB k r y := by
  have rr := rrX_ok k r
  have o8 : ∀ y, 8 ≤ y → TT kTB k r y = 0 := fun y hy => (mlT_rec (bkT kTB k)).out (Or.inr (by omega))
  rcases orK_t h with w | w
  · have w : pos + cC = neg + rrX (bkT kTB k) r := Nat.eq_of_beq_eq_true w
    refine ⟨1, Or.inl rfl, fun y => ?_⟩
    rw [Int.one_mul]
    by_cases c : y < 8
    · exact s8_one (g := g) (h := fun y => TT kTB k r y) (by omega) (fun y hy => by
        have := hb y hy
        have := TT_abs k r y
        omega) y c
    · rw [h8 y (by omega), o8 y (by omega)]
  · have w : neg + cC = pos + rrX (bkT kTB k) r := Nat.eq_of_beq_eq_true w
    refine ⟨-1, Or.inr rfl, fun y => ?_⟩
    by_cases c : y < 8
    · have e : s8 (fun y => - g y) = - s8 g := by
        unfold s8
        dsimp only
        omega
      have := s8_one (g := fun y => - g y) (h := fun y => TT kTB k r y) (by omega) (fun y hy => by
        have := hb y hy
        have := TT_abs k r y
        omega) y c
      omega
    · rw [h8 y (by omega), o8 y (by omega)]
      rfl
