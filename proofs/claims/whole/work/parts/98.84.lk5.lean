/-! linking: a part's Euler number -/
theorem i32_ab (x y z w : Int32) : x - y + (z - w) = x + z - (y + w) := by grind
theorem wsum_nat (T : MS) (mt : Nat → Option Nat) (sh : Nat → Nat) (P : Nat) (L : LRel) (k : Nat) : ∀ n, wsum T mt sh P L k n = nI (fsum (fun i => if gno L i = k then 1 + cnt (woE T (kdF sh P i)) 6 else 0) n) - nI (fsum (fun i => if gno L i = k then cnt (woS mt (kdF sh P i)) 4 else 0) n)
  | 0 => by
    show nI 0 = nI 0 - nI 0
    rfl
  | n + 1 => by
    have ih := wsum_nat T mt sh P L k n
    rw [fsum_s, fsum_s]
    by_cases c : gno L n = k
    · rw [wsum_t c, ih, if_pos c, if_pos c]
      unfold worthA
      rw [i32_ab, nI_add, nI_add]
    · rw [wsum_f c, ih, if_neg c, if_neg c, Nat.add_zero, Nat.add_zero]
      show _ + (0 : Int32) = _
      rw [Int32.add_zero]
theorem fsum_ad (f : Nat → Nat) (a : Nat) : ∀ b, fsum f (a + b) = fsum f a + fsum (fun j => f (a + j)) b
  | 0 => rfl
  | b + 1 => by
    show fsum f (a + b) + f (a + b) = fsum f a + (fsum (fun j => f (a + j)) b + f (a + b))
    rw [fsum_ad f a b]
    omega
theorem cnt_ad (p : Nat → Bool) (a : Nat) : ∀ b, cnt p (a + b) = cnt p a + cnt (fun j => p (a + j)) b
  | 0 => rfl
  | b + 1 => by
    show cnt p (a + b) + (if p (a + b) = true then 1 else 0) = cnt p a + (cnt (fun j => p (a + j)) b + (if p (a + b) = true then 1 else 0))
    rw [cnt_ad p a b]
    omega
theorem fsum_if {p : Nat → Bool} {c : Nat} : ∀ b, fsum (fun j => if p j = true then c else 0) b = c * cnt p b
  | 0 => rfl
  | b + 1 => by
    show fsum (fun j => if p j = true then c else 0) b + (if p b = true then c else 0) = c * (cnt p b + if p b = true then 1 else 0)
    rw [fsum_if b, Nat.mul_add]
    split <;> omega
theorem cnt_rev : ∀ b (p : Nat → Bool), cnt (fun j => p (b - 1 - j)) b = cnt p b
  | 0, _ => rfl
  | b + 1, p => by
    have h1 : cnt p (1 + b) = cnt p 1 + cnt (fun j => p (1 + j)) b := cnt_ad p 1 b
    have h2 : cnt (fun j => p (b + 1 - 1 - j)) (b + 1) = cnt (fun j => p (b + 1 - 1 - j)) b + (if p (b + 1 - 1 - b) = true then 1 else 0) := rfl
    have h3 : cnt (fun j => p (b + 1 - 1 - j)) b = cnt (fun j => (fun i => p (1 + i)) (b - 1 - j)) b := cnt_cg b (fun j hj => by
      show p (b + 1 - 1 - j) = p (1 + (b - 1 - j))
      rw [show b + 1 - 1 - j = 1 + (b - 1 - j) by omega])
    have h4 := cnt_rev b (fun i => p (1 + i))
    have h5 : cnt p 1 = if p 0 = true then 1 else 0 := by show 0 + _ = _; rw [Nat.zero_add]
    rw [h2, h3, h4, show b + 1 - 1 - b = 0 by omega, show b + 1 = 1 + b by omega, h1, h5]
    omega
theorem kdF_eq {sh : Nat → Nat} {P n i : Nat} (hn : n < 7 * P) (h1 : fsum sh n ≤ i) (h2 : i < fsum sh (n + 1)) : kdF sh P i = n := by
  obtain ⟨a1, a2, a3⟩ := kdF_spec (sh := sh) (P := P) (i := i) (Nat.lt_of_lt_of_le h2 (fsum_mono sh (by omega)))
  rcases Nat.lt_trichotomy (kdF sh P i) n with q | q | q
  · have := fsum_mono sh (show kdF sh P i + 1 ≤ n by omega)
    omega
  · exact q
  · have := fsum_mono sh (show n + 1 ≤ kdF sh P i by omega)
    omega
/-- how many cuts of a kind have g -/
def kc (sh : Nat → Nat) (g : Nat → Bool) (q : Nat) : Nat := cnt (fun j => g (fsum sh q + j)) (sh q)
theorem kd_sum {sh : Nat → Nat} {P : Nat} (g : Nat → Bool) (F : Nat → Nat) : ∀ n, n ≤ 7 * P → fsum (fun i => if g i = true then F (kdF sh P i) else 0) (fsum sh n) = fsum (fun q => F q * kc sh g q) n
  | 0, _ => rfl
  | n + 1, hn => by
    have ih := kd_sum (sh := sh) (P := P) g F n (by omega)
    rw [fsum_s sh, fsum_ad, ih, fsum_s]
    congr 1
    have : fsum (fun j => if g (fsum sh n + j) = true then F (kdF sh P (fsum sh n + j)) else 0) (sh n) = fsum (fun j => if (fun j => g (fsum sh n + j)) j = true then F n else 0) (sh n) := fsum_congr _ (fun j hj => by
      rw [kdF_eq (sh := sh) (P := P) (n := n) (i := fsum sh n + j) (by omega) (by omega) (by rw [fsum_s]; omega)])
    rw [this, fsum_if]
    rfl
theorem wo_E {T : MS} {P : Nat} {mt : Nat → Option Nat} {go : Nat → Nat} (hG : GW P mt go) (h : LabS T P mt go) (c : Nat → Nat) : ∀ n, n ≤ 3 → fsum (fun q => cnt (woE T q) 6 * c q) (7 * n) = fsum (fun m => if fs (EJ P mt go) m = true then fsum (fun q => if mtS q (m % 6) = true then c (7 * (m / 6) + q) else 0) 7 else 0) (6 * n)
  | 0, _ => rfl
  | n + 1, hn => by
    have ih := wo_E hG h c n (by omega)
    have e1 : ∀ f : Nat → Nat, fsum f (7 * (n + 1)) = fsum f (7 * n) + f (7 * n + 0) + f (7 * n + 1) + f (7 * n + 2) + f (7 * n + 3) + f (7 * n + 4) + f (7 * n + 5) + f (7 * n + 6) := fun _ => rfl
    have e2 : ∀ f : Nat → Nat, fsum f (6 * (n + 1)) = fsum f (6 * n) + f (6 * n + 0) + f (6 * n + 1) + f (6 * n + 2) + f (6 * n + 3) + f (6 * n + 4) + f (6 * n + 5) := fun _ => rfl
    have e3 : ∀ f : Nat → Nat, fsum f 7 = f 0 + f 1 + f 2 + f 3 + f 4 + f 5 + f 6 := fun f => by
      show 0 + f 0 + f 1 + f 2 + f 3 + f 4 + f 5 + f 6 = _
      rw [Nat.zero_add]
    have wq : ∀ q, q < 7 → ∀ e, e < 6 → (woE T (7 * n + q) e = true) = (fs (EJ P mt go) (6 * n + e) = true ∧ mtS q e = true) := fun q hq e he => by
      unfold woE
      rw [show (7 * n + q) / 7 = n by omega, show (7 * n + q) % 7 = q by omega, dec_fs (eL_lst hG h (show 6 * n + e < 18 by omega)), Bool.and_eq_true]
    have mq : ∀ q, q < 7 → ∀ e, e < 6 → mtS q e = decide (Nat.land (Nat.shiftRight 3553528817223 (6 * q + e)) 1 = 1) := by decide
    rw [e1, e2, ih]
    rw [cnt6 (woE T (7 * n + 0))]
    rw [cnt6 (woE T (7 * n + 1))]
    rw [cnt6 (woE T (7 * n + 2))]
    rw [cnt6 (woE T (7 * n + 3))]
    rw [cnt6 (woE T (7 * n + 4))]
    rw [cnt6 (woE T (7 * n + 5))]
    rw [cnt6 (woE T (7 * n + 6))]
    simp only [wq _ (show 0 < 7 by omega), wq _ (show 1 < 7 by omega), wq _ (show 2 < 7 by omega), wq _ (show 3 < 7 by omega), wq _ (show 4 < 7 by omega), wq _ (show 5 < 7 by omega), wq _ (show 6 < 7 by omega), show (0:Nat) < 6 from by omega, show (1:Nat) < 6 from by omega, show (2:Nat) < 6 from by omega, show (3:Nat) < 6 from by omega, show (4:Nat) < 6 from by omega, show (5:Nat) < 6 from by omega, e3]
    rw [show (6 * n + 0) / 6 = n by omega, show (6 * n + 0) % 6 = 0 by omega]
    rw [show (6 * n + 1) / 6 = n by omega, show (6 * n + 1) % 6 = 1 by omega]
    rw [show (6 * n + 2) / 6 = n by omega, show (6 * n + 2) % 6 = 2 by omega]
    rw [show (6 * n + 3) / 6 = n by omega, show (6 * n + 3) % 6 = 3 by omega]
    rw [show (6 * n + 4) / 6 = n by omega, show (6 * n + 4) % 6 = 4 by omega]
    rw [show (6 * n + 5) / 6 = n by omega, show (6 * n + 5) % 6 = 5 by omega]
    simp only [show mtS 0 0 = true from rfl, show mtS 0 1 = true from rfl, show mtS 0 2 = true from rfl, show mtS 0 3 = false from rfl, show mtS 0 4 = false from rfl, show mtS 0 5 = false from rfl, show mtS 1 0 = true from rfl, show mtS 1 1 = false from rfl, show mtS 1 2 = false from rfl, show mtS 1 3 = true from rfl, show mtS 1 4 = true from rfl, show mtS 1 5 = false from rfl, show mtS 2 0 = false from rfl, show mtS 2 1 = true from rfl, show mtS 2 2 = false from rfl, show mtS 2 3 = true from rfl, show mtS 2 4 = false from rfl, show mtS 2 5 = true from rfl, show mtS 3 0 = false from rfl, show mtS 3 1 = false from rfl, show mtS 3 2 = true from rfl, show mtS 3 3 = false from rfl, show mtS 3 4 = true from rfl, show mtS 3 5 = true from rfl, show mtS 4 0 = false from rfl, show mtS 4 1 = true from rfl, show mtS 4 2 = true from rfl, show mtS 4 3 = true from rfl, show mtS 4 4 = true from rfl, show mtS 4 5 = false from rfl, show mtS 5 0 = true from rfl, show mtS 5 1 = false from rfl, show mtS 5 2 = true from rfl, show mtS 5 3 = true from rfl, show mtS 5 4 = false from rfl, show mtS 5 5 = true from rfl, show mtS 6 0 = true from rfl, show mtS 6 1 = true from rfl, show mtS 6 2 = false from rfl, show mtS 6 3 = false from rfl, show mtS 6 4 = true from rfl, show mtS 6 5 = true from rfl]
    by_cases f0 : fs (EJ P mt go) (6 * n + 0) = true <;> by_cases f1 : fs (EJ P mt go) (6 * n + 1) = true <;> by_cases f2 : fs (EJ P mt go) (6 * n + 2) = true <;> by_cases f3 : fs (EJ P mt go) (6 * n + 3) = true <;> by_cases f4 : fs (EJ P mt go) (6 * n + 4) = true <;> by_cases f5 : fs (EJ P mt go) (6 * n + 5) = true <;> simp only [f0, f1, f2, f3, f4, f5, and_true, and_false, if_true, if_false, Bool.false_eq_true, true_and, false_and] <;> omega
theorem ca_kc (sh : Nat → Nat) (g : Nat → Bool) (s c : Nat) : cnt (fun i => g (cutN sh s c i)) (arcP sh (s / 4) (s % 4) c) = kc sh g (7 * (s / 4) + c) + kc sh g (7 * (s / 4) + 4 + kO c (s % 4)) := by
  unfold arcP
  rw [cnt_ad]
  have h1 : cnt (fun i => g (cutN sh s c i)) (sh (7 * (s / 4) + c)) = kc sh g (7 * (s / 4) + c) := cnt_cg _ (fun i hi => by
    unfold cutN
    rw [if_pos hi])
  rw [h1]
  congr 1
  unfold kc
  by_cases q : c = 0 ∨ s % 4 = 0
  · exact cnt_cg _ (fun j hj => by
      unfold cutN
      rw [if_neg (by omega), if_pos q, Nat.add_sub_cancel_left])
  · rw [← cnt_rev _ (fun j => g (fsum sh (7 * (s / 4) + 4 + kO c (s % 4)) + j))]
    exact cnt_cg _ (fun j hj => by
      unfold cutN
      rw [if_neg (by omega), if_neg q, Nat.add_sub_cancel_left])
theorem wo_S (mt : Nat → Option Nat) (c : Nat → Nat) : ∀ n, fsum (fun q => cnt (woS mt q) 4 * c q) (7 * n) = fsum (fun s => fsum (fun x => if x ≠ s % 4 ∧ sdP mt 0 s = true then c (7 * (s / 4) + x) + c (7 * (s / 4) + 4 + kO x (s % 4)) else 0) 4) (4 * n)
  | 0 => rfl
  | n + 1 => by
    have ih := wo_S mt c n
    have e1 : ∀ f : Nat → Nat, fsum f (7 * (n + 1)) = fsum f (7 * n) + f (7 * n + 0) + f (7 * n + 1) + f (7 * n + 2) + f (7 * n + 3) + f (7 * n + 4) + f (7 * n + 5) + f (7 * n + 6) := fun _ => rfl
    have e2 : ∀ f : Nat → Nat, fsum f (4 * (n + 1)) = fsum f (4 * n) + f (4 * n + 0) + f (4 * n + 1) + f (4 * n + 2) + f (4 * n + 3) := fun _ => rfl
    have e3 : ∀ f : Nat → Nat, fsum f 4 = f 0 + f 1 + f 2 + f 3 := fun f => by
      show 0 + f 0 + f 1 + f 2 + f 3 = _
      rw [Nat.zero_add]
    have wq : ∀ q, q < 7 → ∀ x, (woS mt (7 * n + q) x = true) = ((3 < q ∨ x ≠ q) ∧ sdP mt 0 (4 * n + x) = true) := fun q hq x => by
      unfold woS
      rw [show (7 * n + q) / 7 = n by omega, show (7 * n + q) % 7 = q by omega, Bool.and_eq_true, Bool.or_eq_true, decide_eq_true_iff, decide_eq_true_iff]
    rw [e1, e2, ih]
    rw [cnt4 (woS mt (7 * n + 0))]
    rw [cnt4 (woS mt (7 * n + 1))]
    rw [cnt4 (woS mt (7 * n + 2))]
    rw [cnt4 (woS mt (7 * n + 3))]
    rw [cnt4 (woS mt (7 * n + 4))]
    rw [cnt4 (woS mt (7 * n + 5))]
    rw [cnt4 (woS mt (7 * n + 6))]
    simp only [wq _ (show 0 < 7 by omega), wq _ (show 1 < 7 by omega), wq _ (show 2 < 7 by omega), wq _ (show 3 < 7 by omega), wq _ (show 4 < 7 by omega), wq _ (show 5 < 7 by omega), wq _ (show 6 < 7 by omega), e3]
    rw [show (4 * n + 0) / 4 = n by omega, show (4 * n + 0) % 4 = 0 by omega]
    rw [show (4 * n + 1) / 4 = n by omega, show (4 * n + 1) % 4 = 1 by omega]
    rw [show (4 * n + 2) / 4 = n by omega, show (4 * n + 2) % 4 = 2 by omega]
    rw [show (4 * n + 3) / 4 = n by omega, show (4 * n + 3) % 4 = 3 by omega]
    simp only [show 7 * n + 4 + kO 0 1 = 7 * n + 4 from rfl, show 7 * n + 4 + kO 0 2 = 7 * n + 5 from rfl, show 7 * n + 4 + kO 0 3 = 7 * n + 6 from rfl, show 7 * n + 4 + kO 1 0 = 7 * n + 4 from rfl, show 7 * n + 4 + kO 1 2 = 7 * n + 6 from rfl, show 7 * n + 4 + kO 1 3 = 7 * n + 5 from rfl, show 7 * n + 4 + kO 2 0 = 7 * n + 5 from rfl, show 7 * n + 4 + kO 2 1 = 7 * n + 6 from rfl, show 7 * n + 4 + kO 2 3 = 7 * n + 4 from rfl, show 7 * n + 4 + kO 3 0 = 7 * n + 6 from rfl, show 7 * n + 4 + kO 3 1 = 7 * n + 5 from rfl, show 7 * n + 4 + kO 3 2 = 7 * n + 4 from rfl]
    simp only [Nat.add_zero]
    by_cases f0 : sdP mt 0 (4 * n) = true <;> by_cases f1 : sdP mt 0 (4 * n + 1) = true <;> by_cases f2 : sdP mt 0 (4 * n + 2) = true <;> by_cases f3 : sdP mt 0 (4 * n + 3) = true <;> simp [f0, f1, f2, f3] <;> omega
theorem fsum_d (f g : Nat → Nat) : ∀ n, fsum (fun q => f q + g q) n = fsum f n + fsum g n
  | 0 => rfl
  | n + 1 => by
    show fsum (fun q => f q + g q) n + (f n + g n) = fsum f n + f n + (fsum g n + g n)
    rw [fsum_d f g n]
    omega
theorem i32_c (x y z : Int32) : x + z - y = x - y + z := by grind
theorem prt_eq {T : MS} {P : Nat} {mt : Nat → Option Nat} {go : Nat → Nat} {sh : Nat → Nat} (hG : GW P mt go) (h : LabS T P mt go) (J : LRel) (k : Nat) : wsum T mt sh P J k (fsum sh (7 * P)) = nI (cnt (coB J k) (fsum sh (7 * P))) - nI (fsum (caO J mt sh k) (4 * P)) + nI (fsum (fun m => if fs (EJ P mt go) m = true then fsum (cpI J sh k m) 7 else 0) (6 * P)) := by
  have hP := hG.1
  have cg : ∀ F : Nat → Nat, fsum (fun i => if gno J i = k then F (kdF sh P i) else 0) (fsum sh (7 * P)) = fsum (fun q => F q * kc sh (coB J k) q) (7 * P) := fun F => by
    rw [← kd_sum (sh := sh) (P := P) (coB J k) F (7 * P) (Nat.le_refl _)]
    refine fsum_congr _ (fun i _ => ?_)
    by_cases c : gno J i = k
    · rw [if_pos c, if_pos (coB_t c)]
    · rw [if_neg c, if_neg (coB_f c)]
  have hA : fsum (fun i => if gno J i = k then 1 + cnt (woE T (kdF sh P i)) 6 else 0) (fsum sh (7 * P)) = cnt (coB J k) (fsum sh (7 * P)) + fsum (fun m => if fs (EJ P mt go) m = true then fsum (cpI J sh k m) 7 else 0) (6 * P) := by
    rw [cg (fun q => 1 + cnt (woE T q) 6)]
    have e1 : fsum (fun q => (1 + cnt (woE T q) 6) * kc sh (coB J k) q) (7 * P) = fsum (fun q => 1 * kc sh (coB J k) q) (7 * P) + fsum (fun q => cnt (woE T q) 6 * kc sh (coB J k) q) (7 * P) := by
      rw [← fsum_d]
      exact fsum_congr _ (fun q _ => Nat.add_mul _ _ _)
    rw [e1, wo_E hG h _ P hP, ← kd_sum (sh := sh) (P := P) (coB J k) (fun _ => 1) (7 * P) (Nat.le_refl _), fsum_if, Nat.one_mul]
    rfl
  have hB : fsum (fun i => if gno J i = k then cnt (woS mt (kdF sh P i)) 4 else 0) (fsum sh (7 * P)) = fsum (caO J mt sh k) (4 * P) := by
    rw [cg (fun q => cnt (woS mt q) 4), wo_S]
    refine fsum_congr _ (fun s _ => fsum_congr _ (fun x _ => ?_))
    unfold caI
    by_cases c : x ≠ s % 4 ∧ sdP mt 0 s = true
    · rw [if_pos c, if_pos c]
      exact (ca_kc sh (coB J k) s x).symm
    · rw [if_neg c, if_neg c]
  rw [wsum_nat, hA, hB, ← nI_add, i32_c]
