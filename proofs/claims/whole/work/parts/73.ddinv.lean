/-! the search: rows end in 0, and nothing divides them -/
theorem evB_mem {e : Nat → Int} {ok : Nat → Nat → Bool} {a : Nat} {q : Nat × Nat} : ∀ b, q ∈ evB e ok a b → q.1 = a ∧ q.2 < b ∧ e q.2 < 0
  | 0, h => by cases h
  | b + 1, h => by
    have h2 : q ∈ evB e ok a b ++ (if e b < 0 ∧ ok a b = true then [(a, b)] else []) := h
    rcases List.mem_append.mp h2 with h2 | h2
    · obtain ⟨h3, h4, h5⟩ := evB_mem b h2
      exact ⟨h3, by omega, h5⟩
    · by_cases c : e b < 0 ∧ ok a b = true
      · rw [if_pos c] at h2
        rw [List.mem_singleton.mp h2]
        exact ⟨rfl, by show b < b + 1; omega, c.1⟩
      · rw [if_neg c] at h2
        cases h2
theorem evA_mem {e : Nat → Int} {ok : Nat → Nat → Bool} {n : Nat} {q : Nat × Nat} : ∀ a, a ≤ n → q ∈ evA e ok n a → q.1 < a ∧ q.2 < n ∧ ((e q.1 = 0 ∧ q.2 = q.1) ∨ (0 < e q.1 ∧ e q.2 < 0))
  | 0, _, h => by cases h
  | a + 1, ha, h => by
    have h2 : q ∈ evA e ok n a ++ (if e a = 0 then [(a, a)] else if 0 < e a then evB e ok a n else []) := h
    rcases List.mem_append.mp h2 with h2 | h2
    · obtain ⟨h3, h4⟩ := evA_mem a (by omega) h2
      exact ⟨by omega, h4⟩
    · by_cases c : e a = 0
      · rw [if_pos c] at h2
        rw [List.mem_singleton.mp h2]
        exact ⟨by show a < a + 1; omega, by show a < n; omega, Or.inl ⟨c, rfl⟩⟩
      · rw [if_neg c] at h2
        by_cases d : 0 < e a
        · rw [if_pos d] at h2
          obtain ⟨h3, h4, h5⟩ := evB_mem n h2
          rw [h3]
          exact ⟨by omega, h4, Or.inr ⟨d, h5⟩⟩
        · rw [if_neg d] at h2
          cases h2
theorem getD_mem {l : List (Nat × Nat)} {j : Nat} (h : j < l.length) : l.getD j (0, 0) ∈ l := by
  rw [List.getD_eq_getElem?_getD, List.getElem?_eq_getElem h]
  exact List.getElem_mem h
theorem meetR_ev {R : Nat → Nat → Nat} {P n : Nat} {e : Nat → Int} {j : Nat} (h : j < (meetL R P n e).length) : ∃ a b, a < n ∧ b < n ∧ ((e a = 0 ∧ b = a) ∨ (0 < e a ∧ e b < 0)) ∧ meetR R P n e j = evRow (7 * P) R e (a, b) := by
  have hm := getD_mem h
  obtain ⟨h1, h2, h3⟩ := evA_mem n (Nat.le_refl _) hm
  exact ⟨_, _, h1, h2, h3, rfl⟩
theorem gcdN_div {v : Nat → Nat} {g : Nat} (hg : 0 < g) : ∀ n, (∀ i, i < n → g ∣ v i) → gcdN (fun i => v i / g) n * g = gcdN v n
  | 0, _ => by
    show 0 * g = 0
    omega
  | n + 1, h => by
    have ih := gcdN_div hg n (fun i hi => h i (by omega))
    obtain ⟨c, hc⟩ := h n (by omega)
    rw [gcdN_s, gcdN_s, ← ih, hc, Nat.mul_div_cancel_left _ hg, Nat.mul_comm g c, Nat.gcd_mul_right]
theorem evV_ne {R : Nat → Nat → Nat} {P n : Nat} {e : Nat → Int} {a b : Nat} (ha : a < n) (hN : RN P n R) (h : (e a = 0 ∧ b = a) ∨ (0 < e a ∧ e b < 0)) : gcdN (evV R e (a, b)) (7 * P) ≠ 0 := by
  unfold evV
  rcases h with ⟨h1, -⟩ | ⟨h1, h2⟩
  · rw [if_pos h1]
    exact mixV_ne hN ha (by omega)
  · rw [if_neg (by show ¬ e a = 0; omega)]
    exact mixV_ne hN ha (by show 0 < (-e b).toNat; omega)
theorem meet_RP {R : Nat → Nat → Nat} {P n : Nat} {e : Nat → Int} (hN : RN P n R) : RP P (meetL R P n e).length (meetR R P n e) := by
  intro j hj
  obtain ⟨a, b, ha, hb, hc, he⟩ := meetR_ev hj
  have hg := evV_ne ha hN hc
  have h := gcdN_div (v := evV R e (a, b)) (Nat.pos_of_ne_zero hg) (7 * P) (fun i hi => gcdN_dvd (7 * P) i hi)
  rw [he]
  have e2 : evRow (7 * P) R e (a, b) = fun i => evV R e (a, b) i / gcdN (evV R e (a, b)) (7 * P) := rfl
  rw [e2]
  have h2 : gcdN (fun i => evV R e (a, b) i / gcdN (evV R e (a, b)) (7 * P)) (7 * P) * gcdN (evV R e (a, b)) (7 * P) = 1 * gcdN (evV R e (a, b)) (7 * P) := by rw [h, Nat.one_mul]
  exact Nat.eq_of_mul_eq_mul_right (Nat.pos_of_ne_zero hg) h2
theorem meet_RZ {R : Nat → Nat → Nat} {P n : Nat} {e : Nat → Int} (hZ : RZ P n R) : RZ P (meetL R P n e).length (meetR R P n e) := by
  intro j hj i hi
  obtain ⟨a, b, ha, hb, hc, he⟩ := meetR_ev hj
  rw [he]
  exact evRow_hi ha hb hZ hi
theorem gcdN_zero {v : Nat → Nat} : ∀ n, (∀ i, i < n → v i = 0) → gcdN v n = 0
  | 0, _ => rfl
  | n + 1, h => by rw [gcdN_s, gcdN_zero n (fun i hi => h i (by omega)), h n (by omega)]; rfl
theorem gcdN_unit {r : Nat} : ∀ n, r < n → gcdN (unitR r) n = 1
  | 0, h => by omega
  | n + 1, h => by
    rw [gcdN_s]
    by_cases e : r = n
    · subst e
      rw [gcdN_zero r (fun i hi => by unfold unitR; exact if_neg (by omega)), show unitR r r = 1 from if_pos rfl]
      rfl
    · rw [gcdN_unit n (by omega), show unitR r n = 0 from if_neg (by omega)]
      rfl
theorem unit_RP {P : Nat} : RP P (7 * P) unitR := fun r hr => gcdN_unit _ hr
theorem unit_RZ {P : Nat} : RZ P (7 * P) unitR := fun r hr i hi => if_neg (by omega)
theorem unit_RN {P : Nat} : RN P (7 * P) unitR := fun r hr => ⟨r, hr, by rw [show unitR r r = 1 from if_pos rfl]; decide⟩
theorem dd_inv {P : Nat} {mt : Nat → Option Nat} {go : Nat → Nat} (hD : DAll P mt go) : ∀ l l', l ++ l' = eqs mt go (4 * P) → RP P (dd P l).1 (dd P l).2 ∧ RZ P (dd P l).1 (dd P l).2 := by
  intro l
  induction hl : l.length generalizing l with
  | zero =>
    intro l' _
    rw [List.length_eq_zero_iff.mp hl]
    exact ⟨unit_RP, unit_RZ⟩
  | succ k ih =>
    intro l' h
    have hne : l ≠ [] := fun q => by rw [q] at hl; cases hl
    obtain ⟨l1, q, rfl⟩ : ∃ l1 q, l = l1 ++ [q] := ⟨l.dropLast, l.getLast hne, (List.dropLast_concat_getLast hne).symm⟩
    have hk : l1.length = k := by
      rw [List.length_append] at hl
      have : [q].length = 1 := rfl
      omega
    have h1 : l1 ++ ([q] ++ l') = eqs mt go (4 * P) := by rw [← List.append_assoc]; exact h
    obtain ⟨i1, i2⟩ := ih l1 hk ([q] ++ l') h1
    have hok := hD l1 ([q] ++ l') h1
    rw [dd_app]
    exact ⟨meet_RP hok.2.2, meet_RZ i2⟩
