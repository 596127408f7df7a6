/-! the class: Space, its sides and joins -/
theorem neg1_le {s : Nat} (h : s < 2 ^ 31) : (-1 : Int32) ≤ nI s := by
  have := nI_pos' h
  rw [Int32.le_iff_toInt_le] at this ⊢
  exact Int.le_trans (by decide) this
def prN (mt : Nat → Option Nat) (s : Nat) : Bool := match mt s with
  | none => false
  | some t => decide (s < t)
/-- the class holds the gluing -/
def CG (S : MS) (P : Nat) (mt : Nat → Option Nat) (go : Nat → Nat) : Prop := S.1 1 0 = nI P ∧ S.1 1 1 = nI (cnt (prN mt) (4 * P)) ∧ (∀ s, s < 4 * P → S.2.1 2 s = mI (mt s)) ∧ (∀ s, 4 * P ≤ s → s < 12 → S.2.1 2 s = -1) ∧ ∀ s t c, s < 4 * P → mt s = some t → c < 4 → S.2.1 3 (4 * s + c) = nI (go (4 * s + c))
theorem CG.keep {S T : MS} {P : Nat} {mt : Nat → Option Nat} {go : Nat → Nat} (h : CG S P mt go) (h0 : T.1 1 0 = S.1 1 0) (h1 : T.1 1 1 = S.1 1 1) (h2 : T.2.1 2 = S.2.1 2) (h3 : T.2.1 3 = S.2.1 3) : CG T P mt go := by
  unfold CG
  rw [h0, h1, h2, h3]
  exact h
theorem prN_t {mt : Nat → Option Nat} {s t : Nat} (e : mt s = some t) (h : s < t) : prN mt s = true := by
  unfold prN
  rw [e]
  exact decide_eq_true h
theorem prN_n {mt : Nat → Option Nat} {s : Nat} (e : mt s = none) : ¬ prN mt s = true := by
  unfold prN
  rw [e]
  exact Bool.false_ne_true
theorem prN_g {mt : Nat → Option Nat} {s t : Nat} (e : mt s = some t) (h : ¬ s < t) : ¬ prN mt s = true := by
  unfold prN
  rw [e]
  exact fun g => h (of_decide_eq_true g)
theorem prN_ex {mt : Nat → Option Nat} {s : Nat} (h : prN mt s = true) : ∃ t, mt s = some t ∧ s < t := by
  unfold prN at h
  cases e : mt s with
  | none => rw [e] at h; cases h
  | some t => rw [e] at h; exact ⟨t, rfl, of_decide_eq_true h⟩
theorem mc_isGlued (X : am_X) (S : MS) (P : Nat) (mt : Nat → Option Nat) (go : Nat → Nat) (s : Nat) (hG : GW P mt go) (hC : CG S P mt go) (hs : s < 4 * P) : MC X 60 [.ref (1), .int (nI (s))] S (some (.int (if mt s = none then 0 else 1))) S := by
  have hP := hG.1
  refine MC.of (Nat.le_of_ble_eq_true rfl) ?_
  rcases mt_or mt (s) with e0 | ⟨t, e0⟩
  · rw [if_pos e0]
    refine as_aload_n d60_0 rfl ?_
    refine ap_get d60_1 f60_9 (by decide) rfl rfl ?_
    refine as_iload_n d60_4 rfl ?_
    refine ap_iald d60_5 (fun _ _ _ _ => rfl) (by decide) (by omega) (by decide) ?_
    refine an_top (e' := (-1)) (by rw [hC.2.2.1 _ (by omega), e0]; rfl) ?_
    refine an_iconstI (-1) d60_6 rfl ?_
    refine as_icmp_eq 14 d60_7 (by decide) (fun c7 => ?_) (fun c7 => absurd rfl c7)
    refine an_iconst 0 d60_14 rfl ?_
    refine as_ireturn d60_15 (by rw [t60]; rfl) ?_
    rfl
  · have ht := mt_lt hG hs e0
    rw [if_neg (by rw [e0]; exact fun g => by cases g)]
    refine as_aload_n d60_0 rfl ?_
    refine ap_get d60_1 f60_9 (by decide) rfl rfl ?_
    refine as_iload_n d60_4 rfl ?_
    refine ap_iald d60_5 (fun _ _ _ _ => rfl) (by decide) (by omega) (by decide) ?_
    refine an_top (e' := nI (t)) (by rw [hC.2.2.1 _ (by omega), e0]; rfl) ?_
    refine an_iconstI (-1) d60_6 rfl ?_
    refine as_icmp_eq 14 d60_7 (by decide) (fun c7 => absurd c7 (nI_ne1 (by omega))) (fun c7 => ?_)
    refine an_iconst 1 d60_10 rfl ?_
    refine as_goto 15 d60_11 (by decide) ?_
    refine as_ireturn d60_15 (by rw [t60]; rfl) ?_
    rfl
theorem mc_isLesser (X : am_X) (S : MS) (P : Nat) (mt : Nat → Option Nat) (go : Nat → Nat) (s : Nat) (hG : GW P mt go) (hC : CG S P mt go) (hs : s < 4 * P) : MC X 64 [.ref (1), .int (nI (s))] S (some (.int (if prN mt s = true then 1 else 0))) S := by
  have hP := hG.1
  refine MC.of (Nat.le_of_ble_eq_true rfl) ?_
  rcases mt_or mt (s) with e0 | ⟨t, e0⟩
  · rw [if_neg (prN_n e0)]
    refine as_aload_n d64_0 rfl ?_
    refine ap_get d64_1 f64_9 (by decide) rfl rfl ?_
    refine as_iload_n d64_4 rfl ?_
    refine ap_iald d64_5 (fun _ _ _ _ => rfl) (by decide) (by omega) (by decide) ?_
    refine an_top (e' := (-1)) (by rw [hC.2.2.1 _ (by omega), e0]; rfl) ?_
    refine as_iload_n d64_6 rfl ?_
    refine as_icmp_le 14 d64_7 (by decide) (fun c7 => ?_) (fun c7 => absurd (neg1_le (by omega)) c7)
    refine an_iconst 0 d64_14 rfl ?_
    refine as_ireturn d64_15 (by rw [t64]; rfl) ?_
    first | rfl | (refine am_req ?_; first | (rw [if_pos (prN_t e0 (by omega))]; rfl) | (rw [if_neg (prN_g e0 (by omega))]; rfl))
  · have ht := mt_lt hG hs e0
    refine as_aload_n d64_0 rfl ?_
    refine ap_get d64_1 f64_9 (by decide) rfl rfl ?_
    refine as_iload_n d64_4 rfl ?_
    refine ap_iald d64_5 (fun _ _ _ _ => rfl) (by decide) (by omega) (by decide) ?_
    refine an_top (e' := nI (t)) (by rw [hC.2.2.1 _ (by omega), e0]; rfl) ?_
    refine as_iload_n d64_6 rfl ?_
    refine an_icmp_le 14 d64_7 (by decide) (by omega) (by omega) (fun c7 => ?_) (fun c7 => ?_)
    · refine an_iconst 0 d64_14 rfl ?_
      refine as_ireturn d64_15 (by rw [t64]; rfl) ?_
      first | rfl | (refine am_req ?_; first | (rw [if_pos (prN_t e0 (by omega))]; rfl) | (rw [if_neg (prN_g e0 (by omega))]; rfl))
    · refine an_iconst 1 d64_10 rfl ?_
      refine as_goto 15 d64_11 (by decide) ?_
      refine as_ireturn d64_15 (by rw [t64]; rfl) ?_
      first | rfl | (refine am_req ?_; first | (rw [if_pos (prN_t e0 (by omega))]; rfl) | (rw [if_neg (prN_g e0 (by omega))]; rfl))
/-! joins, as far as they have gone -/
def UG (S : MS) (B n : Nat) (J : LRel) : Prop := ∃ pa un cl rt ph, UM S B n pa un cl ∧ UP n J pa un cl rt ph
theorem UG.keep {S T : MS} {B n : Nat} {J : LRel} (h : UG S B n J) (h0 : T.1 B 5 = S.1 B 5) (h1 : T.2.1 (B + 1) = S.2.1 (B + 1)) (h2 : T.2.1 (B + 2) = S.2.1 (B + 2)) (h3 : T.2.1 (B + 3) = S.2.1 (B + 3)) : UG T B n J := by
  obtain ⟨pa, un, cl, rt, ph, g1, g2⟩ := h
  exact ⟨pa, un, cl, rt, ph, g1.keep h0 h1 h2 h3, g2⟩
theorem UG.eq {S : MS} {B n : Nat} {J J' : LRel} (h : UG S B n J) (e : ∀ x y b, J x y b ↔ J' x y b) : UG S B n J' := by
  have : J = J' := funext fun x => funext fun y => funext fun b => propext (e x y b)
  rw [← this]
  exact h
/-- sides gone through ahead of side s, and of that its first c corners -/
def cjR (P : Nat) (mt : Nat → Option Nat) (go : Nat → Nat) (s0 c0 : Nat) : LRel := fun x y b => ∃ s t c, (s < s0 ∨ (s = s0 ∧ c < c0)) ∧ s < 4 * P ∧ mt s = some t ∧ s < t ∧ c < 4 ∧ c ≠ s % 4 ∧ x = 4 * (s / 4) + c ∧ y = 4 * (t / 4) + go (4 * s + c) ∧ b = false
def ejR (P : Nat) (mt : Nat → Option Nat) (go : Nat → Nat) (s0 e0 : Nat) : LRel := fun x y b => ∃ s t e, (s < s0 ∨ (s = s0 ∧ e < e0)) ∧ s < 4 * P ∧ mt s = some t ∧ s < t ∧ e < 6 ∧ fE e ≠ s % 4 ∧ tE e ≠ s % 4 ∧ x = 6 * (s / 4) + e ∧ y = 6 * (t / 4) + eOf (go (4 * s + fE e)) (go (4 * s + tE e)) ∧ b = decide (go (4 * s + tE e) < go (4 * s + fE e))
def ejS (go : Nat → Nat) (s e : Nat) : Bool := decide (go (4 * s + tE e) < go (4 * s + fE e))
def sjR (P : Nat) (mt : Nat → Option Nat) (go : Nat → Nat) (s0 : Nat) : LRel := fun x y b => ∃ s t, s < s0 ∧ s < 4 * P ∧ mt s = some t ∧ s < t ∧ x = s / 4 ∧ y = t / 4 ∧ b = decide (cnt (ejS go s) 6 % 2 = 0)
section JR
variable {P : Nat} {mt : Nat → Option Nat} {go : Nat → Nat} {s t c e : Nat}
theorem cjR.skip (h : c = s % 4) (x y : Nat) (b : Bool) : cjR P mt go s c x y b ↔ cjR P mt go s (c + 1) x y b := by
  constructor
  · rintro ⟨s', t', c', h0, h1⟩
    exact ⟨s', t', c', by omega, h1⟩
  · rintro ⟨s', t', c', h0, h1, h2, h3, h4, h5, h6⟩
    have : ¬ (s' = s ∧ c' = c) := fun q => h5 (by rw [q.1, q.2]; exact h)
    exact ⟨s', t', c', by omega, h1, h2, h3, h4, h5, h6⟩
theorem cjR.step (hs : s < 4 * P) (e0 : mt s = some t) (hst : s < t) (hc : c < 4) (h : c ≠ s % 4) (x y : Nat) (b : Bool) : jn (cjR P mt go s c) (4 * (s / 4) + c) (4 * (t / 4) + go (4 * s + c)) false x y b ↔ cjR P mt go s (c + 1) x y b := by
  constructor
  · rintro (⟨s', t', c', h0, h1⟩ | ⟨rfl, rfl, rfl⟩)
    · exact ⟨s', t', c', by omega, h1⟩
    · exact ⟨s, t, c, by omega, hs, e0, hst, hc, h, rfl, rfl, rfl⟩
  · rintro ⟨s', t', c', h0, h1, h2, h3, h4, h5, h6, h7, h8⟩
    by_cases q : s' = s ∧ c' = c
    · obtain ⟨rfl, rfl⟩ := q
      rw [e0] at h2
      cases h2
      exact Or.inr ⟨h6, h7, h8⟩
    · exact Or.inl ⟨s', t', c', by omega, h1, h2, h3, h4, h5, h6, h7, h8⟩
theorem cjR.side (x y : Nat) (b : Bool) : cjR P mt go s 4 x y b ↔ cjR P mt go (s + 1) 0 x y b := by
  constructor
  · rintro ⟨s', t', c', h0, h1⟩
    exact ⟨s', t', c', by omega, h1⟩
  · rintro ⟨s', t', c', h0, h1, h2, h3, h4, h5⟩
    exact ⟨s', t', c', by omega, h1, h2, h3, h4, h5⟩
theorem cjR.no (h : ¬ prN mt s = true) (x y : Nat) (b : Bool) : cjR P mt go s 0 x y b ↔ cjR P mt go (s + 1) 0 x y b := by
  constructor
  · rintro ⟨s', t', c', h0, h1⟩
    exact ⟨s', t', c', by omega, h1⟩
  · rintro ⟨s', t', c', h0, h1, h2, h3, h4⟩
    have : s' ≠ s := fun q => h (by rw [← q]; exact prN_t h2 h3)
    exact ⟨s', t', c', by omega, h1, h2, h3, h4⟩
theorem ejR.skip (h : fE e = s % 4 ∨ tE e = s % 4) (x y : Nat) (b : Bool) : ejR P mt go s e x y b ↔ ejR P mt go s (e + 1) x y b := by
  constructor
  · rintro ⟨s', t', c', h0, h1⟩
    exact ⟨s', t', c', by omega, h1⟩
  · rintro ⟨s', t', c', h0, h1, h2, h3, h4, h5, h5b, h6⟩
    have : ¬ (s' = s ∧ c' = e) := fun q => by
      rw [q.1, q.2] at h5 h5b
      exact h.elim h5 h5b
    exact ⟨s', t', c', by omega, h1, h2, h3, h4, h5, h5b, h6⟩
theorem ejR.step (hs : s < 4 * P) (e0 : mt s = some t) (hst : s < t) (he : e < 6) (h1 : fE e ≠ s % 4) (h2 : tE e ≠ s % 4) (x y : Nat) (b : Bool) : jn (ejR P mt go s e) (6 * (s / 4) + e) (6 * (t / 4) + eOf (go (4 * s + fE e)) (go (4 * s + tE e))) (ejS go s e) x y b ↔ ejR P mt go s (e + 1) x y b := by
  constructor
  · rintro (⟨s', t', c', h0, h1⟩ | ⟨rfl, rfl, rfl⟩)
    · exact ⟨s', t', c', by omega, h1⟩
    · exact ⟨s, t, e, by omega, hs, e0, hst, he, h1, h2, rfl, rfl, rfl⟩
  · rintro ⟨s', t', c', g0, g1, g2, g3, g4, g5, g5b, g6, g7, g8⟩
    by_cases q : s' = s ∧ c' = e
    · obtain ⟨rfl, rfl⟩ := q
      rw [e0] at g2
      cases g2
      exact Or.inr ⟨g6, g7, g8⟩
    · exact Or.inl ⟨s', t', c', by omega, g1, g2, g3, g4, g5, g5b, g6, g7, g8⟩
theorem ejR.side (x y : Nat) (b : Bool) : ejR P mt go s 6 x y b ↔ ejR P mt go (s + 1) 0 x y b := by
  constructor
  · rintro ⟨s', t', c', h0, h1⟩
    exact ⟨s', t', c', by omega, h1⟩
  · rintro ⟨s', t', c', h0, h1, h2, h3, h4, h5⟩
    exact ⟨s', t', c', by omega, h1, h2, h3, h4, h5⟩
theorem ejR.no (h : ¬ prN mt s = true) (x y : Nat) (b : Bool) : ejR P mt go s 0 x y b ↔ ejR P mt go (s + 1) 0 x y b := by
  constructor
  · rintro ⟨s', t', c', h0, h1⟩
    exact ⟨s', t', c', by omega, h1⟩
  · rintro ⟨s', t', c', h0, h1, h2, h3, h4⟩
    have : s' ≠ s := fun q => h (by rw [← q]; exact prN_t h2 h3)
    exact ⟨s', t', c', by omega, h1, h2, h3, h4⟩
theorem sjR.no (h : ¬ prN mt s = true) (x y : Nat) (b : Bool) : sjR P mt go s x y b ↔ sjR P mt go (s + 1) x y b := by
  constructor
  · rintro ⟨s', t', h0, h1⟩
    exact ⟨s', t', by omega, h1⟩
  · rintro ⟨s', t', h0, h1, h2, h3, h4⟩
    have : s' ≠ s := fun q => h (by rw [← q]; exact prN_t h2 h3)
    exact ⟨s', t', by omega, h1, h2, h3, h4⟩
theorem sjR.step (hs : s < 4 * P) (e0 : mt s = some t) (hst : s < t) (x y : Nat) (b : Bool) : jn (sjR P mt go s) (s / 4) (t / 4) (decide (cnt (ejS go s) 6 % 2 = 0)) x y b ↔ sjR P mt go (s + 1) x y b := by
  constructor
  · rintro (⟨s', t', h0, h1⟩ | ⟨rfl, rfl, rfl⟩)
    · exact ⟨s', t', by omega, h1⟩
    · exact ⟨s, t, by omega, hs, e0, hst, rfl, rfl, rfl⟩
  · rintro ⟨s', t', g0, g1, g2, g3, g6, g7, g8⟩
    by_cases q : s' = s
    · subst q
      rw [e0] at g2
      cases g2
      exact Or.inr ⟨g6, g7, g8⟩
    · exact Or.inl ⟨s', t', by omega, g1, g2, g3, g6, g7, g8⟩
end JR
theorem sl_low {e : Nat} (h : e < 6) : (am_sl 0).getD e 0 = nI (fE e) ∧ fE e < 4 := by
  rcases (show e = 0 ∨ e = 1 ∨ e = 2 ∨ e = 3 ∨ e = 4 ∨ e = 5 by omega) with rfl | rfl | rfl | rfl | rfl | rfl <;> decide
theorem sl_high {e : Nat} (h : e < 6) : (am_sl 1).getD e 0 = nI (tE e) ∧ tE e < 4 ∧ fE e < tE e := by
  rcases (show e = 0 ∨ e = 1 ∨ e = 2 ∨ e = 3 ∨ e = 4 ∨ e = 5 by omega) with rfl | rfl | rfl | rfl | rfl | rfl <;> decide
theorem sl_of {a b : Nat} (ha : a < 4) (hb : b < 4) : (am_sl 2).getD (4 * a + b) 0 = nI (eOf a b) ∧ eOf a b < 6 := by
  rcases (show a = 0 ∨ a = 1 ∨ a = 2 ∨ a = 3 by omega) with rfl | rfl | rfl | rfl <;> rcases (show b = 0 ∨ b = 1 ∨ b = 2 ∨ b = 3 by omega) with rfl | rfl | rfl | rfl <;> decide
theorem sl_four {a b : Nat} (ha : a < 4) (hb : b < 4) (hab : a ≠ b) : (am_sl 3).getD (4 * a + b) 0 = nI (kO a b) := by
  rcases (show a = 0 ∨ a = 1 ∨ a = 2 ∨ a = 3 by omega) with rfl | rfl | rfl | rfl <;> rcases (show b = 0 ∨ b = 1 ∨ b = 2 ∨ b = 3 by omega) with rfl | rfl | rfl | rfl <;> first | exact absurd rfl hab | decide
theorem mx_joinU4 (X : am_X) (S : MS) (n : Nat) (J : LRel) (hn : n ≤ 12) (h : UG S 4 n J) (x y : Nat) (b : Bool) (hx : x < n) (hy : y < n) : ∃ T, MC X 3 [.ref (4), .int (nI (x)), .int (nI (y)), .int (nI (bN b))] S none T ∧ gKeep 4 S T ∧ UG T 4 n (jn J x y b) := by
  obtain ⟨pa, un, cl, rt, ph, g1, g2⟩ := h
  obtain ⟨T, pa', un', cl', rt', ph', q1, q2, q3, q4⟩ := mx_join4 X S n J pa un cl rt ph hn g1 g2 x y b hx hy
  exact ⟨T, q1, q2, pa', un', cl', rt', ph', q3, q4⟩
theorem mx_joinU10 (X : am_X) (S : MS) (n : Nat) (J : LRel) (hn : n ≤ 18) (h : UG S 10 n J) (x y : Nat) (b : Bool) (hx : x < n) (hy : y < n) : ∃ T, MC X 3 [.ref (10), .int (nI (x)), .int (nI (y)), .int (nI (bN b))] S none T ∧ gKeep 10 S T ∧ UG T 10 n (jn J x y b) := by
  obtain ⟨pa, un, cl, rt, ph, g1, g2⟩ := h
  obtain ⟨T, pa', un', cl', rt', ph', q1, q2, q3, q4⟩ := mx_join10 X S n J pa un cl rt ph hn g1 g2 x y b hx hy
  exact ⟨T, q1, q2, pa', un', cl', rt', ph', q3, q4⟩
theorem mx_joinU16 (X : am_X) (S : MS) (n : Nat) (J : LRel) (hn : n ≤ 3) (h : UG S 16 n J) (x y : Nat) (b : Bool) (hx : x < n) (hy : y < n) : ∃ T, MC X 3 [.ref (16), .int (nI (x)), .int (nI (y)), .int (nI (bN b))] S none T ∧ gKeep 16 S T ∧ UG T 16 n (jn J x y b) := by
  obtain ⟨pa, un, cl, rt, ph, g1, g2⟩ := h
  obtain ⟨T, pa', un', cl', rt', ph', q1, q2, q3, q4⟩ := mx_join16 X S n J pa un cl rt ph hn g1 g2 x y b hx hy
  exact ⟨T, q1, q2, pa', un', cl', rt', ph', q3, q4⟩
theorem mx_joinCorners (X : am_X) (S : MS) (P : Nat) (mt : Nat → Option Nat) (go : Nat → Nat) (s t : Nat) (hG : GW P mt go) (hC : CG S P mt go) (hs : s < 4 * P) (e0 : mt s = some t) (hst : s < t) (hU : UG S 4 (4 * P) (cjR P mt go s 0)) : ∃ T, MC X 66 [.ref (1), .int (nI (s))] S none T ∧ gKeep 4 S T ∧ UG T 4 (4 * P) (cjR P mt go (s + 1) 0) := by
  have hP := hG.1
  have ht := mt_lt hG hs e0
  have key := MX.mc (X := X) (mj := 66) (as := [.ref (1), .int (nI (s))]) (S := S) (Post := fun v T => v = none ∧ gKeep 4 S T ∧ UG T 4 (4 * P) (cjR P mt go (s + 1) 0)) ?_
  · obtain ⟨v, T, g1, g2, g3⟩ := key
    subst g2
    exact ⟨T, g1, g3⟩
  refine MX.of (Nat.le_of_ble_eq_true rfl) ?_
  refine an_iconst 4 d66_0 rfl ?_
  refine as_iload_n d66_1 rfl ?_
  refine an_iconst 4 d66_2 rfl ?_
  refine an_idiv d66_3 (by omega) (by omega) (by omega) ?_
  refine an_imul d66_4 ?_
  refine as_istore_n d66_5 (by decide) ?_
  refine an_iconst 4 d66_6 rfl ?_
  refine as_aload_n d66_7 rfl ?_
  refine ap_get d66_8 f66_9 (by decide) rfl rfl ?_
  refine as_iload_n d66_11 rfl ?_
  refine ap_iald d66_12 (fun _ _ _ _ => rfl) (by decide) (by omega) (by decide) ?_
  refine an_top (e' := nI (t)) (by rw [hC.2.2.1 _ (by omega), e0]; rfl) ?_
  refine an_iconst 4 d66_13 rfl ?_
  refine an_idiv d66_14 (by omega) (by omega) (by omega) ?_
  refine an_imul d66_15 ?_
  refine as_istore_n d66_16 (by decide) ?_
  refine an_iconst 0 d66_17 rfl ?_
  refine as_istore d66_18 (by decide) ?_
  refine AW.loc [(0, .ref (1)), (1, .int (nI (s))), (2, .int (nI ((4) * ((s) / (4))))), (3, .int (nI ((4) * ((t) / (4))))), (4, .int (nI (0)))] (am_pick [3, 4, 2, 1, 0] rfl rfl) ?_
  refine aw_fromE (fun c T => ((20, [(0, .ref (1)), (1, .int (nI (s))), (2, .int (nI (4 * (s / 4)))), (3, .int (nI (4 * (t / 4)))), (4, .int (nI (c)))], [], 208, HP (T), 0, 0) : am_Z)) (fun c T => gKeep 4 S T ∧ UG T 4 (4 * P) (cjR P mt go s (c))) (0) (4) (by omega) (S) (rfl) (⟨gKeep.rf 4 S, hU⟩) (fun c T hc0 hc hI ihc => ?_) (fun T hX => ?_)
  · have hCT : CG T P mt go := hC.keep (by rw [hI.1.2.2]) (by rw [hI.1.2.2]) (hI.1.1 2 (by decide) (by decide) (by decide)) (hI.1.1 3 (by decide) (by decide) (by decide))
    have hgl := hG.go_lt hs e0 hc
    refine as_iload d66_20 rfl ?_
    refine an_iconst 4 d66_22 rfl ?_
    refine an_icmp_ge 65 d66_23 (by decide) (by omega) (by omega) (fun c23 => by omega) (fun c23 => ?_)
    refine as_iload d66_26 rfl ?_
    refine as_iload_n d66_28 rfl ?_
    refine an_iconst 4 d66_29 rfl ?_
    refine an_irem d66_30 (by omega) (by omega) (by omega) ?_
    refine an_icmp_eq 59 d66_31 (by decide) (by omega) (by omega) (fun c31 => ?_) (fun c31 => ?_)
    · have hD := cjR.skip (P := P) (mt := mt) (go := go) c31
      refine an_iinc 1 d66_59 rfl rfl (by decide) ?_
      refine as_goto 20 d66_62 (by decide) ?_
      refine AW.loc [(0, .ref (1)), (1, .int (nI (s))), (2, .int (nI (4 * (s / 4)))), (3, .int (nI (4 * (t / 4)))), (4, .int (nI (c + 1)))] (am_pick [1, 2, 3, 4, 0] rfl rfl) ?_
      have ihc := ihc (T) (by first | exact ⟨hI.1.trans m2, m3.eq hD⟩ | exact ⟨hI.1, hI.2.eq hD⟩)
      exact ihc
    · have hD := cjR.step (go := go) hs e0 hst hc c31
      obtain ⟨T2, m1, m2, m3⟩ := mx_joinU4 X T (4 * P) _ (by omega) hI.2 (4 * (s / 4) + c) (4 * (t / 4) + go (4 * s + c)) false (by omega) (by omega)
      refine as_aload_n d66_34 rfl ?_
      refine ap_get d66_35 f66_23 (by decide) rfl rfl ?_
      refine as_iload_n d66_38 rfl ?_
      refine as_iload d66_39 rfl ?_
      refine an_iadd d66_41 ?_
      refine as_iload_n d66_42 rfl ?_
      refine as_aload_n d66_43 rfl ?_
      refine ap_get d66_44 f66_15 (by decide) rfl rfl ?_
      refine an_iconst 4 d66_47 rfl ?_
      refine as_iload_n d66_48 rfl ?_
      refine an_imul d66_49 ?_
      refine as_iload d66_50 rfl ?_
      refine an_iadd d66_52 ?_
      refine ap_iald d66_53 (fun _ _ _ _ => rfl) (by decide) (by omega) (by decide) ?_
      refine an_top (e' := nI (go (((4) * (s)) + (c)))) (hCT.2.2.2.2 _ _ _ (by omega) e0 (by omega)) ?_
      refine an_iadd d66_54 ?_
      refine an_iconst 0 d66_55 rfl ?_
      refine ac_v3 d66_56 c66_66 (by decide) rfl (Nat.le_of_ble_eq_true rfl) (m1) ?_
      refine an_iinc 1 d66_59 rfl rfl (by decide) ?_
      refine as_goto 20 d66_62 (by decide) ?_
      refine AW.loc [(0, .ref (1)), (1, .int (nI (s))), (2, .int (nI (4 * (s / 4)))), (3, .int (nI (4 * (t / 4)))), (4, .int (nI (c + 1)))] (am_pick [1, 2, 3, 4, 0] rfl rfl) ?_
      have ihc := ihc (T2) (by first | exact ⟨hI.1.trans m2, m3.eq hD⟩ | exact ⟨hI.1, hI.2.eq hD⟩)
      exact ihc
  · refine as_iload d66_20 rfl ?_
    refine an_iconst 4 d66_22 rfl ?_
    refine an_icmp_ge 65 d66_23 (by decide) (by omega) (by omega) (fun c23 => ?_) (fun c23 => by omega)
    refine as_return d66_65 t66 ?_
    exact ⟨_, _, rfl, rfl, hX.1, hX.2.eq cjR.side⟩
theorem mx_joinEdges (X : am_X) (S : MS) (P : Nat) (mt : Nat → Option Nat) (go : Nat → Nat) (s t : Nat) (hG : GW P mt go) (hC : CG S P mt go) (hs : s < 4 * P) (e0 : mt s = some t) (hst : s < t) (hU : UG S 10 (6 * P) (ejR P mt go s 0)) : ∃ T, MC X 67 [.ref (1), .int (nI (s))] S none T ∧ gKeep 10 S T ∧ UG T 10 (6 * P) (ejR P mt go (s + 1) 0) := by
  have hP := hG.1
  have ht := mt_lt hG hs e0
  have key := MX.mc (X := X) (mj := 67) (as := [.ref (1), .int (nI (s))]) (S := S) (Post := fun v T => v = none ∧ gKeep 10 S T ∧ UG T 10 (6 * P) (ejR P mt go (s + 1) 0)) ?_
  · obtain ⟨v, T, g1, g2, g3⟩ := key
    subst g2
    exact ⟨T, g1, g3⟩
  refine MX.of (Nat.le_of_ble_eq_true rfl) ?_
  refine an_bipush 6 d67_0 rfl ?_
  refine as_iload_n d67_2 rfl ?_
  refine an_iconst 4 d67_3 rfl ?_
  refine an_idiv d67_4 (by omega) (by omega) (by omega) ?_
  refine an_imul d67_5 ?_
  refine as_istore_n d67_6 (by decide) ?_
  refine an_bipush 6 d67_7 rfl ?_
  refine as_aload_n d67_9 rfl ?_
  refine ap_get d67_10 f67_9 (by decide) rfl rfl ?_
  refine as_iload_n d67_13 rfl ?_
  refine ap_iald d67_14 (fun _ _ _ _ => rfl) (by decide) (by omega) (by decide) ?_
  refine an_top (e' := nI (t)) (by rw [hC.2.2.1 _ (by omega), e0]; rfl) ?_
  refine an_iconst 4 d67_15 rfl ?_
  refine an_idiv d67_16 (by omega) (by omega) (by omega) ?_
  refine an_imul d67_17 ?_
  refine as_istore_n d67_18 (by decide) ?_
  refine an_iconst 0 d67_19 rfl ?_
  refine as_istore d67_20 (by decide) ?_
  refine AW.loc [(0, .ref (1)), (1, .int (nI (s))), (2, .int (nI ((6) * ((s) / (4))))), (3, .int (nI ((6) * ((t) / (4))))), (4, .int (nI (0)))] (am_pick [3, 4, 2, 1, 0] rfl rfl) ?_
  refine aw_fromE (fun e T => ((22, [(0, .ref (1)), (1, .int (nI (s))), (2, .int (nI (6 * (s / 4)))), (3, .int (nI (6 * (t / 4)))), (4, .int (nI (e)))], [], 208, HP (T), 0, 0) : am_Z)) (fun e T => gKeep 10 S T ∧ UG T 10 (6 * P) (ejR P mt go s (e))) (0) (6) (by omega) (S) (rfl) (⟨gKeep.rf 10 S, hU⟩) (fun e T hee0 hee hI ihe => ?_) (fun T hX => ?_)
  · have hCT : CG T P mt go := hC.keep (by rw [hI.1.2.2]) (by rw [hI.1.2.2]) (hI.1.1 2 (by decide) (by decide) (by decide)) (hI.1.1 3 (by decide) (by decide) (by decide))
    have hfe := (sl_low hee).2
    have hte := (sl_high hee).2
    have hg1 := hG.go_lt hs e0 hfe
    have hg2 := hG.go_lt hs e0 hte.1
    have hoe := (sl_of hg1 hg2).2
    refine as_iload d67_22 rfl ?_
    refine an_bipush 6 d67_24 rfl ?_
    refine an_icmp_ge 129 d67_26 (by decide) (by omega) (by omega) (fun c26 => by omega) (fun c26 => ?_)
    refine as_gets d67_29 g67_73 ?_
    refine as_iload d67_32 rfl ?_
    refine an_stat d67_34 (by decide) (by show _ < 6; omega) ?_
    refine an_top (e' := nI (fE e)) ((sl_low hee).1) ?_
    refine as_iload_n d67_35 rfl ?_
    refine an_iconst 4 d67_36 rfl ?_
    refine an_irem d67_37 (by omega) (by omega) (by omega) ?_
    refine an_icmp_eq 123 d67_38 (by decide) (by omega) (by omega) (fun c38 => ?_) (fun c38 => ?_)
    · have hD := ejR.skip (P := P) (mt := mt) (go := go) (Or.inl c38 : fE e = s % 4 ∨ tE e = s % 4)
      refine an_iinc 1 d67_123 rfl rfl (by decide) ?_
      refine as_goto 22 d67_126 (by decide) ?_
      refine AW.loc [(0, .ref (1)), (1, .int (nI (s))), (2, .int (nI (6 * (s / 4)))), (3, .int (nI (6 * (t / 4)))), (4, .int (nI (e + 1)))] (am_pick [1, 2, 3, 4, 0] rfl rfl) ?_
      have ihe := ihe (T) (by first | exact ⟨hI.1.trans m2, m3.eq hD⟩ | exact ⟨hI.1, hI.2.eq hD⟩)
      exact ihe
    · refine as_gets d67_41 g67_76 ?_
      refine as_iload d67_44 rfl ?_
      refine an_stat d67_46 (by decide) (by show _ < 6; omega) ?_
      refine an_top (e' := nI (tE e)) ((sl_high hee).1) ?_
      refine as_iload_n d67_47 rfl ?_
      refine an_iconst 4 d67_48 rfl ?_
      refine an_irem d67_49 (by omega) (by omega) (by omega) ?_
      refine an_icmp_eq 123 d67_50 (by decide) (by omega) (by omega) (fun c50 => ?_) (fun c50 => ?_)
      · have hD := ejR.skip (P := P) (mt := mt) (go := go) (Or.inr c50 : fE e = s % 4 ∨ tE e = s % 4)
        refine an_iinc 1 d67_123 rfl rfl (by decide) ?_
        refine as_goto 22 d67_126 (by decide) ?_
        refine AW.loc [(0, .ref (1)), (1, .int (nI (s))), (2, .int (nI (6 * (s / 4)))), (3, .int (nI (6 * (t / 4)))), (4, .int (nI (e + 1)))] (am_pick [1, 2, 3, 4, 0] rfl rfl) ?_
        have ihe := ihe (T) (by first | exact ⟨hI.1.trans m2, m3.eq hD⟩ | exact ⟨hI.1, hI.2.eq hD⟩)
        exact ihe
      · have hD := ejR.step (go := go) hs e0 hst hee c38 c50
        obtain ⟨T2, m1, m2, m3⟩ := mx_joinU10 X T (6 * P) _ (by omega) hI.2 (6 * (s / 4) + e) (6 * (t / 4) + eOf (go (4 * s + fE e)) (go (4 * s + tE e))) (ejS go s e) (by omega) (by omega)
        refine as_aload_n d67_53 rfl ?_
        refine ap_get d67_54 f67_15 (by decide) rfl rfl ?_
        refine an_iconst 4 d67_57 rfl ?_
        refine as_iload_n d67_58 rfl ?_
        refine an_imul d67_59 ?_
        refine as_gets d67_60 g67_73 ?_
        refine as_iload d67_63 rfl ?_
        refine an_stat d67_65 (by decide) (by show _ < 6; omega) ?_
        refine an_top (e' := nI (fE e)) ((sl_low hee).1) ?_
        refine an_iadd d67_66 ?_
        refine ap_iald d67_67 (fun _ _ _ _ => rfl) (by decide) (by omega) (by decide) ?_
        refine an_top (e' := nI (go (((4) * (s)) + (fE e)))) (hCT.2.2.2.2 _ _ _ (by omega) e0 (by omega)) ?_
        refine as_istore d67_68 (by decide) ?_
        refine as_aload_n d67_70 rfl ?_
        refine ap_get d67_71 f67_15 (by decide) rfl rfl ?_
        refine an_iconst 4 d67_74 rfl ?_
        refine as_iload_n d67_75 rfl ?_
        refine an_imul d67_76 ?_
        refine as_gets d67_77 g67_76 ?_
        refine as_iload d67_80 rfl ?_
        refine an_stat d67_82 (by decide) (by show _ < 6; omega) ?_
        refine an_top (e' := nI (tE e)) ((sl_high hee).1) ?_
        refine an_iadd d67_83 ?_
        refine ap_iald d67_84 (fun _ _ _ _ => rfl) (by decide) (by omega) (by decide) ?_
        refine an_top (e' := nI (go (((4) * (s)) + (tE e)))) (hCT.2.2.2.2 _ _ _ (by omega) e0 (by omega)) ?_
        refine as_istore d67_85 (by decide) ?_
        refine as_aload_n d67_87 rfl ?_
        refine ap_get d67_88 f67_27 (by decide) rfl rfl ?_
        refine as_iload_n d67_91 rfl ?_
        refine as_iload d67_92 rfl ?_
        refine an_iadd d67_94 ?_
        refine as_iload_n d67_95 rfl ?_
        refine as_gets d67_96 g67_79 ?_
        refine an_iconst 4 d67_99 rfl ?_
        refine as_iload d67_100 rfl ?_
        refine an_imul d67_102 ?_
        refine as_iload d67_103 rfl ?_
        refine an_iadd d67_105 ?_
        refine an_stat d67_106 (by decide) (by show _ < 16; omega) ?_
        refine an_top (e' := nI (eOf (go (4 * s + fE e)) (go (4 * s + tE e)))) ((sl_of hg1 hg2).1) ?_
        refine an_iadd d67_107 ?_
        refine as_iload d67_108 rfl ?_
        refine as_iload d67_110 rfl ?_
        refine an_icmp_le 119 d67_112 (by decide) (by omega) (by omega) (fun c112 => ?_) (fun c112 => ?_)
        · have hbn : bN (ejS go s e) = 0 := by unfold ejS; rw [decide_eq_false (by omega)]; rfl
          rw [hbn] at m1
          refine an_iconst 0 d67_119 rfl ?_
          refine ac_v3 d67_120 c67_66 (by decide) rfl (Nat.le_of_ble_eq_true rfl) (m1) ?_
          refine an_iinc 1 d67_123 rfl rfl (by decide) ?_
          refine as_goto 22 d67_126 (by decide) ?_
          refine AW.loc [(0, .ref (1)), (1, .int (nI (s))), (2, .int (nI (6 * (s / 4)))), (3, .int (nI (6 * (t / 4)))), (4, .int (nI (e + 1)))] (am_pick [3, 4, 5, 6, 0] rfl rfl) ?_
          have ihe := ihe (T2) (by first | exact ⟨hI.1.trans m2, m3.eq hD⟩ | exact ⟨hI.1, hI.2.eq hD⟩)
          exact ihe
        · have hbn : bN (ejS go s e) = 1 := by unfold ejS; rw [decide_eq_true (by omega)]; rfl
          rw [hbn] at m1
          refine an_iconst 1 d67_115 rfl ?_
          refine as_goto 120 d67_116 (by decide) ?_
          refine ac_v3 d67_120 c67_66 (by decide) rfl (Nat.le_of_ble_eq_true rfl) (m1) ?_
          refine an_iinc 1 d67_123 rfl rfl (by decide) ?_
          refine as_goto 22 d67_126 (by decide) ?_
          refine AW.loc [(0, .ref (1)), (1, .int (nI (s))), (2, .int (nI (6 * (s / 4)))), (3, .int (nI (6 * (t / 4)))), (4, .int (nI (e + 1)))] (am_pick [3, 4, 5, 6, 0] rfl rfl) ?_
          have ihe := ihe (T2) (by first | exact ⟨hI.1.trans m2, m3.eq hD⟩ | exact ⟨hI.1, hI.2.eq hD⟩)
          exact ihe
  · refine as_iload d67_22 rfl ?_
    refine an_bipush 6 d67_24 rfl ?_
    refine an_icmp_ge 129 d67_26 (by decide) (by omega) (by omega) (fun c26 => ?_) (fun c26 => by omega)
    refine as_return d67_129 t67 ?_
    exact ⟨_, _, rfl, rfl, hX.1, hX.2.eq ejR.side⟩
theorem mc_isEvenC (X : am_X) (S : MS) (P : Nat) (mt : Nat → Option Nat) (go : Nat → Nat) (s t : Nat) (hG : GW P mt go) (hC : CG S P mt go) (hs : s < 4 * P) (e0 : mt s = some t) (hst : s < t) : MC X 68 [.ref (1), .int (nI (s))] S (some (.int (nI (bN (decide (cnt (ejS go s) 6 % 2 = 0)))))) S := by
  have hP := hG.1
  have hcl := cnt_le (ejS go s) 6
  refine MC.of (Nat.le_of_ble_eq_true rfl) ?_
  refine an_iconst 0 d68_0 rfl ?_
  refine as_istore_n d68_1 (by decide) ?_
  refine an_iconst 0 d68_2 rfl ?_
  refine as_istore_n d68_3 (by decide) ?_
  refine AW.loc [(0, .ref (1)), (1, .int (nI (s))), (2, .int (nI (0))), (3, .int (nI (0)))] (am_pick [2, 3, 1, 0] rfl rfl) ?_
  refine aw_for (fun e => ((4, [(0, .ref (1)), (1, .int (nI (s))), (2, .int (nI (cnt (ejS go s) (e)))), (3, .int (nI (e)))], [], 208, HP (S), 0, 0) : am_Z)) (6) (rfl) (fun e hee ihe => ?_) ?_
  · have hfe := (sl_low hee).2
    have hte := (sl_high hee).2
    have hg1 := hG.go_lt hs e0 hfe
    have hg2 := hG.go_lt hs e0 hte.1
    refine as_iload_n d68_4 rfl ?_
    refine an_bipush 6 d68_5 rfl ?_
    refine an_icmp_ge 50 d68_7 (by decide) (by omega) (by omega) (fun c7 => by omega) (fun c7 => ?_)
    refine as_aload_n d68_10 rfl ?_
    refine ap_get d68_11 f68_15 (by decide) rfl rfl ?_
    refine an_iconst 4 d68_14 rfl ?_
    refine as_iload_n d68_15 rfl ?_
    refine an_imul d68_16 ?_
    refine as_gets d68_17 g68_73 ?_
    refine as_iload_n d68_20 rfl ?_
    refine an_stat d68_21 (by decide) (by show _ < 6; omega) ?_
    refine an_top (e' := nI (fE e)) ((sl_low hee).1) ?_
    refine an_iadd d68_22 ?_
    refine ap_iald d68_23 (fun _ _ _ _ => rfl) (by decide) (by omega) (by decide) ?_
    refine an_top (e' := nI (go (((4) * (s)) + (fE e)))) (hC.2.2.2.2 _ _ _ (by omega) e0 (by omega)) ?_
    refine as_aload_n d68_24 rfl ?_
    refine ap_get d68_25 f68_15 (by decide) rfl rfl ?_
    refine an_iconst 4 d68_28 rfl ?_
    refine as_iload_n d68_29 rfl ?_
    refine an_imul d68_30 ?_
    refine as_gets d68_31 g68_76 ?_
    refine as_iload_n d68_34 rfl ?_
    refine an_stat d68_35 (by decide) (by show _ < 6; omega) ?_
    refine an_top (e' := nI (tE e)) ((sl_high hee).1) ?_
    refine an_iadd d68_36 ?_
    refine ap_iald d68_37 (fun _ _ _ _ => rfl) (by decide) (by omega) (by decide) ?_
    refine an_top (e' := nI (go (((4) * (s)) + (tE e)))) (hC.2.2.2.2 _ _ _ (by omega) e0 (by omega)) ?_
    refine an_icmp_le 44 d68_38 (by decide) (by omega) (by omega) (fun c38 => ?_) (fun c38 => ?_)
    · refine an_iinc 1 d68_44 rfl rfl (by decide) ?_
      refine as_goto 4 d68_47 (by decide) ?_
      refine AW.loc [(0, .ref (1)), (1, .int (nI (s))), (2, .int (nI (cnt (ejS go s) (e)))), (3, .int (nI (e + 1)))] (am_pick [1, 2, 3, 0] rfl rfl) ?_
      have e2 : cnt (ejS go s) (e + 1) = cnt (ejS go s) (e) := by first | exact cnt_f (fun g => by have := of_decide_eq_true g; omega) | exact cnt_t (decide_eq_true c38)
      rw [e2] at ihe
      exact ihe
    · refine an_iinc 1 d68_41 rfl rfl (by decide) ?_
      refine an_iinc 1 d68_44 rfl rfl (by decide) ?_
      refine as_goto 4 d68_47 (by decide) ?_
      refine AW.loc [(0, .ref (1)), (1, .int (nI (s))), (2, .int (nI (cnt (ejS go s) (e) + 1))), (3, .int (nI (e + 1)))] (am_pick [2, 3, 1, 0] rfl rfl) ?_
      have e2 : cnt (ejS go s) (e + 1) = cnt (ejS go s) (e) + 1 := by first | exact cnt_f (fun g => by have := of_decide_eq_true g; omega) | exact cnt_t (decide_eq_true c38)
      rw [e2] at ihe
      exact ihe
  · refine as_iload_n d68_4 rfl ?_
    refine an_bipush 6 d68_5 rfl ?_
    refine an_icmp_ge 50 d68_7 (by decide) (by omega) (by omega) (fun c7 => ?_) (fun c7 => by omega)
    refine as_iload_n d68_50 rfl ?_
    refine an_iconst 2 d68_51 rfl ?_
    refine an_irem d68_52 (by have := cnt_le (ejS go s) 6; omega) (by omega) (by omega) ?_
    refine an_if_ne 60 d68_53 (by decide) (by omega) (fun c53 => ?_) (fun c53 => ?_)
    · refine an_iconst 0 d68_60 rfl ?_
      refine as_ireturn d68_61 (by rw [t68]; rfl) ?_
      refine am_req (congrArg nI ?_)
      first | (rw [decide_eq_true c53]; rfl) | (rw [decide_eq_false c53]; rfl)
    · refine an_iconst 1 d68_56 rfl ?_
      refine as_goto 61 d68_57 (by decide) ?_
      refine as_ireturn d68_61 (by rw [t68]; rfl) ?_
      refine am_req (congrArg nI ?_)
      first | (rw [decide_eq_true c53]; rfl) | (rw [decide_eq_false c53]; rfl)
