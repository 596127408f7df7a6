/-! gluings that change -/
def mtP (P : Nat) (mt : Nat → Option Nat) : Nat → Option Nat := fun s => if s < 4 * P then mt s else none
def mtO (mt : Nat → Option Nat) (s t : Nat) : Nat → Option Nat := fun z => if z = s ∨ z = t then none else mt z
def mtG (mt : Nat → Option Nat) (s t : Nat) : Nat → Option Nat := fun z => if z = s then some t else if z = t then some s else mt z
def gin (f g m y : Nat) : Nat := if gy f g m 0 = y then 0 else if gy f g m 1 = y then 1 else if gy f g m 2 = y then 2 else 3
def goG (go : Nat → Nat) (s t f g m : Nat) : Nat → Nat := fun j => if j / 4 = s then gy f g m (j % 4) else if j / 4 = t then gin f g m (j % 4) else go j
/-- each corner once, and not g -/
def gOk (g m : Nat) : Prop := m % 4 ≠ m / 4 % 4 ∧ m % 4 ≠ m / 16 ∧ m / 4 % 4 ≠ m / 16 ∧ m % 4 ≠ g ∧ m / 4 % 4 ≠ g ∧ m / 16 ≠ g
theorem gy_inj {f g m x y : Nat} (hf : f < 4) (h : gOk g m) (hx : x < 4) (hy : y < 4) (e : gy f g m x = gy f g m y) : x = y := by
  obtain ⟨h1, h2, h3, h4, h5, h6⟩ := h
  unfold gy gi at e
  rcases (show f = 0 ∨ f = 1 ∨ f = 2 ∨ f = 3 by omega) with rfl | rfl | rfl | rfl <;> rcases (show x = 0 ∨ x = 1 ∨ x = 2 ∨ x = 3 by omega) with rfl | rfl | rfl | rfl <;> rcases (show y = 0 ∨ y = 1 ∨ y = 2 ∨ y = 3 by omega) with rfl | rfl | rfl | rfl <;> first | rfl | (simp at e; omega)
theorem gin_gy {f g m x : Nat} (hf : f < 4) (h : gOk g m) (hx : x < 4) : gin f g m (gy f g m x) = x := by
  unfold gin
  rcases (show x = 0 ∨ x = 1 ∨ x = 2 ∨ x = 3 by omega) with rfl | rfl | rfl | rfl
  · rw [if_pos rfl]
  · rw [if_neg (fun q => by have := gy_inj hf h (by omega) (by omega) q; omega), if_pos rfl]
  · rw [if_neg (fun q => by have := gy_inj hf h (by omega) (by omega) q; omega), if_neg (fun q => by have := gy_inj hf h (by omega) (by omega) q; omega), if_pos rfl]
  · rw [if_neg (fun q => by have := gy_inj hf h (by omega) (by omega) q; omega), if_neg (fun q => by have := gy_inj hf h (by omega) (by omega) q; omega), if_neg (fun q => by have := gy_inj hf h (by omega) (by omega) q; omega)]
theorem gin_lt (f g m y : Nat) : gin f g m y < 4 := by
  unfold gin
  split
  · omega
  · split
    · omega
    · split <;> omega
theorem gy_gin {f g m y : Nat} (hf : f < 4) (hg : g < 4) (hm : m < 64) (h : gOk g m) (hy : y < 4) : gy f g m (gin f g m y) = y := by
  have l0 := gy_lt (f := f) (x := 0) hg hm
  have l1 := gy_lt (f := f) (x := 1) hg hm
  have l2 := gy_lt (f := f) (x := 2) hg hm
  have l3 := gy_lt (f := f) (x := 3) hg hm
  have n01 : gy f g m 0 ≠ gy f g m 1 := fun q => by have := gy_inj hf h (by omega) (by omega) q; omega
  have n02 : gy f g m 0 ≠ gy f g m 2 := fun q => by have := gy_inj hf h (by omega) (by omega) q; omega
  have n03 : gy f g m 0 ≠ gy f g m 3 := fun q => by have := gy_inj hf h (by omega) (by omega) q; omega
  have n12 : gy f g m 1 ≠ gy f g m 2 := fun q => by have := gy_inj hf h (by omega) (by omega) q; omega
  have n13 : gy f g m 1 ≠ gy f g m 3 := fun q => by have := gy_inj hf h (by omega) (by omega) q; omega
  have n23 : gy f g m 2 ≠ gy f g m 3 := fun q => by have := gy_inj hf h (by omega) (by omega) q; omega
  unfold gin
  by_cases q0 : gy f g m 0 = y
  · rw [if_pos q0]; exact q0
  · rw [if_neg q0]
    by_cases q1 : gy f g m 1 = y
    · rw [if_pos q1]; exact q1
    · rw [if_neg q1]
      by_cases q2 : gy f g m 2 = y
      · rw [if_pos q2]; exact q2
      · rw [if_neg q2]
        omega
theorem gy_f (f g m : Nat) : gy f g m f = g := by
  unfold gy
  rw [if_pos rfl]
theorem GW.none {go : Nat → Nat} : GW 0 (fun _ => none) go := ⟨by omega, fun s hs => by omega⟩
theorem GW.piece {P : Nat} {mt : Nat → Option Nat} {go : Nat → Nat} (h : GW P mt go) (hP : P ≠ 3) : GW (P + 1) (mtP P mt) go := by
  refine ⟨by have := h.1; omega, fun s hs t ht => ?_⟩
  unfold mtP at ht
  by_cases q : s < 4 * P
  · rw [if_pos q] at ht
    obtain ⟨h1, h2, h3, h4⟩ := h.2 s q t ht
    refine ⟨by omega, h2, ?_, h4⟩
    unfold mtP
    rw [if_pos h1]
    exact h3
  · rw [if_neg q] at ht
    cases ht
theorem GW.opn {P : Nat} {mt : Nat → Option Nat} {go : Nat → Nat} (h : GW P mt go) {s t : Nat} (hs : s < 4 * P) (e : mt s = some t) : GW P (mtO mt s t) go := by
  obtain ⟨g1, g2, g3, -⟩ := h.2 s hs t e
  refine ⟨h.1, fun z hz w hw => ?_⟩
  unfold mtO at hw
  by_cases q : z = s ∨ z = t
  · rw [if_pos q] at hw
    cases hw
  · rw [if_neg q] at hw
    obtain ⟨h1, h2, h3, h4⟩ := h.2 z hz w hw
    refine ⟨h1, h2, ?_, h4⟩
    unfold mtO
    rw [if_neg (fun r => ?_)]
    · exact h3
    · rcases r with r | r
      · rw [r, e] at h3
        cases h3
        exact q (Or.inr rfl)
      · rw [r, g3] at h3
        cases h3
        exact q (Or.inl rfl)
theorem GW.glue {P : Nat} {mt : Nat → Option Nat} {go : Nat → Nat} (h : GW P mt go) {s t f g m : Nat} (hs : s < 4 * P) (ht : t < 4 * P) (hst : s ≠ t) (es : mt s = Option.none) (et : mt t = Option.none) (hf : s % 4 = f) (hg : t % 4 = g) (hm : m < 64) (hk : gOk g m) : GW P (mtG mt s t) (goG go s t f g m) := by
  have hf4 : f < 4 := by omega
  have hg4 : g < 4 := by omega
  have a1 : ∀ c, c < 4 → goG go s t f g m (4 * s + c) = gy f g m c := fun c hc => by
    unfold goG
    rw [if_pos (by omega), show (4 * s + c) % 4 = c by omega]
  have a2 : ∀ c, c < 4 → goG go s t f g m (4 * t + c) = gin f g m c := fun c hc => by
    unfold goG
    rw [if_neg (by omega), if_pos (by omega), show (4 * t + c) % 4 = c by omega]
  refine ⟨h.1, fun z hz w hw => ?_⟩
  unfold mtG at hw
  by_cases q1 : z = s
  · rw [if_pos q1] at hw
    cases hw
    subst q1
    refine ⟨ht, fun e => hst e.symm, ?_, fun c hc => ?_, ?_⟩
    · unfold mtG
      rw [if_neg (fun e => hst e.symm), if_pos rfl]
    · rw [a1 c hc, a2 _ (gy_lt hg4 hm)]
      exact ⟨gy_lt hg4 hm, gin_gy hf4 hk hc⟩
    · rw [a1 _ (by omega), hf, gy_f, hg]
  · rw [if_neg q1] at hw
    by_cases q2 : z = t
    · rw [if_pos q2] at hw
      cases hw
      subst q2
      refine ⟨hs, hst, ?_, fun c hc => ?_, ?_⟩
      · unfold mtG
        rw [if_pos rfl]
      · rw [a2 c hc, a1 _ (gin_lt _ _ _ _)]
        exact ⟨gin_lt _ _ _ _, gy_gin hf4 hg4 hm hk hc⟩
      · rw [a2 _ (by omega), hg, hf]
        have := gin_gy (f := f) (g := g) (m := m) hf4 hk hf4
        rw [gy_f] at this
        exact this
    · rw [if_neg q2] at hw
      obtain ⟨h1, h2, h3, h4, h5⟩ := h.2 z hz w hw
      have w1 : w ≠ s := fun e => by rw [e, es] at h3; cases h3
      have w2 : w ≠ t := fun e => by rw [e, et] at h3; cases h3
      have b1 : ∀ j, j / 4 ≠ s → j / 4 ≠ t → goG go s t f g m j = go j := fun j j1 j2 => by
        unfold goG
        rw [if_neg j1, if_neg j2]
      refine ⟨h1, h2, ?_, fun c hc => ?_, ?_⟩
      · unfold mtG
        rw [if_neg w1, if_neg w2]
        exact h3
      · have := h4 c hc
        rw [b1 _ (by omega) (by omega), b1 _ (by omega) (by omega)]
        exact this
      · rw [b1 _ (by omega) (by omega)]
        exact h5
/-! the reference's memory under it -/
theorem RG.piece {S : MS} {P : Nat} {mt : Nat → Option Nat} {go : Nat → Nat} (h : RG S P mt go) {T : MS} (h0 : T.1 189 0 = nI (P + 1)) (h1 : ∀ s, s < 4 * P → T.2.1 190 s = S.2.1 190 s) (h2 : ∀ f, f < 4 → T.2.1 190 (4 * P + f) = -1) (h3 : T.2.1 191 = S.2.1 191) : RG T (P + 1) (mtP P mt) go := by
  refine ⟨h0, fun s hs => ?_, fun s t c hs ht hc => ?_⟩
  · unfold mtP
    by_cases q : s < 4 * P
    · rw [if_pos q, h1 s q]
      exact h.2.1 s q
    · rw [if_neg q, show s = 4 * P + (s - 4 * P) by omega, h2 _ (by omega)]
      rfl
  · unfold mtP at ht
    by_cases q : s < 4 * P
    · rw [if_pos q] at ht
      rw [h3]
      exact h.2.2 s t c q ht hc
    · rw [if_neg q] at ht
      cases ht
theorem glRow_190 (S : MS) (s t f g m : Nat) : ∀ n, (glRow S s t f g m n).2.1 190 = ((S.sa 190 s (nI t)).sa 190 t (nI s)).2.1 190
  | 0 => rfl
  | n + 1 => by rw [glRow_s, sa_row _ _ _ _ (by decide), sa_row _ _ _ _ (by decide), glRow_190 S s t f g m n]
theorem glRow_1 (S : MS) (s t f g m : Nat) : ∀ n, (glRow S s t f g m n).1 = S.1
  | 0 => rfl
  | n + 1 => glRow_1 S s t f g m n
theorem glRow_22 (S : MS) (s t f g m : Nat) : ∀ n, (glRow S s t f g m n).2.2 = S.2.2
  | 0 => rfl
  | n + 1 => glRow_22 S s t f g m n
theorem glRow_o (S : MS) (s t f g m : Nat) {k : Nat} (h0 : k ≠ 190) (h1 : k ≠ 191) : ∀ n, (glRow S s t f g m n).2.1 k = S.2.1 k
  | 0 => by
    show ((S.sa 190 s (nI t)).sa 190 t (nI s)).2.1 k = _
    rw [sa_row _ _ _ _ h0, sa_row _ _ _ _ h0]
  | n + 1 => by rw [glRow_s, sa_row _ _ _ _ h1, sa_row _ _ _ _ h1, glRow_o S s t f g m h0 h1 n]
theorem glRow_191 {S : MS} {s t f g m : Nat} (hst : s ≠ t) (hf : f < 4) (hg : g < 4) (hm : m < 64) (hk : gOk g m) : ∀ n, n ≤ 4 → (∀ x, x < n → (glRow S s t f g m n).2.1 191 (4 * s + x) = nI (gy f g m x) ∧ (glRow S s t f g m n).2.1 191 (4 * t + gy f g m x) = nI x) ∧ ∀ j, j / 4 ≠ s → j / 4 ≠ t → (glRow S s t f g m n).2.1 191 j = S.2.1 191 j
  | 0, _ => by
    refine ⟨fun x hx => by omega, fun j _ _ => ?_⟩
    show ((S.sa 190 s (nI t)).sa 190 t (nI s)).2.1 191 j = _
    rw [sa_row _ _ _ _ (by decide), sa_row _ _ _ _ (by decide)]
  | n + 1, hn => by
    obtain ⟨i1, i2⟩ := glRow_191 (S := S) hst hf hg hm hk n (by omega)
    have ln := gy_lt (f := f) (x := n) hg hm
    refine ⟨fun x hx => ?_, fun j j1 j2 => ?_⟩
    · have lx := gy_lt (f := f) (x := x) hg hm
      rw [glRow_s, sa_at, sa_at, sa_at, sa_at]
      by_cases e : x = n
      · subst e
        rw [if_neg (by omega), if_pos rfl, if_pos rfl]
        exact ⟨rfl, rfl⟩
      · have e2 : gy f g m x ≠ gy f g m n := fun q => e (gy_inj hf hk (by omega) (by omega) q)
        rw [if_neg (by omega), if_neg (by omega), if_neg (by omega), if_neg (by omega)]
        exact i1 x (by omega)
    · rw [glRow_s, sa_at, sa_at, if_neg (by omega), if_neg (by omega)]
      exact i2 j j1 j2
theorem go_split {go : Nat → Nat} {s t f g m : Nat} (hst : s ≠ t) (hf : f < 4) (hg : g < 4) (hm : m < 64) (hk : gOk g m) {F : Nat → Int32} (h1 : ∀ x, x < 4 → F (4 * s + x) = nI (gy f g m x) ∧ F (4 * t + gy f g m x) = nI x) {c : Nat} (hc : c < 4) : F (4 * s + c) = nI (goG go s t f g m (4 * s + c)) ∧ F (4 * t + c) = nI (goG go s t f g m (4 * t + c)) := by
  unfold goG
  rw [if_pos (by omega), if_neg (by omega), if_pos (by omega), show (4 * s + c) % 4 = c by omega, show (4 * t + c) % 4 = c by omega]
  refine ⟨(h1 c hc).1, ?_⟩
  have := (h1 (gin f g m c) (gin_lt _ _ _ _)).2
  rw [gy_gin hf hg hm hk hc] at this
  exact this
theorem mI_G {mt : Nat → Option Nat} {s t z : Nat} (hst : s ≠ t) {F : Nat → Int32} (h : z ≠ s → z ≠ t → F z = mI (mt z)) : (if z = t then nI s else if z = s then nI t else F z) = mI (mtG mt s t z) := by
  unfold mtG
  by_cases q1 : z = s
  · rw [if_neg (fun e => hst (q1.symm.trans e)), if_pos q1, if_pos q1]
    rfl
  · rw [if_neg q1, if_neg q1]
    by_cases q2 : z = t
    · rw [if_pos q2, if_pos q2]
      rfl
    · rw [if_neg q2, if_neg q2]
      exact h q1 q2
theorem RG.glue {S : MS} {P : Nat} {mt : Nat → Option Nat} {go : Nat → Nat} (h : RG S P mt go) {s t f g m : Nat} (hst : s ≠ t) (hf : f < 4) (hg : g < 4) (hm : m < 64) (hk : gOk g m) : RG (glRow S s t f g m 4) P (mtG mt s t) (goG go s t f g m) := by
  obtain ⟨i1, i2⟩ := glRow_191 (S := S) hst hf hg hm hk 4 (Nat.le_refl _)
  refine ⟨by rw [glRow_1]; exact h.1, fun z hz => ?_, fun z w c hz hw hc => ?_⟩
  · rw [glRow_190, sa_at, sa_at]
    exact mI_G hst (fun _ _ => h.2.1 z hz)
  · by_cases q1 : z = s
    · subst q1
      exact (go_split hst hf hg hm hk i1 hc).1
    · by_cases q2 : z = t
      · subst q2
        exact (go_split hst hf hg hm hk i1 hc).2
      · have e : goG go s t f g m (4 * z + c) = go (4 * z + c) := by
          unfold goG
          rw [if_neg (by omega), if_neg (by omega)]
        rw [i2 _ (by omega) (by omega), e]
        unfold mtG at hw
        rw [if_neg q1, if_neg q2] at hw
        exact h.2.2 z w c hz hw hc
theorem RG.opn {S : MS} {P : Nat} {mt : Nat → Option Nat} {go : Nat → Nat} (h : RG S P mt go) {s t : Nat} : RG ((S.sa 190 t (-1)).sa 190 s (-1)) P (mtO mt s t) go := by
  refine ⟨h.1, fun z hz => ?_, fun z w c hz hw hc => ?_⟩
  · rw [sa_at, sa_at]
    unfold mtO
    by_cases q1 : z = s
    · rw [if_pos q1, if_pos (Or.inl q1)]
      rfl
    · rw [if_neg q1]
      by_cases q2 : z = t
      · rw [if_pos q2, if_pos (Or.inr q2)]
        rfl
      · rw [if_neg q2, if_neg (fun q => q.elim q1 q2)]
        exact h.2.1 z hz
  · unfold mtO at hw
    by_cases q : z = s ∨ z = t
    · rw [if_pos q] at hw
      cases hw
    · rw [if_neg q] at hw
      rw [sa_row _ _ _ _ (by decide), sa_row _ _ _ _ (by decide)]
      exact h.2.2 z w c hz hw hc
/-! how many pairs -/
theorem prN_P {P : Nat} {mt : Nat → Option Nat} : ∀ n, n ≤ 4 * P → cnt (prN (mtP P mt)) n = cnt (prN mt) n := fun n hn => cnt_congr n (fun i hi => by
  unfold prN mtP
  rw [if_pos (by omega)])
theorem cnt_more {p : Nat → Bool} {n : Nat} : ∀ k, (∀ i, n ≤ i → i < n + k → ¬ p i = true) → cnt p (n + k) = cnt p n
  | 0, _ => rfl
  | k + 1, h => by
    rw [show n + (k + 1) = n + k + 1 by omega, cnt_f (h (n + k) (by omega) (by omega)), cnt_more k (fun i h1 h2 => h i h1 (by omega))]
    omega
theorem prN_piece {P : Nat} {mt : Nat → Option Nat} : cnt (prN (mtP P mt)) (4 * (P + 1)) = cnt (prN mt) (4 * P) := by
  rw [show 4 * (P + 1) = 4 * P + 4 by omega, cnt_more 4 (fun i h1 h2 => ?_), prN_P _ (Nat.le_refl _)]
  refine prN_n ?_
  unfold mtP
  rw [if_neg (by omega)]
theorem cnt_one {p q : Nat → Bool} {x n : Nat} (hx : x < n) (h1 : ∀ z, z ≠ x → q z = p z) (h2 : ¬ p x = true) (h3 : q x = true) : cnt q n = cnt p n + 1 := cnt_up n hx h1 (by simpa using h2) h3
theorem prN_glue {P : Nat} {mt : Nat → Option Nat} {s t : Nat} (hs : s < 4 * P) (ht : t < 4 * P) (hst : s ≠ t) (es : mt s = none) (et : mt t = none) : cnt (prN (mtG mt s t)) (4 * P) = cnt (prN mt) (4 * P) + 1 := by
  rcases Nat.lt_or_gt_of_ne hst with g | g
  · refine cnt_one hs (fun z hz => ?_) (prN_n es) ?_
    · by_cases q : z = t
      · subst q
        have a : ¬ prN mt z = true := prN_n et
        have b : ¬ prN (mtG mt s z) z = true := prN_g (t := s) (by unfold mtG; rw [if_neg (fun e => hst e.symm), if_pos rfl]) (by omega)
        rw [Bool.not_eq_true] at a b
        rw [a, b]
      · unfold prN mtG
        rw [if_neg hz, if_neg q]
    · exact prN_t (t := t) (by unfold mtG; rw [if_pos rfl]) g
  · refine cnt_one ht (fun z hz => ?_) (prN_n et) ?_
    · by_cases q : z = s
      · subst q
        have a : ¬ prN mt z = true := prN_n es
        have b : ¬ prN (mtG mt z t) z = true := prN_g (t := t) (by unfold mtG; rw [if_pos rfl]) (by omega)
        rw [Bool.not_eq_true] at a b
        rw [a, b]
      · unfold prN mtG
        rw [if_neg q, if_neg hz]
    · exact prN_t (t := s) (by unfold mtG; rw [if_neg (fun e => hst e.symm), if_pos rfl]) g
theorem mtO_G {P : Nat} {mt : Nat → Option Nat} {go : Nat → Nat} (h : GW P mt go) {s t : Nat} (hs : s < 4 * P) (e : mt s = some t) : mtG (mtO mt s t) s t = mt := by
  obtain ⟨g1, g2, g3, -⟩ := h.2 s hs t e
  funext z
  unfold mtG mtO
  by_cases q1 : z = s
  · rw [if_pos q1, q1, e]
  · rw [if_neg q1]
    by_cases q2 : z = t
    · rw [if_pos q2, q2, g3]
    · rw [if_neg q2, if_neg (fun q => q.elim q1 q2)]
theorem prN_open {P : Nat} {mt : Nat → Option Nat} {go : Nat → Nat} (h : GW P mt go) {s t : Nat} (hs : s < 4 * P) (e : mt s = some t) : cnt (prN mt) (4 * P) = cnt (prN (mtO mt s t)) (4 * P) + 1 := by
  obtain ⟨g1, g2, g3, -⟩ := h.2 s hs t e
  have := prN_glue (P := P) (mt := mtO mt s t) hs g1 (fun q => g2 q.symm) (by unfold mtO; rw [if_pos (Or.inl rfl)]) (by unfold mtO; rw [if_pos (Or.inr rfl)])
  rw [mtO_G h hs e] at this
  exact this
