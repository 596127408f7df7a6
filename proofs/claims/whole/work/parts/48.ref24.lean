/-! the reference: spread -/
def lkB (sh : Nat → Nat) (s c i : Nat) : Bool := decide (i < sh (7 * (s / 4) + c) ∨ c = 0 ∨ s % 4 = 0)
/-- an arc: two cuts that have it in common, and whether they are told unlike -/
def LkA (P : Nat) (mt : Nat → Option Nat) (go : Nat → Nat) (sh : Nat → Nat) (s c i x y : Nat) (b : Bool) : Prop := ∃ t, s < 4 * P ∧ mt s = some t ∧ c < 4 ∧ c ≠ s % 4 ∧ i < arcP sh (s / 4) (s % 4) c ∧ x = cutN sh s c i ∧ y = cutN sh t (go (4 * s + c)) i ∧ b = (lkB sh s c i != lkB sh t (go (4 * s + c)) i)
def Lk (P : Nat) (mt : Nat → Option Nat) (go : Nat → Nat) (sh : Nat → Nat) (x y : Nat) (b : Bool) : Prop := ∃ s c i, LkA P mt go sh s c i x y b
def sgn (b : Bool) (z : Int32) : Int32 := if b then -z else z
theorem fsum_step (f : Nat → Nat) {a b : Nat} (h : a < b) : fsum f a + f a ≤ fsum f b := by
  have := fsum_mono f (show a + 1 ≤ b by omega)
  rw [fsum_s] at this
  exact this
theorem cutN_rg {sh : Nat → Nat} {s c i : Nat} (hc : c < 4) (hcs : c ≠ s % 4) (hi : i < arcP sh (s / 4) (s % 4) c) : fsum sh (7 * (s / 4)) ≤ cutN sh s c i ∧ cutN sh s c i < fsum sh (7 * (s / 4) + 7) := by
  have hk := kO_lt hc (show s % 4 < 4 by omega) hcs
  unfold arcP at hi
  unfold cutN
  split
  · have h1 := fsum_mono sh (show 7 * (s / 4) ≤ 7 * (s / 4) + c by omega)
    have h2 := fsum_step sh (show 7 * (s / 4) + c < 7 * (s / 4) + 7 by omega)
    omega
  · have h1 := fsum_mono sh (show 7 * (s / 4) ≤ 7 * (s / 4) + 4 + kO c (s % 4) by omega)
    have h2 := fsum_step sh (show 7 * (s / 4) + 4 + kO c (s % 4) < 7 * (s / 4) + 7 by omega)
    split <;> omega
theorem cutN_lt {P : Nat} {sh : Nat → Nat} {s c i : Nat} (hs : s < 4 * P) (hc : c < 4) (hcs : c ≠ s % 4) (hi : i < arcP sh (s / 4) (s % 4) c) : cutN sh s c i < fsum sh (7 * P) := by
  have h1 := (cutN_rg hc hcs hi).2
  have h2 := fsum_mono sh (show 7 * (s / 4) + 7 ≤ 7 * P by omega)
  omega
/-- the kind of a cut -/
theorem srt_ex {sh : Nat → Nat} : ∀ n x, x < fsum sh n → ∃ k, k < n ∧ fsum sh k ≤ x ∧ x < fsum sh (k + 1)
  | 0, x, h => by cases h
  | n + 1, x, h => by
    by_cases g : x < fsum sh n
    · obtain ⟨k, h1, h2, h3⟩ := srt_ex n x g
      exact ⟨k, by omega, h2, h3⟩
    · exact ⟨n, by omega, by omega, h⟩
theorem fsum_lt_iff {sh : Nat → Nat} {a b x : Nat} (h1 : fsum sh a ≤ x) (h2 : x < fsum sh b) : a < b := by
  by_cases h : a < b
  · exact h
  · have := fsum_mono sh (show b ≤ a by omega)
    omega
/-- a cut's piece is that of the sides at which it has arcs -/
theorem cut_piece {sh : Nat → Nat} {s c i k : Nat} (hc : c < 4) (hcs : c ≠ s % 4) (hi : i < arcP sh (s / 4) (s % 4) c) (h1 : fsum sh k ≤ cutN sh s c i) (h2 : cutN sh s c i < fsum sh (k + 1)) : s / 4 = k / 7 := by
  obtain ⟨g1, g2⟩ := cutN_rg hc hcs hi
  have a1 := fsum_lt_iff h1 g2
  have a2 := fsum_lt_iff g1 h2
  omega
def VS (T : MS) (y : Nat) : Prop := ¬ T.2.1 204 y = -1
def vb (T : MS) (y : Nat) : Bool := decide (¬ T.2.1 204 y = -1)
def pKeep (S T : MS) : Prop := (∀ k, k ≠ 204 → k ≠ 205 → k ≠ 206 → T.2.1 k = S.2.1 k) ∧ T.2.2 = S.2.2 ∧ (∀ i j, ¬ (i = 189 ∧ j = 24) → T.1 i j = S.1 i j)
theorem pKeep.rf (S : MS) : pKeep S S := ⟨fun _ _ _ _ => rfl, rfl, fun _ _ _ => rfl⟩
theorem pKeep.trans {S T U : MS} (h : pKeep S T) (g : pKeep T U) : pKeep S U := ⟨fun k a b c => (g.1 k a b c).trans (h.1 k a b c), g.2.1.trans h.2.1, fun i j a => (g.2.2 i j a).trans (h.2.2 i j a)⟩
theorem pKeep.sa {S T : MS} (h : pKeep S T) {A : Nat} (hA : A = 204 ∨ A = 205 ∨ A = 206) (i : Nat) (x : Int32) : pKeep S (T.sa A i x) := by
  refine ⟨fun k a b c => ?_, h.2.1, h.2.2⟩
  rw [sa_row _ _ _ _ (by omega)]
  exact h.1 k a b c
theorem pKeep.sf {S T : MS} (h : pKeep S T) (x : Int32) : pKeep S (T.sf 189 24 x) := by
  refine ⟨h.1, h.2.1, fun i k a => ?_⟩
  rw [sf_at, if_neg a]
  exact h.2.2 i k a
theorem RG.pkeep {S T : MS} {P : Nat} {mt : Nat → Option Nat} {go : Nat → Nat} (h : RG S P mt go) (k : pKeep S T) : RG T P mt go := by
  refine ⟨(k.2.2 189 0 (by omega)).trans h.1, fun s hs => ?_, fun s t c hs ht hc => ?_⟩
  · rw [k.1 190 (by decide) (by decide) (by decide)]
    exact h.2.1 s hs
  · rw [k.1 191 (by decide) (by decide) (by decide)]
    exact h.2.2 s t c hs ht hc
theorem sv_pkeep {S T : MS} (k : pKeep S T) : sv T = sv S := by
  funext i
  unfold sv
  rw [k.1 192 (by decide) (by decide) (by decide)]
theorem SHN.pkeep {S T : MS} (h : SHN S) (k : pKeep S T) : SHN T := by
  intro i hi
  rw [sv_pkeep k, k.1 192 (by decide) (by decide) (by decide)]
  exact h i hi
theorem CF.pkeep {S T : MS} {P : Nat} {sh : Nat → Nat} (h : CF S P sh) (k : pKeep S T) : CF T P sh := by
  intro i hi
  rw [k.1 203 (by decide) (by decide) (by decide)]
  exact h i hi
theorem vb_iff {T : MS} {y : Nat} : vb T y = true ↔ VS T y := by
  unfold vb
  rw [decide_eq_true_iff]
  exact Iff.rfl
/-- what has been done of the links at a cut -/
def SP (S T : MS) (N cut size many : Nat) (Dn : Nat → Bool → Prop) : Prop :=
  pKeep S T ∧ size ≤ many ∧ (∀ y, y < N → VS S y → VS T y ∧ T.2.1 204 y = S.2.1 204 y ∧ T.2.1 205 y = S.2.1 205 y) ∧ (∀ j, j < size → T.2.1 206 j = S.2.1 206 j) ∧
  (∀ y, y < N → VS T y → VS S y ∨ ∃ j, size ≤ j ∧ j < many ∧ T.2.1 206 j = nI y) ∧
  (∀ j, size ≤ j → j < many → ∃ y, y < N ∧ T.2.1 206 j = nI y ∧ ¬ VS S y ∧ VS T y ∧ T.2.1 204 y = S.2.1 204 cut ∧ ∃ b, Dn y b ∧ T.2.1 205 y = sgn b (S.2.1 205 cut)) ∧
  cnt (vb T) N + size = cnt (vb S) N + many ∧
  (∀ y b, Dn y b → y < N ∧ VS T y ∧ (T.2.1 205 y = sgn b (S.2.1 205 cut) ∨ T.1 189 24 = 1)) ∧
  (T.1 189 24 = 0 ∨ T.1 189 24 = 1) ∧ (S.1 189 24 = 1 → T.1 189 24 = 1) ∧
  (T.1 189 24 = 1 → S.1 189 24 = 1 ∨ ∃ y b, Dn y b ∧ ¬ T.2.1 205 y = sgn b (S.2.1 205 cut))
theorem SP.start {S : MS} {N cut size : Nat} (h : S.1 189 24 = 0 ∨ S.1 189 24 = 1) {Dn : Nat → Bool → Prop} (hD : ∀ y b, ¬ Dn y b) : SP S S N cut size size Dn :=
  ⟨pKeep.rf S, Nat.le_refl _, fun y _ h => ⟨h, rfl, rfl⟩, fun _ _ => rfl, fun y _ h => Or.inl h, fun j h1 h2 => by omega, rfl, fun y b h => absurd h (hD y b), h, fun h => h, fun h => Or.inl h⟩
theorem SP.mono {S T : MS} {N cut size many : Nat} {Dn Dm : Nat → Bool → Prop} (h : SP S T N cut size many Dn) (hD : ∀ y b, Dn y b ↔ Dm y b) : SP S T N cut size many Dm := by
  have e : Dn = Dm := funext fun y => funext fun b => propext (hD y b)
  rw [← e]
  exact h
theorem cnt_up {p q : Nat → Bool} {y : Nat} : ∀ n, y < n → (∀ z, z ≠ y → q z = p z) → p y = false → q y = true → cnt q n = cnt p n + 1
  | 0, h, _, _, _ => by omega
  | n + 1, h, h1, h2, h3 => by
    unfold cnt
    by_cases e : y = n
    · subst e
      rw [h2, h3, cnt_congr y (fun i hi => h1 i (by omega))]
      simp
    · rw [cnt_up n (by omega) h1 h2 h3, h1 n (by omega)]
      omega
/-- a cut that is new -/
theorem SP.fresh {S T : MS} {N cut size many : Nat} {Dn : Nat → Bool → Prop} (h : SP S T N cut size many Dn) (hc : cut < N) (hcv : VS S cut) {y : Nat} {b : Bool} (hy : y < N) (hn : T.2.1 204 y = -1) : SP S (((T.sa 204 y (T.2.1 204 cut)).sa 205 y (sgn b (S.2.1 205 cut))).sa 206 many (nI y)) N cut size (many + 1) (fun z d => Dn z d ∨ (z = y ∧ d = b)) := by
  obtain ⟨a1, a2, a3, a4, a5, a6, a7, a8, a9, a10, a11⟩ := h
  have hcc := a3 cut hc hcv
  have hT4 : ∀ z, (((T.sa 204 y (T.2.1 204 cut)).sa 205 y (sgn b (S.2.1 205 cut))).sa 206 many (nI y)).2.1 204 z = if z = y then S.2.1 204 cut else T.2.1 204 z := by
    intro z
    rw [sa_row _ _ _ _ (by decide), sa_row _ _ _ _ (by decide), sa_at, hcc.2.1]
  have hT5 : ∀ z, (((T.sa 204 y (T.2.1 204 cut)).sa 205 y (sgn b (S.2.1 205 cut))).sa 206 many (nI y)).2.1 205 z = if z = y then sgn b (S.2.1 205 cut) else T.2.1 205 z := by
    intro z
    rw [sa_row _ _ _ _ (by decide), sa_at, sa_row _ _ _ _ (by decide)]
  have hT6 : ∀ z, (((T.sa 204 y (T.2.1 204 cut)).sa 205 y (sgn b (S.2.1 205 cut))).sa 206 many (nI y)).2.1 206 z = if z = many then nI y else T.2.1 206 z := by
    intro z
    rw [sa_at, sa_row _ _ _ _ (by decide), sa_row _ _ _ _ (by decide)]
  have hyv : ¬ VS S y := fun g => (a3 y hy g).1 hn
  have hV : ∀ z, VS (((T.sa 204 y (T.2.1 204 cut)).sa 205 y (sgn b (S.2.1 205 cut))).sa 206 many (nI y)) z ↔ z = y ∨ VS T z := by
    intro z
    unfold VS
    rw [hT4]
    by_cases e : z = y
    · rw [if_pos e]
      exact ⟨fun _ => Or.inl e, fun _ => hcv⟩
    · rw [if_neg e]
      exact ⟨fun g => Or.inr g, fun g => g.resolve_left e⟩
  refine ⟨((a1.sa (by omega) _ _).sa (by omega) _ _).sa (by omega) _ _, by omega, fun z hz hzv => ?_, fun j hj => ?_, fun z hz hzv => ?_, fun j h1 h2 => ?_, ?_, fun z d hd => ?_, a9, a10, fun g => ?_⟩
  · have hzy : z ≠ y := fun e => hyv (e ▸ hzv)
    rw [hV, hT4, hT5, if_neg hzy, if_neg hzy]
    exact ⟨Or.inr (a3 z hz hzv).1, (a3 z hz hzv).2⟩
  · rw [hT6, if_neg (by omega)]
    exact a4 j hj
  · rcases (hV z).mp hzv with e | g
    · exact Or.inr ⟨many, a2, by omega, by rw [hT6, if_pos rfl, e]⟩
    · rcases a5 z hz g with g | ⟨j, g1, g2, g3⟩
      · exact Or.inl g
      · exact Or.inr ⟨j, g1, by omega, by rw [hT6, if_neg (by omega)]; exact g3⟩
  · by_cases e : j = many
    · subst e
      exact ⟨y, hy, by rw [hT6, if_pos rfl], hyv, (hV y).mpr (Or.inl rfl), by rw [hT4, if_pos rfl], b, Or.inr ⟨rfl, rfl⟩, by rw [hT5, if_pos rfl]⟩
    · obtain ⟨z, g1, g2, g3, g4, g5, d, g6, g7⟩ := a6 j h1 (by omega)
      have hzy : z ≠ y := fun e => (e ▸ g4 : VS T y) hn
      exact ⟨z, g1, by rw [hT6, if_neg e]; exact g2, g3, (hV z).mpr (Or.inr g4), by rw [hT4, if_neg hzy]; exact g5, d, Or.inl g6, by rw [hT5, if_neg hzy]; exact g7⟩
  · have q := cnt_up (p := vb T) (q := vb (((T.sa 204 y (T.2.1 204 cut)).sa 205 y (sgn b (S.2.1 205 cut))).sa 206 many (nI y))) N hy (fun z hz => by
      unfold vb
      rw [hT4, if_neg hz]) (by
      unfold vb
      rw [hn]
      rfl) (vb_iff.mpr ((hV y).mpr (Or.inl rfl)))
    omega
  · rw [hV, hT5]
    rcases hd with hd | ⟨e1, e2⟩
    · obtain ⟨g1, g2, g3⟩ := a8 z d hd
      have hzy : z ≠ y := fun e => (e ▸ g2 : VS T y) hn
      rw [if_neg hzy]
      exact ⟨g1, Or.inr g2, g3⟩
    · rw [if_pos e1, e2]
      exact ⟨e1 ▸ hy, Or.inl e1, Or.inl rfl⟩
  · rcases a11 g with g | ⟨z, d, g1, g2⟩
    · exact Or.inl g
    · have hzy : z ≠ y := fun e => (e ▸ (a8 z d g1).2.1 : VS T y) hn
      exact Or.inr ⟨z, d, Or.inl g1, by rw [hT5, if_neg hzy]; exact g2⟩
/-- a cut that has been met -/
theorem SP.met {S T : MS} {N cut size many : Nat} {Dn : Nat → Bool → Prop} (h : SP S T N cut size many Dn) {y : Nat} {b : Bool} (hy : y < N) (hv : VS T y) {x : Int32} (hx : (x = 1 ∧ (T.1 189 24 = 1 ∨ ¬ T.2.1 205 y = sgn b (S.2.1 205 cut))) ∨ (x = 0 ∧ T.1 189 24 = 0 ∧ T.2.1 205 y = sgn b (S.2.1 205 cut))) : SP S (T.sf 189 24 x) N cut size many (fun z d => Dn z d ∨ (z = y ∧ d = b)) := by
  obtain ⟨a1, a2, a3, a4, a5, a6, a7, a8, a9, a10, a11⟩ := h
  have hf : (T.sf 189 24 x).1 189 24 = x := by rw [sf_at, if_pos ⟨rfl, rfl⟩]
  refine ⟨a1.sf x, a2, a3, a4, a5, fun j h1 h2 => ?_, a7, fun z d hd => ?_, ?_, fun g => ?_, fun g => ?_⟩
  · obtain ⟨z, g1, g2, g3, g4, g5, d, g6, g7⟩ := a6 j h1 h2
    exact ⟨z, g1, g2, g3, g4, g5, d, Or.inl g6, g7⟩
  · rw [hf]
    rcases hd with hd | ⟨e1, e2⟩
    · obtain ⟨g1, g2, g3⟩ := a8 z d hd
      refine ⟨g1, g2, ?_⟩
      rcases g3 with g3 | g3
      · exact Or.inl g3
      · rcases hx with ⟨hx, -⟩ | ⟨-, hx, -⟩
        · exact Or.inr hx
        · rw [hx] at g3
          cases g3
    · subst e1 e2
      refine ⟨hy, hv, ?_⟩
      rcases hx with ⟨hx, -⟩ | ⟨-, -, hx⟩
      · exact Or.inr hx
      · exact Or.inl hx
  · rw [hf]
    rcases hx with ⟨hx, -⟩ | ⟨hx, -⟩
    · exact Or.inr hx
    · exact Or.inl hx
  · rw [hf]
    rcases hx with ⟨hx, -⟩ | ⟨-, hx, -⟩
    · exact hx
    · rw [a10 g] at hx
      cases hx
  · rw [hf] at g
    rcases hx with ⟨-, hx⟩ | ⟨hx, -⟩
    · rcases hx with hx | hx
      · rcases a11 hx with g | ⟨z, d, g1, g2⟩
        · exact Or.inl g
        · exact Or.inr ⟨z, d, Or.inl g1, g2⟩
      · exact Or.inr ⟨y, b, Or.inr ⟨rfl, rfl⟩, hx⟩
    · rw [hx] at g
      cases g
