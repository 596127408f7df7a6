/-! parts: what hangs together, and both sides -/
def cR (R : Nat → Nat → Prop) (x y : Nat) : Prop := ∀ C : Nat → Prop, C x → (∀ u v, R u v → (C u ↔ C v)) → C y
theorem cR.rf (R : Nat → Nat → Prop) (x : Nat) : cR R x x := fun _ h _ => h
theorem cR.symm {R : Nat → Nat → Prop} {x y : Nat} (h : cR R x y) : cR R y x := by
  intro C hy hC
  exact h (fun z => C z → C x) (fun h => h) (fun u v q => ⟨fun f g => f ((hC u v q).mpr g), fun f g => f ((hC u v q).mp g)⟩) hy
theorem cR.trans {R : Nat → Nat → Prop} {x y z : Nat} (h : cR R x y) (g : cR R y z) : cR R x z := fun C hx hC => g C (h C hx hC) hC
theorem cR.of {R : Nat → Nat → Prop} {x y : Nat} (h : R x y) : cR R x y := fun _ hx hC => (hC x y h).mp hx
theorem cR.mono {R R' : Nat → Nat → Prop} {x y : Nat} (hR : ∀ u v, R u v → cR R' u v) (h : cR R x y) : cR R' x y := h (fun z => cR R' x z) (cR.rf _ _) (fun u v q => ⟨fun g => g.trans (hR u v q), fun g => g.trans (hR u v q).symm⟩)
noncomputable def fstB (R : Nat → Nat → Prop) (x : Nat) : Bool := @decide (∀ y, y < x → ¬ cR R y x) (Classical.propDecidable _)
theorem fstB_iff {R : Nat → Nat → Prop} {x : Nat} : fstB R x = true ↔ ∀ y, y < x → ¬ cR R y x := by
  unfold fstB
  exact @decide_eq_true_iff _ (Classical.propDecidable _)
theorem fst_ex (R : Nat → Nat → Prop) : ∀ n y, y ≤ n → ∃ m, m ≤ y ∧ fstB R m = true ∧ cR R m y
  | n, y, h => by
    by_cases hf : ∀ z, z < y → ¬ cR R z y
    · exact ⟨y, Nat.le_refl _, fstB_iff.mpr hf, cR.rf _ _⟩
    · obtain ⟨z, hz⟩ := Classical.not_forall.mp hf
      have hz1 : z < y := Classical.byContradiction (fun g => hz (fun q => absurd q g))
      have hz2 : cR R z y := Classical.byContradiction (fun g => hz (fun _ => g))
      match n, h with
      | 0, h => omega
      | n + 1, h =>
        obtain ⟨m, h1, h2, h3⟩ := fst_ex R n z (by omega)
        exact ⟨m, by omega, h2, h3.trans hz2⟩
theorem fst_un {R : Nat → Nat → Prop} {m m' : Nat} (h : fstB R m = true) (h' : fstB R m' = true) (c : cR R m m') : m = m' := by
  have h1 := fstB_iff.mp h
  have h2 := fstB_iff.mp h'
  rcases Nat.lt_trichotomy m m' with g | g | g
  · exact absurd c (h2 m g)
  · exact g
  · exact absurd c.symm (h1 m' g)
def bN (b : Bool) : Nat := if b then 1 else 0
/-- the two looks of each member, joined as the members are told alike or unlike -/
def dR2 (L : Nat → Nat → Bool → Prop) (u v : Nat) : Prop := ∃ x y b, L x y b ∧ ((u = 2 * x ∧ v = 2 * y + bN b) ∨ (u = 2 * x + 1 ∧ v = 2 * y + (1 - bN b)))
def sR2 (L : Nat → Nat → Bool → Prop) (x y : Nat) : Prop := ∃ b, L x y b
/-- members of one group are told both alike and unlike -/
def Tws (L : Nat → Nat → Bool → Prop) (x : Nat) : Prop := cR (dR2 L) (2 * x) (2 * x + 1)
theorem dR2.half {L : Nat → Nat → Bool → Prop} {u v : Nat} (h : cR (dR2 L) u v) : cR (sR2 L) (u / 2) (v / 2) := by
  refine h (fun z => cR (sR2 L) (u / 2) (z / 2)) (cR.rf _ _) (fun a c q => ?_)
  obtain ⟨x, y, b, h1, h2⟩ := q
  have hb : bN b = 0 ∨ bN b = 1 := by unfold bN; split <;> omega
  have e1 : a / 2 = x := by omega
  have e2 : c / 2 = y := by omega
  rw [e1, e2]
  exact ⟨fun g => g.trans (cR.of ⟨b, h1⟩), fun g => g.trans (cR.of ⟨b, h1⟩).symm⟩
theorem dR2.flip {L : Nat → Nat → Bool → Prop} {u v : Nat} (h : cR (dR2 L) u v) : cR (dR2 L) (u + 1 - 2 * (u % 2)) (v + 1 - 2 * (v % 2)) := by
  refine h (fun z => cR (dR2 L) (u + 1 - 2 * (u % 2)) (z + 1 - 2 * (z % 2))) (cR.rf _ _) (fun a c q => ?_)
  have : cR (dR2 L) (a + 1 - 2 * (a % 2)) (c + 1 - 2 * (c % 2)) := by
    obtain ⟨x, y, b, h1, h2⟩ := q
    have hb : bN b = 0 ∨ bN b = 1 := by unfold bN; split <;> omega
    refine cR.of ⟨x, y, b, h1, ?_⟩
    omega
  exact ⟨fun g => g.trans this, fun g => g.trans this.symm⟩
/-- the twist does not depend on the member -/
theorem Tws.conn {L : Nat → Nat → Bool → Prop} {x y : Nat} (h : cR (sR2 L) x y) : Tws L x ↔ Tws L y := by
  have key : ∃ e, e < 2 ∧ cR (dR2 L) (2 * x) (2 * y + e) := by
    refine h (fun z => ∃ e, e < 2 ∧ cR (dR2 L) (2 * x) (2 * z + e)) ⟨0, by omega, cR.rf _ _⟩ (fun u v q => ?_)
    obtain ⟨b, hb⟩ := q
    have hbb : bN b = 0 ∨ bN b = 1 := by unfold bN; split <;> omega
    constructor
    · rintro ⟨e, h1, h2⟩
      rcases (show e = 0 ∨ e = 1 by omega) with rfl | rfl
      · exact ⟨bN b, by omega, h2.trans (cR.of ⟨u, v, b, hb, Or.inl ⟨rfl, rfl⟩⟩)⟩
      · exact ⟨1 - bN b, by omega, h2.trans (cR.of ⟨u, v, b, hb, Or.inr ⟨rfl, rfl⟩⟩)⟩
    · rintro ⟨e, h1, h2⟩
      by_cases e1 : e = bN b
      · exact ⟨0, by omega, h2.trans (cR.of ⟨u, v, b, hb, Or.inl ⟨rfl, by rw [e1]⟩⟩).symm⟩
      · exact ⟨1, by omega, h2.trans (cR.of ⟨u, v, b, hb, Or.inr ⟨rfl, by omega⟩⟩).symm⟩
  obtain ⟨e, h1, h2⟩ := key
  have h3 := dR2.flip h2
  rw [show 2 * x + 1 - 2 * (2 * x % 2) = 2 * x + 1 by omega] at h3
  rcases (show e = 0 ∨ e = 1 by omega) with rfl | rfl
  · rw [show 2 * y + 0 + 1 - 2 * ((2 * y + 0) % 2) = 2 * y + 1 by omega] at h3
    exact ⟨fun g => h2.symm.trans (g.trans h3), fun g => h2.trans (g.trans h3.symm)⟩
  · rw [show 2 * y + 1 + 1 - 2 * ((2 * y + 1) % 2) = 2 * y + 0 by omega] at h3
    exact ⟨fun g => h3.symm.trans (g.symm.trans h2), fun g => h2.trans (g.symm.trans h3.symm)⟩
/-- arcs go both ways -/
theorem Lk.symm {P : Nat} {mt : Nat → Option Nat} {go : Nat → Nat} {sh : Nat → Nat} (hG : GW P mt go) (hF : Fits P mt go sh) {x y : Nat} {b : Bool} (h : Lk P mt go sh x y b) : Lk P mt go sh y x b := by
  obtain ⟨s, c, i, t, h1, h2, h3, h4, h5, h6, h7, h8⟩ := h
  obtain ⟨g1, g2, g3, g4, g5⟩ := hG.2 s h1 t h2
  have hgl := hG.go_lt h1 h2 h3
  have hgn := hG.go_ne h1 h2 h3 h4
  have hfit : arcP sh (s / 4) (s % 4) c = arcP sh (t / 4) (t % 4) (go (4 * s + c)) := Classical.not_not.mp (fun q => hF s h1 c h3 ⟨t, h2, h4, q⟩)
  have hback := (g4 c h3).2
  refine ⟨t, go (4 * s + c), i, s, g1, g3, hgl, hgn, by rw [← hfit]; exact h5, h7, by rw [hback]; exact h6, ?_⟩
  rw [hback, h8]
  exact Bool.xor_comm _ _
theorem Lk.lt {P : Nat} {mt : Nat → Option Nat} {go : Nat → Nat} {sh : Nat → Nat} {x y : Nat} {b : Bool} (h : Lk P mt go sh x y b) : x < fsum sh (7 * P) := by
  obtain ⟨s, c, i, t, h1, h2, h3, h4, h5, h6, -⟩ := h
  rw [h6]
  exact cutN_lt h1 h3 h4 h5
/-! the search through one part -/
def qKeep (S T : MS) : Prop := (∀ k, k ≠ 204 → k ≠ 205 → k ≠ 206 → k ≠ 207 → T.2.1 k = S.2.1 k) ∧ T.2.2 = S.2.2 ∧ (∀ i j, ¬ (i = 189 ∧ j = 24) → T.1 i j = S.1 i j)
theorem qKeep.rf (S : MS) : qKeep S S := ⟨fun _ _ _ _ _ => rfl, rfl, fun _ _ _ => rfl⟩
theorem qKeep.trans {S T U : MS} (h : qKeep S T) (g : qKeep T U) : qKeep S U := ⟨fun k a b c d => (g.1 k a b c d).trans (h.1 k a b c d), g.2.1.trans h.2.1, fun i j a => (g.2.2 i j a).trans (h.2.2 i j a)⟩
theorem pKeep.q {S T : MS} (h : pKeep S T) : qKeep S T := ⟨fun k a b c _ => h.1 k a b c, h.2.1, h.2.2⟩
theorem qKeep.sa {S T : MS} (h : qKeep S T) {A : Nat} (hA : A = 204 ∨ A = 205 ∨ A = 206 ∨ A = 207) (i : Nat) (x : Int32) : qKeep S (T.sa A i x) := by
  refine ⟨fun k a b c d => ?_, h.2.1, h.2.2⟩
  rw [sa_row _ _ _ _ (by omega)]
  exact h.1 k a b c d
theorem qKeep.sf {S T : MS} (h : qKeep S T) (x : Int32) : qKeep S (T.sf 189 24 x) := by
  refine ⟨h.1, h.2.1, fun i k a => ?_⟩
  rw [sf_at, if_neg a]
  exact h.2.2 i k a
theorem RG.qkeep {S T : MS} {P : Nat} {mt : Nat → Option Nat} {go : Nat → Nat} (h : RG S P mt go) (k : qKeep S T) : RG T P mt go := by
  refine ⟨(k.2.2 189 0 (by omega)).trans h.1, fun s hs => ?_, fun s t c hs ht hc => ?_⟩
  · rw [k.1 190 (by decide) (by decide) (by decide) (by decide)]
    exact h.2.1 s hs
  · rw [k.1 191 (by decide) (by decide) (by decide) (by decide)]
    exact h.2.2 s t c hs ht hc
theorem sv_qkeep {S T : MS} (k : qKeep S T) : sv T = sv S := by
  funext i
  unfold sv
  rw [k.1 192 (by decide) (by decide) (by decide) (by decide)]
theorem SHN.qkeep {S T : MS} (h : SHN S) (k : qKeep S T) : SHN T := by
  intro i hi
  rw [sv_qkeep k, k.1 192 (by decide) (by decide) (by decide) (by decide)]
  exact h i hi
theorem CF.qkeep {S T : MS} {P : Nat} {sh : Nat → Nat} (h : CF S P sh) (k : qKeep S T) : CF T P sh := by
  intro i hi
  rw [k.1 203 (by decide) (by decide) (by decide) (by decide)]
  exact h i hi
/-- while the part of cut k is gone through: V is the memory before it, U that now -/
def BI (L : Nat → Nat → Bool → Prop) (N k q : Nat) (V U : MS) (at_ many : Nat) : Prop :=
  qKeep V U ∧ U.2.1 207 = V.2.1 207 ∧ at_ ≤ many ∧ 1 ≤ many ∧
  (∀ y, y < N → VS V y → VS U y ∧ U.2.1 204 y = V.2.1 204 y) ∧
  (∀ j, j < many → ∃ y, y < N ∧ U.2.1 206 j = nI y ∧ ¬ VS V y ∧ VS U y ∧ U.2.1 204 y = nI q ∧ ((U.2.1 205 y = 1 ∧ cR (dR2 L) (2 * k) (2 * y)) ∨ (U.2.1 205 y = -1 ∧ cR (dR2 L) (2 * k) (2 * y + 1)))) ∧
  (∀ y, y < N → VS U y → VS V y ∨ ∃ j, j < many ∧ U.2.1 206 j = nI y) ∧
  (∀ j, j < at_ → ∀ y, U.2.1 206 j = nI y → y < N → ∀ z b, L y z b → VS U z ∧ (U.2.1 205 z = sgn b (U.2.1 205 y) ∨ U.1 189 24 = 1)) ∧
  cnt (vb U) N = cnt (vb V) N + many ∧ (U.1 189 24 = 0 ∨ U.1 189 24 = 1) ∧ (U.1 189 24 = 1 → cR (dR2 L) (2 * k) (2 * k + 1)) ∧ U.2.1 206 0 = nI k ∧ U.2.1 205 k = 1
theorem sgn_step {L : Nat → Nat → Bool → Prop} {k x y : Nat} {b : Bool} {s : Int32} (h : L x y b) (hs : (s = 1 ∧ cR (dR2 L) (2 * k) (2 * x)) ∨ (s = -1 ∧ cR (dR2 L) (2 * k) (2 * x + 1))) : (sgn b s = 1 ∧ cR (dR2 L) (2 * k) (2 * y)) ∨ (sgn b s = -1 ∧ cR (dR2 L) (2 * k) (2 * y + 1)) := by
  have e1 : cR (dR2 L) (2 * x) (2 * y + bN b) := cR.of ⟨x, y, b, h, Or.inl ⟨rfl, rfl⟩⟩
  have e2 : cR (dR2 L) (2 * x + 1) (2 * y + (1 - bN b)) := cR.of ⟨x, y, b, h, Or.inr ⟨rfl, rfl⟩⟩
  cases b
  · rcases hs with ⟨rfl, g⟩ | ⟨rfl, g⟩
    · exact Or.inl ⟨rfl, g.trans e1⟩
    · exact Or.inr ⟨rfl, g.trans e2⟩
  · rcases hs with ⟨rfl, g⟩ | ⟨rfl, g⟩
    · exact Or.inr ⟨rfl, g.trans e1⟩
    · exact Or.inl ⟨rfl, g.trans e2⟩
theorem sgn_ne {L : Nat → Nat → Bool → Prop} {k y : Nat} {s s' : Int32} (hs : (s = 1 ∧ cR (dR2 L) (2 * k) (2 * y)) ∨ (s = -1 ∧ cR (dR2 L) (2 * k) (2 * y + 1))) (hs' : (s' = 1 ∧ cR (dR2 L) (2 * k) (2 * y)) ∨ (s' = -1 ∧ cR (dR2 L) (2 * k) (2 * y + 1))) (hne : ¬ s = s') : cR (dR2 L) (2 * k) (2 * k + 1) := by
  have key : cR (dR2 L) (2 * k) (2 * y) → cR (dR2 L) (2 * k) (2 * y + 1) → cR (dR2 L) (2 * k) (2 * k + 1) := by
    intro a b
    have f := dR2.flip b
    rw [show 2 * k + 1 - 2 * (2 * k % 2) = 2 * k + 1 by omega, show 2 * y + 1 + 1 - 2 * ((2 * y + 1) % 2) = 2 * y by omega] at f
    exact a.trans f.symm
  rcases hs with ⟨rfl, g⟩ | ⟨rfl, g⟩ <;> rcases hs' with ⟨rfl, g'⟩ | ⟨rfl, g'⟩
  · exact absurd rfl hne
  · exact key g g'
  · exact key g' g
  · exact absurd rfl hne
