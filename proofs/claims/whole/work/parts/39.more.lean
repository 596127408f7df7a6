/-! more rules: a loop with an invariant, the switch -/
section AL2
variable {X : am_X} {mi : Nat} {Q : am_R → Prop}
theorem aw_fromI {z : am_Z} (Z : Nat → am_Z) (I : Nat → Prop) (i0 n : Nat) (hi : i0 ≤ n) (h0 : z = Z i0) (hI : I i0) (hs : ∀ i, i0 ≤ i → i < n → I i → (I (i + 1) → AW X mi (Z (i + 1)) Q) → AW X mi (Z i) Q) (hx : I n → AW X mi (Z n) Q) : AW X mi z Q := by
  rw [h0]
  have h : ∀ d, d ≤ n - i0 → I (n - d) → AW X mi (Z (n - d)) Q := by
    intro d
    induction d with
    | zero => intro _ h; exact hx h
    | succ d ih =>
      intro hd h
      have e : n - d = n - (d + 1) + 1 := by omega
      refine hs _ (by omega) (by omega) h (fun h2 => ?_)
      have h3 := ih (by omega)
      rw [e] at h3
      exact h3 h2
  have h2 := h (n - i0) (by omega)
  rw [show n - (n - i0) = i0 by omega] at h2
  exact h2 hI
/-- a loop while something holds: rounds up to where it ends -/
theorem aw_stop {z : am_Z} (Z : Nat → am_Z) (n : Nat) (h0 : z = Z 0) (hs : ∀ i, i < n → AW X mi (Z (i + 1)) Q → AW X mi (Z i) Q) (hx : AW X mi (Z n) Q) : AW X mi z Q := aw_for Z n h0 hs hx
end AL2
section AR2
variable {X : am_X} {mi : Nat} {pc : Nat} {L : am_L} {st : List Value} {n : Nat} {h : am_H} {k j : Nat} {Q : am_R → Prop} {S : MS}
theorem as_tsw {d lo hi o : Int} {offs : Array Int} {len : Nat} {x : Int32} (t : Nat) (hd : decode (am_code mi) pc = .ok (.tableswitch d lo hi offs, len)) (ho : (if x.toInt < lo ∨ hi < x.toInt then some d else offs[(x.toInt - lo).toNat]?) = some o) (ht : (t : Int) = pc + o) (kk : AW X mi (t, L, st, n, h, k, j) Q) : AW X mi (pc, L, .int x :: st, n, h, k, j) Q := by
  refine AW.step (fun call => ?_) kk
  have h1 : (0 : Int) ≤ pc + o := by omega
  have h2 : ((pc : Int) + o).toNat = t := by omega
  by_cases hc : x.toInt < lo ∨ hi < x.toInt
  · rw [if_pos hc] at ho
    cases ho
    simp [am_step, hd, am_len, am_ex, am_jmp, am_go, hc, h1, h2]
  · rw [if_neg hc] at ho
    simp [am_step, hd, am_len, am_ex, am_jmp, am_go, hc, ho, h1, h2]
end AR2
/-! numbers -/
theorem nI_cases {x : Int32} (n : Nat) (hn : n < 2 ^ 31) : (∃ j, j < n ∧ x = nI j) ∨ ¬ (0 ≤ x ∧ x < nI n) := by
  by_cases h : 0 ≤ x ∧ x < nI n
  · exact Or.inl (nat_of hn h)
  · exact Or.inr h
/-- a row of a sheet: arcs -/
def arcP (sh : Nat → Nat) (p f c : Nat) : Nat := sh (7 * p + c) + sh (7 * p + 4 + kO c f)
theorem arcN_P (S : MS) (p f c : Nat) : arcN S p f c = arcP (sv S) p f c := rfl
/-- a side's corner at which the arcs do not fit -/
def misf (mt : Nat → Option Nat) (go : Nat → Nat) (sh : Nat → Nat) (s c : Nat) : Prop := ∃ t, mt s = some t ∧ c ≠ s % 4 ∧ arcP sh (s / 4) (s % 4) c ≠ arcP sh (t / 4) (t % 4) (go (4 * s + c))
def Fits (P : Nat) (mt : Nat → Option Nat) (go : Nat → Nat) (sh : Nat → Nat) : Prop := ∀ s, s < 4 * P → ∀ c, c < 4 → ¬ misf mt go sh s c
theorem arcP_le {sh : Nat → Nat} (h : ∀ i, i < 21 → sh i ≤ 1000) {p f c : Nat} (hp : p < 3) (hf : f < 4) (hc : c < 4) (hcf : c ≠ f) : arcP sh p f c ≤ 2000 := by
  unfold arcP
  have h1 := h (7 * p + c) (by omega)
  have h2 := h (7 * p + 4 + kO c f) (by have := kO_lt hc hf hcf; omega)
  omega
/-- of a gluing: where a corner goes -/
theorem GW.go_lt {P : Nat} {mt : Nat → Option Nat} {go : Nat → Nat} (h : GW P mt go) {s t c : Nat} (hs : s < 4 * P) (ht : mt s = some t) (hc : c < 4) : go (4 * s + c) < 4 := ((h.2 s hs t ht).2.2.2.1 c hc).1
theorem GW.mate_lt {P : Nat} {mt : Nat → Option Nat} {go : Nat → Nat} (h : GW P mt go) {s t : Nat} (hs : s < 4 * P) (ht : mt s = some t) : t < 4 * P := (h.2 s hs t ht).1
theorem GW.go_ne {P : Nat} {mt : Nat → Option Nat} {go : Nat → Nat} (h : GW P mt go) {s t c : Nat} (hs : s < 4 * P) (ht : mt s = some t) (hc : c < 4) (hcs : c ≠ s % 4) : go (4 * s + c) ≠ t % 4 := by
  intro e
  have h5 := (h.2 s hs t ht).2.2.2.2
  exact hcs (h.inj hs ht hc (by omega) (e.trans h5.symm))
theorem mt_lt {P : Nat} {mt : Nat → Option Nat} {go : Nat → Nat} (h : GW P mt go) {s t : Nat} (hs : s < 4 * P) (ht : mt s = some t) : t < 4 * P ∧ t < 12 := ⟨h.mate_lt hs ht, by have := h.mate_lt hs ht; have := h.1; omega⟩
theorem nI_ne1 {t : Nat} (h : t < 2 ^ 31) : ¬ nI t = -1 := by
  intro e
  have := congrArg Int32.toInt e
  have h2 := nI_pos' h
  rw [e] at h2
  exact absurd h2 (by decide)
theorem mc_arcsP (X : am_X) (S : MS) (p f c : Nat) (hp : p < 3) (hf : f < 4) (hc : c < 4) (hcf : c ≠ f) (hS : SHN S) : MC X 166 [.ref (189), .int (nI (p)), .int (nI (f)), .int (nI (c))] S (some (.int (nI (arcP (sv S) p f c)))) S := mc_arcs X S p f c hp hf hc hcf hS
theorem nI_le0 {n : Nat} (h : n < 2 ^ 31) (c : nI n ≤ 0) : n = 0 := by
  have := (nI_leI h (b := 0) (by decide)).mp (by rw [nI_0]; exact c)
  omega
