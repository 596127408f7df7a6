/-! every search has few rows and small numbers -/
theorem good_nil : Good [] := by
  have := good0 0 (by decide)
  exact this
def pmc (go : Nat → Nat) (s : Nat) : Nat := go (4 * s) + 4 * go (4 * s + 1) + 16 * go (4 * s + 2) + 64 * go (4 * s + 3)
def pmB (a b c d : Nat) : Bool := decide ((a ≠ b ∧ a ≠ c ∧ a ≠ d ∧ b ≠ c ∧ b ≠ d ∧ c ≠ d) → (a + 4 * b + 16 * c + 64 * d) ∈ pms ∧ dg (a + 4 * b + 16 * c + 64 * d) 0 = a ∧ dg (a + 4 * b + 16 * c + 64 * d) 1 = b ∧ dg (a + 4 * b + 16 * c + 64 * d) 2 = c ∧ dg (a + 4 * b + 16 * c + 64 * d) 3 = d)
theorem pmB_all : ∀ a, a < 4 → ∀ b, b < 4 → ∀ c, c < 4 → ∀ d, d < 4 → pmB a b c d = true := by decide +kernel
theorem pmc_fin (a : Nat) (ha : a < 4) (b : Nat) (hb : b < 4) (c : Nat) (hc : c < 4) (d : Nat) (hd : d < 4) : (a ≠ b ∧ a ≠ c ∧ a ≠ d ∧ b ≠ c ∧ b ≠ d ∧ c ≠ d) → (a + 4 * b + 16 * c + 64 * d) ∈ pms ∧ dg (a + 4 * b + 16 * c + 64 * d) 0 = a ∧ dg (a + 4 * b + 16 * c + 64 * d) 1 = b ∧ dg (a + 4 * b + 16 * c + 64 * d) 2 = c ∧ dg (a + 4 * b + 16 * c + 64 * d) 3 = d := of_decide_eq_true (pmB_all a ha b hb c hc d hd)
theorem pmc_ok {P : Nat} {mt : Nat → Option Nat} {go : Nat → Nat} (h : GW P mt go) {s t : Nat} (hs : s < 4 * P) (ht : mt s = some t) : pmc go s ∈ pms ∧ ∀ c, c < 4 → dg (pmc go s) c = go (4 * s + c) := by
  have h1 := (h.2 s hs t ht).2.2.2.1
  have inj : ∀ c d, c < 4 → d < 4 → go (4 * s + c) = go (4 * s + d) → c = d := fun c d hc hd e => by
    have := (h1 c hc).2
    rw [e, (h1 d hd).2] at this
    exact this.symm
  have ne : ∀ c d, c < 4 → d < 4 → c ≠ d → go (4 * s + c) ≠ go (4 * s + d) := fun c d hc hd n e => n (inj c d hc hd e)
  have f := pmc_fin (go (4 * s + 0)) (h1 0 (by omega)).1 (go (4 * s + 1)) (h1 1 (by omega)).1 (go (4 * s + 2)) (h1 2 (by omega)).1 (go (4 * s + 3)) (h1 3 (by omega)).1 ⟨ne 0 1 (by omega) (by omega) (by omega), ne 0 2 (by omega) (by omega) (by omega), ne 0 3 (by omega) (by omega) (by omega), ne 1 2 (by omega) (by omega) (by omega), ne 1 3 (by omega) (by omega) (by omega), ne 2 3 (by omega) (by omega) (by omega)⟩
  refine ⟨f.1, fun c hc => ?_⟩
  rcases (show c = 0 ∨ c = 1 ∨ c = 2 ∨ c = 3 by omega) with rfl | rfl | rfl | rfl
  · exact f.2.1
  · exact f.2.2.1
  · exact f.2.2.2.1
  · exact f.2.2.2.2
def prgS (mt : Nat → Option Nat) (go : Nat → Nat) (s : Nat) : List PG := match mt s with
  | none => []
  | some t => if s < t then [(s, t, pmc go s)] else []
def prg (mt : Nat → Option Nat) (go : Nat → Nat) : Nat → List PG
  | 0 => []
  | s + 1 => prg mt go s ++ prgS mt go s
theorem mem_prgS {mt : Nat → Option Nat} {go : Nat → Nat} {s : Nat} {g : PG} : g ∈ prgS mt go s ↔ ∃ t, mt s = some t ∧ s < t ∧ g = (s, t, pmc go s) := by
  unfold prgS
  cases e : mt s with
  | none => exact ⟨fun h => (by cases h), fun ⟨t, h, _⟩ => (by cases h)⟩
  | some t =>
    show g ∈ (if s < t then [(s, t, pmc go s)] else []) ↔ _
    by_cases c : s < t
    · rw [if_pos c, List.mem_singleton]
      exact ⟨fun h => ⟨t, rfl, c, h⟩, fun ⟨t', h1, h2, h3⟩ => by cases h1; exact h3⟩
    · rw [if_neg c]
      exact ⟨fun h => (by cases h), fun ⟨t', h1, h2, h3⟩ => by cases h1; exact absurd h2 c⟩
theorem mem_prg {mt : Nat → Option Nat} {go : Nat → Nat} {g : PG} : ∀ n, g ∈ prg mt go n ↔ ∃ s t, s < n ∧ mt s = some t ∧ s < t ∧ g = (s, t, pmc go s)
  | 0 => ⟨fun h => (by cases h), fun ⟨s, t, h, _⟩ => by omega⟩
  | n + 1 => by
    show g ∈ prg mt go n ++ prgS mt go n ↔ _
    rw [List.mem_append, mem_prg n, mem_prgS]
    constructor
    · rintro (⟨s, t, h1, h2⟩ | ⟨t, h1⟩)
      · exact ⟨s, t, by omega, h2⟩
      · exact ⟨n, t, by omega, h1⟩
    · rintro ⟨s, t, h1, h2⟩
      by_cases e : s = n
      · subst e; exact Or.inr ⟨t, h2⟩
      · exact Or.inl ⟨s, t, by omega, h2⟩
theorem okG_prg {P : Nat} {mt : Nat → Option Nat} {go : Nat → Nat} (h : GW P mt go) {s t : Nat} (hs : s < 4 * P) (ht : mt s = some t) (hst : s < t) : okG (s, t, pmc go s) := by
  have a := h.2 s hs t ht
  have p := pmc_ok h hs ht
  have hP := h.1
  refine ⟨hst, by show t < 12; omega, p.1, ?_⟩
  show dg (pmc go s) (s % 4) = t % 4
  rw [p.2 _ (Nat.mod_lt _ (by decide))]
  exact a.2.2.2.2
theorem prg_vld {P : Nat} {mt : Nat → Option Nat} {go : Nat → Nat} (h : GW P mt go) : ∀ n, n ≤ 4 * P → Vld (prg mt go n)
  | 0, _ => ⟨fun g hg => (by cases hg), List.nodup_nil⟩
  | n + 1, hn => by
    have ih := prg_vld h n (by omega)
    show Vld (prg mt go n ++ prgS mt go n)
    unfold prgS
    cases e : mt n with
    | none => exact (List.append_nil (prg mt go n)).symm ▸ ih
    | some t =>
      show Vld (prg mt go n ++ (if n < t then [(n, t, pmc go n)] else []))
      by_cases c : n < t
      · rw [if_pos c]
        have ok := okG_prg h (show n < 4 * P by omega) e c
        have a := h.2 n (by omega) t e
        have out : ∀ x, (x = n ∨ x = t) → x ∉ sds (prg mt go n) := fun x hx w => by
          obtain ⟨g, g1, g2⟩ := mem_sds.mp w
          obtain ⟨s', t', p1, p2, p3, rfl⟩ := (mem_prg n).mp g1
          have a' := h.2 s' (by omega) t' p2
          have g2 : x = s' ∨ x = t' := g2
          rcases hx with hx | hx <;> rcases g2 with g2 | g2
          · omega
          · have : n = t' := by omega
            rw [this, a'.2.2.1] at e
            cases e
            omega
          · omega
          · have : t = t' := by omega
            have q := a.2.2.1
            rw [this, a'.2.2.1] at q
            cases q
            omega
        refine ⟨fun g hg => ?_, ?_⟩
        · rcases List.mem_append.mp hg with w | w
          · exact ih.1 g w
          · rw [List.mem_singleton.mp w]; exact ok
        · rw [sds_app]
          refine List.nodup_append.mpr ⟨ih.2, List.nodup_cons.mpr ⟨fun w => ?_, List.nodup_cons.mpr ⟨List.not_mem_nil, List.nodup_nil⟩⟩, fun x hx y hy hxy => ?_⟩
          · have : n = t := List.mem_singleton.mp w
            omega
          · subst hxy
            refine out x ?_ hx
            rcases List.mem_cons.mp hy with w | w
            · exact Or.inl w
            · exact Or.inr (List.mem_singleton.mp w)
      · rw [if_neg c, List.append_nil]
        exact ih
theorem mem_eqsC {s t : Nat} {go : Nat → Nat} {q : QF} : ∀ n, q ∈ eqsC s t go n ↔ ∃ c, c < n ∧ c ≠ s % 4 ∧ q = (s, t, c, go (4 * s + c))
  | 0 => ⟨fun h => (by cases h), fun ⟨c, h, _⟩ => by omega⟩
  | n + 1 => by
    show q ∈ eqsC s t go n ++ (if n = s % 4 then [] else [(s, t, n, go (4 * s + n))]) ↔ _
    rw [List.mem_append, mem_eqsC n]
    constructor
    · rintro (⟨c, h1, h2⟩ | h)
      · exact ⟨c, by omega, h2⟩
      · by_cases e : n = s % 4
        · rw [if_pos e] at h; cases h
        · rw [if_neg e, List.mem_singleton] at h
          exact ⟨n, by omega, e, h⟩
    · rintro ⟨c, h1, h2, h3⟩
      by_cases e : c = n
      · subst e
        refine Or.inr ?_
        rw [if_neg h2, List.mem_singleton]
        exact h3
      · exact Or.inl ⟨c, by omega, h2, h3⟩
theorem eqsC_P {P : Nat} {mt : Nat → Option Nat} {go : Nat → Nat} (h : GW P mt go) {s t : Nat} (hs : s < 4 * P) (ht : mt s = some t) {q : QF} : q ∈ eqsC s t go 4 ↔ q ∈ eqP (s, t, pmc go s) := by
  have p := (pmc_ok h hs ht).2
  rw [mem_eqsC, mem_eqP]
  constructor
  · rintro ⟨c, h1, h2, h3⟩
    exact ⟨c, h1, h2, by rw [h3]; show _ = (s, t, c, dg (pmc go s) c); rw [p c h1]⟩
  · rintro ⟨c, h1, h2, h3⟩
    refine ⟨c, h1, h2, ?_⟩
    rw [h3]
    show (s, t, c, dg (pmc go s) c) = _
    rw [p c h1]
theorem mem_eqs {mt : Nat → Option Nat} {go : Nat → Nat} {q : QF} : ∀ n, q ∈ eqs mt go n ↔ ∃ s t, s < n ∧ mt s = some t ∧ s < t ∧ q ∈ eqsC s t go 4
  | 0 => ⟨fun h => (by cases h), fun ⟨s, t, h, _⟩ => by omega⟩
  | n + 1 => by
    have one : q ∈ eqsS mt go n ↔ ∃ t, mt n = some t ∧ n < t ∧ q ∈ eqsC n t go 4 := by
      unfold eqsS
      cases e : mt n with
      | none => exact ⟨fun h => (by cases h), fun ⟨t, h, _⟩ => (by cases h)⟩
      | some t =>
        show q ∈ (if n < t then eqsC n t go 4 else []) ↔ _
        by_cases c : n < t
        · rw [if_pos c]
          exact ⟨fun h => ⟨t, rfl, c, h⟩, fun ⟨t', h1, h2, h3⟩ => by cases h1; exact h3⟩
        · rw [if_neg c]
          exact ⟨fun h => (by cases h), fun ⟨t', h1, h2, h3⟩ => by cases h1; exact absurd h2 c⟩
    show q ∈ eqs mt go n ++ eqsS mt go n ↔ _
    rw [List.mem_append, mem_eqs n, one]
    constructor
    · rintro (⟨s, t, h1, h2⟩ | ⟨t, h1⟩)
      · exact ⟨s, t, by omega, h2⟩
      · exact ⟨n, t, by omega, h1⟩
    · rintro ⟨s, t, h1, h2⟩
      by_cases e : s = n
      · subst e; exact Or.inr ⟨t, h2⟩
      · exact Or.inl ⟨s, t, by omega, h2⟩
theorem eqs_P {P : Nat} {mt : Nat → Option Nat} {go : Nat → Nat} (h : GW P mt go) {n : Nat} (hn : n ≤ 4 * P) {q : QF} : q ∈ eqs mt go n ↔ q ∈ EqG (prg mt go n) := by
  rw [mem_eqs, mem_EqG]
  constructor
  · rintro ⟨s, t, h1, h2, h3, h4⟩
    exact ⟨_, (mem_prg n).mpr ⟨s, t, h1, h2, h3, rfl⟩, (eqsC_P h (by omega) h2).mp h4⟩
  · rintro ⟨g, g1, g2⟩
    obtain ⟨s, t, h1, h2, h3, rfl⟩ := (mem_prg n).mp g1
    exact ⟨s, t, h1, h2, h3, (eqsC_P h (by omega) h2).mpr g2⟩
theorem eqs_cut {mt : Nat → Option Nat} {go : Nat → Nat} : ∀ n (l l' : List QF), l ++ l' = eqs mt go n → ∃ s, s ≤ n ∧ ∃ S, l = eqs mt go s ++ S ∧ (S = [] ∨ (s < n ∧ ∃ t, mt s = some t ∧ s < t ∧ ∀ q ∈ S, q ∈ eqsC s t go 4))
  | 0, l, l', h => by
    have h : l ++ l' = [] := h
    have := (List.append_eq_nil_iff.mp h).1
    exact ⟨0, Nat.le_refl _, [], by rw [this]; rfl, Or.inl rfl⟩
  | n + 1, l, l', h => by
    have h : l ++ l' = eqs mt go n ++ eqsS mt go n := h
    rcases List.append_eq_append_iff.mp h with ⟨a, h1, h2⟩ | ⟨c, h1, h2⟩
    · obtain ⟨s, s1, S, s2, s3⟩ := eqs_cut n l a h1.symm
      refine ⟨s, by omega, S, s2, ?_⟩
      rcases s3 with s3 | ⟨s3, s4⟩
      · exact Or.inl s3
      · exact Or.inr ⟨by omega, s4⟩
    · refine ⟨n, by omega, c, h1, ?_⟩
      unfold eqsS at h2
      cases e : mt n with
      | none =>
        rw [e] at h2
        exact Or.inl (List.append_eq_nil_iff.mp h2.symm).1
      | some t =>
        rw [e] at h2
        have h2 : (if n < t then eqsC n t go 4 else []) = c ++ l' := h2
        by_cases d : n < t
        · rw [if_pos d] at h2
          exact Or.inr ⟨by omega, t, rfl, d, fun q hq => by rw [h2]; exact List.mem_append_left _ hq⟩
        · rw [if_neg d] at h2
          exact Or.inl (List.append_eq_nil_iff.mp h2.symm).1
theorem qF_ok {q : QF} (h : q.1 < 12 ∧ q.2.1 < 12 ∧ q.2.2.1 < 4 ∧ q.2.2.2 < 4 ∧ q.2.2.1 ≠ q.1 % 4 ∧ q.2.2.2 ≠ q.2.1 % 4) : okF (qF q) := by
  obtain ⟨h1, h2, h3, h4, h5, h6⟩ := h
  have k1 := (kap_ok 228 (by decide) q.2.2.1 h3 (q.1 % 4) (Nat.mod_lt _ (by decide)) h5).1
  have k2 := (kap_ok 228 (by decide) q.2.2.2 h4 (q.2.1 % 4) (Nat.mod_lt _ (by decide)) h6).1
  exact ⟨eqA1 q.1 q.2.2.1, eqA1 q.2.1 q.2.2.2, q.1 / 4, q.2.1 / 4, kO q.2.2.1 (q.1 % 4), kO q.2.2.2 (q.2.1 % 4), ⟨by unfold eqA1; omega, by unfold eqA1; omega⟩, ⟨by unfold eqA1; omega, by unfold eqA1; omega⟩, by omega, by omega, k1, k2, fun v => rfl⟩
theorem dd_RP {P : Nat} (hP : P ≤ 3) : ∀ l : List QF, RP P (dd P l).1 (dd P l).2 := by
  intro l
  by_cases hl : l = []
  · rw [hl]; exact unit_RP
  · obtain ⟨l1, q, rfl⟩ : ∃ l1 q, l = l1 ++ [q] := ⟨l.dropLast, l.getLast hl, (List.dropLast_concat_getLast hl).symm⟩
    rw [dd_app]
    exact meet_RP (fun r hr => ((dd_ex hP l1).1 r hr).1.2.1)
theorem gcdN_wide {v : Nat → Nat} {n : Nat} : ∀ k, (∀ i, n ≤ i → v i = 0) → gcdN v (n + k) = gcdN v n
  | 0, _ => rfl
  | k + 1, h => by
    show Nat.gcd (gcdN v (n + k)) (v (n + k)) = _
    rw [gcdN_wide k h, h _ (by omega), Nat.gcd_zero_right]
theorem dall {P : Nat} {mt : Nat → Option Nat} {go : Nat → Nat} (h : GW P mt go) : DAll P mt go := by
  intro l l' hl
  have hP := h.1
  have x := dd_ex hP l
  have okl : ∀ q ∈ l, q.1 < 12 ∧ q.2.1 < 12 ∧ q.2.2.1 < 4 ∧ q.2.2.2 < 4 ∧ q.2.2.1 ≠ q.1 % 4 ∧ q.2.2.2 ≠ q.2.1 % 4 := fun q hq => by
    have : q ∈ eqs mt go (4 * P) := by rw [← hl]; exact List.mem_append_left _ hq
    obtain ⟨g, g1, g2⟩ := mem_EqG.mp ((eqs_P h (Nat.le_refl _)).mp this)
    exact eqP_lt ((prg_vld h _ (Nat.le_refl _)).1 g g1) g2
  refine ⟨?_, fun r hr i hi => ?_, fun r hr => (x.1 r hr).1.2.1⟩
  · obtain ⟨s, hs, S, e, hS⟩ := eqs_cut _ l l' hl
    have hb : NBd (FL l) 64 := by
      have V := prg_vld h s hs
      have k := good_nil (prg mt go s) V (fun g hg => (by cases hg))
      rcases hS with hS | ⟨h1, t, h2, h3, h4⟩
      · refine k.1.set (fun q => ?_)
        rw [e, hS, List.append_nil]
        exact eqs_P h hs
      · have V2 := prg_vld h (s + 1) (by omega)
        have e2 : prg mt go (s + 1) = prg mt go s ++ [(s, t, pmc go s)] := by
          show prg mt go s ++ prgS mt go s = _
          unfold prgS
          rw [h2]
          show _ ++ (if s < t then _ else _) = _
          rw [if_pos h3]
        rw [e2] at V2
        refine (k.2 _ V2 S (fun q hq => (eqsC_P h h1 h2).mp (h4 q hq))).set (fun q => ?_)
        rw [e, List.mem_append, List.mem_append, eqs_P h hs]
    obtain ⟨n', R', x'⟩ := FL_ex l
    refine Nat.le_trans (x.le x' (fun v hv => ?_)) (hb n' R' x')
    refine (hv.wide hP).cong (fun u => ?_)
    unfold FL
    exact ⟨fun w f hf => w f (List.mem_reverse.mpr hf), fun w f hf => w f (List.mem_reverse.mp hf)⟩
  · have m := (x.1 r hr).wide hP
    have hg : gcdN ((dd P l).2 r) 21 = 1 := by
      have := gcdN_wide (v := (dd P l).2 r) (n := 7 * P) (21 - 7 * P) (x.1 r hr).1.2.2
      rw [show 7 * P + (21 - 7 * P) = 21 by omega] at this
      rw [this]
      exact dd_RP hP l r hr
    exact m.small (fun f hf => by
      obtain ⟨q, hq, rfl⟩ := List.mem_map.mp (List.mem_reverse.mp hf)
      exact qF_ok (okl q hq)) (fun f hf => by
      obtain ⟨q, hq, rfl⟩ := List.mem_map.mp (List.mem_reverse.mp hf)
      exact qF_lin q) hg i
