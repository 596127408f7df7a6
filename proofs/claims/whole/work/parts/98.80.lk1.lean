/-! linking: labels of the reference, groups of the class -/
theorem opsP_195 {n : Nat} {mt : Nat → Option Nat} {go : Nat → Nat} {u v : Nat} (h : (195, u, v) ∈ opsP mt go n) : ∃ s t a b, s < n ∧ mt s = some t ∧ a < 4 ∧ b < 4 ∧ a ≠ b ∧ a ≠ s % 4 ∧ b ≠ s % 4 ∧ u = endI (s / 4) a b ∧ v = endI (t / 4) (go (4 * s + a)) (go (4 * s + b)) := by
  unfold opsP at h
  obtain ⟨s, hs, h⟩ := List.mem_flatMap.mp h
  have hs := List.mem_range.mp hs
  cases e : mt s with
  | none => rw [e] at h; cases h
  | some t =>
    rw [e] at h
    have h : (195, u, v) ∈ opsA s t go 4 := h
    unfold opsA at h
    rcases List.mem_cons.mp h with h | h
    · exact absurd (congrArg Prod.fst h) (by simp)
    · obtain ⟨a, ha, h⟩ := List.mem_flatMap.mp h
      obtain ⟨ha1, ha2⟩ := List.mem_filter.mp ha
      have ha1 := List.mem_range.mp ha1
      rcases List.mem_cons.mp h with h | h
      · exact absurd (congrArg Prod.fst h) (by simp)
      · unfold opsB at h
        obtain ⟨b, hb, h⟩ := List.mem_map.mp h
        obtain ⟨hb1, hb2⟩ := List.mem_filter.mp hb
        have hb1 := List.mem_range.mp hb1
        have ha2 : a ≠ s % 4 := by simpa using ha2
        have hb2 : ¬ (b = a ∨ b = s % 4) := by simpa using hb2
        have h1 := congrArg (fun q : Nat × Nat × Nat => q.2.1) h
        have h2 := congrArg (fun q : Nat × Nat × Nat => q.2.2) h
        exact ⟨s, t, a, b, hs, e, ha1, hb1, fun w => hb2 (Or.inl w.symm), ha2, fun w => hb2 (Or.inr w), h1.symm, h2.symm⟩
theorem opsP_196 {n : Nat} {mt : Nat → Option Nat} {go : Nat → Nat} {u v : Nat} (h : (196, u, v) ∈ opsP mt go n) : ∃ s t a, s < n ∧ mt s = some t ∧ a < 4 ∧ a ≠ s % 4 ∧ u = 4 * (s / 4) + a ∧ v = 4 * (t / 4) + go (4 * s + a) := by
  unfold opsP at h
  obtain ⟨s, hs, h⟩ := List.mem_flatMap.mp h
  have hs := List.mem_range.mp hs
  cases e : mt s with
  | none => rw [e] at h; cases h
  | some t =>
    rw [e] at h
    have h : (196, u, v) ∈ opsA s t go 4 := h
    unfold opsA at h
    rcases List.mem_cons.mp h with h | h
    · exact absurd (congrArg Prod.fst h) (by simp)
    · obtain ⟨a, ha, h⟩ := List.mem_flatMap.mp h
      obtain ⟨ha1, ha2⟩ := List.mem_filter.mp ha
      have ha1 := List.mem_range.mp ha1
      have ha2 : a ≠ s % 4 := by simpa using ha2
      rcases List.mem_cons.mp h with h | h
      · have h1 := congrArg (fun q : Nat × Nat × Nat => q.2.1) h
        have h2 := congrArg (fun q : Nat × Nat × Nat => q.2.2) h
        exact ⟨s, t, a, hs, e, ha1, ha2, h1, h2⟩
      · unfold opsB at h
        obtain ⟨b, hb, h⟩ := List.mem_map.mp h
        exact absurd (congrArg Prod.fst h) (by simp)
theorem opsP_197 {n : Nat} {mt : Nat → Option Nat} {go : Nat → Nat} {u v : Nat} (h : (197, u, v) ∈ opsP mt go n) : ∃ s t, s < n ∧ mt s = some t ∧ u = s / 4 ∧ v = t / 4 := by
  unfold opsP at h
  obtain ⟨s, hs, h⟩ := List.mem_flatMap.mp h
  have hs := List.mem_range.mp hs
  cases e : mt s with
  | none => rw [e] at h; cases h
  | some t =>
    rw [e] at h
    have h : (197, u, v) ∈ opsA s t go 4 := h
    unfold opsA at h
    rcases List.mem_cons.mp h with h | h
    · have h1 := congrArg (fun q : Nat × Nat × Nat => q.2.1) h
      have h2 := congrArg (fun q : Nat × Nat × Nat => q.2.2) h
      exact ⟨s, t, hs, e, h1, h2⟩
    · obtain ⟨a, ha, h⟩ := List.mem_flatMap.mp h
      rcases List.mem_cons.mp h with h | h
      · exact absurd (congrArg Prod.fst h) (by simp)
      · unfold opsB at h
        obtain ⟨b, hb, h⟩ := List.mem_map.mp h
        exact absurd (congrArg Prod.fst h) (by simp)
theorem opsP_m6 {P : Nat} {mt : Nat → Option Nat} {go : Nat → Nat} {s t a : Nat} (hs : s < 4 * P) (e0 : mt s = some t) (ha : a < 4) (has : a ≠ s % 4) : (196, 4 * (s / 4) + a, 4 * (t / 4) + go (4 * s + a)) ∈ opsP mt go (4 * P) := by
  unfold opsP
  refine List.mem_flatMap.mpr ⟨s, List.mem_range.mpr hs, ?_⟩
  rw [e0]
  show _ ∈ opsA s t go 4
  unfold opsA
  refine List.mem_cons_of_mem _ (List.mem_flatMap.mpr ⟨a, List.mem_filter.mpr ⟨List.mem_range.mpr ha, ?_⟩, List.mem_cons_self ..⟩)
  simp [has]
theorem opsP_m7 {P : Nat} {mt : Nat → Option Nat} {go : Nat → Nat} {s t : Nat} (hs : s < 4 * P) (e0 : mt s = some t) : (197, s / 4, t / 4) ∈ opsP mt go (4 * P) := by
  unfold opsP
  refine List.mem_flatMap.mpr ⟨s, List.mem_range.mpr hs, ?_⟩
  rw [e0]
  show _ ∈ opsA s t go 4
  unfold opsA
  exact List.mem_cons_self ..
theorem eOf_fin : ∀ a, a < 4 → ∀ b, b < 4 → a ≠ b → eOf a b < 6 ∧ eOf a b = eOf b a ∧ ((a < b ∧ fE (eOf a b) = a ∧ tE (eOf a b) = b) ∨ (b < a ∧ fE (eOf a b) = b ∧ tE (eOf a b) = a)) := by
  intro a ha b hb hab
  rcases (show a = 0 ∨ a = 1 ∨ a = 2 ∨ a = 3 by omega) with rfl | rfl | rfl | rfl <;> rcases (show b = 0 ∨ b = 1 ∨ b = 2 ∨ b = 3 by omega) with rfl | rfl | rfl | rfl <;> first | exact absurd rfl hab | decide
theorem fE_fin : ∀ e, e < 6 → fE e < 4 ∧ tE e < 4 ∧ fE e < tE e ∧ eOf (fE e) (tE e) = e := by decide
theorem GW.gne {P : Nat} {mt : Nat → Option Nat} {go : Nat → Nat} (hG : GW P mt go) {s t a b : Nat} (hs : s < 4 * P) (e0 : mt s = some t) (ha : a < 4) (hb : b < 4) (hab : a ≠ b) : go (4 * s + a) ≠ go (4 * s + b) := fun w => by
  obtain ⟨-, -, -, h4, -⟩ := hG.2 s hs t e0
  have h1 := (h4 a ha).2
  have h2 := (h4 b hb).2
  rw [w] at h1
  exact hab (h1.symm.trans h2)
theorem conn.gR {prs : List (Nat × Nat)} {R : Nat → Nat → Prop} (h1 : ∀ q ∈ prs, cR R q.1 q.2) (h2 : ∀ u v, R u v → conn prs u v) (x y : Nat) : conn prs x y ↔ cR R x y :=
  ⟨fun h C hx hC => h C hx (fun q hq => ⟨fun w => h1 q hq C w hC, fun w => (h1 q hq).symm C w hC⟩), fun h C hx hC => h C hx (fun u v hq => ⟨fun w => h2 u v hq C w hC, fun w => (h2 u v hq).symm C w hC⟩)⟩
theorem conn_E {P : Nat} {mt : Nat → Option Nat} {go : Nat → Nat} (hG : GW P mt go) (x y : Nat) : conn (prsOf 195 (opsP mt go (4 * P))) x y ↔ cR (dR2 (EJ P mt go)) x y := by
  have hl : ∀ s t a b, s < 4 * P → mt s = some t → s < t → a < 4 → b < 4 → a ≠ b → a ≠ s % 4 → b ≠ s % 4 → cR (dR2 (EJ P mt go)) (endI (s / 4) a b) (endI (t / 4) (go (4 * s + a)) (go (4 * s + b))) := by
    intro s t a b hs e0 hst ha hb hab has hbs
    obtain ⟨-, -, -, h4, -⟩ := hG.2 s hs t e0
    have g1 := (h4 a ha).1
    have g2 := (h4 b hb).1
    have gn := hG.gne hs e0 ha hb hab
    obtain ⟨f1, f2, f3⟩ := eOf_fin a ha b hb hab
    obtain ⟨k1, k2, -⟩ := eOf_fin _ g1 _ g2 gn
    refine cR.of ⟨6 * (s / 4) + eOf a b, 6 * (t / 4) + eOf (go (4 * s + a)) (go (4 * s + b)), decide (go (4 * s + tE (eOf a b)) < go (4 * s + fE (eOf a b))), ⟨s, t, eOf a b, Or.inl hs, hs, e0, hst, f1, ?_, ?_, rfl, ?_, rfl⟩, ?_⟩
    · rcases f3 with ⟨-, w, -⟩ | ⟨-, w, -⟩ <;> rw [w] <;> assumption
    · rcases f3 with ⟨-, -, w⟩ | ⟨-, -, w⟩ <;> rw [w] <;> assumption
    · rcases f3 with ⟨-, w1, w2⟩ | ⟨-, w1, w2⟩ <;> rw [w1, w2]
      rw [k2]
    · rcases f3 with ⟨lt, w1, w2⟩ | ⟨lt, w1, w2⟩ <;> rw [w1, w2]
      · refine Or.inl ⟨?_, ?_⟩
        · unfold endI; rw [if_pos lt]; omega
        · unfold endI bN
          by_cases c : go (4 * s + a) < go (4 * s + b)
          · rw [if_pos c, if_neg (fun w => by have := of_decide_eq_true w; omega)]; omega
          · rw [if_neg c, if_pos (decide_eq_true (by omega))]; omega
      · refine Or.inr ⟨?_, ?_⟩
        · unfold endI; rw [if_neg (by omega)]; omega
        · unfold endI bN
          by_cases c : go (4 * s + a) < go (4 * s + b)
          · rw [if_pos c, if_pos (decide_eq_true c)]; omega
          · rw [if_neg c, if_neg (fun w => c (of_decide_eq_true w))]; omega
  refine conn.gR (fun q hq => ?_) (fun u v h => ?_) x y
  · obtain ⟨u, v⟩ := q
    obtain ⟨s, t, a, b, hs, e0, ha, hb, hab, has, hbs, rfl, rfl⟩ := opsP_195 (mem_prsOf.mp hq)
    obtain ⟨h1, h2, h3, h4, h5⟩ := hG.2 s hs t e0
    by_cases c : s < t
    · exact hl s t a b hs e0 c ha hb hab has hbs
    · have g1 := h4 a ha
      have g2 := h4 b hb
      have gn := hG.gne hs e0 ha hb hab
      have k := hl t s (go (4 * s + a)) (go (4 * s + b)) h1 h3 (by omega) g1.1 g2.1 gn (fun w => hG.gne hs e0 ha (by omega) has (w.trans h5.symm)) (fun w => hG.gne hs e0 hb (by omega) hbs (w.trans h5.symm))
      rw [g1.2, g2.2] at k
      exact k.symm
  · obtain ⟨x, y, b, ⟨s, t, e, -, hs, e0, hst, he, n1, n2, rfl, rfl, rfl⟩, h⟩ := h
    obtain ⟨k1, k2, k3, k4⟩ := fE_fin e he
    obtain ⟨-, -, -, h4, -⟩ := hG.2 s hs t e0
    have g1 := (h4 _ k1).1
    have g2 := (h4 _ k2).1
    have gn := hG.gne hs e0 k1 k2 (by omega)
    obtain ⟨-, e2, -⟩ := eOf_fin _ g1 _ g2 gn
    rcases h with ⟨rfl, rfl⟩ | ⟨rfl, rfl⟩
    · have := conn.pair (mem_prsOf.mpr (opsP_mem (P := P) (go := go) hs e0 k1 k2 (by omega) n1 n2))
      dsimp only at this
      unfold endI at this
      rw [k4, if_pos k3] at this
      rw [show 2 * (6 * (s / 4) + e) = 12 * (s / 4) + 2 * e + 0 by omega]
      unfold bN
      by_cases c : go (4 * s + fE e) < go (4 * s + tE e)
      · rw [if_pos c] at this
        rw [if_neg (fun w => by have := of_decide_eq_true w; omega), show 2 * (6 * (t / 4) + eOf (go (4 * s + fE e)) (go (4 * s + tE e))) + 0 = 12 * (t / 4) + 2 * eOf (go (4 * s + fE e)) (go (4 * s + tE e)) + 0 by omega]
        exact this
      · rw [if_neg c] at this
        rw [if_pos (decide_eq_true (by omega)), show 2 * (6 * (t / 4) + eOf (go (4 * s + fE e)) (go (4 * s + tE e))) + 1 = 12 * (t / 4) + 2 * eOf (go (4 * s + fE e)) (go (4 * s + tE e)) + 1 by omega]
        exact this
    · have := conn.pair (mem_prsOf.mpr (opsP_mem (P := P) (go := go) hs e0 k2 k1 (by omega) n2 n1))
      dsimp only at this
      unfold endI at this
      rw [(eOf_fin _ k2 _ k1 (by omega)).2.1, k4, ← e2, if_neg (by omega)] at this
      rw [show 2 * (6 * (s / 4) + e) + 1 = 12 * (s / 4) + 2 * e + 1 by omega]
      unfold bN
      by_cases c : go (4 * s + tE e) < go (4 * s + fE e)
      · rw [if_pos c] at this
        rw [if_pos (decide_eq_true c), show 2 * (6 * (t / 4) + eOf (go (4 * s + fE e)) (go (4 * s + tE e))) + (1 - 1) = 12 * (t / 4) + 2 * eOf (go (4 * s + fE e)) (go (4 * s + tE e)) + 0 by omega]
        exact this
      · rw [if_neg c] at this
        rw [if_neg (fun w => c (of_decide_eq_true w)), show 2 * (6 * (t / 4) + eOf (go (4 * s + fE e)) (go (4 * s + tE e))) + (1 - 0) = 12 * (t / 4) + 2 * eOf (go (4 * s + fE e)) (go (4 * s + tE e)) + 1 by omega]
        exact this
theorem conn_C {P : Nat} {mt : Nat → Option Nat} {go : Nat → Nat} (hG : GW P mt go) (x y : Nat) : conn (prsOf 196 (opsP mt go (4 * P))) x y ↔ cR (sR2 (CJ P mt go)) x y := by
  refine conn.gR (fun q hq => ?_) (fun u v h => ?_) x y
  · obtain ⟨u, v⟩ := q
    obtain ⟨s, t, a, hs, e0, ha, has, rfl, rfl⟩ := opsP_196 (mem_prsOf.mp hq)
    obtain ⟨h1, h2, h3, h4, h5⟩ := hG.2 s hs t e0
    by_cases c : s < t
    · exact cR.of ⟨false, s, t, a, Or.inl hs, hs, e0, c, ha, has, rfl, rfl, rfl⟩
    · have g1 := h4 a ha
      refine cR.symm (cR.of ⟨false, t, s, go (4 * s + a), Or.inl h1, h1, h3, by omega, g1.1, fun w => hG.gne hs e0 ha (by omega) has (w.trans h5.symm), rfl, ?_, rfl⟩)
      rw [g1.2]
  · obtain ⟨b, s, t, c, -, hs, e0, hst, hc, hcs, rfl, rfl, -⟩ := h
    exact conn.pair (mem_prsOf.mpr (opsP_m6 (P := P) hs e0 hc hcs))
theorem conn_S {P : Nat} {mt : Nat → Option Nat} {go : Nat → Nat} (hG : GW P mt go) (x y : Nat) : conn (prsOf 197 (opsP mt go (4 * P))) x y ↔ cR (sR2 (SJ P mt go)) x y := by
  refine conn.gR (fun q hq => ?_) (fun u v h => ?_) x y
  · obtain ⟨u, v⟩ := q
    obtain ⟨s, t, hs, e0, rfl, rfl⟩ := opsP_197 (mem_prsOf.mp hq)
    obtain ⟨h1, h2, h3, h4, h5⟩ := hG.2 s hs t e0
    by_cases c : s < t
    · exact cR.of ⟨_, s, t, hs, hs, e0, c, rfl, rfl, rfl⟩
    · exact cR.symm (cR.of ⟨_, t, s, h1, h1, h3, by omega, rfl, rfl, rfl⟩)
  · obtain ⟨b, s, t, -, hs, e0, hst, rfl, rfl, -⟩ := h
    exact conn.pair (mem_prsOf.mpr (opsP_m7 (P := P) hs e0))
theorem lst_iff {J : LRel} {k : Nat} : lst J k = k ↔ fs J k = true := ⟨fun h => by
  have := (lst_spec J k).2.1
  rwa [h] at this, fun h => fst_un (lst_spec J k).2.1 h (lst_spec J k).2.2⟩
theorem Lab.lstE {f : Nat → Int32} {prs : List (Nat × Nat)} {n : Nat} {J : LRel} (h : Lab f prs n) (hn : n < 2 ^ 31) (hc : ∀ x y, conn prs x y ↔ cR (sR2 J) x y) {x : Nat} (hx : x < n) : (f x).toNatClampNeg = lst J x := by
  obtain ⟨m, h1, h2, h3, h4, h5⟩ := h.least hn hx
  obtain ⟨g1, g2, g3⟩ := lst_spec J x
  rw [h1, nI_clamp (by omega)]
  have a1 : m ≤ lst J x := h5 _ (by omega) ((hc _ _).mpr g3)
  have a2 : ¬ m < lst J x := fun w => fstB_iff.mp g2 m w (((hc _ _).mp h3).trans g3.symm)
  omega
theorem cb_lst {T : MS} {P : Nat} {mt : Nat → Option Nat} {go : Nat → Nat} (hG : GW P mt go) (h : LabS T P mt go) {k : Nat} (hk : k < 12) : cb T k = lst (CJ P mt go) k := h.2.1.lstE (by omega) (conn_C hG) hk
theorem sb_lst {T : MS} {P : Nat} {mt : Nat → Option Nat} {go : Nat → Nat} (hG : GW P mt go) (h : LabS T P mt go) {k : Nat} (hk : k < 3) : sb T k = lst (SJ P mt go) k := h.2.2.lstE (by omega) (conn_S hG) hk
theorem lb_eq {T : MS} {P : Nat} {mt : Nat → Option Nat} {go : Nat → Nat} (hG : GW P mt go) (h : LabS T P mt go) {x y : Nat} (hx : x < 36) (hy : y < 36) : lb T x = lb T y ↔ cR (dR2 (EJ P mt go)) x y := by
  rw [← conn_E hG, ← h.1.eq (by omega) hx hy]
  obtain ⟨m, h1, h2, -⟩ := h.1.least (by omega) hx
  obtain ⟨m', g1, g2, -⟩ := h.1.least (by omega) hy
  unfold lb
  constructor
  · intro e
    rw [h1, g1] at e ⊢
    rw [nI_clamp (by omega), nI_clamp (by omega)] at e
    rw [e]
  · intro e
    rw [e]
theorem lb_least {T : MS} {P : Nat} {mt : Nat → Option Nat} {go : Nat → Nat} (hG : GW P mt go) (h : LabS T P mt go) {x : Nat} (hx : x < 36) : lb T x ≤ x ∧ cR (dR2 (EJ P mt go)) (lb T x) x ∧ ∀ y, y < 36 → cR (dR2 (EJ P mt go)) y x → lb T x ≤ y := by
  obtain ⟨m, h1, h2, h3, h4, h5⟩ := h.1.least (by omega) hx
  have e : lb T x = m := by unfold lb; rw [h1, nI_clamp (by omega)]
  rw [e]
  exact ⟨h2, (conn_E hG _ _).mp h3, fun y hy w => h5 y hy ((conn_E hG _ _).mpr w)⟩
theorem sR2.lift {L : LRel} {x y : Nat} (h : cR (sR2 L) x y) : ∃ e, e < 2 ∧ cR (dR2 L) (2 * x) (2 * y + e) := by
  refine h (fun z => ∃ e, e < 2 ∧ cR (dR2 L) (2 * x) (2 * z + e)) ⟨0, by omega, cR.rf _ _⟩ (fun u v q => ?_)
  obtain ⟨b, hb⟩ := q
  have s0 : cR (dR2 L) (2 * u) (2 * v + bN b) := cR.of ⟨u, v, b, hb, Or.inl ⟨rfl, rfl⟩⟩
  have s1 : cR (dR2 L) (2 * u + 1) (2 * v + (1 - bN b)) := cR.of ⟨u, v, b, hb, Or.inr ⟨rfl, rfl⟩⟩
  have hbb := bN_lt b
  constructor
  · rintro ⟨e, he, w⟩
    rcases (show e = 0 ∨ e = 1 by omega) with rfl | rfl
    · exact ⟨bN b, hbb, w.trans s0⟩
    · exact ⟨1 - bN b, by omega, w.trans s1⟩
  · rintro ⟨e, he, w⟩
    by_cases c : e = bN b
    · subst c; exact ⟨0, by omega, w.trans s0.symm⟩
    · have : e = 1 - bN b := by omega
      subst this
      exact ⟨1, by omega, w.trans s1.symm⟩
theorem eL_lst {T : MS} {P : Nat} {mt : Nat → Option Nat} {go : Nat → Nat} (hG : GW P mt go) (h : LabS T P mt go) {k : Nat} (hk : k < 18) : eL T k = lst (EJ P mt go) k := by
  obtain ⟨g1, g2, g3⟩ := lst_spec (EJ P mt go) k
  obtain ⟨a1, a2, a3⟩ := lb_least hG h (x := 2 * k) (by omega)
  obtain ⟨b1, b2, b3⟩ := lb_least hG h (x := 2 * k + 1) (by omega)
  have le : ∀ u, cR (dR2 (EJ P mt go)) u (2 * k) ∨ cR (dR2 (EJ P mt go)) u (2 * k + 1) → lst (EJ P mt go) k ≤ u / 2 := by
    intro u w
    have : cR (sR2 (EJ P mt go)) (u / 2) k := by
      rcases w with w | w
      · have := dR2.half w
        rwa [show 2 * k / 2 = k by omega] at this
      · have := dR2.half w
        rwa [show (2 * k + 1) / 2 = k by omega] at this
    exact Nat.not_lt.mp (fun q => fstB_iff.mp g2 _ q (this.trans g3.symm))
  have l1 := le _ (Or.inl a2)
  have l2 := le _ (Or.inr b2)
  obtain ⟨e, he, w⟩ := sR2.lift g3
  unfold eL
  rcases (show e = 0 ∨ e = 1 by omega) with rfl | rfl
  · have := a3 _ (by omega) w
    omega
  · have := b3 _ (by omega) w
    omega
theorem cnt_cg {p q : Nat → Bool} : ∀ n, (∀ k, k < n → p k = q k) → cnt p n = cnt q n
  | 0, _ => rfl
  | n + 1, h => by
    have := cnt_cg n (fun k hk => h k (by omega))
    by_cases c : p n = true
    · rw [cnt_t c, cnt_t (by rw [← h n (by omega)]; exact c), this]
    · rw [cnt_f c, cnt_f (by rw [← h n (by omega)]; exact c), this]
theorem dec_fs {J : LRel} {a k : Nat} (h : a = lst J k) : decide (a = k) = fs J k := by
  by_cases c : fs J k = true
  · rw [c, decide_eq_true (h.trans (lst_iff.mpr c))]
  · rw [decide_eq_false (fun w => c (lst_iff.mp (h.symm.trans w)))]
    cases e : fs J k
    · rfl
    · exact absurd e c
theorem cb_cnt {T : MS} {P : Nat} {mt : Nat → Option Nat} {go : Nat → Nat} (hG : GW P mt go) (h : LabS T P mt go) {n : Nat} (hn : n ≤ 12) : cnt (fun k => decide (cb T k = k)) n = cnt (fs (CJ P mt go)) n := cnt_cg n (fun k hk => dec_fs (cb_lst hG h (by omega)))
theorem sb_cnt {T : MS} {P : Nat} {mt : Nat → Option Nat} {go : Nat → Nat} (hG : GW P mt go) (h : LabS T P mt go) {n : Nat} (hn : n ≤ 3) : cnt (fun k => decide (sb T k = k)) n = cnt (fs (SJ P mt go)) n := cnt_cg n (fun k hk => dec_fs (sb_lst hG h (by omega)))
theorem eL_cnt {T : MS} {P : Nat} {mt : Nat → Option Nat} {go : Nat → Nat} (hG : GW P mt go) (h : LabS T P mt go) {n : Nat} (hn : n ≤ 18) : cnt (fun k => decide (eL T k = k)) n = cnt (fs (EJ P mt go)) n := cnt_cg n (fun k hk => dec_fs (eL_lst hG h (by omega)))
/-- classes -/
theorem cls_eq {T : MS} {P : Nat} {mt : Nat → Option Nat} {go : Nat → Nat} (hG : GW P mt go) (h : LabS T P mt go) {w p c : Nat} (hw : w < 2) (hp : p < P) (hc : c < (if w = 0 then 4 else 6)) : clsA T w p c = if w = 0 then gno (CJ P mt go) (4 * p + c) else gno (EJ P mt go) (6 * p + c) := by
  have hP := hG.1
  unfold clsA
  by_cases e : w = 0
  · rw [if_pos e] at hc
    rw [if_pos e, if_pos e, cb_lst hG h (by omega)]
    have := (lst_spec (CJ P mt go) (4 * p + c)).1
    rw [cb_cnt hG h (by omega)]
    rfl
  · rw [if_neg e] at hc
    rw [if_neg e, if_neg e, eL_lst hG h (by omega)]
    have := (lst_spec (EJ P mt go) (6 * p + c)).1
    rw [eL_cnt hG h (by omega)]
    rfl
theorem tws_iff {T : MS} {P : Nat} {mt : Nat → Option Nat} {go : Nat → Nat} (hG : GW P mt go) (h : LabS T P mt go) {e : Nat} (he : e < 18) : lb T (2 * e) = lb T (2 * e + 1) ↔ Tws (EJ P mt go) e := lb_eq hG h (by omega) (by omega)
