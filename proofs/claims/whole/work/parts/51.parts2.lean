/-! the search through one part, and through all -/
section PT
variable {L : Nat → Nat → Bool → Prop} {N k q : Nat} {V U T : MS} {at_ many many' cut : Nat}
theorem BI.step (hN : N ≤ 400) (hL : ∀ x y b, L x y b → x < N ∧ y < N) (hV : ∀ x y b, L x y b → (VS V x ↔ VS V y)) (h : BI L N k q V U at_ many) (ha : at_ < many) (hcut : cut < N) (hq : U.2.1 206 at_ = nI cut) (g : SP U T N cut many many' (L cut)) : BI L N k q V T (at_ + 1) many' := by
  obtain ⟨b1, b2, b3, b4, b5, b6, b7, b8, b9, b10, b11, b12, b13⟩ := h
  obtain ⟨a1, a2, a3, a4, a5, a6, a7, a8, a9, a10, a11⟩ := g
  have inj : ∀ {x y : Nat}, x < N → y < N → nI x = nI y → x = y := fun hx hy e => (nI_eq (by omega) (by omega)).mp e
  have ent : ∀ j y, j < many → y < N → U.2.1 206 j = nI y → ¬ VS V y ∧ VS U y ∧ U.2.1 204 y = nI q ∧ ((U.2.1 205 y = 1 ∧ cR (dR2 L) (2 * k) (2 * y)) ∨ (U.2.1 205 y = -1 ∧ cR (dR2 L) (2 * k) (2 * y + 1))) := by
    intro j y hj hy e
    obtain ⟨z, hz, c1, c2⟩ := b6 j hj
    have : z = y := inj hz hy (c1.symm.trans e)
    subst this
    exact c2
  obtain ⟨e1, e2, e3, e4⟩ := ent at_ cut ha hcut hq
  have h207 : T.2.1 207 = V.2.1 207 := (a1.1 207 (by decide) (by decide) (by decide)).trans b2
  have ent2 : ∀ j, j < many' → ∃ y, y < N ∧ T.2.1 206 j = nI y ∧ ¬ VS V y ∧ VS T y ∧ T.2.1 204 y = nI q ∧ ((T.2.1 205 y = 1 ∧ cR (dR2 L) (2 * k) (2 * y)) ∨ (T.2.1 205 y = -1 ∧ cR (dR2 L) (2 * k) (2 * y + 1))) := by
    intro j hj
    by_cases hj1 : j < many
    · obtain ⟨y, hy, c1, c2, c3, c4, c5⟩ := b6 j hj1
      obtain ⟨d1, d2, d3⟩ := a3 y hy c3
      exact ⟨y, hy, by rw [a4 j hj1]; exact c1, c2, d1, by rw [d2]; exact c4, by rw [d3]; exact c5⟩
    · obtain ⟨y, hy, c1, c2, c3, c4, b, c5, c6⟩ := a6 j (by omega) hj
      refine ⟨y, hy, c1, fun w => c2 (b5 y hy w).1, c3, c4.trans e3, ?_⟩
      rw [c6]
      exact sgn_step c5 e4
  have met2 : ∀ y, y < N → VS T y → VS V y ∨ ∃ j, j < many' ∧ T.2.1 206 j = nI y := by
    intro y hy hv
    rcases a5 y hy hv with w | ⟨j, w1, w2, w3⟩
    · rcases b7 y hy w with w | ⟨j, w1, w2⟩
      · exact Or.inl w
      · exact Or.inr ⟨j, by omega, by rw [a4 j w1]; exact w2⟩
    · exact Or.inr ⟨j, w2, w3⟩
  have hk : k < N ∧ VS U k := by
    obtain ⟨y, hy, c1, c2, c3, -⟩ := b6 0 (by omega)
    by_cases hkN : k < 2 ^ 31
    · have : y = k := (nI_eq (by omega) hkN).mp (c1.symm.trans b12)
      subst this
      exact ⟨hy, c3⟩
    · exfalso
      have hs := e4
      have h0 : cR (dR2 L) (2 * k) (2 * cut) ∨ cR (dR2 L) (2 * k) (2 * cut + 1) := by
        rcases hs with ⟨-, w⟩ | ⟨-, w⟩
        · exact Or.inl w
        · exact Or.inr w
      have h1 : ∀ z, cR (dR2 L) (2 * k) z → z / 2 = k := by
        intro z hz
        refine hz (fun z => z / 2 = k) (by omega) (fun u v w => ?_)
        obtain ⟨x, y', b, w1, w2⟩ := w
        have := hL x y' b w1
        have hb : bN b = 0 ∨ bN b = 1 := by unfold bN; split <;> omega
        constructor <;> intro <;> omega
      rcases h0 with w | w
      · have := h1 _ w; omega
      · have := h1 _ w; omega
  refine ⟨b1.trans a1.q, h207, by omega, by omega, fun y hy hv => ?_, ent2, met2, ?_, by omega, a9, fun w => ?_, by rw [a4 0 (by omega)]; exact b12, by rw [(a3 k hk.1 hk.2).2.2]; exact b13⟩
  · obtain ⟨c1, c2⟩ := b5 y hy hv
    obtain ⟨d1, d2, -⟩ := a3 y hy c1
    exact ⟨d1, d2.trans c2⟩
  · intro j hj y hy hyN z b hl
    by_cases hj1 : j < at_
    · rw [a4 j (by omega)] at hy
      obtain ⟨c1, c2⟩ := b8 j hj1 y hy hyN z b hl
      obtain ⟨d1, d2, d3⟩ := a3 z (hL _ _ _ hl).2 c1
      obtain ⟨-, f2, -⟩ := ent j y (by omega) hyN hy
      refine ⟨d1, ?_⟩
      rw [d3, (a3 y hyN f2).2.2]
      rcases c2 with c2 | c2
      · exact Or.inl c2
      · exact Or.inr (a10 c2)
    · have hje : j = at_ := by omega
      subst hje
      rw [a4 j ha] at hy
      have : y = cut := inj hyN hcut (hy.symm.trans hq)
      subst this
      obtain ⟨-, c2, c3⟩ := a8 z b hl
      rw [(a3 y hyN e2).2.2]
      exact ⟨c2, c3⟩
  · rcases a11 w with w | ⟨y, b, w1, w2⟩
    · exact b11 w
    · obtain ⟨hy, hyv, -⟩ := a8 y b w1
      have hyV : ¬ VS V y := fun q1 => e1 ((hV _ _ _ w1).mpr q1)
      obtain ⟨j, hj, hjy⟩ := (met2 y hy hyv).resolve_left hyV
      obtain ⟨y', hy', c1, -, -, -, c5⟩ := ent2 j hj
      have : y' = y := inj hy' hy (c1.symm.trans hjy)
      subst this
      exact sgn_ne c5 (sgn_step w1 e4) w2
theorem BI.exit (hN : N ≤ 400) (hL : ∀ x y b, L x y b → x < N ∧ y < N) (hS : ∀ x y b, L x y b → L y x b) (hV : ∀ x y b, L x y b → (VS V x ↔ VS V y)) (hk : k < N) (h : BI L N k q V U many many) : (∀ y, y < N → (VS U y ↔ VS V y ∨ cR (sR2 L) k y)) ∧ (∀ y, y < N → cR (sR2 L) k y → U.2.1 204 y = nI q) ∧ ((U.1 189 24 = 1 ∧ Tws L k) ∨ (U.1 189 24 = 0 ∧ ¬ Tws L k)) := by
  obtain ⟨b1, b2, b3, b4, b5, b6, b7, b8, b9, b10, b11, b12, b13⟩ := h
  have inj : ∀ {x y : Nat}, x < N → y < N → nI x = nI y → x = y := fun hx hy e => (nI_eq (by omega) (by omega)).mp e
  have ent : ∀ j y, j < many → y < N → U.2.1 206 j = nI y → ¬ VS V y ∧ VS U y ∧ U.2.1 204 y = nI q ∧ ((U.2.1 205 y = 1 ∧ cR (dR2 L) (2 * k) (2 * y)) ∨ (U.2.1 205 y = -1 ∧ cR (dR2 L) (2 * k) (2 * y + 1))) := by
    intro j y hj hy e
    obtain ⟨z, hz, c1, c2⟩ := b6 j hj
    have : z = y := inj hz hy (c1.symm.trans e)
    subst this
    exact c2
  have fwd : ∀ x y b, L x y b → (x < N ∧ ∃ j, j < many ∧ U.2.1 206 j = nI x) → (y < N ∧ ∃ j, j < many ∧ U.2.1 206 j = nI y) := by
    rintro x y b hl ⟨hx, j, hj, e⟩
    have hy := (hL _ _ _ hl).2
    obtain ⟨c1, -⟩ := b8 j hj x e hx y b hl
    rcases b7 y hy c1 with w | w
    · exact absurd ((hV _ _ _ hl).mpr w) (ent j x hj hx e).1
    · exact ⟨hy, w⟩
  have hC : ∀ y, cR (sR2 L) k y → (y < N ∧ ∃ j, j < many ∧ U.2.1 206 j = nI y) := by
    intro y hy
    refine hy (fun y => y < N ∧ ∃ j, j < many ∧ U.2.1 206 j = nI y) ⟨hk, 0, by omega, b12⟩ (fun u v w => ?_)
    obtain ⟨b, w⟩ := w
    exact ⟨fwd u v b w, fwd v u b (hS _ _ _ w)⟩
  have hC' : ∀ j y, j < many → y < N → U.2.1 206 j = nI y → cR (sR2 L) k y := by
    intro j y hj hy e
    obtain ⟨-, -, -, w⟩ := ent j y hj hy e
    rcases w with ⟨-, w⟩ | ⟨-, w⟩
    · have := dR2.half w
      rw [show 2 * k / 2 = k by omega, show 2 * y / 2 = y by omega] at this
      exact this
    · have := dR2.half w
      rw [show 2 * k / 2 = k by omega, show (2 * y + 1) / 2 = y by omega] at this
      exact this
  refine ⟨fun y hy => ⟨fun w => ?_, fun w => ?_⟩, fun y hy w => ?_, ?_⟩
  · rcases b7 y hy w with w | ⟨j, w1, w2⟩
    · exact Or.inl w
    · exact Or.inr (hC' j y w1 hy w2)
  · rcases w with w | w
    · exact (b5 y hy w).1
    · obtain ⟨-, j, w1, w2⟩ := hC y w
      exact (ent j y w1 hy w2).2.1
  · obtain ⟨-, j, w1, w2⟩ := hC y w
    exact (ent j y w1 hy w2).2.2.1
  · rcases b10 with w | w
    · refine Or.inr ⟨w, fun t => ?_⟩
      have hne : ¬ U.1 189 24 = 1 := by rw [w]; decide
      have sg : ∀ y, cR (sR2 L) k y → U.2.1 205 y = 1 ∨ U.2.1 205 y = -1 := by
        intro y hy
        obtain ⟨hyN, j, w1, w2⟩ := hC y hy
        rcases (ent j y w1 hyN w2).2.2.2 with w | w
        · exact Or.inl w.1
        · exact Or.inr w.1
      have lks : ∀ x y b, L x y b → cR (sR2 L) k x → U.2.1 205 y = sgn b (U.2.1 205 x) := by
        intro x y b hl hx
        obtain ⟨hxN, j, w1, w2⟩ := hC x hx
        exact (b8 j w1 x w2 hxN y b hl).2.resolve_right hne
      have key := t (fun u => cR (sR2 L) k (u / 2) → U.2.1 205 (u / 2) = if u % 2 = 0 then 1 else -1) (by
        intro _
        rw [show 2 * k / 2 = k by omega, if_pos (by omega)]
        exact b13) (by
        intro u v ⟨x, y, b, hl, hc⟩
        have h01 : (1 : Int32) ≠ -1 := by decide
        have hxy : cR (sR2 L) x y := cR.of ⟨b, hl⟩
        have hcc : cR (sR2 L) k x ↔ cR (sR2 L) k y := ⟨fun w => w.trans hxy, fun w => w.trans hxy.symm⟩
        have hu : u / 2 = x := by have : bN b = 0 ∨ bN b = 1 := by unfold bN; split <;> omega
                                  omega
        have hv : v / 2 = y := by have : bN b = 0 ∨ bN b = 1 := by unfold bN; split <;> omega
                                  omega
        rw [hu, hv]
        by_cases hx : cR (sR2 L) k x
        · have hy := hcc.mp hx
          have e1 := lks x y b hl hx
          have e2 := sg x hx
          rw [e1]
          cases b
          · have hm : u % 2 = v % 2 := by unfold bN at hc; simp at hc; omega
            rw [hm]
            exact ⟨fun w _ => w hx, fun w _ => w hy⟩
          · have hm : (u % 2 = 0 ∧ v % 2 = 1) ∨ (u % 2 = 1 ∧ v % 2 = 0) := by unfold bN at hc; simp at hc; omega
            show (_ → _) ↔ (_ → -(U.2.1 205 x) = _)
            rcases hm with ⟨m1, m2⟩ | ⟨m1, m2⟩ <;> rw [m1, m2] <;> rcases e2 with e2 | e2 <;> rw [e2] <;> simp [hx, hy] <;> decide
        · exact ⟨fun _ w => absurd (hcc.mpr w) hx, fun _ w => absurd w hx⟩)
      have k2 := key (by rw [show (2 * k + 1) / 2 = k by omega]; exact cR.rf _ _)
      rw [show (2 * k + 1) / 2 = k by omega, if_neg (by omega), b13] at k2
      exact absurd k2 (by decide)
    · exact Or.inl ⟨w, b11 w⟩
/-! all parts -/
noncomputable def fs (L : Nat → Nat → Bool → Prop) : Nat → Bool := fstB (sR2 L)
def MI (L : Nat → Nat → Bool → Prop) (N k : Nat) (T1 T : MS) : Prop := qKeep T1 T ∧ (∀ y, y < N → (VS T y ↔ ∃ m, m < k ∧ cR (sR2 L) m y)) ∧ (∀ y, y < N → ∀ m, m < k → fs L m = true → cR (sR2 L) m y → T.2.1 204 y = nI (cnt (fs L) m)) ∧ (∀ m, m < k → fs L m = true → (T.2.1 207 (cnt (fs L) m) = 1 ∧ Tws L m) ∨ (T.2.1 207 (cnt (fs L) m) = 0 ∧ ¬ Tws L m))
theorem MI.old (hk : k < N) (h : MI L N k V T) (hv : VS T k) : MI L N (k + 1) V T ∧ cnt (fs L) (k + 1) = cnt (fs L) k := by
  obtain ⟨h1, h2, h3, h4⟩ := h
  obtain ⟨m, hm, hc⟩ := (h2 k hk).mp hv
  have hf : ¬ fs L k = true := fun g => fstB_iff.mp g m hm hc
  refine ⟨⟨h1, fun y hy => ?_, fun y hy m' hm' g1 g2 => ?_, fun m' hm' g1 => ?_⟩, cnt_f hf⟩
  · rw [h2 y hy]
    constructor
    · rintro ⟨m', g1, g2⟩
      exact ⟨m', by omega, g2⟩
    · rintro ⟨m', g1, g2⟩
      by_cases e : m' = k
      · subst e
        exact ⟨m, hm, hc.trans g2⟩
      · exact ⟨m', by omega, g2⟩
  · have : m' ≠ k := fun e => hf (e ▸ g1)
    exact h3 y hy m' (by omega) g1 g2
  · have : m' ≠ k := fun e => hf (e ▸ g1)
    exact h4 m' (by omega) g1
theorem MI.closed (h : MI L N k V T) (hL : ∀ x y b, L x y b → x < N ∧ y < N) : ∀ x y b, L x y b → (VS T x ↔ VS T y) := by
  intro x y b hl
  obtain ⟨hx, hy⟩ := hL x y b hl
  have c : cR (sR2 L) x y := cR.of ⟨b, hl⟩
  rw [h.2.1 x hx, h.2.1 y hy]
  exact ⟨fun ⟨m, g1, g2⟩ => ⟨m, g1, g2.trans c⟩, fun ⟨m, g1, g2⟩ => ⟨m, g1, g2.trans c.symm⟩⟩
theorem MI.fst (hk : k < N) (h : MI L N k V T) (hv : T.2.1 204 k = -1) : fs L k = true := fstB_iff.mpr (fun m hm hc => (h.2.1 k hk).mpr ⟨m, hm, hc⟩ hv)
theorem MI.begin (hN : N ≤ 400) (hk : k < N) (hv : T.2.1 204 k = -1) : BI L N k q T ((((T.sa 204 k (nI q)).sa 205 k (nI 1)).sa 206 0 (nI k)).sf 189 24 (nI 0)) 0 1 ∨ ¬ q < 2 ^ 31 := by
  by_cases hq : q < 2 ^ 31
  · left
    have h4 : ∀ z, ((((T.sa 204 k (nI q)).sa 205 k (nI 1)).sa 206 0 (nI k)).sf 189 24 (nI 0)).2.1 204 z = if z = k then nI q else T.2.1 204 z := by
      intro z
      rw [sf_snd, sa_row _ _ _ _ (by decide), sa_row _ _ _ _ (by decide), sa_at]
    have h5 : ((((T.sa 204 k (nI q)).sa 205 k (nI 1)).sa 206 0 (nI k)).sf 189 24 (nI 0)).2.1 205 k = 1 := by
      rw [sf_snd, sa_row _ _ _ _ (by decide), sa_at, if_pos rfl]
      rfl
    have h6 : ((((T.sa 204 k (nI q)).sa 205 k (nI 1)).sa 206 0 (nI k)).sf 189 24 (nI 0)).2.1 206 0 = nI k := by
      rw [sf_snd, sa_at, if_pos rfl]
    have hV : ∀ z, VS ((((T.sa 204 k (nI q)).sa 205 k (nI 1)).sa 206 0 (nI k)).sf 189 24 (nI 0)) z ↔ z = k ∨ VS T z := by
      intro z
      unfold VS
      rw [h4]
      by_cases e : z = k
      · rw [if_pos e]
        exact ⟨fun _ => Or.inl e, fun _ => nI_ne1 hq⟩
      · rw [if_neg e]
        exact ⟨fun g => Or.inr g, fun g => g.resolve_left e⟩
    refine ⟨((((qKeep.rf T).sa (by omega) _ _).sa (by omega) _ _).sa (by omega) _ _).sf _, ?_, by omega, by omega, fun y hy g => ?_, fun j hj => ?_, fun y hy g => ?_, fun j hj => by omega, ?_, ?_, fun g => ?_, h6, h5⟩
    · rw [sf_snd, sa_row _ _ _ _ (by decide), sa_row _ _ _ _ (by decide), sa_row _ _ _ _ (by decide)]
    · have : y ≠ k := fun e => (e ▸ g : VS T k) hv
      rw [hV, h4, if_neg this]
      exact ⟨Or.inr g, rfl⟩
    · have hj0 : j = 0 := by omega
      subst hj0
      exact ⟨k, hk, h6, fun g => g hv, (hV k).mpr (Or.inl rfl), by rw [h4, if_pos rfl], Or.inl ⟨h5, cR.rf _ _⟩⟩
    · rcases (hV y).mp g with e | e
      · exact Or.inr ⟨0, by omega, by rw [h6, e]⟩
      · exact Or.inl e
    · exact cnt_up N hk (fun z hz => by
        unfold vb
        rw [h4, if_neg hz]) (by
        unfold vb
        rw [hv]
        rfl) (vb_iff.mpr ((hV k).mpr (Or.inl rfl)))
    · rw [sf_at, if_pos ⟨rfl, rfl⟩]
      exact Or.inl rfl
    · rw [sf_at, if_pos ⟨rfl, rfl⟩] at g
      cases g
  · exact Or.inr hq
theorem MI.new (hN : N ≤ 400) (hL : ∀ x y b, L x y b → x < N ∧ y < N) (hS : ∀ x y b, L x y b → L y x b) (hk : k < N) (h : MI L N k V T) (hv : T.2.1 204 k = -1) (g : BI L N k (cnt (fs L) k) T U many many) : MI L N (k + 1) V (U.sa 207 (cnt (fs L) k) (U.1 189 24)) ∧ cnt (fs L) (k + 1) = cnt (fs L) k + 1 := by
  have hcl := h.closed hL
  have hf := h.fst hk hv
  obtain ⟨e1, e2, e3⟩ := g.exit hN hL hS hcl hk
  obtain ⟨h1, h2, h3, h4⟩ := h
  have b5 := g.2.2.2.2.1
  have b2 := g.2.1
  have hVS : ∀ y, VS (U.sa 207 (cnt (fs L) k) (U.1 189 24)) y ↔ VS U y := fun y => by
    unfold VS
    rw [sa_row _ _ _ _ (by decide)]
  refine ⟨⟨(h1.trans g.1).sa (by omega) _ _, fun y hy => ?_, fun y hy m hm g1 g2 => ?_, fun m hm g1 => ?_⟩, cnt_t hf⟩
  · rw [hVS, e1 y hy, h2 y hy]
    constructor
    · rintro (⟨m, g1, g2⟩ | g2)
      · exact ⟨m, by omega, g2⟩
      · exact ⟨k, by omega, g2⟩
    · rintro ⟨m, g1, g2⟩
      by_cases e : m = k
      · subst e; exact Or.inr g2
      · exact Or.inl ⟨m, by omega, g2⟩
  · rw [sa_row _ _ _ _ (by decide)]
    by_cases e : m = k
    · subst e
      exact e2 y hy g2
    · have hvy : VS T y := (h2 y hy).mpr ⟨m, by omega, g2⟩
      rw [(b5 y hy hvy).2]
      exact h3 y hy m (by omega) g1 g2
  · by_cases e : m = k
    · subst e
      rw [sa_at, if_pos rfl]
      exact e3
    · have hlt : cnt (fs L) m < cnt (fs L) k := by
        have q1 := cnt_mono (fs L) (show m + 1 ≤ k by omega)
        rw [cnt_t g1] at q1
        omega
      rw [sa_at, if_neg (by omega), b2]
      exact h4 m (by omega) g1
end PT
