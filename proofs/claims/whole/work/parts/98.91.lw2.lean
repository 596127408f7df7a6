/-! the law: from its start -/
theorem inv0 : Inv S0 0 (fun _ => none) (fun _ => 0) := by
  have gs : ∀ B J, S0.1 B 6 = nI 0 → GS S0 B 0 J := fun B J e => ⟨e, fun j hj => by omega, fun j hj => by omega⟩
  have m1 : ∀ s, s < 12 → S0.2.1 2 s = -1 := by decide +kernel
  have sh : ∀ i, i < 21 → S0.2.1 178 i = nI (sv S0 i) ∧ sv S0 i ≤ 1000 := by decide +kernel
  have sn : ∀ i, i < 21 → S0.2.1 192 i = nI (sv S0 i) ∧ sv S0 i ≤ 1000 := by decide +kernel
  refine ⟨GW.none, ⟨⟨⟨by decide +kernel, by decide +kernel, fun s hs => by omega, fun s _ hs => m1 s hs, fun s t c hs => by omega⟩, gs _ _ (by decide +kernel), gs _ _ (by decide +kernel), gs _ _ (by decide +kernel)⟩, sh, ⟨⟨⟨?_, ?_, ?_, ?_⟩, Or.inl ⟨rfl, rfl, rfl, rfl⟩⟩, Or.inl (by decide +kernel)⟩, Or.inl (by decide +kernel), ?_, ?_⟩, ⟨⟨by decide +kernel, fun s hs => by omega, fun s t c hs => by omega⟩, sn, fun i _ => rfl⟩⟩
  · intro i hi
    show 45 ≤ 44 + 1 + i ∧ 44 + 1 + i < 109
    omega
  · intro i j _ _ e
    have e : 44 + 1 + i = 44 + 1 + j := e
    omega
  · intro i hi
    show 112 ≤ 111 + 1 + i ∧ 111 + 1 + i < 176
    omega
  · intro i j _ _ e
    have e : 111 + 1 + i = 111 + 1 + j := e
    omega
  · intro i hi
    show 24 ≤ 23 + 1 + i ∧ 23 + 1 + i < 42
    omega
  · intro i j _ _ e
    have e : 23 + 1 + i = 23 + 1 + j := e
    omega
theorem am_law_of {K : Nat} {T : Nat → MT} {lab : Nat → List Nat} {mu : Nat → Nat} (hT : TabOK K T lab mu) (hV : CovH K T) : am_goal := by
  intro Ln xs hL
  refine AW.goal (X := (Ln, xs)) (Q := fun r => r.1 = some (.int 1) ∧ r.2.2.2.1 ≤ 600000 ∧ r.2.2.2.2 ≤ 7302250) (aw_law1 ?_)
  refine an_iconst 0 d181_16 rfl ?_
  refine as_istore_n d181_17 (by decide) ?_
  refine AW.loc [(3, .int (nI 0)), (2, .ref 189), (1, .ref 0), (0, .float 0)] (am_pick [0, 1, 2, 3] rfl rfl) ?_
  exact lw_loop (X := (Ln, xs)) hT hV hL (fun h => ⟨rfl, (by decide : 208 ≤ 600000), (by decide : 92206 ≤ 7302250)⟩) Ln 0 (Nat.le_refl _) (by omega) inv0
