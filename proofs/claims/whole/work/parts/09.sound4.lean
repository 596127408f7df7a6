/-! each step of the abstract machine is the machine's: new cells, the library's methods -/
section AMV
variable {p : Program} {l : Launch} {e : Env} {R : Room} {s : State} {m : MethodId} {args : Array Value} {below : List Frame} {meth : Method} {c : Code} {Q : State → Prop}
variable {K : am_K} {X : am_X} {mi : Nat} {pc : Nat} {L : am_L} {st : List Value} {n : Nat} {h : am_H} {k j : Nat} {z : am_Z} {call : am_Cl} {len : Nat}
theorem am_nofloat : ∀ ci, ci < 8 → ∀ k, k < (am_C ci).2.2 → am_ty ci k ≠ .float := by
  intro ci h1 k h2
  rcases (show ci = 0 ∨ ci = 1 ∨ ci = 2 ∨ ci = 3 ∨ ci = 4 ∨ ci = 5 ∨ ci = 6 ∨ ci = 7 by omega) with rfl | rfl | rfl | rfl | rfl | rfl | rfl | rfl
  · revert k; decide +kernel
  · revert k; decide +kernel
  · revert k; decide +kernel
  · revert k; decide +kernel
  · revert k; decide +kernel
  · revert k; decide +kernel
  · revert k; decide +kernel
  · revert k; decide +kernel
theorem am_v_def (K : am_K) {ty : FieldType} (h : ty ≠ .float) : am_v K (defaultValue ty) = defaultValue ty := by
  cases ty <;> first | rfl | exact absurd rfl h
theorem am_s_new {q : Nat} (hA : am_At K X mi p R s m args meth c) (hd : decode (am_code mi) pc = .ok (.new q, 3)) (hx : am_ex X call mi (.new q) 3 pc L st n h k j = some (.inl z)) (hR : z.2.2.2.2.2.1 ≤ R.cells ∧ z.2.2.2.2.2.2 ≤ R.slots) (go : am_Go K mi p l e R s m args below meth c Q z) : am_Go K mi p l e R s m args below meth c Q (pc, L, st, n, h, k, j) := by
  obtain ⟨hex, hb, hml, hown, hts, hnm, hK, hF, hbs, hfr, hlo⟩ := hA
  dsimp only [am_ex] at hx
  split at hx
  · rename_i ci hg
    split at hx
    · rename_i hci
      obtain rfl := am_go_inj hx
      intro H locs ls hH hl
      obtain ⟨g1, g2, g3, g4⟩ := am_ckN_ok _ (am_find_in hg)
      have hc := am_cl_get ci hci
      have hKn := hK.1 ci _ hc
      refine am_sized hH hbs (fun hsz => ?_)
      refine W.newcK hex hb hown (hts _ g2) (hts _ g3) (hts _ g4) rfl hd hR.1 hR.2 hKn.2.1 hsz fun H1 kC hkC e1 z1 o1 => ?_
      refine go H1 locs ls ⟨?_, ?_, ?_⟩ hl
      · have hH1 : s.heap.size + k = K.1 + n := hH.1
        show s.heap.size + (k + 1) = K.1 + (n + 1)
        omega
      · show va_P (am_D K) am_cl (am_W K (n + 1) (am_up h n (.inr (ci, am_def ci)))) H1
        rw [am_W_push]
        have hk : ∀ (k : Nat) (x : Nat × va_E), (am_W K n h)[k]? = some x → H1[x.1]? = H[x.1]? := fun k x hx => o1 x.1 (hsz ▸ (hH.2.1 k x hx).lt)
        refine (hH.2.1.kept hk).app (fun k9 x hx => ?_)
        have hz : k9 < 1 := (List.getElem?_eq_some_iff.mp hx).1
        rw [show k9 = 0 by omega] at hx
        cases hx
        refine ⟨_, hc, (u_born (am_ty ci) hts (am_u_ok ci hci) hKn hkC e1 (am_ckT_ok ci hci)).to (fun i hi => ?_)⟩
        show defaultValue (am_ty ci i) = ((am_def ci).map (am_v K)).getD i .null
        have hi : i < (am_C ci).2.2 := hi
        unfold am_def
        rw [List.map_map, List.getD_eq_getElem?_getD, List.getElem?_map, List.getElem?_range hi]
        exact (am_v_def K (am_nofloat ci hci i hi)).symm
      · have h2 := hH.2.2
        refine ⟨Nat.le_trans h2.1 (by omega), fun x h3 h4 => (o1 x (by have := h2.1; omega)).trans (h2.2.1 x h3 h4), h2.2.2⟩
    · cases hx
  · cases hx
theorem am_zero_cell {t N : Nat} {at_ : ArrayType} (h : am_atype at_ = some t) (K : am_K) (cA : ClassId) : ∃ a0 : vp_A, am_e K (am_zero t N) = .inl (K.2.2.2.2 t, a0) ∧ vp_cell cA a0 = arrV cA N (fun _ => defaultValue (newarray.typeOf at_)) ∧ (am_tys K)[t]? = some (K.2.2.2.2 t, newarray.typeOf at_) := by
  unfold am_atype at h
  split at h
  · cases h; exact ⟨_, rfl, rfl, rfl⟩
  · cases h; exact ⟨_, rfl, rfl, rfl⟩
  · cases h; exact ⟨_, rfl, rfl, rfl⟩
  · cases h
theorem am_s_newarray {at_ : ArrayType} (hA : am_At K X mi p R s m args meth c) (hd : decode (am_code mi) pc = .ok (.newarray at_, 2)) (hx : am_ex X call mi (.newarray at_) 2 pc L st n h k j = some (.inl z)) (hR : z.2.2.2.2.2.1 ≤ R.cells ∧ z.2.2.2.2.2.2 ≤ R.slots) (go : am_Go K mi p l e R s m args below meth c Q z) : am_Go K mi p l e R s m args below meth c Q (pc, L, st, n, h, k, j) := by
  obtain ⟨hex, hb, hml, hown, hts, hnm, hK, hF, hbs, hfr, hlo⟩ := hA
  dsimp only [am_ex] at hx
  split at hx
  · rename_i t i9 r hg
    split at hx
    · rename_i hc
      obtain rfl := am_go_inj hx
      intro H locs ls hH hl
      have harr : (Cond.arrayClass (newarray.typeOf at_)).before args s = true := by
        unfold am_atype at hg
        split at hg
        · exact hts _ am_ac_i
        · exact hts _ am_ac_l
        · exact hts _ am_ac_z
        · cases hg
      have hby : i9.toNatClampNeg * componentBytes (newarray.typeOf at_) ≤ 536870912 := by
        have h8 : componentBytes (newarray.typeOf at_) ≤ 8 := by
          unfold am_atype at hg
          split at hg
          · decide
          · decide
          · decide
          · cases hg
        calc i9.toNatClampNeg * componentBytes (newarray.typeOf at_) ≤ 1000000 * 8 := Nat.mul_le_mul hc.2 h8
          _ ≤ 536870912 := by decide
      refine am_sized hH hbs (fun hsz => ?_)
      refine va_newaK hex hb harr (g := F0 m pc ls (.int i9 :: am_vs K r)) rfl hd rfl hc.1 rfl hby hR.1 hR.2 hsz fun H1 cA e1 z1 o1 hAr hNm => ?_
      obtain ⟨a0, w1, w2, w3⟩ := am_zero_cell (N := i9.toNatClampNeg) hg K cA
      have hcA : cA = K.2.2.2.2 t := by
        have h1 := (hK.2 t _ w3).2
        have h2 : s.vm.findClass ("[" ++ (newarray.typeOf at_).toString) = some (K.2.2.2.2 t) := by
          unfold am_atype at hg
          split at hg
          · exact h1
          · exact h1
          · exact h1
          · cases hg
        exact Option.some.inj (hNm.symm.trans h2)
      refine go H1 locs ls ⟨?_, ?_, ?_⟩ hl
      · have hH1 : s.heap.size + k = K.1 + n := hH.1
        show s.heap.size + (k + 1) = K.1 + (n + 1)
        omega
      · show va_P (am_D K) am_cl (am_W K (n + 1) (am_up h n (am_zero t i9.toNatClampNeg))) H1
        rw [am_W_push, w1]
        have hk : ∀ (k : Nat) (x : Nat × va_E), (am_W K n h)[k]? = some x → H1[x.1]? = H[x.1]? := fun k x hx => o1 x.1 (hsz ▸ (hH.2.1 k x hx).lt)
        refine (hH.2.1.kept hk).app (fun k9 x hx => ?_)
        have hz : k9 < 1 := (List.getElem?_eq_some_iff.mp hx).1
        rw [show k9 = 0 by omega] at hx
        cases hx
        show H1[K.1 + n]? = some (vp_cell _ _)
        rw [← hcA, w2]
        exact e1
      · have h2 := hH.2.2
        refine ⟨Nat.le_trans h2.1 (by omega), fun x h3 h4 => (o1 x (by have := h2.1; omega)).trans (h2.2.1 x h3 h4), h2.2.2⟩
    · cases hx
  · cases hx
theorem am_grid_get (K : am_K) (n : Nat) (h : am_H) (t N M : Nat) {q : Nat} : (q < n → am_grid n h t N M q = h q) ∧ (∀ i, i < N → am_grid n h t N M (n + 1 + i) = am_zero (t - 3) M) ∧ am_grid n h t N M n = .inl (t, N, .inr (.inr (.inr (.inr (fun i => if i < N then some (n + 1 + i) else none))))) := by
  refine ⟨fun hq => ?_, fun i hi => ?_, ?_⟩
  · unfold am_grid
    rw [if_neg (Nat.ne_of_lt hq), if_neg (fun a => by omega)]
  · unfold am_grid
    rw [if_neg (by omega), if_pos (by omega)]
  · unfold am_grid
    rw [if_pos rfl]
theorem am_outer (c : ClassId) (N h0 : Nat) : ∀ i : Nat, Jvm.Free.Multi.outerC c N h0 i = arrV c N (fun j => va_rf (if j < i then some (h0 + 1 + j) else none))
  | 0 => by
    show ({ cls := c, slots := Array.replicate N .null, vm := .none } : Cell) = _
    rw [arrV_new]
    refine congrArg (arrV c N) (funext fun j => ?_)
    simp [va_rf]
  | i + 1 => by
    show (Jvm.Free.Multi.outerC c N h0 i).setSlot i (.ref (h0 + 1 + i)) = _
    rw [am_outer c N h0 i, arrV_store]
    refine congrArg (arrV c N) (funext fun j => ?_)
    by_cases e : j = i
    · subst e
      simp [updV, va_rf]
    · by_cases h : j < i
      · simp [updV, e, h, Nat.lt_succ_of_lt h]
      · simp [updV, e, h, show ¬ j < i + 1 by omega]
theorem am_mna_row {q t : Nat} {ty : FieldType} {x9 y9 : Int32} {r : List Value} (hA : am_At K X mi p R s m args meth c) (hov : va_Nw (.arrayOver (.array ty)) s) (hac : Cond.arrayClass ty ∈ am_words) (ht : t = 3 ∨ t = 4) (hT : (am_tys K)[t]? = some (K.2.2.2.2 t, .array ty)) (hU : (am_tys K)[t - 3]? = some (K.2.2.2.2 (t - 3), ty)) (hnE : "[" ++ ty.toString = (FieldType.array ty).toString) (hra : ∀ cA, va_RA s cA ty → s.vm.findClass ("[" ++ ty.toString) = some cA)
    (hcl : Cond.classLink (am_cn (am_mc mi)) q ("[" ++ (FieldType.array ty).toString) ∈ am_words) (hz : ∀ M, ∃ a0 : vp_A, am_e K (am_zero (t - 3) M) = .inl (K.2.2.2.2 (t - 3), a0) ∧ ∀ c : ClassId, Jvm.Free.Multi.innerC c M (defaultValue ty) = vp_cell c a0) (hb8 : componentBytes ty ≤ 8) (hdf : fits ty (defaultValue ty) = true) (hdd : (defaultValue ty).isDefault = true)
    (hd : decode (am_code mi) pc = .ok (.multianewarray q 2, 4)) (hc : ¬ y9 < 0 ∧ ¬ x9 < 0 ∧ y9.toNatClampNeg ≤ 1000000 ∧ x9.toNatClampNeg ≤ 1000000) (hR : k + 1 + y9.toNatClampNeg ≤ R.cells ∧ j + y9.toNatClampNeg + y9.toNatClampNeg * x9.toNatClampNeg ≤ R.slots)
    (go : am_Go K mi p l e R s m args below meth c Q (pc + 4, L, .ref n :: r, n + 1 + y9.toNatClampNeg, am_grid n h t y9.toNatClampNeg x9.toNatClampNeg, k + 1 + y9.toNatClampNeg, j + y9.toNatClampNeg + y9.toNatClampNeg * x9.toNatClampNeg)) : am_Go K mi p l e R s m args below meth c Q (pc, L, .int x9 :: .int y9 :: r, n, h, k, j) := by
  obtain ⟨hex, hb, hml, hown, hts, hnm, hK, hF, hbs, hfr, hlo⟩ := hA
  intro H locs ls hH hl
  refine am_sized hH hbs (fun hsz => ?_)
  have hsz : H.size = K.1 + n := hsz
  have hH1 : s.heap.size + k = K.1 + n := hH.1
  have hr1 : k + (1 + y9.toNatClampNeg) ≤ R.cells := by omega
  have hr2 : j + (y9.toNatClampNeg + y9.toNatClampNeg * x9.toNatClampNeg) ≤ R.slots := by omega
  intro T hT9 Xs
  obtain ⟨vm₁, cA, comp, hW1, fA, fC, hO, -, X', step⟩ := Xs.multianewarray2F hex hown (hts _ hcl) (Jvm.Stand.arrayOver_alikeB (Vm.Alike.refl _) hov) (hts _ hac) (g := F0 m pc ls (.int x9 :: .int y9 :: am_vs K r)) rfl (by rw [hb]; exact hd) rfl hc.1 hc.2.1 (by omega) (by
    calc x9.toNatClampNeg * componentBytes ty ≤ 1000000 * 8 := Nat.mul_le_mul hc.2.2.2 hb8
      _ ≤ 536870912 := by decide) (by omega) hdf hdd hr1 hr2
  have hcA : cA = K.2.2.2.2 t := by
    have h1 := (hK.2 t _ hT).2
    exact Option.some.inj (fA.symm.trans h1)
  have hcE : comp = K.2.2.2.2 (t - 3) := by
    have h1 := hra _ (hK.2 (t - 3) _ hU).2
    rw [hnE] at h1
    exact Option.some.inj (fC.symm.trans h1)
  subst hcA
  subst hcE
  generalize hFF : Jvm.Free.Multi.fill (T.setVm vm₁) (K.2.2.2.2 t) (K.2.2.2.2 (t - 3)) y9.toNatClampNeg x9.toNatClampNeg (defaultValue ty) y9.toNatClampNeg = F at X' step
  have hTh : (T.setVm vm₁).heap = H := hT9
  obtain ⟨f1, f2, -, -⟩ := Jvm.Free.Multi.fill_facts (T.setVm vm₁) (K.2.2.2.2 t) (K.2.2.2.2 (t - 3)) y9.toNatClampNeg x9.toNatClampNeg (defaultValue ty) y9.toNatClampNeg
  rw [hFF, hTh] at f1 f2
  have hold : ∀ x : Nat, x < H.size → F.heap[x]? = H[x]? := fun x hx => by
    have := Jvm.Free.Multi.fill_old (T.setVm vm₁) (K.2.2.2.2 t) (K.2.2.2.2 (t - 3)) y9.toNatClampNeg x9.toNatClampNeg (defaultValue ty) (a := x) (by rw [hTh]; exact hx) y9.toNatClampNeg
    rw [hFF, hTh] at this
    exact this
  obtain ⟨a0, w1, w2⟩ := hz x9.toNatClampNeg
  have hrow : ∀ i : Nat, i < y9.toNatClampNeg → F.heap[H.size + 1 + i]? = some (vp_cell (K.2.2.2.2 (t - 3)) a0) := fun i hi => by
    have := Jvm.Free.Multi.fill_inner (T.setVm vm₁) (K.2.2.2.2 t) (K.2.2.2.2 (t - 3)) y9.toNatClampNeg x9.toNatClampNeg (defaultValue ty) y9.toNatClampNeg i hi
    rw [hFF, hTh, w2] at this
    exact this
  have hgo := go F.heap locs ls ⟨?_, ?_, ?_⟩ hl
  · obtain ⟨t9, a1, b1⟩ := hgo F rfl X'
    refine ⟨t9, step t9 ?_, b1⟩
    have e9 : T.heap.size = K.1 + n := by rw [hT9]; exact hsz
    rw [e9]
    exact a1
  · show s.heap.size + (k + 1 + y9.toNatClampNeg) = K.1 + (n + 1 + y9.toNatClampNeg)
    omega
  · intro q9 x hx
    obtain ⟨hq9, rfl⟩ := am_W_some K hx
    have hq9 : q9 < n + 1 + y9.toNatClampNeg := hq9
    by_cases c1 : q9 < n
    · show va_at (am_D K) am_cl (K.1 + q9, am_e K (am_grid n h t y9.toNatClampNeg x9.toNatClampNeg q9)) F.heap
      rw [(am_grid_get K n h t y9.toNatClampNeg x9.toNatClampNeg).1 c1]
      have hw := am_W_get K h c1
      exact (hH.2.1 _ _ hw).kept (hold _ ((hH.2.1 _ _ hw).lt))
    · by_cases c2 : q9 = n
      · subst c2
        show va_at (am_D K) am_cl (K.1 + q9, am_e K (am_grid q9 h t y9.toNatClampNeg x9.toNatClampNeg q9)) F.heap
        rw [(am_grid_get (q := 0) K q9 h t y9.toNatClampNeg x9.toNatClampNeg).2.2]
        show F.heap[K.1 + q9]? = some (vp_cell _ _)
        rw [← hsz, f2, am_outer]
        show some (arrV _ _ _) = some (arrV _ _ (fun i => va_rf ((if i < y9.toNatClampNeg then some (q9 + 1 + i) else none).map (fun k => K.1 + k))))
        refine congrArg (fun f => some (arrV _ _ f)) (funext fun i => ?_)
        by_cases hi : i < y9.toNatClampNeg
        · rw [if_pos hi, if_pos hi, hsz]
          exact congrArg Value.ref (show (K.1 + q9 + 1 + i : Nat) = K.1 + (q9 + 1 + i) by omega)
        · rw [if_neg hi, if_neg hi]
          rfl
      · have hi : q9 - (n + 1) < y9.toNatClampNeg := by omega
        have eq9 : q9 = n + 1 + (q9 - (n + 1)) := by omega
        show va_at (am_D K) am_cl (K.1 + q9, am_e K (am_grid n h t y9.toNatClampNeg x9.toNatClampNeg q9)) F.heap
        rw [eq9, (am_grid_get (q := 0) K n h t y9.toNatClampNeg x9.toNatClampNeg).2.1 _ hi, w1]
        show F.heap[K.1 + (n + 1 + (q9 - (n + 1)))]? = some (vp_cell _ _)
        rw [← hrow _ hi, hsz]
        congr 1
        omega
  · have h2 := hH.2.2
    exact ⟨by rw [f1]; have := h2.1; omega, fun x h3 h4 => (hold x (Nat.lt_of_lt_of_le h3 h2.1)).trans (h2.2.1 x h3 h4), h2.2.2⟩
end AMV
