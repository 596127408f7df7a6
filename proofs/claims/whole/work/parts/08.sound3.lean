/-! each step of the abstract machine is the machine's: stores, new cells -/
section AMU
variable {p : Program} {l : Launch} {e : Env} {R : Room} {s : State} {m : MethodId} {args : Array Value} {below : List Frame} {meth : Method} {c : Code} {Q : State → Prop}
variable {K : am_K} {X : am_X} {mi : Nat} {pc : Nat} {L : am_L} {st : List Value} {n : Nat} {h : am_H} {k j : Nat} {z : am_Z} {call : am_Cl} {len : Nat}
theorem am_s_iastore (hA : am_At K X mi p R s m args meth c) (hd : decode (am_code mi) pc = .ok (.iastore, 1)) (hx : am_ex X call mi .iastore 1 pc L st n h k j = some (.inl z)) (go : am_Go K mi p l e R s m args below meth c Q z) : am_Go K mi p l e R s m args below meth c Q (pc, L, st, n, h, k, j) := by
  obtain ⟨hex, hb, hml, hown, hts, hnm, hK, hF, hbs, hfr, hlo⟩ := hA
  dsimp only [am_ex] at hx
  split at hx
  · rename_i st1 h1 hg
    obtain rfl := am_go_inj hx
    intro H locs ls hH hl
    unfold am_astore at hg
    split at hg
    · rename_i x i9 a rest
      split at hg
      · rename_i u len f he
        split at hg
        · rename_i hc
          obtain ⟨ha, rfl, hin⟩ := hc
          cases hg
          have hw : (am_W K n h)[a]? = some (K.1 + a, .inl (K.2.2.2.2 0, len, .inl f)) := by rw [am_W_get K h ha, he]; rfl
          refine va_iast hex hb hK hH.2.1 (am_W_D K n h) hH.2.2 a 0 hw rfl (am_in_vp hin) hd (fun H1 locs1 hP1 _ hS1 => ?_)
          exact go H1 locs1 ls ⟨hH.1, (am_W_set K h ha (.inl (0, len, .inl (upd f i9.toNatClampNeg x)))) ▸ hP1, hS1⟩ hl
        · cases hg
      · cases hg
    · cases hg
  · cases hx
theorem am_s_bastore (hA : am_At K X mi p R s m args meth c) (hd : decode (am_code mi) pc = .ok (.bastore, 1)) (hx : am_ex X call mi .bastore 1 pc L st n h k j = some (.inl z)) (go : am_Go K mi p l e R s m args below meth c Q z) : am_Go K mi p l e R s m args below meth c Q (pc, L, st, n, h, k, j) := by
  obtain ⟨hex, hb, hml, hown, hts, hnm, hK, hF, hbs, hfr, hlo⟩ := hA
  dsimp only [am_ex] at hx
  split at hx
  · rename_i st1 h1 hg
    obtain rfl := am_go_inj hx
    intro H locs ls hH hl
    unfold am_astore at hg
    split at hg
    · rename_i x i9 a rest
      split at hg
      · rename_i u len f he
        split at hg
        · rename_i hc
          obtain ⟨ha, rfl, hin⟩ := hc
          cases hg
          have hw : (am_W K n h)[a]? = some (K.1 + a, .inl (K.2.2.2.2 2, len, .inl f)) := by rw [am_W_get K h ha, he]; rfl
          refine va_zast hex hb hK hH.2.1 (am_W_D K n h) hH.2.2 a 2 hw rfl (am_in_vp hin) hd (fun H1 locs1 hP1 _ hS1 => ?_)
          exact go H1 locs1 ls ⟨hH.1, (am_W_set K h ha (.inl (2, len, .inl (upd f i9.toNatClampNeg (vp_nar .boolean x))))) ▸ hP1, hS1⟩ hl
        · cases hg
      · cases hg
    · cases hg
  · cases hx
theorem am_s_lastore (hA : am_At K X mi p R s m args meth c) (hd : decode (am_code mi) pc = .ok (.lastore, 1)) (hx : am_ex X call mi .lastore 1 pc L st n h k j = some (.inl z)) (go : am_Go K mi p l e R s m args below meth c Q z) : am_Go K mi p l e R s m args below meth c Q (pc, L, st, n, h, k, j) := by
  obtain ⟨hex, hb, hml, hown, hts, hnm, hK, hF, hbs, hfr, hlo⟩ := hA
  dsimp only [am_ex] at hx
  split at hx
  · rename_i st1 h1 hg
    obtain rfl := am_go_inj hx
    intro H locs ls hH hl
    unfold am_last at hg
    split at hg
    · rename_i x i9 a rest
      split at hg
      · rename_i len f he
        split at hg
        · rename_i hc
          obtain ⟨ha, hin⟩ := hc
          cases hg
          have hw : (am_W K n h)[a]? = some (K.1 + a, .inl (K.2.2.2.2 1, len, .inr (.inl f))) := by rw [am_W_get K h ha, he]; rfl
          refine va_last hex hb hK hH.2.1 (am_W_D K n h) hH.2.2 a 1 hw rfl (am_in_vp hin) hd (fun H1 locs1 hP1 _ hS1 => ?_)
          exact go H1 locs1 ls ⟨hH.1, (am_W_set K h ha (.inl (1, len, .inr (.inl (vp_updL f i9.toNatClampNeg x))))) ▸ hP1, hS1⟩ hl
        · cases hg
      · cases hg
    · cases hg
  · cases hx
theorem am_over {ty : FieldType} {cA cE : ClassId} {U : State} (h : va_Nw (.arrayOver (.array ty)) U) (hA : U.vm.findClass ("[" ++ (FieldType.array ty).toString) = some cA) (hE : U.vm.findClass (FieldType.array ty).toString = some cE) : ∃ kA, U.vm.classes[cA]? = some kA ∧ kA.kind = .array cE (.array ty) := by
  obtain ⟨comp, c9, k9, h1, -, h3, h4, h5⟩ := Jvm.Stand.arrayOver_specB h
  cases h1.symm.trans hE
  cases h5.symm.trans hA
  exact ⟨k9, h3, h4⟩
theorem am_aast_row {ty : FieldType} {t u : Nat} (hA : am_At K X mi p R s m args meth c) (hov : va_Nw (.arrayOver (.array ty)) s) (hT : (am_tys K)[t]? = some (K.2.2.2.2 t, .array ty)) (hU : (am_tys K)[u]? = some (K.2.2.2.2 u, ty)) (hnE : "[" ++ ty.toString = (FieldType.array ty).toString) (hra : ∀ cA, va_RA s cA ty → s.vm.findClass ("[" ++ ty.toString) = some cA) {H : Heap} {locs : List Loc} {ls : Array Slot} (hH : am_Hp K n h s H locs k)
    {a v len len2 : Nat} {f : Nat → Option Nat} {g : (Nat → Int32) ⊕ (Nat → Int64) ⊕ (Nat → UInt32) ⊕ (Nat → UInt64) ⊕ (Nat → Option Nat)} {i9 : Int32} {rest : List Value} (ha : a < n) (hv : v < n) (he : h a = .inl (t, len, .inr (.inr (.inr (.inr f))))) (hv2 : h v = .inl (u, len2, g)) (hin : vp_in i9 len) (hd : decode (am_code mi) pc = .ok (.aastore, 1))
    (go : ∀ (H1 : Heap) (locs1 : List Loc), am_Hp K n (am_up h a (.inl (t, len, .inr (.inr (.inr (.inr (va_up f i9.toNatClampNeg (some v)))))))) s H1 locs1 k → W p l e R s m args below meth c H1 locs1 k j Q (F0 m (pc + 1) ls (am_vs K rest))) : W p l e R s m args below meth c H locs k j Q (F0 m pc ls (.ref (K.1 + v) :: .int i9 :: .ref (K.1 + a) :: am_vs K rest)) := by
  obtain ⟨hex, hb, hml, hown, hts, hnm, hK, hF, hbs, hfr, hlo⟩ := hA
  have hlt : i9.toNatClampNeg < len := Nat.not_le.mp fun q => hin (Or.inr q)
  have h0 : ¬ i9 < 0 := fun q => hin (Or.inl q)
  have hw : (am_W K n h)[a]? = some (K.1 + a, .inl (K.2.2.2.2 t, len, .inr (.inr (.inr (.inr (fun i => (f i).map (fun k => K.1 + k))))))) := by rw [am_W_get K h ha, he]; rfl
  have hwv : (am_W K n h)[v]? = some (K.1 + v, .inl (K.2.2.2.2 u, am_a K (len2, g))) := by rw [am_W_get K h hv, hv2]; rfl
  have hcA := (hK.2 t _ hT).2
  have hcE := hra _ (hK.2 u _ hU).2
  rw [hnE] at hcE
  have hcA : s.vm.findClass ("[" ++ (FieldType.array ty).toString) = some (K.2.2.2.2 t) := hcA
  obtain ⟨kA, hkA, hkind⟩ := am_over hov hcA hcE
  obtain ⟨kE, hkE, -⟩ := Vm.findClass_spec hcE
  have hcv : ∃ cv, H[K.1 + v]? = some cv ∧ cv.cls = K.2.2.2.2 u ∧ cv.vm = .none := by
    refine ⟨_, hH.2.1 v _ hwv, ?_, ?_⟩
    · rcases am_a K (len2, g) with ⟨n9, g9 | g9 | g9 | g9 | g9⟩ <;> rfl
    · rcases am_a K (len2, g) with ⟨n9, g9 | g9 | g9 | g9 | g9⟩ <;> rfl
  obtain ⟨cv, c1, c2, c3⟩ := hcv
  refine W.aast hex hb (hH.2.1 a _ hw) (fun q h => by cases h) (fun h => by cases h) hkA hkind rfl hkE ⟨h0, by show _ < (arrV _ _ _).slots.size; rw [arrV_size]; exact hlt⟩ c1 (fun q h => by rw [c3] at h; cases h) (by rw [c2]; exact hkE) (by rw [c2]; exact va_asg _ _) rfl rfl hd fun H1 e1 z oq => ?_
  have e9 : (va_up (fun i => (f i).map (fun k => K.1 + k)) i9.toNatClampNeg (some (K.1 + v)) : Nat → Option Nat) = fun i => (va_up f i9.toNatClampNeg (some v) i).map (fun k => K.1 + k) := by
    funext i
    by_cases hi : i = i9.toNatClampNeg <;> simp [va_up, hi]
  have hat : va_at (am_D K) am_cl (K.1 + a, .inl (K.2.2.2.2 t, len, .inr (.inr (.inr (.inr (va_up (fun i => (f i).map (fun k => K.1 + k)) i9.toNatClampNeg (some (K.1 + v)))))))) H1 := by
    show H1[K.1 + a]? = some (vp_cell _ _)
    rw [e1]
    rw [vp_cell_q, vp_cell_q, arrV_store]
    congr 2
    funext q
    by_cases hq : q = i9.toNatClampNeg
    · subst hq
      simp [updV, va_up, va_rf]
    · simp [updV, va_up, hq]
  have hP1 := hH.2.1.set (am_W_D K n h) hw hat oq
  rw [e9] at hP1
  have e10 := am_W_set K h ha (.inl (t, len, .inr (.inr (.inr (.inr (va_up f i9.toNatClampNeg (some v)))))))
  have e11 : am_e K (.inl (t, len, .inr (.inr (.inr (.inr (va_up f i9.toNatClampNeg (some v))))))) = .inl (K.2.2.2.2 t, len, .inr (.inr (.inr (.inr (fun i => (va_up f i9.toNatClampNeg (some v) i).map (fun k => K.1 + k)))))) := rfl
  rw [e11] at e10
  rw [e10] at hP1
  exact go H1 _ ⟨hH.1, hP1, hH.2.2.put z oq ((am_W_D K n h).2 a _ hw)⟩
theorem am_s_aastore (hA : am_At K X mi p R s m args meth c) (hd : decode (am_code mi) pc = .ok (.aastore, 1)) (hx : am_ex X call mi .aastore 1 pc L st n h k j = some (.inl z)) (go : am_Go K mi p l e R s m args below meth c Q z) : am_Go K mi p l e R s m args below meth c Q (pc, L, st, n, h, k, j) := by
  have hA' := hA
  obtain ⟨hex, hb, hml, hown, hts, hnm, hK, hF, hbs, hfr, hlo⟩ := hA
  dsimp only [am_ex] at hx
  split at hx
  · rename_i st1 h1 hg
    obtain rfl := am_go_inj hx
    intro H locs ls hH hl
    unfold am_aast at hg
    split at hg
    · rename_i v i9 a rest
      split at hg
      · rename_i t len f u len2 g he hv2
        split at hg
        · rename_i hc
          obtain ⟨ha, hv, ht, hin⟩ := hc
          cases hg
          rcases ht with ⟨rfl, rfl⟩ | ⟨rfl, rfl⟩
          · exact am_aast_row hA' hF.2.2.2.2.1 rfl rfl rfl (fun cA h => h) hH ha hv he hv2 (am_in_vp hin) hd (fun H1 locs1 hH1 => go H1 locs1 ls hH1 hl)
          · exact am_aast_row hA' hF.2.2.2.2.2 rfl rfl rfl (fun cA h => h) hH ha hv he hv2 (am_in_vp hin) hd (fun H1 locs1 hH1 => go H1 locs1 ls hH1 hl)
        · cases hg
      · cases hg
    · cases hg
  · cases hx
/-- how large the heap is -/
theorem am_sized {H : Heap} {locs : List Loc} {g : JFrame} (hH : am_Hp K n h s H locs k) (hbs : K.1 ≤ s.heap.size) (f : H.size = K.1 + n → W p l e R s m args below meth c H locs k j Q g) : W p l e R s m args below meth c H locs k j Q g := by
  intro T hT X9
  have h1 := X9.heapSize
  rw [hT] at h1
  refine f ?_ T hT X9
  have h2 : K.1 + n ≤ H.size := by
    by_cases h0 : n = 0
    · subst h0
      have := hH.2.2.1
      omega
    · have hw := am_W_get K h (show n - 1 < n by omega)
      have := (hH.2.1 _ _ hw).lt
      have e9 : K.1 + (n - 1) < H.size := this
      omega
  have h3 : s.heap.size + k = K.1 + n := hH.1
  omega
theorem am_W_push (K : am_K) (n : Nat) (h : am_H) (x : am_E) : am_W K (n + 1) (am_up h n x) = am_W K n h ++ [(K.1 + n, am_e K x)] := by
  unfold am_W
  rw [List.range_succ, List.map_append]
  congr 1
  · apply List.map_congr_left
    intro q hq
    have : q < n := List.mem_range.mp hq
    simp [am_up, Nat.ne_of_lt this]
  · simp [am_up]
end AMU
