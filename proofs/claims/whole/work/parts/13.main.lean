/-! a run of the abstract machine is a contract of the machine: the whole -/
section AMZ
variable {p : Program} {l : Launch} {e : Env} {R : Room} {s : State} {m : MethodId} {args : Array Value} {below : List Frame} {meth : Method} {c : Code} {Q : State → Prop}
variable {K : am_K} {X : am_X} {mi : Nat} {call : am_Cl}
theorem am_W_iter (hA : am_At K X mi p R s m args meth c) (hcall : am_Cok K X call) {r : am_R} (hr1 : r.2.2.2.1 ≤ R.cells) (hr2 : r.2.2.2.2 ≤ R.slots)
    (hend : ∀ (pc : Nat) (st : List Value) (H : Heap) (locs : List Loc) (ls : Array Slot), am_Rt mi pc st r.2.1 r.2.2.1 r.2.2.2.1 r.2.2.2.2 r → am_Hp K r.2.1 r.2.2.1 s H locs r.2.2.2.1 → W p l e R s m args below meth c H locs r.2.2.2.1 r.2.2.2.2 Q (F0 m pc ls (am_vs K st))) :
    ∀ (N : Nat) (z : am_Z), am_iter X call mi N z = some r → am_Go K mi p l e R s m args below meth c Q z
  | 0, z, hx => by cases hx
  | N + 1, (pc, L, st, n, h, k, j), hx => by
    unfold am_iter at hx
    split at hx
    · rename_i z1 hz
      have hc := am_ct_iter (fun mj as n h r q => (hcall mj as n h r q).1) N z1 r hx
      exact am_s_step hA hcall hz ⟨Nat.le_trans hc.2.1 hr1, Nat.le_trans hc.2.2 hr2⟩ (am_W_iter hA hcall hr1 hr2 hend N z1 hx)
    · rename_i r1 hz
      cases hx
      have hrt := am_rt_step hz
      have e9 : r.2.1 = n ∧ r.2.2.1 = h ∧ r.2.2.2.1 = k ∧ r.2.2.2.2 = j := by
        rcases hrt with ⟨v, -, -, -, rfl⟩ | ⟨v, -, -, -, rfl⟩ | ⟨-, -, -, rfl⟩ <;> exact ⟨rfl, rfl, rfl, rfl⟩
      obtain ⟨rfl, rfl, rfl, rfl⟩ := e9
      intro H locs ls hH hl
      exact hend pc st H locs ls hrt hH
    · cases hx
theorem am_Lm_args (K : am_K) : ∀ (as : List Value) (i : Nat), lv_args i (am_vs K as) = am_Lm K (lv_args i as)
  | [], i => rfl
  | v :: as, i => by
    show (i, am_v K v) :: lv_args (if (am_v K v).category = 2 then i + 2 else i + 1) (am_vs K as) = _
    rw [am_v_cat, am_Lm_args K as]
    rfl
theorem am_lg_len (K : am_K) : ∀ as : List Value, (lg_sl (am_vs K as)).length = (lg_sl as).length
  | [] => rfl
  | v :: as => by
    have ih := am_lg_len K as
    unfold lg_sl at ih ⊢
    simp only [List.map_cons, List.flatMap_cons, List.length_append, am_v_cat]
    rw [show ((am_vs K as).flatMap fun v => if v.category = 2 then [Slot.val v, Slot.second] else [Slot.val v]).length = (as.flatMap fun v => if v.category = 2 then [Slot.val v, Slot.second] else [Slot.val v]).length from ih]
    split <;> rfl
/-- the world at a walk's end -/
theorem am_end {n : Nat} {h : am_H} {k : Nat} {H : Heap} {locs : List Loc} (hA : am_At K X mi p R s m args meth c) (hH : am_Hp K n h s H locs k) (hsz : H.size = K.1 + n) (t : State) (ht : t.heap = H) (hW : s.WarmedH t.vm) : am_Wd K X n h t ∧ va_F (am_A K) s t := by
  obtain ⟨hex, hb, hml, hown, hts, hnm, hK, hF, hbs, hfr, hlo⟩ := hA
  have h1 : am_Fix K X s H := hF.kept (fun a h1 h2 => hH.2.2.2.1 a h1 h2)
  exact ⟨⟨by rw [ht]; exact hsz, by rw [ht]; exact hH.2.1, va_K.moved hW.alike hK, by rw [ht]; exact h1.moved hW⟩, hH.2.2.F ht⟩
theorem am_nar {v : Int32} (h : (v == 0 || v == 1) = true) : narrow .boolean (.int v) = .int v := by
  rcases Bool.or_eq_true_iff.mp h with h | h
  · rw [show v = 0 from by simpa using h]; rfl
  · rw [show v = 1 from by simpa using h]; rfl
theorem am_ok (K : am_K) (X : am_X) (N : Nat) : ∀ (d mj : Nat) (as : List Value) (n : Nat) (h : am_H) (r : am_R), am_run X N d mj as n h = some r → ∀ l, mj < 181 → am_Met K X l mj as n h r
  | 0, mj, as, n, h, r, hx => by cases hx
  | d + 1, mj, as, n, h, r, hx => by
    intro l hmj
    have hcall : am_Cok K X (am_run X N d) := fun mk bs n1 h1 r1 q => ⟨am_ct_run N d mk bs n1 h1 r1 q, am_ok K X N d mk bs n1 h1 r1 q⟩
    unfold am_run at hx
    split at hx
    · rename_i hlen
      have hm := am_ckM_ok mj hmj
      refine Met.ofW (cc := am_code mj) (maxL := am_maxL mj) (ret := am_ret mj) (am_nm hmj).1 rfl ?_
      intro p e s m args below meth c s₁ B hml hv
      obtain ⟨rfl, hsz, hP, hK, hF⟩ := hv
      have hts := atoms_spec (ws := am_ws mj) B.pre
      have hown : s.vm.findClass (am_cn (am_mc mj)) = some m.cls := by
        rw [← hm.2.2.1]
        exact findClass_of_methodNamed B.named
      have hA : am_At K X mj p (headSpec (am_ws mj) { frames := am_fr mj, cells := r.2.2.2.1, slots := r.2.2.2.2, locals := am_lo mj }).room s m (am_vs K as).toArray meth c :=
        ⟨B.exec, B.bytes, hml, hown, fun w hw => hts w (List.mem_cons_of_mem _ hw), fun q => (name_of_methodNamed B.named B.method).1.trans q, hK, hF, by rw [hsz]; exact Nat.le_add_right _ _, Nat.le_refl _, Nat.le_refl _⟩
      have hlocks := B.notSynchronized
      have hret := B.returns
      have hl := lv_entry (am_vs K as) (n := am_maxL mj) (by rw [am_lg_len]; exact hlen)
      rw [lg_entry_eq]
      generalize (lg_sl (am_vs K as) ++ List.replicate (am_maxL mj - (lg_sl (am_vs K as)).length) Slot.unset).toArray = ls at hl ⊢
      rw [am_Lm_args] at hl
      refine am_W_iter hA hcall (r := r) (Nat.le_refl _) (Nat.le_refl _) ?_ N _ hx s.heap [] ls ⟨by rw [hsz]; rfl, hP, va_S.rf⟩ hl
      intro pc st H locs ls hrt hH
      refine am_sized hH hA.2.2.2.2.2.2.2.2.1 (fun hsz2 => ?_)
      rcases hrt with ⟨v, hd, rfl, hr, he⟩ | ⟨v, hd, rfl, hr, he⟩ | ⟨hd, rfl, hr, he⟩
      · have hq : ∀ t : State, t.heap = H → s.WarmedH t.vm → am_Qc K X r (am_vs K as).toArray s (.returned (some (.int v))) t := fun t ht hW => ⟨by rw [he]; rfl, am_end hA hH hsz2 t ht hW⟩
        unfold am_ret1 at hr
        split at hr
        · rename_i hty
          exact W.iret B.exec B.bytes (hret.trans hty) hq hH.2.2.2.2 hd
        · rename_i hty
          exact W.zret B.exec B.bytes (hret.trans hty) (am_nar hr) hq hH.2.2.2.2 hd
        · cases hr
      · have hq : ∀ t : State, t.heap = H → s.WarmedH t.vm → am_Qc K X r (am_vs K as).toArray s (.returned (some (.long v))) t := fun t ht hW => ⟨by rw [he]; rfl, am_end hA hH hsz2 t ht hW⟩
        exact W.lret B.exec B.bytes (hret.trans hr) hq hH.2.2.2.2 hd
      · have hq : ∀ t : State, t.heap = H → s.WarmedH t.vm → am_Qc K X r (am_vs K as).toArray s (.returned none) t := fun t ht hW => ⟨by rw [he]; rfl, am_end hA hH hsz2 t ht hW⟩
        exact W.vret B.exec B.bytes (hret.trans hr) hq hH.2.2.2.2 hd
    · cases hx
end AMZ
