/-! each step of the abstract machine is the machine's -/
section AMS
variable {p : Program} {l : Launch} {e : Env} {R : Room} {s : State} {m : MethodId} {args : Array Value} {below : List Frame} {meth : Method} {c : Code} {Q : State → Prop}
def am_Go (K : am_K) (mi : Nat) (p : Program) (l : Launch) (e : Env) (R : Room) (s : State) (m : MethodId) (args : Array Value) (below : List Frame) (meth : Method) (c : Code) (Q : State → Prop) (z : am_Z) : Prop :=
  ∀ (H : Heap) (locs : List Loc) (ls : Array Slot), am_Hp K z.2.2.2.1 z.2.2.2.2.1 s H locs z.2.2.2.2.2.1 → lv_has ls (am_maxL mi) (am_Lm K z.2.1) → W p l e R s m args below meth c H locs z.2.2.2.2.2.1 z.2.2.2.2.2.2 Q (F0 m z.1 ls (am_vs K z.2.2.1))
theorem am_go_inj {pc : Nat} {L : am_L} {st : List Value} {n : Nat} {h : am_H} {k j : Nat} {z : am_Z} (hh : am_go pc L st n h k j = some (.inl z)) : z = (pc, L, st, n, h, k, j) := by
  unfold am_go at hh
  exact (Sum.inl.inj (Option.some.inj hh)).symm
theorem am_jmp_inj {pc : Nat} {off : Int} {L : am_L} {st : List Value} {n : Nat} {h : am_H} {k j : Nat} {z : am_Z} (hh : am_jmp pc off L st n h k j = some (.inl z)) : ∃ t : Nat, (pc : Int) + off = (t : Int) ∧ z = (t, L, st, n, h, k, j) := by
  unfold am_jmp at hh
  split at hh
  · rename_i h0
    exact ⟨_, (Int.toNat_of_nonneg h0).symm, am_go_inj hh⟩
  · cases hh
variable {K : am_K} {X : am_X} {mi : Nat} {pc : Nat} {L : am_L} {st : List Value} {n : Nat} {h : am_H} {k j : Nat} {z : am_Z} {call : am_Cl} {len : Nat}

theorem am_s_iconst {v : Int} (hA : am_At K X mi p R s m args meth c) (hd : decode (am_code mi) pc = .ok (.iconst v, 1)) (hx : am_ex X call mi (.iconst v) 1 pc L st n h k j = some (.inl z)) (go : am_Go K mi p l e R s m args below meth c Q z) : am_Go K mi p l e R s m args below meth c Q (pc, L, st, n, h, k, j) := by
  obtain ⟨hex, hb, hml, hown, hts, hnm, hK, hF, hbs, hfr, hlo⟩ := hA
  dsimp only [am_ex] at hx
  obtain rfl := am_go_inj hx
  intro H locs ls hH hl
  exact lv_iconst hex hb hd rfl (go H locs ls hH hl)
theorem am_s_bipush {v : Int} (hA : am_At K X mi p R s m args meth c) (hd : decode (am_code mi) pc = .ok (.bipush v, 2)) (hx : am_ex X call mi (.bipush v) 2 pc L st n h k j = some (.inl z)) (go : am_Go K mi p l e R s m args below meth c Q z) : am_Go K mi p l e R s m args below meth c Q (pc, L, st, n, h, k, j) := by
  obtain ⟨hex, hb, hml, hown, hts, hnm, hK, hF, hbs, hfr, hlo⟩ := hA
  dsimp only [am_ex] at hx
  obtain rfl := am_go_inj hx
  intro H locs ls hH hl
  exact lv_bipush hex hb hd rfl (go H locs ls hH hl)
theorem am_s_sipush {v : Int} (hA : am_At K X mi p R s m args meth c) (hd : decode (am_code mi) pc = .ok (.sipush v, 3)) (hx : am_ex X call mi (.sipush v) 3 pc L st n h k j = some (.inl z)) (go : am_Go K mi p l e R s m args below meth c Q z) : am_Go K mi p l e R s m args below meth c Q (pc, L, st, n, h, k, j) := by
  obtain ⟨hex, hb, hml, hown, hts, hnm, hK, hF, hbs, hfr, hlo⟩ := hA
  dsimp only [am_ex] at hx
  obtain rfl := am_go_inj hx
  intro H locs ls hH hl
  exact lv_sipush hex hb hd rfl (go H locs ls hH hl)
theorem am_s_lconst {v : Fin 2} (hA : am_At K X mi p R s m args meth c) (hd : decode (am_code mi) pc = .ok (.lconst v, 1)) (hx : am_ex X call mi (.lconst v) 1 pc L st n h k j = some (.inl z)) (go : am_Go K mi p l e R s m args below meth c Q z) : am_Go K mi p l e R s m args below meth c Q (pc, L, st, n, h, k, j) := by
  obtain ⟨hex, hb, hml, hown, hts, hnm, hK, hF, hbs, hfr, hlo⟩ := hA
  dsimp only [am_ex] at hx
  obtain rfl := am_go_inj hx
  intro H locs ls hH hl
  exact lv_lconst hex hb hd rfl (go H locs ls hH hl)
theorem am_s_ldc {q : Nat} (hA : am_At K X mi p R s m args meth c) (hd : decode (am_code mi) pc = .ok (.ldc q, 2)) (hx : am_ex X call mi (.ldc q) 2 pc L st n h k j = some (.inl z)) (go : am_Go K mi p l e R s m args below meth c Q z) : am_Go K mi p l e R s m args below meth c Q (pc, L, st, n, h, k, j) := by
  obtain ⟨hex, hb, hml, hown, hts, hnm, hK, hF, hbs, hfr, hlo⟩ := hA
  dsimp only [am_ex] at hx
  split at hx
  · rename_i v hv
    obtain rfl := am_go_inj hx
    intro H locs ls hH hl
    exact lv_ldc hex hb hown (hts _ (am_ckI_ok _ (am_find_in hv))) hd (go H locs ls hH hl)
  · cases hx
theorem am_s_ldc2_w {q : Nat} (hA : am_At K X mi p R s m args meth c) (hd : decode (am_code mi) pc = .ok (.ldc2_w q, 3)) (hx : am_ex X call mi (.ldc2_w q) 3 pc L st n h k j = some (.inl z)) (go : am_Go K mi p l e R s m args below meth c Q z) : am_Go K mi p l e R s m args below meth c Q (pc, L, st, n, h, k, j) := by
  obtain ⟨hex, hb, hml, hown, hts, hnm, hK, hF, hbs, hfr, hlo⟩ := hA
  dsimp only [am_ex] at hx
  split at hx
  · rename_i v hv
    obtain rfl := am_go_inj hx
    intro H locs ls hH hl
    exact lv_ldc2 hex hb hown (hts _ (am_ckL_ok _ (am_find_in hv))) hd (go H locs ls hH hl)
  · cases hx
theorem am_s_iload {i : Nat} (hA : am_At K X mi p R s m args meth c) (hd : decode (am_code mi) pc = .ok (.iload i, 2)) (hx : am_ex X call mi (.iload i) 2 pc L st n h k j = some (.inl z)) (go : am_Go K mi p l e R s m args below meth c Q z) : am_Go K mi p l e R s m args below meth c Q (pc, L, st, n, h, k, j) := by
  obtain ⟨hex, hb, hml, hown, hts, hnm, hK, hF, hbs, hfr, hlo⟩ := hA
  dsimp only [am_ex] at hx
  split at hx
  · rename_i v hv
    obtain rfl := am_go_inj hx
    intro H locs ls hH hl
    exact lv_iload hex hb hd (am_ld_in hl hv) (go H locs ls hH hl)
  · cases hx
theorem am_s_lload {i : Nat} (hA : am_At K X mi p R s m args meth c) (hd : decode (am_code mi) pc = .ok (.lload i, 2)) (hx : am_ex X call mi (.lload i) 2 pc L st n h k j = some (.inl z)) (go : am_Go K mi p l e R s m args below meth c Q z) : am_Go K mi p l e R s m args below meth c Q (pc, L, st, n, h, k, j) := by
  obtain ⟨hex, hb, hml, hown, hts, hnm, hK, hF, hbs, hfr, hlo⟩ := hA
  dsimp only [am_ex] at hx
  split at hx
  · rename_i v hv
    obtain rfl := am_go_inj hx
    intro H locs ls hH hl
    exact lv_lload hex hb hd (am_ld_in hl hv) (go H locs ls hH hl)
  · cases hx
theorem am_s_iload_n {i : Fin 4} (hA : am_At K X mi p R s m args meth c) (hd : decode (am_code mi) pc = .ok (.iload_n i, 1)) (hx : am_ex X call mi (.iload_n i) 1 pc L st n h k j = some (.inl z)) (go : am_Go K mi p l e R s m args below meth c Q z) : am_Go K mi p l e R s m args below meth c Q (pc, L, st, n, h, k, j) := by
  obtain ⟨hex, hb, hml, hown, hts, hnm, hK, hF, hbs, hfr, hlo⟩ := hA
  dsimp only [am_ex] at hx
  split at hx
  · rename_i v hv
    obtain rfl := am_go_inj hx
    intro H locs ls hH hl
    exact lv_iload_n hex hb hd rfl (am_ld_in hl hv) (go H locs ls hH hl)
  · cases hx
theorem am_s_lload_n {i : Fin 4} (hA : am_At K X mi p R s m args meth c) (hd : decode (am_code mi) pc = .ok (.lload_n i, 1)) (hx : am_ex X call mi (.lload_n i) 1 pc L st n h k j = some (.inl z)) (go : am_Go K mi p l e R s m args below meth c Q z) : am_Go K mi p l e R s m args below meth c Q (pc, L, st, n, h, k, j) := by
  obtain ⟨hex, hb, hml, hown, hts, hnm, hK, hF, hbs, hfr, hlo⟩ := hA
  dsimp only [am_ex] at hx
  split at hx
  · rename_i v hv
    obtain rfl := am_go_inj hx
    intro H locs ls hH hl
    exact lv_lload_n hex hb hd rfl (am_ld_in hl hv) (go H locs ls hH hl)
  · cases hx
theorem am_s_aload_n {i : Fin 4} (hA : am_At K X mi p R s m args meth c) (hd : decode (am_code mi) pc = .ok (.aload_n i, 1)) (hx : am_ex X call mi (.aload_n i) 1 pc L st n h k j = some (.inl z)) (go : am_Go K mi p l e R s m args below meth c Q z) : am_Go K mi p l e R s m args below meth c Q (pc, L, st, n, h, k, j) := by
  obtain ⟨hex, hb, hml, hown, hts, hnm, hK, hF, hbs, hfr, hlo⟩ := hA
  dsimp only [am_ex] at hx
  split at hx
  · rename_i v hv
    obtain rfl := am_go_inj hx
    intro H locs ls hH hl
    exact lv_aload_n hex hb hd rfl (am_ld_in hl hv) (go H locs ls hH hl)
  · rename_i v hv
    obtain rfl := am_go_inj hx
    intro H locs ls hH hl
    exact lv_aload_n hex hb hd rfl (am_ld_in hl hv) (go H locs ls hH hl)
  · cases hx
theorem am_s_istore {i : Nat} (hA : am_At K X mi p R s m args meth c) (hd : decode (am_code mi) pc = .ok (.istore i, 2)) (hx : am_ex X call mi (.istore i) 2 pc L st n h k j = some (.inl z)) (go : am_Go K mi p l e R s m args below meth c Q z) : am_Go K mi p l e R s m args below meth c Q (pc, L, st, n, h, k, j) := by
  obtain ⟨hex, hb, hml, hown, hts, hnm, hK, hF, hbs, hfr, hlo⟩ := hA
  dsimp only [am_ex] at hx
  split at hx
  · split at hx
    · rename_i hi
      obtain rfl := am_go_inj hx
      intro H locs ls hH hl
      exact lv_istore hex hb hd hl hi (am_Lm_st1 K L _ (.int _)) (fun ls' hl' => go H locs ls' hH hl')
    · cases hx
  · cases hx
theorem am_s_istore_n {i : Fin 4} (hA : am_At K X mi p R s m args meth c) (hd : decode (am_code mi) pc = .ok (.istore_n i, 1)) (hx : am_ex X call mi (.istore_n i) 1 pc L st n h k j = some (.inl z)) (go : am_Go K mi p l e R s m args below meth c Q z) : am_Go K mi p l e R s m args below meth c Q (pc, L, st, n, h, k, j) := by
  obtain ⟨hex, hb, hml, hown, hts, hnm, hK, hF, hbs, hfr, hlo⟩ := hA
  dsimp only [am_ex] at hx
  split at hx
  · split at hx
    · rename_i hi
      obtain rfl := am_go_inj hx
      intro H locs ls hH hl
      exact lv_istore_n hex hb hd rfl hl hi (am_Lm_st1 K L _ (.int _)) (fun ls' hl' => go H locs ls' hH hl')
    · cases hx
  · cases hx
theorem am_s_lstore {i : Nat} (hA : am_At K X mi p R s m args meth c) (hd : decode (am_code mi) pc = .ok (.lstore i, 2)) (hx : am_ex X call mi (.lstore i) 2 pc L st n h k j = some (.inl z)) (go : am_Go K mi p l e R s m args below meth c Q z) : am_Go K mi p l e R s m args below meth c Q (pc, L, st, n, h, k, j) := by
  obtain ⟨hex, hb, hml, hown, hts, hnm, hK, hF, hbs, hfr, hlo⟩ := hA
  dsimp only [am_ex] at hx
  split at hx
  · split at hx
    · rename_i hi
      obtain rfl := am_go_inj hx
      intro H locs ls hH hl
      exact lv_lstore hex hb hd hl hi (am_Lm_st2 K L _ (.long _)) (fun ls' hl' => go H locs ls' hH hl')
    · cases hx
  · cases hx
theorem am_s_lstore_n {i : Fin 4} (hA : am_At K X mi p R s m args meth c) (hd : decode (am_code mi) pc = .ok (.lstore_n i, 1)) (hx : am_ex X call mi (.lstore_n i) 1 pc L st n h k j = some (.inl z)) (go : am_Go K mi p l e R s m args below meth c Q z) : am_Go K mi p l e R s m args below meth c Q (pc, L, st, n, h, k, j) := by
  obtain ⟨hex, hb, hml, hown, hts, hnm, hK, hF, hbs, hfr, hlo⟩ := hA
  dsimp only [am_ex] at hx
  split at hx
  · split at hx
    · rename_i hi
      obtain rfl := am_go_inj hx
      intro H locs ls hH hl
      exact lv_lstore_n hex hb hd rfl hl hi (am_Lm_st2 K L _ (.long _)) (fun ls' hl' => go H locs ls' hH hl')
    · cases hx
  · cases hx
theorem am_s_astore_n {i : Fin 4} (hA : am_At K X mi p R s m args meth c) (hd : decode (am_code mi) pc = .ok (.astore_n i, 1)) (hx : am_ex X call mi (.astore_n i) 1 pc L st n h k j = some (.inl z)) (go : am_Go K mi p l e R s m args below meth c Q z) : am_Go K mi p l e R s m args below meth c Q (pc, L, st, n, h, k, j) := by
  obtain ⟨hex, hb, hml, hown, hts, hnm, hK, hF, hbs, hfr, hlo⟩ := hA
  dsimp only [am_ex] at hx
  split at hx
  · split at hx
    · rename_i hi
      obtain rfl := am_go_inj hx
      intro H locs ls hH hl
      exact lv_astore_n hex hb hd rfl hl hi (am_Lm_st1 K L _ (.ref _)) (fun ls' hl' => go H locs ls' hH hl')
    · cases hx
  · cases hx
theorem am_s_iinc {i : Nat} {v : Int} (hA : am_At K X mi p R s m args meth c) (hd : decode (am_code mi) pc = .ok (.iinc i v, 3)) (hx : am_ex X call mi (.iinc i v) 3 pc L st n h k j = some (.inl z)) (go : am_Go K mi p l e R s m args below meth c Q z) : am_Go K mi p l e R s m args below meth c Q (pc, L, st, n, h, k, j) := by
  obtain ⟨hex, hb, hml, hown, hts, hnm, hK, hF, hbs, hfr, hlo⟩ := hA
  dsimp only [am_ex] at hx
  split at hx
  · rename_i x hv
    split at hx
    · rename_i hi
      obtain rfl := am_go_inj hx
      intro H locs ls hH hl
      obtain ⟨q, hq⟩ := am_ld_pos (K := K) hv
      exact lv_iinc hex hb hd hl hq rfl hi (am_Lm_st1 K L _ (.int _)) (fun ls' hl' => go H locs ls' hH hl')
    · cases hx
  · cases hx
theorem am_s_iadd  (hA : am_At K X mi p R s m args meth c) (hd : decode (am_code mi) pc = .ok (.iadd, 1)) (hx : am_ex X call mi (.iadd) 1 pc L st n h k j = some (.inl z)) (go : am_Go K mi p l e R s m args below meth c Q z) : am_Go K mi p l e R s m args below meth c Q (pc, L, st, n, h, k, j) := by
  obtain ⟨hex, hb, hml, hown, hts, hnm, hK, hF, hbs, hfr, hlo⟩ := hA
  dsimp only [am_ex] at hx
  split at hx
  · obtain rfl := am_go_inj hx
    intro H locs ls hH hl
    exact lv_iadd hex hb hd (go H locs ls hH hl)
  · cases hx
theorem am_s_isub  (hA : am_At K X mi p R s m args meth c) (hd : decode (am_code mi) pc = .ok (.isub, 1)) (hx : am_ex X call mi (.isub) 1 pc L st n h k j = some (.inl z)) (go : am_Go K mi p l e R s m args below meth c Q z) : am_Go K mi p l e R s m args below meth c Q (pc, L, st, n, h, k, j) := by
  obtain ⟨hex, hb, hml, hown, hts, hnm, hK, hF, hbs, hfr, hlo⟩ := hA
  dsimp only [am_ex] at hx
  split at hx
  · obtain rfl := am_go_inj hx
    intro H locs ls hH hl
    exact lv_isub hex hb hd (go H locs ls hH hl)
  · cases hx
theorem am_s_imul  (hA : am_At K X mi p R s m args meth c) (hd : decode (am_code mi) pc = .ok (.imul, 1)) (hx : am_ex X call mi (.imul) 1 pc L st n h k j = some (.inl z)) (go : am_Go K mi p l e R s m args below meth c Q z) : am_Go K mi p l e R s m args below meth c Q (pc, L, st, n, h, k, j) := by
  obtain ⟨hex, hb, hml, hown, hts, hnm, hK, hF, hbs, hfr, hlo⟩ := hA
  dsimp only [am_ex] at hx
  split at hx
  · obtain rfl := am_go_inj hx
    intro H locs ls hH hl
    exact lv_imul hex hb hd (go H locs ls hH hl)
  · cases hx
theorem am_s_iand  (hA : am_At K X mi p R s m args meth c) (hd : decode (am_code mi) pc = .ok (.iand, 1)) (hx : am_ex X call mi (.iand) 1 pc L st n h k j = some (.inl z)) (go : am_Go K mi p l e R s m args below meth c Q z) : am_Go K mi p l e R s m args below meth c Q (pc, L, st, n, h, k, j) := by
  obtain ⟨hex, hb, hml, hown, hts, hnm, hK, hF, hbs, hfr, hlo⟩ := hA
  dsimp only [am_ex] at hx
  split at hx
  · obtain rfl := am_go_inj hx
    intro H locs ls hH hl
    exact lv_iand hex hb hd (go H locs ls hH hl)
  · cases hx
theorem am_s_ior  (hA : am_At K X mi p R s m args meth c) (hd : decode (am_code mi) pc = .ok (.ior, 1)) (hx : am_ex X call mi (.ior) 1 pc L st n h k j = some (.inl z)) (go : am_Go K mi p l e R s m args below meth c Q z) : am_Go K mi p l e R s m args below meth c Q (pc, L, st, n, h, k, j) := by
  obtain ⟨hex, hb, hml, hown, hts, hnm, hK, hF, hbs, hfr, hlo⟩ := hA
  dsimp only [am_ex] at hx
  split at hx
  · obtain rfl := am_go_inj hx
    intro H locs ls hH hl
    exact lv_ior hex hb hd (go H locs ls hH hl)
  · cases hx
theorem am_s_ixor  (hA : am_At K X mi p R s m args meth c) (hd : decode (am_code mi) pc = .ok (.ixor, 1)) (hx : am_ex X call mi (.ixor) 1 pc L st n h k j = some (.inl z)) (go : am_Go K mi p l e R s m args below meth c Q z) : am_Go K mi p l e R s m args below meth c Q (pc, L, st, n, h, k, j) := by
  obtain ⟨hex, hb, hml, hown, hts, hnm, hK, hF, hbs, hfr, hlo⟩ := hA
  dsimp only [am_ex] at hx
  split at hx
  · obtain rfl := am_go_inj hx
    intro H locs ls hH hl
    exact lv_ixor hex hb hd (go H locs ls hH hl)
  · cases hx
theorem am_s_ishl  (hA : am_At K X mi p R s m args meth c) (hd : decode (am_code mi) pc = .ok (.ishl, 1)) (hx : am_ex X call mi (.ishl) 1 pc L st n h k j = some (.inl z)) (go : am_Go K mi p l e R s m args below meth c Q z) : am_Go K mi p l e R s m args below meth c Q (pc, L, st, n, h, k, j) := by
  obtain ⟨hex, hb, hml, hown, hts, hnm, hK, hF, hbs, hfr, hlo⟩ := hA
  dsimp only [am_ex] at hx
  split at hx
  · obtain rfl := am_go_inj hx
    intro H locs ls hH hl
    exact lv_ishl hex hb hd (go H locs ls hH hl)
  · cases hx
theorem am_s_ishr  (hA : am_At K X mi p R s m args meth c) (hd : decode (am_code mi) pc = .ok (.ishr, 1)) (hx : am_ex X call mi (.ishr) 1 pc L st n h k j = some (.inl z)) (go : am_Go K mi p l e R s m args below meth c Q z) : am_Go K mi p l e R s m args below meth c Q (pc, L, st, n, h, k, j) := by
  obtain ⟨hex, hb, hml, hown, hts, hnm, hK, hF, hbs, hfr, hlo⟩ := hA
  dsimp only [am_ex] at hx
  split at hx
  · obtain rfl := am_go_inj hx
    intro H locs ls hH hl
    exact lv_ishr hex hb hd (go H locs ls hH hl)
  · cases hx
theorem am_s_ineg  (hA : am_At K X mi p R s m args meth c) (hd : decode (am_code mi) pc = .ok (.ineg, 1)) (hx : am_ex X call mi (.ineg) 1 pc L st n h k j = some (.inl z)) (go : am_Go K mi p l e R s m args below meth c Q z) : am_Go K mi p l e R s m args below meth c Q (pc, L, st, n, h, k, j) := by
  obtain ⟨hex, hb, hml, hown, hts, hnm, hK, hF, hbs, hfr, hlo⟩ := hA
  dsimp only [am_ex] at hx
  split at hx
  · obtain rfl := am_go_inj hx
    intro H locs ls hH hl
    exact lv_ineg hex hb hd (go H locs ls hH hl)
  · cases hx
theorem am_s_ladd  (hA : am_At K X mi p R s m args meth c) (hd : decode (am_code mi) pc = .ok (.ladd, 1)) (hx : am_ex X call mi (.ladd) 1 pc L st n h k j = some (.inl z)) (go : am_Go K mi p l e R s m args below meth c Q z) : am_Go K mi p l e R s m args below meth c Q (pc, L, st, n, h, k, j) := by
  obtain ⟨hex, hb, hml, hown, hts, hnm, hK, hF, hbs, hfr, hlo⟩ := hA
  dsimp only [am_ex] at hx
  split at hx
  · obtain rfl := am_go_inj hx
    intro H locs ls hH hl
    exact lv_ladd hex hb hd (go H locs ls hH hl)
  · cases hx
theorem am_s_lsub  (hA : am_At K X mi p R s m args meth c) (hd : decode (am_code mi) pc = .ok (.lsub, 1)) (hx : am_ex X call mi (.lsub) 1 pc L st n h k j = some (.inl z)) (go : am_Go K mi p l e R s m args below meth c Q z) : am_Go K mi p l e R s m args below meth c Q (pc, L, st, n, h, k, j) := by
  obtain ⟨hex, hb, hml, hown, hts, hnm, hK, hF, hbs, hfr, hlo⟩ := hA
  dsimp only [am_ex] at hx
  split at hx
  · obtain rfl := am_go_inj hx
    intro H locs ls hH hl
    exact lv_lsub hex hb hd (go H locs ls hH hl)
  · cases hx
theorem am_s_lmul  (hA : am_At K X mi p R s m args meth c) (hd : decode (am_code mi) pc = .ok (.lmul, 1)) (hx : am_ex X call mi (.lmul) 1 pc L st n h k j = some (.inl z)) (go : am_Go K mi p l e R s m args below meth c Q z) : am_Go K mi p l e R s m args below meth c Q (pc, L, st, n, h, k, j) := by
  obtain ⟨hex, hb, hml, hown, hts, hnm, hK, hF, hbs, hfr, hlo⟩ := hA
  dsimp only [am_ex] at hx
  split at hx
  · obtain rfl := am_go_inj hx
    intro H locs ls hH hl
    exact lv_lmul hex hb hd (go H locs ls hH hl)
  · cases hx
theorem am_s_lneg  (hA : am_At K X mi p R s m args meth c) (hd : decode (am_code mi) pc = .ok (.lneg, 1)) (hx : am_ex X call mi (.lneg) 1 pc L st n h k j = some (.inl z)) (go : am_Go K mi p l e R s m args below meth c Q z) : am_Go K mi p l e R s m args below meth c Q (pc, L, st, n, h, k, j) := by
  obtain ⟨hex, hb, hml, hown, hts, hnm, hK, hF, hbs, hfr, hlo⟩ := hA
  dsimp only [am_ex] at hx
  split at hx
  · obtain rfl := am_go_inj hx
    intro H locs ls hH hl
    exact lv_lneg hex hb hd (go H locs ls hH hl)
  · cases hx
theorem am_s_idiv  (hA : am_At K X mi p R s m args meth c) (hd : decode (am_code mi) pc = .ok (.idiv, 1)) (hx : am_ex X call mi (.idiv) 1 pc L st n h k j = some (.inl z)) (go : am_Go K mi p l e R s m args below meth c Q z) : am_Go K mi p l e R s m args below meth c Q (pc, L, st, n, h, k, j) := by
  obtain ⟨hex, hb, hml, hown, hts, hnm, hK, hF, hbs, hfr, hlo⟩ := hA
  dsimp only [am_ex] at hx
  split at hx
  · split at hx
    · rename_i hne
      obtain rfl := am_go_inj hx
      intro H locs ls hH hl
      exact lv_idiv hex hb hd hne (go H locs ls hH hl)
    · cases hx
  · cases hx
theorem am_s_irem  (hA : am_At K X mi p R s m args meth c) (hd : decode (am_code mi) pc = .ok (.irem, 1)) (hx : am_ex X call mi (.irem) 1 pc L st n h k j = some (.inl z)) (go : am_Go K mi p l e R s m args below meth c Q z) : am_Go K mi p l e R s m args below meth c Q (pc, L, st, n, h, k, j) := by
  obtain ⟨hex, hb, hml, hown, hts, hnm, hK, hF, hbs, hfr, hlo⟩ := hA
  dsimp only [am_ex] at hx
  split at hx
  · split at hx
    · rename_i hne
      obtain rfl := am_go_inj hx
      intro H locs ls hH hl
      exact lv_irem hex hb hd hne (go H locs ls hH hl)
    · cases hx
  · cases hx
theorem am_s_ldiv  (hA : am_At K X mi p R s m args meth c) (hd : decode (am_code mi) pc = .ok (.ldiv, 1)) (hx : am_ex X call mi (.ldiv) 1 pc L st n h k j = some (.inl z)) (go : am_Go K mi p l e R s m args below meth c Q z) : am_Go K mi p l e R s m args below meth c Q (pc, L, st, n, h, k, j) := by
  obtain ⟨hex, hb, hml, hown, hts, hnm, hK, hF, hbs, hfr, hlo⟩ := hA
  dsimp only [am_ex] at hx
  split at hx
  · split at hx
    · rename_i hne
      obtain rfl := am_go_inj hx
      intro H locs ls hH hl
      exact lv_ldiv hex hb hd hne (go H locs ls hH hl)
    · cases hx
  · cases hx
theorem am_s_lrem  (hA : am_At K X mi p R s m args meth c) (hd : decode (am_code mi) pc = .ok (.lrem, 1)) (hx : am_ex X call mi (.lrem) 1 pc L st n h k j = some (.inl z)) (go : am_Go K mi p l e R s m args below meth c Q z) : am_Go K mi p l e R s m args below meth c Q (pc, L, st, n, h, k, j) := by
  obtain ⟨hex, hb, hml, hown, hts, hnm, hK, hF, hbs, hfr, hlo⟩ := hA
  dsimp only [am_ex] at hx
  split at hx
  · split at hx
    · rename_i hne
      obtain rfl := am_go_inj hx
      intro H locs ls hH hl
      exact lv_lrem hex hb hd hne (go H locs ls hH hl)
    · cases hx
  · cases hx
theorem am_s_lcmp  (hA : am_At K X mi p R s m args meth c) (hd : decode (am_code mi) pc = .ok (.lcmp, 1)) (hx : am_ex X call mi (.lcmp) 1 pc L st n h k j = some (.inl z)) (go : am_Go K mi p l e R s m args below meth c Q z) : am_Go K mi p l e R s m args below meth c Q (pc, L, st, n, h, k, j) := by
  obtain ⟨hex, hb, hml, hown, hts, hnm, hK, hF, hbs, hfr, hlo⟩ := hA
  dsimp only [am_ex] at hx
  split at hx
  · obtain rfl := am_go_inj hx
    intro H locs ls hH hl
    exact W.lcmp hex hb hd (go H locs ls hH hl)
  · cases hx
theorem am_s_i2l  (hA : am_At K X mi p R s m args meth c) (hd : decode (am_code mi) pc = .ok (.i2l, 1)) (hx : am_ex X call mi (.i2l) 1 pc L st n h k j = some (.inl z)) (go : am_Go K mi p l e R s m args below meth c Q z) : am_Go K mi p l e R s m args below meth c Q (pc, L, st, n, h, k, j) := by
  obtain ⟨hex, hb, hml, hown, hts, hnm, hK, hF, hbs, hfr, hlo⟩ := hA
  dsimp only [am_ex] at hx
  split at hx
  · obtain rfl := am_go_inj hx
    intro H locs ls hH hl
    exact lv_i2l hex hb hd rfl (go H locs ls hH hl)
  · cases hx
theorem am_s_l2i  (hA : am_At K X mi p R s m args meth c) (hd : decode (am_code mi) pc = .ok (.l2i, 1)) (hx : am_ex X call mi (.l2i) 1 pc L st n h k j = some (.inl z)) (go : am_Go K mi p l e R s m args below meth c Q z) : am_Go K mi p l e R s m args below meth c Q (pc, L, st, n, h, k, j) := by
  obtain ⟨hex, hb, hml, hown, hts, hnm, hK, hF, hbs, hfr, hlo⟩ := hA
  dsimp only [am_ex] at hx
  split at hx
  · obtain rfl := am_go_inj hx
    intro H locs ls hH hl
    exact lv_l2i hex hb hd rfl (go H locs ls hH hl)
  · cases hx
theorem am_s_dup  (hA : am_At K X mi p R s m args meth c) (hd : decode (am_code mi) pc = .ok (.dup, 1)) (hx : am_ex X call mi (.dup) 1 pc L st n h k j = some (.inl z)) (go : am_Go K mi p l e R s m args below meth c Q z) : am_Go K mi p l e R s m args below meth c Q (pc, L, st, n, h, k, j) := by
  obtain ⟨hex, hb, hml, hown, hts, hnm, hK, hF, hbs, hfr, hlo⟩ := hA
  dsimp only [am_ex] at hx
  split at hx
  · split at hx
    · rename_i hc
      obtain rfl := am_go_inj hx
      intro H locs ls hH hl
      exact lv_dup hex hb hd ((am_v_cat K _).trans hc) (go H locs ls hH hl)
    · cases hx
  · cases hx
theorem am_s_pop  (hA : am_At K X mi p R s m args meth c) (hd : decode (am_code mi) pc = .ok (.pop, 1)) (hx : am_ex X call mi (.pop) 1 pc L st n h k j = some (.inl z)) (go : am_Go K mi p l e R s m args below meth c Q z) : am_Go K mi p l e R s m args below meth c Q (pc, L, st, n, h, k, j) := by
  obtain ⟨hex, hb, hml, hown, hts, hnm, hK, hF, hbs, hfr, hlo⟩ := hA
  dsimp only [am_ex] at hx
  split at hx
  · split at hx
    · rename_i hc
      obtain rfl := am_go_inj hx
      intro H locs ls hH hl
      exact lv_pop hex hb hd ((am_v_cat K _).trans hc) (go H locs ls hH hl)
    · cases hx
  · cases hx
theorem am_s_dup2  (hA : am_At K X mi p R s m args meth c) (hd : decode (am_code mi) pc = .ok (.dup2, 1)) (hx : am_ex X call mi (.dup2) 1 pc L st n h k j = some (.inl z)) (go : am_Go K mi p l e R s m args below meth c Q z) : am_Go K mi p l e R s m args below meth c Q (pc, L, st, n, h, k, j) := by
  obtain ⟨hex, hb, hml, hown, hts, hnm, hK, hF, hbs, hfr, hlo⟩ := hA
  dsimp only [am_ex] at hx
  split at hx
  · split at hx
    · rename_i hc
      obtain rfl := am_go_inj hx
      intro H locs ls hH hl
      exact lv_dup2_11 hex hb hd ((am_v_cat K _).trans hc.1) ((am_v_cat K _).trans hc.2) (go H locs ls hH hl)
    · cases hx
  · cases hx
theorem am_s_goto {o : Int} (hA : am_At K X mi p R s m args meth c) (hd : decode (am_code mi) pc = .ok (.goto o, 3)) (hx : am_ex X call mi (.goto o) 3 pc L st n h k j = some (.inl z)) (go : am_Go K mi p l e R s m args below meth c Q z) : am_Go K mi p l e R s m args below meth c Q (pc, L, st, n, h, k, j) := by
  obtain ⟨hex, hb, hml, hown, hts, hnm, hK, hF, hbs, hfr, hlo⟩ := hA
  dsimp only [am_ex] at hx
  obtain ⟨t, ht, rfl⟩ := am_jmp_inj hx
  intro H locs ls hH hl
  exact lv_goto hex hb hd ht (go H locs ls hH hl)
theorem am_s_ifCond {o : ClassFile.Cond} {d : Int} (hA : am_At K X mi p R s m args meth c) (hd : decode (am_code mi) pc = .ok (.ifCond o d, 3)) (hx : am_ex X call mi (.ifCond o d) 3 pc L st n h k j = some (.inl z)) (go : am_Go K mi p l e R s m args below meth c Q z) : am_Go K mi p l e R s m args below meth c Q (pc, L, st, n, h, k, j) := by
  obtain ⟨hex, hb, hml, hown, hts, hnm, hK, hF, hbs, hfr, hlo⟩ := hA
  dsimp only [am_ex] at hx
  split at hx
  · split at hx
    · rename_i h0
      have ht : (pc : Int) + d = ((((pc : Int) + d).toNat : Nat) : Int) := (Int.toNat_of_nonneg h0).symm
      cases o with
      | eq =>
        dsimp only [am_br] at hx
        split at hx
        · rename_i hc
          obtain rfl := am_go_inj hx
          intro H locs ls hH hl
          exact lv_if_eq hex hb hd ht (fun _ => go H locs ls hH hl) (fun q => absurd q (fun r => r hc))
        · rename_i hc
          obtain rfl := am_go_inj hx
          intro H locs ls hH hl
          exact lv_if_eq hex hb hd ht (fun q => absurd q hc) (fun q => go H locs ls hH hl)
      | ne =>
        dsimp only [am_br] at hx
        split at hx
        · rename_i hc
          obtain rfl := am_go_inj hx
          intro H locs ls hH hl
          exact lv_if_ne hex hb hd ht (fun _ => go H locs ls hH hl) (fun q => absurd q hc)
        · rename_i hc
          obtain rfl := am_go_inj hx
          intro H locs ls hH hl
          exact lv_if_ne hex hb hd ht (fun q => absurd q hc) (fun q => go H locs ls hH hl)
      | lt =>
        dsimp only [am_br] at hx
        split at hx
        · rename_i hc
          obtain rfl := am_go_inj hx
          intro H locs ls hH hl
          exact lv_if_lt hex hb hd ht (fun _ => go H locs ls hH hl) (fun q => absurd q (fun r => r hc))
        · rename_i hc
          obtain rfl := am_go_inj hx
          intro H locs ls hH hl
          exact lv_if_lt hex hb hd ht (fun q => absurd q hc) (fun q => go H locs ls hH hl)
      | ge =>
        dsimp only [am_br] at hx
        split at hx
        · rename_i hc
          obtain rfl := am_go_inj hx
          intro H locs ls hH hl
          exact lv_if_ge hex hb hd ht (fun _ => go H locs ls hH hl) (fun q => absurd q (fun r => r hc))
        · rename_i hc
          obtain rfl := am_go_inj hx
          intro H locs ls hH hl
          exact lv_if_ge hex hb hd ht (fun q => absurd q hc) (fun q => go H locs ls hH hl)
      | gt =>
        dsimp only [am_br] at hx
        split at hx
        · rename_i hc
          obtain rfl := am_go_inj hx
          intro H locs ls hH hl
          exact lv_if_gt hex hb hd ht (fun _ => go H locs ls hH hl) (fun q => absurd q (fun r => r hc))
        · rename_i hc
          obtain rfl := am_go_inj hx
          intro H locs ls hH hl
          exact lv_if_gt hex hb hd ht (fun q => absurd q hc) (fun q => go H locs ls hH hl)
      | le =>
        dsimp only [am_br] at hx
        split at hx
        · rename_i hc
          obtain rfl := am_go_inj hx
          intro H locs ls hH hl
          exact lv_if_le hex hb hd ht (fun _ => go H locs ls hH hl) (fun q => absurd q (fun r => r hc))
        · rename_i hc
          obtain rfl := am_go_inj hx
          intro H locs ls hH hl
          exact lv_if_le hex hb hd ht (fun q => absurd q hc) (fun q => go H locs ls hH hl)
    · cases hx
  · cases hx
theorem am_s_if_icmp {o : ClassFile.Cond} {d : Int} (hA : am_At K X mi p R s m args meth c) (hd : decode (am_code mi) pc = .ok (.if_icmp o d, 3)) (hx : am_ex X call mi (.if_icmp o d) 3 pc L st n h k j = some (.inl z)) (go : am_Go K mi p l e R s m args below meth c Q z) : am_Go K mi p l e R s m args below meth c Q (pc, L, st, n, h, k, j) := by
  obtain ⟨hex, hb, hml, hown, hts, hnm, hK, hF, hbs, hfr, hlo⟩ := hA
  dsimp only [am_ex] at hx
  split at hx
  · split at hx
    · rename_i h0
      have ht : (pc : Int) + d = ((((pc : Int) + d).toNat : Nat) : Int) := (Int.toNat_of_nonneg h0).symm
      cases o with
      | eq =>
        dsimp only [am_br] at hx
        split at hx
        · rename_i hc
          obtain rfl := am_go_inj hx
          intro H locs ls hH hl
          exact lv_icmp_eq hex hb hd ht (fun _ => go H locs ls hH hl) (fun q => absurd q (fun r => r hc))
        · rename_i hc
          obtain rfl := am_go_inj hx
          intro H locs ls hH hl
          exact lv_icmp_eq hex hb hd ht (fun q => absurd q hc) (fun q => go H locs ls hH hl)
      | ne =>
        dsimp only [am_br] at hx
        split at hx
        · rename_i hc
          obtain rfl := am_go_inj hx
          intro H locs ls hH hl
          exact lv_icmp_ne hex hb hd ht (fun _ => go H locs ls hH hl) (fun q => absurd q hc)
        · rename_i hc
          obtain rfl := am_go_inj hx
          intro H locs ls hH hl
          exact lv_icmp_ne hex hb hd ht (fun q => absurd q hc) (fun q => go H locs ls hH hl)
      | lt =>
        dsimp only [am_br] at hx
        split at hx
        · rename_i hc
          obtain rfl := am_go_inj hx
          intro H locs ls hH hl
          exact lv_icmp_lt hex hb hd ht (fun _ => go H locs ls hH hl) (fun q => absurd q (fun r => r hc))
        · rename_i hc
          obtain rfl := am_go_inj hx
          intro H locs ls hH hl
          exact lv_icmp_lt hex hb hd ht (fun q => absurd q hc) (fun q => go H locs ls hH hl)
      | ge =>
        dsimp only [am_br] at hx
        split at hx
        · rename_i hc
          obtain rfl := am_go_inj hx
          intro H locs ls hH hl
          exact lv_icmp_ge hex hb hd ht (fun _ => go H locs ls hH hl) (fun q => absurd q (fun r => r hc))
        · rename_i hc
          obtain rfl := am_go_inj hx
          intro H locs ls hH hl
          exact lv_icmp_ge hex hb hd ht (fun q => absurd q hc) (fun q => go H locs ls hH hl)
      | gt =>
        dsimp only [am_br] at hx
        split at hx
        · rename_i hc
          obtain rfl := am_go_inj hx
          intro H locs ls hH hl
          exact lv_icmp_gt hex hb hd ht (fun _ => go H locs ls hH hl) (fun q => absurd q (fun r => r hc))
        · rename_i hc
          obtain rfl := am_go_inj hx
          intro H locs ls hH hl
          exact lv_icmp_gt hex hb hd ht (fun q => absurd q hc) (fun q => go H locs ls hH hl)
      | le =>
        dsimp only [am_br] at hx
        split at hx
        · rename_i hc
          obtain rfl := am_go_inj hx
          intro H locs ls hH hl
          exact lv_icmp_le hex hb hd ht (fun _ => go H locs ls hH hl) (fun q => absurd q (fun r => r hc))
        · rename_i hc
          obtain rfl := am_go_inj hx
          intro H locs ls hH hl
          exact lv_icmp_le hex hb hd ht (fun q => absurd q hc) (fun q => go H locs ls hH hl)
    · cases hx
  · cases hx
end AMS
