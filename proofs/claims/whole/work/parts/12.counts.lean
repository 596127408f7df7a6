/-! how many cells are made -/
section AMN
variable {X : am_X} {mi : Nat} {pc : Nat} {L : am_L} {st : List Value} {n : Nat} {h : am_H} {k j : Nat} {z : am_Z} {call : am_Cl} {len : Nat}
abbrev am_ct (n k j : Nat) (z : am_Z) : Prop := z.2.2.2.1 + k = n + z.2.2.2.2.2.1 ∧ k ≤ z.2.2.2.2.2.1 ∧ j ≤ z.2.2.2.2.2.2
theorem am_ct_go {pc1 : Nat} {L1 : am_L} {st1 : List Value} {h1 : am_H} (hx : am_go pc1 L1 st1 n h1 k j = some (.inl z)) : am_ct n k j z := by
  obtain rfl := am_go_inj hx
  exact ⟨rfl, Nat.le_refl _, Nat.le_refl _⟩
theorem am_ct_jmp {pc1 : Nat} {o : Int} {L1 : am_L} {st1 : List Value} {h1 : am_H} (hx : am_jmp pc1 o L1 st1 n h1 k j = some (.inl z)) : am_ct n k j z := by
  obtain ⟨_, _, rfl⟩ := am_jmp_inj hx
  exact ⟨rfl, Nat.le_refl _, Nat.le_refl _⟩
theorem am_ct_br {o : ClassFile.Cond} {x y : Int32} {a b : am_O} (ha : a = some (.inl z) → am_ct n k j z) (hb : b = some (.inl z) → am_ct n k j z) (hx : am_br o x y a b = some (.inl z)) : am_ct n k j z := by
  unfold am_br at hx
  cases o <;> dsimp only at hx <;> split at hx <;> first | exact ha hx | exact hb hx
theorem am_ct_call {q kd : Nat} (hc : ∀ mj as n h r, call mj as n h = some r → r.2.1 = n + r.2.2.2.1) (hx : am_call call mi q kd pc L st n h k j = some (.inl z)) : am_ct n k j z := by
  have hbk : ∀ {rest : List Value} {mj : Nat} {as : List Value}, am_back (pc + 3) L rest k j (call mj as n h) = some (.inl z) → am_ct n k j z := by
    intro rest mj as hx
    unfold am_back at hx
    split at hx
    · rename_i v n1 h1 k1 j1 hcl
      obtain rfl := am_go_inj hx
      have := hc _ _ _ _ _ hcl
      have h9 : n1 = n + k1 := this
      refine ⟨?_, Nat.le_add_right _ _, Nat.le_add_right _ _⟩
      show n1 + k = n + (k + k1)
      omega
    · cases hx
  unfold am_call at hx
  split at hx
  · cases hx
  · split at hx
    · cases hx
    · split at hx
      · split at hx
        · split at hx
          · split at hx
            · exact hbk hx
            · cases hx
          · cases hx
        · cases hx
      · split at hx
        · exact hbk hx
        · cases hx
      · split at hx
        · split at hx
          · exact hbk hx
          · cases hx
        · cases hx
      · split at hx
        · exact hbk hx
        · cases hx
      · split at hx
        · split at hx
          · exact am_ct_go hx
          · cases hx
        · cases hx
      · split at hx
        · split at hx
          · exact am_ct_go hx
          · cases hx
        · cases hx
      · split at hx
        · split at hx
          · exact am_ct_go hx
          · cases hx
        · cases hx
      · split at hx
        · split at hx
          · exact am_ct_go hx
          · cases hx
        · cases hx
      · split at hx
        · split at hx
          · split at hx
            · exact am_ct_go hx
            · cases hx
          · cases hx
        · cases hx
      · cases hx
theorem am_ct_step (hc : ∀ mj as n h r, call mj as n h = some r → r.2.1 = n + r.2.2.2.1) (hx : am_step X call mi (pc, L, st, n, h, k, j) = some (.inl z)) : am_ct n k j z := by
  unfold am_step at hx
  dsimp only at hx
  split at hx
  · rename_i i len hd
    split at hx
    · cases i with
      | iconst a0 =>
        dsimp only [am_ex] at hx
        first | exact am_ct_go hx | exact am_ct_jmp hx | (split at hx <;> first | exact am_ct_go hx | exact am_ct_jmp hx | (cases hx; done) | (split at hx <;> first | exact am_ct_go hx | exact am_ct_jmp hx | (cases hx; done) | (split at hx <;> first | exact am_ct_go hx | exact am_ct_jmp hx | (cases hx; done))))
      | bipush a0 =>
        dsimp only [am_ex] at hx
        first | exact am_ct_go hx | exact am_ct_jmp hx | (split at hx <;> first | exact am_ct_go hx | exact am_ct_jmp hx | (cases hx; done) | (split at hx <;> first | exact am_ct_go hx | exact am_ct_jmp hx | (cases hx; done) | (split at hx <;> first | exact am_ct_go hx | exact am_ct_jmp hx | (cases hx; done))))
      | sipush a0 =>
        dsimp only [am_ex] at hx
        first | exact am_ct_go hx | exact am_ct_jmp hx | (split at hx <;> first | exact am_ct_go hx | exact am_ct_jmp hx | (cases hx; done) | (split at hx <;> first | exact am_ct_go hx | exact am_ct_jmp hx | (cases hx; done) | (split at hx <;> first | exact am_ct_go hx | exact am_ct_jmp hx | (cases hx; done))))
      | lconst a0 =>
        dsimp only [am_ex] at hx
        first | exact am_ct_go hx | exact am_ct_jmp hx | (split at hx <;> first | exact am_ct_go hx | exact am_ct_jmp hx | (cases hx; done) | (split at hx <;> first | exact am_ct_go hx | exact am_ct_jmp hx | (cases hx; done) | (split at hx <;> first | exact am_ct_go hx | exact am_ct_jmp hx | (cases hx; done))))
      | ldc a0 =>
        dsimp only [am_ex] at hx
        first | exact am_ct_go hx | exact am_ct_jmp hx | (split at hx <;> first | exact am_ct_go hx | exact am_ct_jmp hx | (cases hx; done) | (split at hx <;> first | exact am_ct_go hx | exact am_ct_jmp hx | (cases hx; done) | (split at hx <;> first | exact am_ct_go hx | exact am_ct_jmp hx | (cases hx; done))))
      | ldc2_w a0 =>
        dsimp only [am_ex] at hx
        first | exact am_ct_go hx | exact am_ct_jmp hx | (split at hx <;> first | exact am_ct_go hx | exact am_ct_jmp hx | (cases hx; done) | (split at hx <;> first | exact am_ct_go hx | exact am_ct_jmp hx | (cases hx; done) | (split at hx <;> first | exact am_ct_go hx | exact am_ct_jmp hx | (cases hx; done))))
      | iload a0 =>
        dsimp only [am_ex] at hx
        first | exact am_ct_go hx | exact am_ct_jmp hx | (split at hx <;> first | exact am_ct_go hx | exact am_ct_jmp hx | (cases hx; done) | (split at hx <;> first | exact am_ct_go hx | exact am_ct_jmp hx | (cases hx; done) | (split at hx <;> first | exact am_ct_go hx | exact am_ct_jmp hx | (cases hx; done))))
      | lload a0 =>
        dsimp only [am_ex] at hx
        first | exact am_ct_go hx | exact am_ct_jmp hx | (split at hx <;> first | exact am_ct_go hx | exact am_ct_jmp hx | (cases hx; done) | (split at hx <;> first | exact am_ct_go hx | exact am_ct_jmp hx | (cases hx; done) | (split at hx <;> first | exact am_ct_go hx | exact am_ct_jmp hx | (cases hx; done))))
      | iload_n a0 =>
        dsimp only [am_ex] at hx
        first | exact am_ct_go hx | exact am_ct_jmp hx | (split at hx <;> first | exact am_ct_go hx | exact am_ct_jmp hx | (cases hx; done) | (split at hx <;> first | exact am_ct_go hx | exact am_ct_jmp hx | (cases hx; done) | (split at hx <;> first | exact am_ct_go hx | exact am_ct_jmp hx | (cases hx; done))))
      | lload_n a0 =>
        dsimp only [am_ex] at hx
        first | exact am_ct_go hx | exact am_ct_jmp hx | (split at hx <;> first | exact am_ct_go hx | exact am_ct_jmp hx | (cases hx; done) | (split at hx <;> first | exact am_ct_go hx | exact am_ct_jmp hx | (cases hx; done) | (split at hx <;> first | exact am_ct_go hx | exact am_ct_jmp hx | (cases hx; done))))
      | aload_n a0 =>
        dsimp only [am_ex] at hx
        first | exact am_ct_go hx | exact am_ct_jmp hx | (split at hx <;> first | exact am_ct_go hx | exact am_ct_jmp hx | (cases hx; done) | (split at hx <;> first | exact am_ct_go hx | exact am_ct_jmp hx | (cases hx; done) | (split at hx <;> first | exact am_ct_go hx | exact am_ct_jmp hx | (cases hx; done))))
      | istore a0 =>
        dsimp only [am_ex] at hx
        first | exact am_ct_go hx | exact am_ct_jmp hx | (split at hx <;> first | exact am_ct_go hx | exact am_ct_jmp hx | (cases hx; done) | (split at hx <;> first | exact am_ct_go hx | exact am_ct_jmp hx | (cases hx; done) | (split at hx <;> first | exact am_ct_go hx | exact am_ct_jmp hx | (cases hx; done))))
      | istore_n a0 =>
        dsimp only [am_ex] at hx
        first | exact am_ct_go hx | exact am_ct_jmp hx | (split at hx <;> first | exact am_ct_go hx | exact am_ct_jmp hx | (cases hx; done) | (split at hx <;> first | exact am_ct_go hx | exact am_ct_jmp hx | (cases hx; done) | (split at hx <;> first | exact am_ct_go hx | exact am_ct_jmp hx | (cases hx; done))))
      | lstore a0 =>
        dsimp only [am_ex] at hx
        first | exact am_ct_go hx | exact am_ct_jmp hx | (split at hx <;> first | exact am_ct_go hx | exact am_ct_jmp hx | (cases hx; done) | (split at hx <;> first | exact am_ct_go hx | exact am_ct_jmp hx | (cases hx; done) | (split at hx <;> first | exact am_ct_go hx | exact am_ct_jmp hx | (cases hx; done))))
      | lstore_n a0 =>
        dsimp only [am_ex] at hx
        first | exact am_ct_go hx | exact am_ct_jmp hx | (split at hx <;> first | exact am_ct_go hx | exact am_ct_jmp hx | (cases hx; done) | (split at hx <;> first | exact am_ct_go hx | exact am_ct_jmp hx | (cases hx; done) | (split at hx <;> first | exact am_ct_go hx | exact am_ct_jmp hx | (cases hx; done))))
      | astore_n a0 =>
        dsimp only [am_ex] at hx
        first | exact am_ct_go hx | exact am_ct_jmp hx | (split at hx <;> first | exact am_ct_go hx | exact am_ct_jmp hx | (cases hx; done) | (split at hx <;> first | exact am_ct_go hx | exact am_ct_jmp hx | (cases hx; done) | (split at hx <;> first | exact am_ct_go hx | exact am_ct_jmp hx | (cases hx; done))))
      | iinc a0 a1 =>
        dsimp only [am_ex] at hx
        first | exact am_ct_go hx | exact am_ct_jmp hx | (split at hx <;> first | exact am_ct_go hx | exact am_ct_jmp hx | (cases hx; done) | (split at hx <;> first | exact am_ct_go hx | exact am_ct_jmp hx | (cases hx; done) | (split at hx <;> first | exact am_ct_go hx | exact am_ct_jmp hx | (cases hx; done))))
      | iadd =>
        dsimp only [am_ex] at hx
        first | exact am_ct_go hx | exact am_ct_jmp hx | (split at hx <;> first | exact am_ct_go hx | exact am_ct_jmp hx | (cases hx; done) | (split at hx <;> first | exact am_ct_go hx | exact am_ct_jmp hx | (cases hx; done) | (split at hx <;> first | exact am_ct_go hx | exact am_ct_jmp hx | (cases hx; done))))
      | isub =>
        dsimp only [am_ex] at hx
        first | exact am_ct_go hx | exact am_ct_jmp hx | (split at hx <;> first | exact am_ct_go hx | exact am_ct_jmp hx | (cases hx; done) | (split at hx <;> first | exact am_ct_go hx | exact am_ct_jmp hx | (cases hx; done) | (split at hx <;> first | exact am_ct_go hx | exact am_ct_jmp hx | (cases hx; done))))
      | imul =>
        dsimp only [am_ex] at hx
        first | exact am_ct_go hx | exact am_ct_jmp hx | (split at hx <;> first | exact am_ct_go hx | exact am_ct_jmp hx | (cases hx; done) | (split at hx <;> first | exact am_ct_go hx | exact am_ct_jmp hx | (cases hx; done) | (split at hx <;> first | exact am_ct_go hx | exact am_ct_jmp hx | (cases hx; done))))
      | iand =>
        dsimp only [am_ex] at hx
        first | exact am_ct_go hx | exact am_ct_jmp hx | (split at hx <;> first | exact am_ct_go hx | exact am_ct_jmp hx | (cases hx; done) | (split at hx <;> first | exact am_ct_go hx | exact am_ct_jmp hx | (cases hx; done) | (split at hx <;> first | exact am_ct_go hx | exact am_ct_jmp hx | (cases hx; done))))
      | ior =>
        dsimp only [am_ex] at hx
        first | exact am_ct_go hx | exact am_ct_jmp hx | (split at hx <;> first | exact am_ct_go hx | exact am_ct_jmp hx | (cases hx; done) | (split at hx <;> first | exact am_ct_go hx | exact am_ct_jmp hx | (cases hx; done) | (split at hx <;> first | exact am_ct_go hx | exact am_ct_jmp hx | (cases hx; done))))
      | ixor =>
        dsimp only [am_ex] at hx
        first | exact am_ct_go hx | exact am_ct_jmp hx | (split at hx <;> first | exact am_ct_go hx | exact am_ct_jmp hx | (cases hx; done) | (split at hx <;> first | exact am_ct_go hx | exact am_ct_jmp hx | (cases hx; done) | (split at hx <;> first | exact am_ct_go hx | exact am_ct_jmp hx | (cases hx; done))))
      | ishl =>
        dsimp only [am_ex] at hx
        first | exact am_ct_go hx | exact am_ct_jmp hx | (split at hx <;> first | exact am_ct_go hx | exact am_ct_jmp hx | (cases hx; done) | (split at hx <;> first | exact am_ct_go hx | exact am_ct_jmp hx | (cases hx; done) | (split at hx <;> first | exact am_ct_go hx | exact am_ct_jmp hx | (cases hx; done))))
      | ishr =>
        dsimp only [am_ex] at hx
        first | exact am_ct_go hx | exact am_ct_jmp hx | (split at hx <;> first | exact am_ct_go hx | exact am_ct_jmp hx | (cases hx; done) | (split at hx <;> first | exact am_ct_go hx | exact am_ct_jmp hx | (cases hx; done) | (split at hx <;> first | exact am_ct_go hx | exact am_ct_jmp hx | (cases hx; done))))
      | ineg =>
        dsimp only [am_ex] at hx
        first | exact am_ct_go hx | exact am_ct_jmp hx | (split at hx <;> first | exact am_ct_go hx | exact am_ct_jmp hx | (cases hx; done) | (split at hx <;> first | exact am_ct_go hx | exact am_ct_jmp hx | (cases hx; done) | (split at hx <;> first | exact am_ct_go hx | exact am_ct_jmp hx | (cases hx; done))))
      | ladd =>
        dsimp only [am_ex] at hx
        first | exact am_ct_go hx | exact am_ct_jmp hx | (split at hx <;> first | exact am_ct_go hx | exact am_ct_jmp hx | (cases hx; done) | (split at hx <;> first | exact am_ct_go hx | exact am_ct_jmp hx | (cases hx; done) | (split at hx <;> first | exact am_ct_go hx | exact am_ct_jmp hx | (cases hx; done))))
      | lsub =>
        dsimp only [am_ex] at hx
        first | exact am_ct_go hx | exact am_ct_jmp hx | (split at hx <;> first | exact am_ct_go hx | exact am_ct_jmp hx | (cases hx; done) | (split at hx <;> first | exact am_ct_go hx | exact am_ct_jmp hx | (cases hx; done) | (split at hx <;> first | exact am_ct_go hx | exact am_ct_jmp hx | (cases hx; done))))
      | lmul =>
        dsimp only [am_ex] at hx
        first | exact am_ct_go hx | exact am_ct_jmp hx | (split at hx <;> first | exact am_ct_go hx | exact am_ct_jmp hx | (cases hx; done) | (split at hx <;> first | exact am_ct_go hx | exact am_ct_jmp hx | (cases hx; done) | (split at hx <;> first | exact am_ct_go hx | exact am_ct_jmp hx | (cases hx; done))))
      | lneg =>
        dsimp only [am_ex] at hx
        first | exact am_ct_go hx | exact am_ct_jmp hx | (split at hx <;> first | exact am_ct_go hx | exact am_ct_jmp hx | (cases hx; done) | (split at hx <;> first | exact am_ct_go hx | exact am_ct_jmp hx | (cases hx; done) | (split at hx <;> first | exact am_ct_go hx | exact am_ct_jmp hx | (cases hx; done))))
      | idiv =>
        dsimp only [am_ex] at hx
        first | exact am_ct_go hx | exact am_ct_jmp hx | (split at hx <;> first | exact am_ct_go hx | exact am_ct_jmp hx | (cases hx; done) | (split at hx <;> first | exact am_ct_go hx | exact am_ct_jmp hx | (cases hx; done) | (split at hx <;> first | exact am_ct_go hx | exact am_ct_jmp hx | (cases hx; done))))
      | irem =>
        dsimp only [am_ex] at hx
        first | exact am_ct_go hx | exact am_ct_jmp hx | (split at hx <;> first | exact am_ct_go hx | exact am_ct_jmp hx | (cases hx; done) | (split at hx <;> first | exact am_ct_go hx | exact am_ct_jmp hx | (cases hx; done) | (split at hx <;> first | exact am_ct_go hx | exact am_ct_jmp hx | (cases hx; done))))
      | ldiv =>
        dsimp only [am_ex] at hx
        first | exact am_ct_go hx | exact am_ct_jmp hx | (split at hx <;> first | exact am_ct_go hx | exact am_ct_jmp hx | (cases hx; done) | (split at hx <;> first | exact am_ct_go hx | exact am_ct_jmp hx | (cases hx; done) | (split at hx <;> first | exact am_ct_go hx | exact am_ct_jmp hx | (cases hx; done))))
      | lrem =>
        dsimp only [am_ex] at hx
        first | exact am_ct_go hx | exact am_ct_jmp hx | (split at hx <;> first | exact am_ct_go hx | exact am_ct_jmp hx | (cases hx; done) | (split at hx <;> first | exact am_ct_go hx | exact am_ct_jmp hx | (cases hx; done) | (split at hx <;> first | exact am_ct_go hx | exact am_ct_jmp hx | (cases hx; done))))
      | lcmp =>
        dsimp only [am_ex] at hx
        first | exact am_ct_go hx | exact am_ct_jmp hx | (split at hx <;> first | exact am_ct_go hx | exact am_ct_jmp hx | (cases hx; done) | (split at hx <;> first | exact am_ct_go hx | exact am_ct_jmp hx | (cases hx; done) | (split at hx <;> first | exact am_ct_go hx | exact am_ct_jmp hx | (cases hx; done))))
      | i2l =>
        dsimp only [am_ex] at hx
        first | exact am_ct_go hx | exact am_ct_jmp hx | (split at hx <;> first | exact am_ct_go hx | exact am_ct_jmp hx | (cases hx; done) | (split at hx <;> first | exact am_ct_go hx | exact am_ct_jmp hx | (cases hx; done) | (split at hx <;> first | exact am_ct_go hx | exact am_ct_jmp hx | (cases hx; done))))
      | l2i =>
        dsimp only [am_ex] at hx
        first | exact am_ct_go hx | exact am_ct_jmp hx | (split at hx <;> first | exact am_ct_go hx | exact am_ct_jmp hx | (cases hx; done) | (split at hx <;> first | exact am_ct_go hx | exact am_ct_jmp hx | (cases hx; done) | (split at hx <;> first | exact am_ct_go hx | exact am_ct_jmp hx | (cases hx; done))))
      | dup =>
        dsimp only [am_ex] at hx
        first | exact am_ct_go hx | exact am_ct_jmp hx | (split at hx <;> first | exact am_ct_go hx | exact am_ct_jmp hx | (cases hx; done) | (split at hx <;> first | exact am_ct_go hx | exact am_ct_jmp hx | (cases hx; done) | (split at hx <;> first | exact am_ct_go hx | exact am_ct_jmp hx | (cases hx; done))))
      | pop =>
        dsimp only [am_ex] at hx
        first | exact am_ct_go hx | exact am_ct_jmp hx | (split at hx <;> first | exact am_ct_go hx | exact am_ct_jmp hx | (cases hx; done) | (split at hx <;> first | exact am_ct_go hx | exact am_ct_jmp hx | (cases hx; done) | (split at hx <;> first | exact am_ct_go hx | exact am_ct_jmp hx | (cases hx; done))))
      | dup2 =>
        dsimp only [am_ex] at hx
        first | exact am_ct_go hx | exact am_ct_jmp hx | (split at hx <;> first | exact am_ct_go hx | exact am_ct_jmp hx | (cases hx; done) | (split at hx <;> first | exact am_ct_go hx | exact am_ct_jmp hx | (cases hx; done) | (split at hx <;> first | exact am_ct_go hx | exact am_ct_jmp hx | (cases hx; done))))
      | goto a0 =>
        dsimp only [am_ex] at hx
        first | exact am_ct_go hx | exact am_ct_jmp hx | (split at hx <;> first | exact am_ct_go hx | exact am_ct_jmp hx | (cases hx; done) | (split at hx <;> first | exact am_ct_go hx | exact am_ct_jmp hx | (cases hx; done) | (split at hx <;> first | exact am_ct_go hx | exact am_ct_jmp hx | (cases hx; done))))
      | getfield a0 =>
        dsimp only [am_ex] at hx
        first | exact am_ct_go hx | exact am_ct_jmp hx | (split at hx <;> first | exact am_ct_go hx | exact am_ct_jmp hx | (cases hx; done) | (split at hx <;> first | exact am_ct_go hx | exact am_ct_jmp hx | (cases hx; done) | (split at hx <;> first | exact am_ct_go hx | exact am_ct_jmp hx | (cases hx; done))))
      | putfield a0 =>
        dsimp only [am_ex] at hx
        first | exact am_ct_go hx | exact am_ct_jmp hx | (split at hx <;> first | exact am_ct_go hx | exact am_ct_jmp hx | (cases hx; done) | (split at hx <;> first | exact am_ct_go hx | exact am_ct_jmp hx | (cases hx; done) | (split at hx <;> first | exact am_ct_go hx | exact am_ct_jmp hx | (cases hx; done))))
      | getstatic a0 =>
        dsimp only [am_ex] at hx
        first | exact am_ct_go hx | exact am_ct_jmp hx | (split at hx <;> first | exact am_ct_go hx | exact am_ct_jmp hx | (cases hx; done) | (split at hx <;> first | exact am_ct_go hx | exact am_ct_jmp hx | (cases hx; done) | (split at hx <;> first | exact am_ct_go hx | exact am_ct_jmp hx | (cases hx; done))))
      | iaload =>
        dsimp only [am_ex] at hx
        first | exact am_ct_go hx | exact am_ct_jmp hx | (split at hx <;> first | exact am_ct_go hx | exact am_ct_jmp hx | (cases hx; done) | (split at hx <;> first | exact am_ct_go hx | exact am_ct_jmp hx | (cases hx; done) | (split at hx <;> first | exact am_ct_go hx | exact am_ct_jmp hx | (cases hx; done))))
      | baload =>
        dsimp only [am_ex] at hx
        first | exact am_ct_go hx | exact am_ct_jmp hx | (split at hx <;> first | exact am_ct_go hx | exact am_ct_jmp hx | (cases hx; done) | (split at hx <;> first | exact am_ct_go hx | exact am_ct_jmp hx | (cases hx; done) | (split at hx <;> first | exact am_ct_go hx | exact am_ct_jmp hx | (cases hx; done))))
      | laload =>
        dsimp only [am_ex] at hx
        first | exact am_ct_go hx | exact am_ct_jmp hx | (split at hx <;> first | exact am_ct_go hx | exact am_ct_jmp hx | (cases hx; done) | (split at hx <;> first | exact am_ct_go hx | exact am_ct_jmp hx | (cases hx; done) | (split at hx <;> first | exact am_ct_go hx | exact am_ct_jmp hx | (cases hx; done))))
      | aaload =>
        dsimp only [am_ex] at hx
        first | exact am_ct_go hx | exact am_ct_jmp hx | (split at hx <;> first | exact am_ct_go hx | exact am_ct_jmp hx | (cases hx; done) | (split at hx <;> first | exact am_ct_go hx | exact am_ct_jmp hx | (cases hx; done) | (split at hx <;> first | exact am_ct_go hx | exact am_ct_jmp hx | (cases hx; done))))
      | arraylength =>
        dsimp only [am_ex] at hx
        first | exact am_ct_go hx | exact am_ct_jmp hx | (split at hx <;> first | exact am_ct_go hx | exact am_ct_jmp hx | (cases hx; done) | (split at hx <;> first | exact am_ct_go hx | exact am_ct_jmp hx | (cases hx; done) | (split at hx <;> first | exact am_ct_go hx | exact am_ct_jmp hx | (cases hx; done))))
      | iastore =>
        dsimp only [am_ex] at hx
        first | exact am_ct_go hx | exact am_ct_jmp hx | (split at hx <;> first | exact am_ct_go hx | exact am_ct_jmp hx | (cases hx; done) | (split at hx <;> first | exact am_ct_go hx | exact am_ct_jmp hx | (cases hx; done) | (split at hx <;> first | exact am_ct_go hx | exact am_ct_jmp hx | (cases hx; done))))
      | bastore =>
        dsimp only [am_ex] at hx
        first | exact am_ct_go hx | exact am_ct_jmp hx | (split at hx <;> first | exact am_ct_go hx | exact am_ct_jmp hx | (cases hx; done) | (split at hx <;> first | exact am_ct_go hx | exact am_ct_jmp hx | (cases hx; done) | (split at hx <;> first | exact am_ct_go hx | exact am_ct_jmp hx | (cases hx; done))))
      | lastore =>
        dsimp only [am_ex] at hx
        first | exact am_ct_go hx | exact am_ct_jmp hx | (split at hx <;> first | exact am_ct_go hx | exact am_ct_jmp hx | (cases hx; done) | (split at hx <;> first | exact am_ct_go hx | exact am_ct_jmp hx | (cases hx; done) | (split at hx <;> first | exact am_ct_go hx | exact am_ct_jmp hx | (cases hx; done))))
      | aastore =>
        dsimp only [am_ex] at hx
        first | exact am_ct_go hx | exact am_ct_jmp hx | (split at hx <;> first | exact am_ct_go hx | exact am_ct_jmp hx | (cases hx; done) | (split at hx <;> first | exact am_ct_go hx | exact am_ct_jmp hx | (cases hx; done) | (split at hx <;> first | exact am_ct_go hx | exact am_ct_jmp hx | (cases hx; done))))
      | tableswitch a0 a1 a2 a3 =>
        dsimp only [am_ex] at hx
        first | exact am_ct_go hx | exact am_ct_jmp hx | (split at hx <;> first | exact am_ct_go hx | exact am_ct_jmp hx | (cases hx; done) | (split at hx <;> first | exact am_ct_go hx | exact am_ct_jmp hx | (cases hx; done) | (split at hx <;> first | exact am_ct_go hx | exact am_ct_jmp hx | (cases hx; done))))
      | lookupswitch a0 a1 =>
        dsimp only [am_ex] at hx
        first | exact am_ct_go hx | exact am_ct_jmp hx | (split at hx <;> first | exact am_ct_go hx | exact am_ct_jmp hx | (cases hx; done) | (split at hx <;> first | exact am_ct_go hx | exact am_ct_jmp hx | (cases hx; done) | (split at hx <;> first | exact am_ct_go hx | exact am_ct_jmp hx | (cases hx; done))))
      | ifCond a0 a1 =>
        dsimp only [am_ex] at hx
        split at hx
        · split at hx
          · exact am_ct_br am_ct_go am_ct_go hx
          · cases hx
        · cases hx
      | if_icmp a0 a1 =>
        dsimp only [am_ex] at hx
        split at hx
        · split at hx
          · exact am_ct_br am_ct_go am_ct_go hx
          · cases hx
        · cases hx
      | new a0 =>
        dsimp only [am_ex] at hx
        split at hx
        · split at hx
          · obtain rfl := am_go_inj hx
            exact ⟨by show n + 1 + k = n + (k + 1); omega, Nat.le_add_right _ _, Nat.le_add_right _ _⟩
          · cases hx
        · cases hx
      | newarray a0 =>
        dsimp only [am_ex] at hx
        split at hx
        · split at hx
          · obtain rfl := am_go_inj hx
            exact ⟨by show n + 1 + k = n + (k + 1); omega, Nat.le_add_right _ _, Nat.le_add_right _ _⟩
          · cases hx
        · cases hx
      | multianewarray a0 a1 =>
        dsimp only [am_ex] at hx
        split at hx
        · rename_i t x9 y9 r hg
          split at hx
          · obtain rfl := am_go_inj hx
            exact ⟨by show n + 1 + y9.toNatClampNeg + k = n + (k + 1 + y9.toNatClampNeg); omega, by show k ≤ k + 1 + y9.toNatClampNeg; omega, by show j ≤ j + y9.toNatClampNeg + y9.toNatClampNeg * x9.toNatClampNeg; omega⟩
          · cases hx
        · cases hx
      | invokevirtual a0 =>
        dsimp only [am_ex] at hx
        exact am_ct_call hc hx
      | invokestatic a0 =>
        dsimp only [am_ex] at hx
        split at hx
        · split at hx
          · exact am_ct_call hc hx
          · cases hx
        · cases hx
      | invokespecial a0 =>
        dsimp only [am_ex] at hx
        split at hx
        · split at hx
          · exact am_ct_call hc hx
          · cases hx
        · cases hx
      | ireturn =>
        dsimp only [am_ex] at hx
        split at hx
        · split at hx <;> cases hx
        · cases hx
      | lreturn =>
        dsimp only [am_ex] at hx
        split at hx
        · split at hx <;> cases hx
        · cases hx
      | return_ =>
        dsimp only [am_ex] at hx
        split at hx
        · split at hx <;> cases hx
        · cases hx
      | _ => cases hx
    · cases hx
  · cases hx

theorem am_br_inr {o : ClassFile.Cond} {x y : Int32} {a b : am_O} {r : am_R} (ha : a ≠ some (.inr r)) (hb : b ≠ some (.inr r)) : am_br o x y a b ≠ some (.inr r) := by
  intro hx
  unfold am_br at hx
  cases o <;> dsimp only at hx <;> split at hx <;> first | exact ha hx | exact hb hx
theorem am_go_inr {r : am_R} : am_go pc L st n h k j ≠ some (.inr r) := fun hx => by
  unfold am_go at hx
  cases hx
theorem am_jmp_inr {r : am_R} {o : Int} : am_jmp pc o L st n h k j ≠ some (.inr r) := fun hx => by
  unfold am_jmp at hx
  split at hx
  · exact am_go_inr hx
  · cases hx
theorem am_call_inr {q kd : Nat} {r : am_R} : am_call call mi q kd pc L st n h k j ≠ some (.inr r) := by
  intro hx
  have hbk : ∀ {rest : List Value} {o9 : Option am_R}, am_back (pc + 3) L rest k j o9 ≠ some (.inr r) := by
    intro rest o9 hx
    unfold am_back at hx
    split at hx
    · exact am_go_inr hx
    · cases hx
  unfold am_call at hx
  split at hx
  · cases hx
  · split at hx
    · cases hx
    · split at hx
      · split at hx
        · split at hx
          · split at hx
            · exact hbk hx
            · cases hx
          · cases hx
        · cases hx
      · split at hx
        · exact hbk hx
        · cases hx
      · split at hx
        · split at hx
          · exact hbk hx
          · cases hx
        · cases hx
      · split at hx
        · exact hbk hx
        · cases hx
      · split at hx
        · split at hx
          · exact am_go_inr hx
          · cases hx
        · cases hx
      · split at hx
        · split at hx
          · exact am_go_inr hx
          · cases hx
        · cases hx
      · split at hx
        · split at hx
          · exact am_go_inr hx
          · cases hx
        · cases hx
      · split at hx
        · split at hx
          · exact am_go_inr hx
          · cases hx
        · cases hx
      · split at hx
        · split at hx
          · split at hx
            · exact am_go_inr hx
            · cases hx
          · cases hx
        · cases hx
      · cases hx
/-- what a return is -/
def am_Rt (mi pc : Nat) (st : List Value) (n : Nat) (h : am_H) (k j : Nat) (r : am_R) : Prop :=
  (∃ v, decode (am_code mi) pc = .ok (.ireturn, 1) ∧ st = [.int v] ∧ am_ret1 (am_ret mi) v = true ∧ r = (some (.int v), n, h, k, j)) ∨
  (∃ v, decode (am_code mi) pc = .ok (.lreturn, 1) ∧ st = [.long v] ∧ am_ret mi = some .long ∧ r = (some (.long v), n, h, k, j)) ∨
  (decode (am_code mi) pc = .ok (.return_, 1) ∧ st = [] ∧ am_ret mi = none ∧ r = (none, n, h, k, j))
theorem am_rt_step {r : am_R} (hx : am_step X call mi (pc, L, st, n, h, k, j) = some (.inr r)) : am_Rt mi pc st n h k j r := by
  unfold am_step at hx
  dsimp only at hx
  split at hx
  · rename_i i len hd
    split at hx
    · rename_i hlen
      cases i with
      | iconst a0 =>
        dsimp only [am_ex] at hx
        first | exact absurd hx am_go_inr | exact absurd hx am_jmp_inr | (split at hx <;> first | exact absurd hx am_go_inr | exact absurd hx am_jmp_inr | (cases hx; done) | (split at hx <;> first | exact absurd hx am_go_inr | exact absurd hx am_jmp_inr | (cases hx; done) | (split at hx <;> first | exact absurd hx am_go_inr | exact absurd hx am_jmp_inr | (cases hx; done))))
      | bipush a0 =>
        dsimp only [am_ex] at hx
        first | exact absurd hx am_go_inr | exact absurd hx am_jmp_inr | (split at hx <;> first | exact absurd hx am_go_inr | exact absurd hx am_jmp_inr | (cases hx; done) | (split at hx <;> first | exact absurd hx am_go_inr | exact absurd hx am_jmp_inr | (cases hx; done) | (split at hx <;> first | exact absurd hx am_go_inr | exact absurd hx am_jmp_inr | (cases hx; done))))
      | sipush a0 =>
        dsimp only [am_ex] at hx
        first | exact absurd hx am_go_inr | exact absurd hx am_jmp_inr | (split at hx <;> first | exact absurd hx am_go_inr | exact absurd hx am_jmp_inr | (cases hx; done) | (split at hx <;> first | exact absurd hx am_go_inr | exact absurd hx am_jmp_inr | (cases hx; done) | (split at hx <;> first | exact absurd hx am_go_inr | exact absurd hx am_jmp_inr | (cases hx; done))))
      | lconst a0 =>
        dsimp only [am_ex] at hx
        first | exact absurd hx am_go_inr | exact absurd hx am_jmp_inr | (split at hx <;> first | exact absurd hx am_go_inr | exact absurd hx am_jmp_inr | (cases hx; done) | (split at hx <;> first | exact absurd hx am_go_inr | exact absurd hx am_jmp_inr | (cases hx; done) | (split at hx <;> first | exact absurd hx am_go_inr | exact absurd hx am_jmp_inr | (cases hx; done))))
      | ldc a0 =>
        dsimp only [am_ex] at hx
        first | exact absurd hx am_go_inr | exact absurd hx am_jmp_inr | (split at hx <;> first | exact absurd hx am_go_inr | exact absurd hx am_jmp_inr | (cases hx; done) | (split at hx <;> first | exact absurd hx am_go_inr | exact absurd hx am_jmp_inr | (cases hx; done) | (split at hx <;> first | exact absurd hx am_go_inr | exact absurd hx am_jmp_inr | (cases hx; done))))
      | ldc2_w a0 =>
        dsimp only [am_ex] at hx
        first | exact absurd hx am_go_inr | exact absurd hx am_jmp_inr | (split at hx <;> first | exact absurd hx am_go_inr | exact absurd hx am_jmp_inr | (cases hx; done) | (split at hx <;> first | exact absurd hx am_go_inr | exact absurd hx am_jmp_inr | (cases hx; done) | (split at hx <;> first | exact absurd hx am_go_inr | exact absurd hx am_jmp_inr | (cases hx; done))))
      | iload a0 =>
        dsimp only [am_ex] at hx
        first | exact absurd hx am_go_inr | exact absurd hx am_jmp_inr | (split at hx <;> first | exact absurd hx am_go_inr | exact absurd hx am_jmp_inr | (cases hx; done) | (split at hx <;> first | exact absurd hx am_go_inr | exact absurd hx am_jmp_inr | (cases hx; done) | (split at hx <;> first | exact absurd hx am_go_inr | exact absurd hx am_jmp_inr | (cases hx; done))))
      | lload a0 =>
        dsimp only [am_ex] at hx
        first | exact absurd hx am_go_inr | exact absurd hx am_jmp_inr | (split at hx <;> first | exact absurd hx am_go_inr | exact absurd hx am_jmp_inr | (cases hx; done) | (split at hx <;> first | exact absurd hx am_go_inr | exact absurd hx am_jmp_inr | (cases hx; done) | (split at hx <;> first | exact absurd hx am_go_inr | exact absurd hx am_jmp_inr | (cases hx; done))))
      | iload_n a0 =>
        dsimp only [am_ex] at hx
        first | exact absurd hx am_go_inr | exact absurd hx am_jmp_inr | (split at hx <;> first | exact absurd hx am_go_inr | exact absurd hx am_jmp_inr | (cases hx; done) | (split at hx <;> first | exact absurd hx am_go_inr | exact absurd hx am_jmp_inr | (cases hx; done) | (split at hx <;> first | exact absurd hx am_go_inr | exact absurd hx am_jmp_inr | (cases hx; done))))
      | lload_n a0 =>
        dsimp only [am_ex] at hx
        first | exact absurd hx am_go_inr | exact absurd hx am_jmp_inr | (split at hx <;> first | exact absurd hx am_go_inr | exact absurd hx am_jmp_inr | (cases hx; done) | (split at hx <;> first | exact absurd hx am_go_inr | exact absurd hx am_jmp_inr | (cases hx; done) | (split at hx <;> first | exact absurd hx am_go_inr | exact absurd hx am_jmp_inr | (cases hx; done))))
      | aload_n a0 =>
        dsimp only [am_ex] at hx
        first | exact absurd hx am_go_inr | exact absurd hx am_jmp_inr | (split at hx <;> first | exact absurd hx am_go_inr | exact absurd hx am_jmp_inr | (cases hx; done) | (split at hx <;> first | exact absurd hx am_go_inr | exact absurd hx am_jmp_inr | (cases hx; done) | (split at hx <;> first | exact absurd hx am_go_inr | exact absurd hx am_jmp_inr | (cases hx; done))))
      | istore a0 =>
        dsimp only [am_ex] at hx
        first | exact absurd hx am_go_inr | exact absurd hx am_jmp_inr | (split at hx <;> first | exact absurd hx am_go_inr | exact absurd hx am_jmp_inr | (cases hx; done) | (split at hx <;> first | exact absurd hx am_go_inr | exact absurd hx am_jmp_inr | (cases hx; done) | (split at hx <;> first | exact absurd hx am_go_inr | exact absurd hx am_jmp_inr | (cases hx; done))))
      | istore_n a0 =>
        dsimp only [am_ex] at hx
        first | exact absurd hx am_go_inr | exact absurd hx am_jmp_inr | (split at hx <;> first | exact absurd hx am_go_inr | exact absurd hx am_jmp_inr | (cases hx; done) | (split at hx <;> first | exact absurd hx am_go_inr | exact absurd hx am_jmp_inr | (cases hx; done) | (split at hx <;> first | exact absurd hx am_go_inr | exact absurd hx am_jmp_inr | (cases hx; done))))
      | lstore a0 =>
        dsimp only [am_ex] at hx
        first | exact absurd hx am_go_inr | exact absurd hx am_jmp_inr | (split at hx <;> first | exact absurd hx am_go_inr | exact absurd hx am_jmp_inr | (cases hx; done) | (split at hx <;> first | exact absurd hx am_go_inr | exact absurd hx am_jmp_inr | (cases hx; done) | (split at hx <;> first | exact absurd hx am_go_inr | exact absurd hx am_jmp_inr | (cases hx; done))))
      | lstore_n a0 =>
        dsimp only [am_ex] at hx
        first | exact absurd hx am_go_inr | exact absurd hx am_jmp_inr | (split at hx <;> first | exact absurd hx am_go_inr | exact absurd hx am_jmp_inr | (cases hx; done) | (split at hx <;> first | exact absurd hx am_go_inr | exact absurd hx am_jmp_inr | (cases hx; done) | (split at hx <;> first | exact absurd hx am_go_inr | exact absurd hx am_jmp_inr | (cases hx; done))))
      | astore_n a0 =>
        dsimp only [am_ex] at hx
        first | exact absurd hx am_go_inr | exact absurd hx am_jmp_inr | (split at hx <;> first | exact absurd hx am_go_inr | exact absurd hx am_jmp_inr | (cases hx; done) | (split at hx <;> first | exact absurd hx am_go_inr | exact absurd hx am_jmp_inr | (cases hx; done) | (split at hx <;> first | exact absurd hx am_go_inr | exact absurd hx am_jmp_inr | (cases hx; done))))
      | iinc a0 a1 =>
        dsimp only [am_ex] at hx
        first | exact absurd hx am_go_inr | exact absurd hx am_jmp_inr | (split at hx <;> first | exact absurd hx am_go_inr | exact absurd hx am_jmp_inr | (cases hx; done) | (split at hx <;> first | exact absurd hx am_go_inr | exact absurd hx am_jmp_inr | (cases hx; done) | (split at hx <;> first | exact absurd hx am_go_inr | exact absurd hx am_jmp_inr | (cases hx; done))))
      | iadd =>
        dsimp only [am_ex] at hx
        first | exact absurd hx am_go_inr | exact absurd hx am_jmp_inr | (split at hx <;> first | exact absurd hx am_go_inr | exact absurd hx am_jmp_inr | (cases hx; done) | (split at hx <;> first | exact absurd hx am_go_inr | exact absurd hx am_jmp_inr | (cases hx; done) | (split at hx <;> first | exact absurd hx am_go_inr | exact absurd hx am_jmp_inr | (cases hx; done))))
      | isub =>
        dsimp only [am_ex] at hx
        first | exact absurd hx am_go_inr | exact absurd hx am_jmp_inr | (split at hx <;> first | exact absurd hx am_go_inr | exact absurd hx am_jmp_inr | (cases hx; done) | (split at hx <;> first | exact absurd hx am_go_inr | exact absurd hx am_jmp_inr | (cases hx; done) | (split at hx <;> first | exact absurd hx am_go_inr | exact absurd hx am_jmp_inr | (cases hx; done))))
      | imul =>
        dsimp only [am_ex] at hx
        first | exact absurd hx am_go_inr | exact absurd hx am_jmp_inr | (split at hx <;> first | exact absurd hx am_go_inr | exact absurd hx am_jmp_inr | (cases hx; done) | (split at hx <;> first | exact absurd hx am_go_inr | exact absurd hx am_jmp_inr | (cases hx; done) | (split at hx <;> first | exact absurd hx am_go_inr | exact absurd hx am_jmp_inr | (cases hx; done))))
      | iand =>
        dsimp only [am_ex] at hx
        first | exact absurd hx am_go_inr | exact absurd hx am_jmp_inr | (split at hx <;> first | exact absurd hx am_go_inr | exact absurd hx am_jmp_inr | (cases hx; done) | (split at hx <;> first | exact absurd hx am_go_inr | exact absurd hx am_jmp_inr | (cases hx; done) | (split at hx <;> first | exact absurd hx am_go_inr | exact absurd hx am_jmp_inr | (cases hx; done))))
      | ior =>
        dsimp only [am_ex] at hx
        first | exact absurd hx am_go_inr | exact absurd hx am_jmp_inr | (split at hx <;> first | exact absurd hx am_go_inr | exact absurd hx am_jmp_inr | (cases hx; done) | (split at hx <;> first | exact absurd hx am_go_inr | exact absurd hx am_jmp_inr | (cases hx; done) | (split at hx <;> first | exact absurd hx am_go_inr | exact absurd hx am_jmp_inr | (cases hx; done))))
      | ixor =>
        dsimp only [am_ex] at hx
        first | exact absurd hx am_go_inr | exact absurd hx am_jmp_inr | (split at hx <;> first | exact absurd hx am_go_inr | exact absurd hx am_jmp_inr | (cases hx; done) | (split at hx <;> first | exact absurd hx am_go_inr | exact absurd hx am_jmp_inr | (cases hx; done) | (split at hx <;> first | exact absurd hx am_go_inr | exact absurd hx am_jmp_inr | (cases hx; done))))
      | ishl =>
        dsimp only [am_ex] at hx
        first | exact absurd hx am_go_inr | exact absurd hx am_jmp_inr | (split at hx <;> first | exact absurd hx am_go_inr | exact absurd hx am_jmp_inr | (cases hx; done) | (split at hx <;> first | exact absurd hx am_go_inr | exact absurd hx am_jmp_inr | (cases hx; done) | (split at hx <;> first | exact absurd hx am_go_inr | exact absurd hx am_jmp_inr | (cases hx; done))))
      | ishr =>
        dsimp only [am_ex] at hx
        first | exact absurd hx am_go_inr | exact absurd hx am_jmp_inr | (split at hx <;> first | exact absurd hx am_go_inr | exact absurd hx am_jmp_inr | (cases hx; done) | (split at hx <;> first | exact absurd hx am_go_inr | exact absurd hx am_jmp_inr | (cases hx; done) | (split at hx <;> first | exact absurd hx am_go_inr | exact absurd hx am_jmp_inr | (cases hx; done))))
      | ineg =>
        dsimp only [am_ex] at hx
        first | exact absurd hx am_go_inr | exact absurd hx am_jmp_inr | (split at hx <;> first | exact absurd hx am_go_inr | exact absurd hx am_jmp_inr | (cases hx; done) | (split at hx <;> first | exact absurd hx am_go_inr | exact absurd hx am_jmp_inr | (cases hx; done) | (split at hx <;> first | exact absurd hx am_go_inr | exact absurd hx am_jmp_inr | (cases hx; done))))
      | ladd =>
        dsimp only [am_ex] at hx
        first | exact absurd hx am_go_inr | exact absurd hx am_jmp_inr | (split at hx <;> first | exact absurd hx am_go_inr | exact absurd hx am_jmp_inr | (cases hx; done) | (split at hx <;> first | exact absurd hx am_go_inr | exact absurd hx am_jmp_inr | (cases hx; done) | (split at hx <;> first | exact absurd hx am_go_inr | exact absurd hx am_jmp_inr | (cases hx; done))))
      | lsub =>
        dsimp only [am_ex] at hx
        first | exact absurd hx am_go_inr | exact absurd hx am_jmp_inr | (split at hx <;> first | exact absurd hx am_go_inr | exact absurd hx am_jmp_inr | (cases hx; done) | (split at hx <;> first | exact absurd hx am_go_inr | exact absurd hx am_jmp_inr | (cases hx; done) | (split at hx <;> first | exact absurd hx am_go_inr | exact absurd hx am_jmp_inr | (cases hx; done))))
      | lmul =>
        dsimp only [am_ex] at hx
        first | exact absurd hx am_go_inr | exact absurd hx am_jmp_inr | (split at hx <;> first | exact absurd hx am_go_inr | exact absurd hx am_jmp_inr | (cases hx; done) | (split at hx <;> first | exact absurd hx am_go_inr | exact absurd hx am_jmp_inr | (cases hx; done) | (split at hx <;> first | exact absurd hx am_go_inr | exact absurd hx am_jmp_inr | (cases hx; done))))
      | lneg =>
        dsimp only [am_ex] at hx
        first | exact absurd hx am_go_inr | exact absurd hx am_jmp_inr | (split at hx <;> first | exact absurd hx am_go_inr | exact absurd hx am_jmp_inr | (cases hx; done) | (split at hx <;> first | exact absurd hx am_go_inr | exact absurd hx am_jmp_inr | (cases hx; done) | (split at hx <;> first | exact absurd hx am_go_inr | exact absurd hx am_jmp_inr | (cases hx; done))))
      | idiv =>
        dsimp only [am_ex] at hx
        first | exact absurd hx am_go_inr | exact absurd hx am_jmp_inr | (split at hx <;> first | exact absurd hx am_go_inr | exact absurd hx am_jmp_inr | (cases hx; done) | (split at hx <;> first | exact absurd hx am_go_inr | exact absurd hx am_jmp_inr | (cases hx; done) | (split at hx <;> first | exact absurd hx am_go_inr | exact absurd hx am_jmp_inr | (cases hx; done))))
      | irem =>
        dsimp only [am_ex] at hx
        first | exact absurd hx am_go_inr | exact absurd hx am_jmp_inr | (split at hx <;> first | exact absurd hx am_go_inr | exact absurd hx am_jmp_inr | (cases hx; done) | (split at hx <;> first | exact absurd hx am_go_inr | exact absurd hx am_jmp_inr | (cases hx; done) | (split at hx <;> first | exact absurd hx am_go_inr | exact absurd hx am_jmp_inr | (cases hx; done))))
      | ldiv =>
        dsimp only [am_ex] at hx
        first | exact absurd hx am_go_inr | exact absurd hx am_jmp_inr | (split at hx <;> first | exact absurd hx am_go_inr | exact absurd hx am_jmp_inr | (cases hx; done) | (split at hx <;> first | exact absurd hx am_go_inr | exact absurd hx am_jmp_inr | (cases hx; done) | (split at hx <;> first | exact absurd hx am_go_inr | exact absurd hx am_jmp_inr | (cases hx; done))))
      | lrem =>
        dsimp only [am_ex] at hx
        first | exact absurd hx am_go_inr | exact absurd hx am_jmp_inr | (split at hx <;> first | exact absurd hx am_go_inr | exact absurd hx am_jmp_inr | (cases hx; done) | (split at hx <;> first | exact absurd hx am_go_inr | exact absurd hx am_jmp_inr | (cases hx; done) | (split at hx <;> first | exact absurd hx am_go_inr | exact absurd hx am_jmp_inr | (cases hx; done))))
      | lcmp =>
        dsimp only [am_ex] at hx
        first | exact absurd hx am_go_inr | exact absurd hx am_jmp_inr | (split at hx <;> first | exact absurd hx am_go_inr | exact absurd hx am_jmp_inr | (cases hx; done) | (split at hx <;> first | exact absurd hx am_go_inr | exact absurd hx am_jmp_inr | (cases hx; done) | (split at hx <;> first | exact absurd hx am_go_inr | exact absurd hx am_jmp_inr | (cases hx; done))))
      | i2l =>
        dsimp only [am_ex] at hx
        first | exact absurd hx am_go_inr | exact absurd hx am_jmp_inr | (split at hx <;> first | exact absurd hx am_go_inr | exact absurd hx am_jmp_inr | (cases hx; done) | (split at hx <;> first | exact absurd hx am_go_inr | exact absurd hx am_jmp_inr | (cases hx; done) | (split at hx <;> first | exact absurd hx am_go_inr | exact absurd hx am_jmp_inr | (cases hx; done))))
      | l2i =>
        dsimp only [am_ex] at hx
        first | exact absurd hx am_go_inr | exact absurd hx am_jmp_inr | (split at hx <;> first | exact absurd hx am_go_inr | exact absurd hx am_jmp_inr | (cases hx; done) | (split at hx <;> first | exact absurd hx am_go_inr | exact absurd hx am_jmp_inr | (cases hx; done) | (split at hx <;> first | exact absurd hx am_go_inr | exact absurd hx am_jmp_inr | (cases hx; done))))
      | dup =>
        dsimp only [am_ex] at hx
        first | exact absurd hx am_go_inr | exact absurd hx am_jmp_inr | (split at hx <;> first | exact absurd hx am_go_inr | exact absurd hx am_jmp_inr | (cases hx; done) | (split at hx <;> first | exact absurd hx am_go_inr | exact absurd hx am_jmp_inr | (cases hx; done) | (split at hx <;> first | exact absurd hx am_go_inr | exact absurd hx am_jmp_inr | (cases hx; done))))
      | pop =>
        dsimp only [am_ex] at hx
        first | exact absurd hx am_go_inr | exact absurd hx am_jmp_inr | (split at hx <;> first | exact absurd hx am_go_inr | exact absurd hx am_jmp_inr | (cases hx; done) | (split at hx <;> first | exact absurd hx am_go_inr | exact absurd hx am_jmp_inr | (cases hx; done) | (split at hx <;> first | exact absurd hx am_go_inr | exact absurd hx am_jmp_inr | (cases hx; done))))
      | dup2 =>
        dsimp only [am_ex] at hx
        first | exact absurd hx am_go_inr | exact absurd hx am_jmp_inr | (split at hx <;> first | exact absurd hx am_go_inr | exact absurd hx am_jmp_inr | (cases hx; done) | (split at hx <;> first | exact absurd hx am_go_inr | exact absurd hx am_jmp_inr | (cases hx; done) | (split at hx <;> first | exact absurd hx am_go_inr | exact absurd hx am_jmp_inr | (cases hx; done))))
      | goto a0 =>
        dsimp only [am_ex] at hx
        first | exact absurd hx am_go_inr | exact absurd hx am_jmp_inr | (split at hx <;> first | exact absurd hx am_go_inr | exact absurd hx am_jmp_inr | (cases hx; done) | (split at hx <;> first | exact absurd hx am_go_inr | exact absurd hx am_jmp_inr | (cases hx; done) | (split at hx <;> first | exact absurd hx am_go_inr | exact absurd hx am_jmp_inr | (cases hx; done))))
      | getfield a0 =>
        dsimp only [am_ex] at hx
        first | exact absurd hx am_go_inr | exact absurd hx am_jmp_inr | (split at hx <;> first | exact absurd hx am_go_inr | exact absurd hx am_jmp_inr | (cases hx; done) | (split at hx <;> first | exact absurd hx am_go_inr | exact absurd hx am_jmp_inr | (cases hx; done) | (split at hx <;> first | exact absurd hx am_go_inr | exact absurd hx am_jmp_inr | (cases hx; done))))
      | putfield a0 =>
        dsimp only [am_ex] at hx
        first | exact absurd hx am_go_inr | exact absurd hx am_jmp_inr | (split at hx <;> first | exact absurd hx am_go_inr | exact absurd hx am_jmp_inr | (cases hx; done) | (split at hx <;> first | exact absurd hx am_go_inr | exact absurd hx am_jmp_inr | (cases hx; done) | (split at hx <;> first | exact absurd hx am_go_inr | exact absurd hx am_jmp_inr | (cases hx; done))))
      | getstatic a0 =>
        dsimp only [am_ex] at hx
        first | exact absurd hx am_go_inr | exact absurd hx am_jmp_inr | (split at hx <;> first | exact absurd hx am_go_inr | exact absurd hx am_jmp_inr | (cases hx; done) | (split at hx <;> first | exact absurd hx am_go_inr | exact absurd hx am_jmp_inr | (cases hx; done) | (split at hx <;> first | exact absurd hx am_go_inr | exact absurd hx am_jmp_inr | (cases hx; done))))
      | iaload =>
        dsimp only [am_ex] at hx
        first | exact absurd hx am_go_inr | exact absurd hx am_jmp_inr | (split at hx <;> first | exact absurd hx am_go_inr | exact absurd hx am_jmp_inr | (cases hx; done) | (split at hx <;> first | exact absurd hx am_go_inr | exact absurd hx am_jmp_inr | (cases hx; done) | (split at hx <;> first | exact absurd hx am_go_inr | exact absurd hx am_jmp_inr | (cases hx; done))))
      | baload =>
        dsimp only [am_ex] at hx
        first | exact absurd hx am_go_inr | exact absurd hx am_jmp_inr | (split at hx <;> first | exact absurd hx am_go_inr | exact absurd hx am_jmp_inr | (cases hx; done) | (split at hx <;> first | exact absurd hx am_go_inr | exact absurd hx am_jmp_inr | (cases hx; done) | (split at hx <;> first | exact absurd hx am_go_inr | exact absurd hx am_jmp_inr | (cases hx; done))))
      | laload =>
        dsimp only [am_ex] at hx
        first | exact absurd hx am_go_inr | exact absurd hx am_jmp_inr | (split at hx <;> first | exact absurd hx am_go_inr | exact absurd hx am_jmp_inr | (cases hx; done) | (split at hx <;> first | exact absurd hx am_go_inr | exact absurd hx am_jmp_inr | (cases hx; done) | (split at hx <;> first | exact absurd hx am_go_inr | exact absurd hx am_jmp_inr | (cases hx; done))))
      | aaload =>
        dsimp only [am_ex] at hx
        first | exact absurd hx am_go_inr | exact absurd hx am_jmp_inr | (split at hx <;> first | exact absurd hx am_go_inr | exact absurd hx am_jmp_inr | (cases hx; done) | (split at hx <;> first | exact absurd hx am_go_inr | exact absurd hx am_jmp_inr | (cases hx; done) | (split at hx <;> first | exact absurd hx am_go_inr | exact absurd hx am_jmp_inr | (cases hx; done))))
      | arraylength =>
        dsimp only [am_ex] at hx
        first | exact absurd hx am_go_inr | exact absurd hx am_jmp_inr | (split at hx <;> first | exact absurd hx am_go_inr | exact absurd hx am_jmp_inr | (cases hx; done) | (split at hx <;> first | exact absurd hx am_go_inr | exact absurd hx am_jmp_inr | (cases hx; done) | (split at hx <;> first | exact absurd hx am_go_inr | exact absurd hx am_jmp_inr | (cases hx; done))))
      | iastore =>
        dsimp only [am_ex] at hx
        first | exact absurd hx am_go_inr | exact absurd hx am_jmp_inr | (split at hx <;> first | exact absurd hx am_go_inr | exact absurd hx am_jmp_inr | (cases hx; done) | (split at hx <;> first | exact absurd hx am_go_inr | exact absurd hx am_jmp_inr | (cases hx; done) | (split at hx <;> first | exact absurd hx am_go_inr | exact absurd hx am_jmp_inr | (cases hx; done))))
      | bastore =>
        dsimp only [am_ex] at hx
        first | exact absurd hx am_go_inr | exact absurd hx am_jmp_inr | (split at hx <;> first | exact absurd hx am_go_inr | exact absurd hx am_jmp_inr | (cases hx; done) | (split at hx <;> first | exact absurd hx am_go_inr | exact absurd hx am_jmp_inr | (cases hx; done) | (split at hx <;> first | exact absurd hx am_go_inr | exact absurd hx am_jmp_inr | (cases hx; done))))
      | lastore =>
        dsimp only [am_ex] at hx
        first | exact absurd hx am_go_inr | exact absurd hx am_jmp_inr | (split at hx <;> first | exact absurd hx am_go_inr | exact absurd hx am_jmp_inr | (cases hx; done) | (split at hx <;> first | exact absurd hx am_go_inr | exact absurd hx am_jmp_inr | (cases hx; done) | (split at hx <;> first | exact absurd hx am_go_inr | exact absurd hx am_jmp_inr | (cases hx; done))))
      | aastore =>
        dsimp only [am_ex] at hx
        first | exact absurd hx am_go_inr | exact absurd hx am_jmp_inr | (split at hx <;> first | exact absurd hx am_go_inr | exact absurd hx am_jmp_inr | (cases hx; done) | (split at hx <;> first | exact absurd hx am_go_inr | exact absurd hx am_jmp_inr | (cases hx; done) | (split at hx <;> first | exact absurd hx am_go_inr | exact absurd hx am_jmp_inr | (cases hx; done))))
      | tableswitch a0 a1 a2 a3 =>
        dsimp only [am_ex] at hx
        first | exact absurd hx am_go_inr | exact absurd hx am_jmp_inr | (split at hx <;> first | exact absurd hx am_go_inr | exact absurd hx am_jmp_inr | (cases hx; done) | (split at hx <;> first | exact absurd hx am_go_inr | exact absurd hx am_jmp_inr | (cases hx; done) | (split at hx <;> first | exact absurd hx am_go_inr | exact absurd hx am_jmp_inr | (cases hx; done))))
      | lookupswitch a0 a1 =>
        dsimp only [am_ex] at hx
        first | exact absurd hx am_go_inr | exact absurd hx am_jmp_inr | (split at hx <;> first | exact absurd hx am_go_inr | exact absurd hx am_jmp_inr | (cases hx; done) | (split at hx <;> first | exact absurd hx am_go_inr | exact absurd hx am_jmp_inr | (cases hx; done) | (split at hx <;> first | exact absurd hx am_go_inr | exact absurd hx am_jmp_inr | (cases hx; done))))
      | ifCond a0 a1 =>
        dsimp only [am_ex] at hx
        split at hx
        · split at hx
          · exact absurd hx (am_br_inr am_go_inr am_go_inr)
          · cases hx
        · cases hx
      | if_icmp a0 a1 =>
        dsimp only [am_ex] at hx
        split at hx
        · split at hx
          · exact absurd hx (am_br_inr am_go_inr am_go_inr)
          · cases hx
        · cases hx
      | new a0 =>
        dsimp only [am_ex] at hx
        split at hx
        · split at hx
          · exact absurd hx am_go_inr
          · cases hx
        · cases hx
      | newarray a0 =>
        dsimp only [am_ex] at hx
        split at hx
        · split at hx
          · exact absurd hx am_go_inr
          · cases hx
        · cases hx
      | multianewarray a0 a1 =>
        dsimp only [am_ex] at hx
        split at hx
        · split at hx
          · exact absurd hx am_go_inr
          · cases hx
        · cases hx
      | invokevirtual a0 =>
        dsimp only [am_ex] at hx
        exact absurd hx am_call_inr
      | invokestatic a0 =>
        dsimp only [am_ex] at hx
        split at hx
        · split at hx
          · exact absurd hx am_call_inr
          · cases hx
        · cases hx
      | invokespecial a0 =>
        dsimp only [am_ex] at hx
        split at hx
        · split at hx
          · exact absurd hx am_call_inr
          · cases hx
        · cases hx
      | ireturn =>
        rcases hlen with hl | hl
        · cases hl
        · subst hl
          dsimp only [am_ex] at hx
          split at hx
          · split at hx
            · rename_i hr
              cases hx
              exact Or.inl ⟨_, hd, rfl, hr, rfl⟩
            · cases hx
          · cases hx
      | lreturn =>
        rcases hlen with hl | hl
        · cases hl
        · subst hl
          dsimp only [am_ex] at hx
          split at hx
          · split at hx
            · rename_i hr
              cases hx
              exact Or.inr (Or.inl ⟨_, hd, rfl, hr, rfl⟩)
            · cases hx
          · cases hx
      | return_ =>
        rcases hlen with hl | hl
        · cases hl
        · subst hl
          dsimp only [am_ex] at hx
          split at hx
          · split at hx
            · rename_i hr
              cases hx
              exact Or.inr (Or.inr ⟨hd, rfl, hr, rfl⟩)
            · cases hx
          · cases hx
      | _ => cases hx
    · cases hx
  · cases hx
theorem am_ct_iter (hc : ∀ mj as n h r, call mj as n h = some r → r.2.1 = n + r.2.2.2.1) : ∀ (N : Nat) (z : am_Z) (r : am_R), am_iter X call mi N z = some r → r.2.1 + z.2.2.2.2.2.1 = z.2.2.2.1 + r.2.2.2.1 ∧ z.2.2.2.2.2.1 ≤ r.2.2.2.1 ∧ z.2.2.2.2.2.2 ≤ r.2.2.2.2
  | 0, z, r, hx => by cases hx
  | N + 1, (pc, L, st, n, h, k, j), r, hx => by
    unfold am_iter at hx
    split at hx
    · rename_i z1 hz
      obtain ⟨a1, a2, a3⟩ := am_ct_step hc hz
      obtain ⟨b1, b2, b3⟩ := am_ct_iter hc N z1 r hx
      dsimp only
      exact ⟨by omega, by omega, by omega⟩
    · rename_i r1 hz
      cases hx
      rcases am_rt_step hz with ⟨v, -, -, -, rfl⟩ | ⟨v, -, -, -, rfl⟩ | ⟨-, -, -, rfl⟩ <;> exact ⟨rfl, Nat.le_refl _, Nat.le_refl _⟩
    · cases hx
theorem am_ct_run (N : Nat) : ∀ (d mj : Nat) (as : List Value) (n : Nat) (h : am_H) (r : am_R), am_run X N d mj as n h = some r → r.2.1 = n + r.2.2.2.1
  | 0, mj, as, n, h, r, hx => by cases hx
  | d + 1, mj, as, n, h, r, hx => by
    unfold am_run at hx
    split at hx
    · have := (am_ct_iter (am_ct_run N d) N _ r hx).1
      dsimp only at this
      omega
    · cases hx
end AMN
