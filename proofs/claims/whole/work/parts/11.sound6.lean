/-! a run of the abstract machine is a contract of the machine -/
section AMM
variable {p : Program} {l : Launch} {e : Env} {R : Room} {s : State} {m : MethodId} {args : Array Value} {below : List Frame} {meth : Method} {c : Code} {Q : State → Prop}
variable {K : am_K} {X : am_X} {mi : Nat} {pc : Nat} {L : am_L} {st : List Value} {n : Nat} {h : am_H} {k j : Nat} {z : am_Z} {call : am_Cl} {len : Nat}
/-- what the calls below owe -/
def am_Cok (K : am_K) (X : am_X) (call : am_Cl) : Prop := ∀ mj as n h r, call mj as n h = some r → r.2.1 = n + r.2.2.2.1 ∧ ∀ l, mj < 181 → am_Met K X l mj as n h r
theorem am_s_invoke {q : Nat} {i : Instr} (hi : i = .invokevirtual q ∨ i = .invokestatic q ∨ i = .invokespecial q) (hA : am_At K X mi p R s m args meth c) (hcall : am_Cok K X call) (hd : decode (am_code mi) pc = .ok (i, 3)) (hx : am_ex X call mi i 3 pc L st n h k j = some (.inl z)) (hR : z.2.2.2.2.2.1 ≤ R.cells ∧ z.2.2.2.2.2.2 ≤ R.slots) (go : am_Go K mi p l e R s m args below meth c Q z) : am_Go K mi p l e R s m args below meth c Q (pc, L, st, n, h, k, j) := by
  rcases hi with rfl | rfl | rfl
  · dsimp only [am_ex] at hx
    exact am_s_call (Or.inl ⟨rfl, rfl⟩) hA hcall hd hx hR go
  · dsimp only [am_ex] at hx
    split at hx
    · split at hx
      · rename_i hk
        exact am_s_call (Or.inr (Or.inl ⟨rfl, hk⟩)) hA hcall hd hx hR go
      · cases hx
    · cases hx
  · dsimp only [am_ex] at hx
    split at hx
    · split at hx
      · rename_i hk
        exact am_s_call (Or.inr (Or.inr ⟨rfl, hk⟩)) hA hcall hd hx hR go
      · cases hx
    · cases hx
theorem am_s_step (hA : am_At K X mi p R s m args meth c) (hcall : am_Cok K X call) (hx : am_step X call mi (pc, L, st, n, h, k, j) = some (.inl z)) (hR : z.2.2.2.2.2.1 ≤ R.cells ∧ z.2.2.2.2.2.2 ≤ R.slots) (go : am_Go K mi p l e R s m args below meth c Q z) : am_Go K mi p l e R s m args below meth c Q (pc, L, st, n, h, k, j) := by
  unfold am_step at hx
  dsimp only at hx
  split at hx
  · rename_i i len hd
    split at hx
    · rename_i hlen
      cases i with
      | iconst a0 =>
        rcases hlen with hl | hl
        · cases hl
        · subst hl
          exact am_s_iconst hA hd hx go
      | bipush a0 =>
        rcases hlen with hl | hl
        · cases hl
        · subst hl
          exact am_s_bipush hA hd hx go
      | sipush a0 =>
        rcases hlen with hl | hl
        · cases hl
        · subst hl
          exact am_s_sipush hA hd hx go
      | lconst a0 =>
        rcases hlen with hl | hl
        · cases hl
        · subst hl
          exact am_s_lconst hA hd hx go
      | ldc a0 =>
        rcases hlen with hl | hl
        · cases hl
        · subst hl
          exact am_s_ldc hA hd hx go
      | ldc2_w a0 =>
        rcases hlen with hl | hl
        · cases hl
        · subst hl
          exact am_s_ldc2_w hA hd hx go
      | iload a0 =>
        rcases hlen with hl | hl
        · cases hl
        · subst hl
          exact am_s_iload hA hd hx go
      | lload a0 =>
        rcases hlen with hl | hl
        · cases hl
        · subst hl
          exact am_s_lload hA hd hx go
      | iload_n a0 =>
        rcases hlen with hl | hl
        · cases hl
        · subst hl
          exact am_s_iload_n hA hd hx go
      | lload_n a0 =>
        rcases hlen with hl | hl
        · cases hl
        · subst hl
          exact am_s_lload_n hA hd hx go
      | aload_n a0 =>
        rcases hlen with hl | hl
        · cases hl
        · subst hl
          exact am_s_aload_n hA hd hx go
      | istore a0 =>
        rcases hlen with hl | hl
        · cases hl
        · subst hl
          exact am_s_istore hA hd hx go
      | istore_n a0 =>
        rcases hlen with hl | hl
        · cases hl
        · subst hl
          exact am_s_istore_n hA hd hx go
      | lstore a0 =>
        rcases hlen with hl | hl
        · cases hl
        · subst hl
          exact am_s_lstore hA hd hx go
      | lstore_n a0 =>
        rcases hlen with hl | hl
        · cases hl
        · subst hl
          exact am_s_lstore_n hA hd hx go
      | astore_n a0 =>
        rcases hlen with hl | hl
        · cases hl
        · subst hl
          exact am_s_astore_n hA hd hx go
      | iinc a0 a1 =>
        rcases hlen with hl | hl
        · cases hl
        · subst hl
          exact am_s_iinc hA hd hx go
      | iadd =>
        rcases hlen with hl | hl
        · cases hl
        · subst hl
          exact am_s_iadd hA hd hx go
      | isub =>
        rcases hlen with hl | hl
        · cases hl
        · subst hl
          exact am_s_isub hA hd hx go
      | imul =>
        rcases hlen with hl | hl
        · cases hl
        · subst hl
          exact am_s_imul hA hd hx go
      | iand =>
        rcases hlen with hl | hl
        · cases hl
        · subst hl
          exact am_s_iand hA hd hx go
      | ior =>
        rcases hlen with hl | hl
        · cases hl
        · subst hl
          exact am_s_ior hA hd hx go
      | ixor =>
        rcases hlen with hl | hl
        · cases hl
        · subst hl
          exact am_s_ixor hA hd hx go
      | ishl =>
        rcases hlen with hl | hl
        · cases hl
        · subst hl
          exact am_s_ishl hA hd hx go
      | ishr =>
        rcases hlen with hl | hl
        · cases hl
        · subst hl
          exact am_s_ishr hA hd hx go
      | ineg =>
        rcases hlen with hl | hl
        · cases hl
        · subst hl
          exact am_s_ineg hA hd hx go
      | ladd =>
        rcases hlen with hl | hl
        · cases hl
        · subst hl
          exact am_s_ladd hA hd hx go
      | lsub =>
        rcases hlen with hl | hl
        · cases hl
        · subst hl
          exact am_s_lsub hA hd hx go
      | lmul =>
        rcases hlen with hl | hl
        · cases hl
        · subst hl
          exact am_s_lmul hA hd hx go
      | lneg =>
        rcases hlen with hl | hl
        · cases hl
        · subst hl
          exact am_s_lneg hA hd hx go
      | idiv =>
        rcases hlen with hl | hl
        · cases hl
        · subst hl
          exact am_s_idiv hA hd hx go
      | irem =>
        rcases hlen with hl | hl
        · cases hl
        · subst hl
          exact am_s_irem hA hd hx go
      | ldiv =>
        rcases hlen with hl | hl
        · cases hl
        · subst hl
          exact am_s_ldiv hA hd hx go
      | lrem =>
        rcases hlen with hl | hl
        · cases hl
        · subst hl
          exact am_s_lrem hA hd hx go
      | lcmp =>
        rcases hlen with hl | hl
        · cases hl
        · subst hl
          exact am_s_lcmp hA hd hx go
      | i2l =>
        rcases hlen with hl | hl
        · cases hl
        · subst hl
          exact am_s_i2l hA hd hx go
      | l2i =>
        rcases hlen with hl | hl
        · cases hl
        · subst hl
          exact am_s_l2i hA hd hx go
      | dup =>
        rcases hlen with hl | hl
        · cases hl
        · subst hl
          exact am_s_dup hA hd hx go
      | pop =>
        rcases hlen with hl | hl
        · cases hl
        · subst hl
          exact am_s_pop hA hd hx go
      | dup2 =>
        rcases hlen with hl | hl
        · cases hl
        · subst hl
          exact am_s_dup2 hA hd hx go
      | goto a0 =>
        rcases hlen with hl | hl
        · cases hl
        · subst hl
          exact am_s_goto hA hd hx go
      | ifCond a0 a1 =>
        rcases hlen with hl | hl
        · cases hl
        · subst hl
          exact am_s_ifCond hA hd hx go
      | if_icmp a0 a1 =>
        rcases hlen with hl | hl
        · cases hl
        · subst hl
          exact am_s_if_icmp hA hd hx go
      | getfield a0 =>
        rcases hlen with hl | hl
        · cases hl
        · subst hl
          exact am_s_getfield hA hd hx go
      | putfield a0 =>
        rcases hlen with hl | hl
        · cases hl
        · subst hl
          exact am_s_putfield hA hd hx go
      | getstatic a0 =>
        rcases hlen with hl | hl
        · cases hl
        · subst hl
          exact am_s_getstatic hA hd hx go
      | iaload =>
        rcases hlen with hl | hl
        · cases hl
        · subst hl
          exact am_s_iaload hA hd hx go
      | baload =>
        rcases hlen with hl | hl
        · cases hl
        · subst hl
          exact am_s_baload hA hd hx go
      | laload =>
        rcases hlen with hl | hl
        · cases hl
        · subst hl
          exact am_s_laload hA hd hx go
      | aaload =>
        rcases hlen with hl | hl
        · cases hl
        · subst hl
          exact am_s_aaload hA hd hx go
      | arraylength =>
        rcases hlen with hl | hl
        · cases hl
        · subst hl
          exact am_s_arraylength hA hd hx go
      | iastore =>
        rcases hlen with hl | hl
        · cases hl
        · subst hl
          exact am_s_iastore hA hd hx go
      | bastore =>
        rcases hlen with hl | hl
        · cases hl
        · subst hl
          exact am_s_bastore hA hd hx go
      | lastore =>
        rcases hlen with hl | hl
        · cases hl
        · subst hl
          exact am_s_lastore hA hd hx go
      | aastore =>
        rcases hlen with hl | hl
        · cases hl
        · subst hl
          exact am_s_aastore hA hd hx go
      | new a0 =>
        rcases hlen with hl | hl
        · cases hl
        · subst hl
          exact am_s_new hA hd hx hR go
      | newarray a0 =>
        rcases hlen with hl | hl
        · cases hl
        · subst hl
          exact am_s_newarray hA hd hx hR go
      | multianewarray a0 a1 =>
        rcases hlen with hl | hl
        · cases hl
        · subst hl
          exact am_s_multianewarray hA hd hx hR go
      | invokevirtual a0 =>
        rcases hlen with hl | hl
        · cases hl
        · subst hl
          exact am_s_invoke (Or.inl rfl) hA hcall hd hx hR go
      | invokestatic a0 =>
        rcases hlen with hl | hl
        · cases hl
        · subst hl
          exact am_s_invoke (Or.inr (Or.inl rfl)) hA hcall hd hx hR go
      | invokespecial a0 =>
        rcases hlen with hl | hl
        · cases hl
        · subst hl
          exact am_s_invoke (Or.inr (Or.inr rfl)) hA hcall hd hx hR go
      | tableswitch a0 a1 a2 a3 => exact am_s_tableswitch hA hd hx go
      | lookupswitch a0 a1 => exact am_s_lookupswitch hA hd hx go
      | ireturn =>
        dsimp only [am_ex] at hx
        split at hx
        · split at hx <;> cases hx
        · cases hx
      | lreturn =>
        dsimp only [am_ex] at hx
        split at hx
        · split at hx <;> cases hx
        · cases hx
      | return_ =>
        dsimp only [am_ex] at hx
        split at hx
        · split at hx <;> cases hx
        · cases hx
      | _ => cases hx
    · cases hx
  · cases hx
/-- the counts -/
theorem am_go_cnt {z1 : am_Z} (hx : am_go pc L st n h k j = some (.inl z1)) : z1.2.2.2.1 = n ∧ z1.2.2.2.2.2.1 = k ∧ z1.2.2.2.2.2.2 = j := by
  obtain rfl := am_go_inj hx
  exact ⟨rfl, rfl, rfl⟩
end AMM
