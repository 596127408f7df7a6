/-! reasoning about runs of the abstract machine -/
section AW
variable {X : am_X}
def am_le (f g : am_Cl) : Prop := ∀ mj as n h r, f mj as n h = some r → g mj as n h = some r
theorem am_call_le {f g : am_Cl} (hfg : am_le f g) {mi q kd pc : Nat} {L : am_L} {st : List Value} {n : Nat} {h : am_H} {c s : Nat} {o : am_Z ⊕ am_R} (hx : am_call f mi q kd pc L st n h c s = some o) : am_call g mi q kd pc L st n h c s = some o := by
  have hbk : ∀ {rest : List Value} {mj : Nat} {as : List Value}, am_back (pc + 3) L rest c s (f mj as n h) = some o → am_back (pc + 3) L rest c s (g mj as n h) = some o := by
    intro rest mj as hx
    cases hc : f mj as n h with
    | none => rw [hc] at hx; cases hx
    | some r => rw [hc] at hx; rw [hfg _ _ _ _ _ hc]; exact hx
  unfold am_call at hx ⊢
  split at hx
  · cases hx
  · rename_i k mj hct
    split at hx
    · cases hx
    · rename_i hk
      rw [if_neg hk]
      split at hx
      · split at hx
        · split at hx
          · split at hx
            · rename_i hc
              rw [if_pos hc]
              exact hbk hx
            · cases hx
          · cases hx
        · cases hx
      · split at hx
        · rename_i hc
          rw [if_pos hc]
          exact hbk hx
        · cases hx
      · split at hx
        · split at hx
          · rename_i hc
            rw [if_pos hc]
            exact hbk hx
          · cases hx
        · cases hx
      · split at hx
        · rename_i hc
          rw [if_pos hc]
          exact hbk hx
        · cases hx
      · exact hx
      · exact hx
      · exact hx
      · exact hx
      · exact hx
      · cases hx
theorem am_step_le {f g : am_Cl} (hfg : am_le f g) {mi : Nat} {z : am_Z} {o : am_Z ⊕ am_R} (hx : am_step X f mi z = some o) : am_step X g mi z = some o := by
  obtain ⟨pc, L, st, n, h, c, s⟩ := z
  unfold am_step at hx ⊢
  dsimp only at hx ⊢
  split at hx
  · rename_i i len hd
    split at hx
    · rename_i hl
      rw [if_pos hl]
      cases i with
      | invokevirtual q =>
        dsimp only [am_ex] at hx ⊢
        exact am_call_le hfg hx
      | invokestatic q =>
        dsimp only [am_ex] at hx ⊢
        split at hx
        · split at hx
          · rename_i hk
            rw [if_pos hk]
            exact am_call_le hfg hx
          · cases hx
        · cases hx
      | invokespecial q =>
        dsimp only [am_ex] at hx ⊢
        split at hx
        · split at hx
          · rename_i hk
            rw [if_pos hk]
            exact am_call_le hfg hx
          · cases hx
        · cases hx
      | _ => exact hx
    · cases hx
  · cases hx
theorem am_iter_le {f g : am_Cl} (hfg : am_le f g) {mi : Nat} : ∀ (N M : Nat) (z : am_Z) (r : am_R), N ≤ M → am_iter X f mi N z = some r → am_iter X g mi M z = some r
  | 0, _, _, _, _, hx => by cases hx
  | N + 1, 0, _, _, h, _ => by omega
  | N + 1, M + 1, z, r, h, hx => by
    unfold am_iter at hx ⊢
    split at hx
    · rename_i z1 hz
      rw [am_step_le hfg hz]
      exact am_iter_le hfg N M z1 r (by omega) hx
    · rename_i r1 hz
      rw [am_step_le hfg hz]
      exact hx
    · cases hx
theorem am_run_le : ∀ (d e N M : Nat), d ≤ e → N ≤ M → am_le (am_run X N d) (am_run X M e)
  | 0, _, _, _, _, _ => fun _ _ _ _ _ hx => by cases hx
  | d + 1, 0, _, _, h, _ => by omega
  | d + 1, e + 1, N, M, h, h2 => fun mj as n hh r hx => by
    unfold am_run at hx ⊢
    split at hx
    · rename_i hl
      rw [if_pos hl]
      exact am_iter_le (am_run_le d e N M (by omega) h2) N M _ r h2 hx
    · cases hx
/-- from this state of a method's run it comes to an answer with Q -/
def AW (X : am_X) (mi : Nat) (z : am_Z) (Q : am_R → Prop) : Prop := ∃ N r, am_iter X (am_run X N N) mi N z = some r ∧ Q r
/-- a method called so comes to an answer with Q -/
def AV (X : am_X) (mi : Nat) (as : List Value) (n : Nat) (h : am_H) (Q : am_R → Prop) : Prop := ∃ N r, am_run X N N mi as n h = some r ∧ Q r
theorem AW.mono {mi : Nat} {z : am_Z} {Q Q' : am_R → Prop} (h : AW X mi z Q) (hq : ∀ r, Q r → Q' r) : AW X mi z Q' := by
  obtain ⟨N, r, h1, h2⟩ := h
  exact ⟨N, r, h1, hq r h2⟩
theorem AV.mono {mi : Nat} {as : List Value} {n : Nat} {hh : am_H} {Q Q' : am_R → Prop} (h : AV X mi as n hh Q) (hq : ∀ r, Q r → Q' r) : AV X mi as n hh Q' := by
  obtain ⟨N, r, h1, h2⟩ := h
  exact ⟨N, r, h1, hq r h2⟩
theorem AV.of {mi : Nat} {as : List Value} {n : Nat} {h : am_H} {Q : am_R → Prop} (hl : (lg_sl as).length ≤ am_maxL mi) (k : AW X mi (0, lv_args 0 as, [], n, h, 0, 0) Q) : AV X mi as n h Q := by
  obtain ⟨N, r, h1, h2⟩ := k
  refine ⟨N + 1, r, ?_, h2⟩
  unfold am_run
  rw [if_pos hl]
  exact am_iter_le (am_run_le N N N (N + 1) (Nat.le_refl _) (by omega)) N (N + 1) _ r (by omega) h1
theorem AW.step {mi : Nat} {z z1 : am_Z} {Q : am_R → Prop} (hs : ∀ call, am_step X call mi z = some (.inl z1)) (k : AW X mi z1 Q) : AW X mi z Q := by
  obtain ⟨N, r, h1, h2⟩ := k
  refine ⟨N + 1, r, ?_, h2⟩
  unfold am_iter
  rw [hs]
  exact am_iter_le (am_run_le N (N + 1) N (N + 1) (by omega) (by omega)) N N _ r (Nat.le_refl _) h1
theorem AW.ret {mi : Nat} {z : am_Z} {Q : am_R → Prop} {r : am_R} (hs : ∀ call, am_step X call mi z = some (.inr r)) (k : Q r) : AW X mi z Q := by
  refine ⟨1, r, ?_, k⟩
  unfold am_iter
  rw [hs]
theorem AW.call {mi mj : Nat} {z : am_Z} {as : List Value} {n : Nat} {h : am_H} {Q Q' : am_R → Prop} (hc : AV X mj as n h Q') {f : am_R → am_Z} (hs : ∀ (call : am_Cl) (r : am_R), call mj as n h = some r → am_step X call mi z = some (.inl (f r))) (k : ∀ r, Q' r → AW X mi (f r) Q) : AW X mi z Q := by
  obtain ⟨N, r1, h1, h2⟩ := hc
  obtain ⟨M, r, h3, h4⟩ := k r1 h2
  refine ⟨N + M + 1, r, ?_, h4⟩
  unfold am_iter
  have e1 : am_run X (N + M + 1) (N + M + 1) mj as n h = some r1 := am_run_le N (N + M + 1) N (N + M + 1) (by omega) (by omega) _ _ _ _ _ h1
  rw [hs _ _ e1]
  exact am_iter_le (am_run_le M (N + M + 1) M (N + M + 1) (by omega) (by omega)) M (N + M) _ r (by omega) h3
theorem AW.goal {mi : Nat} {z : am_Z} {Q : am_R → Prop} (h : AW X mi z Q) : ∃ (N d : Nat) (r : am_R), am_iter X (am_run X N d) mi N z = some r ∧ Q r := by
  obtain ⟨N, r, h1, h2⟩ := h
  exact ⟨N, N, r, h1, h2⟩
/-! fewer locals: those that are kept are told once -/
def am_nd (L : am_L) : Prop := ∀ q ∈ L, ∀ q' ∈ L, q.1 = q'.1 → q = q'
def am_sub (L' L : am_L) : Prop := am_nd L ∧ ∀ q ∈ L', q ∈ L
theorem am_sub_ld {L' L : am_L} (h : am_sub L' L) {i : Nat} {v : Value} (hl : am_ld L' i = some v) : am_ld L i = some v := by
  unfold am_ld at hl ⊢
  obtain ⟨q, hq, rfl⟩ := Option.map_eq_some_iff.mp hl
  have h1 := h.2 q (List.mem_of_find?_eq_some hq)
  have h2 : q.1 = i := by simpa using List.find?_some hq
  cases hf : L.find? (fun q => q.1 == i) with
  | none =>
    have := List.find?_eq_none.mp hf q h1
    simp [h2] at this
  | some q' =>
    have h3 := List.mem_of_find?_eq_some hf
    have h4 : q'.1 = i := by simpa using List.find?_some hf
    rw [h.1 q h1 q' h3 (h2.trans h4.symm)]
    rfl
theorem am_sub_st1 {L' L : am_L} (h : am_sub L' L) (i : Nat) (v : Value) : am_sub (am_st1 L' i v) (am_st1 L i v) := by
  unfold am_st1
  refine ⟨fun q hq q' hq' he => ?_, fun q hq => ?_⟩
  · rcases List.mem_cons.mp hq with rfl | hq
    · rcases List.mem_cons.mp hq' with rfl | hq'
      · rfl
      · have := (List.mem_filter.mp hq').2
        simp only [Bool.and_eq_true, Bool.not_eq_true', beq_eq_false_iff_ne] at this
        exact absurd he.symm this.1
    · rcases List.mem_cons.mp hq' with rfl | hq'
      · have := (List.mem_filter.mp hq).2
        simp only [Bool.and_eq_true, Bool.not_eq_true', beq_eq_false_iff_ne] at this
        exact absurd he this.1
      · exact h.1 q (List.mem_filter.mp hq).1 q' (List.mem_filter.mp hq').1 he
  · rcases List.mem_cons.mp hq with rfl | hq
    · exact List.mem_cons_self
    · exact List.mem_cons_of_mem _ (List.mem_filter.mpr ⟨h.2 q (List.mem_filter.mp hq).1, (List.mem_filter.mp hq).2⟩)
theorem am_sub_st2 {L' L : am_L} (h : am_sub L' L) (i : Nat) (v : Value) : am_sub (am_st2 L' i v) (am_st2 L i v) := by
  unfold am_st2
  refine ⟨fun q hq q' hq' he => ?_, fun q hq => ?_⟩
  · rcases List.mem_cons.mp hq with rfl | hq
    · rcases List.mem_cons.mp hq' with rfl | hq'
      · rfl
      · have := (List.mem_filter.mp hq').2
        simp only [Bool.and_eq_true, Bool.not_eq_true', beq_eq_false_iff_ne] at this
        exact absurd he.symm this.1
    · rcases List.mem_cons.mp hq' with rfl | hq'
      · have := (List.mem_filter.mp hq).2
        simp only [Bool.and_eq_true, Bool.not_eq_true', beq_eq_false_iff_ne] at this
        exact absurd he this.1
      · exact h.1 q (List.mem_filter.mp hq).1 q' (List.mem_filter.mp hq').1 he
  · rcases List.mem_cons.mp hq with rfl | hq
    · exact List.mem_cons_self
    · exact List.mem_cons_of_mem _ (List.mem_filter.mpr ⟨h.2 q (List.mem_filter.mp hq).1, (List.mem_filter.mp hq).2⟩)
end AW
