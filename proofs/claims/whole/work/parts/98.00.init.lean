/-! constructors: rules over a heap that grows -/
section AI
variable {X : am_X} {mi : Nat} {pc : Nat} {L : am_L} {st : List Value} {n : Nat} {h : am_H} {k j : Nat} {Q : am_R → Prop}
theorem ai_new {q ci n1 k1 j1 : Nat} {h1 : am_H} (hd : decode (am_code mi) pc = .ok (.new q, 3)) (hf : am_find am_nwL (am_mc mi) q = some ci) (hc : ci < 8) (hu : am_up h n (.inr (ci, am_def ci)) = h1) (hn : n + 1 = n1) (hk : k + 1 = k1) (hj : j + (am_C ci).2.2 = j1) (kk : AW X mi (pc + 3, L, .ref n :: st, n1, h1, k1, j1) Q) : AW X mi (pc, L, st, n, h, k, j) Q := by
  subst hu hn hk hj
  exact AW.step (fun call => by simp [am_step, hd, am_len, am_ex, am_go, hf, hc]) kk
theorem ai_arr {a : ArrayType} {t m n1 k1 j1 : Nat} {h1 : am_H} (hd : decode (am_code mi) pc = .ok (.newarray a, 2)) (ht : am_atype a = some t) (hm : ¬ nI m < 0) (hm2 : (nI m).toNatClampNeg = m) (hm3 : m ≤ 1000000) (hu : am_up h n (am_zero t m) = h1) (hn : n + 1 = n1) (hk : k + 1 = k1) (hj : j + m = j1) (kk : AW X mi (pc + 2, L, .ref n :: st, n1, h1, k1, j1) Q) : AW X mi (pc, L, .int (nI m) :: st, n, h, k, j) Q := by
  subst hu hn hk hj
  exact AW.step (fun call => by simp [am_step, hd, am_len, am_ex, am_go, ht, hm, hm2, hm3]) kk
theorem ai_grid {q t N M n1 k1 j1 : Nat} {h1 : am_H} (hd : decode (am_code mi) pc = .ok (.multianewarray q 2, 4)) (hf : am_find am_mwL (am_mc mi) q = some t) (ht : t = 3 ∨ t = 4) (hN : ¬ nI N < 0) (hN2 : (nI N).toNatClampNeg = N) (hN3 : N ≤ 1000000) (hM : ¬ nI M < 0) (hM2 : (nI M).toNatClampNeg = M) (hM3 : M ≤ 1000000) (hu : am_grid n h t N M = h1) (hn : n + 1 + N = n1) (hk : k + 1 + N = k1) (hj : j + N + N * M = j1) (kk : AW X mi (pc + 4, L, .ref n :: st, n1, h1, k1, j1) Q) : AW X mi (pc, L, .int (nI M) :: .int (nI N) :: st, n, h, k, j) Q := by
  subst hu hn hk hj
  exact AW.step (fun call => by simp [am_step, hd, am_len, am_ex, am_go, hf, ht, hN, hN2, hN3, hM, hM2, hM3]) kk
theorem ai_sup {q mj a : Nat} (hd : decode (am_code mi) pc = .ok (.invokespecial q, 3)) (hf : am_find am_ctL (am_mc mi) q = some (4, mj)) (h1 : 1 ≤ am_fr mi) (h2 : am_cat st + 12 ≤ am_lo mi) (kk : AW X mi (pc + 3, L, st, n, h, k, j) Q) : AW X mi (pc, L, .ref a :: st, n, h, k, j) Q := AW.step (fun call => by simp [am_step, hd, am_len, am_ex, am_go, am_call, hf, h1, h2]) kk
theorem ai_put {q ci f a : Nat} {fs fs1 : List Value} {v : Value} {h1 : am_H} (hd : decode (am_code mi) pc = .ok (.putfield q, 3)) (hf : am_find am_ftL (am_mc mi) q = some (ci, f)) (ha : a < n) (hh : h a = .inr (ci, fs)) (hl : f < fs.length) (hv : am_okv (am_ty ci f) v = true) (hfin : ((am_C ci).2.1 f).2.2.2 = false ∨ ((am_name mi).name = "<init>" ∧ ((am_C ci).2.1 f).1 = am_cn (am_mc mi))) (hs : fs.set f v = fs1) (hu : am_up h a (.inr (ci, fs1)) = h1) (kk : AW X mi (pc + 3, L, st, n, h1, k, j) Q) : AW X mi (pc, L, v :: .ref a :: st, n, h, k, j) Q := by
  subst hs hu
  exact AW.step (fun call => by simp only [am_step, hd, am_len, am_ex, am_go, am_put, hf, hh]; rw [if_pos (by simp), if_pos ⟨ha, trivial, hl, hv, hfin⟩]) kk
theorem ai_in0 {q mj b n1 k1 j1 k2 j2 : Nat} {h1 : am_H} (hd : decode (am_code mi) pc = .ok (.invokespecial q, 3)) (hc : am_find am_ctL (am_mc mi) q = some (2, mj) ∧ am_na mj = 0 ∧ am_fr mj + 1 ≤ am_fr mi ∧ 8 + (am_maxL mj + 11) + am_lo mj ≤ am_lo mi) (hv : am_ret mj = none) (hr : am_cat st ≤ 8) (hm : AV X mj [.ref b] n h (fun r => r = (none, n1, h1, k1, j1))) (hk : k + k1 = k2) (hj : j + j1 = j2) (kk : AW X mi (pc + 3, L, st, n1, h1, k2, j2) Q) : AW X mi (pc, L, .ref b :: st, n, h, k, j) Q := by
  subst hk hj
  have hok := am_okc_of hr hc.2.2.1 hc.2.2.2
  refine AW.call hm (f := fun r => (pc + 3, L, r.1.toList ++ st, r.2.1, r.2.2.1, k + r.2.2.2.1, j + r.2.2.2.2)) (fun call r hcl => ?_) (fun r hr => ?_)
  · simp [am_step, hd, am_len, am_ex, am_call, hc.1, hc.2.1, hv, hok, hcl, am_back, am_go]
  · subst hr
    exact kk
theorem ai_in1 {q mj b n1 k1 j1 k2 j2 : Nat} {v1 : Value} {h1 : am_H} (hd : decode (am_code mi) pc = .ok (.invokespecial q, 3)) (hc : am_find am_ctL (am_mc mi) q = some (2, mj) ∧ am_na mj = 1 ∧ am_fr mj + 1 ≤ am_fr mi ∧ 8 + (am_maxL mj + 11) + am_lo mj ≤ am_lo mi) (hv : am_ret mj = none) (hr : am_cat st ≤ 8) (hm : AV X mj [.ref b, v1] n h (fun r => r = (none, n1, h1, k1, j1))) (hk : k + k1 = k2) (hj : j + j1 = j2) (kk : AW X mi (pc + 3, L, st, n1, h1, k2, j2) Q) : AW X mi (pc, L, v1 :: .ref b :: st, n, h, k, j) Q := by
  subst hk hj
  have hok := am_okc_of hr hc.2.2.1 hc.2.2.2
  refine AW.call hm (f := fun r => (pc + 3, L, r.1.toList ++ st, r.2.1, r.2.2.1, k + r.2.2.2.1, j + r.2.2.2.2)) (fun call r hcl => ?_) (fun r hr => ?_)
  · simp [am_step, hd, am_len, am_ex, am_call, hc.1, hc.2.1, hv, hok, hcl, am_back, am_go]
  · subst hr
    exact kk
theorem ai_st2 {q mj kd n1 k1 j1 k2 j2 : Nat} {v1 v2 : Value} {h1 : am_H} (hd : decode (am_code mi) pc = .ok (.invokestatic q, 3)) (hc : am_find am_ctL (am_mc mi) q = some (kd, mj) ∧ am_na mj = 2 ∧ am_fr mj + 1 ≤ am_fr mi ∧ 8 + (am_maxL mj + 11) + am_lo mj ≤ am_lo mi) (hkd : kd = 1 ∨ kd = 3) (hr : am_cat st ≤ 8) (hm : AV X mj [v1, v2] n h (fun r => r = (none, n1, h1, k1, j1))) (hk : k + k1 = k2) (hj : j + j1 = j2) (kk : AW X mi (pc + 3, L, st, n1, h1, k2, j2) Q) : AW X mi (pc, L, v2 :: v1 :: st, n, h, k, j) Q := by
  subst hk hj
  have hok := am_okc_of hr hc.2.2.1 hc.2.2.2
  refine AW.call hm (f := fun r => (pc + 3, L, r.1.toList ++ st, r.2.1, r.2.2.1, k + r.2.2.2.1, j + r.2.2.2.2)) (fun call r hcl => ?_) (fun r hr => ?_)
  · rcases hkd with rfl | rfl <;> simp [am_step, hd, am_len, am_ex, am_call, hc.1, hc.2.1, hok, hcl, am_back, am_go]
  · subst hr
    exact kk
end AI
theorem am_def0 : am_def 0 = [.null, .null, .null, .null, .null, .int 0, .int 0] := by decide +kernel
theorem am_def1 : am_def 1 = [.int 0, .int 0, .null, .null, .null, .int 0, .null, .null] := by rfl
