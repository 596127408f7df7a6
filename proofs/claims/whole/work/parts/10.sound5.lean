/-! each step of the abstract machine is the machine's: calls -/
section AMC
variable {p : Program} {l : Launch} {e : Env} {R : Room} {s : State} {m : MethodId} {args : Array Value} {below : List Frame} {meth : Method} {c : Code} {Q : State → Prop}
variable {K : am_K} {X : am_X} {mi : Nat} {pc : Nat} {L : am_L} {st : List Value} {n : Nat} {h : am_H} {k j : Nat} {z : am_Z} {call : am_Cl} {len : Nat}
theorem am_s_multianewarray {q d : Nat} (hA : am_At K X mi p R s m args meth c) (hd : decode (am_code mi) pc = .ok (.multianewarray q d, 4)) (hx : am_ex X call mi (.multianewarray q d) 4 pc L st n h k j = some (.inl z)) (hR : z.2.2.2.2.2.1 ≤ R.cells ∧ z.2.2.2.2.2.2 ≤ R.slots) (go : am_Go K mi p l e R s m args below meth c Q z) : am_Go K mi p l e R s m args below meth c Q (pc, L, st, n, h, k, j) := by
  have hA' := hA
  obtain ⟨hex, hb, hml, hown, hts, hnm, hK, hF, hbs, hfr, hlo⟩ := hA
  dsimp only [am_ex] at hx
  split at hx
  · rename_i t x9 y9 r hg
    split at hx
    · rename_i hc
      obtain ⟨rfl, ht, hc⟩ := hc
      obtain rfl := am_go_inj hx
      rcases am_ckW_ok _ (am_find_in hg) with ⟨rfl, g⟩ | ⟨rfl, g⟩
      · refine am_mna_row (ty := .int) hA' hF.2.2.2.2.1 am_ac_i (Or.inl rfl) rfl rfl rfl (fun cA h => h) ?_ (fun M => ⟨(M, .inl (fun _ => 0)), rfl, fun c => ?_⟩) (by decide) (by decide) (by decide) hd hc hR go
        · exact g
        · show ({ cls := c, slots := Array.replicate M (Value.int 0), vm := .none } : Cell) = _
          rw [arrV_new]
          rfl
      · refine am_mna_row (ty := .long) hA' hF.2.2.2.2.2 am_ac_l (Or.inr rfl) rfl rfl rfl (fun cA h => h) ?_ (fun M => ⟨(M, .inr (.inl (fun _ => 0))), rfl, fun c => ?_⟩) (by decide) (by decide) (by decide) hd hc hR go
        · exact g
        · show ({ cls := c, slots := Array.replicate M (Value.long 0), vm := .none } : Cell) = _
          rw [arrV_new]
          rfl
    · cases hx
  · cases hx
/-- behind a call -/
theorem am_after {r : am_R} {a9 : Array Value} {st0 rest : List Value} {H : Heap} {locs : List Loc} {ls : Array Slot} (hcnt : r.2.1 = n + r.2.2.2.1) (hrun : va_Run p l e R s m args below meth c H locs k j r.2.2.2.1 r.2.2.2.2 (F0 m pc ls st0) (am_vs K rest) (am_Qc K X r a9) (am_A K)) (hH : am_Hp K n h s H locs k) (hl : lv_has ls (am_maxL mi) (am_Lm K L))
    (go : am_Go K mi p l e R s m args below meth c Q (pc + 3, L, r.1.toList ++ rest, r.2.1, r.2.2.1, k + r.2.2.2.1, j + r.2.2.2.2)) : W p l e R s m args below meth c H locs k j Q (F0 m pc ls st0) := by
  intro T hT X9
  obtain ⟨v, st₀, t, T', Lc, h0, X', hL, e1, e2, ⟨hv, hWd, hz, hk⟩, stp⟩ := hrun T hT X9
  have hv : v = r.1.map (am_v K) := by
    injection hv
  subst hv
  rw [h0] at hz hk
  have hS := hH.2.2
  have hgo := go T'.heap (locs ++ Lc) ls ⟨?_, ?_, ?_⟩ hl T' rfl X'
  · obtain ⟨t2, a1, b1⟩ := hgo
    refine ⟨t2, stp t2 ?_, b1⟩
    have e9 : (r.1.map (am_v K)).toList ++ am_vs K rest = am_vs K (r.1.toList ++ rest) := by
      cases r.1 <;> simp [am_vs]
    rw [e9]
    exact a1
  · have h1 : s.heap.size + k = K.1 + n := hH.1
    show s.heap.size + (k + r.2.2.2.1) = K.1 + r.2.1
    omega
  · rw [e1]
    exact hWd.2.1
  · refine ⟨Nat.le_trans hS.1 (by rw [e1]; exact hz), fun q h1 h2 => by rw [e1, hk q (Nat.lt_of_lt_of_le h1 hS.1) h2]; exact hS.2.1 q h1 h2, fun q hq => ?_⟩
    rcases List.mem_append.mp hq with h | h
    · exact hS.2.2 q h
    · exact hL q h
theorem am_pre {as : List Value} {H : Heap} {locs : List Loc} (hA : am_At K X mi p R s m args meth c) (hH : am_Hp K n h s H locs k) (hsz : H.size = K.1 + n) (U : State) (hU : U.heap = H) (hW : s.WarmedH U.vm) : am_Pc K X as n h (am_vs K as).toArray U := by
  obtain ⟨hex, hb, hml, hown, hts, hnm, hK, hF, hbs, hfr, hlo⟩ := hA
  refine ⟨rfl, by rw [hU]; exact hsz, by rw [hU]; exact hH.2.1, va_K.moved hW.alike hK, ?_⟩
  have h1 : am_Fix K X s H := hF.kept (fun a h1 h2 => hH.2.2.2.1 a h1 h2)
  rw [hU]
  exact h1.moved hW
theorem am_okc_ok {mj : Nat} {rest : List Value} (h : am_okc mi mj rest = true) : am_cat rest ≤ 8 ∧ am_fr mj + 1 ≤ am_fr mi ∧ 8 + (am_maxL mj + 11) + am_lo mj ≤ am_lo mi := by
  unfold am_okc at h
  simp only [Bool.and_eq_true, decide_eq_true_eq] at h
  exact ⟨h.1.1, h.1.2, h.2⟩
theorem am_room {ls : Array Slot} {st0 rest : List Value} (h : am_cat rest ≤ 8) : 2 * (F0 m pc ls st0).monitorRoom + ((am_vs K rest).map fun v => v.category).sum ≤ 8 := by
  rw [am_cat_vs]
  have := lv_room (m := m) (pc := pc) (ls := ls) (rest := st0) (st := rest) h
  exact this
theorem am_nm {mj : Nat} (h : mj < 181) : plainName (am_name mj).cls = true ∧ (am_name mj).cls ≠ "java/lang/invoke/MethodHandle" ∧ (am_name mj).cls ≠ "java/lang/invoke/VarHandle" := by
  have h1 := am_ckM_ok mj h
  rw [h1.2.2.1]
  exact am_pn_ok _ (am_mc_ok mj (by omega))
theorem am_split {na : Nat} {st r : List Value} (h : st.drop na = r) : am_vs K st = (am_vs K (st.take na).reverse).reverse ++ am_vs K r := by
  rw [← List.map_reverse, List.reverse_reverse, ← List.map_append, ← h, List.take_append_drop]
theorem am_s_call {q kd : Nat} {i : Instr} (hi : i = .invokevirtual q ∧ kd = 0 ∨ i = .invokestatic q ∧ (kd = 1 ∨ kd = 3 ∨ kd = 5 ∨ kd = 6 ∨ kd = 7 ∨ kd = 8) ∨ i = .invokespecial q ∧ (kd = 2 ∨ kd = 4)) (hA : am_At K X mi p R s m args meth c) (hcall : ∀ mj as n h r, call mj as n h = some r → r.2.1 = n + r.2.2.2.1 ∧ ∀ l, mj < 181 → am_Met K X l mj as n h r) (hd : decode (am_code mi) pc = .ok (i, 3)) (hx : am_call call mi q kd pc L st n h k j = some (.inl z)) (hR : z.2.2.2.2.2.1 ≤ R.cells ∧ z.2.2.2.2.2.2 ≤ R.slots) (go : am_Go K mi p l e R s m args below meth c Q z) : am_Go K mi p l e R s m args below meth c Q (pc, L, st, n, h, k, j) := by
  have hA' := hA
  obtain ⟨hex, hb, hml, hown, hts, hnm, hK, hF, hbs, hfr, hlo⟩ := hA
  unfold am_call at hx
  split at hx
  · cases hx
  · rename_i kd' mj hct
    split at hx
    · cases hx
    · rename_i hkd
      have hkd : kd' = kd := Classical.byContradiction hkd
      subst hkd
      have hck := am_ckC_ok _ (am_find_in hct)
      intro H locs ls hH hl
      have hml2 : c.maxLocals = ls.size := hml.trans hl.1.symm
      refine am_sized hH hbs (fun hsz => ?_)
      split at hx
      · -- virtual
        obtain ⟨c1, c2, c3, c4, c5⟩ := hck
        split at hx
        · rename_i b rest hdr
          split at hx
          · rename_i ci fs he
            split at hx
            · rename_i hc
              obtain ⟨hbn, rfl, hlen, hok⟩ := hc
              unfold am_back at hx
              split at hx
              · rename_i v n1 h1 k1 j1 hcl
                obtain rfl := am_go_inj hx
                obtain ⟨hcnt, hM⟩ := hcall _ _ _ _ _ hcl
                obtain ⟨o1, o2, o3⟩ := am_okc_ok hok
                have hi : i = .invokevirtual q := by rcases hi with ⟨a, -⟩ | ⟨-, b⟩ | ⟨-, b⟩ <;> first | exact a | omega
                subst hi
                have hm := am_ckM_ok mj c1
                have hw : (am_W K n h)[b]? = some (K.1 + b, .inr (am_mc mj, am_vs K fs)) := by rw [am_W_get K h hbn, he]; rfl
                have hrc := va_recv hK hH.2.1 (am_cl_get _ c5) hw
                have hcls : (am_C (am_mc mj)).1 = (am_name mj).cls := by rw [hm.2.2.1]; exact (am_cn_C _ c5).symm
                rw [hcls] at hrc
                have hT : GoodIn am_words (wsV (am_cn (am_mc mi)) q (am_name mj).cls (am_name mj) (am_ws mj)) := by
                  intro w hw9
                  rcases List.mem_append.mp hw9 with h9 | h9
                  · simp only [List.mem_cons, List.not_mem_nil, or_false] at h9
                    rcases h9 with rfl | rfl | rfl | rfl
                    · exact am_good _ c2
                    · exact am_good _ c3
                    · exact am_good _ c4
                    · exact am_good _ hm.2.1
                  · exact am_ws_good mj c1 w h9
                refine am_after (a9 := (Value.ref (K.1 + b) :: am_vs K (st.take (am_na mj)).reverse).toArray) (r := (v, n1, h1, k1, j1)) hcnt (va_runV (As := am_vs K (st.take (am_na mj)).reverse) (rest := am_vs K rest) (b := K.1 + b) (C := (am_name mj).cls) ⟨hex, hb, hml, hown, hts⟩ (hM l c1) (cwV (am_na mj) hts hT rfl rfl rfl ⟨rfl, (am_nm c1).2.1, (am_nm c1).2.2, hm.2.2.2⟩ ⟨by show am_fr mj + 1 ≤ R.frames; omega, by show 8 + (am_maxL mj + 11) + am_lo mj ≤ R.locals; omega⟩) ⟨am_Pc_blind K X _ n h, hrc, fun U hU hW => am_pre (as := .ref b :: (st.take (am_na mj)).reverse) hA' hH hsz U hU hW⟩ rfl (by rw [List.length_map, List.length_reverse]; exact hlen) hl.1 ?_ (am_room o1) hd hR) hH hl go
                exact am_split hdr
              · cases hx
            · cases hx
          · cases hx
        · cases hx
      · -- static
        obtain ⟨c1, c2, c3⟩ := hck
        split at hx
        · rename_i hc
          obtain ⟨hlen, hok⟩ := hc
          unfold am_back at hx
          split at hx
          · rename_i v n1 h1 k1 j1 hcl
            obtain rfl := am_go_inj hx
            obtain ⟨hcnt, hM⟩ := hcall _ _ _ _ _ hcl
            obtain ⟨o1, o2, o3⟩ := am_okc_ok hok
            have hi : i = .invokestatic q := by rcases hi with ⟨-, b⟩ | ⟨a, -⟩ | ⟨-, b⟩ <;> first | exact a | omega
            subst hi
            have hm := am_ckM_ok mj c1
            have hT : GoodIn am_words (va_wsS (am_cn (am_mc mi)) q (am_name mj) (am_ws mj)) := by
              intro w hw9
              rcases List.mem_append.mp hw9 with h9 | h9
              · simp only [List.mem_cons, List.not_mem_nil, or_false] at h9
                rcases h9 with rfl | rfl | rfl
                · exact am_good _ c2
                · exact am_good _ c3
                · exact am_good _ hm.2.1
              · exact am_ws_good mj c1 w h9
            refine am_after (a9 := (am_vs K (st.take (am_na mj)).reverse).toArray) (r := (v, n1, h1, k1, j1)) hcnt (va_runS (As := am_vs K (st.take (am_na mj)).reverse) (rest := am_vs K (st.drop (am_na mj))) ⟨hex, hb, hml, hown, hts⟩ (hM l c1) (va_cwS (am_na mj) hts hT rfl rfl rfl ⟨(am_nm c1).2.1, (am_nm c1).2.2, hm.2.2.2⟩ ⟨by show am_fr mj + 1 ≤ R.frames; omega, by show 8 + (am_maxL mj + 11) + am_lo mj ≤ R.locals; omega⟩) ⟨am_Pc_blind K X _ n h, fun U hU hW => am_pre hA' hH hsz U hU hW⟩ rfl (by rw [List.length_map, List.length_reverse]; exact hlen) hl.1 ?_ (am_room o1) hd hR) hH hl go
            exact am_split rfl
          · cases hx
        · cases hx
      · -- constructor
        obtain ⟨c1, c2, c3, c4⟩ := hck
        split at hx
        · rename_i b rest hdr
          split at hx
          · rename_i hc
            obtain ⟨hlen, hret, hok⟩ := hc
            unfold am_back at hx
            split at hx
            · rename_i v n1 h1 k1 j1 hcl
              obtain rfl := am_go_inj hx
              obtain ⟨hcnt, hM⟩ := hcall _ _ _ _ _ hcl
              obtain ⟨o1, o2, o3⟩ := am_okc_ok hok
              have hi : i = .invokespecial q := by rcases hi with ⟨-, b⟩ | ⟨-, b⟩ | ⟨a, -⟩ <;> first | exact a | omega
              subst hi
              have hm := am_ckM_ok mj c1
              refine am_after (a9 := (Value.ref (K.1 + b) :: am_vs K (st.take (am_na mj)).reverse).toArray) (r := (v, n1, h1, k1, j1)) hcnt (va_runI (As := am_vs K (st.take (am_na mj)).reverse) (rest := am_vs K rest) (b := K.1 + b) ⟨hex, hb, hml, hown, hts⟩ (hM l c1) (cwI (am_na mj) hts (am_ws_good mj c1) (by unfold am_ws; rw [hret]) rfl rfl (hts _ hm.2.1) (hts _ c2) (hts _ c3) c4 ⟨(am_nm c1).2.1, (am_nm c1).2.2, hm.2.2.2⟩ ⟨by show am_fr mj + 1 ≤ R.frames; omega, by show 8 + (am_maxL mj + 11) + am_lo mj ≤ R.locals; omega⟩) ⟨am_Pc_blind K X _ n h, fun U hU hW => am_pre (as := .ref b :: (st.take (am_na mj)).reverse) hA' hH hsz U hU hW⟩ rfl (by rw [List.length_map, List.length_reverse]; exact hlen) hl.1 ?_ (am_room o1) hd hR) hH hl go
              exact am_split hdr
            · cases hx
          · cases hx
        · cases hx
      · -- static by the nest
        obtain ⟨c1, c2, c3⟩ := hck
        split at hx
        · rename_i hc
          obtain ⟨hlen, hok⟩ := hc
          unfold am_back at hx
          split at hx
          · rename_i v n1 h1 k1 j1 hcl
            obtain rfl := am_go_inj hx
            obtain ⟨hcnt, hM⟩ := hcall _ _ _ _ _ hcl
            obtain ⟨o1, o2, o3⟩ := am_okc_ok hok
            have hi : i = .invokestatic q := by rcases hi with ⟨-, b⟩ | ⟨a, -⟩ | ⟨-, b⟩ <;> first | exact a | omega
            subst hi
            have hm := am_ckM_ok mj c1
            have hN : va_Nw (.methodLinkNest (am_cn (am_mc mi)) q (am_name mj) "ThirdSheets") s := hF.2.2.2.1 (am_mc mi, q, mj) c3
            refine am_after (a9 := (am_vs K (st.take (am_na mj)).reverse).toArray) (r := (v, n1, h1, k1, j1)) hcnt (va_runSN (As := am_vs K (st.take (am_na mj)).reverse) (rest := am_vs K (st.drop (am_na mj))) ⟨hex, hb, hml, hown, hts⟩ (hM l c1) ⟨va_cnB (am_na mj) hts (am_ws_good mj c1) rfl rfl rfl hN (hts _ hm.2.1) ⟨(am_nm c1).2.1, (am_nm c1).2.2, hm.2.2.2⟩ ⟨by show am_fr mj + 1 ≤ R.frames; omega, by show 8 + (am_maxL mj + 11) + am_lo mj ≤ R.locals; omega⟩, hts _ c2, trivial⟩ ⟨am_Pc_blind K X _ n h, fun U hU hW => am_pre hA' hH hsz U hU hW⟩ rfl (by rw [List.length_map, List.length_reverse]; exact hlen) hl.1 ?_ (am_room o1) hd hR) hH hl go
            exact am_split rfl
          · cases hx
        · cases hx
      · -- Object's constructor
        split at hx
        · rename_i b rest
          split at hx
          · rename_i hc
            obtain rfl := am_go_inj hx
            have hi : i = .invokespecial q := by rcases hi with ⟨-, b⟩ | ⟨-, b⟩ | ⟨a, -⟩ <;> first | exact a | omega
            subst hi
            refine W.objInit hex hb hown (hts _ hck) (hts _ am_ob_i) (hts _ am_ob_c) (g := F0 m pc ls (.ref (K.1 + b) :: am_vs K rest)) rfl (hml2.symm) rfl hd (by omega) ?_ (go H locs ls hH hl)
            show 2 * 0 + ((am_vs K rest).map fun v => v.category).sum + 12 ≤ R.locals
            rw [am_cat_vs]
            omega
          · cases hx
        · cases hx
      · -- min
        split at hx
        · rename_i y9 x9 rest
          split at hx
          · rename_i hc
            obtain rfl := am_go_inj hx
            have hi : i = .invokestatic q := by rcases hi with ⟨-, b⟩ | ⟨a, -⟩ | ⟨-, b⟩ <;> first | exact a | omega
            subst hi
            exact va_mmin hex hb hml2 hown (hts _ hck) (hts _ am_ma_smin) (hts _ am_ma_i) (hts _ am_ma_cmin) (by omega) (by rw [am_cat_vs]; omega) hR.1 hR.2 hd (go H locs ls hH hl)
          · cases hx
        · cases hx
      · -- max
        split at hx
        · rename_i y9 x9 rest
          split at hx
          · rename_i hc
            obtain rfl := am_go_inj hx
            have hi : i = .invokestatic q := by rcases hi with ⟨-, b⟩ | ⟨a, -⟩ | ⟨-, b⟩ <;> first | exact a | omega
            subst hi
            exact va_mmax hex hb hml2 hown (hts _ hck) (hts _ am_ma_smax) (hts _ am_ma_i) (hts _ am_ma_cmax) (by omega) (by rw [am_cat_vs]; omega) hR.1 hR.2 hd (go H locs ls hH hl)
          · cases hx
        · cases hx
      · -- abs
        split at hx
        · rename_i x9 rest
          split at hx
          · rename_i hc
            obtain rfl := am_go_inj hx
            have hi : i = .invokestatic q := by rcases hi with ⟨-, b⟩ | ⟨a, -⟩ | ⟨-, b⟩ <;> first | exact a | omega
            subst hi
            exact va_mabs_long hex hb hml2 hown (hts _ hck) (hts _ am_ma_sabs) (hts _ am_ma_i) (hts _ am_ma_cabs) (by omega) (by rw [am_cat_vs]; omega) hR.1 hR.2 hd (go H locs ls hH hl)
          · cases hx
        · cases hx
      · -- arraycopy
        split at hx
        · rename_i k9 dp a1 sp a0 rest
          split at hx
          · rename_i h1 hcp
            split at hx
            · rename_i hc
              obtain ⟨hb0, hb1, hc3, hc4⟩ := hc
              obtain rfl := am_go_inj hx
              have hi : i = .invokestatic q := by rcases hi with ⟨-, b⟩ | ⟨a, -⟩ | ⟨-, b⟩ <;> first | exact a | omega
              subst hi
              unfold am_copy at hcp
              split at hcp
              · rename_i n0 f n1 g he0 he1
                split at hcp
                · rename_i hq
                  cases hcp
                  have hw0 : (am_W K n h)[a0]? = some (K.1 + a0, .inl (K.2.2.2.2 0, n0, .inl f)) := by rw [am_W_get K h hb0, he0]; rfl
                  have hw1 : (am_W K n h)[a1]? = some (K.1 + a1, .inl (K.2.2.2.2 0, n1, .inl g)) := by rw [am_W_get K h hb1, he1]; rfl
                  refine va_copyi hex hb hml2 hown (hts _ hck) (hts _ am_cp_n) (hts _ am_cp_s) (hts _ am_cp_i) hK hH.2.1 (am_W_D K n h) hH.2.2 a0 a1 0 0 hw0 hw1 (ty := .int) rfl rfl rfl hq.1 hq.2.1 hq.2.2.1 hq.2.2.2.1 hq.2.2.2.2 (fun i _ => rfl) (by omega) (by rw [am_cat_vs]; omega) hd (fun H1 locs1 hP1 _ hS1 => ?_)
                  exact go H1 locs1 ls ⟨hH.1, (am_W_set K h hb1 (.inl (0, n1, .inl (va_cpy f g sp.toNatClampNeg dp.toNatClampNeg k9.toNatClampNeg)))) ▸ hP1, hS1⟩ hl
                · cases hcp
              · cases hcp
            · cases hx
          · cases hx
        · cases hx
      · cases hx
end AMC
