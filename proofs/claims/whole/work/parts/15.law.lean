/-! THE CLAIM OUT OF ONE WALK OF THE LAW'S BODY. Your part is whole_start (and what it stands on); all else here is the same for every law, but numbers. -/
def R_law : String := "ThirdSheetsLaw"
def lw_P (b : Addr) (xs : List Int32) (args : Array Value) (s : State) : Prop := args = #[.ref b] ∧ s.IntsAt b xs ∧ xs.length ≤ 3072 ∧ (Jvm.Cond.and given_1 narrow_1).before args s = true
def lw_Q (_ : Array Value) (s : State) (o : Outcome) (t : State) : Prop := o = .returned (some (.int 1)) ∧ Framed s o t [] 600000 7302250
def lw_Z (below : List Frame) (a : Array Value) (s : State) : State → Prop := fun t => ∃ o, t.status = .running ∧ Ended t below o ∧ lw_Q a s o t
/-- the law's own end, with 1 on the stack, nothing written that was there before, its room as the claim has it -/
theorem lw_ret {p : Program} {l : Launch} {e : Env} {s : State} {m : MethodId} {below : List Frame} {meth : Method} {c : Code} {b : Nat} (hx : p.tables.exec = Jvm.exec) (hb : c.code = code) (hr : meth.sig.returnType = ret) (hlocks : meth.locks = false) {pc : Nat} {H : Heap} {ls : Array Slot} (hdg : decode code pc = .ok (.ireturn, 1)) : W p l e room_1 s m #[Value.ref b] below meth c H [] 600000 7302250 (lw_Z below #[Value.ref b] s) (F0 m pc ls [.int 1]) := by
  intro T hT X
  obtain ⟨fs, hret, hrun, hended, hW, hframe⟩ := X.leave (v := some (.int 1)) (hlocks := hlocks) (fun h => by rw [hr] at h; cases h)
  have hmeth' : T.vm.method? m = some meth := X.method'
  refine ⟨T.setFrames fs, ?_, .returned (some (.int 1)), hrun, hended, rfl, ⟨_, rfl⟩, hW, hframe⟩
  jvm_step X.here [X.here.top, hx, hb, hdg, hmeth', hr, ret, narrow_b1]
  (try refine ⟨rfl, ?_⟩); (try refine ⟨rfl, ?_⟩)
  first | (intro acts; rw [hret _ acts rfl rfl rfl]) | rw [hret _ _ rfl rfl rfl]
  exact Steps.refl _
/-- what holds at the law's entry: the machine, the code, the tables' words (any of lw_tbl by 'hts w (by decide +kernel)'), the script of L ints xs at the cell b, what the Statement gives of the start (any of its parts by flat_of_before) -/
def lw_At (p : Program) (s : State) (m : MethodId) (meth : Method) (c : Code) (b L : Nat) (xs : Nat → Int32) : Prop :=
  p.tables.exec = Jvm.exec ∧ c.code = code ∧ meth.sig.returnType = ret ∧ c.maxLocals = 4 ∧ s.vm.findClass R_law = some m.cls ∧ (∀ w ∈ lw_tbl, w.before #[Value.ref b] s = true) ∧ va_X b L xs s s.heap ∧ b < s.heap.size ∧ meth.locks = false ∧ (Jvm.Cond.and given_1 narrow_1).before #[Value.ref b] s = true
/-- what is left to show: over the abstract machine, the law answers 1 -/
def am_h0 : am_H := fun _ => .inr (0, [])
def am_goal : Prop := ∀ (Ln : Nat) (xs : Nat → Int32), Ln ≤ 3072 → ∃ (N d : Nat) (r : am_R), am_iter (Ln, xs) (am_run (Ln, xs) N d) 181 N (0, [(0, .float 0)], [], 0, am_h0, 0, 0) = some r ∧ r.1 = some (.int 1) ∧ r.2.2.2.1 ≤ 600000 ∧ r.2.2.2.2 ≤ 7302250
theorem am_inst (ci : Nat) (h : ci < 8) : Cond.instantiable (am_C ci).1 (am_C ci).2.2 ∈ am_words := by
  have k : ∀ q ∈ am_nwL, Cond.instantiable (am_C q.2).1 (am_C q.2).2.2 ∈ am_words := fun q hq => (am_ckN_ok q hq).2.2.1
  rcases (show ci = 0 ∨ ci = 1 ∨ ci = 2 ∨ ci = 3 ∨ ci = 4 ∨ ci = 5 ∨ ci = 6 ∨ ci = 7 by omega) with rfl | rfl | rfl | rfl | rfl | rfl | rfl | rfl
  · exact k ((5, 18), 0) (by decide)
  · exact k ((6, 23), 1) (by decide)
  · exact k ((6, 16), 2) (by decide)
  · exact k ((6, 37), 3) (by decide)
  · exact k ((6, 30), 4) (by decide)
  · exact k ((6, 7), 5) (by decide)
  · exact k ((8, 7), 6) (by decide)
  · exact k ((8, 10), 7) (by decide)
theorem am_arrC {s : State} {ty : FieldType} {args : Array Value} (h : (Cond.arrayClass ty).before args s = true) : ∃ cA, ArrOfT s cA ty ∧ s.vm.findClass ("[" ++ ty.toString) = some cA := by
  obtain ⟨c, k, comp, h1, h2, h3⟩ := Cond.arrayClass_spec h
  exact ⟨c, fun n z => ⟨(fun q hq => by cases hq), k, h2, comp, h3⟩, h1⟩
theorem am_arrO {s : State} {ty : FieldType} {args : Array Value} (h : (Cond.arrayOver (.array ty)).before args s = true) : ∃ cA, ArrOfT s cA (.array ty) ∧ s.vm.findClass ("[" ++ (FieldType.array ty).toString) = some cA := by
  obtain ⟨comp, c, k, h1, h2, h3, h4, h5⟩ := Jvm.Stand.arrayOver_specB h
  exact ⟨c, fun n z => ⟨(fun q hq => by cases hq), k, h3, comp, h4⟩, h5⟩
theorem am_lst {w : Cond} (k : Nat) (h : tables_1[k]? = some w) : w ∈ lw_tbl := List.mem_append_right _ (List.mem_of_getElem? h)
theorem am_iTS : Cond.initialized "ThirdSheets" ∈ lw_tbl := List.mem_append_right _ (show _ ∈ tables_1 from List.mem_append_left _ (List.mem_of_getElem? (i := 1) rfl))
theorem am_ls1 : Cond.laysStatic "ThirdSheets" "EDGE_LOW" "[I" ∈ lw_tbl := List.mem_append_right _ (show _ ∈ tables_1 from List.mem_append_right _ (List.mem_append_left _ (List.mem_of_getElem? (i := 44) rfl)))
theorem am_ls2 : Cond.laysStatic "ThirdSheets" "EDGE_HIGH" "[I" ∈ lw_tbl := List.mem_append_right _ (show _ ∈ tables_1 from List.mem_append_right _ (List.mem_append_left _ (List.mem_of_getElem? (i := 46) rfl)))
theorem am_ls3 : Cond.laysStatic "ThirdSheets" "EDGE_OF" "[I" ∈ lw_tbl := List.mem_append_right _ (show _ ∈ tables_1 from List.mem_append_right _ (List.mem_append_left _ (List.mem_of_getElem? (i := 48) rfl)))
theorem am_ls4 : Cond.laysStatic "ThirdSheets" "FOURS_OF" "[I" ∈ lw_tbl := List.mem_append_right _ (show _ ∈ tables_1 from List.mem_append_right _ (List.mem_append_right _ (List.mem_append_left _ (List.mem_of_getElem? (i := 27) rfl))))
theorem am_ov1 : Cond.arrayOver (.array .int) ∈ lw_tbl := List.mem_append_right _ (show _ ∈ tables_1 from List.mem_append_left _ (List.mem_of_getElem? (i := 147) rfl))
theorem am_ov2 : Cond.arrayOver (.array .long) ∈ lw_tbl := List.mem_append_right _ (show _ ∈ tables_1 from List.mem_append_left _ (List.mem_of_getElem? (i := 121) rfl))
theorem am_nf0 : Cond.fieldLinkNest (am_cn 2) 77 "ThirdSheets" (am_sn 1) "[I" "ThirdSheets" ∈ lw_tbl := List.mem_append_right _ (show _ ∈ tables_1 from List.mem_append_right _ (List.mem_append_left _ (List.mem_of_getElem? (i := 192) rfl)))
theorem am_nf1 : Cond.fieldLinkNest (am_cn 2) 80 "ThirdSheets" (am_sn 2) "[I" "ThirdSheets" ∈ lw_tbl := List.mem_append_right _ (show _ ∈ tables_1 from List.mem_append_right _ (List.mem_append_left _ (List.mem_of_getElem? (i := 193) rfl)))
theorem am_nf2 : Cond.fieldLinkNest (am_cn 2) 91 "ThirdSheets" (am_sn 3) "[I" "ThirdSheets" ∈ lw_tbl := List.mem_append_right _ (show _ ∈ tables_1 from List.mem_append_right _ (List.mem_append_left _ (List.mem_of_getElem? (i := 196) rfl)))
theorem am_nf3 : Cond.fieldLinkNest (am_cn 3) 92 "ThirdSheets" (am_sn 4) "[I" "ThirdSheets" ∈ lw_tbl := List.mem_append_right _ (show _ ∈ tables_1 from List.mem_append_right _ (List.mem_append_right _ (List.mem_append_left _ (List.mem_of_getElem? (i := 187) rfl))))
theorem am_nf4 : Cond.fieldLinkNest (am_cn 5) 73 "ThirdSheets" (am_sn 1) "[I" "ThirdSheets" ∈ lw_tbl := List.mem_append_right _ (show _ ∈ tables_1 from List.mem_append_right _ (List.mem_append_left _ (List.mem_of_getElem? (i := 43) rfl)))
theorem am_nf5 : Cond.fieldLinkNest (am_cn 5) 76 "ThirdSheets" (am_sn 2) "[I" "ThirdSheets" ∈ lw_tbl := List.mem_append_right _ (show _ ∈ tables_1 from List.mem_append_right _ (List.mem_append_left _ (List.mem_of_getElem? (i := 45) rfl)))
theorem am_nf6 : Cond.fieldLinkNest (am_cn 5) 79 "ThirdSheets" (am_sn 3) "[I" "ThirdSheets" ∈ lw_tbl := List.mem_append_right _ (show _ ∈ tables_1 from List.mem_append_right _ (List.mem_append_left _ (List.mem_of_getElem? (i := 47) rfl)))
theorem am_nF : ∀ q ∈ am_nestF, Cond.fieldLinkNest (am_cn q.1) q.2.1 "ThirdSheets" (am_sn q.2.2) "[I" "ThirdSheets" ∈ lw_tbl := List.forall_mem_cons.mpr ⟨am_nf0, List.forall_mem_cons.mpr ⟨am_nf1, List.forall_mem_cons.mpr ⟨am_nf2, List.forall_mem_cons.mpr ⟨am_nf3, List.forall_mem_cons.mpr ⟨am_nf4, List.forall_mem_cons.mpr ⟨am_nf5, List.forall_mem_cons.mpr ⟨am_nf6, fun _ h => absurd h List.not_mem_nil⟩⟩⟩⟩⟩⟩⟩
theorem am_nm0 : Cond.methodLinkNest (am_cn 1) 71 (am_name 106) "ThirdSheets" ∈ lw_tbl := List.mem_append_right _ (show _ ∈ tables_1 from List.mem_append_right _ (List.mem_append_right _ (List.mem_append_left _ (List.mem_of_getElem? (i := 23) rfl))))
theorem am_nm1 : Cond.methodLinkNest (am_cn 3) 76 (am_name 106) "ThirdSheets" ∈ lw_tbl := List.mem_append_right _ (show _ ∈ tables_1 from List.mem_append_right _ (List.mem_append_right _ (List.mem_append_left _ (List.mem_of_getElem? (i := 176) rfl))))
theorem am_nm2 : Cond.methodLinkNest (am_cn 3) 114 (am_name 107) "ThirdSheets" ∈ lw_tbl := List.mem_append_right _ (show _ ∈ tables_1 from List.mem_append_right _ (List.mem_append_right _ (List.mem_append_left _ (List.mem_of_getElem? (i := 203) rfl))))
theorem am_nm3 : Cond.methodLinkNest (am_cn 4) 51 (am_name 106) "ThirdSheets" ∈ lw_tbl := List.mem_append_right _ (show _ ∈ tables_1 from List.mem_append_right _ (List.mem_append_right _ (List.mem_append_left _ (List.mem_of_getElem? (i := 115) rfl))))
theorem am_nm4 : Cond.methodLinkNest (am_cn 4) 78 (am_name 107) "ThirdSheets" ∈ lw_tbl := List.mem_append_right _ (show _ ∈ tables_1 from List.mem_append_right _ (List.mem_append_right _ (List.mem_append_left _ (List.mem_of_getElem? (i := 138) rfl))))
theorem am_nM : ∀ q ∈ am_nestM, Cond.methodLinkNest (am_cn q.1) q.2.1 (am_name q.2.2) "ThirdSheets" ∈ lw_tbl := List.forall_mem_cons.mpr ⟨am_nm0, List.forall_mem_cons.mpr ⟨am_nm1, List.forall_mem_cons.mpr ⟨am_nm2, List.forall_mem_cons.mpr ⟨am_nm3, List.forall_mem_cons.mpr ⟨am_nm4, fun _ h => absurd h List.not_mem_nil⟩⟩⟩⟩⟩
set_option maxRecDepth 20000 in
set_option maxHeartbeats 4000000 in
theorem am_start (hgoal : am_goal) {p : Program} {e : Env} {s : State} {m : MethodId} {below : List Frame} {meth : Method} {c : Code} (l : Launch) {b L : Nat} {xs : Nat → Int32} (hL : L ≤ 3072) (C0 : lw_At p s m meth c b L xs) : W p l e room_1 s m #[Value.ref b] below meth c s.heap [] 0 0 (lw_Z below #[Value.ref b] s) (entryFrame m ([Value.ref b] : List Value).toArray 4) := by
  obtain ⟨hx, hb, hr, hml, hown, hts, hX, hbl, hlocks, hgv⟩ := id C0
  have htw : ∀ w ∈ am_words, w.before #[Value.ref b] s = true := fun w hw => hts w (List.mem_filter.mp hw).1
  have hAs : ∀ a : Nat, a < s.heap.size → ¬ (fun q : Nat => s.heap.size ≤ q) a := fun a h => Nat.not_le.mpr h
  obtain ⟨t1, v1, T1⟩ := am_stat1 (A := fun q : Nat => s.heap.size ≤ q) hgv hAs
  obtain ⟨t2, v2, T2⟩ := am_stat2 (A := fun q : Nat => s.heap.size ≤ q) hgv hAs
  obtain ⟨t3, v3, T3⟩ := am_stat3 (A := fun q : Nat => s.heap.size ≤ q) hgv hAs
  obtain ⟨t4, v4, T4⟩ := am_stat4 (A := fun q : Nat => s.heap.size ≤ q) hgv hAs
  have hini : (Cond.initialized "ThirdSheets").before #[Value.ref b] s = true := hts _ am_iTS
  have Z1 := va_Zof (A := fun q : Nat => s.heap.size ≤ q) (hts _ am_ls1) hini v1 hAs
  have Z2 := va_Zof (A := fun q : Nat => s.heap.size ≤ q) (hts _ am_ls2) hini v2 hAs
  have Z3 := va_Zof (A := fun q : Nat => s.heap.size ≤ q) (hts _ am_ls3) hini v3 hAs
  have Z4 := va_Zof (A := fun q : Nat => s.heap.size ≤ q) (hts _ am_ls4) hini v4 hAs
  have hKc : ∀ ci : Nat, ∃ q : ClassId × (Nat → Nat), ci < 8 → u_Kn s (am_C ci).1 (am_C ci).2.1 (am_C ci).2.2 q.1 q.2 := by
    intro ci
    by_cases h : ci < 8
    · obtain ⟨c9, i9, h9⟩ := u_known (n := (am_C ci).2.2) htw (am_u_ok ci h) (htw _ (am_inst ci h))
      exact ⟨(c9, i9), fun _ => h9⟩
    · exact ⟨(0, fun _ => 0), fun q => absurd q h⟩
  obtain ⟨a0, A0, F0'⟩ := am_arrC (htw _ am_ac_i)
  obtain ⟨a1, A1, F1⟩ := am_arrC (htw _ am_ac_l)
  obtain ⟨a2, A2, F2⟩ := am_arrC (htw _ am_ac_z)
  obtain ⟨a3, A3, F3⟩ := am_arrO (hts _ am_ov1)
  obtain ⟨a4, A4, F4⟩ := am_arrO (hts _ am_ov2)
  let K : am_K := (s.heap.size, (fun u => if u = 0 then b else if u = 1 then t1 else if u = 2 then t2 else if u = 3 then t3 else t4), (fun ci => (Classical.choose (hKc ci)).1), (fun ci => (Classical.choose (hKc ci)).2), (fun t => if t = 0 then a0 else if t = 1 then a1 else if t = 2 then a2 else if t = 3 then a3 else a4))
  have hK : va_K (am_D K) am_cl (am_tys K) s := by
    refine ⟨fun k q hq => ?_, fun k q hq => ?_⟩
    · have hk : k < 8 := (List.getElem?_eq_some_iff.mp hq).1
      rw [am_cl_get k hk] at hq
      cases hq
      exact Classical.choose_spec (hKc k) hk
    · have hk : k < 5 := (List.getElem?_eq_some_iff.mp hq).1
      rcases (show k = 0 ∨ k = 1 ∨ k = 2 ∨ k = 3 ∨ k = 4 by omega) with rfl | rfl | rfl | rfl | rfl
      · cases hq; exact ⟨A0, F0'⟩
      · cases hq; exact ⟨A1, F1⟩
      · cases hq; exact ⟨A2, F2⟩
      · cases hq; exact ⟨A3, F3⟩
      · cases hq; exact ⟨A4, F4⟩
  have hF : am_Fix K (L, xs) s s.heap := by
    refine ⟨⟨hX, hbl, Nat.lt_of_le_of_lt hL (by decide)⟩, fun u h1 h2 => ?_, ?_, ?_, hts _ am_ov1, hts _ am_ov2⟩
    · rcases (show u = 1 ∨ u = 2 ∨ u = 3 ∨ u = 4 by omega) with rfl | rfl | rfl | rfl
      · exact ⟨Z1, T1⟩
      · exact ⟨Z2, T2⟩
      · exact ⟨Z3, T3⟩
      · exact ⟨Z4, T4⟩
    · exact fun q hq => va_Nw.of rfl (hts _ (am_nF q hq))
    · exact fun q hq => va_Nw.of rfl (hts _ (am_nM q hq))
  have hA : am_At K (L, xs) 181 p room_1 s m #[Value.ref b] meth c := ⟨hx, hb, hml, hown, htw, fun q => absurd q (by decide +kernel), hK, hF, Nat.le_refl _, by decide, by decide⟩
  obtain ⟨N, d, r, hrun, hr1, hr2, hr3⟩ := hgoal L xs hL
  have hcall : am_Cok K (L, xs) (am_run (L, xs) N d) := fun mk bs n1 h1 r1 q => ⟨am_ct_run N d mk bs n1 h1 r1 q, am_ok K (L, xs) N d mk bs n1 h1 r1 q⟩
  have hl := lv_entry ([.ref b]) (n := 4) (Nat.le_of_ble_eq_true rfl)
  rw [lg_entry_eq]
  generalize (lg_sl ([.ref b]) ++ List.replicate (4 - (lg_sl ([.ref b])).length) Slot.unset).toArray = ls at hl ⊢
  refine am_W_iter hA hcall hr2 hr3 ?_ N _ hrun s.heap [] ls ⟨rfl, fun k q hk => ?_, va_S.rf⟩ hl
  · intro pc st H locs ls hrt hH
    rcases hrt with ⟨v, hd, rfl, hv, he⟩ | ⟨v, hd, rfl, hv, he⟩ | ⟨hd, rfl, hv, he⟩
    · rw [he] at hr1
      cases hr1
      refine va_forget (fun q hq => hH.2.2.2.2 q hq) ?_
      refine W.widen hr2 hr3 ?_
      exact lw_ret hx hb hr hlocks hd
    · rw [he] at hr1
      cases hr1
    · rw [he] at hr1
      cases hr1
  · exact absurd hk (by simp [am_W])
