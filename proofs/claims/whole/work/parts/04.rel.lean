/-! how the abstract machine's things lie in the machine -/
/-- the world's first address; the given arrays' addresses; classes, slots, array classes -/
abbrev am_K : Type := Nat × (Nat → Nat) × (Nat → ClassId) × (Nat → Nat → Nat) × (Nat → ClassId)
def am_v (K : am_K) : Value → Value
  | .ref k => .ref (K.1 + k)
  | .float u => .ref (K.2.1 u.toNat)
  | v => v
theorem am_v_cat (K : am_K) (v : Value) : (am_v K v).category = v.category := by cases v <;> rfl
abbrev am_vs (K : am_K) (st : List Value) : List Value := st.map (am_v K)
theorem am_cat_vs (K : am_K) (st : List Value) : ((am_vs K st).map fun v => v.category).sum = am_cat st := by
  unfold am_cat
  rw [List.map_map]
  congr 1
  exact List.map_congr_left fun v _ => am_v_cat K v
def am_a (K : am_K) : vp_A → vp_A
  | (n, .inr (.inr (.inr (.inr f)))) => (n, .inr (.inr (.inr (.inr (fun i => (f i).map (fun k => K.1 + k))))))
  | a => a
def am_e (K : am_K) : am_E → va_E
  | .inl (t, a) => .inl (K.2.2.2.2 t, am_a K a)
  | .inr (ci, fs) => .inr (ci, fs.map (am_v K))
def am_W (K : am_K) (n : Nat) (h : am_H) : va_W := (List.range n).map (fun k => (K.1 + k, am_e K (h k)))
abbrev am_D (K : am_K) : va_G := (K.2.2.1, K.2.2.2.1)
def am_A (K : am_K) : Nat → Prop := fun q => K.1 ≤ q
def am_tys (K : am_K) : List (ClassId × FieldType) := [(K.2.2.2.2 0, .int), (K.2.2.2.2 1, .long), (K.2.2.2.2 2, .boolean), (K.2.2.2.2 3, .array .int), (K.2.2.2.2 4, .array .long)]
theorem am_W_get (K : am_K) {n k : Nat} (h : am_H) (hk : k < n) : (am_W K n h)[k]? = some (K.1 + k, am_e K (h k)) := by
  unfold am_W
  rw [List.getElem?_map, List.getElem?_range hk]
  rfl
theorem am_W_some (K : am_K) {n k : Nat} {h : am_H} {q : Nat × va_E} (hq : (am_W K n h)[k]? = some q) : k < n ∧ q = (K.1 + k, am_e K (h k)) := by
  have hk : k < n := by
    have := (List.getElem?_eq_some_iff.mp hq).1
    unfold am_W at this
    simpa using this
  rw [am_W_get K h hk] at hq
  exact ⟨hk, (Option.some.inj hq).symm⟩
theorem am_W_set (K : am_K) {n k : Nat} (h : am_H) (hk : k < n) (e : am_E) : (am_W K n h).set k (K.1 + k, am_e K e) = am_W K n (am_up h k e) := by
  apply List.ext_getElem?
  intro j
  rw [List.getElem?_set]
  by_cases hj : k = j
  · subst hj
    have hl : k < (am_W K n h).length := by unfold am_W; simpa using hk
    rw [if_pos rfl, if_pos hl, am_W_get K _ hk]
    simp [am_up]
  · rw [if_neg hj]
    by_cases hjn : j < n
    · rw [am_W_get K h hjn, am_W_get K _ hjn]
      simp [am_up, Ne.symm hj]
    · rw [List.getElem?_eq_none (by unfold am_W; simpa using Nat.not_lt.mp hjn), List.getElem?_eq_none (by unfold am_W; simpa using Nat.not_lt.mp hjn)]
theorem am_W_D (K : am_K) (n : Nat) (h : am_H) : va_D (am_A K) (am_W K n h) := by
  refine ⟨fun i j p q hi hj hpq => ?_, fun k q hk => ?_⟩
  · obtain ⟨-, rfl⟩ := am_W_some K hi
    obtain ⟨-, rfl⟩ := am_W_some K hj
    have : K.1 + i = K.1 + j := hpq
    omega
  · obtain ⟨-, rfl⟩ := am_W_some K hk
    exact Nat.le_add_right _ _
/-- words that stay -/
def am_words : List Cond := lw_tbl.filter goodWord
theorem am_good : GoodIn am_words am_words := fun w hw => ⟨hw, good_of_word (List.mem_filter.mp hw).2⟩
theorem am_in_words {w : Cond} (h : w ∈ lw_tbl) (hg : goodWord w = true) : w ∈ am_words := List.mem_filter.mpr ⟨h, hg⟩
/-- words on members of the nest, on arrays of arrays -/
def am_nestF : List (Nat × Nat × Nat) := (am_gtL.filter (fun q => q.2.2 == 1)).map (fun q => (q.1.1, q.1.2, q.2.1))
def am_sn (u : Nat) : String := (["EDGE_LOW", "EDGE_HIGH", "EDGE_OF", "FOURS_OF"] : List String).getD (u - 1) ""
def am_nestM : List (Nat × Nat × Nat) := (am_ctL.filter (fun q => q.2.1 == 3)).map (fun q => (q.1.1, q.1.2, q.2.2))
/-- what is given from the start and stays -/
def am_Fix (K : am_K) (X : am_X) (U : State) (H : Heap) : Prop :=
  (va_X (K.2.1 0) X.1 X.2 U H ∧ K.2.1 0 < K.1 ∧ X.1 < 2 ^ 31) ∧
  (∀ u, 0 < u → u < 5 → va_Z "ThirdSheets" (am_sn u) "[I" (.ref (K.2.1 u)) (am_A K) U H ∧ va_T .int (K.2.1 u) (am_sl (u - 1)).length (fun j => .int ((am_sl (u - 1)).getD j 0)) (am_A K) U H) ∧
  (∀ q ∈ am_nestF, va_Nw (.fieldLinkNest (am_cn q.1) q.2.1 "ThirdSheets" (am_sn q.2.2) "[I" "ThirdSheets") U) ∧
  (∀ q ∈ am_nestM, va_Nw (.methodLinkNest (am_cn q.1) q.2.1 (am_name q.2.2) "ThirdSheets") U) ∧
  va_Nw (.arrayOver (.array .int)) U ∧ va_Nw (.arrayOver (.array .long)) U
theorem am_Fix.moved {K : am_K} {X : am_X} {u U : State} {H : Heap} (hW : u.WarmedH U.vm) (h : am_Fix K X u H) : am_Fix K X U H := by
  obtain ⟨⟨h1, h2, h2'⟩, h3, h4, h5, h6, h7⟩ := h
  have hvm := hW.alike
  exact ⟨⟨h1.moved hvm, h2, h2'⟩, fun v a b => ⟨(h3 v a b).1.moved hvm, (h3 v a b).2.moved hvm⟩, fun q hq => va_Nw.warmF hW (h4 q hq), fun q hq => va_Nw.warmM hW (h5 q hq), Jvm.Stand.arrayOver_alikeB hvm h6, Jvm.Stand.arrayOver_alikeB hvm h7⟩
theorem am_Fix.kept {K : am_K} {X : am_X} {U : State} {H H1 : Heap} (h : am_Fix K X U H) (hq : ∀ a : Nat, a < H.size → ¬ am_A K a → H1[a]? = H[a]?) : am_Fix K X U H1 := by
  obtain ⟨⟨h1, h2, h2'⟩, h3, h4⟩ := h
  refine ⟨⟨h1.kept ?_, h2, h2'⟩, fun v a b => ⟨(h3 v a b).1.kept hq, (h3 v a b).2.kept hq⟩, h4⟩
  obtain ⟨scr, g1, -⟩ := h1
  exact hq _ (Array.getElem?_eq_some_iff.mp g1).1 (Nat.not_le.mpr h2)
theorem am_Fix.same {K : am_K} {X : am_X} {u U : State} {H : Heap} (hvm : u.vm = U.vm) (h : am_Fix K X u H) : am_Fix K X U H := by
  obtain ⟨⟨h1, h2, h2'⟩, h3, h4, h5, h6, h7⟩ := h
  have hal : u.vm.Alike U.vm := by rw [hvm]; exact Vm.Alike.refl _
  exact ⟨⟨h1.moved hal, h2, h2'⟩, fun v a b => ⟨(h3 v a b).1.moved hal, (h3 v a b).2.moved hal⟩, fun q hq => va_Nw.same rfl hvm (h4 q hq), fun q hq => va_Nw.same rfl hvm (h5 q hq), Jvm.Stand.arrayOver_alikeB hal h6, Jvm.Stand.arrayOver_alikeB hal h7⟩
/-- the whole world, in a state -/
def am_Wd (K : am_K) (X : am_X) (n : Nat) (h : am_H) (U : State) : Prop := U.heap.size = K.1 + n ∧ va_P (am_D K) am_cl (am_W K n h) U.heap ∧ va_K (am_D K) am_cl (am_tys K) U ∧ am_Fix K X U U.heap
def am_ws (mi : Nat) : List Cond := .code (am_name mi) (am_code mi) (am_maxL mi) (am_ret mi) :: am_words
def am_Pc (K : am_K) (X : am_X) (as : List Value) (n : Nat) (h : am_H) : Array Value → State → Prop := va_Pc (am_vs K as) (am_Wd K X n h)
def am_Qc (K : am_K) (X : am_X) (r : am_R) : Array Value → State → Outcome → State → Prop := fun _ st o t => o = .returned (r.1.map (am_v K)) ∧ am_Wd K X r.2.1 r.2.2.1 t ∧ va_F (am_A K) st t
def am_Met (K : am_K) (X : am_X) (l : Launch) (mi : Nat) (as : List Value) (n : Nat) (h : am_H) (r : am_R) : Prop :=
  Met l (am_name mi) (am_ws mi) ({ frames := am_fr mi, cells := r.2.2.2.1, slots := r.2.2.2.2, locals := am_lo mi } : Room) (am_Pc K X as n h) (am_Qc K X r) r.2.2.2.1 r.2.2.2.2 (am_A K)
theorem am_Pc_blind (K : am_K) (X : am_X) (as : List Value) (n : Nat) (h : am_H) : FrameBlind (am_Pc K X as n h) := by
  intro a U g mk hP
  obtain ⟨h0, h1, h2, h3, h4⟩ := hP
  exact ⟨h0, h1, h2, va_K.moved (u := U) (U := U.calling g mk a) (Vm.Alike.refl U.vm) h3, h4.same (u := U) (U := U.calling g mk a) rfl⟩
/-- where a walk stands -/
def am_At (K : am_K) (X : am_X) (mi : Nat) (p : Program) (R : Room) (s : State) (m : MethodId) (args : Array Value) (meth : Method) (c : Code) : Prop :=
  p.tables.exec = Jvm.exec ∧ c.code = am_code mi ∧ c.maxLocals = am_maxL mi ∧ s.vm.findClass (am_cn (am_mc mi)) = some m.cls ∧ (∀ w ∈ am_words, w.before args s = true) ∧ ((am_name mi).name = "<init>" → meth.name = "<init>") ∧
  va_K (am_D K) am_cl (am_tys K) s ∧ am_Fix K X s s.heap ∧ K.1 ≤ s.heap.size ∧ am_fr mi ≤ R.frames ∧ am_lo mi ≤ R.locals
/-- how the heap stands -/
def am_Hp (K : am_K) (n : Nat) (h : am_H) (s : State) (H : Heap) (locs : List Loc) (k : Nat) : Prop := s.heap.size + k = K.1 + n ∧ va_P (am_D K) am_cl (am_W K n h) H ∧ va_S (am_A K) s.heap H locs
abbrev am_Lm (K : am_K) (L : am_L) : List (Nat × Value) := L.map (fun q => (q.1, am_v K q.2))
theorem am_ld_in {K : am_K} {L : am_L} {i : Nat} {v : Value} {ls : Array Slot} {nL : Nat} (hl : lv_has ls nL (am_Lm K L)) (h : am_ld L i = some v) : ls[i]? = some (.val (am_v K v)) := by
  unfold am_ld at h
  obtain ⟨q, hq, rfl⟩ := Option.map_eq_some_iff.mp h
  have h1 := List.mem_of_find?_eq_some hq
  have h2 : q.1 = i := by simpa using List.find?_some hq
  subst h2
  exact hl.2.2 _ (List.mem_map.mpr ⟨q, h1, rfl⟩)
theorem am_ld_pos {K : am_K} {L : am_L} {i : Nat} {v : Value} (h : am_ld L i = some v) : ∃ k : Nat, (am_Lm K L)[k]? = some (i, am_v K v) := by
  unfold am_ld at h
  obtain ⟨q, hq, rfl⟩ := Option.map_eq_some_iff.mp h
  have h1 := List.mem_of_find?_eq_some hq
  have h2 : q.1 = i := by simpa using List.find?_some hq
  subst h2
  exact List.getElem?_of_mem (List.mem_map.mpr ⟨q, h1, rfl⟩)
theorem am_Lm_st1 (K : am_K) (L : am_L) (i : Nat) (v : Value) : (i, am_v K v) :: (am_Lm K L).filter (fun q => !(q.1 == i) && !(q.1 + 1 == i && q.2.category == 2)) = am_Lm K (am_st1 L i v) := by
  simp only [am_Lm, am_st1, List.map_cons, List.filter_map]
  congr 2
  apply List.filter_congr
  intro q _
  simp [Function.comp, am_v_cat]
theorem am_Lm_st2 (K : am_K) (L : am_L) (i : Nat) (v : Value) : (i, am_v K v) :: (am_Lm K L).filter (fun q => !(q.1 == i) && (!(q.1 == i + 1) && !(q.1 + 1 == i && q.2.category == 2))) = am_Lm K (am_st2 L i v) := by
  simp only [am_Lm, am_st2, List.map_cons, List.filter_map]
  congr 2
  apply List.filter_congr
  intro q _
  simp [Function.comp, am_v_cat]
theorem am_find_in {β : Type} {l : List ((Nat × Nat) × β)} {a b : Nat} {v : β} (h : am_find l a b = some v) : ((a, b), v) ∈ l := by
  unfold am_find at h
  obtain ⟨q, hq, rfl⟩ := Option.map_eq_some_iff.mp h
  have h1 := List.mem_of_find?_eq_some hq
  have h2 := List.find?_some hq
  simp only [Bool.and_eq_true, beq_iff_eq] at h2
  obtain ⟨rfl, rfl⟩ := h2
  exact h1
theorem am_tys_get (K : am_K) : (am_tys K)[0]? = some (K.2.2.2.2 0, .int) ∧ (am_tys K)[1]? = some (K.2.2.2.2 1, .long) ∧ (am_tys K)[2]? = some (K.2.2.2.2 2, .boolean) ∧ (am_tys K)[3]? = some (K.2.2.2.2 3, .array .int) ∧ (am_tys K)[4]? = some (K.2.2.2.2 4, .array .long) := ⟨rfl, rfl, rfl, rfl, rfl⟩
