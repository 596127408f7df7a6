/-! holes: matrices of 8 rows and 6 columns, as lists -/
abbrev ML := List (List Int)
def gMt (L : ML) : MT := fun i j => (L.getD i []).getD j 0
def rec8 (L : ML) : Prop := L.length = 8 ∧ ∀ r ∈ L, r.length = 6
theorem gD_out {α : Type} {l : List α} {i : Nat} {d : α} (h : l.length ≤ i) : l.getD i d = d := by
  rw [List.getD_eq_getElem?_getD, List.getElem?_eq_none h]
  rfl
theorem gD_mem {α : Type} {l : List α} {i : Nat} {d : α} (h : i < l.length) : l.getD i d ∈ l := by
  rw [List.getD_eq_getElem?_getD, List.getElem?_eq_getElem h]
  exact List.getElem_mem h
theorem rec8.row {L : ML} (h : rec8 L) {i : Nat} (hi : i < 8) : (L.getD i []).length = 6 := h.2 _ (gD_mem (by rw [h.1]; exact hi))
theorem rec8.out {L : ML} (h : rec8 L) {i j : Nat} (hij : 8 ≤ i ∨ 6 ≤ j) : gMt L i j = 0 := by
  unfold gMt
  by_cases c : i < 8
  · exact gD_out (by rw [h.row c]; omega)
  · rw [gD_out (l := L) (by rw [h.1]; omega)]
    rfl
theorem zw_at (g : Int → Int → Int) (h0 : g 0 0 = 0) : ∀ (a b : List Int), a.length = b.length → ∀ j, (List.zipWith g a b).getD j 0 = g (a.getD j 0) (b.getD j 0)
  | [], [], _, j => by
    show ([] : List Int).getD j 0 = g (([] : List Int).getD j 0) (([] : List Int).getD j 0)
    rw [gD_out (Nat.zero_le _)]
    exact h0.symm
  | x :: a, y :: b, h, 0 => rfl
  | x :: a, y :: b, h, j + 1 => zw_at g h0 a b (Nat.succ.inj h) j
/-- each row by its number -/
def mapI (g : Nat → List Int → List Int) : Nat → ML → ML
  | _, [] => []
  | n, r :: L => g n r :: mapI g (n + 1) L
theorem mapI_len (g : Nat → List Int → List Int) : ∀ n L, (mapI g n L).length = L.length
  | _, [] => rfl
  | n, r :: L => by
    show (mapI g (n + 1) L).length + 1 = L.length + 1
    rw [mapI_len g (n + 1) L]
theorem mapI_at (g : Nat → List Int → List Int) : ∀ n L i, i < L.length → (mapI g n L).getD i [] = g (n + i) (L.getD i [])
  | _, [], i, h => by
    have : ([] : ML).length = 0 := rfl
    omega
  | n, r :: L, 0, _ => rfl
  | n, r :: L, i + 1, h => by
    show (mapI g (n + 1) L).getD i [] = g (n + (i + 1)) (L.getD i [])
    rw [mapI_at g (n + 1) L i (Nat.lt_of_succ_lt_succ h), show n + 1 + i = n + (i + 1) by omega]
theorem mapI_mem (g : Nat → List Int → List Int) (hg : ∀ n r, r.length = 6 → (g n r).length = 6) : ∀ n L, (∀ r ∈ L, r.length = 6) → ∀ r ∈ mapI g n L, r.length = 6
  | _, [], _, r, h => by cases h
  | n, q :: L, hL, r, h => by
    have h : r ∈ g n q :: mapI g (n + 1) L := h
    rcases List.mem_cons.mp h with e | e
    · rw [e]; exact hg n q (hL q (List.mem_cons_self ..))
    · exact mapI_mem g hg (n + 1) L (fun x hx => hL x (List.mem_cons_of_mem _ hx)) r e
theorem mapI_rec {g : Nat → List Int → List Int} (hg : ∀ n r, r.length = 6 → (g n r).length = 6) {L : ML} (h : rec8 L) : rec8 (mapI g 0 L) := ⟨(mapI_len g 0 L).trans h.1, mapI_mem g hg 0 L h.2⟩
theorem mapI_g {g : Nat → List Int → List Int} {L : ML} (h : rec8 L) {i : Nat} (hi : i < 8) (j : Nat) : gMt (mapI g 0 L) i j = (g i (L.getD i [])).getD j 0 := by
  unfold gMt
  rw [mapI_at g 0 L i (by rw [h.1]; exact hi), Nat.zero_add]
def st1L (L : ML) (x y : Nat) : ML := (fun xr => (fun pv => mapI (fun n r => if n = x then r else List.zipWith (fun a b => a - (r.getD y 0).tdiv pv * b) r xr) 0 L) (xr.getD y 0)) (L.getD x [])
theorem st1L_rec {L : ML} (h : rec8 L) {x : Nat} (hx : x < 8) (y : Nat) : rec8 (st1L L x y) := mapI_rec (fun n r hr => by
  split
  · exact hr
  · rw [List.length_zipWith, hr, h.row hx]; rfl) h
theorem st1L_eq {L : ML} (h : rec8 L) {x : Nat} (hx : x < 8) (y : Nat) : gMt (st1L L x y) = st1 (gMt L) x y := by
  funext i j
  by_cases hi : i < 8
  · show gMt (mapI _ 0 L) i j = _
    rw [mapI_g h hi]
    unfold st1
    by_cases c : i = x
    · rw [if_pos c, if_pos c, c]; rfl
    · rw [if_neg c, if_neg c, zw_at _ (by simp) _ _ (by rw [h.row hi, h.row hx])]
      rfl
  · rw [(st1L_rec h hx y).out (Or.inl (by omega))]
    unfold st1
    rw [if_neg (by omega), h.out (Or.inl (by omega)), h.out (i := i) (j := y) (Or.inl (by omega)), Int.zero_tdiv]
    simp
def qsL (xr : List Int) (pv : Int) (y : Nat) : Nat → List Int → List Int
  | _, [] => []
  | n, v :: l => (if n = y then 0 else v.tdiv pv) :: qsL xr pv y (n + 1) l
theorem qsL_len (xr : List Int) (pv : Int) (y : Nat) : ∀ n l, (qsL xr pv y n l).length = l.length
  | _, [] => rfl
  | n, v :: l => by
    show (qsL xr pv y (n + 1) l).length + 1 = _
    rw [qsL_len xr pv y (n + 1) l]
    rfl
theorem qsL_at (xr : List Int) (pv : Int) (y : Nat) : ∀ n l j, (qsL xr pv y n l).getD j 0 = if n + j = y then 0 else (l.getD j 0).tdiv pv
  | n, [], j => by
    show ([] : List Int).getD j 0 = _
    rw [gD_out (Nat.zero_le _), Int.zero_tdiv]
    split <;> rfl
  | n, v :: l, 0 => rfl
  | n, v :: l, j + 1 => by
    show (qsL xr pv y (n + 1) l).getD j 0 = if n + (j + 1) = y then 0 else (l.getD j 0).tdiv pv
    rw [qsL_at xr pv y (n + 1) l j, show n + 1 + j = n + (j + 1) by omega]
def st2L (L : ML) (x y : Nat) : ML := (fun xr => (fun qs => mapI (fun _ r => (fun ry => List.zipWith (fun a q => a - q * ry) r qs) (r.getD y 0)) 0 L) (qsL xr (xr.getD y 0) y 0 xr)) (L.getD x [])
theorem st2L_rec {L : ML} (h : rec8 L) {x : Nat} (hx : x < 8) (y : Nat) : rec8 (st2L L x y) := mapI_rec (fun n r hr => by
  show (List.zipWith _ r _).length = 6
  rw [List.length_zipWith, qsL_len, hr, h.row hx]; rfl) h
theorem st2L_eq {L : ML} (h : rec8 L) {x : Nat} (hx : x < 8) (y : Nat) : gMt (st2L L x y) = st2 (gMt L) x y := by
  funext i j
  by_cases hi : i < 8
  · show gMt (mapI _ 0 L) i j = _
    rw [mapI_g h hi]
    show (List.zipWith _ (L.getD i []) _).getD j 0 = _
    rw [zw_at _ (by simp) _ _ (by rw [qsL_len, h.row hi, h.row hx]), qsL_at, Nat.zero_add]
    unfold st2
    by_cases c : j = y
    · rw [if_pos c, if_pos c, c, Int.zero_mul, Int.sub_zero]
      rfl
    · rw [if_neg c, if_neg c]
      rfl
  · rw [(st2L_rec h hx y).out (Or.inl (by omega))]
    unfold st2
    rw [h.out (i := i) (j := y) (Or.inl (by omega)), h.out (i := i) (j := j) (Or.inl (by omega))]
    simp
def adL (L : ML) (x r : Nat) (s : Int) : ML := mapI (fun n q => if n = x then List.zipWith (fun a b => a + s * b) q (L.getD r []) else q) 0 L
theorem adL_rec {L : ML} (h : rec8 L) {r : Nat} (hr : r < 8) (x : Nat) (s : Int) : rec8 (adL L x r s) := mapI_rec (fun n q hq => by
  split
  · rw [List.length_zipWith, hq, h.row hr]; rfl
  · exact hq) h
theorem adL_eq {L : ML} (h : rec8 L) {x r : Nat} (hx : x < 8) (hr : r < 8) (s : Int) : gMt (adL L x r s) = adT (gMt L) x r s := by
  funext i j
  by_cases hi : i < 8
  · show gMt (mapI _ 0 L) i j = _
    rw [mapI_g h hi]
    unfold adT
    by_cases c : i = x
    · rw [if_pos c, if_pos c, zw_at _ (by simp) _ _ (by rw [h.row hi, h.row hr]), c]
      rfl
    · rw [if_neg c, if_neg c]
      rfl
  · rw [(adL_rec h hr x s).out (Or.inl (by omega))]
    unfold adT
    rw [if_neg (by omega), h.out (Or.inl (by omega))]
def setZ (y : Nat) : Nat → List Int → List Int
  | _, [] => []
  | n, v :: l => (if n = y then 0 else v) :: setZ y (n + 1) l
theorem setZ_len (y : Nat) : ∀ n l, (setZ y n l).length = l.length
  | _, [] => rfl
  | n, v :: l => by
    show (setZ y (n + 1) l).length + 1 = _
    rw [setZ_len y (n + 1) l]
    rfl
theorem setZ_at (y : Nat) : ∀ n l j, (setZ y n l).getD j 0 = if n + j = y then 0 else l.getD j 0
  | n, [], j => by
    show ([] : List Int).getD j 0 = _
    rw [gD_out (Nat.zero_le _)]
    split <;> rfl
  | n, v :: l, 0 => rfl
  | n, v :: l, j + 1 => by
    show (setZ y (n + 1) l).getD j 0 = if n + (j + 1) = y then 0 else l.getD j 0
    rw [setZ_at y (n + 1) l j, show n + 1 + j = n + (j + 1) by omega]
def fnL (L : ML) (x y : Nat) : ML := mapI (fun n r => if n = x then [0, 0, 0, 0, 0, 0] else setZ y 0 r) 0 L
theorem z6_at (j : Nat) : ([0, 0, 0, 0, 0, 0] : List Int).getD j 0 = 0 := by
  match j with
  | 0 => rfl
  | 1 => rfl
  | 2 => rfl
  | 3 => rfl
  | 4 => rfl
  | 5 => rfl
  | n + 6 => rfl
theorem fnL_rec {L : ML} (h : rec8 L) (x y : Nat) : rec8 (fnL L x y) := mapI_rec (fun n r hr => by
  split
  · rfl
  · rw [setZ_len]; exact hr) h
theorem fnL_eq {L : ML} (h : rec8 L) (x y : Nat) : gMt (fnL L x y) = fnT (gMt L) x y := by
  funext i j
  by_cases hi : i < 8
  · show gMt (mapI _ 0 L) i j = _
    rw [mapI_g h hi]
    unfold fnT
    by_cases c : i = x
    · rw [if_pos c, if_pos (Or.inl c), z6_at]
    · rw [if_neg c, setZ_at, Nat.zero_add]
      by_cases d : j = y
      · rw [if_pos d, if_pos (Or.inr d)]
      · rw [if_neg d, if_neg (fun w => w.elim c d)]
        rfl
  · rw [(fnL_rec h x y).out (Or.inl (by omega))]
    unfold fnT
    rw [h.out (Or.inl (by omega))]
    split <;> rfl
