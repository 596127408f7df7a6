/-! the memory of the law's run: fields, ints, longs, references, by address -/
abbrev MS : Type := (Nat → Nat → Int32) × (Nat → Nat → Int32) × (Nat → Nat → Int64) × (Nat → Nat → Nat)
def c_from : Nat → Int32 := fun j => ([0, 0, 0, 1, 1, 2] : List Int32).getD j 0
def c_to : Nat → Int32 := fun j => ([1, 2, 3, 2, 3, 3] : List Int32).getD j 0
def HPk (k : Nat) (fi : Nat → Int32) (ar : Nat → Int32) (la : Nat → Int64) (rf : Nat → Nat) : am_E := if 45 ≤ k ∧ k < 109 ∨ 112 ≤ k ∧ k < 176 then .inl (0, 21, .inl ar) else if 24 ≤ k ∧ k < 42 then .inl (1, 6, .inr (.inl la)) else match k with
  | 0 => .inr (6, [.ref 1, .ref 22, .ref 43, .ref 177, .ref 179, .int (fi 5), .int (fi 6)])
  | 1 => .inr (5, [.int (fi 0), .int (fi 1), .ref 2, .ref 3, .ref 4, .ref 10, .ref 16])
  | 2 => .inl (0, 12, .inl ar)
  | 3 => .inl (0, 48, .inl ar)
  | 4 => .inr (0, [.ref 5, .ref 6, .ref 7, .ref 8, .ref 9, .int (fi 5), .int (fi 6)])
  | 5 => .inl (0, 12, .inl ar)
  | 6 => .inl (0, 12, .inl ar)
  | 7 => .inl (2, 12, .inl ar)
  | 8 => .inl (0, 12, .inl ar)
  | 9 => .inl (0, 12, .inl ar)
  | 10 => .inr (0, [.ref 11, .ref 12, .ref 13, .ref 14, .ref 15, .int (fi 5), .int (fi 6)])
  | 11 => .inl (0, 18, .inl ar)
  | 12 => .inl (0, 18, .inl ar)
  | 13 => .inl (2, 18, .inl ar)
  | 14 => .inl (0, 18, .inl ar)
  | 15 => .inl (0, 18, .inl ar)
  | 16 => .inr (0, [.ref 17, .ref 18, .ref 19, .ref 20, .ref 21, .int (fi 5), .int (fi 6)])
  | 17 => .inl (0, 3, .inl ar)
  | 18 => .inl (0, 3, .inl ar)
  | 19 => .inl (2, 3, .inl ar)
  | 20 => .inl (0, 3, .inl ar)
  | 21 => .inl (0, 3, .inl ar)
  | 22 => .inr (2, [.ref 23, .ref 42, .int (fi 2), .int (fi 3), .int (fi 4)])
  | 23 => .inl (4, 18, .inr (.inr (.inr (.inr (fun i => if i < 18 then some (rf i) else none)))))
  | 42 => .inl (0, 12, .inl ar)
  | 43 => .inr (1, [.int (fi 0), .int (fi 1), .ref (rf 2), .ref (rf 3), .ref 110, .int (fi 5), .ref (rf 6), .ref (rf 7)])
  | 44 => .inl (3, 64, .inr (.inr (.inr (.inr (fun i => if i < 64 then some (rf i) else none)))))
  | 109 => .inl (0, 64, .inl ar)
  | 110 => .inl (0, 64, .inl ar)
  | 111 => .inl (3, 64, .inr (.inr (.inr (.inr (fun i => if i < 64 then some (rf i) else none)))))
  | 176 => .inl (0, 64, .inl ar)
  | 177 => .inr (4, [.ref 178])
  | 178 => .inl (0, 21, .inl ar)
  | 179 => .inr (3, [.ref 180, .ref 186, .ref 187, .ref 188])
  | 180 => .inr (0, [.ref 181, .ref 182, .ref 183, .ref 184, .ref 185, .int (fi 5), .int (fi 6)])
  | 181 => .inl (0, 400, .inl ar)
  | 182 => .inl (0, 400, .inl ar)
  | 183 => .inl (2, 400, .inl ar)
  | 184 => .inl (0, 400, .inl ar)
  | 185 => .inl (0, 400, .inl ar)
  | 186 => .inl (0, 21, .inl ar)
  | 187 => .inl (0, 400, .inl ar)
  | 188 => .inl (0, 400, .inl ar)
  | 189 => .inr (7, [.int (fi 0), .ref 190, .ref 191, .ref 192, .ref 193, .ref 194, .ref 195, .ref 196, .ref 197, .int (fi 9), .ref 198, .int (fi 11), .int (fi 12), .ref 199, .int (fi 14), .ref 200, .ref 201, .ref 202, .int (fi 18), .int (fi 19), .ref 203, .ref 204, .ref 205, .ref 206, .int (fi 24), .ref 207])
  | 190 => .inl (0, 12, .inl ar)
  | 191 => .inl (0, 48, .inl ar)
  | 192 => .inl (0, 21, .inl ar)
  | 193 => .inl (0, 6, .inl c_from)
  | 194 => .inl (0, 6, .inl c_to)
  | 195 => .inl (0, 36, .inl ar)
  | 196 => .inl (0, 12, .inl ar)
  | 197 => .inl (0, 3, .inl ar)
  | 198 => .inl (1, 108, .inr (.inl la))
  | 199 => .inl (0, 12, .inl ar)
  | 200 => .inl (0, 42000, .inl ar)
  | 201 => .inl (0, 42000, .inl ar)
  | 202 => .inl (0, 21, .inl ar)
  | 203 => .inl (0, 22, .inl ar)
  | 204 => .inl (0, 400, .inl ar)
  | 205 => .inl (0, 400, .inl ar)
  | 206 => .inl (0, 400, .inl ar)
  | 207 => .inl (2, 400, .inl ar)
  | _ => .inr (0, [])
def HP (S : MS) : am_H := fun k => HPk k (S.1 k) (S.2.1 k) (S.2.2.1 k) (S.2.2.2 k)
/-- one place of one row changed -/
def u2 {α : Type} (f : Nat → Nat → α) (a k : Nat) (x : α) : Nat → Nat → α := fun i => if i = a then (fun j => if j = k then x else f a j) else f i
def r2 {α : Type} (f : Nat → Nat → α) (a : Nat) (g : Nat → α) : Nat → Nat → α := fun i => if i = a then g else f i
abbrev MS.sf (S : MS) (a k : Nat) (x : Int32) : MS := (u2 S.1 a k x, S.2)
abbrev MS.sa (S : MS) (a k : Nat) (x : Int32) : MS := (S.1, u2 S.2.1 a k x, S.2.2)
abbrev MS.sl (S : MS) (a k : Nat) (x : Int64) : MS := (S.1, S.2.1, u2 S.2.2.1 a k x, S.2.2.2)
abbrev MS.sr (S : MS) (a k : Nat) (x : Nat) : MS := (S.1, S.2.1, S.2.2.1, u2 S.2.2.2 a k x)
theorem u2_row {α : Type} (f : Nat → Nat → α) (a k : Nat) (x : α) : u2 f a k x a = fun j => if j = k then x else f a j := by
  unfold u2
  rw [if_pos rfl]
theorem u2_ne {α : Type} (f : Nat → Nat → α) {a i : Nat} (k : Nat) (x : α) (h : i ≠ a) : u2 f a k x i = f i := by
  unfold u2
  rw [if_neg h]
theorem u2_at {α : Type} (f : Nat → Nat → α) (a k : Nat) (x : α) (i j : Nat) : u2 f a k x i j = if i = a ∧ j = k then x else f i j := by
  unfold u2
  by_cases h : i = a
  · subst h
    by_cases h2 : j = k <;> simp [h2]
  · simp [h]
theorem HP_sf (S : MS) (a k : Nat) (x : Int32) {e : am_E} (h : HPk a (u2 S.1 a k x a) (S.2.1 a) (S.2.2.1 a) (S.2.2.2 a) = e) : am_up (HP S) a e = HP (S.sf a k x) := by
  funext i
  unfold am_up
  by_cases hi : i = a
  · subst hi
    rw [if_pos rfl, ← h]
    rfl
  · rw [if_neg hi]
    show HPk i (S.1 i) _ _ _ = HPk i (u2 S.1 a k x i) _ _ _
    rw [u2_ne _ _ _ hi]
theorem HP_sa (S : MS) (a k : Nat) (x : Int32) {e : am_E} (h : HPk a (S.1 a) (u2 S.2.1 a k x a) (S.2.2.1 a) (S.2.2.2 a) = e) : am_up (HP S) a e = HP (S.sa a k x) := by
  funext i
  unfold am_up
  by_cases hi : i = a
  · subst hi
    rw [if_pos rfl, ← h]
    rfl
  · rw [if_neg hi]
    show HPk i _ (S.2.1 i) _ _ = HPk i _ (u2 S.2.1 a k x i) _ _
    rw [u2_ne _ _ _ hi]
theorem HP_sl (S : MS) (a k : Nat) (x : Int64) {e : am_E} (h : HPk a (S.1 a) (S.2.1 a) (u2 S.2.2.1 a k x a) (S.2.2.2 a) = e) : am_up (HP S) a e = HP (S.sl a k x) := by
  funext i
  unfold am_up
  by_cases hi : i = a
  · subst hi
    rw [if_pos rfl, ← h]
    rfl
  · rw [if_neg hi]
    show HPk i _ _ (S.2.2.1 i) _ = HPk i _ _ (u2 S.2.2.1 a k x i) _
    rw [u2_ne _ _ _ hi]
theorem HP_sr (S : MS) (a k : Nat) (x : Nat) {e : am_E} (h : HPk a (S.1 a) (S.2.1 a) (S.2.2.1 a) (u2 S.2.2.2 a k x a) = e) : am_up (HP S) a e = HP (S.sr a k x) := by
  funext i
  unfold am_up
  by_cases hi : i = a
  · subst hi
    rw [if_pos rfl, ← h]
    rfl
  · rw [if_neg hi]
    show HPk i _ _ _ (S.2.2.2 i) = HPk i _ _ _ (u2 S.2.2.2 a k x i)
    rw [u2_ne _ _ _ hi]
/-- what lies at an address -/
def isI (a len : Nat) : Prop := ∀ fi ar la rf, HPk a fi ar la rf = .inl (0, len, .inl ar)
def isZ (a len : Nat) : Prop := ∀ fi ar la rf, HPk a fi ar la rf = .inl (2, len, .inl ar)
def isJ (a len : Nat) : Prop := ∀ fi ar la rf, HPk a fi ar la rf = .inl (1, len, .inr (.inl la))
theorem isI_row {a : Nat} (h : 45 ≤ a ∧ a < 109 ∨ 112 ≤ a ∧ a < 176) : isI a 21 := by
  intro fi ar la rf
  unfold HPk
  rw [if_pos h]
theorem isJ_row {a : Nat} (h : 24 ≤ a ∧ a < 42) : isJ a 6 := by
  intro fi ar la rf
  unfold HPk
  rw [if_neg (by omega), if_pos h]

/-! the rules of a step -/
section AR
variable {X : am_X} {mi : Nat} {pc : Nat} {L : am_L} {st : List Value} {n : Nat} {h : am_H} {k j : Nat} {Q : am_R → Prop} {S : MS}
theorem as_iconst {v : Int} (hd : decode (am_code mi) pc = .ok (.iconst v, 1)) (kk : AW X mi (pc + 1, L, .int (Int32.ofInt v) :: st, n, h, k, j) Q) : AW X mi (pc, L, st, n, h, k, j) Q := AW.step (fun call => by simp [am_step, hd, am_len, am_ex, am_go, *]) kk
theorem as_bipush {v : Int} (hd : decode (am_code mi) pc = .ok (.bipush v, 2)) (kk : AW X mi (pc + 2, L, .int (Int8.ofInt v).toInt32 :: st, n, h, k, j) Q) : AW X mi (pc, L, st, n, h, k, j) Q := AW.step (fun call => by simp [am_step, hd, am_len, am_ex, am_go, *]) kk
theorem as_sipush {v : Int} (hd : decode (am_code mi) pc = .ok (.sipush v, 3)) (kk : AW X mi (pc + 3, L, .int (Int16.ofInt v).toInt32 :: st, n, h, k, j) Q) : AW X mi (pc, L, st, n, h, k, j) Q := AW.step (fun call => by simp [am_step, hd, am_len, am_ex, am_go, *]) kk
theorem as_lconst {v : Fin 2} (hd : decode (am_code mi) pc = .ok (.lconst v, 1)) (kk : AW X mi (pc + 1, L, .long (Int64.ofNat v) :: st, n, h, k, j) Q) : AW X mi (pc, L, st, n, h, k, j) Q := AW.step (fun call => by simp [am_step, hd, am_len, am_ex, am_go, *]) kk
theorem as_ldc {q : Nat} {v : Int32} (hd : decode (am_code mi) pc = .ok (.ldc q, 2)) (hq : am_find am_ccL (am_mc mi) q = some v) (kk : AW X mi (pc + 2, L, .int v :: st, n, h, k, j) Q) : AW X mi (pc, L, st, n, h, k, j) Q := AW.step (fun call => by simp [am_step, hd, am_len, am_ex, am_go, *]) kk
theorem as_ldc2 {q : Nat} {v : Int64} (hd : decode (am_code mi) pc = .ok (.ldc2_w q, 3)) (hq : am_find am_clL (am_mc mi) q = some v) (kk : AW X mi (pc + 3, L, .long v :: st, n, h, k, j) Q) : AW X mi (pc, L, st, n, h, k, j) Q := AW.step (fun call => by simp [am_step, hd, am_len, am_ex, am_go, *]) kk
theorem as_iload {i : Nat} {x : Int32} (hd : decode (am_code mi) pc = .ok (.iload i, 2)) (hl : am_ld L i = some (.int x)) (kk : AW X mi (pc + 2, L, .int x :: st, n, h, k, j) Q) : AW X mi (pc, L, st, n, h, k, j) Q := AW.step (fun call => by simp [am_step, hd, am_len, am_ex, am_go, *]) kk
theorem as_iload_n {i : Fin 4} {x : Int32} (hd : decode (am_code mi) pc = .ok (.iload_n i, 1)) (hl : am_ld L i = some (.int x)) (kk : AW X mi (pc + 1, L, .int x :: st, n, h, k, j) Q) : AW X mi (pc, L, st, n, h, k, j) Q := AW.step (fun call => by simp [am_step, hd, am_len, am_ex, am_go, *]) kk
theorem as_lload {i : Nat} {x : Int64} (hd : decode (am_code mi) pc = .ok (.lload i, 2)) (hl : am_ld L i = some (.long x)) (kk : AW X mi (pc + 2, L, .long x :: st, n, h, k, j) Q) : AW X mi (pc, L, st, n, h, k, j) Q := AW.step (fun call => by simp [am_step, hd, am_len, am_ex, am_go, *]) kk
theorem as_lload_n {i : Fin 4} {x : Int64} (hd : decode (am_code mi) pc = .ok (.lload_n i, 1)) (hl : am_ld L i = some (.long x)) (kk : AW X mi (pc + 1, L, .long x :: st, n, h, k, j) Q) : AW X mi (pc, L, st, n, h, k, j) Q := AW.step (fun call => by simp [am_step, hd, am_len, am_ex, am_go, *]) kk
theorem as_aload_n {i : Fin 4} {x : Nat} (hd : decode (am_code mi) pc = .ok (.aload_n i, 1)) (hl : am_ld L i = some (.ref x)) (kk : AW X mi (pc + 1, L, .ref x :: st, n, h, k, j) Q) : AW X mi (pc, L, st, n, h, k, j) Q := AW.step (fun call => by simp [am_step, hd, am_len, am_ex, am_go, *]) kk
theorem as_aload_f {i : Fin 4} {x : UInt32} (hd : decode (am_code mi) pc = .ok (.aload_n i, 1)) (hl : am_ld L i = some (.float x)) (kk : AW X mi (pc + 1, L, .float x :: st, n, h, k, j) Q) : AW X mi (pc, L, st, n, h, k, j) Q := AW.step (fun call => by simp [am_step, hd, am_len, am_ex, am_go, *]) kk
theorem as_istore {i : Nat} {x : Int32} (hd : decode (am_code mi) pc = .ok (.istore i, 2)) (hm : (i : Nat) < am_maxL mi) (kk : AW X mi (pc + 2, am_st1 L i (.int x), st, n, h, k, j) Q) : AW X mi (pc, L, .int x :: st, n, h, k, j) Q := AW.step (fun call => by simp [am_step, hd, am_len, am_ex, am_go, *]) kk
theorem as_istore_n {i : Fin 4} {x : Int32} (hd : decode (am_code mi) pc = .ok (.istore_n i, 1)) (hm : (i : Nat) < am_maxL mi) (kk : AW X mi (pc + 1, am_st1 L i (.int x), st, n, h, k, j) Q) : AW X mi (pc, L, .int x :: st, n, h, k, j) Q := AW.step (fun call => by simp [am_step, hd, am_len, am_ex, am_go, *]) kk
theorem as_lstore {i : Nat} {x : Int64} (hd : decode (am_code mi) pc = .ok (.lstore i, 2)) (hm : (i : Nat) + 1 < am_maxL mi) (kk : AW X mi (pc + 2, am_st2 L i (.long x), st, n, h, k, j) Q) : AW X mi (pc, L, .long x :: st, n, h, k, j) Q := AW.step (fun call => by simp [am_step, hd, am_len, am_ex, am_go, *]) kk
theorem as_lstore_n {i : Fin 4} {x : Int64} (hd : decode (am_code mi) pc = .ok (.lstore_n i, 1)) (hm : (i : Nat) + 1 < am_maxL mi) (kk : AW X mi (pc + 1, am_st2 L i (.long x), st, n, h, k, j) Q) : AW X mi (pc, L, .long x :: st, n, h, k, j) Q := AW.step (fun call => by simp [am_step, hd, am_len, am_ex, am_go, *]) kk
theorem as_astore_n {i : Fin 4} {x : Nat} (hd : decode (am_code mi) pc = .ok (.astore_n i, 1)) (hm : (i : Nat) < am_maxL mi) (kk : AW X mi (pc + 1, am_st1 L i (.ref x), st, n, h, k, j) Q) : AW X mi (pc, L, .ref x :: st, n, h, k, j) Q := AW.step (fun call => by simp [am_step, hd, am_len, am_ex, am_go, *]) kk
theorem as_iinc {i : Nat} {v : Int} {x : Int32} (hd : decode (am_code mi) pc = .ok (.iinc i v, 3)) (hl : am_ld L i = some (.int x)) (hm : i < am_maxL mi) (kk : AW X mi (pc + 3, am_st1 L i (.int (x + Int32.ofInt v)), st, n, h, k, j) Q) : AW X mi (pc, L, st, n, h, k, j) Q := AW.step (fun call => by simp [am_step, hd, am_len, am_ex, am_go, *]) kk
theorem as_iadd {x y : Int32} (hd : decode (am_code mi) pc = .ok (.iadd, 1)) (kk : AW X mi (pc + 1, L, .int (x + y) :: st, n, h, k, j) Q) : AW X mi (pc, L, .int y :: .int x :: st, n, h, k, j) Q := AW.step (fun call => by simp [am_step, hd, am_len, am_ex, am_go, *]) kk
theorem as_isub {x y : Int32} (hd : decode (am_code mi) pc = .ok (.isub, 1)) (kk : AW X mi (pc + 1, L, .int (x - y) :: st, n, h, k, j) Q) : AW X mi (pc, L, .int y :: .int x :: st, n, h, k, j) Q := AW.step (fun call => by simp [am_step, hd, am_len, am_ex, am_go, *]) kk
theorem as_imul {x y : Int32} (hd : decode (am_code mi) pc = .ok (.imul, 1)) (kk : AW X mi (pc + 1, L, .int (x * y) :: st, n, h, k, j) Q) : AW X mi (pc, L, .int y :: .int x :: st, n, h, k, j) Q := AW.step (fun call => by simp [am_step, hd, am_len, am_ex, am_go, *]) kk
theorem as_iand {x y : Int32} (hd : decode (am_code mi) pc = .ok (.iand, 1)) (kk : AW X mi (pc + 1, L, .int (x &&& y) :: st, n, h, k, j) Q) : AW X mi (pc, L, .int y :: .int x :: st, n, h, k, j) Q := AW.step (fun call => by simp [am_step, hd, am_len, am_ex, am_go, *]) kk
theorem as_ior {x y : Int32} (hd : decode (am_code mi) pc = .ok (.ior, 1)) (kk : AW X mi (pc + 1, L, .int (x ||| y) :: st, n, h, k, j) Q) : AW X mi (pc, L, .int y :: .int x :: st, n, h, k, j) Q := AW.step (fun call => by simp [am_step, hd, am_len, am_ex, am_go, *]) kk
theorem as_ixor {x y : Int32} (hd : decode (am_code mi) pc = .ok (.ixor, 1)) (kk : AW X mi (pc + 1, L, .int (x ^^^ y) :: st, n, h, k, j) Q) : AW X mi (pc, L, .int y :: .int x :: st, n, h, k, j) Q := AW.step (fun call => by simp [am_step, hd, am_len, am_ex, am_go, *]) kk
theorem as_ishl {x y : Int32} (hd : decode (am_code mi) pc = .ok (.ishl, 1)) (kk : AW X mi (pc + 1, L, .int (x <<< (y &&& 31)) :: st, n, h, k, j) Q) : AW X mi (pc, L, .int y :: .int x :: st, n, h, k, j) Q := AW.step (fun call => by simp [am_step, hd, am_len, am_ex, am_go, *]) kk
theorem as_ishr {x y : Int32} (hd : decode (am_code mi) pc = .ok (.ishr, 1)) (kk : AW X mi (pc + 1, L, .int (x >>> (y &&& 31)) :: st, n, h, k, j) Q) : AW X mi (pc, L, .int y :: .int x :: st, n, h, k, j) Q := AW.step (fun call => by simp [am_step, hd, am_len, am_ex, am_go, *]) kk
theorem as_idiv {x y : Int32} (hd : decode (am_code mi) pc = .ok (.idiv, 1)) (hy : ¬ y = 0) (kk : AW X mi (pc + 1, L, .int (x / y) :: st, n, h, k, j) Q) : AW X mi (pc, L, .int y :: .int x :: st, n, h, k, j) Q := AW.step (fun call => by simp [am_step, hd, am_len, am_ex, am_go, *]) kk
theorem as_irem {x y : Int32} (hd : decode (am_code mi) pc = .ok (.irem, 1)) (hy : ¬ y = 0) (kk : AW X mi (pc + 1, L, .int (x - x / y * y) :: st, n, h, k, j) Q) : AW X mi (pc, L, .int y :: .int x :: st, n, h, k, j) Q := AW.step (fun call => by simp [am_step, hd, am_len, am_ex, am_go, *]) kk
theorem as_ineg {x : Int32} (hd : decode (am_code mi) pc = .ok (.ineg, 1)) (kk : AW X mi (pc + 1, L, .int (-x) :: st, n, h, k, j) Q) : AW X mi (pc, L, .int x :: st, n, h, k, j) Q := AW.step (fun call => by simp [am_step, hd, am_len, am_ex, am_go, *]) kk
theorem as_ladd {x y : Int64} (hd : decode (am_code mi) pc = .ok (.ladd, 1)) (kk : AW X mi (pc + 1, L, .long (x + y) :: st, n, h, k, j) Q) : AW X mi (pc, L, .long y :: .long x :: st, n, h, k, j) Q := AW.step (fun call => by simp [am_step, hd, am_len, am_ex, am_go, *]) kk
theorem as_lsub {x y : Int64} (hd : decode (am_code mi) pc = .ok (.lsub, 1)) (kk : AW X mi (pc + 1, L, .long (x - y) :: st, n, h, k, j) Q) : AW X mi (pc, L, .long y :: .long x :: st, n, h, k, j) Q := AW.step (fun call => by simp [am_step, hd, am_len, am_ex, am_go, *]) kk
theorem as_lmul {x y : Int64} (hd : decode (am_code mi) pc = .ok (.lmul, 1)) (kk : AW X mi (pc + 1, L, .long (x * y) :: st, n, h, k, j) Q) : AW X mi (pc, L, .long y :: .long x :: st, n, h, k, j) Q := AW.step (fun call => by simp [am_step, hd, am_len, am_ex, am_go, *]) kk
theorem as_ldiv {x y : Int64} (hd : decode (am_code mi) pc = .ok (.ldiv, 1)) (hy : ¬ y = 0) (kk : AW X mi (pc + 1, L, .long (x / y) :: st, n, h, k, j) Q) : AW X mi (pc, L, .long y :: .long x :: st, n, h, k, j) Q := AW.step (fun call => by simp [am_step, hd, am_len, am_ex, am_go, *]) kk
theorem as_lrem {x y : Int64} (hd : decode (am_code mi) pc = .ok (.lrem, 1)) (hy : ¬ y = 0) (kk : AW X mi (pc + 1, L, .long (x - x / y * y) :: st, n, h, k, j) Q) : AW X mi (pc, L, .long y :: .long x :: st, n, h, k, j) Q := AW.step (fun call => by simp [am_step, hd, am_len, am_ex, am_go, *]) kk
theorem as_lneg {x : Int64} (hd : decode (am_code mi) pc = .ok (.lneg, 1)) (kk : AW X mi (pc + 1, L, .long (-x) :: st, n, h, k, j) Q) : AW X mi (pc, L, .long x :: st, n, h, k, j) Q := AW.step (fun call => by simp [am_step, hd, am_len, am_ex, am_go, *]) kk
theorem as_lcmp {x y : Int64} (hd : decode (am_code mi) pc = .ok (.lcmp, 1)) (kk : AW X mi (pc + 1, L, .int (lg_cmp x y) :: st, n, h, k, j) Q) : AW X mi (pc, L, .long y :: .long x :: st, n, h, k, j) Q := AW.step (fun call => by simp [am_step, hd, am_len, am_ex, am_go, *]) kk
theorem as_i2l {x : Int32} (hd : decode (am_code mi) pc = .ok (.i2l, 1)) (kk : AW X mi (pc + 1, L, .long x.toInt64 :: st, n, h, k, j) Q) : AW X mi (pc, L, .int x :: st, n, h, k, j) Q := AW.step (fun call => by simp [am_step, hd, am_len, am_ex, am_go, *]) kk
theorem as_l2i {x : Int64} (hd : decode (am_code mi) pc = .ok (.l2i, 1)) (kk : AW X mi (pc + 1, L, .int x.toInt32 :: st, n, h, k, j) Q) : AW X mi (pc, L, .long x :: st, n, h, k, j) Q := AW.step (fun call => by simp [am_step, hd, am_len, am_ex, am_go, *]) kk
theorem as_dup {v : Value} (hd : decode (am_code mi) pc = .ok (.dup, 1)) (hc : v.category = 1) (kk : AW X mi (pc + 1, L, v :: v :: st, n, h, k, j) Q) : AW X mi (pc, L, v :: st, n, h, k, j) Q := AW.step (fun call => by simp [am_step, hd, am_len, am_ex, am_go, *]) kk
theorem as_pop {v : Value} (hd : decode (am_code mi) pc = .ok (.pop, 1)) (hc : v.category = 1) (kk : AW X mi (pc + 1, L, st, n, h, k, j) Q) : AW X mi (pc, L, v :: st, n, h, k, j) Q := AW.step (fun call => by simp [am_step, hd, am_len, am_ex, am_go, *]) kk
theorem as_dup2 {v w : Value} (hd : decode (am_code mi) pc = .ok (.dup2, 1)) (hc : v.category = 1) (hc2 : w.category = 1) (kk : AW X mi (pc + 1, L, v :: w :: v :: w :: st, n, h, k, j) Q) : AW X mi (pc, L, v :: w :: st, n, h, k, j) Q := AW.step (fun call => by simp [am_step, hd, am_len, am_ex, am_go, *]) kk
theorem as_goto {o : Int} (t : Nat) (hd : decode (am_code mi) pc = .ok (.goto o, 3)) (ht : (pc : Int) + o = (t : Int)) (kk : AW X mi (t, L, st, n, h, k, j) Q) : AW X mi (pc, L, st, n, h, k, j) Q := AW.step (fun call => by
  have h0 : 0 ≤ (pc : Int) + o := by rw [ht]; exact Int.natCast_nonneg t
  simp [am_step, hd, am_len, am_ex, am_jmp, am_go, ht]) kk
theorem as_if_eq {x : Int32} {o : Int} (t : Nat) (hd : decode (am_code mi) pc = .ok (.ifCond .eq o, 3)) (ht : (pc : Int) + o = (t : Int)) (k1 : x = 0 → AW X mi (t, L, st, n, h, k, j) Q) (k2 : ¬ x = 0 → AW X mi (pc + 3, L, st, n, h, k, j) Q) : AW X mi (pc, L, .int x :: st, n, h, k, j) Q := by
  have h0 : 0 ≤ (pc : Int) + o := by rw [ht]; exact Int.natCast_nonneg t
  have h1 : ((pc : Int) + o).toNat = t := by rw [ht]; exact Int.toNat_natCast t
  by_cases hc : x = 0
  · exact AW.step (fun call => by simp only [am_step, hd, am_len, am_ex, am_br]; rw [if_pos (Or.inr trivial), if_pos h0, if_pos hc, h1]; rfl) (k1 hc)
  · exact AW.step (fun call => by simp only [am_step, hd, am_len, am_ex, am_br]; rw [if_pos (Or.inr trivial), if_pos h0, if_neg hc]; rfl) (k2 (by first | exact hc | exact Classical.not_not.mp hc))
theorem as_if_ne {x : Int32} {o : Int} (t : Nat) (hd : decode (am_code mi) pc = .ok (.ifCond .ne o, 3)) (ht : (pc : Int) + o = (t : Int)) (k1 : ¬ x = 0 → AW X mi (t, L, st, n, h, k, j) Q) (k2 : x = 0 → AW X mi (pc + 3, L, st, n, h, k, j) Q) : AW X mi (pc, L, .int x :: st, n, h, k, j) Q := by
  have h0 : 0 ≤ (pc : Int) + o := by rw [ht]; exact Int.natCast_nonneg t
  have h1 : ((pc : Int) + o).toNat = t := by rw [ht]; exact Int.toNat_natCast t
  by_cases hc : ¬ x = 0
  · exact AW.step (fun call => by simp only [am_step, hd, am_len, am_ex, am_br]; rw [if_pos (Or.inr trivial), if_pos h0, if_pos hc, h1]; rfl) (k1 hc)
  · exact AW.step (fun call => by simp only [am_step, hd, am_len, am_ex, am_br]; rw [if_pos (Or.inr trivial), if_pos h0, if_neg hc]; rfl) (k2 (by first | exact hc | exact Classical.not_not.mp hc))
theorem as_if_lt {x : Int32} {o : Int} (t : Nat) (hd : decode (am_code mi) pc = .ok (.ifCond .lt o, 3)) (ht : (pc : Int) + o = (t : Int)) (k1 : x < 0 → AW X mi (t, L, st, n, h, k, j) Q) (k2 : ¬ x < 0 → AW X mi (pc + 3, L, st, n, h, k, j) Q) : AW X mi (pc, L, .int x :: st, n, h, k, j) Q := by
  have h0 : 0 ≤ (pc : Int) + o := by rw [ht]; exact Int.natCast_nonneg t
  have h1 : ((pc : Int) + o).toNat = t := by rw [ht]; exact Int.toNat_natCast t
  by_cases hc : x < 0
  · exact AW.step (fun call => by simp only [am_step, hd, am_len, am_ex, am_br]; rw [if_pos (Or.inr trivial), if_pos h0, if_pos hc, h1]; rfl) (k1 hc)
  · exact AW.step (fun call => by simp only [am_step, hd, am_len, am_ex, am_br]; rw [if_pos (Or.inr trivial), if_pos h0, if_neg hc]; rfl) (k2 (by first | exact hc | exact Classical.not_not.mp hc))
theorem as_if_ge {x : Int32} {o : Int} (t : Nat) (hd : decode (am_code mi) pc = .ok (.ifCond .ge o, 3)) (ht : (pc : Int) + o = (t : Int)) (k1 : 0 ≤ x → AW X mi (t, L, st, n, h, k, j) Q) (k2 : ¬ 0 ≤ x → AW X mi (pc + 3, L, st, n, h, k, j) Q) : AW X mi (pc, L, .int x :: st, n, h, k, j) Q := by
  have h0 : 0 ≤ (pc : Int) + o := by rw [ht]; exact Int.natCast_nonneg t
  have h1 : ((pc : Int) + o).toNat = t := by rw [ht]; exact Int.toNat_natCast t
  by_cases hc : 0 ≤ x
  · exact AW.step (fun call => by simp only [am_step, hd, am_len, am_ex, am_br]; rw [if_pos (Or.inr trivial), if_pos h0, if_pos hc, h1]; rfl) (k1 hc)
  · exact AW.step (fun call => by simp only [am_step, hd, am_len, am_ex, am_br]; rw [if_pos (Or.inr trivial), if_pos h0, if_neg hc]; rfl) (k2 (by first | exact hc | exact Classical.not_not.mp hc))
theorem as_if_gt {x : Int32} {o : Int} (t : Nat) (hd : decode (am_code mi) pc = .ok (.ifCond .gt o, 3)) (ht : (pc : Int) + o = (t : Int)) (k1 : 0 < x → AW X mi (t, L, st, n, h, k, j) Q) (k2 : ¬ 0 < x → AW X mi (pc + 3, L, st, n, h, k, j) Q) : AW X mi (pc, L, .int x :: st, n, h, k, j) Q := by
  have h0 : 0 ≤ (pc : Int) + o := by rw [ht]; exact Int.natCast_nonneg t
  have h1 : ((pc : Int) + o).toNat = t := by rw [ht]; exact Int.toNat_natCast t
  by_cases hc : 0 < x
  · exact AW.step (fun call => by simp only [am_step, hd, am_len, am_ex, am_br]; rw [if_pos (Or.inr trivial), if_pos h0, if_pos hc, h1]; rfl) (k1 hc)
  · exact AW.step (fun call => by simp only [am_step, hd, am_len, am_ex, am_br]; rw [if_pos (Or.inr trivial), if_pos h0, if_neg hc]; rfl) (k2 (by first | exact hc | exact Classical.not_not.mp hc))
theorem as_if_le {x : Int32} {o : Int} (t : Nat) (hd : decode (am_code mi) pc = .ok (.ifCond .le o, 3)) (ht : (pc : Int) + o = (t : Int)) (k1 : x ≤ 0 → AW X mi (t, L, st, n, h, k, j) Q) (k2 : ¬ x ≤ 0 → AW X mi (pc + 3, L, st, n, h, k, j) Q) : AW X mi (pc, L, .int x :: st, n, h, k, j) Q := by
  have h0 : 0 ≤ (pc : Int) + o := by rw [ht]; exact Int.natCast_nonneg t
  have h1 : ((pc : Int) + o).toNat = t := by rw [ht]; exact Int.toNat_natCast t
  by_cases hc : x ≤ 0
  · exact AW.step (fun call => by simp only [am_step, hd, am_len, am_ex, am_br]; rw [if_pos (Or.inr trivial), if_pos h0, if_pos hc, h1]; rfl) (k1 hc)
  · exact AW.step (fun call => by simp only [am_step, hd, am_len, am_ex, am_br]; rw [if_pos (Or.inr trivial), if_pos h0, if_neg hc]; rfl) (k2 (by first | exact hc | exact Classical.not_not.mp hc))
theorem as_icmp_eq {x y : Int32} {o : Int} (t : Nat) (hd : decode (am_code mi) pc = .ok (.if_icmp .eq o, 3)) (ht : (pc : Int) + o = (t : Int)) (k1 : x = y → AW X mi (t, L, st, n, h, k, j) Q) (k2 : ¬ x = y → AW X mi (pc + 3, L, st, n, h, k, j) Q) : AW X mi (pc, L, .int y :: .int x :: st, n, h, k, j) Q := by
  have h0 : 0 ≤ (pc : Int) + o := by rw [ht]; exact Int.natCast_nonneg t
  have h1 : ((pc : Int) + o).toNat = t := by rw [ht]; exact Int.toNat_natCast t
  by_cases hc : x = y
  · exact AW.step (fun call => by simp only [am_step, hd, am_len, am_ex, am_br]; rw [if_pos (Or.inr trivial), if_pos h0, if_pos hc, h1]; rfl) (k1 hc)
  · exact AW.step (fun call => by simp only [am_step, hd, am_len, am_ex, am_br]; rw [if_pos (Or.inr trivial), if_pos h0, if_neg hc]; rfl) (k2 (by first | exact hc | exact Classical.not_not.mp hc))
theorem as_icmp_ne {x y : Int32} {o : Int} (t : Nat) (hd : decode (am_code mi) pc = .ok (.if_icmp .ne o, 3)) (ht : (pc : Int) + o = (t : Int)) (k1 : ¬ x = y → AW X mi (t, L, st, n, h, k, j) Q) (k2 : x = y → AW X mi (pc + 3, L, st, n, h, k, j) Q) : AW X mi (pc, L, .int y :: .int x :: st, n, h, k, j) Q := by
  have h0 : 0 ≤ (pc : Int) + o := by rw [ht]; exact Int.natCast_nonneg t
  have h1 : ((pc : Int) + o).toNat = t := by rw [ht]; exact Int.toNat_natCast t
  by_cases hc : ¬ x = y
  · exact AW.step (fun call => by simp only [am_step, hd, am_len, am_ex, am_br]; rw [if_pos (Or.inr trivial), if_pos h0, if_pos hc, h1]; rfl) (k1 hc)
  · exact AW.step (fun call => by simp only [am_step, hd, am_len, am_ex, am_br]; rw [if_pos (Or.inr trivial), if_pos h0, if_neg hc]; rfl) (k2 (by first | exact hc | exact Classical.not_not.mp hc))
theorem as_icmp_lt {x y : Int32} {o : Int} (t : Nat) (hd : decode (am_code mi) pc = .ok (.if_icmp .lt o, 3)) (ht : (pc : Int) + o = (t : Int)) (k1 : x < y → AW X mi (t, L, st, n, h, k, j) Q) (k2 : ¬ x < y → AW X mi (pc + 3, L, st, n, h, k, j) Q) : AW X mi (pc, L, .int y :: .int x :: st, n, h, k, j) Q := by
  have h0 : 0 ≤ (pc : Int) + o := by rw [ht]; exact Int.natCast_nonneg t
  have h1 : ((pc : Int) + o).toNat = t := by rw [ht]; exact Int.toNat_natCast t
  by_cases hc : x < y
  · exact AW.step (fun call => by simp only [am_step, hd, am_len, am_ex, am_br]; rw [if_pos (Or.inr trivial), if_pos h0, if_pos hc, h1]; rfl) (k1 hc)
  · exact AW.step (fun call => by simp only [am_step, hd, am_len, am_ex, am_br]; rw [if_pos (Or.inr trivial), if_pos h0, if_neg hc]; rfl) (k2 (by first | exact hc | exact Classical.not_not.mp hc))
theorem as_icmp_ge {x y : Int32} {o : Int} (t : Nat) (hd : decode (am_code mi) pc = .ok (.if_icmp .ge o, 3)) (ht : (pc : Int) + o = (t : Int)) (k1 : y ≤ x → AW X mi (t, L, st, n, h, k, j) Q) (k2 : ¬ y ≤ x → AW X mi (pc + 3, L, st, n, h, k, j) Q) : AW X mi (pc, L, .int y :: .int x :: st, n, h, k, j) Q := by
  have h0 : 0 ≤ (pc : Int) + o := by rw [ht]; exact Int.natCast_nonneg t
  have h1 : ((pc : Int) + o).toNat = t := by rw [ht]; exact Int.toNat_natCast t
  by_cases hc : y ≤ x
  · exact AW.step (fun call => by simp only [am_step, hd, am_len, am_ex, am_br]; rw [if_pos (Or.inr trivial), if_pos h0, if_pos hc, h1]; rfl) (k1 hc)
  · exact AW.step (fun call => by simp only [am_step, hd, am_len, am_ex, am_br]; rw [if_pos (Or.inr trivial), if_pos h0, if_neg hc]; rfl) (k2 (by first | exact hc | exact Classical.not_not.mp hc))
theorem as_icmp_gt {x y : Int32} {o : Int} (t : Nat) (hd : decode (am_code mi) pc = .ok (.if_icmp .gt o, 3)) (ht : (pc : Int) + o = (t : Int)) (k1 : y < x → AW X mi (t, L, st, n, h, k, j) Q) (k2 : ¬ y < x → AW X mi (pc + 3, L, st, n, h, k, j) Q) : AW X mi (pc, L, .int y :: .int x :: st, n, h, k, j) Q := by
  have h0 : 0 ≤ (pc : Int) + o := by rw [ht]; exact Int.natCast_nonneg t
  have h1 : ((pc : Int) + o).toNat = t := by rw [ht]; exact Int.toNat_natCast t
  by_cases hc : y < x
  · exact AW.step (fun call => by simp only [am_step, hd, am_len, am_ex, am_br]; rw [if_pos (Or.inr trivial), if_pos h0, if_pos hc, h1]; rfl) (k1 hc)
  · exact AW.step (fun call => by simp only [am_step, hd, am_len, am_ex, am_br]; rw [if_pos (Or.inr trivial), if_pos h0, if_neg hc]; rfl) (k2 (by first | exact hc | exact Classical.not_not.mp hc))
theorem as_icmp_le {x y : Int32} {o : Int} (t : Nat) (hd : decode (am_code mi) pc = .ok (.if_icmp .le o, 3)) (ht : (pc : Int) + o = (t : Int)) (k1 : x ≤ y → AW X mi (t, L, st, n, h, k, j) Q) (k2 : ¬ x ≤ y → AW X mi (pc + 3, L, st, n, h, k, j) Q) : AW X mi (pc, L, .int y :: .int x :: st, n, h, k, j) Q := by
  have h0 : 0 ≤ (pc : Int) + o := by rw [ht]; exact Int.natCast_nonneg t
  have h1 : ((pc : Int) + o).toNat = t := by rw [ht]; exact Int.toNat_natCast t
  by_cases hc : x ≤ y
  · exact AW.step (fun call => by simp only [am_step, hd, am_len, am_ex, am_br]; rw [if_pos (Or.inr trivial), if_pos h0, if_pos hc, h1]; rfl) (k1 hc)
  · exact AW.step (fun call => by simp only [am_step, hd, am_len, am_ex, am_br]; rw [if_pos (Or.inr trivial), if_pos h0, if_neg hc]; rfl) (k2 (by first | exact hc | exact Classical.not_not.mp hc))
theorem as_get {q ci f a : Nat} {fs : List Value} {v : Value} (hd : decode (am_code mi) pc = .ok (.getfield q, 3)) (hf : am_find am_ftL (am_mc mi) q = some (ci, f)) (ha : a < n) (hh : h a = .inr (ci, fs)) (hv : fs[f]? = some v) (kk : AW X mi (pc + 3, L, v :: st, n, h, k, j) Q) : AW X mi (pc, L, .ref a :: st, n, h, k, j) Q := AW.step (fun call => by simp [am_step, hd, am_len, am_ex, am_go, am_get, hf, hh, ha, hv]) kk
theorem as_put {q ci f a : Nat} {fs : List Value} {v : Value} {h1 : am_H} (hd : decode (am_code mi) pc = .ok (.putfield q, 3)) (hf : am_find am_ftL (am_mc mi) q = some (ci, f)) (ha : a < n) (hh : h a = .inr (ci, fs)) (hl : f < fs.length) (hv : am_okv (am_ty ci f) v = true) (hfin : ((am_C ci).2.1 f).2.2.2 = false) (hu : am_up h a (.inr (ci, fs.set f v)) = h1) (kk : AW X mi (pc + 3, L, st, n, h1, k, j) Q) : AW X mi (pc, L, v :: .ref a :: st, n, h, k, j) Q := AW.step (fun call => by simp [am_step, hd, am_len, am_ex, am_go, am_put, hf, hh, ha, hl, hv, hfin, hu]) kk
theorem as_iald {a len : Nat} {f : Nat → Int32} {i : Int32} (hd : decode (am_code mi) pc = .ok (.iaload, 1)) (ha : a < n) (hh : h a = .inl (0, len, .inl f)) (hi : am_in i len = true) (kk : AW X mi (pc + 1, L, .int (f i.toNatClampNeg) :: st, n, h, k, j) Q) : AW X mi (pc, L, .int i :: .ref a :: st, n, h, k, j) Q := AW.step (fun call => by simp [am_step, hd, am_len, am_ex, am_go, am_aload, hh, ha, hi]) kk
theorem as_zald {a len : Nat} {f : Nat → Int32} {i : Int32} (hd : decode (am_code mi) pc = .ok (.baload, 1)) (ha : a < n) (hh : h a = .inl (2, len, .inl f)) (hi : am_in i len = true) (kk : AW X mi (pc + 1, L, .int (f i.toNatClampNeg) :: st, n, h, k, j) Q) : AW X mi (pc, L, .int i :: .ref a :: st, n, h, k, j) Q := AW.step (fun call => by simp [am_step, hd, am_len, am_ex, am_go, am_aload, hh, ha, hi]) kk
theorem as_fald {u : UInt32} {i : Int32} (hd : decode (am_code mi) pc = .ok (.iaload, 1)) (hu : u.toNat < 5) (hi : am_in i (am_sx X u.toNat).1 = true) (kk : AW X mi (pc + 1, L, .int ((am_sx X u.toNat).2 i.toNatClampNeg) :: st, n, h, k, j) Q) : AW X mi (pc, L, .int i :: .float u :: st, n, h, k, j) Q := AW.step (fun call => by simp [am_step, hd, am_len, am_ex, am_go, am_aload, hu, hi]) kk
theorem as_gets {q u b : Nat} (hd : decode (am_code mi) pc = .ok (.getstatic q, 3)) (hf : am_find am_gtL (am_mc mi) q = some (u, b)) (kk : AW X mi (pc + 3, L, .float (UInt32.ofNat u) :: st, n, h, k, j) Q) : AW X mi (pc, L, st, n, h, k, j) Q := AW.step (fun call => by simp [am_step, hd, am_len, am_ex, am_go, hf]) kk
theorem as_lald {a len : Nat} {f : Nat → Int64} {i : Int32} (hd : decode (am_code mi) pc = .ok (.laload, 1)) (ha : a < n) (hh : h a = .inl (1, len, .inr (.inl f))) (hi : am_in i len = true) (kk : AW X mi (pc + 1, L, .long (f i.toNatClampNeg) :: st, n, h, k, j) Q) : AW X mi (pc, L, .int i :: .ref a :: st, n, h, k, j) Q := AW.step (fun call => by simp [am_step, hd, am_len, am_ex, am_go, am_lald, hh, ha, hi]) kk
theorem as_aald {a t len y : Nat} {f : Nat → Option Nat} {i : Int32} (hd : decode (am_code mi) pc = .ok (.aaload, 1)) (ha : a < n) (hh : h a = .inl (t, len, .inr (.inr (.inr (.inr f))))) (ht : t = 3 ∨ t = 4) (hi : am_in i len = true) (hy : f i.toNatClampNeg = some y) (kk : AW X mi (pc + 1, L, .ref y :: st, n, h, k, j) Q) : AW X mi (pc, L, .int i :: .ref a :: st, n, h, k, j) Q := AW.step (fun call => by simp [am_step, hd, am_len, am_ex, am_go, am_aald, hh, ha, hi, ht, hy, va_rf]) kk
theorem as_iast {a len : Nat} {f : Nat → Int32} {i x : Int32} {h1 : am_H} (hd : decode (am_code mi) pc = .ok (.iastore, 1)) (ha : a < n) (hh : h a = .inl (0, len, .inl f)) (hi : am_in i len = true) (hu : am_up h a (.inl (0, len, .inl (upd f i.toNatClampNeg x))) = h1) (kk : AW X mi (pc + 1, L, st, n, h1, k, j) Q) : AW X mi (pc, L, .int x :: .int i :: .ref a :: st, n, h, k, j) Q := AW.step (fun call => by simp [am_step, hd, am_len, am_ex, am_go, am_astore, hh, ha, hi, hu]) kk
theorem as_zast {a len : Nat} {f : Nat → Int32} {i x : Int32} {h1 : am_H} (hd : decode (am_code mi) pc = .ok (.bastore, 1)) (ha : a < n) (hh : h a = .inl (2, len, .inl f)) (hi : am_in i len = true) (hu : am_up h a (.inl (2, len, .inl (upd f i.toNatClampNeg (vp_nar .boolean x)))) = h1) (kk : AW X mi (pc + 1, L, st, n, h1, k, j) Q) : AW X mi (pc, L, .int x :: .int i :: .ref a :: st, n, h, k, j) Q := AW.step (fun call => by simp [am_step, hd, am_len, am_ex, am_go, am_astore, hh, ha, hi, hu]) kk
theorem as_last {a len : Nat} {f : Nat → Int64} {i : Int32} {x : Int64} {h1 : am_H} (hd : decode (am_code mi) pc = .ok (.lastore, 1)) (ha : a < n) (hh : h a = .inl (1, len, .inr (.inl f))) (hi : am_in i len = true) (hu : am_up h a (.inl (1, len, .inr (.inl (vp_updL f i.toNatClampNeg x)))) = h1) (kk : AW X mi (pc + 1, L, st, n, h1, k, j) Q) : AW X mi (pc, L, .long x :: .int i :: .ref a :: st, n, h, k, j) Q := AW.step (fun call => by simp [am_step, hd, am_len, am_ex, am_go, am_last, hh, ha, hi, hu]) kk
theorem as_aast {a v t u len len2 : Nat} {f : Nat → Option Nat} {g : (Nat → Int32) ⊕ (Nat → Int64) ⊕ (Nat → UInt32) ⊕ (Nat → UInt64) ⊕ (Nat → Option Nat)} {i : Int32} {h1 : am_H} (hd : decode (am_code mi) pc = .ok (.aastore, 1)) (ha : a < n) (hv : v < n) (hh : h a = .inl (t, len, .inr (.inr (.inr (.inr f))))) (hh2 : h v = .inl (u, len2, g)) (ht : t = 3 ∧ u = 0 ∨ t = 4 ∧ u = 1) (hi : am_in i len = true) (hu : am_up h a (.inl (t, len, .inr (.inr (.inr (.inr (va_up f i.toNatClampNeg (some v))))))) = h1) (kk : AW X mi (pc + 1, L, st, n, h1, k, j) Q) : AW X mi (pc, L, .ref v :: .int i :: .ref a :: st, n, h, k, j) Q := AW.step (fun call => by simp [am_step, hd, am_len, am_ex, am_go, am_aast, hh, hh2, ha, hv, hi, ht, hu]) kk
theorem as_alen {a t len : Nat} {g : (Nat → Int32) ⊕ (Nat → Int64) ⊕ (Nat → UInt32) ⊕ (Nat → UInt64) ⊕ (Nat → Option Nat)} (hd : decode (am_code mi) pc = .ok (.arraylength, 1)) (ha : a < n) (hh : h a = .inl (t, len, g)) (ht : t < 5) (kk : AW X mi (pc + 1, L, .int (Int32.ofNat len) :: st, n, h, k, j) Q) : AW X mi (pc, L, .ref a :: st, n, h, k, j) Q := AW.step (fun call => by simp [am_step, hd, am_len, am_ex, am_go, am_alen, hh, ha, ht]) kk
theorem as_flen {u : UInt32} (hd : decode (am_code mi) pc = .ok (.arraylength, 1)) (hu : u.toNat < 5) (kk : AW X mi (pc + 1, L, .int (Int32.ofNat (am_sx X u.toNat).1) :: st, n, h, k, j) Q) : AW X mi (pc, L, .float u :: st, n, h, k, j) Q := AW.step (fun call => by simp [am_step, hd, am_len, am_ex, am_go, am_alen, hu]) kk
theorem as_ireturn {v : Int32} (hd : decode (am_code mi) pc = .ok (.ireturn, 1)) (hr : am_ret1 (am_ret mi) v = true) (hq : Q (some (.int v), n, h, k, j)) : AW X mi (pc, L, [.int v], n, h, k, j) Q := AW.ret (fun call => by simp [am_step, hd, am_len, am_ex, hr]) hq
theorem as_lreturn {v : Int64} (hd : decode (am_code mi) pc = .ok (.lreturn, 1)) (hr : am_ret mi = some .long) (hq : Q (some (.long v), n, h, k, j)) : AW X mi (pc, L, [.long v], n, h, k, j) Q := AW.ret (fun call => by simp [am_step, hd, am_len, am_ex, hr]) hq
theorem as_return (hd : decode (am_code mi) pc = .ok (.return_, 1)) (hr : am_ret mi = none) (hq : Q (none, n, h, k, j)) : AW X mi (pc, L, [], n, h, k, j) Q := AW.ret (fun call => by simp [am_step, hd, am_len, am_ex, hr]) hq
end AR
