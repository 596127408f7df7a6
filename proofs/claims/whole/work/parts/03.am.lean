/-! an abstract machine: values are the machine's own, but a reference is a place in one growing row of cells, and a float stands for an array that is given (0 the script, 1 .. 4 the static rows) -/
abbrev am_E : Type := (Nat × vp_A) ⊕ (Nat × List Value)
abbrev am_H : Type := Nat → am_E
abbrev am_L : Type := List (Nat × Value)
/-- pc, locals, stack, how many cells, cells, cells made, slots made -/
abbrev am_Z : Type := Nat × am_L × List Value × Nat × am_H × Nat × Nat
/-- answer, how many cells, cells, cells made, slots made -/
abbrev am_R : Type := Option Value × Nat × am_H × Nat × Nat
abbrev am_X : Type := Nat × (Nat → Int32)
def am_up (h : am_H) (k : Nat) (e : am_E) : am_H := fun j => if j = k then e else h j
def am_find {β : Type} (l : List ((Nat × Nat) × β)) (a b : Nat) : Option β := (l.find? (fun q => q.1.1 == a && q.1.2 == b)).map (fun q => q.2)
def am_ld (L : am_L) (i : Nat) : Option Value := (L.find? (fun q => q.1 == i)).map (fun q => q.2)
def am_st1 (L : am_L) (i : Nat) (v : Value) : am_L := (i, v) :: L.filter (fun q => !(q.1 == i) && !(q.1 + 1 == i && q.2.category == 2))
def am_st2 (L : am_L) (i : Nat) (v : Value) : am_L := (i, v) :: L.filter (fun q => !(q.1 == i) && (!(q.1 == i + 1) && !(q.1 + 1 == i && q.2.category == 2)))
def am_C (ci : Nat) : vw_C := am_cl.getD ci ("", fun _ => ("", "", "", false), 0)
def am_ty (ci k : Nat) : FieldType := (parseFieldDescriptor ((am_C ci).2.1 k).2.2.1).getD .int
def am_sl : Nat → List Int32 := fun u => ([[0, 0, 0, 1, 1, 2], [1, 2, 3, 2, 3, 3], [0, 0, 1, 2, 0, 0, 3, 4, 1, 3, 0, 5, 2, 4, 5, 0], [0, 0, 1, 2, 0, 0, 2, 1, 1, 2, 0, 0, 2, 1, 0, 0]] : List (List Int32)).getD u []
def am_sx (X : am_X) (u : Nat) : am_X := if u = 0 then X else ((am_sl (u - 1)).length, fun j => (am_sl (u - 1)).getD j 0)
def am_okv : FieldType → Value → Bool
  | .int, .int _ => true
  | .long, .long _ => true
  | .boolean, .int v => v == 0 || v == 1
  | .array _, .ref _ => true
  | .object _, .ref _ => true
  | _, _ => false
def am_zero (t N : Nat) : am_E := if t = 1 then .inl (1, N, .inr (.inl (fun _ => 0))) else .inl (t, N, .inl (fun _ => 0))
def am_cat (st : List Value) : Nat := (st.map fun v => v.category).sum
abbrev am_O : Type := Option (am_Z ⊕ am_R)
def am_go (pc : Nat) (L : am_L) (st : List Value) (n : Nat) (h : am_H) (c s : Nat) : am_O := some (.inl (pc, L, st, n, h, c, s))
def am_jmp (pc : Nat) (off : Int) (L : am_L) (st : List Value) (n : Nat) (h : am_H) (c s : Nat) : am_O := if 0 ≤ (pc : Int) + off then am_go ((pc : Int) + off).toNat L st n h c s else none
/-- how long an instruction is (0: any) -/
def am_len : Instr → Nat
  | .aaload | .aastore | .aload_n _ | .arraylength | .astore_n _ | .baload | .bastore | .dup | .dup2 | .i2l | .iadd | .iaload | .iand | .iastore | .iconst _ | .idiv | .iload_n _ | .imul | .ineg | .ior | .irem | .ireturn | .ishl | .ishr | .istore_n _ | .isub | .ixor | .l2i | .ladd | .laload | .lastore | .lcmp | .lconst _ | .ldiv | .lload_n _ | .lmul | .lneg | .lrem | .lreturn | .lstore_n _ | .lsub | .pop | .return_ => 1
  | .bipush _ | .iload _ | .istore _ | .ldc _ | .lload _ | .lstore _ | .newarray _ => 2
  | .getfield _ | .getstatic _ | .goto _ | .ifCond _ _ | .if_icmp _ _ | .iinc _ _ | .invokespecial _ | .invokestatic _ | .invokevirtual _ | .ldc2_w _ | .new _ | .putfield _ | .sipush _ => 3
  | .multianewarray _ _ => 4
  | _ => 0
def am_br (o : ClassFile.Cond) (x y : Int32) (a b : am_O) : am_O := match o with
  | .eq => if x = y then a else b
  | .ne => if ¬ x = y then a else b
  | .lt => if x < y then a else b
  | .ge => if y ≤ x then a else b
  | .gt => if y < x then a else b
  | .le => if x ≤ y then a else b
/-- what a call answers -/
abbrev am_Cl : Type := Nat → List Value → Nat → am_H → Option am_R
def am_ret1 (ty : Option FieldType) (v : Int32) : Bool := match ty with
  | some .int => true
  | some .boolean => v == 0 || v == 1
  | _ => false
def am_back (pc : Nat) (L : am_L) (rest : List Value) (c s : Nat) (r : Option am_R) : am_O := match r with
  | some (v, n, h, c1, s1) => am_go pc L (v.toList ++ rest) n h (c + c1) (s + s1)
  | none => none
def am_okc (mi mj : Nat) (rest : List Value) : Bool := decide (am_cat rest ≤ 8) && decide (am_fr mj + 1 ≤ am_fr mi) && decide (8 + (am_maxL mj + 11) + am_lo mj ≤ am_lo mi)
def am_copy (h : am_H) (a0 a1 : Nat) (sp dp k : Int32) : Option am_H := match h a0, h a1 with
  | .inl (0, n0, .inl f), .inl (0, n1, .inl g) => if ¬ sp < 0 ∧ ¬ dp < 0 ∧ ¬ k < 0 ∧ sp.toNatClampNeg + k.toNatClampNeg ≤ n0 ∧ dp.toNatClampNeg + k.toNatClampNeg ≤ n1 then some (am_up h a1 (.inl (0, n1, .inl (va_cpy f g sp.toNatClampNeg dp.toNatClampNeg k.toNatClampNeg)))) else none
  | _, _ => none
def am_call (call : am_Cl) (mi q : Nat) (kd : Nat) (pc : Nat) (L : am_L) (st : List Value) (n : Nat) (h : am_H) (c s : Nat) : am_O :=
  match am_find am_ctL (am_mc mi) q with
  | none => none
  | some (k, mj) => if k ≠ kd then none else
    match k with
    | 0 => match st.drop (am_na mj) with
      | .ref b :: rest => match h b with
        | .inr (ci, _) => if b < n ∧ ci = am_mc mj ∧ (st.take (am_na mj)).length = am_na mj ∧ am_okc mi mj rest = true then am_back (pc + 3) L rest c s (call mj (.ref b :: (st.take (am_na mj)).reverse) n h) else none
        | _ => none
      | _ => none
    | 1 => if (st.take (am_na mj)).length = am_na mj ∧ am_okc mi mj (st.drop (am_na mj)) = true then am_back (pc + 3) L (st.drop (am_na mj)) c s (call mj (st.take (am_na mj)).reverse n h) else none
    | 2 => match st.drop (am_na mj) with
      | .ref b :: rest => if (st.take (am_na mj)).length = am_na mj ∧ am_ret mj = none ∧ am_okc mi mj rest = true then am_back (pc + 3) L rest c s (call mj (.ref b :: (st.take (am_na mj)).reverse) n h) else none
      | _ => none
    | 3 => if (st.take (am_na mj)).length = am_na mj ∧ am_okc mi mj (st.drop (am_na mj)) = true then am_back (pc + 3) L (st.drop (am_na mj)) c s (call mj (st.take (am_na mj)).reverse n h) else none
    | 4 => match st with
      | .ref _ :: rest => if 1 ≤ am_fr mi ∧ am_cat rest + 12 ≤ am_lo mi then am_go (pc + 3) L rest n h c s else none
      | _ => none
    | 6 => match st with
      | .int y :: .int x :: rest => if 1 ≤ am_fr mi ∧ am_cat rest + 13 ≤ am_lo mi then am_go (pc + 3) L (.int (if y < x then y else x) :: rest) n h c s else none
      | _ => none
    | 7 => match st with
      | .int y :: .int x :: rest => if 1 ≤ am_fr mi ∧ am_cat rest + 13 ≤ am_lo mi then am_go (pc + 3) L (.int (if x < y then y else x) :: rest) n h c s else none
      | _ => none
    | 8 => match st with
      | .long x :: rest => if 1 ≤ am_fr mi ∧ am_cat rest + 13 ≤ am_lo mi then am_go (pc + 3) L (.long (if 0 < x then x else -x) :: rest) n h c s else none
      | _ => none
    | 5 => match st with
      | .int k :: .int dp :: .ref a1 :: .int sp :: .ref a0 :: rest => match am_copy h a0 a1 sp dp k with
        | some h1 => if a0 < n ∧ a1 < n ∧ 1 ≤ am_fr mi ∧ am_cat rest + (nativeFrameWords "java/lang/System" "arraycopy" 5 + 11) ≤ am_lo mi then am_go (pc + 3) L rest n h1 c s else none
        | none => none
      | _ => none
    | _ => none
def am_in (i : Int32) (n : Nat) : Bool := decide (¬ (i < 0 ∨ n ≤ i.toNatClampNeg))
theorem am_in_vp {i : Int32} {n : Nat} (h : am_in i n = true) : vp_in i n := by
  show ¬ (i < 0 ∨ n ≤ i.toNatClampNeg)
  exact of_decide_eq_true h
def am_aload (X : am_X) (t : Nat) (st : List Value) (n : Nat) (h : am_H) : Option (List Value) := match st with
  | .int i :: .ref a :: rest => match h a with
    | .inl (u, len, .inl f) => if a < n ∧ u = t ∧ am_in i len = true then some (.int (f i.toNatClampNeg) :: rest) else none
    | _ => none
  | .int i :: .float u :: rest => if t = 0 ∧ u.toNat < 5 ∧ am_in i (am_sx X u.toNat).1 = true then some (.int ((am_sx X u.toNat).2 i.toNatClampNeg) :: rest) else none
  | _ => none
def am_lald (st : List Value) (n : Nat) (h : am_H) : Option (List Value) := match st with
  | .int i :: .ref a :: rest => match h a with
    | .inl (1, len, .inr (.inl f)) => if a < n ∧ am_in i len = true then some (.long (f i.toNatClampNeg) :: rest) else none
    | _ => none
  | _ => none
def am_aald (st : List Value) (n : Nat) (h : am_H) : Option (List Value) := match st with
  | .int i :: .ref a :: rest => match h a with
    | .inl (t, len, .inr (.inr (.inr (.inr f)))) => if a < n ∧ (t = 3 ∨ t = 4) ∧ am_in i len = true then some (va_rf (f i.toNatClampNeg) :: rest) else none
    | _ => none
  | _ => none
def am_astore (t : Nat) (st : List Value) (n : Nat) (h : am_H) : Option (List Value × am_H) := match st with
  | .int x :: .int i :: .ref a :: rest => match h a with
    | .inl (u, len, .inl f) => if a < n ∧ u = t ∧ am_in i len = true then some (rest, am_up h a (.inl (u, len, .inl (upd f i.toNatClampNeg (if t = 2 then vp_nar .boolean x else x))))) else none
    | _ => none
  | _ => none
def am_last (st : List Value) (n : Nat) (h : am_H) : Option (List Value × am_H) := match st with
  | .long x :: .int i :: .ref a :: rest => match h a with
    | .inl (1, len, .inr (.inl f)) => if a < n ∧ am_in i len = true then some (rest, am_up h a (.inl (1, len, .inr (.inl (vp_updL f i.toNatClampNeg x))))) else none
    | _ => none
  | _ => none
def am_aast (st : List Value) (n : Nat) (h : am_H) : Option (List Value × am_H) := match st with
  | .ref v :: .int i :: .ref a :: rest => match h a, h v with
    | .inl (t, len, .inr (.inr (.inr (.inr f)))), .inl (u, _, _) => if a < n ∧ v < n ∧ (t = 3 ∧ u = 0 ∨ t = 4 ∧ u = 1) ∧ am_in i len = true then some (rest, am_up h a (.inl (t, len, .inr (.inr (.inr (.inr (va_up f i.toNatClampNeg (some v)))))))) else none
    | _, _ => none
  | _ => none
def am_alen (X : am_X) (st : List Value) (n : Nat) (h : am_H) : Option (List Value) := match st with
  | .ref a :: rest => match h a with
    | .inl (t, len, _) => if a < n ∧ t < 5 then some (.int (Int32.ofNat len) :: rest) else none
    | _ => none
  | .float u :: rest => if u.toNat < 5 then some (.int (Int32.ofNat (am_sx X u.toNat).1) :: rest) else none
  | _ => none
def am_get (mi q : Nat) (st : List Value) (n : Nat) (h : am_H) : Option (List Value) := match am_find am_ftL (am_mc mi) q, st with
  | some (ci, k), .ref a :: rest => match h a with
    | .inr (cj, fs) => if a < n ∧ ci = cj then (fs[k]?).map (fun v => v :: rest) else none
    | _ => none
  | _, _ => none
def am_put (mi q : Nat) (st : List Value) (n : Nat) (h : am_H) : Option (List Value × am_H) := match am_find am_ftL (am_mc mi) q, st with
  | some (ci, k), v :: .ref a :: rest => match h a with
    | .inr (cj, fs) => if a < n ∧ ci = cj ∧ k < fs.length ∧ am_okv (am_ty ci k) v = true ∧ (((am_C ci).2.1 k).2.2.2 = false ∨ ((am_name mi).name = "<init>" ∧ ((am_C ci).2.1 k).1 = am_cn (am_mc mi))) then some (rest, am_up h a (.inr (cj, fs.set k v))) else none
    | _ => none
  | _, _ => none
def am_def (ci : Nat) : List Value := (List.range (am_C ci).2.2).map (fun k => defaultValue (am_ty ci k))
def am_atype : ArrayType → Option Nat
  | .int => some 0
  | .long => some 1
  | .boolean => some 2
  | _ => none
def am_grid (n : Nat) (h : am_H) (t N M : Nat) : am_H := fun j => if j = n then .inl (t, N, .inr (.inr (.inr (.inr (fun i => if i < N then some (n + 1 + i) else none))))) else if n < j ∧ j < n + 1 + N then am_zero (t - 3) M else h j
def am_ex (X : am_X) (call : am_Cl) (mi : Nat) (i : Instr) (len pc : Nat) (L : am_L) (st : List Value) (n : Nat) (h : am_H) (c s : Nat) : am_O :=
  match i with
  | .iconst v => am_go (pc + 1) L (.int (Int32.ofInt v) :: st) n h c s
  | .bipush v => am_go (pc + 2) L (.int (Int8.ofInt v).toInt32 :: st) n h c s
  | .sipush v => am_go (pc + 3) L (.int (Int16.ofInt v).toInt32 :: st) n h c s
  | .lconst v => am_go (pc + 1) L (.long (Int64.ofNat v) :: st) n h c s
  | .ldc q => match am_find am_ccL (am_mc mi) q with
    | some v => am_go (pc + 2) L (.int v :: st) n h c s
    | none => none
  | .ldc2_w q => match am_find am_clL (am_mc mi) q with
    | some v => am_go (pc + 3) L (.long v :: st) n h c s
    | none => none
  | .iload k => match am_ld L k with
    | some (.int x) => am_go (pc + 2) L (.int x :: st) n h c s
    | _ => none
  | .iload_n k => match am_ld L k with
    | some (.int x) => am_go (pc + 1) L (.int x :: st) n h c s
    | _ => none
  | .lload k => match am_ld L k with
    | some (.long x) => am_go (pc + 2) L (.long x :: st) n h c s
    | _ => none
  | .lload_n k => match am_ld L k with
    | some (.long x) => am_go (pc + 1) L (.long x :: st) n h c s
    | _ => none
  | .aload_n k => match am_ld L k with
    | some (.ref x) => am_go (pc + 1) L (.ref x :: st) n h c s
    | some (.float x) => am_go (pc + 1) L (.float x :: st) n h c s
    | _ => none
  | .istore k => match st with
    | .int x :: r => if k < am_maxL mi then am_go (pc + 2) (am_st1 L k (.int x)) r n h c s else none
    | _ => none
  | .istore_n k => match st with
    | .int x :: r => if (k : Nat) < am_maxL mi then am_go (pc + 1) (am_st1 L k (.int x)) r n h c s else none
    | _ => none
  | .lstore k => match st with
    | .long x :: r => if k + 1 < am_maxL mi then am_go (pc + 2) (am_st2 L k (.long x)) r n h c s else none
    | _ => none
  | .lstore_n k => match st with
    | .long x :: r => if (k : Nat) + 1 < am_maxL mi then am_go (pc + 1) (am_st2 L k (.long x)) r n h c s else none
    | _ => none
  | .astore_n k => match st with
    | .ref x :: r => if (k : Nat) < am_maxL mi then am_go (pc + 1) (am_st1 L k (.ref x)) r n h c s else none
    | _ => none
  | .iinc k v => match am_ld L k with
    | some (.int x) => if k < am_maxL mi then am_go (pc + 3) (am_st1 L k (.int (x + Int32.ofInt v))) st n h c s else none
    | _ => none
  | .iadd => match st with
    | .int y :: .int x :: r => am_go (pc + 1) L (.int (x + y) :: r) n h c s
    | _ => none
  | .isub => match st with
    | .int y :: .int x :: r => am_go (pc + 1) L (.int (x - y) :: r) n h c s
    | _ => none
  | .imul => match st with
    | .int y :: .int x :: r => am_go (pc + 1) L (.int (x * y) :: r) n h c s
    | _ => none
  | .iand => match st with
    | .int y :: .int x :: r => am_go (pc + 1) L (.int (x &&& y) :: r) n h c s
    | _ => none
  | .ior => match st with
    | .int y :: .int x :: r => am_go (pc + 1) L (.int (x ||| y) :: r) n h c s
    | _ => none
  | .ixor => match st with
    | .int y :: .int x :: r => am_go (pc + 1) L (.int (x ^^^ y) :: r) n h c s
    | _ => none
  | .idiv => match st with
    | .int y :: .int x :: r => if ¬ y = 0 then am_go (pc + 1) L (.int (x / y) :: r) n h c s else none
    | _ => none
  | .irem => match st with
    | .int y :: .int x :: r => if ¬ y = 0 then am_go (pc + 1) L (.int (x - x / y * y) :: r) n h c s else none
    | _ => none
  | .ishl => match st with
    | .int y :: .int x :: r => am_go (pc + 1) L (.int (x <<< (y &&& 31)) :: r) n h c s
    | _ => none
  | .ishr => match st with
    | .int y :: .int x :: r => am_go (pc + 1) L (.int (x >>> (y &&& 31)) :: r) n h c s
    | _ => none
  | .ineg => match st with
    | .int x :: r => am_go (pc + 1) L (.int (-x) :: r) n h c s
    | _ => none
  | .ladd => match st with
    | .long y :: .long x :: r => am_go (pc + 1) L (.long (x + y) :: r) n h c s
    | _ => none
  | .lsub => match st with
    | .long y :: .long x :: r => am_go (pc + 1) L (.long (x - y) :: r) n h c s
    | _ => none
  | .lmul => match st with
    | .long y :: .long x :: r => am_go (pc + 1) L (.long (x * y) :: r) n h c s
    | _ => none
  | .ldiv => match st with
    | .long y :: .long x :: r => if ¬ y = 0 then am_go (pc + 1) L (.long (x / y) :: r) n h c s else none
    | _ => none
  | .lrem => match st with
    | .long y :: .long x :: r => if ¬ y = 0 then am_go (pc + 1) L (.long (x - x / y * y) :: r) n h c s else none
    | _ => none
  | .lneg => match st with
    | .long x :: r => am_go (pc + 1) L (.long (-x) :: r) n h c s
    | _ => none
  | .lcmp => match st with
    | .long y :: .long x :: r => am_go (pc + 1) L (.int (lg_cmp x y) :: r) n h c s
    | _ => none
  | .i2l => match st with
    | .int x :: r => am_go (pc + 1) L (.long x.toInt64 :: r) n h c s
    | _ => none
  | .l2i => match st with
    | .long x :: r => am_go (pc + 1) L (.int x.toInt32 :: r) n h c s
    | _ => none
  | .dup => match st with
    | v :: r => if v.category = 1 then am_go (pc + 1) L (v :: v :: r) n h c s else none
    | _ => none
  | .pop => match st with
    | v :: r => if v.category = 1 then am_go (pc + 1) L r n h c s else none
    | _ => none
  | .dup2 => match st with
    | v :: w :: r => if v.category = 1 ∧ w.category = 1 then am_go (pc + 1) L (v :: w :: v :: w :: r) n h c s else none
    | _ => none
  | .goto o => am_jmp pc o L st n h c s
  | .ifCond o d => match st with
    | .int x :: r => if 0 ≤ (pc : Int) + d then am_br o x 0 (am_go ((pc : Int) + d).toNat L r n h c s) (am_go (pc + 3) L r n h c s) else none
    | _ => none
  | .if_icmp o d => match st with
    | .int y :: .int x :: r => if 0 ≤ (pc : Int) + d then am_br o x y (am_go ((pc : Int) + d).toNat L r n h c s) (am_go (pc + 3) L r n h c s) else none
    | _ => none
  | .tableswitch d lo hi offs => match st with
    | .int x :: r => if x.toInt < lo ∨ hi < x.toInt then am_jmp pc d L r n h c s else match offs[(x.toInt - lo).toNat]? with
      | some o => am_jmp pc o L r n h c s
      | none => none
    | _ => none
  | .lookupswitch d ps => match st with
    | .int x :: r => if (ps.toList.zip (ps.toList.drop 1)).all (fun (a, next) => a.1 < next.1) = true then am_jmp pc (Op.lookupswitch.offset ps.toList d x.toInt) L r n h c s else none
    | _ => none
  | .getfield q => match am_get mi q st n h with
    | some st1 => am_go (pc + 3) L st1 n h c s
    | none => none
  | .putfield q => match am_put mi q st n h with
    | some (st1, h1) => am_go (pc + 3) L st1 n h1 c s
    | none => none
  | .getstatic q => match am_find am_gtL (am_mc mi) q with
    | some (u, _) => am_go (pc + 3) L (.float (UInt32.ofNat u) :: st) n h c s
    | none => none
  | .iaload => match am_aload X 0 st n h with
    | some st1 => am_go (pc + 1) L st1 n h c s
    | none => none
  | .baload => match am_aload X 2 st n h with
    | some st1 => am_go (pc + 1) L st1 n h c s
    | none => none
  | .laload => match am_lald st n h with
    | some st1 => am_go (pc + 1) L st1 n h c s
    | none => none
  | .aaload => match am_aald st n h with
    | some st1 => am_go (pc + 1) L st1 n h c s
    | none => none
  | .iastore => match am_astore 0 st n h with
    | some (st1, h1) => am_go (pc + 1) L st1 n h1 c s
    | none => none
  | .bastore => match am_astore 2 st n h with
    | some (st1, h1) => am_go (pc + 1) L st1 n h1 c s
    | none => none
  | .lastore => match am_last st n h with
    | some (st1, h1) => am_go (pc + 1) L st1 n h1 c s
    | none => none
  | .aastore => match am_aast st n h with
    | some (st1, h1) => am_go (pc + 1) L st1 n h1 c s
    | none => none
  | .arraylength => match am_alen X st n h with
    | some st1 => am_go (pc + 1) L st1 n h c s
    | none => none
  | .new q => match am_find am_nwL (am_mc mi) q with
    | some ci => if ci < 8 then am_go (pc + 3) L (.ref n :: st) (n + 1) (am_up h n (.inr (ci, am_def ci))) (c + 1) (s + (am_C ci).2.2) else none
    | none => none
  | .newarray a => match am_atype a, st with
    | some t, .int k :: r => if ¬ k < 0 ∧ k.toNatClampNeg ≤ 1000000 then am_go (pc + 2) L (.ref n :: r) (n + 1) (am_up h n (am_zero t k.toNatClampNeg)) (c + 1) (s + k.toNatClampNeg) else none
    | _, _ => none
  | .multianewarray q d => match am_find am_mwL (am_mc mi) q, st with
    | some t, .int k :: .int j :: r => if d = 2 ∧ (t = 3 ∨ t = 4) ∧ ¬ j < 0 ∧ ¬ k < 0 ∧ j.toNatClampNeg ≤ 1000000 ∧ k.toNatClampNeg ≤ 1000000 then am_go (pc + 4) L (.ref n :: r) (n + 1 + j.toNatClampNeg) (am_grid n h t j.toNatClampNeg k.toNatClampNeg) (c + 1 + j.toNatClampNeg) (s + j.toNatClampNeg + j.toNatClampNeg * k.toNatClampNeg) else none
    | _, _ => none
  | .invokevirtual q => am_call call mi q 0 pc L st n h c s
  | .invokestatic q => match am_find am_ctL (am_mc mi) q with
    | some (k, _) => if k = 1 ∨ k = 3 ∨ k = 5 ∨ k = 6 ∨ k = 7 ∨ k = 8 then am_call call mi q k pc L st n h c s else none
    | none => none
  | .invokespecial q => match am_find am_ctL (am_mc mi) q with
    | some (k, _) => if k = 2 ∨ k = 4 then am_call call mi q k pc L st n h c s else none
    | none => none
  | .ireturn => match st with
    | [.int v] => if am_ret1 (am_ret mi) v = true then some (.inr (some (.int v), n, h, c, s)) else none
    | _ => none
  | .lreturn => match st with
    | [.long v] => if am_ret mi = some .long then some (.inr (some (.long v), n, h, c, s)) else none
    | _ => none
  | .return_ => match st with
    | [] => if am_ret mi = none then some (.inr (none, n, h, c, s)) else none
    | _ => none
  | _ => none
def am_step (X : am_X) (call : am_Cl) (mi : Nat) : am_Z → am_O
  | (pc, L, st, n, h, c, s) => match decode (am_code mi) pc with
    | .ok (i, len) => if am_len i = 0 ∨ len = am_len i then am_ex X call mi i len pc L st n h c s else none
    | .error _ => none
def am_iter (X : am_X) (call : am_Cl) (mi : Nat) : Nat → am_Z → Option am_R
  | 0, _ => none
  | N + 1, z => match am_step X call mi z with
    | some (.inl z1) => am_iter X call mi N z1
    | some (.inr r) => some r
    | none => none
def am_run (X : am_X) (N : Nat) : Nat → am_Cl
  | 0 => fun _ _ _ _ => none
  | d + 1 => fun mi as n h => if (lg_sl as).length ≤ am_maxL mi then am_iter X (am_run X N d) mi N (0, lv_args 0 as, [], n, h, 0, 0) else none
