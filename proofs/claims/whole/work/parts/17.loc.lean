/-! fewer locals go on alike -/
section AWS
variable {X : am_X} {mi : Nat} {pc : Nat} {L L' : am_L} {st : List Value} {n : Nat} {h : am_H} {k j : Nat} {call : am_Cl} {len : Nat}
/-- the same outcome, but for more locals -/
def am_as (o' o : am_O) : Prop := match o' with
  | some (.inl z) => ∃ L1, o = some (.inl (z.1, L1, z.2.2)) ∧ am_sub z.2.1 L1
  | some (.inr r) => o = some (.inr r)
  | none => True
theorem am_as_go (hs : am_sub L' L) : am_as (am_go pc L' st n h k j) (am_go pc L st n h k j) := ⟨L, rfl, hs⟩
theorem am_as_go2 {L1 L2 : am_L} (hs : am_sub L1 L2) : am_as (am_go pc L1 st n h k j) (am_go pc L2 st n h k j) := ⟨L2, rfl, hs⟩
theorem am_as_jmp {o : Int} (hs : am_sub L' L) : am_as (am_jmp pc o L' st n h k j) (am_jmp pc o L st n h k j) := by
  unfold am_jmp
  split
  · exact am_as_go hs
  · trivial
theorem am_as_none {o : am_O} : am_as none o := trivial
theorem am_as_br {c : ClassFile.Cond} {x y : Int32} {a b a' b' : am_O} (h1 : am_as a' a) (h2 : am_as b' b) : am_as (am_br c x y a' b') (am_br c x y a b) := by
  unfold am_br
  cases c <;> dsimp only <;> split <;> assumption
theorem am_as_back {rest : List Value} {r : Option am_R} (hs : am_sub L' L) : am_as (am_back pc L' rest k j r) (am_back pc L rest k j r) := by
  unfold am_back
  split
  · exact am_as_go hs
  · trivial
theorem am_as_call {q kd : Nat} (hs : am_sub L' L) : am_as (am_call call mi q kd pc L' st n h k j) (am_call call mi q kd pc L st n h k j) := by
  unfold am_call
  split
  · trivial
  · split
    · trivial
    · split
      · split
        · split
          · split
            · exact am_as_back hs
            · trivial
          · trivial
        · trivial
      · split
        · exact am_as_back hs
        · trivial
      · split
        · split
          · exact am_as_back hs
          · trivial
        · trivial
      · split
        · exact am_as_back hs
        · trivial
      · split
        · split
          · exact am_as_go hs
          · trivial
        · trivial
      · split
        · split
          · exact am_as_go hs
          · trivial
        · trivial
      · split
        · split
          · exact am_as_go hs
          · trivial
        · trivial
      · split
        · split
          · exact am_as_go hs
          · trivial
        · trivial
      · split
        · split
          · split
            · exact am_as_go hs
            · trivial
          · trivial
        · trivial
      · trivial
theorem am_as_ex (hs : am_sub L' L) (i : Instr) : am_as (am_ex X call mi i len pc L' st n h k j) (am_ex X call mi i len pc L st n h k j) := by
  cases i with
  | iconst a0 =>
    dsimp only [am_ex]
    first | exact am_as_go hs | exact am_as_jmp hs | (split <;> first | exact am_as_go hs | exact am_as_jmp hs | exact am_as_none | (split <;> first | exact am_as_go hs | exact am_as_jmp hs | exact am_as_none | exact am_as_br (am_as_go hs) (am_as_go hs) | (split <;> first | exact am_as_go hs | exact am_as_jmp hs | exact am_as_none)))
  | bipush a0 =>
    dsimp only [am_ex]
    first | exact am_as_go hs | exact am_as_jmp hs | (split <;> first | exact am_as_go hs | exact am_as_jmp hs | exact am_as_none | (split <;> first | exact am_as_go hs | exact am_as_jmp hs | exact am_as_none | exact am_as_br (am_as_go hs) (am_as_go hs) | (split <;> first | exact am_as_go hs | exact am_as_jmp hs | exact am_as_none)))
  | sipush a0 =>
    dsimp only [am_ex]
    first | exact am_as_go hs | exact am_as_jmp hs | (split <;> first | exact am_as_go hs | exact am_as_jmp hs | exact am_as_none | (split <;> first | exact am_as_go hs | exact am_as_jmp hs | exact am_as_none | exact am_as_br (am_as_go hs) (am_as_go hs) | (split <;> first | exact am_as_go hs | exact am_as_jmp hs | exact am_as_none)))
  | lconst a0 =>
    dsimp only [am_ex]
    first | exact am_as_go hs | exact am_as_jmp hs | (split <;> first | exact am_as_go hs | exact am_as_jmp hs | exact am_as_none | (split <;> first | exact am_as_go hs | exact am_as_jmp hs | exact am_as_none | exact am_as_br (am_as_go hs) (am_as_go hs) | (split <;> first | exact am_as_go hs | exact am_as_jmp hs | exact am_as_none)))
  | ldc a0 =>
    dsimp only [am_ex]
    first | exact am_as_go hs | exact am_as_jmp hs | (split <;> first | exact am_as_go hs | exact am_as_jmp hs | exact am_as_none | (split <;> first | exact am_as_go hs | exact am_as_jmp hs | exact am_as_none | exact am_as_br (am_as_go hs) (am_as_go hs) | (split <;> first | exact am_as_go hs | exact am_as_jmp hs | exact am_as_none)))
  | ldc2_w a0 =>
    dsimp only [am_ex]
    first | exact am_as_go hs | exact am_as_jmp hs | (split <;> first | exact am_as_go hs | exact am_as_jmp hs | exact am_as_none | (split <;> first | exact am_as_go hs | exact am_as_jmp hs | exact am_as_none | exact am_as_br (am_as_go hs) (am_as_go hs) | (split <;> first | exact am_as_go hs | exact am_as_jmp hs | exact am_as_none)))
  | iadd =>
    dsimp only [am_ex]
    first | exact am_as_go hs | exact am_as_jmp hs | (split <;> first | exact am_as_go hs | exact am_as_jmp hs | exact am_as_none | (split <;> first | exact am_as_go hs | exact am_as_jmp hs | exact am_as_none | exact am_as_br (am_as_go hs) (am_as_go hs) | (split <;> first | exact am_as_go hs | exact am_as_jmp hs | exact am_as_none)))
  | isub =>
    dsimp only [am_ex]
    first | exact am_as_go hs | exact am_as_jmp hs | (split <;> first | exact am_as_go hs | exact am_as_jmp hs | exact am_as_none | (split <;> first | exact am_as_go hs | exact am_as_jmp hs | exact am_as_none | exact am_as_br (am_as_go hs) (am_as_go hs) | (split <;> first | exact am_as_go hs | exact am_as_jmp hs | exact am_as_none)))
  | imul =>
    dsimp only [am_ex]
    first | exact am_as_go hs | exact am_as_jmp hs | (split <;> first | exact am_as_go hs | exact am_as_jmp hs | exact am_as_none | (split <;> first | exact am_as_go hs | exact am_as_jmp hs | exact am_as_none | exact am_as_br (am_as_go hs) (am_as_go hs) | (split <;> first | exact am_as_go hs | exact am_as_jmp hs | exact am_as_none)))
  | iand =>
    dsimp only [am_ex]
    first | exact am_as_go hs | exact am_as_jmp hs | (split <;> first | exact am_as_go hs | exact am_as_jmp hs | exact am_as_none | (split <;> first | exact am_as_go hs | exact am_as_jmp hs | exact am_as_none | exact am_as_br (am_as_go hs) (am_as_go hs) | (split <;> first | exact am_as_go hs | exact am_as_jmp hs | exact am_as_none)))
  | ior =>
    dsimp only [am_ex]
    first | exact am_as_go hs | exact am_as_jmp hs | (split <;> first | exact am_as_go hs | exact am_as_jmp hs | exact am_as_none | (split <;> first | exact am_as_go hs | exact am_as_jmp hs | exact am_as_none | exact am_as_br (am_as_go hs) (am_as_go hs) | (split <;> first | exact am_as_go hs | exact am_as_jmp hs | exact am_as_none)))
  | ixor =>
    dsimp only [am_ex]
    first | exact am_as_go hs | exact am_as_jmp hs | (split <;> first | exact am_as_go hs | exact am_as_jmp hs | exact am_as_none | (split <;> first | exact am_as_go hs | exact am_as_jmp hs | exact am_as_none | exact am_as_br (am_as_go hs) (am_as_go hs) | (split <;> first | exact am_as_go hs | exact am_as_jmp hs | exact am_as_none)))
  | ishl =>
    dsimp only [am_ex]
    first | exact am_as_go hs | exact am_as_jmp hs | (split <;> first | exact am_as_go hs | exact am_as_jmp hs | exact am_as_none | (split <;> first | exact am_as_go hs | exact am_as_jmp hs | exact am_as_none | exact am_as_br (am_as_go hs) (am_as_go hs) | (split <;> first | exact am_as_go hs | exact am_as_jmp hs | exact am_as_none)))
  | ishr =>
    dsimp only [am_ex]
    first | exact am_as_go hs | exact am_as_jmp hs | (split <;> first | exact am_as_go hs | exact am_as_jmp hs | exact am_as_none | (split <;> first | exact am_as_go hs | exact am_as_jmp hs | exact am_as_none | exact am_as_br (am_as_go hs) (am_as_go hs) | (split <;> first | exact am_as_go hs | exact am_as_jmp hs | exact am_as_none)))
  | ineg =>
    dsimp only [am_ex]
    first | exact am_as_go hs | exact am_as_jmp hs | (split <;> first | exact am_as_go hs | exact am_as_jmp hs | exact am_as_none | (split <;> first | exact am_as_go hs | exact am_as_jmp hs | exact am_as_none | exact am_as_br (am_as_go hs) (am_as_go hs) | (split <;> first | exact am_as_go hs | exact am_as_jmp hs | exact am_as_none)))
  | ladd =>
    dsimp only [am_ex]
    first | exact am_as_go hs | exact am_as_jmp hs | (split <;> first | exact am_as_go hs | exact am_as_jmp hs | exact am_as_none | (split <;> first | exact am_as_go hs | exact am_as_jmp hs | exact am_as_none | exact am_as_br (am_as_go hs) (am_as_go hs) | (split <;> first | exact am_as_go hs | exact am_as_jmp hs | exact am_as_none)))
  | lsub =>
    dsimp only [am_ex]
    first | exact am_as_go hs | exact am_as_jmp hs | (split <;> first | exact am_as_go hs | exact am_as_jmp hs | exact am_as_none | (split <;> first | exact am_as_go hs | exact am_as_jmp hs | exact am_as_none | exact am_as_br (am_as_go hs) (am_as_go hs) | (split <;> first | exact am_as_go hs | exact am_as_jmp hs | exact am_as_none)))
  | lmul =>
    dsimp only [am_ex]
    first | exact am_as_go hs | exact am_as_jmp hs | (split <;> first | exact am_as_go hs | exact am_as_jmp hs | exact am_as_none | (split <;> first | exact am_as_go hs | exact am_as_jmp hs | exact am_as_none | exact am_as_br (am_as_go hs) (am_as_go hs) | (split <;> first | exact am_as_go hs | exact am_as_jmp hs | exact am_as_none)))
  | lneg =>
    dsimp only [am_ex]
    first | exact am_as_go hs | exact am_as_jmp hs | (split <;> first | exact am_as_go hs | exact am_as_jmp hs | exact am_as_none | (split <;> first | exact am_as_go hs | exact am_as_jmp hs | exact am_as_none | exact am_as_br (am_as_go hs) (am_as_go hs) | (split <;> first | exact am_as_go hs | exact am_as_jmp hs | exact am_as_none)))
  | idiv =>
    dsimp only [am_ex]
    first | exact am_as_go hs | exact am_as_jmp hs | (split <;> first | exact am_as_go hs | exact am_as_jmp hs | exact am_as_none | (split <;> first | exact am_as_go hs | exact am_as_jmp hs | exact am_as_none | exact am_as_br (am_as_go hs) (am_as_go hs) | (split <;> first | exact am_as_go hs | exact am_as_jmp hs | exact am_as_none)))
  | irem =>
    dsimp only [am_ex]
    first | exact am_as_go hs | exact am_as_jmp hs | (split <;> first | exact am_as_go hs | exact am_as_jmp hs | exact am_as_none | (split <;> first | exact am_as_go hs | exact am_as_jmp hs | exact am_as_none | exact am_as_br (am_as_go hs) (am_as_go hs) | (split <;> first | exact am_as_go hs | exact am_as_jmp hs | exact am_as_none)))
  | ldiv =>
    dsimp only [am_ex]
    first | exact am_as_go hs | exact am_as_jmp hs | (split <;> first | exact am_as_go hs | exact am_as_jmp hs | exact am_as_none | (split <;> first | exact am_as_go hs | exact am_as_jmp hs | exact am_as_none | exact am_as_br (am_as_go hs) (am_as_go hs) | (split <;> first | exact am_as_go hs | exact am_as_jmp hs | exact am_as_none)))
  | lrem =>
    dsimp only [am_ex]
    first | exact am_as_go hs | exact am_as_jmp hs | (split <;> first | exact am_as_go hs | exact am_as_jmp hs | exact am_as_none | (split <;> first | exact am_as_go hs | exact am_as_jmp hs | exact am_as_none | exact am_as_br (am_as_go hs) (am_as_go hs) | (split <;> first | exact am_as_go hs | exact am_as_jmp hs | exact am_as_none)))
  | lcmp =>
    dsimp only [am_ex]
    first | exact am_as_go hs | exact am_as_jmp hs | (split <;> first | exact am_as_go hs | exact am_as_jmp hs | exact am_as_none | (split <;> first | exact am_as_go hs | exact am_as_jmp hs | exact am_as_none | exact am_as_br (am_as_go hs) (am_as_go hs) | (split <;> first | exact am_as_go hs | exact am_as_jmp hs | exact am_as_none)))
  | i2l =>
    dsimp only [am_ex]
    first | exact am_as_go hs | exact am_as_jmp hs | (split <;> first | exact am_as_go hs | exact am_as_jmp hs | exact am_as_none | (split <;> first | exact am_as_go hs | exact am_as_jmp hs | exact am_as_none | exact am_as_br (am_as_go hs) (am_as_go hs) | (split <;> first | exact am_as_go hs | exact am_as_jmp hs | exact am_as_none)))
  | l2i =>
    dsimp only [am_ex]
    first | exact am_as_go hs | exact am_as_jmp hs | (split <;> first | exact am_as_go hs | exact am_as_jmp hs | exact am_as_none | (split <;> first | exact am_as_go hs | exact am_as_jmp hs | exact am_as_none | exact am_as_br (am_as_go hs) (am_as_go hs) | (split <;> first | exact am_as_go hs | exact am_as_jmp hs | exact am_as_none)))
  | dup =>
    dsimp only [am_ex]
    first | exact am_as_go hs | exact am_as_jmp hs | (split <;> first | exact am_as_go hs | exact am_as_jmp hs | exact am_as_none | (split <;> first | exact am_as_go hs | exact am_as_jmp hs | exact am_as_none | exact am_as_br (am_as_go hs) (am_as_go hs) | (split <;> first | exact am_as_go hs | exact am_as_jmp hs | exact am_as_none)))
  | pop =>
    dsimp only [am_ex]
    first | exact am_as_go hs | exact am_as_jmp hs | (split <;> first | exact am_as_go hs | exact am_as_jmp hs | exact am_as_none | (split <;> first | exact am_as_go hs | exact am_as_jmp hs | exact am_as_none | exact am_as_br (am_as_go hs) (am_as_go hs) | (split <;> first | exact am_as_go hs | exact am_as_jmp hs | exact am_as_none)))
  | dup2 =>
    dsimp only [am_ex]
    first | exact am_as_go hs | exact am_as_jmp hs | (split <;> first | exact am_as_go hs | exact am_as_jmp hs | exact am_as_none | (split <;> first | exact am_as_go hs | exact am_as_jmp hs | exact am_as_none | exact am_as_br (am_as_go hs) (am_as_go hs) | (split <;> first | exact am_as_go hs | exact am_as_jmp hs | exact am_as_none)))
  | goto a0 =>
    dsimp only [am_ex]
    first | exact am_as_go hs | exact am_as_jmp hs | (split <;> first | exact am_as_go hs | exact am_as_jmp hs | exact am_as_none | (split <;> first | exact am_as_go hs | exact am_as_jmp hs | exact am_as_none | exact am_as_br (am_as_go hs) (am_as_go hs) | (split <;> first | exact am_as_go hs | exact am_as_jmp hs | exact am_as_none)))
  | ifCond a0 a1 =>
    dsimp only [am_ex]
    first | exact am_as_go hs | exact am_as_jmp hs | (split <;> first | exact am_as_go hs | exact am_as_jmp hs | exact am_as_none | (split <;> first | exact am_as_go hs | exact am_as_jmp hs | exact am_as_none | exact am_as_br (am_as_go hs) (am_as_go hs) | (split <;> first | exact am_as_go hs | exact am_as_jmp hs | exact am_as_none)))
  | if_icmp a0 a1 =>
    dsimp only [am_ex]
    first | exact am_as_go hs | exact am_as_jmp hs | (split <;> first | exact am_as_go hs | exact am_as_jmp hs | exact am_as_none | (split <;> first | exact am_as_go hs | exact am_as_jmp hs | exact am_as_none | exact am_as_br (am_as_go hs) (am_as_go hs) | (split <;> first | exact am_as_go hs | exact am_as_jmp hs | exact am_as_none)))
  | getfield a0 =>
    dsimp only [am_ex]
    first | exact am_as_go hs | exact am_as_jmp hs | (split <;> first | exact am_as_go hs | exact am_as_jmp hs | exact am_as_none | (split <;> first | exact am_as_go hs | exact am_as_jmp hs | exact am_as_none | exact am_as_br (am_as_go hs) (am_as_go hs) | (split <;> first | exact am_as_go hs | exact am_as_jmp hs | exact am_as_none)))
  | putfield a0 =>
    dsimp only [am_ex]
    first | exact am_as_go hs | exact am_as_jmp hs | (split <;> first | exact am_as_go hs | exact am_as_jmp hs | exact am_as_none | (split <;> first | exact am_as_go hs | exact am_as_jmp hs | exact am_as_none | exact am_as_br (am_as_go hs) (am_as_go hs) | (split <;> first | exact am_as_go hs | exact am_as_jmp hs | exact am_as_none)))
  | getstatic a0 =>
    dsimp only [am_ex]
    first | exact am_as_go hs | exact am_as_jmp hs | (split <;> first | exact am_as_go hs | exact am_as_jmp hs | exact am_as_none | (split <;> first | exact am_as_go hs | exact am_as_jmp hs | exact am_as_none | exact am_as_br (am_as_go hs) (am_as_go hs) | (split <;> first | exact am_as_go hs | exact am_as_jmp hs | exact am_as_none)))
  | iaload =>
    dsimp only [am_ex]
    first | exact am_as_go hs | exact am_as_jmp hs | (split <;> first | exact am_as_go hs | exact am_as_jmp hs | exact am_as_none | (split <;> first | exact am_as_go hs | exact am_as_jmp hs | exact am_as_none | exact am_as_br (am_as_go hs) (am_as_go hs) | (split <;> first | exact am_as_go hs | exact am_as_jmp hs | exact am_as_none)))
  | baload =>
    dsimp only [am_ex]
    first | exact am_as_go hs | exact am_as_jmp hs | (split <;> first | exact am_as_go hs | exact am_as_jmp hs | exact am_as_none | (split <;> first | exact am_as_go hs | exact am_as_jmp hs | exact am_as_none | exact am_as_br (am_as_go hs) (am_as_go hs) | (split <;> first | exact am_as_go hs | exact am_as_jmp hs | exact am_as_none)))
  | laload =>
    dsimp only [am_ex]
    first | exact am_as_go hs | exact am_as_jmp hs | (split <;> first | exact am_as_go hs | exact am_as_jmp hs | exact am_as_none | (split <;> first | exact am_as_go hs | exact am_as_jmp hs | exact am_as_none | exact am_as_br (am_as_go hs) (am_as_go hs) | (split <;> first | exact am_as_go hs | exact am_as_jmp hs | exact am_as_none)))
  | aaload =>
    dsimp only [am_ex]
    first | exact am_as_go hs | exact am_as_jmp hs | (split <;> first | exact am_as_go hs | exact am_as_jmp hs | exact am_as_none | (split <;> first | exact am_as_go hs | exact am_as_jmp hs | exact am_as_none | exact am_as_br (am_as_go hs) (am_as_go hs) | (split <;> first | exact am_as_go hs | exact am_as_jmp hs | exact am_as_none)))
  | arraylength =>
    dsimp only [am_ex]
    first | exact am_as_go hs | exact am_as_jmp hs | (split <;> first | exact am_as_go hs | exact am_as_jmp hs | exact am_as_none | (split <;> first | exact am_as_go hs | exact am_as_jmp hs | exact am_as_none | exact am_as_br (am_as_go hs) (am_as_go hs) | (split <;> first | exact am_as_go hs | exact am_as_jmp hs | exact am_as_none)))
  | iastore =>
    dsimp only [am_ex]
    first | exact am_as_go hs | exact am_as_jmp hs | (split <;> first | exact am_as_go hs | exact am_as_jmp hs | exact am_as_none | (split <;> first | exact am_as_go hs | exact am_as_jmp hs | exact am_as_none | exact am_as_br (am_as_go hs) (am_as_go hs) | (split <;> first | exact am_as_go hs | exact am_as_jmp hs | exact am_as_none)))
  | bastore =>
    dsimp only [am_ex]
    first | exact am_as_go hs | exact am_as_jmp hs | (split <;> first | exact am_as_go hs | exact am_as_jmp hs | exact am_as_none | (split <;> first | exact am_as_go hs | exact am_as_jmp hs | exact am_as_none | exact am_as_br (am_as_go hs) (am_as_go hs) | (split <;> first | exact am_as_go hs | exact am_as_jmp hs | exact am_as_none)))
  | lastore =>
    dsimp only [am_ex]
    first | exact am_as_go hs | exact am_as_jmp hs | (split <;> first | exact am_as_go hs | exact am_as_jmp hs | exact am_as_none | (split <;> first | exact am_as_go hs | exact am_as_jmp hs | exact am_as_none | exact am_as_br (am_as_go hs) (am_as_go hs) | (split <;> first | exact am_as_go hs | exact am_as_jmp hs | exact am_as_none)))
  | aastore =>
    dsimp only [am_ex]
    first | exact am_as_go hs | exact am_as_jmp hs | (split <;> first | exact am_as_go hs | exact am_as_jmp hs | exact am_as_none | (split <;> first | exact am_as_go hs | exact am_as_jmp hs | exact am_as_none | exact am_as_br (am_as_go hs) (am_as_go hs) | (split <;> first | exact am_as_go hs | exact am_as_jmp hs | exact am_as_none)))
  | tableswitch a0 a1 a2 a3 =>
    dsimp only [am_ex]
    first | exact am_as_go hs | exact am_as_jmp hs | (split <;> first | exact am_as_go hs | exact am_as_jmp hs | exact am_as_none | (split <;> first | exact am_as_go hs | exact am_as_jmp hs | exact am_as_none | exact am_as_br (am_as_go hs) (am_as_go hs) | (split <;> first | exact am_as_go hs | exact am_as_jmp hs | exact am_as_none)))
  | lookupswitch a0 a1 =>
    dsimp only [am_ex]
    first | exact am_as_go hs | exact am_as_jmp hs | (split <;> first | exact am_as_go hs | exact am_as_jmp hs | exact am_as_none | (split <;> first | exact am_as_go hs | exact am_as_jmp hs | exact am_as_none | exact am_as_br (am_as_go hs) (am_as_go hs) | (split <;> first | exact am_as_go hs | exact am_as_jmp hs | exact am_as_none)))
  | new a0 =>
    dsimp only [am_ex]
    first | exact am_as_go hs | exact am_as_jmp hs | (split <;> first | exact am_as_go hs | exact am_as_jmp hs | exact am_as_none | (split <;> first | exact am_as_go hs | exact am_as_jmp hs | exact am_as_none | exact am_as_br (am_as_go hs) (am_as_go hs) | (split <;> first | exact am_as_go hs | exact am_as_jmp hs | exact am_as_none)))
  | newarray a0 =>
    dsimp only [am_ex]
    first | exact am_as_go hs | exact am_as_jmp hs | (split <;> first | exact am_as_go hs | exact am_as_jmp hs | exact am_as_none | (split <;> first | exact am_as_go hs | exact am_as_jmp hs | exact am_as_none | exact am_as_br (am_as_go hs) (am_as_go hs) | (split <;> first | exact am_as_go hs | exact am_as_jmp hs | exact am_as_none)))
  | multianewarray a0 a1 =>
    dsimp only [am_ex]
    first | exact am_as_go hs | exact am_as_jmp hs | (split <;> first | exact am_as_go hs | exact am_as_jmp hs | exact am_as_none | (split <;> first | exact am_as_go hs | exact am_as_jmp hs | exact am_as_none | exact am_as_br (am_as_go hs) (am_as_go hs) | (split <;> first | exact am_as_go hs | exact am_as_jmp hs | exact am_as_none)))
  | iload a0 =>
    dsimp only [am_ex]
    cases hl : am_ld L' a0 with
    | none => exact am_as_none
    | some v =>
      rw [am_sub_ld hs hl]
      cases v <;> first | exact am_as_go hs | exact am_as_none
  | iload_n a0 =>
    dsimp only [am_ex]
    cases hl : am_ld L' a0 with
    | none => exact am_as_none
    | some v =>
      rw [am_sub_ld hs hl]
      cases v <;> first | exact am_as_go hs | exact am_as_none
  | lload a0 =>
    dsimp only [am_ex]
    cases hl : am_ld L' a0 with
    | none => exact am_as_none
    | some v =>
      rw [am_sub_ld hs hl]
      cases v <;> first | exact am_as_go hs | exact am_as_none
  | lload_n a0 =>
    dsimp only [am_ex]
    cases hl : am_ld L' a0 with
    | none => exact am_as_none
    | some v =>
      rw [am_sub_ld hs hl]
      cases v <;> first | exact am_as_go hs | exact am_as_none
  | aload_n a0 =>
    dsimp only [am_ex]
    cases hl : am_ld L' a0 with
    | none => exact am_as_none
    | some v =>
      rw [am_sub_ld hs hl]
      cases v <;> first | exact am_as_go hs | exact am_as_none
  | istore a0 =>
    dsimp only [am_ex]
    split
    · split
      · exact am_as_go2 (am_sub_st1 hs _ _)
      · exact am_as_none
    · exact am_as_none
  | istore_n a0 =>
    dsimp only [am_ex]
    split
    · split
      · exact am_as_go2 (am_sub_st1 hs _ _)
      · exact am_as_none
    · exact am_as_none
  | lstore a0 =>
    dsimp only [am_ex]
    split
    · split
      · exact am_as_go2 (am_sub_st2 hs _ _)
      · exact am_as_none
    · exact am_as_none
  | lstore_n a0 =>
    dsimp only [am_ex]
    split
    · split
      · exact am_as_go2 (am_sub_st2 hs _ _)
      · exact am_as_none
    · exact am_as_none
  | astore_n a0 =>
    dsimp only [am_ex]
    split
    · split
      · exact am_as_go2 (am_sub_st1 hs _ _)
      · exact am_as_none
    · exact am_as_none
  | iinc a0 a1 =>
    dsimp only [am_ex]
    cases hl : am_ld L' a0 with
    | none => exact am_as_none
    | some v =>
      rw [am_sub_ld hs hl]
      cases v with
      | int x =>
        dsimp only
        split
        · exact am_as_go2 (am_sub_st1 hs _ _)
        · exact am_as_none
      | _ => exact am_as_none
  | invokevirtual a0 =>
    dsimp only [am_ex]
    exact am_as_call hs
  | invokestatic a0 =>
    dsimp only [am_ex]
    split
    · split
      · exact am_as_call hs
      · exact am_as_none
    · exact am_as_none
  | invokespecial a0 =>
    dsimp only [am_ex]
    split
    · split
      · exact am_as_call hs
      · exact am_as_none
    · exact am_as_none
  | ireturn =>
    dsimp only [am_ex]
    split
    · split
      · exact rfl
      · exact am_as_none
    · exact am_as_none
  | lreturn =>
    dsimp only [am_ex]
    split
    · split
      · exact rfl
      · exact am_as_none
    · exact am_as_none
  | return_ =>
    dsimp only [am_ex]
    split
    · split
      · exact rfl
      · exact am_as_none
    · exact am_as_none
  | _ => exact am_as_none
theorem am_as_step (hs : am_sub L' L) : am_as (am_step X call mi (pc, L', st, n, h, k, j)) (am_step X call mi (pc, L, st, n, h, k, j)) := by
  unfold am_step
  dsimp only
  split
  · split
    · exact am_as_ex hs _
    · exact am_as_none
  · exact am_as_none
theorem am_as_iter : ∀ (N : Nat) (pc : Nat) (L' L : am_L) (st : List Value) (n : Nat) (h : am_H) (k j : Nat) (r : am_R), am_sub L' L → am_iter X call mi N (pc, L', st, n, h, k, j) = some r → am_iter X call mi N (pc, L, st, n, h, k, j) = some r
  | 0, _, _, _, _, _, _, _, _, _, _, hx => by cases hx
  | N + 1, pc, L', L, st, n, h, k, j, r, hs, hx => by
    unfold am_iter at hx ⊢
    have ha := am_as_step (X := X) (mi := mi) (pc := pc) (st := st) (n := n) (h := h) (k := k) (j := j) (call := call) hs
    split at hx
    · rename_i z1 hz
      rw [hz] at ha
      obtain ⟨L1, e1, hs1⟩ := ha
      rw [e1]
      obtain ⟨pc1, L1', st1, n1, h1, k1, j1⟩ := z1
      exact am_as_iter N pc1 L1' L1 st1 n1 h1 k1 j1 r hs1 hx
    · rename_i r1 hz
      rw [hz] at ha
      have ha : am_step X call mi (pc, L, st, n, h, k, j) = some (.inr r1) := ha
      rw [ha]
      exact hx
    · cases hx
theorem AW.loc {Q : am_R → Prop} (L' : am_L) (hs : am_sub L' L) (w : AW X mi (pc, L', st, n, h, k, j) Q) : AW X mi (pc, L, st, n, h, k, j) Q := by
  obtain ⟨N, r, h1, h2⟩ := w
  exact ⟨N, r, am_as_iter N pc L' L st n h k j r hs h1, h2⟩
/-- a list of locals whose places rise in no matter what order, each told once -/
theorem am_nd_of {L : am_L} (h : (L.map (fun q => q.1)).Nodup) : am_nd L := by
  induction L with
  | nil => exact fun q hq => absurd hq List.not_mem_nil
  | cons a L ih =>
    rw [List.map_cons, List.nodup_cons] at h
    intro q hq q' hq' he
    rcases List.mem_cons.mp hq with e1 | h1
    · rcases List.mem_cons.mp hq' with e2 | h2
      · rw [e1, e2]
      · exact absurd (show a.1 ∈ L.map (fun q => q.1) from List.mem_map.mpr ⟨q', h2, by rw [← he, e1]⟩) h.1
    · rcases List.mem_cons.mp hq' with e2 | h2
      · exact absurd (show a.1 ∈ L.map (fun q => q.1) from List.mem_map.mpr ⟨q, h1, by rw [he, e2]⟩) h.1
      · exact ih h.2 q h1 q' h2 he
theorem am_sub_pick {L L' : am_L} (ks : List Nat) (hn : (L.map (fun q => q.1)).Nodup) (hp : ks.filterMap (fun k => L[k]?) = L') : am_sub L' L := by
  refine ⟨am_nd_of hn, fun q hq => ?_⟩
  rw [← hp] at hq
  obtain ⟨k, -, hk⟩ := List.mem_filterMap.mp hq
  exact List.mem_of_getElem? hk
end AWS
