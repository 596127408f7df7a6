/-! the search for the kernel: the checks of one gluing -/
def cTab : Nat := 0x120011001200100013000f0014000e00120011001200100014000f0013000e00130011001400100012000f0012000e00140011001300100012000f0012000e000b000a000b0009000c0008000d0007000b000a000b0009000d0008000c0007000c000a000d0009000b0008000b0007000d000a000c0009000b0008000b0007000400030004000200050001000600000004000300040002000600010005000000050003000600020004000100040000000600030005000200040001000400000
def cPT : Nat := 0xc6d2c9e1d8e487938db19cb44b634e726c781b271e362d39367239b178b427632de16ce41b931ed29cd84b874ec68dc91e4e2d8d6c9c1b4b39c978d8278736c6b4e4639372d2b1e11b4b278763931e4e36c672d22d8d39c9b1e16c9c78d8b4e4
def cT24 : Nat := 0x1b4b278763931e4e36c672d22d8d39c9b1e16c9c78d8b4e4
def cT6 : Nat := 0x192261624
def oA1 (s c : Nat) : Nat := Nat.land (Nat.shiftRight cTab (Nat.mul 32 (Nat.add (Nat.mul 4 s) c))) 65535
def oA2 (s c : Nat) : Nat := Nat.land (Nat.shiftRight cTab (Nat.add (Nat.mul 32 (Nat.add (Nat.mul 4 s) c)) 16)) 65535
theorem oA_ok : ∀ s, s < 12 → ∀ c, c < 4 → c ≠ s % 4 → oA1 s c = 16 * eqA1 s c ∧ oA2 s c = 16 * eqA2 s c ∧ eqA1 s c < 21 ∧ eqA2 s c < 21 := by decide +kernel
noncomputable def stepQ (s t c d : Nat) (rs : List Ray) (k : List Ray → Bool) : Bool := stepK (oA1 s c) (oA2 s c) (oA1 t d) (oA2 t d) rs k
noncomputable def prdQ (s t c d : Nat) (rs : List Ray) : Nat := prdK (oA1 s c) (oA2 s c) (oA1 t d) (oA2 t d) rs
/-- a fitting that may be -/
def okQ (s t c d : Nat) : Prop := s < 12 ∧ t < 12 ∧ c < 4 ∧ d < 4 ∧ c ≠ s % 4 ∧ d ≠ t % 4
theorem stepQ_ok {l : List QF} {s t c d : Nat} (hq : okQ s t c d) {rs : List Ray} (h : ExR (FL l) rs) {k : List Ray → Bool} (hk : stepQ s t c d rs k = true) : ∃ rs', ExR (FL ((s, t, c, d) :: l)) rs' ∧ k rs' = true := by
  obtain ⟨h1, h2, h3, h4, h5, h6⟩ := hq
  obtain ⟨a1, a2, a3, a4⟩ := oA_ok s h1 c h3 h5
  obtain ⟨b1, b2, b3, b4⟩ := oA_ok t h2 d h4 h6
  unfold stepQ at hk
  rw [a1, a2, b1, b2] at hk
  exact stepK_ok (FL_lin l) (qF_lin (s, t, c, d)) a3 a4 b3 b4 (fun v => rfl) h hk
theorem prdQ_ok {l : List QF} {s t c d : Nat} (hq : okQ s t c d) {rs : List Ray} (h : ExR (FL l) rs) : NBd (FL ((s, t, c, d) :: l)) (prdQ s t c d rs) := by
  obtain ⟨h1, h2, h3, h4, h5, h6⟩ := hq
  obtain ⟨a1, a2, a3, a4⟩ := oA_ok s h1 c h3 h5
  obtain ⟨b1, b2, b3, b4⟩ := oA_ok t h2 d h4 h6
  unfold prdQ
  rw [a1, a2, b1, b2]
  exact prdK_ok (FL_lin l) (qF_lin (s, t, c, d)) a3 a4 b3 b4 (fun v => rfl) h
theorem ExR.cong {E E' : List (Vc → Int)} (g : ∀ v, (∀ e ∈ E, e v = 0) ↔ ∀ e ∈ E', e v = 0) {rs : List Ray} (h : ExR E rs) : ExR E' rs :=
  ⟨fun r hr => ⟨(h.1 r hr).1, (h.1 r hr).2.cong g⟩, fun v hv => h.2.1 v (hv.cong (fun v => (g v).symm)), h.2.2⟩
theorem ExR.set {l l' : List QF} (g : ∀ q, q ∈ l ↔ q ∈ l') {rs : List Ray} (h : ExR (FL l) rs) : ExR (FL l') rs := h.cong (fun v => by
  rw [FL_z, FL_z]
  exact ⟨fun a q hq => a q ((g q).mpr hq), fun a q hq => a q ((g q).mp hq)⟩)
noncomputable def runC (s t m c : Nat) (rs : List Ray) (k : List Ray → Bool) : Bool := Bool.rec (motive := fun _ => Bool) (stepQ s t c (dg m c) rs k) (k rs) (Nat.beq c (Nat.mod s 4))
noncomputable def runP (s t m : Nat) (rs : List Ray) (k : List Ray → Bool) : Bool := runC s t m 0 rs (fun r => runC s t m 1 r (fun r => runC s t m 2 r (fun r => runC s t m 3 r k)))
theorem runC_ok {l : List QF} {g : PG} (hg : okG g) {c : Nat} (hc : c < 4) {rs : List Ray} (h : ExR (FL l) rs) {k : List Ray → Bool} (hk : runC g.1 g.2.1 g.2.2 c rs k = true) : ∃ rs', ExR (FL ((if c = g.1 % 4 then [] else [(g.1, g.2.1, c, dg g.2.2 c)]) ++ l)) rs' ∧ k rs' = true := by
  have hk : Bool.rec (motive := fun _ => Bool) (stepQ g.1 g.2.1 c (dg g.2.2 c) rs k) (k rs) (Nat.beq c (g.1 % 4)) = true := hk
  cases e : Nat.beq c (g.1 % 4)
  · rw [e] at hk
    have hn : c ≠ g.1 % 4 := Nat.ne_of_beq_eq_false e
    have lt := eqP_lt hg (mem_eqP.mpr ⟨c, hc, hn, rfl⟩)
    rw [if_neg hn]
    exact stepQ_ok lt h hk
  · rw [e] at hk
    rw [if_pos (Nat.eq_of_beq_eq_true e)]
    exact ⟨rs, h, hk⟩
theorem runP_ok {l : List QF} {g : PG} (hg : okG g) {rs : List Ray} (h : ExR (FL l) rs) {k : List Ray → Bool} (hk : runP g.1 g.2.1 g.2.2 rs k = true) : ∃ rs', ExR (FL (eqP g ++ l)) rs' ∧ k rs' = true := by
  obtain ⟨r1, a1, b1⟩ := runC_ok hg (by decide) h hk
  obtain ⟨r2, a2, b2⟩ := runC_ok hg (by decide) a1 b1
  obtain ⟨r3, a3, b3⟩ := runC_ok hg (by decide) a2 b2
  obtain ⟨r4, a4, b4⟩ := runC_ok hg (by decide) a3 b3
  refine ⟨r4, a4.set (fun q => ?_), b4⟩
  have one : ∀ c, q ∈ (if c = g.1 % 4 then [] else [(g.1, g.2.1, c, dg g.2.2 c)]) ↔ c ≠ g.1 % 4 ∧ q = (g.1, g.2.1, c, dg g.2.2 c) := fun c => by
    by_cases e : c = g.1 % 4
    · rw [if_pos e]; exact ⟨fun w => (by cases w), fun w => absurd e w.1⟩
    · rw [if_neg e, List.mem_singleton]; exact ⟨fun w => ⟨e, w⟩, fun w => w.2⟩
  rw [List.mem_append, List.mem_append, List.mem_append, List.mem_append, List.mem_append, one, one, one, one, mem_eqP]
  constructor
  · rintro (w | w | w | w | w)
    · exact Or.inl ⟨3, by omega, w.1, w.2⟩
    · exact Or.inl ⟨2, by omega, w.1, w.2⟩
    · exact Or.inl ⟨1, by omega, w.1, w.2⟩
    · exact Or.inl ⟨0, by omega, w.1, w.2⟩
    · exact Or.inr w
  · rintro (⟨c, hc, hn, e⟩ | w)
    · rcases (show c = 0 ∨ c = 1 ∨ c = 2 ∨ c = 3 by omega) with rfl | rfl | rfl | rfl
      · exact Or.inr (Or.inr (Or.inr (Or.inl ⟨hn, e⟩)))
      · exact Or.inr (Or.inr (Or.inl ⟨hn, e⟩))
      · exact Or.inr (Or.inl ⟨hn, e⟩)
      · exact Or.inl ⟨hn, e⟩
    · exact Or.inr (Or.inr (Or.inr (Or.inr w)))
noncomputable def runG (G : List PG) : List Ray → (List Ray → Bool) → Bool := List.rec (motive := fun _ => List Ray → (List Ray → Bool) → Bool) (fun rs k => k rs) (fun g _ ih rs k => runP g.1 g.2.1 g.2.2 rs (fun r => ih r k)) G
theorem runG_ok : ∀ {G : List PG}, (∀ g ∈ G, okG g) → ∀ {l : List QF} {rs : List Ray}, ExR (FL l) rs → ∀ {k : List Ray → Bool}, runG G rs k = true → ∃ rs', ExR (FL (EqG G ++ l)) rs' ∧ k rs' = true
  | [], _, l, rs, h, k, hk => ⟨rs, h, hk⟩
  | g :: G, hG, l, rs, h, k, hk => by
    have hk : runP g.1 g.2.1 g.2.2 rs (fun r => runG G r k) = true := hk
    obtain ⟨r1, a1, b1⟩ := runP_ok (hG g (List.mem_cons_self ..)) h hk
    obtain ⟨r2, a2, b2⟩ := runG_ok (fun x hx => hG x (List.mem_cons_of_mem _ hx)) a1 b1
    refine ⟨r2, a2.set (fun q => ?_), b2⟩
    have e : EqG (g :: G) = eqP g ++ EqG G := rfl
    rw [e]
    simp only [List.mem_append]
    constructor
    · rintro (w | w | w)
      · exact Or.inl (Or.inr w)
      · exact Or.inl (Or.inl w)
      · exact Or.inr w
    · rintro ((w | w) | w)
      · exact Or.inr (Or.inl w)
      · exact Or.inl w
      · exact Or.inr (Or.inr w)
def rs0 : List Ray := [(1, 1), (2, 65536), (4, 4294967296), (8, 281474976710656), (16, 18446744073709551616), (32, 1208925819614629174706176), (64, 79228162514264337593543950336), (128, 5192296858534827628530496329220096), (256, 340282366920938463463374607431768211456), (512, 22300745198530623141535718272648361505980416), (1024, 1461501637330902918203684832716283019655932542976), (2048, 95780971304118053647396689196894323976171195136475136), (4096, 6277101735386680763835789423207666416102355444464034512896), (8192, 411376139330301510538742295639337626245683966408394965837152256), (16384, 26959946667150639794667015087019630673637144422540572481103610249216), (32768, 1766847064778384329583297500742918515827483896875618958121606201292619776), (65536, 115792089237316195423570985008687907853269984665640564039457584007913129639936), (131072, 7588550360256754183279148073529370729071901715047420004889892225542594864082845696), (262144, 497323236409786642155382248146820840100456150797347717440463976893159497012533375533056), (524288, 32592575621351777380295131014550050576823494298654980010178247189670100796213387298934358016), (1048576, 2135987035920910082395021706169552114602704522356652769947041607822219725780640550022962086936576)]
theorem rs0_at : ∀ j, j < 21 → rs0[j]? = some (2 ^ j, 65536 ^ j) := by decide +kernel
theorem rs0_in {r : Ray} (h : r ∈ rs0) : ∃ j, j < 21 ∧ r = (2 ^ j, 65536 ^ j) := by
  obtain ⟨j, hj, e⟩ := List.getElem_of_mem h
  have hj2 : j < 21 := hj
  have := rs0_at j hj2
  rw [List.getElem?_eq_getElem hj, e] at this
  exact ⟨j, hj2, Option.some.inj this⟩
theorem dv_unit {j : Nat} (hj : j < 21) : dvN (65536 ^ j) = unitR j := by
  funext i
  unfold dvN unitR
  by_cases c : i < 21
  · rw [if_pos c]
    by_cases e : i = j
    · rw [if_pos e, e, Nat.div_self (Nat.pow_pos (by decide))]
    · rw [if_neg e]
      by_cases d : i < j
      · rw [Nat.pow_div (by omega) (by decide), show j - i = (j - i - 1) + 1 by omega, Nat.pow_succ]
        exact Nat.mul_mod_left _ _
      · rw [Nat.div_eq_of_lt (Nat.pow_lt_pow_right (by decide) (by omega))]
  · rw [if_neg c, if_neg (by omega)]
theorem rs0_ok : ExR (FL []) rs0 := by
  have x := dd_0 3
  refine ⟨fun r hr => ?_, fun v hv => ?_, by decide +kernel, by decide⟩
  · obtain ⟨j, hj, rfl⟩ := rs0_in hr
    have m := x.1 j hj
    refine ⟨⟨?_, fun k => ?_⟩, by show MinS 21 (lgP 3) [] (dvN (65536 ^ j)); rw [dv_unit hj]; exact m⟩
    · show 2 ^ j = mkV (dvN (65536 ^ j)) 21
      rw [dv_unit hj]
      apply Nat.eq_of_testBit_eq
      intro i
      rw [Nat.testBit_two_pow, mkV_bit]
      unfold unitR
      by_cases e : i = j
      · subst e; simp [hj]
      · have : ¬ j = i := fun w => e w.symm
        simp [e, this]
    · show 65536 ^ j / 65536 ^ k % 65536 < 512
      by_cases c : k < 21
      · have := congrFun (dv_unit hj) k
        unfold dvN unitR at this
        rw [if_pos c] at this
        rw [this]
        split <;> omega
      · rw [Nat.div_eq_of_lt (Nat.pow_lt_pow_right (by decide) (by omega))]
        decide
  · obtain ⟨j, hj, hs⟩ := x.2.1 v hv
    refine ⟨(2 ^ j, 65536 ^ j), List.mem_of_getElem? (rs0_at j hj), ?_⟩
    show sbv (dvN (65536 ^ j)) v
    rw [dv_unit hj]
    exact hs
