/-! the search for the kernel: lists of gluings, level by level -/
def dcd (x : Nat) : PG := (Nat.land x 15, Nat.land (Nat.shiftRight x 4) 15, Nat.shiftRight x 8)
def cod (s t m : Nat) : Nat := Nat.add (Nat.add s (Nat.mul 16 t)) (Nat.mul 256 m)
theorem dcd_cod {s t m : Nat} (hs : s < 16) (ht : t < 16) : dcd (cod s t m) = (s, t, m) := by
  show ((s + 16 * t + 256 * m) &&& 15, ((s + 16 * t + 256 * m) >>> 4) &&& 15, (s + 16 * t + 256 * m) >>> 8) = _
  rw [show (15 : Nat) = 2 ^ 4 - 1 from rfl, Nat.and_two_pow_sub_one_eq_mod, Nat.and_two_pow_sub_one_eq_mod, Nat.shiftRight_eq_div_pow, Nat.shiftRight_eq_div_pow]
  refine Prod.ext ?_ (Prod.ext ?_ ?_)
  · show (s + 16 * t + 256 * m) % 16 = s; omega
  · show (s + 16 * t + 256 * m) / 16 % 16 = t; omega
  · show (s + 16 * t + 256 * m) / 256 = m; omega
noncomputable def decG (n : Nat) : Nat → List PG := Nat.rec (motive := fun _ => Nat → List PG) (fun _ => []) (fun _ ih X => dcd (Nat.land X 65535) :: ih (Nat.shiftRight X 16)) n
noncomputable def mmr (m0 m1 m2 p : Nat) : Nat := Nat.rec (motive := fun _ => Nat) m0 (fun p' _ => Nat.rec (motive := fun _ => Nat) m1 (fun _ _ => m2) p') p
theorem mmr_eq (m0 m1 m2 : Nat) : ∀ p, mmr m0 m1 m2 p = mmf m0 m1 m2 p
  | 0 => rfl
  | 1 => rfl
  | n + 2 => by
    unfold mmf
    rw [if_neg (by omega), if_neg (by omega)]
    rfl
noncomputable def sgR (PP a s : Nat) : Nat := Nat.add (Nat.mul 4 (dg PP (Nat.div s 4))) (dg a (Nat.mod s 4))
noncomputable def actR (PP m0 m1 m2 : Nat) (g : PG) : Nat := (fun a b => (fun s t n => Bool.rec (motive := fun _ => Nat) (cod t s (reix n a)) (cod s t (reix a n)) (Nat.ble (Nat.succ s) t)) (sgR PP a g.1) (sgR PP b g.2.1) (comp b g.2.2)) (mmr m0 m1 m2 (Nat.div g.1 4)) (mmr m0 m1 m2 (Nat.div g.2.1 4))
theorem actR_eq (PP m0 m1 m2 : Nat) (g : PG) : actR PP m0 m1 m2 g = cod (actG PP m0 m1 m2 g).1 (actG PP m0 m1 m2 g).2.1 (actG PP m0 m1 m2 g).2.2 := by
  have e1 : sgR PP (mmr m0 m1 m2 (g.1 / 4)) g.1 = sgS PP m0 m1 m2 g.1 := by
    unfold sgS
    rw [mmr_eq]
    rfl
  have e2 : sgR PP (mmr m0 m1 m2 (g.2.1 / 4)) g.2.1 = sgS PP m0 m1 m2 g.2.1 := by
    unfold sgS
    rw [mmr_eq]
    rfl
  show Bool.rec (motive := fun _ => Nat) (cod (sgR PP (mmr m0 m1 m2 (g.2.1 / 4)) g.2.1) (sgR PP (mmr m0 m1 m2 (g.1 / 4)) g.1) (reix (comp (mmr m0 m1 m2 (g.2.1 / 4)) g.2.2) (mmr m0 m1 m2 (g.1 / 4)))) (cod (sgR PP (mmr m0 m1 m2 (g.1 / 4)) g.1) (sgR PP (mmr m0 m1 m2 (g.2.1 / 4)) g.2.1) (reix (mmr m0 m1 m2 (g.1 / 4)) (comp (mmr m0 m1 m2 (g.2.1 / 4)) g.2.2))) (Nat.ble (Nat.succ (sgR PP (mmr m0 m1 m2 (g.1 / 4)) g.1)) (sgR PP (mmr m0 m1 m2 (g.2.1 / 4)) g.2.1)) = _
  rw [e1, e2, mmr_eq, mmr_eq]
  unfold actG
  cases c : Nat.ble (Nat.succ (sgS PP m0 m1 m2 g.1)) (sgS PP m0 m1 m2 g.2.1)
  · have : ¬ sgS PP m0 m1 m2 g.1 < sgS PP m0 m1 m2 g.2.1 := fun w => by
      rw [Nat.ble_eq_true_of_le w] at c
      cases c
    rw [if_neg this]
  · rw [if_pos (show sgS PP m0 m1 m2 g.1 < sgS PP m0 m1 m2 g.2.1 from Nat.le_of_ble_eq_true c)]
noncomputable def mpR (PP m0 m1 m2 : Nat) (C : List PG) : List Nat := List.rec (motive := fun _ => List Nat) [] (fun g _ ih => actR PP m0 m1 m2 g :: ih) C
theorem mpR_in {PP m0 m1 m2 x : Nat} : ∀ {C : List PG}, x ∈ mpR PP m0 m1 m2 C → ∃ g ∈ C, x = actR PP m0 m1 m2 g
  | [], h => by cases h
  | g :: C, h => by
    have h : x ∈ actR PP m0 m1 m2 g :: mpR PP m0 m1 m2 C := h
    rcases List.mem_cons.mp h with e | e
    · exact ⟨g, List.mem_cons_self .., e⟩
    · obtain ⟨y, y1, y2⟩ := mpR_in e
      exact ⟨y, List.mem_cons_of_mem _ y1, y2⟩
noncomputable def isin (x : Nat) (l : List Nat) : Bool := List.rec (motive := fun _ => Bool) false (fun y _ ih => orK (Nat.beq y x) ih) l
theorem isin_ok {x : Nat} : ∀ {l : List Nat}, isin x l = true → x ∈ l
  | [], h => by cases h
  | y :: l, h => by
    rcases orK_t h with e | e
    · rw [Nat.eq_of_beq_eq_true e]; exact List.mem_cons_self ..
    · exact List.mem_cons_of_mem _ (isin_ok e)
noncomputable def memA (n : Nat) (l : List Nat) : Nat → Bool := Nat.rec (motive := fun _ => Nat → Bool) (fun _ => true) (fun _ ih X => andK (isin (Nat.land X 65535) l) (ih (Nat.shiftRight X 16))) n
theorem memA_ok {l : List Nat} : ∀ {n X : Nat}, memA n l X = true → ∀ g ∈ decG n X, ∃ x ∈ l, g = dcd x
  | 0, X, _, g, hg => by cases hg
  | n + 1, X, h, g, hg => by
    obtain ⟨h1, h2⟩ := andK_t h
    have hg : g ∈ dcd (Nat.land X 65535) :: decG n (Nat.shiftRight X 16) := hg
    rcases List.mem_cons.mp hg with e | e
    · exact ⟨_, isin_ok h1, e⟩
    · exact memA_ok h2 g e
def rpA (T B i : Nat) : Nat := Nat.land (Nat.shiftRight T (Nat.mul B i)) (Nat.sub (Nat.pow 2 B) 1)
def p24 (k : Nat) : Nat := Nat.land (Nat.shiftRight cT24 (Nat.mul 8 k)) 255
def p6 (k : Nat) : Nat := Nat.land (Nat.shiftRight cT6 (Nat.mul 6 k)) 63
theorem p24_in : ∀ k, k < 24 → p24 k ∈ pms := by decide +kernel
theorem p6_in : ∀ k, k < 6 → p6 k ∈ pp6 := by decide +kernel
noncomputable def witW (n1 T1 K1 : Nat) (G : List PG) (s t m w : Nat) : Bool := (fun j q => andK (Nat.ble (Nat.succ j) K1) (memA n1 (mpR (p6 (Nat.mod (Nat.div q 13824) 6)) (p24 (Nat.mod (Nat.div q 576) 24)) (p24 (Nat.mod (Nat.div q 24) 24)) (p24 (Nat.mod q 24)) ((s, t, m) :: G)) (rpA T1 (Nat.mul 16 n1) j))) (Nat.div w 82944) (Nat.mod w 82944)
/-- all of a table -/
def GoodT (n T K : Nat) : Prop := ∀ j, j < K → Good (decG n (rpA T (16 * n) j))
theorem witW_ok {n1 T1 K1 : Nat} (hT : GoodT n1 T1 K1) {G : List PG} {s t m w : Nat} (hV : Vld ((s, t, m) :: G)) (h : witW n1 T1 K1 G s t m w = true) : Good ((s, t, m) :: G) := by
  obtain ⟨h1, h2⟩ := andK_t h
  have hj : w / 82944 < K1 := Nat.le_of_ble_eq_true h1
  have g := hT _ hj
  have a0 := p6_in (Nat.mod (Nat.div (Nat.mod w 82944) 13824) 6) (Nat.mod_lt _ (by decide))
  have a1 := p24_in (Nat.mod (Nat.div (Nat.mod w 82944) 576) 24) (Nat.mod_lt _ (by decide))
  have a2 := p24_in (Nat.mod (Nat.div (Nat.mod w 82944) 24) 24) (Nat.mod_lt _ (by decide))
  have a3 := p24_in (Nat.mod (Nat.mod w 82944) 24) (Nat.mod_lt _ (by decide))
  refine Good.sym a0 a1 a2 a3 (g.sub (fun x hx => ?_))
  obtain ⟨y, y1, y2⟩ := memA_ok h2 x hx
  obtain ⟨z, z1, z2⟩ := mpR_in y1
  have ok := act_ok a0 a1 a2 a3 (hV.1 z z1)
  rw [actR_eq] at z2
  rw [y2, z2, dcd_cod (by have := ok.1; have := ok.2.1; omega) (by have := ok.2.1; omega)]
  exact List.mem_map_of_mem z1
theorem vld_cons {G : List PG} (h : Vld G) {g : PG} (hg : Addb G g) : Vld (g :: G) := by
  refine ⟨fun x hx => ?_, ?_⟩
  · rcases List.mem_cons.mp hx with rfl | hx
    · exact hg.1
    · exact h.1 x hx
  · show (g.1 :: g.2.1 :: sds G).Nodup
    refine List.nodup_cons.mpr ⟨fun w => ?_, List.nodup_cons.mpr ⟨hg.2.2, h.2⟩⟩
    rcases List.mem_cons.mp w with z | z
    · have := hg.1.1; omega
    · exact hg.2.1 z
/-- the steps on the way, from the checks -/
theorem good_of {G : List PG} (hV : Vld G) {rs : List Ray} (h : ExR (FL (EqG G)) rs) {wit : Nat → Nat → Nat → Nat → Bool} {W : Nat} (hk : extK (usK G) (fun s t => e1A s t rs) wit ps66 W = true) (hw : ∀ g w, Addb G g → wit g.1 g.2.1 g.2.2 w = true → Good (g :: G)) : Good G := by
  have key : ∀ g, Addb G g → e1A g.1 g.2.1 rs = true ∧ ∃ w, wit g.1 g.2.1 g.2.2 w = true := fun g hg => by
    obtain ⟨k1, k2⟩ := extK_ok hk (g.1, g.2.1) (ps66_ok g.2.1 hg.1.2.1 g.1 hg.1.1) (frK_iff.mpr hg.2.1) (frK_iff.mpr hg.2.2)
    exact ⟨k1, k2 g.2.2 hg.1.2.2.1 hg.1.2.2.2⟩
  have gd : ∀ g, Addb G g → Good (g :: G) := fun g hg => by
    obtain ⟨w, hw2⟩ := (key g hg).2
    exact hw g w hg hw2
  refine Good.step (h.nb.mono h.2.2.2) (fun g hg e he => ?_) (fun g hg e he e' he' => ?_) (fun g hg => ?_) gd
  · have lt := eqP_lt hg.1 he
    obtain ⟨c, hc, hn, rfl⟩ := mem_eqP.mp he
    exact (e1K_ok lt h (e1A_ok h (key g hg).1 lt)).1
  · have lt := eqP_lt hg.1 he
    have lt' := eqP_lt hg.1 he'
    obtain ⟨c, hc, hn, rfl⟩ := mem_eqP.mp he
    obtain ⟨c', hc', hn', rfl⟩ := mem_eqP.mp he'
    have k := e1K_ok lt h (e1A_ok h (key g hg).1 lt)
    by_cases e : c' = c
    · subst e
      exact k.1.set (fun q => by simp)
    · exact k.2 c' _ lt' e (fun w => e ((pms_ok _ hg.1.2.2.1 c' hc').2 c hc w))
  · exact (gd g hg _ (vld_cons hV hg) (fun x hx => hx)).1
noncomputable def chkL (n T n1 T1 K1 i W : Nat) : Bool := (fun G => andK (vlK G) (runG G rs0 (fun rs => orK (prnK rs) (extK (usK G) (fun s t => e1A s t rs) (witW n1 T1 K1 G) ps66 W)))) (decG n (rpA T (Nat.mul 16 n) i))
theorem chkL_ok {n T n1 T1 K1 i W : Nat} (hT : GoodT n1 T1 K1) (h : chkL n T n1 T1 K1 i W = true) : Good (decG n (rpA T (16 * n) i)) := by
  obtain ⟨h1, h2⟩ := andK_t h
  have hV := vlK_ok h1
  obtain ⟨rs, a, b⟩ := runG_ok hV.1 rs0_ok h2
  rw [List.append_nil] at a
  rcases orK_t b with w | w
  · exact prnK_ok a w
  · exact good_of hV a w (fun g w hg hk => witW_ok hT (vld_cons hV hg) hk)
noncomputable def chkC (n T n1 T1 K1 : Nat) (ws : List Nat) : Nat → Bool := List.rec (motive := fun _ => Nat → Bool) (fun _ => true) (fun W _ ih i => andK (chkL n T n1 T1 K1 i W) (ih (Nat.succ i))) ws
theorem chkC_ok {n T n1 T1 K1 : Nat} (hT : GoodT n1 T1 K1) : ∀ {ws : List Nat} {i : Nat}, chkC n T n1 T1 K1 ws i = true → ∀ j, i ≤ j → j < i + ws.length → Good (decG n (rpA T (16 * n) j))
  | [], i, _, j, h1, h2 => by
    have : ([] : List Nat).length = 0 := rfl
    omega
  | W :: ws, i, h, j, h1, h2 => by
    obtain ⟨a, b⟩ := andK_t h
    have hl : (W :: ws).length = ws.length + 1 := rfl
    by_cases e : j = i
    · rw [e]; exact chkL_ok hT a
    · exact chkC_ok hT b j (by show i + 1 ≤ j; omega) (by show j < i + 1 + ws.length; omega)
/-- all sides glued: nothing more comes -/
theorem good6 {G : List PG} (hf : ∀ x, x < 12 → x ∈ sds G) (h : NBd (FL (EqG G)) 64) : Good G := by
  have no : ∀ g, ¬ Addb G g := fun g hg => hg.2.2 (hf _ hg.1.2.1)
  exact Good.step h (fun g hg => absurd hg (no g)) (fun g hg => absurd hg (no g)) (fun g hg => absurd hg (no g)) (fun g hg => absurd hg (no g))
noncomputable def wit5 (used : Nat) (rs : List Ray) (s t m _w : Nat) : Bool := andK (Nat.beq (Nat.lor (Nat.lor (Nat.pow 2 s) (Nat.pow 2 t)) used) 4095) (runP s t m rs (fun _ => true))
noncomputable def kid5 (T5 X4 : Nat) (G : List PG) (rs4 : List Ray) (cs : List Nat) : Nat → Bool := List.rec (motive := fun _ => Nat → Bool) (fun _ => true) (fun g _ ih j => andK (Nat.beq (rpA T5 80 j) (Nat.add g (Nat.mul 65536 X4))) (andK (vlK (dcd g :: G)) (andK (runP (dcd g).1 (dcd g).2.1 (dcd g).2.2 rs4 (fun rs => orK (prnK rs) (extK (usK (dcd g :: G)) (fun s t => e1A s t rs) (wit5 (usK (dcd g :: G)) rs) ps66 0))) (andK (Nat.ble (Nat.succ g) 65536) (ih (Nat.succ j)))))) cs
noncomputable def chk5 (T4 T5 i j : Nat) (cs : List Nat) : Bool := (fun X4 => (fun G => andK (vlK G) (runG G rs0 (fun rs4 => kid5 T5 X4 G rs4 cs j))) (decG 4 X4)) (rpA T4 64 i)
theorem kid5_ok {T5 X4 : Nat} {rs4 : List Ray} (h4 : ExR (FL (EqG (decG 4 X4))) rs4) : ∀ {cs : List Nat} {j : Nat}, kid5 T5 X4 (decG 4 X4) rs4 cs j = true → ∀ k, j ≤ k → k < j + cs.length → Good (decG 5 (rpA T5 (16 * 5) k))
  | [], j, _, k, h1, h2 => by
    have : ([] : List Nat).length = 0 := rfl
    omega
  | g :: cs, j, h, k, h1, h2 => by
    obtain ⟨a, h⟩ := andK_t h
    obtain ⟨b, h⟩ := andK_t h
    obtain ⟨c, h⟩ := andK_t h
    obtain ⟨d, h⟩ := andK_t h
    have hl : (g :: cs).length = cs.length + 1 := rfl
    by_cases e : k = j
    · subst e
      have ea : rpA T5 (16 * 5) k = g + 65536 * X4 := Nat.eq_of_beq_eq_true a
      have hg : g < 65536 := Nat.le_of_ble_eq_true d
      have ed : decG 5 (rpA T5 (16 * 5) k) = dcd g :: decG 4 X4 := by
        rw [ea]
        show dcd ((g + 65536 * X4) &&& 65535) :: decG 4 ((g + 65536 * X4) >>> 16) = _
        rw [show (65535 : Nat) = 2 ^ 16 - 1 from rfl, Nat.and_two_pow_sub_one_eq_mod, Nat.shiftRight_eq_div_pow, show (2 : Nat) ^ 16 = 65536 from rfl, Nat.add_mul_mod_self_left, Nat.mod_eq_of_lt hg, Nat.add_mul_div_left _ _ (by decide), Nat.div_eq_of_lt hg, Nat.zero_add]
      rw [ed]
      have hV := vlK_ok b
      obtain ⟨rs, x, y⟩ := runP_ok (hV.1 _ (List.mem_cons_self ..)) h4 c
      have x : ExR (FL (EqG (dcd g :: decG 4 X4))) rs := x
      rcases orK_t y with w | w
      · exact prnK_ok x w
      · refine good_of hV x w (fun q w hq hk => ?_)
        obtain ⟨k1, k2⟩ := andK_t hk
        obtain ⟨rs6, z, -⟩ := runP_ok hq.1 x k2
        refine good6 (fun v hv => ?_) (z.nb.mono z.2.2.2)
        have e1 : usK (q :: dcd g :: decG 4 X4) = 4095 := Nat.eq_of_beq_eq_true k1
        rw [← usK_bit, e1]
        have : ∀ v, v < 12 → (4095 : Nat).testBit v = true := by decide
        exact this v hv
    · exact kid5_ok h4 h k (by show j + 1 ≤ k; omega) (by show k < j + 1 + cs.length; omega)
theorem chk5_ok {T4 T5 i j : Nat} {cs : List Nat} (h : chk5 T4 T5 i j cs = true) : ∀ k, j ≤ k → k < j + cs.length → Good (decG 5 (rpA T5 (16 * 5) k)) := by
  obtain ⟨h1, h2⟩ := andK_t h
  obtain ⟨rs, a, b⟩ := runG_ok (vlK_ok h1).1 rs0_ok h2
  rw [List.append_nil] at a
  exact kid5_ok a b
/-! the search for the kernel: many parents at once -/
noncomputable def chk5C (T4 T5 : Nat) (ps : List (Nat × List Nat)) : Nat → Bool := List.rec (motive := fun _ => Nat → Bool) (fun _ => true) (fun p _ ih j => andK (chk5 T4 T5 p.1 j p.2) (ih (Nat.add j (lenN p.2)))) ps
def totL : List (Nat × List Nat) → Nat
  | [] => 0
  | p :: ps => p.2.length + totL ps
theorem chk5C_ok {T4 T5 : Nat} : ∀ {ps : List (Nat × List Nat)} {j : Nat}, chk5C T4 T5 ps j = true → ∀ k, j ≤ k → k < j + totL ps → Good (decG 5 (rpA T5 (16 * 5) k))
  | [], j, _, k, h1, h2 => by
    have : totL [] = 0 := rfl
    omega
  | p :: ps, j, h, k, h1, h2 => by
    obtain ⟨a, b⟩ := andK_t h
    have hl : totL (p :: ps) = p.2.length + totL ps := rfl
    by_cases e : k < j + p.2.length
    · exact chk5_ok a k h1 e
    · have b : chk5C T4 T5 ps (j + lenN p.2) = true := b
      rw [lenN_eq] at b
      exact chk5C_ok b k (by omega) (by omega)
