/-! holes: the checks of one gluing for the kernel -/
def feM (M s : Nat) : Nat := Nat.land (Nat.shiftRight M (Nat.mul 16 s)) 65535
noncomputable def mtK (G : List PG) : Nat := List.rec (motive := fun _ => Nat) 0 (fun g _ ih => Nat.lor (Nat.lor (Nat.shiftLeft (Nat.add g.2.1 (Nat.mul 16 g.2.2)) (Nat.mul 16 g.1)) (Nat.shiftLeft (Nat.add g.1 (Nat.mul 16 (reix g.2.2 228))) (Nat.mul 16 g.2.1))) ih) G
theorem feM_or (a b s : Nat) : feM (a ||| b) s = feM a s ||| feM b s := by
  show ((a ||| b) >>> (16 * s)) &&& 65535 = ((a >>> (16 * s)) &&& 65535) ||| ((b >>> (16 * s)) &&& 65535)
  rw [Nat.shiftRight_or_distrib, Nat.and_or_distrib_right]
theorem feM_sh {v : Nat} (hv : v < 65536) (j s : Nat) : feM (v <<< (16 * j)) s = if s = j then v else 0 := by
  show ((v <<< (16 * j)) >>> (16 * s)) &&& 65535 = _
  rw [show (65535 : Nat) = 2 ^ 16 - 1 from rfl, Nat.and_two_pow_sub_one_eq_mod, Nat.shiftLeft_eq, Nat.shiftRight_eq_div_pow]
  by_cases c : s = j
  · rw [if_pos c, c, Nat.mul_div_cancel _ (Nat.two_pow_pos _)]
    exact Nat.mod_eq_of_lt hv
  · rw [if_neg c]
    by_cases d : s < j
    · rw [show 16 * j = 16 * (j - s - 1) + 16 + 16 * s by omega, Nat.pow_add, Nat.pow_add, ← Nat.mul_assoc, Nat.mul_div_cancel _ (Nat.two_pow_pos _), ← Nat.mul_assoc]
      exact Nat.mul_mod_left _ _
    · rw [show 16 * s = 16 * j + 16 * (s - j) by omega, Nat.pow_add, ← Nat.div_div_eq_div_mul, Nat.mul_div_cancel _ (Nat.two_pow_pos _)]
      have : v / 2 ^ (16 * (s - j)) = 0 := Nat.div_eq_of_lt (Nat.lt_of_lt_of_le hv (by
        rw [show (65536 : Nat) = 2 ^ 16 from rfl]
        exact Nat.pow_le_pow_right (by decide) (by omega)))
      rw [this]
theorem id_in : 228 ∈ pms := by decide
theorem pms_256 : ∀ m ∈ pms, m < 256 := by decide
theorem mtK_at : ∀ {G : List PG}, Vld G → (∀ g ∈ G, feM (mtK G) g.1 = g.2.1 + 16 * g.2.2 ∧ feM (mtK G) g.2.1 = g.1 + 16 * reix g.2.2 228) ∧ ∀ s, s ∉ sds G → feM (mtK G) s = 0
  | [], _ => ⟨fun g hg => (by cases hg), fun s _ => by
    show (0 >>> (16 * s)) &&& 65535 = 0
    rw [Nat.zero_shiftRight]
    rfl⟩
  | g :: G, h => by
    have hn : (g.1 :: g.2.1 :: sds G).Nodup := h.2
    obtain ⟨n1, n2⟩ := List.nodup_cons.mp hn
    obtain ⟨n2, n3⟩ := List.nodup_cons.mp n2
    obtain ⟨i1, i2⟩ := mtK_at (G := G) ⟨fun x hx => h.1 x (List.mem_cons_of_mem _ hx), n3⟩
    obtain ⟨o1, o2, o3, o4⟩ := h.1 g (List.mem_cons_self ..)
    have b1 := pms_256 _ o3
    have b2 := pms_256 _ (reix_ok _ o3 _ id_in).1
    have at_ : ∀ s, feM (mtK (g :: G)) s = ((if s = g.1 then g.2.1 + 16 * g.2.2 else 0) ||| (if s = g.2.1 then g.1 + 16 * reix g.2.2 228 else 0)) ||| feM (mtK G) s := fun s => by
      show feM ((((g.2.1 + 16 * g.2.2) <<< (16 * g.1)) ||| ((g.1 + 16 * reix g.2.2 228) <<< (16 * g.2.1))) ||| mtK G) s = _
      rw [feM_or, feM_or, feM_sh (by omega), feM_sh (by omega)]
    have z0 : ∀ x : Nat, 0 ||| x = x := Nat.zero_or
    have z1 : ∀ x : Nat, x ||| 0 = x := Nat.or_zero
    refine ⟨fun x hx => ?_, fun s hs => ?_⟩
    · rcases List.mem_cons.mp hx with rfl | hx
      · have e1 : x.1 ∉ sds G := fun w => n1 (List.mem_cons_of_mem _ w)
        refine ⟨?_, ?_⟩
        · rw [at_, if_pos rfl, if_neg (by omega), i2 _ e1, z1, z1]
        · rw [at_, if_neg (by omega), if_pos rfl, i2 _ n2, z1, z0]
      · have m1 : x.1 ∈ sds G := mem_sds.mpr ⟨x, hx, Or.inl rfl⟩
        have m2 : x.2.1 ∈ sds G := mem_sds.mpr ⟨x, hx, Or.inr rfl⟩
        have q : ∀ s, s ∈ sds G → s ≠ g.1 ∧ s ≠ g.2.1 := fun s hs => ⟨fun e => n1 (by rw [← e]; exact List.mem_cons_of_mem _ hs), fun e => n2 (by rw [← e]; exact hs)⟩
        refine ⟨?_, ?_⟩
        · rw [at_, if_neg (q _ m1).1, if_neg (q _ m1).2, z0, z0]
          exact (i1 x hx).1
        · rw [at_, if_neg (q _ m2).1, if_neg (q _ m2).2, z0, z0]
          exact (i1 x hx).2
    · have hs : s ∉ g.1 :: g.2.1 :: sds G := hs
      have e1 : s ≠ g.1 := fun e => hs (by rw [e]; exact List.mem_cons_self ..)
      have e2 : s ≠ g.2.1 := fun e => hs (by rw [e]; exact List.mem_cons_of_mem _ (List.mem_cons_self ..))
      have e3 : s ∉ sds G := fun w => hs (List.mem_cons_of_mem _ (List.mem_cons_of_mem _ w))
      rw [at_, if_neg e1, if_neg e2, i2 s e3, z0, z0]
def MKw (M : Nat) (mt : Nat → Option Nat) (go : Nat → Nat) : Prop := ∀ s, s < 12 → feM M s = 0 ∨ ∃ t, mt s = some t ∧ Nat.land (feM M s) 15 = t ∧ ∀ c, c < 4 → dg (Nat.shiftRight (feM M s) 4) c = go (4 * s + c)
theorem la15 {t m : Nat} (ht : t < 16) : Nat.land (t + 16 * m) 15 = t ∧ Nat.shiftRight (t + 16 * m) 4 = m := by
  constructor
  · show (t + 16 * m) &&& 15 = t
    rw [show (15 : Nat) = 2 ^ 4 - 1 from rfl, Nat.and_two_pow_sub_one_eq_mod]
    omega
  · show (t + 16 * m) >>> 4 = m
    rw [Nat.shiftRight_eq_div_pow]
    omega
theorem mkw_of {G : List PG} (hV : Vld G) {mt : Nat → Option Nat} {go : Nat → Nat} (hG : GW 3 mt go) (hH : Hol G mt go) : MKw (mtK G) mt go := by
  intro s hs
  obtain ⟨a, b⟩ := mtK_at hV
  by_cases c : s ∈ sds G
  · right
    obtain ⟨g, g1, g2⟩ := mem_sds.mp c
    obtain ⟨o1, o2, o3, o4⟩ := hV.1 g g1
    obtain ⟨e1, e2⟩ := hH g g1
    have gg := hG.2 g.1 (by omega) _ e1
    rcases g2 with e | e
    · rw [e, (a g g1).1, (la15 (show g.2.1 < 16 by omega)).1, (la15 (show g.2.1 < 16 by omega)).2]
      exact ⟨_, e1, rfl, fun c hc => (e2 c hc).symm⟩
    · rw [e, (a g g1).2, (la15 (show g.1 < 16 by omega)).1, (la15 (show g.1 < 16 by omega)).2]
      refine ⟨_, gg.2.2.1, rfl, fun c hc => ?_⟩
      obtain ⟨d, hd, ed⟩ := pms_sj _ o3 c hc
      have r := (reix_ok _ o3 _ id_in).2 d hd
      have i4 : ∀ d, d < 4 → dg 228 d = d := by decide
      rw [i4 d hd] at r
      have q := (gg.2.2.2.1 d hd).2
      rw [e2 d hd] at q
      rw [← ed, r, q]
  · exact Or.inl (b s c)
/-- one step -/
noncomputable def stK (M s a b : Nat) (ko : Bool) (kk : Nat → Nat → Nat → Bool) : Bool := (fun e => Bool.rec (motive := fun _ => Bool) ((fun t m => (fun a' b' => kk (Nat.add (Nat.mul 4 (Nat.div t 4)) (Nat.sub (Nat.sub (Nat.sub 6 a') b') (Nat.mod t 4))) a' b') (dg m a) (dg m b)) (Nat.land e 15) (Nat.shiftRight e 4)) ko (Nat.beq e 0)) (feM M s)
theorem stK_ok {M : Nat} {mt : Nat → Option Nat} {go : Nat → Nat} (hM : MKw M mt go) {w : WS} (hw : WV 3 w) {ko : Bool} {kk : Nat → Nat → Nat → Bool} (h : stK M w.1 w.2.1 w.2.2 ko kk = true) : (feM M w.1 = 0 ∧ ko = true) ∨ ∃ v, wst mt go w = some v ∧ kk v.1 v.2.1 v.2.2 = true := by
  have h : Bool.rec (motive := fun _ => Bool) (kk (4 * (Nat.land (feM M w.1) 15 / 4) + (6 - dg (Nat.shiftRight (feM M w.1) 4) w.2.1 - dg (Nat.shiftRight (feM M w.1) 4) w.2.2 - Nat.land (feM M w.1) 15 % 4)) (dg (Nat.shiftRight (feM M w.1) 4) w.2.1) (dg (Nat.shiftRight (feM M w.1) 4) w.2.2)) ko (Nat.beq (feM M w.1) 0) = true := h
  cases c : Nat.beq (feM M w.1) 0
  · rw [c] at h
    right
    have n0 : feM M w.1 ≠ 0 := Nat.ne_of_beq_eq_false c
    rcases hM w.1 (by have := hw.1; omega) with e | ⟨t, e1, e2, e3⟩
    · exact absurd e n0
    · refine ⟨_, wst_s e1, ?_⟩
      have h : kk (4 * (Nat.land (feM M w.1) 15 / 4) + (6 - dg (Nat.shiftRight (feM M w.1) 4) w.2.1 - dg (Nat.shiftRight (feM M w.1) 4) w.2.2 - Nat.land (feM M w.1) 15 % 4)) (dg (Nat.shiftRight (feM M w.1) 4) w.2.1) (dg (Nat.shiftRight (feM M w.1) 4) w.2.2) = true := h
      rw [e2, e3 _ hw.2.1, e3 _ hw.2.2.1] at h
      exact h
  · rw [c] at h
    exact Or.inl ⟨Nat.eq_of_beq_eq_true c, h⟩
/-- bent -/
def cWS : Nat := 0xe8d898c9894ae4d494c58546e0d090c18142
def wsE (e : Nat) : Nat := Nat.land (Nat.shiftRight cWS (Nat.mul 8 e)) 255
theorem wsE_ok : ∀ e, e < 18 → (Nat.land (wsE e) 15, Nat.land (Nat.shiftRight (wsE e) 4) 3, Nat.land (Nat.shiftRight (wsE e) 6) 3) = ws e := by decide +kernel
noncomputable def bnW (M p0 a0 b0 : Nat) (fuel : Nat) : Nat → Nat → Nat → Bool := Nat.rec (motive := fun _ => Nat → Nat → Nat → Bool) (fun _ _ _ => false) (fun _ ih s a b => stK M s a b false (fun s' a' b' => Bool.rec (motive := fun _ => Bool) (ih s' a' b') true (andK (Nat.beq (Nat.div s' 4) p0) (andK (Nat.beq a' b0) (Nat.beq b' a0))))) fuel
noncomputable def bnK (M e : Nat) : Bool := andK (Nat.ble (Nat.succ e) 18) ((fun s a b => bnW M (Nat.div s 4) a b 20 s a b) (Nat.land (wsE e) 15) (Nat.land (Nat.shiftRight (wsE e) 4) 3) (Nat.land (Nat.shiftRight (wsE e) 6) 3))
theorem bnW_ok {M : Nat} {mt : Nat → Option Nat} {go : Nat → Nat} (hG : GW 3 mt go) (hM : MKw M mt go) {L : Nat → Nat → Nat → Nat} (hL : ∀ s t a b, s < 12 → mt s = some t → a < 4 → b < 4 → a ≠ b → a ≠ s % 4 → b ≠ s % 4 → L (s / 4) a b = L (t / 4) (go (4 * s + a)) (go (4 * s + b))) {p0 a0 b0 : Nat} : ∀ fuel (w : WS), WV 3 w → bnW M p0 a0 b0 fuel w.1 w.2.1 w.2.2 = true → L (w.1 / 4) w.2.1 w.2.2 = L p0 b0 a0
  | 0, w, hw, h => by cases h
  | fuel + 1, w, hw, h => by
    have h : stK M w.1 w.2.1 w.2.2 false (fun s' a' b' => Bool.rec (motive := fun _ => Bool) (bnW M p0 a0 b0 fuel s' a' b') true (andK (Nat.beq (Nat.div s' 4) p0) (andK (Nat.beq a' b0) (Nat.beq b' a0)))) = true := h
    rcases stK_ok hM hw h with e | ⟨v, e1, e2⟩
    · cases e.2
    · have hv := hw.st hG e1
      obtain ⟨t, a1, a2, a3, a4, a5, a6, a7, a8, a9, b1, b2, b3, b4, b5⟩ := wst_f hG hw e1
      have q := hL w.1 t w.2.1 w.2.2 (by have := hw.1; omega) a1 hw.2.1 hw.2.2.1 hw.2.2.2.1 hw.2.2.2.2.1 hw.2.2.2.2.2
      rw [← a5, ← a6] at q
      have k := oth4 a9 b1 (show t % 4 < 4 by omega) b2 b3 b4
      rw [show t / 4 = v.1 / 4 by omega] at q
      rw [q]
      cases c : andK (Nat.beq (Nat.div v.1 4) p0) (andK (Nat.beq v.2.1 b0) (Nat.beq v.2.2 a0))
      · rw [c] at e2
        exact bnW_ok hG hM hL fuel v hv e2
      · obtain ⟨c1, c⟩ := andK_t c
        obtain ⟨c2, c3⟩ := andK_t c
        have c1 : v.1 / 4 = p0 := Nat.eq_of_beq_eq_true c1
        rw [c1, Nat.eq_of_beq_eq_true c2, Nat.eq_of_beq_eq_true c3]
theorem bnK_ok {G : List PG} (hV : Vld G) {e : Nat} (h : bnK (mtK G) e = true) : Cvd G := by
  intro mt go hG hH hN
  exfalso
  obtain ⟨L, n1, n2⟩ := hN
  obtain ⟨h1, h2⟩ := andK_t h
  have he : e < 18 := Nat.le_of_ble_eq_true h1
  have w := wsE_ok e he
  have hv := ws_v (P := 3) (k := e) (by omega)
  have h2 : bnW (mtK G) ((Nat.land (wsE e) 15) / 4) (Nat.land (Nat.shiftRight (wsE e) 4) 3) (Nat.land (Nat.shiftRight (wsE e) 6) 3) 20 (Nat.land (wsE e) 15) (Nat.land (Nat.shiftRight (wsE e) 4) 3) (Nat.land (Nat.shiftRight (wsE e) 6) 3) = true := h2
  have e1 : Nat.land (wsE e) 15 = (ws e).1 := congrArg Prod.fst w
  have e2 : Nat.land (Nat.shiftRight (wsE e) 4) 3 = (ws e).2.1 := congrArg (fun z => z.2.1) w
  have e3 : Nat.land (Nat.shiftRight (wsE e) 6) 3 = (ws e).2.2 := congrArg (fun z => z.2.2) w
  rw [e1, e2, e3] at h2
  exact n2 _ _ _ (by have := hv.1; omega) hv.2.1 hv.2.2.1 hv.2.2.2.1 (bnW_ok hG (mkw_of hV hG hH) n1 20 (ws e) hv h2)
