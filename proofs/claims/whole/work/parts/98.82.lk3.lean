/-! linking: sides, WHOLE, EVEN, counts -/
theorem cnt_lt {q : Nat → Bool} {k n : Nat} (h : k < n) (hq : q k = true) : cnt q k < cnt q n := by
  have := cnt_mono q (show k + 1 ≤ n by omega)
  rw [cnt_t hq] at this
  omega
theorem cnt_inj_le {p q : Nat → Bool} {n : Nat} (f : Nat → Nat) (h : ∀ s, s < n → p s = true → f s < n ∧ q (f s) = true) (hi : ∀ s s', s < n → s' < n → p s = true → p s' = true → f s = f s' → s = s') : cnt p n ≤ cnt q n := by
  refine pig (cnt p n) (fun i => cnt q (f (nth p i))) (fun i hi' => ?_) (fun i j hi' hj e => ?_)
  · obtain ⟨a1, a2, -⟩ := nth_spec hi'
    obtain ⟨b1, b2⟩ := h _ a1 a2
    exact cnt_lt b1 b2
  · obtain ⟨a1, a2, a3⟩ := nth_spec hi'
    obtain ⟨c1, c2, c3⟩ := nth_spec hj
    have := hi _ _ a1 c1 a2 c2 (cnt_inj (h _ a1 a2).2 (h _ c1 c2).2 e)
    rw [← a3, ← c3, this]
def grN (mt : Nat → Option Nat) (s : Nat) : Bool := match mt s with
  | none => false
  | some t => decide (t < s)
theorem sd_sum {P : Nat} {mt : Nat → Option Nat} {go : Nat → Nat} (hG : GW P mt go) : ∀ n, n ≤ 4 * P → cnt (sdP mt 0) n + cnt (grN mt) n = n ∧ cnt (sdP mt 1) n + cnt (prN mt) n + cnt (grN mt) n = n
  | 0, _ => ⟨rfl, rfl⟩
  | n + 1, hn => by
    obtain ⟨h1, h2⟩ := sd_sum hG n (by omega)
    have e : ∀ p : Nat → Bool, cnt p (n + 1) = cnt p n + if p n = true then 1 else 0 := fun _ => rfl
    rw [e, e, e, e]
    cases q : mt n with
    | none =>
      have a1 : sdP mt 0 n = true := by unfold sdP; rw [q]
      have a2 : sdP mt 1 n = true := by unfold sdP; rw [q]
      have a3 : ¬ prN mt n = true := prN_n q
      have a4 : ¬ grN mt n = true := by unfold grN; rw [q]; exact Bool.false_ne_true
      rw [if_pos a1, if_pos a2, if_neg a3, if_neg a4]
      omega
    | some t =>
      have ht := (hG.2 n (by omega) t q).2.1
      have a2 : ¬ sdP mt 1 n = true := by unfold sdP; rw [q]; simp
      rw [if_neg a2]
      by_cases c : n < t
      · have a1 : sdP mt 0 n = true := by rw [sdP_some q]; exact decide_eq_true c
        have a4 : ¬ grN mt n = true := by unfold grN; rw [q]; exact fun w => by have := of_decide_eq_true w; omega
        rw [if_pos a1, if_pos (prN_t q c), if_neg a4]
        omega
      · have a1 : ¬ sdP mt 0 n = true := by rw [sdP_some q]; exact fun w => c (of_decide_eq_true w)
        have a4 : grN mt n = true := by unfold grN; rw [q]; exact decide_eq_true (by omega)
        rw [if_neg a1, if_neg (prN_g q c), if_pos a4]
        omega
theorem gr_pr {P : Nat} {mt : Nat → Option Nat} {go : Nat → Nat} (hG : GW P mt go) : cnt (grN mt) (4 * P) = cnt (prN mt) (4 * P) := by
  have gx : ∀ s, grN mt s = true → ∃ t, mt s = some t ∧ t < s := fun s h => by
    unfold grN at h
    cases e : mt s with
    | none => rw [e] at h; cases h
    | some t => rw [e] at h; exact ⟨t, rfl, of_decide_eq_true h⟩
  have ij : ∀ s s', s < 4 * P → s' < 4 * P → ∀ t t', mt s = some t → mt s' = some t' → t = t' → s = s' := fun s s' h h' t t' e e' q => by
    have a := (hG.2 s h t e).2.2.1
    have b := (hG.2 s' h' t' e').2.2.1
    rw [q, b] at a
    exact (Option.some.inj a).symm
  refine Nat.le_antisymm (cnt_inj_le (fun s => (mt s).getD 0) (fun s hs h => ?_) (fun s s' hs hs' h h' e => ?_)) (cnt_inj_le (fun s => (mt s).getD 0) (fun s hs h => ?_) (fun s s' hs hs' h h' e => ?_))
  · obtain ⟨t, e, l⟩ := gx s h
    obtain ⟨a1, a2, a3, -⟩ := hG.2 s hs t e
    rw [e]
    exact ⟨a1, prN_t a3 l⟩
  · obtain ⟨t, e1, l⟩ := gx s h
    obtain ⟨t', e2, l'⟩ := gx s' h'
    rw [e1, e2] at e
    exact ij s s' hs hs' t t' e1 e2 e
  · obtain ⟨t, e, l⟩ := prN_ex h
    obtain ⟨a1, a2, a3, -⟩ := hG.2 s hs t e
    rw [e]
    refine ⟨a1, ?_⟩
    show grN mt t = true
    unfold grN
    rw [a3]
    exact decide_eq_true l
  · obtain ⟨t, e1, l⟩ := prN_ex h
    obtain ⟨t', e2, l'⟩ := prN_ex h'
    rw [e1, e2] at e
    exact ij s s' hs hs' t t' e1 e2 e
theorem nI_sub {a b : Nat} (h : b ≤ a) : nI a - nI b = nI (a - b) := by
  have e : nI a = nI (a - b) + nI b := by rw [nI_add]; congr 1; omega
  rw [e, Int32.add_sub_cancel]
theorem sd_0 {P : Nat} {mt : Nat → Option Nat} {go : Nat → Nat} (hG : GW P mt go) : nI (cnt (sdP mt 0) (4 * P)) = nI (4 * P) - nI (cnt (prN mt) (4 * P)) := by
  have h := (sd_sum hG (4 * P) (Nat.le_refl _)).1
  rw [gr_pr hG] at h
  rw [nI_sub (by omega)]
  congr 1
  omega
theorem sd_1 {P : Nat} {mt : Nat → Option Nat} {go : Nat → Nat} (hG : GW P mt go) : nI (cnt (sdP mt 1) (4 * P)) = nI (4 * P) - nI (2 * cnt (prN mt) (4 * P)) := by
  have h := (sd_sum hG (4 * P) (Nat.le_refl _)).2
  rw [gr_pr hG] at h
  rw [nI_sub (by omega)]
  congr 1
  omega
theorem bent_0 {T : MS} {P : Nat} {mt : Nat → Option Nat} {go : Nat → Nat} (hG : GW P mt go) (h : LabS T P mt go) : anyN (fun k => decide (lb T (2 * k) = lb T (2 * k + 1))) (6 * P) = 0 ↔ ∀ m, m < 6 * P → fs (EJ P mt go) m = true → ¬ Tws (EJ P mt go) m := by
  have hP := hG.1
  rw [anyN_z]
  constructor
  · intro w m hm _ q
    exact w m hm (decide_eq_true ((tws_iff hG h (by omega)).mpr q))
  · intro w m hm q
    have q := (tws_iff hG h (show m < 18 by omega)).mp (of_decide_eq_true q)
    obtain ⟨g1, g2, g3⟩ := lst_spec (EJ P mt go) m
    exact w _ (by omega) g2 ((Tws.conn g3).mpr q)
theorem wh_eq {T : MS} {P : Nat} {mt : Nat → Option Nat} {go : Nat → Nat} (hG : GW P mt go) (h : LabS T P mt go) {w w' : Nat} (h1 : WhA T P mt w) (h2 : WhCA P mt go w') : w = w' := by
  have hP := hG.1
  have e0 : Wh0 T P mt ∧ anyN (whBad T P mt) (4 * P) = 0 ↔ WhC P mt go := by
    unfold Wh0 WhC
    rw [bent_0 hG h, ← sd_1 hG, anyN_z]
    have hz : cnt (sdP mt 1) (4 * P) = 0 ↔ nI (cnt (sdP mt 1) (4 * P)) = 0 := (nI_z (by have := cnt_le (sdP mt 1) (4 * P); omega)).symm
    rw [hz]
    constructor
    · rintro ⟨⟨a, b, c⟩, d⟩
      refine ⟨a, b, c, fun g hg => ?_⟩
      obtain ⟨m, m1, m2, m3⟩ := cnt_find _ _ hg
      by_cases q : lnkC P mt go g = nI 2
      · exact q
      · exfalso
        refine d m m1 (decide_eq_true ⟨?_, fun z => q ?_⟩)
        · rw [cb_lst hG h (by omega)]; exact lst_iff.mpr m2
        · rw [← z, lkA_eq hG h m2, m3]
    · rintro ⟨a, b, c, d⟩
      refine ⟨⟨a, b, c⟩, fun k hk q => ?_⟩
      obtain ⟨q1, q2⟩ := of_decide_eq_true q
      rw [cb_lst hG h (by omega)] at q1
      have q1 := lst_iff.mp q1
      rw [lkA_eq hG h q1] at q2
      exact q2 (d _ (cnt_lt hk q1))
  have lt := anyN_lt (whBad T P mt) (4 * P)
  rcases h1 with ⟨a1, a2⟩ | ⟨a1, a2⟩ <;> rcases h2 with ⟨b1, b2⟩ | ⟨b1, b2⟩
  · have := (e0.mpr b2).2
    omega
  · have : anyN (whBad T P mt) (4 * P) ≠ 0 := fun z => b2 (e0.mp ⟨a1, z⟩)
    omega
  · exact absurd (e0.mpr b2).1 a1
  · omega
theorem cnt6 (p : Nat → Bool) : cnt p 6 = (if p 0 = true then 1 else 0) + (if p 1 = true then 1 else 0) + (if p 2 = true then 1 else 0) + (if p 3 = true then 1 else 0) + (if p 4 = true then 1 else 0) + (if p 5 = true then 1 else 0) := by
  show 0 + (if p 0 = true then 1 else 0) + (if p 1 = true then 1 else 0) + (if p 2 = true then 1 else 0) + (if p 3 = true then 1 else 0) + (if p 4 = true then 1 else 0) + (if p 5 = true then 1 else 0) = _
  rw [Nat.zero_add]
/-- changes of order -/
def ivN (a b c d : Nat) : Nat := (if b < a then 1 else 0) + (if c < a then 1 else 0) + (if d < a then 1 else 0) + (if c < b then 1 else 0) + (if d < b then 1 else 0) + (if d < c then 1 else 0)
theorem ej_iv (go : Nat → Nat) (s : Nat) : cnt (ejS go s) 6 = ivN (go (4 * s + 0)) (go (4 * s + 1)) (go (4 * s + 2)) (go (4 * s + 3)) := by
  rw [cnt6]
  unfold ivN
  have e : ∀ k, (ejS go s k = true) = (go (4 * s + tE k) < go (4 * s + fE k)) := fun k => by
    unfold ejS
    exact propext decide_eq_true_iff
  simp only [e]
  rfl
theorem sw_iv (go : Nat → Nat) (s : Nat) : swO go s 4 = ivN (go (4 * s + 0)) (go (4 * s + 1)) (go (4 * s + 2)) (go (4 * s + 3)) := by
  have e : swO go s 4 = cnt (swp go s 0) 4 + cnt (swp go s 1) 4 + cnt (swp go s 2) 4 + cnt (swp go s 3) 4 := by
    show 0 + cnt (swp go s 0) 4 + cnt (swp go s 1) 4 + cnt (swp go s 2) 4 + cnt (swp go s 3) 4 = _
    omega
  rw [e, cnt4, cnt4, cnt4, cnt4]
  unfold ivN swp
  simp
  omega
def ivH (a b c y : Nat) : Nat := if a = y then 0 else if b = y then 1 else if c = y then 2 else 3
def ivB (a b c d : Nat) : Bool := decide ((a ≠ b ∧ a ≠ c ∧ a ≠ d ∧ b ≠ c ∧ b ≠ d ∧ c ≠ d) → ivN (ivH a b c 0) (ivH a b c 1) (ivH a b c 2) (ivH a b c 3) = ivN a b c d)
theorem ivB_all : ∀ a, a < 4 → ∀ b, b < 4 → ∀ c, c < 4 → ∀ d, d < 4 → ivB a b c d = true := by decide +kernel
theorem sw_mate {P : Nat} {mt : Nat → Option Nat} {go : Nat → Nat} (hG : GW P mt go) {s t : Nat} (hs : s < 4 * P) (e0 : mt s = some t) : swO go t 4 = swO go s 4 := by
  obtain ⟨h1, h2, h3, h4, h5⟩ := hG.2 s hs t e0
  have n := fun a b ha hb hab => hG.gne hs e0 (a := a) (b := b) ha hb hab
  rw [sw_iv, sw_iv]
  have k := of_decide_eq_true (ivB_all _ (h4 0 (by omega)).1 _ (h4 1 (by omega)).1 _ (h4 2 (by omega)).1 _ (h4 3 (by omega)).1) ⟨n 0 1 (by omega) (by omega) (by omega), n 0 2 (by omega) (by omega) (by omega), n 0 3 (by omega) (by omega) (by omega), n 1 2 (by omega) (by omega) (by omega), n 1 3 (by omega) (by omega) (by omega), n 2 3 (by omega) (by omega) (by omega)⟩
  rw [← k]
  have hy : ∀ y, y < 4 → go (4 * t + y) = ivH (go (4 * s + 0)) (go (4 * s + 1)) (go (4 * s + 2)) y := fun y hy => by
    obtain ⟨g1, g2, g3, g4, g5⟩ := hG.2 t h1 s h3
    have gy := g4 y hy
    unfold ivH
    rcases (show go (4 * t + y) = 0 ∨ go (4 * t + y) = 1 ∨ go (4 * t + y) = 2 ∨ go (4 * t + y) = 3 by omega) with w | w | w | w <;> rw [w] at gy <;> rw [w]
    · rw [if_pos gy.2]
    · rw [if_neg (fun q => n 0 1 (by omega) (by omega) (by omega) (q.trans gy.2.symm)), if_pos gy.2]
    · rw [if_neg (fun q => n 0 2 (by omega) (by omega) (by omega) (q.trans gy.2.symm)), if_neg (fun q => n 1 2 (by omega) (by omega) (by omega) (q.trans gy.2.symm)), if_pos gy.2]
    · rw [if_neg (fun q => n 0 3 (by omega) (by omega) (by omega) (q.trans gy.2.symm)), if_neg (fun q => n 1 3 (by omega) (by omega) (by omega) (q.trans gy.2.symm)), if_neg (fun q => n 2 3 (by omega) (by omega) (by omega) (q.trans gy.2.symm))]
  rw [hy 0 (by omega), hy 1 (by omega), hy 2 (by omega), hy 3 (by omega)]
def btB (t p : Nat) : Bool := decide (bt t p = nI (t / 2 ^ p % 2))
theorem btB_all : ∀ t, t < 8 → ∀ p, p < 3 → btB t p = true := by decide +kernel
theorem bt_eq {t p q : Nat} (ht : t < 8) (hp : p < 3) (hq : q < 3) : bt t p = bt t q ↔ t / 2 ^ p % 2 = t / 2 ^ q % 2 := by
  rw [of_decide_eq_true (btB_all t ht p hp), of_decide_eq_true (btB_all t ht q hq), nI_eq (by omega) (by omega)]
theorem lst_cg {J : LRel} {x y : Nat} (h : cR (sR2 J) x y) : lst J x = lst J y := fst_un (lst_spec J x).2.1 (lst_spec J y).2.1 ((lst_spec J x).2.2.trans (h.trans (lst_spec J y).2.2.symm))
theorem ev_eq {P : Nat} {mt : Nat → Option Nat} {go : Nat → Nat} (hG : GW P mt go) {e a : Nat} (h1 : EvA P mt go e) (h2 : AnyT P (SJ P mt go) a) : e = 1 - a := by
  have hP := hG.1
  have key : (∃ t, t < 8 ∧ anyN (evBad mt go t) (4 * P) = 0) ↔ ∀ m, m < P → fs (SJ P mt go) m = true → ¬ Tws (SJ P mt go) m := by
    constructor
    · rintro ⟨t, ht, hz⟩ m hm _ hw
      have hz := anyN_z.mp hz
      have cl : ∀ u v, dR2 (SJ P mt go) u v → ((2 * m % 2 + t / 2 ^ (2 * m / 2) % 2) % 2 = (u % 2 + t / 2 ^ (u / 2) % 2) % 2 ↔ (2 * m % 2 + t / 2 ^ (2 * m / 2) % 2) % 2 = (v % 2 + t / 2 ^ (v / 2) % 2) % 2) := by
        rintro u v ⟨x, y, b, ⟨s, s', -, hs, e0, hst, rfl, rfl, rfl⟩, h⟩
        have k := hz s hs
        rw [evBad_some e0, sw_iv, ← ej_iv, Classical.not_not, bt_eq ht (by omega) (by have := (hG.2 s hs s' e0).1; omega)] at k
        have e1 : u / 2 = s / 4 := by have := bN_lt (decide (cnt (ejS go s) 6 % 2 = 0)); omega
        have e2 : v / 2 = s' / 4 := by have := bN_lt (decide (cnt (ejS go s) 6 % 2 = 0)); omega
        have hb : bN (decide (cnt (ejS go s) 6 % 2 = 0)) = if cnt (ejS go s) 6 % 2 = 0 then 1 else 0 := by
          unfold bN
          by_cases c : cnt (ejS go s) 6 % 2 = 0
          · rw [if_pos (decide_eq_true c), if_pos c]
          · rw [if_neg (fun w => c (of_decide_eq_true w)), if_neg c]
        rw [hb] at h
        rw [e1, e2]
        by_cases c : cnt (ejS go s) 6 % 2 = 0
        · rw [if_pos c] at h
          have := k.mpr c
          omega
        · rw [if_neg c] at h
          have : t / 2 ^ (s / 4) % 2 = t / 2 ^ (s' / 4) % 2 := by
            by_cases q : t / 2 ^ (s / 4) % 2 = t / 2 ^ (s' / 4) % 2
            · exact q
            · exact absurd (k.mp q) c
          omega
      have := hw (fun z => (2 * m % 2 + t / 2 ^ (2 * m / 2) % 2) % 2 = (z % 2 + t / 2 ^ (z / 2) % 2) % 2) rfl cl
      rw [show 2 * m / 2 = m by omega, show (2 * m + 1) / 2 = m by omega] at this
      omega
    · intro h
      have nt : ∀ m, m < P → ¬ Tws (SJ P mt go) m := fun m hm w => by
        obtain ⟨g1, g2, g3⟩ := lst_spec (SJ P mt go) m
        exact h _ (by omega) g2 ((Tws.conn g3).mpr w)
      have cx : ∀ p, ∃ c : Nat, (c = 0 ∧ cR (dR2 (SJ P mt go)) (2 * lst (SJ P mt go) p) (2 * p)) ∨ (c = 1 ∧ ¬ cR (dR2 (SJ P mt go)) (2 * lst (SJ P mt go) p) (2 * p)) := by
        intro p
        by_cases q : cR (dR2 (SJ P mt go)) (2 * lst (SJ P mt go) p) (2 * p)
        · exact ⟨0, Or.inl ⟨rfl, q⟩⟩
        · exact ⟨1, Or.inr ⟨rfl, q⟩⟩
      obtain ⟨c, hc⟩ := Classical.skolem.mp cx
      have c2 : ∀ p, c p < 2 := fun p => by rcases hc p with w | w <;> omega
      have odd : ∀ p, p < P → (c p = 1 ↔ cR (dR2 (SJ P mt go)) (2 * lst (SJ P mt go) p) (2 * p + 1)) := fun p hp => by
        obtain ⟨e, he, w⟩ := sR2.lift (lst_spec (SJ P mt go) p).2.2
        rcases hc p with ⟨a1, a2⟩ | ⟨a1, a2⟩
        · exact ⟨fun z => by omega, fun z => absurd (a2.symm.trans z) (nt p hp)⟩
        · refine ⟨fun _ => ?_, fun _ => a1⟩
          rcases (show e = 0 ∨ e = 1 by omega) with rfl | rfl
          · exact absurd w a2
          · exact w
      have even : ∀ p, (c p = 0 ↔ cR (dR2 (SJ P mt go)) (2 * lst (SJ P mt go) p) (2 * p)) := fun p => by
        rcases hc p with ⟨a1, a2⟩ | ⟨a1, a2⟩
        · exact ⟨fun _ => a2, fun _ => a1⟩
        · exact ⟨fun z => by omega, fun z => absurd z a2⟩
      have les : ∀ s s', s < 4 * P → mt s = some s' → s < s' → (c (s / 4) ≠ c (s' / 4) ↔ swO go s 4 % 2 = 0) := fun s s' hs e0 hst => by
        have l2 := (hG.2 s hs s' e0).1
        have J : SJ P mt go (s / 4) (s' / 4) (decide (cnt (ejS go s) 6 % 2 = 0)) := ⟨s, s', hs, hs, e0, hst, rfl, rfl, rfl⟩
        have el := lst_cg (cR.of ⟨_, J⟩)
        have d0 : cR (dR2 (SJ P mt go)) (2 * (s / 4)) (2 * (s' / 4) + bN (decide (cnt (ejS go s) 6 % 2 = 0))) := cR.of ⟨_, _, _, J, Or.inl ⟨rfl, rfl⟩⟩
        rw [sw_iv, ← ej_iv]
        have a1 := even (s / 4)
        have a2 := even (s' / 4)
        have a3 := odd (s' / 4) (by omega)
        rw [← el] at a2 a3
        have b1 := c2 (s / 4)
        have b2 := c2 (s' / 4)
        unfold bN at d0
        by_cases q : cnt (ejS go s) 6 % 2 = 0
        · rw [if_pos (decide_eq_true q)] at d0
          have : c (s / 4) = 0 ↔ c (s' / 4) = 1 := by
            rw [a1, a3]
            exact ⟨fun w => w.trans d0, fun w => w.trans d0.symm⟩
          refine ⟨fun _ => q, fun _ => ?_⟩
          omega
        · rw [if_neg (fun w => q (of_decide_eq_true w)), Nat.add_zero] at d0
          have : c (s / 4) = 0 ↔ c (s' / 4) = 0 := by
            rw [a1, a2]
            exact ⟨fun w => w.trans d0, fun w => w.trans d0.symm⟩
          refine ⟨fun w => ?_, fun w => absurd w q⟩
          omega
      have k0 := c2 0
      have k1 := c2 1
      have k2 := c2 2
      refine ⟨c 0 + 2 * c 1 + 4 * c 2, by omega, anyN_z.mpr (fun s hs w => ?_)⟩
      have bits : ∀ p, p < 3 → (c 0 + 2 * c 1 + 4 * c 2) / 2 ^ p % 2 = c p := fun p hp => by
        rcases (show p = 0 ∨ p = 1 ∨ p = 2 by omega) with rfl | rfl | rfl
        · show (c 0 + 2 * c 1 + 4 * c 2) / 1 % 2 = c 0
          omega
        · show (c 0 + 2 * c 1 + 4 * c 2) / 2 % 2 = c 1
          omega
        · show (c 0 + 2 * c 1 + 4 * c 2) / 4 % 2 = c 2
          omega
      cases e0 : mt s with
      | none => exact evBad_none e0 w
      | some s' =>
        obtain ⟨l1, l2, l3, -⟩ := hG.2 s hs s' e0
        rw [evBad_some e0, bt_eq (by omega) (by omega) (by omega), bits _ (by omega), bits _ (by omega)] at w
        by_cases lt : s < s'
        · exact w (les s s' hs e0 lt)
        · have := les s' s l1 l3 (by omega)
          rw [sw_mate hG hs e0] at this
          apply w
          rw [← this]
          exact ⟨fun z q => z q.symm, fun z q => z q.symm⟩
  rcases h1 with ⟨a1, a2⟩ | ⟨a1, a2⟩ <;> rcases h2 with ⟨b1, m, b2, b3, b4⟩ | ⟨b1, b2⟩
  · exact absurd b4 (key.mp a2 m b2 b3)
  · omega
  · omega
  · obtain ⟨t, ht, hz⟩ := key.mpr b2
    exact absurd hz (a2 t ht)
theorem cnt_eq {T : MS} {P : Nat} {mt : Nat → Option Nat} {go : Nat → Nat} (hG : GW P mt go) (h : LabS T P mt go) {w e w' a : Nat} (h1 : WhA T P mt w) (h2 : EvA P mt go e) (h3 : WhCA P mt go w') (h4 : AnyT P (SJ P mt go) a) (what : Int32) : cntA T P mt w e what = cntC P mt go w' (1 - a) what := by
  have hP := hG.1
  unfold cntA cntC
  rw [cb_cnt hG h (by omega), eL_cnt hG h (by omega), sb_cnt hG h hP, sd_0 hG, sd_1 hG, wh_eq hG h h1 h3, ev_eq hG h2 h4]
