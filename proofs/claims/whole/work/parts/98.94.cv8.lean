/-! holes: level by level, and every gluing -/
noncomputable def exW (B Mk used : Nat) (wit : Nat → Nat → Nat → Nat → Bool) (ps : List (Nat × Nat)) : Nat → Bool := List.rec (motive := fun _ => Nat → Bool) (fun _ => true) (fun p _ ih W => Bool.rec (motive := fun _ => Bool) (ih W) (andK (wit p.1 p.2 (pm6 (Nat.mod p.1 4) (Nat.mod p.2 4) 0) (Nat.land W Mk)) (andK (wit p.1 p.2 (pm6 (Nat.mod p.1 4) (Nat.mod p.2 4) 1) (Nat.land (Nat.shiftRight W B) Mk)) (andK (wit p.1 p.2 (pm6 (Nat.mod p.1 4) (Nat.mod p.2 4) 2) (Nat.land (Nat.shiftRight W (Nat.mul 2 B)) Mk)) (andK (wit p.1 p.2 (pm6 (Nat.mod p.1 4) (Nat.mod p.2 4) 3) (Nat.land (Nat.shiftRight W (Nat.mul 3 B)) Mk)) (andK (wit p.1 p.2 (pm6 (Nat.mod p.1 4) (Nat.mod p.2 4) 4) (Nat.land (Nat.shiftRight W (Nat.mul 4 B)) Mk)) (andK (wit p.1 p.2 (pm6 (Nat.mod p.1 4) (Nat.mod p.2 4) 5) (Nat.land (Nat.shiftRight W (Nat.mul 5 B)) Mk)) (ih (Nat.shiftRight W (Nat.mul 6 B))))))))) (andK (frK used p.1) (frK used p.2))) ps
theorem exW_ok {B Mk used : Nat} {wit : Nat → Nat → Nat → Nat → Bool} : ∀ {ps : List (Nat × Nat)} {W : Nat}, exW B Mk used wit ps W = true → ∀ p ∈ ps, frK used p.1 = true → frK used p.2 = true → ∀ m ∈ pms, dg m (p.1 % 4) = p.2 % 4 → ∃ w, wit p.1 p.2 m w = true
  | [], _, _, p, hp, _, _ => by cases hp
  | q :: ps, W, h, p, hp, f1, f2 => by
    have h : Bool.rec (motive := fun _ => Bool) (exW B Mk used wit ps W) (andK (wit q.1 q.2 (pm6 (q.1 % 4) (q.2 % 4) 0) (Nat.land W Mk)) (andK (wit q.1 q.2 (pm6 (q.1 % 4) (q.2 % 4) 1) (Nat.land (Nat.shiftRight W B) Mk)) (andK (wit q.1 q.2 (pm6 (q.1 % 4) (q.2 % 4) 2) (Nat.land (Nat.shiftRight W (Nat.mul 2 B)) Mk)) (andK (wit q.1 q.2 (pm6 (q.1 % 4) (q.2 % 4) 3) (Nat.land (Nat.shiftRight W (Nat.mul 3 B)) Mk)) (andK (wit q.1 q.2 (pm6 (q.1 % 4) (q.2 % 4) 4) (Nat.land (Nat.shiftRight W (Nat.mul 4 B)) Mk)) (andK (wit q.1 q.2 (pm6 (q.1 % 4) (q.2 % 4) 5) (Nat.land (Nat.shiftRight W (Nat.mul 5 B)) Mk)) (exW B Mk used wit ps (Nat.shiftRight W (Nat.mul 6 B))))))))) (andK (frK used q.1) (frK used q.2)) = true := h
    cases c : andK (frK used q.1) (frK used q.2)
    · rw [c] at h
      rcases List.mem_cons.mp hp with e | e
      · exfalso
        rw [← e, f1, f2] at c
        cases c
      · exact exW_ok h p e f1 f2
    · rw [c] at h
      obtain ⟨w0, h⟩ := andK_t h
      obtain ⟨w1, h⟩ := andK_t h
      obtain ⟨w2, h⟩ := andK_t h
      obtain ⟨w3, h⟩ := andK_t h
      obtain ⟨w4, h⟩ := andK_t h
      obtain ⟨w5, h⟩ := andK_t h
      rcases List.mem_cons.mp hp with e | e
      · rw [e]
        intro m hm hd
        have := pm6_ok m hm (q.1 % 4) (Nat.mod_lt _ (by decide))
        rw [hd] at this
        rcases this with e | e | e | e | e | e
        · exact ⟨_, by rw [← e]; exact w0⟩
        · exact ⟨_, by rw [← e]; exact w1⟩
        · exact ⟨_, by rw [← e]; exact w2⟩
        · exact ⟨_, by rw [← e]; exact w3⟩
        · exact ⟨_, by rw [← e]; exact w4⟩
        · exact ⟨_, by rw [← e]; exact w5⟩
      · exact exW_ok h p e f1 f2
def CvT (n T K : Nat) : Prop := ∀ j, j < K → Cvd (decG n (rpA T (16 * n) j))
noncomputable def witV (n1 T1 K1 : Nat) (G : List PG) (s t m w : Nat) : Bool := Bool.rec (motive := fun _ => Bool) (witW n1 T1 K1 G s t m w) (bnK (mtK ((s, t, m) :: G)) (Nat.sub w 2147483648)) (Nat.ble 2147483648 w)
theorem witW_cv {n1 T1 K1 : Nat} (hT : CvT n1 T1 K1) {G : List PG} {s t m w : Nat} (hV : Vld ((s, t, m) :: G)) (h : witW n1 T1 K1 G s t m w = true) : Cvd ((s, t, m) :: G) := by
  obtain ⟨h1, h2⟩ := andK_t h
  have hj : w / 82944 < K1 := Nat.le_of_ble_eq_true h1
  have g := hT _ hj
  have a0 := p6_in (Nat.mod (Nat.div (Nat.mod w 82944) 13824) 6) (Nat.mod_lt _ (by decide))
  have a1 := p24_in (Nat.mod (Nat.div (Nat.mod w 82944) 576) 24) (Nat.mod_lt _ (by decide))
  have a2 := p24_in (Nat.mod (Nat.div (Nat.mod w 82944) 24) 24) (Nat.mod_lt _ (by decide))
  have a3 := p24_in (Nat.mod (Nat.mod w 82944) 24) (Nat.mod_lt _ (by decide))
  refine Cvd.sym a0 a1 a2 a3 hV.1 (g.sub (fun x hx => ?_))
  obtain ⟨y, y1, y2⟩ := memA_ok h2 x hx
  obtain ⟨z, z1, z2⟩ := mpR_in y1
  have ok := act_ok a0 a1 a2 a3 (hV.1 z z1)
  rw [actR_eq] at z2
  rw [y2, z2, dcd_cod (by have := ok.1; have := ok.2.1; omega) (by have := ok.2.1; omega)]
  exact List.mem_map_of_mem z1
theorem witV_ok {n1 T1 K1 : Nat} (hT : CvT n1 T1 K1) {G : List PG} {s t m w : Nat} (hV : Vld ((s, t, m) :: G)) (h : witV n1 T1 K1 G s t m w = true) : Cvd ((s, t, m) :: G) := by
  unfold witV at h
  cases c : Nat.ble 2147483648 w
  · rw [c] at h
    exact witW_cv hT hV h
  · rw [c] at h
    exact bnK_ok hV h
theorem cov_of {G : List PG} (hV : Vld G) {Z B Mk W : Nat} {wit : Nat → Nat → Nat → Nat → Bool} (h1 : lsK G Z = true) (h2 : exW B Mk (usK G) wit ps66 W = true) (hw : ∀ g w, Addb G g → wit g.1 g.2.1 g.2.2 w = true → Cvd (g :: G)) : Cvd G := by
  refine Cvd.step hV.1 (lsK_ok hV h1) (fun g hg => ?_)
  obtain ⟨w, k⟩ := exW_ok h2 (g.1, g.2.1) (ps66_ok g.2.1 hg.1.2.1 g.1 hg.1.1) (frK_iff.mpr hg.2.1) (frK_iff.mpr hg.2.2) g.2.2 hg.1.2.2.1 hg.1.2.2.2
  exact hw g w hg k
noncomputable def chkV (n T n1 T1 K1 i : Nat) (p : Nat × Nat) : Bool := (fun G => andK (vlK G) (andK (lsK G p.1) (exW 32 4294967295 (usK G) (witV n1 T1 K1 G) ps66 p.2))) (decG n (rpA T (Nat.mul 16 n) i))
theorem chkV_ok {n T n1 T1 K1 i : Nat} {p : Nat × Nat} (hT : CvT n1 T1 K1) (h : chkV n T n1 T1 K1 i p = true) : Cvd (decG n (rpA T (16 * n) i)) := by
  obtain ⟨h1, h⟩ := andK_t h
  obtain ⟨h2, h3⟩ := andK_t h
  have hV := vlK_ok h1
  exact cov_of hV h2 h3 (fun g w hg hk => witV_ok hT (vld_cons hV hg) hk)
noncomputable def chkVC (n T n1 T1 K1 : Nat) (ws : List (Nat × Nat)) : Nat → Bool := List.rec (motive := fun _ => Nat → Bool) (fun _ => true) (fun p _ ih i => andK (chkV n T n1 T1 K1 i p) (ih (Nat.succ i))) ws
theorem chkVC_ok {n T n1 T1 K1 : Nat} (hT : CvT n1 T1 K1) : ∀ {ws : List (Nat × Nat)} {i : Nat}, chkVC n T n1 T1 K1 ws i = true → ∀ j, i ≤ j → j < i + ws.length → Cvd (decG n (rpA T (16 * n) j))
  | [], i, _, j, h1, h2 => by
    have : ([] : List (Nat × Nat)).length = 0 := rfl
    omega
  | W :: ws, i, h, j, h1, h2 => by
    obtain ⟨a, b⟩ := andK_t h
    have hl : (W :: ws).length = ws.length + 1 := rfl
    by_cases e : j = i
    · rw [e]; exact chkV_ok hT a
    · exact chkVC_ok hT b j (by show i + 1 ≤ j; omega) (by show j < i + 1 + ws.length; omega)
/-- the last pair -/
noncomputable def wit6 (G : List PG) (s t m w : Nat) : Bool := Bool.rec (motive := fun _ => Bool) (andK (Nat.beq (usK ((s, t, m) :: G)) 4095) (lsK ((s, t, m) :: G) w)) (bnK (mtK ((s, t, m) :: G)) (Nat.land w 31)) (Nat.ble 0x10000000000000000000000000000000000 w)
theorem wit6_ok {G : List PG} {s t m w : Nat} (hV : Vld ((s, t, m) :: G)) (h : wit6 G s t m w = true) : Cvd ((s, t, m) :: G) := by
  unfold wit6 at h
  cases c : Nat.ble 0x10000000000000000000000000000000000 w
  · rw [c] at h
    obtain ⟨a, b⟩ := andK_t h
    refine Cvd.step hV.1 (lsK_ok hV b) (fun g hg => ?_)
    exfalso
    apply hg.2.2
    rw [← usK_bit, Nat.eq_of_beq_eq_true a]
    have : ∀ v, v < 12 → (4095 : Nat).testBit v = true := by decide
    exact this _ hg.1.2.1
  · rw [c] at h
    exact bnK_ok hV h
noncomputable def chkU (T i : Nat) (p : Nat × Nat) : Bool := (fun G => andK (vlK G) (andK (lsK G p.1) (exW 144 0xffffffffffffffffffffffffffffffffffff (usK G) (wit6 G) ps66 p.2))) (decG 5 (rpA T 80 i))
theorem chkU_ok {T i : Nat} {p : Nat × Nat} (h : chkU T i p = true) : Cvd (decG 5 (rpA T (16 * 5) i)) := by
  obtain ⟨h1, h⟩ := andK_t h
  obtain ⟨h2, h3⟩ := andK_t h
  have hV := vlK_ok h1
  exact cov_of hV h2 h3 (fun g w hg hk => wit6_ok (vld_cons hV hg) hk)
noncomputable def chkUC (T : Nat) (ws : List (Nat × Nat)) : Nat → Bool := List.rec (motive := fun _ => Nat → Bool) (fun _ => true) (fun p _ ih i => andK (chkU T i p) (ih (Nat.succ i))) ws
theorem chkUC_ok {T : Nat} : ∀ {ws : List (Nat × Nat)} {i : Nat}, chkUC T ws i = true → ∀ j, i ≤ j → j < i + ws.length → Cvd (decG 5 (rpA T (16 * 5) j))
  | [], i, _, j, h1, h2 => by
    have : ([] : List (Nat × Nat)).length = 0 := rfl
    omega
  | W :: ws, i, h, j, h1, h2 => by
    obtain ⟨a, b⟩ := andK_t h
    have hl : (W :: ws).length = ws.length + 1 := rfl
    by_cases e : j = i
    · rw [e]; exact chkU_ok a
    · exact chkUC_ok b j (by show i + 1 ≤ j; omega) (by show j < i + 1 + ws.length; omega)
/-- fewer pieces -/
theorem wst_3 {P : Nat} {mt : Nat → Option Nat} {go : Nat → Nat} {w : WS} (h : w.1 < 4 * P) : wst (fun s => if s < 4 * P then mt s else none) go w = wst mt go w := by
  have e : (fun s => if s < 4 * P then mt s else none) w.1 = mt w.1 := if_pos h
  unfold wst
  rw [e]
theorem gw_to3 {P : Nat} {mt : Nat → Option Nat} {go : Nat → Nat} (h : GW P mt go) : GW 3 (fun s => if s < 4 * P then mt s else none) go := by
  refine ⟨by omega, fun s _ t e => ?_⟩
  have e : (if s < 4 * P then mt s else none) = some t := e
  by_cases c : s < 4 * P
  · rw [if_pos c] at e
    obtain ⟨g1, g2, g3, g4, g5⟩ := h.2 s c t e
    have := h.1
    refine ⟨by omega, g2, ?_, g4, g5⟩
    show (if t < 4 * P then mt t else none) = some s
    rw [if_pos g1]
    exact g3
  · rw [if_neg c] at e
    cases e
theorem Cy.to3 {P : Nat} {mt : Nat → Option Nat} {go : Nat → Nat} (hG : GW P mt go) {w : WS} {n : Nat} {x : Nat → WS} (h : Cy mt go w n x) (hw : WV P w) : Cy (fun s => if s < 4 * P then mt s else none) go w n x := by
  have hv := h.v hG hw
  exact ⟨h.1, fun i hi => ⟨by rw [wst_3 (hv i (by omega)).1]; exact (h.2.1 i hi).1, (h.2.1 i hi).2⟩, by rw [wst_3 (hv n (Nat.le_refl _)).1]; exact h.2.2⟩
theorem Cy.of3 {P : Nat} {mt : Nat → Option Nat} {go : Nat → Nat} {w : WS} {n : Nat} {x : Nat → WS} (h : Cy (fun s => if s < 4 * P then mt s else none) go w n x) : Cy mt go w n x ∧ ∀ i, i ≤ n → (x i).1 < 4 * P := by
  have hl : ∀ i, i ≤ n → (x i).1 < 4 * P := fun i hi => by
    obtain ⟨t, e⟩ := h.g i hi
    by_cases c : (x i).1 < 4 * P
    · exact c
    · have e : (if (x i).1 < 4 * P then mt (x i).1 else none) = some t := e
      rw [if_neg c] at e
      cases e
  refine ⟨⟨h.1, fun i hi => ⟨?_, (h.2.1 i hi).2⟩, ?_⟩, hl⟩
  · have := (h.2.1 i hi).1
    rw [wst_3 (hl i (by omega))] at this
    exact this
  · have := h.2.2
    rw [wst_3 (hl n (Nat.le_refl _))] at this
    exact this
theorem WV.to3 {P : Nat} (hP : P ≤ 3) {w : WS} (h : WV P w) : WV 3 w := ⟨by have := h.1; omega, h.2⟩
theorem LSy.of3 {P : Nat} {mt : Nat → Option Nat} {go : Nat → Nat} (hG : GW P mt go) {t : MT} (h : LSy 3 (fun s => if s < 4 * P then mt s else none) go t) : LSy P mt go t := by
  have hP := hG.1
  obtain ⟨r, k, f, f1, f2, f3, f4, f5, f6, f7, f8⟩ := h
  have at_ : ∀ s, s < 4 * P → (fun s => if s < 4 * P then mt s else none) s = mt s := fun s hs => if_pos hs
  have rv : ∀ q ∈ r, WV P q.1 := fun q hq => by
    obtain ⟨a, n, x, c, -⟩ := f4 q hq
    have := c.of3.2 0 (Nat.zero_le _)
    rw [c.1] at this
    exact ⟨this, a.2⟩
  have o3 : ∀ {w v : WS}, WV P w → Onn mt go w v → Onn (fun s => if s < 4 * P then mt s else none) go w v := fun hw ⟨n, x, c, i, i1, i2⟩ => ⟨n, x, c.to3 hG hw, i, i1, i2⟩
  have o0 : ∀ {w v : WS}, Onn (fun s => if s < 4 * P then mt s else none) go w v → Onn mt go w v := fun ⟨n, x, c, i, i1, i2⟩ => ⟨n, x, c.of3.1, i, i1, i2⟩
  refine ⟨r, k, f, f1, fun s u hs e => f2 s u (by omega) ((at_ s hs).trans e), fun s s' hs hs' e e' w => ?_, fun q hq => ?_, fun v n x hv c => ?_, fun q hq q' hq' v hv o o' => f6 q hq q' hq' v (hv.to3 hP) (o3 (rv q hq) o) (o3 (rv q' hq') o'), f7, f8⟩
  · have := f3 s s' (by omega) (by omega) (by rw [at_ s hs]; exact e) (by rw [at_ s' hs']; exact e') w
    rw [at_ s hs] at this
    exact this
  · obtain ⟨a, n, x, c, d⟩ := f4 q hq
    exact ⟨rv q hq, n, x, c.of3.1, d⟩
  · obtain ⟨q, q1, q2⟩ := f5 v n x (hv.to3 hP) (c.to3 hG hv)
    exact ⟨q, q1, o0 q2⟩
theorem NB.to3 {P : Nat} {mt : Nat → Option Nat} {go L : Nat → Nat} (hG : GW P mt go) (h : NB P mt go L) : NBt (fun s => if s < 4 * P then mt s else none) go := by
  refine ⟨fun p a b => if p < P then L (endI p a b) else if a < b then 0 else 1, fun s t a b hs e ha hb hab has hbs => ?_, fun p a b hp ha hb hab => ?_⟩
  · have e : (if s < 4 * P then mt s else none) = some t := e
    by_cases c : s < 4 * P
    · rw [if_pos c] at e
      have g := (hG.2 s c t e).1
      show (if s / 4 < P then L (endI (s / 4) a b) else _) = (if t / 4 < P then L (endI (t / 4) (go (4 * s + a)) (go (4 * s + b))) else _)
      rw [if_pos (show s / 4 < P by omega), if_pos (show t / 4 < P by omega)]
      exact h.1 s t a b c e ha hb hab has hbs
    · rw [if_neg c] at e
      cases e
  · show (if p < P then L (endI p a b) else if a < b then 0 else 1) ≠ (if p < P then L (endI p b a) else if b < a then 0 else 1)
    by_cases c : p < P
    · rw [if_pos c, if_pos c]
      have k := eOf_lt a ha b hb
      have n := h.2 (6 * p + eOf a b) (by omega)
      rcases endI_flip (p := p) ha hb hab with ⟨e1, e2⟩ | ⟨e1, e2⟩
      · rw [e1, e2]; exact n
      · rw [e1, e2]; exact Ne.symm n
    · rw [if_neg c, if_neg c]
      by_cases d : a < b
      · rw [if_pos d, if_neg (by omega)]; omega
      · rw [if_neg d, if_pos (by omega)]; omega
theorem cov_h (h : Cvd []) : CovH 2990 (TT kTB) := by
  intro P mt go L hG hN n x hx
  obtain ⟨k, k1, k2⟩ := h _ go (gw_to3 hG) (fun g hg => by cases hg) (hN.to3 hG)
  exact ⟨k, k1, (k2.of3 hG).eqv hG n x hx⟩
