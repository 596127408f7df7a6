/-! linking: bent edges, links -/
theorem inR_nI {n k : Nat} (hn : n < 2 ^ 31) (hk : k < n) : inR n (nI k) := ⟨nI_pos' (by omega), nI_lt hk hn⟩
theorem inR_n {n : Nat} (hn : n < 2 ^ 31) {x : Int32} (h : inR n x) : ∃ k, k < n ∧ x = nI k := by
  obtain ⟨q, hq, rfl⟩ := nI_of (x := x) (fun g => by
    have := h.1
    simp only [Int32.lt_iff_toInt_lt, Int32.le_iff_toInt_le] at *
    omega)
  exact ⟨q, (nI_ltI hq hn).mp h.2, rfl⟩
theorem fnd_q {p q : Nat → Bool} {n : Nat} (h : ∀ k, k < n → p k = q k) (m : Nat) : (∀ e, e < n → q e = true → cnt q e = m → fnd p m n = some e) ∧ (cnt q n ≤ m → fnd p m n = none) := by
  have hc : ∀ e, e ≤ n → cnt p e = cnt q e := fun e he => cnt_cg e (fun k hk => h k (by omega))
  constructor
  · intro e he h1 h2
    rcases fnd_spec p m n with ⟨k, a1, a2, a3, a4, -⟩ | ⟨-, a2⟩
    · rw [a1, cnt_inj (p := q) (m := k) (m' := e) (by rw [← h k a2]; exact a3) h1 (by rw [← hc k (by omega), a4, h2])]
    · exact absurd ⟨(h e he).trans h1, (hc e (by omega)).trans h2⟩ (a2 e he)
  · intro hm
    rcases fnd_spec p m n with ⟨k, a1, a2, a3, a4, -⟩ | ⟨a1, -⟩
    · have h1 := cnt_mono q (show k + 1 ≤ n by omega)
      rw [cnt_t (by rw [← h k a2]; exact a3), ← hc k (by omega), a4] at h1
      omega
    · exact a1
theorem bent_B {T : MS} {P : Nat} {mt : Nat → Option Nat} {go : Nat → Nat} (hG : GW P mt go) (h : LabS T P mt go) {k : Int32} (hk : ¬ inR (cnt (fs (EJ P mt go)) (6 * P)) k) : bentA T P k = -2 := by
  have hP := hG.1
  unfold bentA
  by_cases c : k < 0
  · rw [if_pos c]
  · obtain ⟨m, hm, rfl⟩ := nI_of c
    rw [if_neg c, nI_clamp hm, (fnd_q (fun k hk => dec_fs (eL_lst hG h (show k < 18 by omega))) m).2 (Nat.not_lt.mp (fun w => hk (inR_nI (by have := cnt_le (fs (EJ P mt go)) (6 * P); omega) w)))]
theorem bent_N {T : MS} {P : Nat} {mt : Nat → Option Nat} {go : Nat → Nat} (hG : GW P mt go) (h : LabS T P mt go) {m : Nat} (hm : m < 6 * P) (hf : fs (EJ P mt go) m = true) : bentA T P (nI (cnt (fs (EJ P mt go)) m)) = nI (if twB (EJ P mt go) m = true then 1 else 0) := by
  have hP := hG.1
  have hb : cnt (fs (EJ P mt go)) m < 2 ^ 31 := by have := cnt_le (fs (EJ P mt go)) m; omega
  unfold bentA
  rw [if_neg (nI_pos hb), nI_clamp hb, (fnd_q (fun k hk => dec_fs (eL_lst hG h (show k < 18 by omega))) _).1 m hm hf rfl]
  show (if lb T (2 * m) = lb T (2 * m + 1) then (1 : Int32) else 0) = _
  by_cases c : Tws (EJ P mt go) m
  · rw [if_pos ((tws_iff hG h (by omega)).mpr c), if_pos (twB_iff.mpr c)]; rfl
  · rw [if_neg (fun w => c ((tws_iff hG h (by omega)).mp w)), if_neg (fun w => c (twB_iff.mp w))]; rfl
theorem lb_self {T : MS} {P : Nat} {mt : Nat → Option Nat} {go : Nat → Nat} (hG : GW P mt go) (h : LabS T P mt go) {k : Nat} (hk : k < 18) : (lb T (2 * k) = 2 * k ↔ fs (EJ P mt go) k = true) ∧ (lb T (2 * k + 1) = 2 * k + 1 ↔ fs (EJ P mt go) k = true ∧ ¬ Tws (EJ P mt go) k) := by
  obtain ⟨g1, g2, g3⟩ := lst_spec (EJ P mt go) k
  obtain ⟨a1, a2, a3⟩ := lb_least hG h (x := 2 * k) (by omega)
  obtain ⟨b1, b2, b3⟩ := lb_least hG h (x := 2 * k + 1) (by omega)
  have up : fs (EJ P mt go) k = true → k ≤ lb T (2 * k) / 2 ∧ k ≤ lb T (2 * k + 1) / 2 := fun w => by
    have q1 := dR2.half a2
    have q2 := dR2.half b2
    rw [show 2 * k / 2 = k by omega] at q1
    rw [show (2 * k + 1) / 2 = k by omega] at q2
    exact ⟨Nat.not_lt.mp (fun z => fstB_iff.mp w _ z q1), Nat.not_lt.mp (fun z => fstB_iff.mp w _ z q2)⟩
  have dn : ¬ fs (EJ P mt go) k = true → lb T (2 * k) < 2 * k ∧ lb T (2 * k + 1) < 2 * k := fun w => by
    have l : lst (EJ P mt go) k ≠ k := fun z => w (lst_iff.mp z)
    obtain ⟨e, he, q⟩ := sR2.lift g3
    have q' := dR2.flip q
    rcases (show e = 0 ∨ e = 1 by omega) with rfl | rfl
    · rw [show 2 * k + 0 + 1 - 2 * ((2 * k + 0) % 2) = 2 * k + 1 by omega] at q'
      have r1 := a3 _ (by omega) q
      have r2 := b3 _ (by omega) q'
      omega
    · rw [show 2 * k + 1 + 1 - 2 * ((2 * k + 1) % 2) = 2 * k by omega] at q'
      have r1 := b3 _ (by omega) q
      have r2 := a3 _ (by omega) q'
      omega
  constructor
  · constructor
    · intro w
      by_cases c : fs (EJ P mt go) k = true
      · exact c
      · have := (dn c).1
        omega
    · intro w
      have := (up w).1
      omega
  · constructor
    · intro w
      by_cases c : fs (EJ P mt go) k = true
      · exact ⟨c, fun z => by have := b3 _ (by omega) z; omega⟩
      · have := (dn c).2
        omega
    · rintro ⟨w, z⟩
      have := (up w).2
      by_cases c : lb T (2 * k + 1) = 2 * k
      · rw [c] at b2
        exact absurd b2 z
      · omega
/-- an end that is its own label -/
def lf (T : MS) (u : Nat) : Nat := if lb T u = u then 1 else 0
theorem cbQ {T : MS} {P : Nat} {mt : Nat → Option Nat} {go : Nat → Nat} (hG : GW P mt go) (h : LabS T P mt go) {m k : Nat} (hm : fs (CJ P mt go) m = true) (hk : k < 12) : cb T k = m ↔ gno (CJ P mt go) k = cnt (fs (CJ P mt go)) m := by
  rw [cb_lst hG h hk]
  exact ⟨fun e => by unfold gno; rw [e], fun e => cnt_inj (lst_spec _ _).2.1 hm e⟩
theorem enI_lf {T : MS} {P : Nat} {mt : Nat → Option Nat} {go : Nat → Nat} (hG : GW P mt go) (h : LabS T P mt go) (g : Nat) {n e : Nat} (he : e < 6) (hn : n < 3) : (if fs (EJ P mt go) (6 * n + e) = true then enI (CJ P mt go) (EJ P mt go) g (6 * n + e) else 0) = (if gno (CJ P mt go) (4 * n + fE e) = g then lf T (12 * n + 2 * e) else 0) + (if gno (CJ P mt go) (4 * n + tE e) = g then lf T (12 * n + 2 * e + 1) else 0) := by
  obtain ⟨s1, s2⟩ := lb_self hG h (k := 6 * n + e) (by omega)
  rw [show 2 * (6 * n + e) = 12 * n + 2 * e by omega] at s1 s2
  unfold enI lf
  rw [show (6 * n + e) / 6 = n by omega, show (6 * n + e) % 6 = e by omega]
  by_cases c : fs (EJ P mt go) (6 * n + e) = true
  · rw [if_pos c, if_pos (s1.mpr c)]
    by_cases d : Tws (EJ P mt go) (6 * n + e)
    · rw [if_pos (twB_iff.mpr d), if_neg (fun w => (s2.mp w).2 d)]
      split <;> split <;> rfl
    · rw [if_neg (fun w => d (twB_iff.mp w)), if_pos (s2.mpr ⟨c, d⟩)]
  · rw [if_neg c, if_neg (fun w => c (s1.mp w)), if_neg (fun w => c (s2.mp w).1)]
    split <;> split <;> rfl
theorem lkE_lf (T : MS) (n a x : Nat) (ha : a < 4) : (if lkE T (4 * n + a) x = true then 1 else 0) = if x = a then 0 else lf T (endI n a x) := by
  unfold lkE lf
  rw [show (4 * n + a) % 4 = a by omega, show (4 * n + a) / 4 = n by omega]
  by_cases c : x = a
  · simp [c]
  · simp [c]
theorem cnt4 (p : Nat → Bool) : cnt p 4 = (if p 0 = true then 1 else 0) + (if p 1 = true then 1 else 0) + (if p 2 = true then 1 else 0) + (if p 3 = true then 1 else 0) := by
  show 0 + (if p 0 = true then 1 else 0) + (if p 1 = true then 1 else 0) + (if p 2 = true then 1 else 0) + (if p 3 = true then 1 else 0) = _
  rw [Nat.zero_add]
theorem lkEn_eq {T : MS} {P : Nat} {mt : Nat → Option Nat} {go : Nat → Nat} (hG : GW P mt go) (h : LabS T P mt go) {m : Nat} (hm : fs (CJ P mt go) m = true) : ∀ n, n ≤ 3 → lkEn T m (4 * n) = enD (CJ P mt go) (EJ P mt go) (cnt (fs (CJ P mt go)) m) (6 * n)
  | 0, _ => rfl
  | n + 1, hn => by
    have ih := lkEn_eq hG h hm n (by omega)
    have e1 : lkEn T m (4 * (n + 1)) = lkEn T m (4 * n) + (if lkQ T m (4 * n + 0) then cnt (lkE T (4 * n + 0)) 4 else 0) + (if lkQ T m (4 * n + 1) then cnt (lkE T (4 * n + 1)) 4 else 0) + (if lkQ T m (4 * n + 2) then cnt (lkE T (4 * n + 2)) 4 else 0) + (if lkQ T m (4 * n + 3) then cnt (lkE T (4 * n + 3)) 4 else 0) := rfl
    have e2 : ∀ f : Nat → Nat, fsum f (6 * (n + 1)) = fsum f (6 * n) + f (6 * n + 0) + f (6 * n + 1) + f (6 * n + 2) + f (6 * n + 3) + f (6 * n + 4) + f (6 * n + 5) := fun _ => rfl
    have hq : ∀ a, a < 4 → (if lkQ T m (4 * n + a) then cnt (lkE T (4 * n + a)) 4 else 0) = if gno (CJ P mt go) (4 * n + a) = cnt (fs (CJ P mt go)) m then (if 0 = a then 0 else lf T (endI n a 0)) + (if 1 = a then 0 else lf T (endI n a 1)) + (if 2 = a then 0 else lf T (endI n a 2)) + (if 3 = a then 0 else lf T (endI n a 3)) else 0 := fun a ha => by
      unfold lkQ
      rw [cnt4, lkE_lf T n a 0 ha, lkE_lf T n a 1 ha, lkE_lf T n a 2 ha, lkE_lf T n a 3 ha]
      by_cases c : cb T (4 * n + a) = m
      · rw [if_pos (decide_eq_true c), if_pos ((cbQ hG h hm (by omega)).mp c)]
      · rw [if_neg (fun w => c (of_decide_eq_true w)), if_neg (fun w => c ((cbQ hG h hm (by omega)).mpr w))]
    have i01 : endI n 0 1 = 12 * n + 0 := rfl
    have i02 : endI n 0 2 = 12 * n + 2 := rfl
    have i03 : endI n 0 3 = 12 * n + 4 := rfl
    have i10 : endI n 1 0 = 12 * n + 1 := rfl
    have i12 : endI n 1 2 = 12 * n + 6 := rfl
    have i13 : endI n 1 3 = 12 * n + 8 := rfl
    have i20 : endI n 2 0 = 12 * n + 3 := rfl
    have i21 : endI n 2 1 = 12 * n + 7 := rfl
    have i23 : endI n 2 3 = 12 * n + 10 := rfl
    have i30 : endI n 3 0 = 12 * n + 5 := rfl
    have i31 : endI n 3 1 = 12 * n + 9 := rfl
    have i32 : endI n 3 2 = 12 * n + 11 := rfl
    have h0 := hq 0 (by omega)
    have h1 := hq 1 (by omega)
    have h2 := hq 2 (by omega)
    have h3 := hq 3 (by omega)
    rw [if_pos (show 0 = 0 from rfl), if_neg (show ¬ (1 : Nat) = 0 by decide), if_neg (show ¬ (2 : Nat) = 0 by decide), if_neg (show ¬ (3 : Nat) = 0 by decide), i01, i02, i03] at h0
    rw [if_neg (show ¬ (0 : Nat) = 1 by decide), if_pos (show 1 = 1 from rfl), if_neg (show ¬ (2 : Nat) = 1 by decide), if_neg (show ¬ (3 : Nat) = 1 by decide), i10, i12, i13] at h1
    rw [if_neg (show ¬ (0 : Nat) = 2 by decide), if_neg (show ¬ (1 : Nat) = 2 by decide), if_pos (show 2 = 2 from rfl), if_neg (show ¬ (3 : Nat) = 2 by decide), i20, i21, i23] at h2
    rw [if_neg (show ¬ (0 : Nat) = 3 by decide), if_neg (show ¬ (1 : Nat) = 3 by decide), if_neg (show ¬ (2 : Nat) = 3 by decide), if_pos (show 3 = 3 from rfl), i30, i31, i32] at h3
    have k0 := enI_lf hG h (cnt (fs (CJ P mt go)) m) (n := n) (e := 0) (by omega) (by omega)
    rw [show fE 0 = 0 from rfl, show tE 0 = 1 from rfl, show 12 * n + 2 * 0 = 12 * n + 0 from rfl, show 12 * n + 0 + 1 = 12 * n + 1 from rfl] at k0
    have k1 := enI_lf hG h (cnt (fs (CJ P mt go)) m) (n := n) (e := 1) (by omega) (by omega)
    rw [show fE 1 = 0 from rfl, show tE 1 = 2 from rfl, show 12 * n + 2 * 1 = 12 * n + 2 from rfl, show 12 * n + 2 + 1 = 12 * n + 3 from rfl] at k1
    have k2 := enI_lf hG h (cnt (fs (CJ P mt go)) m) (n := n) (e := 2) (by omega) (by omega)
    rw [show fE 2 = 0 from rfl, show tE 2 = 3 from rfl, show 12 * n + 2 * 2 = 12 * n + 4 from rfl, show 12 * n + 4 + 1 = 12 * n + 5 from rfl] at k2
    have k3 := enI_lf hG h (cnt (fs (CJ P mt go)) m) (n := n) (e := 3) (by omega) (by omega)
    rw [show fE 3 = 1 from rfl, show tE 3 = 2 from rfl, show 12 * n + 2 * 3 = 12 * n + 6 from rfl, show 12 * n + 6 + 1 = 12 * n + 7 from rfl] at k3
    have k4 := enI_lf hG h (cnt (fs (CJ P mt go)) m) (n := n) (e := 4) (by omega) (by omega)
    rw [show fE 4 = 1 from rfl, show tE 4 = 3 from rfl, show 12 * n + 2 * 4 = 12 * n + 8 from rfl, show 12 * n + 8 + 1 = 12 * n + 9 from rfl] at k4
    have k5 := enI_lf hG h (cnt (fs (CJ P mt go)) m) (n := n) (e := 5) (by omega) (by omega)
    rw [show fE 5 = 2 from rfl, show tE 5 = 3 from rfl, show 12 * n + 2 * 5 = 12 * n + 10 from rfl, show 12 * n + 10 + 1 = 12 * n + 11 from rfl] at k5
    unfold enD at ih ⊢
    rw [e1, h0, h1, h2, h3, e2, ih, k0, k1, k2, k3, k4, k5]
    by_cases q0 : gno (CJ P mt go) (4 * n + 0) = cnt (fs (CJ P mt go)) m <;> by_cases q1 : gno (CJ P mt go) (4 * n + 1) = cnt (fs (CJ P mt go)) m <;> by_cases q2 : gno (CJ P mt go) (4 * n + 2) = cnt (fs (CJ P mt go)) m <;> by_cases q3 : gno (CJ P mt go) (4 * n + 3) = cnt (fs (CJ P mt go)) m <;> simp only [q0, q1, q2, q3, if_true, if_false] <;> omega
theorem lkS_i (mt : Nat → Option Nat) (n a x : Nat) (ha : a < 4) : (if lkS mt (4 * n + a) x = true then 1 else 0) = if x = a then 0 else if sdP mt 0 (4 * n + x) = true then 1 else 0 := by
  unfold lkS
  rw [show (4 * n + a) % 4 = a by omega, show (4 * n + a) / 4 = n by omega]
  by_cases c : x = a
  · simp [c]
  · simp [c]
theorem siI_i (J : LRel) (mt : Nat → Option Nat) (g n x a : Nat) (hx : x < 4) : (if siI J mt g (4 * n + x) a = true then 1 else 0) = if a = x then 0 else if gno J (4 * n + a) = g then (if sdP mt 0 (4 * n + x) = true then 1 else 0) else 0 := by
  unfold siI
  rw [show (4 * n + x) % 4 = x by omega, show (4 * n + x) / 4 = n by omega]
  by_cases c : a = x
  · simp [c]
  · by_cases d : sdP mt 0 (4 * n + x) = true
    · simp [c, d]
    · simp [c, d]
theorem lkSn_eq {T : MS} {P : Nat} {mt : Nat → Option Nat} {go : Nat → Nat} (hG : GW P mt go) (h : LabS T P mt go) {m : Nat} (hm : fs (CJ P mt go) m = true) : ∀ n, n ≤ 3 → lkSn T mt m (4 * n) = siD (CJ P mt go) mt (cnt (fs (CJ P mt go)) m) (4 * n)
  | 0, _ => rfl
  | n + 1, hn => by
    have ih := lkSn_eq hG h hm n (by omega)
    have e1 : lkSn T mt m (4 * (n + 1)) = lkSn T mt m (4 * n) + (if lkQ T m (4 * n + 0) then cnt (lkS mt (4 * n + 0)) 4 else 0) + (if lkQ T m (4 * n + 1) then cnt (lkS mt (4 * n + 1)) 4 else 0) + (if lkQ T m (4 * n + 2) then cnt (lkS mt (4 * n + 2)) 4 else 0) + (if lkQ T m (4 * n + 3) then cnt (lkS mt (4 * n + 3)) 4 else 0) := rfl
    have e2 : ∀ f : Nat → Nat, fsum f (4 * (n + 1)) = fsum f (4 * n) + f (4 * n + 0) + f (4 * n + 1) + f (4 * n + 2) + f (4 * n + 3) := fun _ => rfl
    have hq : ∀ a, a < 4 → (if lkQ T m (4 * n + a) then cnt (lkS mt (4 * n + a)) 4 else 0) = if gno (CJ P mt go) (4 * n + a) = cnt (fs (CJ P mt go)) m then (if 0 = a then 0 else if sdP mt 0 (4 * n + 0) = true then 1 else 0) + (if 1 = a then 0 else if sdP mt 0 (4 * n + 1) = true then 1 else 0) + (if 2 = a then 0 else if sdP mt 0 (4 * n + 2) = true then 1 else 0) + (if 3 = a then 0 else if sdP mt 0 (4 * n + 3) = true then 1 else 0) else 0 := fun a ha => by
      unfold lkQ
      rw [cnt4, lkS_i mt n a 0 ha, lkS_i mt n a 1 ha, lkS_i mt n a 2 ha, lkS_i mt n a 3 ha]
      by_cases c : cb T (4 * n + a) = m
      · rw [if_pos (decide_eq_true c), if_pos ((cbQ hG h hm (by omega)).mp c)]
      · rw [if_neg (fun w => c (of_decide_eq_true w)), if_neg (fun w => c ((cbQ hG h hm (by omega)).mpr w))]
    have h0 := hq 0 (by omega)
    rw [if_pos (show 0 = 0 from rfl), if_neg (show ¬ (1 : Nat) = 0 by decide), if_neg (show ¬ (2 : Nat) = 0 by decide), if_neg (show ¬ (3 : Nat) = 0 by decide)] at h0
    have h1 := hq 1 (by omega)
    rw [if_neg (show ¬ (0 : Nat) = 1 by decide), if_pos (show 1 = 1 from rfl), if_neg (show ¬ (2 : Nat) = 1 by decide), if_neg (show ¬ (3 : Nat) = 1 by decide)] at h1
    have h2 := hq 2 (by omega)
    rw [if_neg (show ¬ (0 : Nat) = 2 by decide), if_neg (show ¬ (1 : Nat) = 2 by decide), if_pos (show 2 = 2 from rfl), if_neg (show ¬ (3 : Nat) = 2 by decide)] at h2
    have h3 := hq 3 (by omega)
    rw [if_neg (show ¬ (0 : Nat) = 3 by decide), if_neg (show ¬ (1 : Nat) = 3 by decide), if_neg (show ¬ (2 : Nat) = 3 by decide), if_pos (show 3 = 3 from rfl)] at h3
    have k0 : siN (CJ P mt go) mt (cnt (fs (CJ P mt go)) m) (4 * n + 0) = _ := cnt4 _
    rw [siI_i _ mt _ n 0 0 (by omega), siI_i _ mt _ n 0 1 (by omega), siI_i _ mt _ n 0 2 (by omega), siI_i _ mt _ n 0 3 (by omega), if_pos (show 0 = 0 from rfl), if_neg (show ¬ (1 : Nat) = 0 by decide), if_neg (show ¬ (2 : Nat) = 0 by decide), if_neg (show ¬ (3 : Nat) = 0 by decide)] at k0
    have k1 : siN (CJ P mt go) mt (cnt (fs (CJ P mt go)) m) (4 * n + 1) = _ := cnt4 _
    rw [siI_i _ mt _ n 1 0 (by omega), siI_i _ mt _ n 1 1 (by omega), siI_i _ mt _ n 1 2 (by omega), siI_i _ mt _ n 1 3 (by omega), if_neg (show ¬ (0 : Nat) = 1 by decide), if_pos (show 1 = 1 from rfl), if_neg (show ¬ (2 : Nat) = 1 by decide), if_neg (show ¬ (3 : Nat) = 1 by decide)] at k1
    have k2 : siN (CJ P mt go) mt (cnt (fs (CJ P mt go)) m) (4 * n + 2) = _ := cnt4 _
    rw [siI_i _ mt _ n 2 0 (by omega), siI_i _ mt _ n 2 1 (by omega), siI_i _ mt _ n 2 2 (by omega), siI_i _ mt _ n 2 3 (by omega), if_neg (show ¬ (0 : Nat) = 2 by decide), if_neg (show ¬ (1 : Nat) = 2 by decide), if_pos (show 2 = 2 from rfl), if_neg (show ¬ (3 : Nat) = 2 by decide)] at k2
    have k3 : siN (CJ P mt go) mt (cnt (fs (CJ P mt go)) m) (4 * n + 3) = _ := cnt4 _
    rw [siI_i _ mt _ n 3 0 (by omega), siI_i _ mt _ n 3 1 (by omega), siI_i _ mt _ n 3 2 (by omega), siI_i _ mt _ n 3 3 (by omega), if_neg (show ¬ (0 : Nat) = 3 by decide), if_neg (show ¬ (1 : Nat) = 3 by decide), if_neg (show ¬ (2 : Nat) = 3 by decide), if_pos (show 3 = 3 from rfl)] at k3
    unfold siD at ih ⊢
    rw [e1, h0, h1, h2, h3, e2, ih, k0, k1, k2, k3]
    by_cases q0 : gno (CJ P mt go) (4 * n + 0) = cnt (fs (CJ P mt go)) m <;> by_cases q1 : gno (CJ P mt go) (4 * n + 1) = cnt (fs (CJ P mt go)) m <;> by_cases q2 : gno (CJ P mt go) (4 * n + 2) = cnt (fs (CJ P mt go)) m <;> by_cases q3 : gno (CJ P mt go) (4 * n + 3) = cnt (fs (CJ P mt go)) m <;> simp only [q0, q1, q2, q3, if_true, if_false] <;> omega
theorem lkA_eq {T : MS} {P : Nat} {mt : Nat → Option Nat} {go : Nat → Nat} (hG : GW P mt go) (h : LabS T P mt go) {m : Nat} (hm : fs (CJ P mt go) m = true) : lkA T P mt m = lnkC P mt go (cnt (fs (CJ P mt go)) m) := by
  have hP := hG.1
  have hc : cnt (lkQ T m) (4 * P) = cnt (coB (CJ P mt go) (cnt (fs (CJ P mt go)) m)) (4 * P) := cnt_cg _ (fun k hk => by
    unfold lkQ coB
    by_cases c : cb T k = m
    · rw [decide_eq_true c, decide_eq_true ((cbQ hG h hm (by omega)).mp c)]
    · rw [decide_eq_false c, decide_eq_false (fun w => c ((cbQ hG h hm (by omega)).mpr w))])
  unfold lkA lnkC
  rw [lkEn_eq hG h hm P hP, lkSn_eq hG h hm P hP, hc]
theorem link_B {T : MS} {P : Nat} {mt : Nat → Option Nat} {go : Nat → Nat} (hG : GW P mt go) (h : LabS T P mt go) {k : Int32} (hk : ¬ inR (cnt (fs (CJ P mt go)) (4 * P)) k) : linkA T P mt k = -2147483648 := by
  have hP := hG.1
  unfold linkA
  by_cases c : k < 0
  · rw [if_pos c]
  · obtain ⟨m, hm, rfl⟩ := nI_of c
    rw [if_neg c, nI_clamp hm, (fnd_q (fun k hk => dec_fs (cb_lst hG h (show k < 12 by omega))) m).2 (Nat.not_lt.mp (fun w => hk (inR_nI (by have := cnt_le (fs (CJ P mt go)) (4 * P); omega) w)))]
theorem link_N {T : MS} {P : Nat} {mt : Nat → Option Nat} {go : Nat → Nat} (hG : GW P mt go) (h : LabS T P mt go) {k : Nat} (hk : k < cnt (fs (CJ P mt go)) (4 * P)) : linkA T P mt (nI k) = lnkC P mt go k := by
  have hP := hG.1
  have hb : k < 2 ^ 31 := by have := cnt_le (fs (CJ P mt go)) (4 * P); omega
  obtain ⟨m, m1, m2, m3⟩ := cnt_find _ _ hk
  unfold linkA
  rw [if_neg (nI_pos hb), nI_clamp hb, (fnd_q (fun k hk => dec_fs (cb_lst hG h (show k < 12 by omega))) _).1 m m1 m2 m3]
  show lkA T P mt m = _
  rw [lkA_eq hG h m2, m3]
