/-! linking: legal, euler, parts -/
theorem setS_sOf {S : MS} (hS : SHN S) : ∀ n, n ≤ 21 → setS S n = sOf (sv S) n
  | 0, _ => rfl
  | n + 1, hn => by
    obtain ⟨h1, h2⟩ := hS n (by omega)
    rw [setS_s, setS_sOf hS n (by omega)]
    show _ = sOf (sv S) n ||| (if sv S n = 0 then nI 0 else nI 1 <<< (nI n &&& 31))
    by_cases c : sv S n = 0
    · rw [if_pos c, if_pos (by rw [h1, c]; rfl)]
    · rw [if_neg c, if_neg (fun w => c ((nI_z (by omega)).mp (h1.symm.trans w)))]
theorem mx_iff {sh : Nat → Nat} {p : Nat} : mxP sh p ↔ (sh (7 * p + 4) ≠ 0 ∧ sh (7 * p + 5) ≠ 0) ∨ (sh (7 * p + 4) ≠ 0 ∧ sh (7 * p + 6) ≠ 0) ∨ (sh (7 * p + 5) ≠ 0 ∧ sh (7 * p + 6) ≠ 0) := by
  unfold mxP
  have e : cnt (mxI sh p) 3 = (if sh (7 * p + 4) ≠ 0 then 1 else 0) + (if sh (7 * p + 5) ≠ 0 then 1 else 0) + (if sh (7 * p + 6) ≠ 0 then 1 else 0) := by
    have : ∀ k, (mxI sh p k = true) = (sh (7 * p + (4 + k)) ≠ 0) := fun k => propext decide_eq_true_iff
    show 0 + (if mxI sh p 0 = true then 1 else 0) + (if mxI sh p 1 = true then 1 else 0) + (if mxI sh p 2 = true then 1 else 0) = _
    simp only [this]
    rw [Nat.zero_add]
  rw [e]
  by_cases a : sh (7 * p + 4) ≠ 0 <;> by_cases b : sh (7 * p + 5) ≠ 0 <;> by_cases c : sh (7 * p + 6) ≠ 0 <;> simp [a, b, c]
theorem two_iff {P : Nat} (hP : P ≤ 3) {sh : Nat → Nat} (hz : ∀ i, 7 * P ≤ i → sh i = 0) : anyN (twoK (sOf sh (7 * P))) P = 0 ↔ ∀ p, p < 3 → ¬ mxP sh p := by
  rw [anyN_z]
  have k : ∀ p, p < P → (twoK (sOf sh (7 * P)) p = true ↔ mxP sh p) := fun p hp => by
    rw [twoK_iff _ (by omega), sOf_bit _ _ (by omega), sOf_bit _ _ (by omega), sOf_bit _ _ (by omega), mx_iff]
    simp [show 7 * p + 4 < 7 * P by omega, show 7 * p + 5 < 7 * P by omega, show 7 * p + 6 < 7 * P by omega]
  constructor
  · intro h p hp w
    by_cases c : p < P
    · exact h p c ((k p c).mpr w)
    · have w := mx_iff.mp w
      have z1 := hz (7 * p + 4) (by omega)
      have z2 := hz (7 * p + 5) (by omega)
      omega
  · intro h p hp w
    exact h p (by omega) ((k p hp).mp w)
theorem leg_eq {S : MS} {P : Nat} {mt : Nat → Option Nat} {go : Nat → Nat} (hP : P ≤ 3) (hS : SHN S) (hz : ∀ i, 7 * P ≤ i → sv S i = 0) {a b : Nat} (ha : FiA P mt go (sv S) a) (hb : MxA (sv S) b) : legA S P mt go (if a = 0 then 1 else if b = 0 then 0 else 2) := by
  unfold legA
  rw [setS_sOf hS _ (by omega), two_iff hP hz]
  rcases ha with ⟨rfl, ha⟩ | ⟨rfl, ha⟩
  · rw [if_neg (by omega)]
    rcases hb with ⟨rfl, p, h1, h2⟩ | ⟨rfl, hb⟩
    · exact Or.inr (Or.inr ⟨ha, fun w => (two_iff hP hz).mp w p h1 h2, rfl⟩)
    · exact Or.inl ⟨ha, hb, rfl⟩
  · exact Or.inr (Or.inl ⟨ha, rfl⟩)
theorem fsum_z {f : Nat → Nat} {m : Nat} (h : ∀ i, m ≤ i → f i = 0) : ∀ k, fsum f (m + k) = fsum f m
  | 0 => rfl
  | k + 1 => by
    show fsum f (m + k) + f (m + k) = _
    rw [fsum_z h k, h _ (by omega), Nat.add_zero]
theorem f21 {P : Nat} (hP : P ≤ 3) {sh : Nat → Nat} (hz : ∀ i, 7 * P ≤ i → sh i = 0) : fsum sh 21 = fsum sh (7 * P) := by
  have := fsum_z hz (21 - 7 * P)
  rwa [show 7 * P + (21 - 7 * P) = 21 by omega] at this
theorem eul_eq {T : MS} {P : Nat} {mt : Nat → Option Nat} {go : Nat → Nat} (hG : GW P mt go) (h : LabS T P mt go) (hz : ∀ i, 7 * P ≤ i → sv T i = 0) : eulA T P mt = eulC P mt go (sv T) := by
  have hP := hG.1
  unfold eulA eulC ptC
  have e : fsum (ptO T) (6 * P) = fsum (fun m => if fs (EJ P mt go) m = true then fsum (ptI (sv T) m) 7 else 0) (6 * P) := fsum_congr _ (fun i hi => by
    unfold ptO
    have q := dec_fs (eL_lst hG h (show i < 18 by omega))
    by_cases c : fs (EJ P mt go) i = true
    · rw [if_pos c, if_pos (of_decide_eq_true (q.trans c))]
    · rw [if_neg c, if_neg (fun w => c (q.symm.trans (decide_eq_true w)))])
  rw [e, f21 hP hz]
/-- the class's joins are the reference's -/
theorem pj_lk {P : Nat} {mt : Nat → Option Nat} {go : Nat → Nat} {sh : Nat → Nat} (hG : GW P mt go) (hF : Fits P mt go sh) {x y : Nat} {b : Bool} (h : Lk P mt go sh x y b) : PJ P mt go sh x y b ∨ PJ P mt go sh y x b := by
  obtain ⟨s, c, i, t, h1, h2, h3, h4, h5, h6, h7, h8⟩ := h
  obtain ⟨g1, g2, g3, g4, g5⟩ := hG.2 s h1 t h2
  by_cases lt : s < t
  · exact Or.inl ⟨s, c, i, Or.inl h1, prN_t h2 lt, t, h1, h2, h3, h4, h5, h6, h7, h8⟩
  · right
    have gc := g4 c h3
    have ne : go (4 * s + c) ≠ t % 4 := fun w => hG.gne h1 h2 h3 (by omega) h4 (w.trans g5.symm)
    refine ⟨t, go (4 * s + c), i, Or.inl g1, prN_t g3 (by omega), s, g1, g3, gc.1, ne, ?_, h7, ?_, ?_⟩
    · by_cases q : arcP sh (s / 4) (s % 4) c = arcP sh (t / 4) (t % 4) (go (4 * s + c))
      · rw [← q]; exact h5
      · exact absurd ⟨t, h2, h4, q⟩ (hF s h1 c h3)
    · rw [gc.2]; exact h6
    · rw [gc.2, h8]
      exact bne_comm
theorem lk_of_pj {P : Nat} {mt : Nat → Option Nat} {go : Nat → Nat} {sh : Nat → Nat} {x y : Nat} {b : Bool} (h : PJ P mt go sh x y b) : Lk P mt go sh x y b := by
  obtain ⟨s, c, i, -, -, h⟩ := h
  exact ⟨s, c, i, h⟩
theorem dR2.sw {L : LRel} {x y : Nat} {b : Bool} (h : L y x b) {u v : Nat} (w : (u = 2 * x ∧ v = 2 * y + bN b) ∨ (u = 2 * x + 1 ∧ v = 2 * y + (1 - bN b))) : cR (dR2 L) u v := by
  have hb := bN_lt b
  refine cR.symm (cR.of ⟨y, x, b, h, ?_⟩)
  omega
theorem pj_d {P : Nat} {mt : Nat → Option Nat} {go : Nat → Nat} {sh : Nat → Nat} (hG : GW P mt go) (hF : Fits P mt go sh) (x y : Nat) : cR (dR2 (Lk P mt go sh)) x y ↔ cR (dR2 (PJ P mt go sh)) x y :=
  ⟨cR.mono (fun u v ⟨a, c, b, h, w⟩ => (pj_lk hG hF h).elim (fun q => cR.of ⟨a, c, b, q, w⟩) (fun q => dR2.sw q w)), cR.mono (fun u v ⟨a, c, b, h, w⟩ => cR.of ⟨a, c, b, lk_of_pj h, w⟩)⟩
theorem pj_s {P : Nat} {mt : Nat → Option Nat} {go : Nat → Nat} {sh : Nat → Nat} (hG : GW P mt go) (hF : Fits P mt go sh) (x y : Nat) : cR (sR2 (Lk P mt go sh)) x y ↔ cR (sR2 (PJ P mt go sh)) x y :=
  ⟨cR.mono (fun u v ⟨b, h⟩ => (pj_lk hG hF h).elim (fun q => cR.of ⟨b, q⟩) (fun q => cR.symm (cR.of ⟨b, q⟩))), cR.mono (fun u v ⟨b, h⟩ => cR.of ⟨b, lk_of_pj h⟩)⟩
theorem fs_cg {J K : LRel} (h : ∀ x y, cR (sR2 J) x y ↔ cR (sR2 K) x y) : fs J = fs K := by
  funext x
  have : fs J x = true ↔ fs K x = true := by
    unfold fs
    rw [fstB_iff, fstB_iff]
    exact ⟨fun w y hy q => w y hy ((h _ _).mpr q), fun w y hy q => w y hy ((h _ _).mp q)⟩
  exact Bool.eq_iff_iff.mpr this
theorem gno_cg {J K : LRel} (h : ∀ x y, cR (sR2 J) x y ↔ cR (sR2 K) x y) : gno J = gno K := by
  funext x
  unfold gno
  have e : lst J x = lst K x := by
    have a := lst_spec J x
    have b := lst_spec K x
    refine fst_un (R := sR2 K) ?_ b.2.1 (((h _ _).mp a.2.2).trans b.2.2.symm)
    have := a.2.1
    rw [fs_cg h] at this
    exact this
  rw [e, fs_cg h]
