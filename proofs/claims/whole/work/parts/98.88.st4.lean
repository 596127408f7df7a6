/-! both memories together: holes -/
def CovH (K : Nat) (T : Nat → MT) : Prop := ∀ {P : Nat} {mt : Nat → Option Nat} {go L : Nat → Nat}, GW P mt go → NB P mt go L → ∀ (n : Nat → Nat) (x : Nat → Nat → WS), (∀ k, k < 6 * P → n k < 6 * P ∧ WX mt go k (n k) (x k)) → ∃ k, k < K ∧ ∃ p q e f, EqvW (lpM mt n x (lps (fun k => fs (EJ P mt go) k && clo mt go n x k) (6 * P))) 0 ((lps (fun k => fs (EJ P mt go) k && clo mt go n x k) (6 * P)).length) (cnt (prN mt) (4 * P)) (T k) p q e f
section
variable {R C K : Nat} {T : Nat → MT} {lab : Nat → List Nat} {mu : Nat → Nat} {L0 : List Nat}
theorem GT.hcP (hT : TabOK K T lab mu) : HC R C (fun d n A => GT R C K T lab mu L0 d n A ∧ ∀ i, i < d → 0 ≤ A i i) := by
  intro d n A hGp hd hd2
  obtain ⟨hG, hp⟩ := hGp
  obtain ⟨s, h⟩ := GT.hc hT d n A hG hd hd2
  refine ⟨s, fun r c hle B hB => ?_⟩
  obtain ⟨a, b, c'⟩ := h r c hle B hB
  have sw : ∀ i, i < d → swM A d r c i i = A i i := fun i hi => by
    have e1 : swC d r i = i := by
      show (if i = r then d else if i = d then r else i) = i
      have := hle.1.1
      rw [if_neg (by omega), if_neg (by omega)]
    have e2 : swC d c i = i := by
      show (if i = c then d else if i = d then c else i) = i
      have := hle.2.1.1
      rw [if_neg (by omega), if_neg (by omega)]
    show A (swC d r i) (swC d c i) = A i i
    rw [e1, e2]
  have pB : ∀ i, i < d → 0 ≤ B i i := fun i hi => by
    rw [hB]
    unfold brM
    by_cases w : swM A d r c d d < 0
    · rw [if_pos w]
      unfold ngM
      rw [if_neg (by omega), sw i hi]
      exact hp i hi
    · rw [if_neg w, sw i hi]
      exact hp i hi
  have pd : 0 ≤ B d d := by
    rw [hB]
    unfold brM
    by_cases w : swM A d r c d d < 0
    · rw [if_pos w]
      unfold ngM
      rw [if_pos ⟨rfl, Nat.le_refl _, hd2⟩]
      omega
    · rw [if_neg w]
      omega
  have r1 : ∀ i, i ≤ d → rdR B d R i i = B i i := fun i hi => if_neg (by omega)
  have r2 : ∀ i, i ≤ d → rcM (rdR B d R) d C i i = B i i := fun i hi => by
    have : rcM (rdR B d R) d C i i = trM (rdR B d R) i i := if_neg (by omega)
    rw [this]
    exact r1 i hi
  refine ⟨a, fun w => ?_, fun w D hD => ?_⟩
  · obtain ⟨n', n1, n2⟩ := b w
    exact ⟨n', n1, n2, fun i hi => by rw [r1 i (by omega)]; exact pB i hi⟩
  · obtain ⟨x, y, z⟩ := c' w D hD
    have rD : ∀ i, i ≤ d → D i i = B i i := by rw [hD]; exact r2
    refine ⟨x, fun w => ?_, fun w => ?_⟩
    · obtain ⟨n', n1, n2⟩ := y w
      exact ⟨n', n1, n2, fun i hi => by rw [rD i (by omega)]; exact pB i hi⟩
    · obtain ⟨u, v⟩ := z w
      refine ⟨fun r' c'' a1 a2 a3 a4 a5 => ?_, fun q => ?_⟩
      · obtain ⟨n', n1, n2⟩ := u r' c'' a1 a2 a3 a4 a5
        refine ⟨n', n1, n2, fun i hi => ?_⟩
        have : adR D d r' i i = D i i := if_neg (by omega)
        rw [this, rD i (by omega)]
        exact pB i hi
      · obtain ⟨n', n1, n2⟩ := v q
        refine ⟨n', n1, n2, fun i hi => ?_⟩
        rw [rD i (by omega)]
        by_cases e : i = d
        · rw [e]; exact pd
        · exact pB i (by omega)
end
theorem abO_one {B B' : MT} {rk : Nat} (hr : rk ≤ 6) (h : ∀ d, d < rk → B d d = B' d d) {i z z' : Int32} (g : abO B rk i z) (g' : abO B' rk i z') : z = z' := by
  have fd : ∀ d, d < rk → dgF B d = dgF B' d := fun d hd => by
    unfold dgF
    rw [h d hd]
  have fc : ∀ d, d ≤ rk → cnt (dgF B) d = cnt (dgF B') d := fun d hd => cnt_cg d (fun k hk => fd k (by omega))
  have one : ∀ d d', d < rk → d' < rk → dgF B' d = true → dgF B' d' = true → nI (cnt (dgF B') d + 1) = nI (cnt (dgF B') d' + 1) → d = d' := fun d d' a1 a2 a3 a4 e => by
    have c1 := cnt_le (dgF B') d
    have c2 := cnt_le (dgF B') d'
    have e := (nI_eq (by omega) (by omega)).mp e
    by_cases w : d < d'
    · have := cnt_lt2 a3 w; omega
    · by_cases w2 : d' < d
      · have := cnt_lt2 a4 w2; omega
      · omega
  rcases g with ⟨d, a1, a2, a3, a4⟩ | ⟨a1, a2⟩
  · rw [fd d a1] at a2
    rw [fc d (by omega)] at a3
    rcases g' with ⟨d', b1, b2, b3, b4⟩ | ⟨b1, b2⟩
    · have := one d d' a1 b1 a2 b2 (a3.trans b3.symm)
      subst this
      rw [a4, b4, h d a1]
    · exact absurd a3 (b2 d a1 a2)
  · rcases g' with ⟨d', b1, b2, b3, b4⟩ | ⟨b1, b2⟩
    · exact absurd (by rw [fc d' (by omega)]; exact b3) (a2 d' b1 (by rw [fd d' b1]; exact b2))
    · rw [a1, b1]
theorem InvC.ok {S T : MS} {P : Nat} {mt : Nat → Option Nat} {go : Nat → Nat} {sh : Nat → Nat} (hG : GW P mt go) (h : InvC S P mt go sh) (k : oKeep S T) (q : RQ T) : InvC T P mt go sh := by
  obtain ⟨a, b, c, d, e⟩ := h
  exact ⟨a.keep (fun i hi => k.1 i (by omega)) (fun i j _ hi => k.2.2.2 i j (by omega)), b.eq (k.1 178 (by omega)), c.keep hG (fun i hi => k.2.2.1 i (by omega)) (fun i _ hi => k.1 i (by omega)) (k.2.2.2 _ _ (by omega)) (k.2.2.2 _ _ (by omega)) (k.2.2.2 _ _ (by omega)), PS.keep d (k.2.2.2 _ _ (by omega)) (fun i _ hi => k.1 i (by omega)) (k.2.2.2 _ _ (by omega)), q⟩
theorem st_holes (X : am_X) {S : MS} {P : Nat} {mt : Nat → Option Nat} {go : Nat → Nat} {K : Nat} {T : Nat → MT} {lab : Nat → List Nat} {mu : Nat → Nat} (hT : TabOK K T lab mu) (hV : CovH K T) (h : Inv S P mt go) (i : Int32) : LawS X 88 148 [.int i] S := by
  obtain ⟨hG, hC, hR⟩ := h
  have hP := hG.1
  by_cases hi : 0 ≤ i
  · by_cases hA : ∀ m, m < 6 * P → fs (EJ P mt go) m = true → ¬ Tws (EJ P mt go) m
    · obtain ⟨T0, -, -, l0⟩ := mc_label X S P mt go hG hR.1
      have h0 := (bent_0 hG l0).mpr hA
      have hb : ∀ k, k < 6 * P → lb T0 (2 * k) ≠ lb T0 (2 * k + 1) := fun k hk e => by
        have := cnt_lt2 (q := fun k => decide (lb T0 (2 * k) = lb T0 (2 * k + 1))) (decide_eq_true e) hk
        unfold anyN at h0
        rw [if_neg (by omega)] at h0
        cases h0
      have hN := l0.nb hb
      have ex : ∀ k, ∃ n : Nat, ∃ x : Nat → WS, k < 6 * P → n < 6 * P ∧ WX mt go k n x := fun k => by
        by_cases c : k < 6 * P
        · obtain ⟨n, x, a, b⟩ := WX_ex hG hN c
          exact ⟨n, x, fun _ => ⟨a, b⟩⟩
        · exact ⟨0, fun _ => (0, 0, 0), fun w => absurd w c⟩
      obtain ⟨n, hn⟩ := Classical.skolem.mp ex
      obtain ⟨x, hx⟩ := Classical.skolem.mp hn
      obtain ⟨k, hk, hE⟩ := hV hG hN n x hx
      obtain ⟨v, T1, m1, kT, rk, nn, B, z, a1, rfl, a3, a4, a5, a6, a7⟩ := mx_holesC3 X S P mt go (lb T0) hG hC.1 hA hN hC.2.2.2.2 n x hx (fun d n A => GT _ _ K T lab mu (lab k) d n A ∧ ∀ i, i < d → 0 ≤ A i i) (GT.hcP hT) (fun rk nn B g => g.1.sm) (mu k) (hT k hk).2.1 ⟨GT.start hk hE, fun i hi => by omega⟩ i hi
      have kr : KR S T1 := ⟨fun j hj => kT.1 j (by omega), kT.2.2.2 _ _ (by omega)⟩
      have hI : Inv T1 P mt go := Inv.mk' hG (hC.ok hG kT a5) hR kr
      obtain ⟨v2, U, m2, ⟨V, k1, k2⟩, rk', nn', B', z', b1, rfl, b3, b4, b6, b7⟩ := mx_holesR3 X T1 P mt go hG hI.2.2.1 (fun T l => (bent_0 hG l).mpr hA) (fs (EJ P mt go)) (fun T l k hk => dec_fs (eL_lst hG l (by omega))) (cnt (fs (SJ P mt go)) P) (fun T l => sb_cnt hG l hP) n x (fun k hk => (hx k hk).2) (GT _ _ K T lab mu (lab k)) (GT.hr hT) (fun rk nn B g => g.sm) (mu k) (GT.start hk hE) i hi
      obtain ⟨er, ed⟩ := GT.same hT a3.1 a4 b3 b4
      subst er
      have hz : z = z' := by
        by_cases i0 : i = 0
        · rw [a6 i0, b6 i0]
        · refine abO_one (B' := abM B') ?_ (fun d hd => ?_) (a7 i0) (b7 i0)
          · have := prs_6 hG
            omega
          · have p := a3.2 d hd
            have e := ed d hd
            show B d d = ((B' d d).natAbs : Int)
            omega
      subst hz
      exact ⟨z, T1, U, m1, m2, P, mt, go, (hI.ref k1.kc k1.ks).ref k2.kc k2.ks⟩
    · have hA' : ∃ m, m < 6 * P ∧ fs (EJ P mt go) m = true ∧ Tws (EJ P mt go) m := by
        apply Classical.byContradiction
        intro w
        exact hA (fun m a b c => w ⟨m, a, b, c⟩)
      obtain ⟨U, m2, kk⟩ := mx_holesR2 X S P mt go hG hR.1 (fun T l => by
        have := anyN_lt (fun k => decide (lb T (2 * k) = lb T (2 * k + 1))) (6 * P)
        have n0 : anyN (fun k => decide (lb T (2 * k) = lb T (2 * k + 1))) (6 * P) ≠ 0 := fun w => hA ((bent_0 hG l).mp w)
        omega) i hi
      exact ⟨_, S, U, mc_holesC2 X S P mt go hP hC.1.2.2.1 hA' i hi, m2, P, mt, go, Inv.ref ⟨hG, hC, hR⟩ kk.kc kk.ks⟩
  · exact ⟨_, S, S, mc_holesC1 X S i hi, mc_holesR1 X S i hi, P, mt, go, hG, hC, hR⟩
