/-! the reference: spread, walked -/
theorem or_dup {p q : Prop} : ((p ∨ q) ∨ q) ↔ (p ∨ q) := ⟨fun h => h.elim id Or.inr, Or.inl⟩
theorem SP.many {S T : MS} {N cut size m m' : Nat} {Dn : Nat → Bool → Prop} (h : SP S T N cut size m Dn) (e : m' = m) : SP S T N cut size m' Dn := by
  rw [e]
  exact h
theorem tw1 {S T : MS} {N cut size many y : Nat} {b : Bool} {Dn : Nat → Bool → Prop} (h : SP S T N cut size many Dn) (c : ¬ T.1 189 24 = 0) : (nI 1 = 1 ∧ (T.1 189 24 = 1 ∨ ¬ T.2.1 205 y = sgn b (S.2.1 205 cut))) ∨ (nI 1 = 0 ∧ T.1 189 24 = 0 ∧ T.2.1 205 y = sgn b (S.2.1 205 cut)) := Or.inl ⟨rfl, Or.inl (h.2.2.2.2.2.2.2.2.1.resolve_left c)⟩
theorem twx {S T : MS} {N cut size many y : Nat} {b : Bool} {Dn : Nat → Bool → Prop} (h : SP S T N cut size many Dn) (c : T.1 189 24 = 0) (d : ¬ T.2.1 205 y = sgn b (S.2.1 205 cut)) : (nI 1 = 1 ∧ (T.1 189 24 = 1 ∨ ¬ T.2.1 205 y = sgn b (S.2.1 205 cut))) ∨ (nI 1 = 0 ∧ T.1 189 24 = 0 ∧ T.2.1 205 y = sgn b (S.2.1 205 cut)) := Or.inl ⟨rfl, Or.inr d⟩
theorem tw0 {S T : MS} {N cut size many y : Nat} {b : Bool} {Dn : Nat → Bool → Prop} (h : SP S T N cut size many Dn) (c : T.1 189 24 = 0) (d : T.2.1 205 y = sgn b (S.2.1 205 cut)) : (nI 0 = 1 ∧ (T.1 189 24 = 1 ∨ ¬ T.2.1 205 y = sgn b (S.2.1 205 cut))) ∨ (nI 0 = 0 ∧ T.1 189 24 = 0 ∧ T.2.1 205 y = sgn b (S.2.1 205 cut)) := Or.inr ⟨rfl, c, d⟩
def mny (S T : MS) (N size : Nat) : Nat := cnt (vb T) N + size - cnt (vb S) N
theorem SP.mny {S T : MS} {N cut size many : Nat} {Dn : Nat → Bool → Prop} (h : SP S T N cut size many Dn) : mny S T N size = many := by
  have h7 := h.2.2.2.2.2.2.1
  show cnt (vb T) N + size - cnt (vb S) N = many
  omega
def DnI (P : Nat) (mt : Nat → Option Nat) (go : Nat → Nat) (sh : Nat → Nat) (cut s0 c0 i0 : Nat) (y : Nat) (b : Bool) : Prop := ∃ s c i, (s < s0 ∨ (s = s0 ∧ (c < c0 ∨ (c = c0 ∧ i < i0)))) ∧ LkA P mt go sh s c i cut y b
section DN
variable {P : Nat} {mt : Nat → Option Nat} {go : Nat → Nat} {sh : Nat → Nat} {cut s c i k : Nat}
theorem DnI.first (h1 : fsum sh k ≤ cut) (h2 : cut < fsum sh (k + 1)) (y : Nat) (b : Bool) : ¬ DnI P mt go sh cut (4 * (k / 7)) 0 0 y b := by
  rintro ⟨s, c, i, h, t, g1, g2, g3, g4, g5, g6, -⟩
  have := cut_piece g3 g4 g5 (g6 ▸ h1) (g6 ▸ h2)
  omega
theorem DnI.last (h1 : fsum sh k ≤ cut) (h2 : cut < fsum sh (k + 1)) (y : Nat) (b : Bool) : DnI P mt go sh cut (4 * (k / 7) + 4) 0 0 y b ↔ Lk P mt go sh cut y b := by
  constructor
  · rintro ⟨s, c, i, -, h⟩
    exact ⟨s, c, i, h⟩
  · rintro ⟨s, c, i, t, g1, g2, g3, g4, g5, g6, g7⟩
    have := cut_piece g3 g4 g5 (g6 ▸ h1) (g6 ▸ h2)
    exact ⟨s, c, i, Or.inl (by omega), t, g1, g2, g3, g4, g5, g6, g7⟩
theorem DnI.none (e0 : mt s = none) (y : Nat) (b : Bool) : DnI P mt go sh cut s 0 0 y b ↔ DnI P mt go sh cut (s + 1) 0 0 y b := by
  constructor
  · rintro ⟨s', c', i', h, g⟩
    exact ⟨s', c', i', Or.inl (by omega), g⟩
  · rintro ⟨s', c', i', h, t, g1, g2, g3⟩
    have : s' ≠ s := fun e => by rw [e, e0] at g2; cases g2
    exact ⟨s', c', i', Or.inl (by omega), t, g1, g2, g3⟩
theorem DnI.side (y : Nat) (b : Bool) : DnI P mt go sh cut s 4 0 y b ↔ DnI P mt go sh cut (s + 1) 0 0 y b := by
  constructor
  · rintro ⟨s', c', i', h, g⟩
    exact ⟨s', c', i', Or.inl (by omega), g⟩
  · rintro ⟨s', c', i', h, t, g1, g2, g3, g4⟩
    exact ⟨s', c', i', by omega, t, g1, g2, g3, g4⟩
theorem DnI.skip (e : c = s % 4) (y : Nat) (b : Bool) : DnI P mt go sh cut s c 0 y b ↔ DnI P mt go sh cut s (c + 1) 0 y b := by
  constructor
  · rintro ⟨s', c', i', h, g⟩
    exact ⟨s', c', i', by omega, g⟩
  · rintro ⟨s', c', i', h, t, g1, g2, g3, g4, g5⟩
    have : ¬ (s' = s ∧ c' = c) := fun q => g4 (by rw [q.1, q.2]; exact e)
    exact ⟨s', c', i', by omega, t, g1, g2, g3, g4, g5⟩
theorem DnI.corner (y : Nat) (b : Bool) : DnI P mt go sh cut s c (arcP sh (s / 4) (s % 4) c) y b ↔ DnI P mt go sh cut s (c + 1) 0 y b := by
  constructor
  · rintro ⟨s', c', i', h, g⟩
    exact ⟨s', c', i', by omega, g⟩
  · rintro ⟨s', c', i', h, t, g1, g2, g3, g4, g5, g6⟩
    refine ⟨s', c', i', ?_, t, g1, g2, g3, g4, g5, g6⟩
    by_cases e : s' = s ∧ c' = c
    · obtain ⟨rfl, rfl⟩ := e
      omega
    · omega
theorem DnI.other (hne : ¬ cutN sh s c i = cut) (y : Nat) (b : Bool) : DnI P mt go sh cut s c i y b ↔ DnI P mt go sh cut s c (i + 1) y b := by
  constructor
  · rintro ⟨s', c', i', h, g⟩
    exact ⟨s', c', i', by omega, g⟩
  · rintro ⟨s', c', i', h, t, g1, g2, g3, g4, g5, g6, g7⟩
    have : ¬ (s' = s ∧ c' = c ∧ i' = i) := fun q => hne (by rw [g6, q.1, q.2.1, q.2.2])
    exact ⟨s', c', i', by omega, t, g1, g2, g3, g4, g5, g6, g7⟩
theorem DnI.link {t : Nat} {b0 : Bool} (hs : s < 4 * P) (e0 : mt s = some t) (hc : c < 4) (hcs : c ≠ s % 4) (hi : i < arcP sh (s / 4) (s % 4) c) (he : cutN sh s c i = cut) (hb : b0 = (lkB sh s c i != lkB sh t (go (4 * s + c)) i)) (y : Nat) (b : Bool) : (DnI P mt go sh cut s c i y b ∨ (y = cutN sh t (go (4 * s + c)) i ∧ b = b0)) ↔ DnI P mt go sh cut s c (i + 1) y b := by
  constructor
  · rintro (⟨s', c', i', h, g⟩ | ⟨h1, h2⟩)
    · exact ⟨s', c', i', by omega, g⟩
    · exact ⟨s, c, i, by omega, t, hs, e0, hc, hcs, hi, he.symm, h1, h2.trans hb⟩
  · rintro ⟨s', c', i', h, t', g1, g2, g3, g4, g5, g6, g7, g8⟩
    by_cases e : s' = s ∧ c' = c ∧ i' = i
    · obtain ⟨rfl, rfl, rfl⟩ := e
      rw [e0] at g2
      cases g2
      exact Or.inr ⟨g7, g8.trans hb.symm⟩
    · exact Or.inl ⟨s', c', i', by omega, t', g1, g2, g3, g4, g5, g6, g7, g8⟩
end DN
theorem mc_cutAtK (X : am_X) {S T : MS} (hk : pKeep S T) (P s c i : Nat) (hP : P ≤ 3) (hC : CF S P (sv S)) (hS : SHN S) (hs : s < 4 * P) (hc : c < 4) (hcs : c ≠ s % 4) (hi : i < arcP (sv S) (s / 4) (s % 4) c) : MC X 170 [.ref (189), .int (nI (s)), .int (nI (c)), .int (nI (i))] T (some (.int (nI (cutN (sv S) s c i)))) T := by
  have e := sv_pkeep hk
  have q := mc_cutAt X T P s c i hP (by rw [e]; exact hC.pkeep hk) (hS.pkeep hk) hs hc hcs (by rw [e]; exact hi)
  rw [e] at q
  exact q
theorem mc_arcsK (X : am_X) {S T : MS} (hk : pKeep S T) (p f c : Nat) (hp : p < 3) (hf : f < 4) (hc : c < 4) (hcf : c ≠ f) (hS : SHN S) : MC X 166 [.ref (189), .int (nI (p)), .int (nI (f)), .int (nI (c))] T (some (.int (nI (arcP (sv S) p f c)))) T := by
  have e := sv_pkeep hk
  have q := mc_arcsP X T p f c hp hf hc hcf (hS.pkeep hk)
  rw [e] at q
  exact q
theorem mc_looksK (X : am_X) {S T : MS} (hk : pKeep S T) (s c i : Nat) (hs : s < 12) (hc : c < 4) (hi : i < 3000) (hS : SHN S) : MC X 171 [.ref (189), .int (nI (s)), .int (nI (c)), .int (nI (i))] T (some (.int (if lkB (sv S) s c i = true then 1 else 0))) T := by
  have e := sv_pkeep hk
  have q := mc_looks X T s c i hs hc hi (hS.pkeep hk)
  rw [e] at q
  unfold lkB
  simp only [decide_eq_true_eq]
  exact q
theorem if_if {p q : Prop} [Decidable p] [Decidable q] : ((if p then (1 : Int32) else 0) = if q then 1 else 0) ↔ (p ↔ q) := by
  by_cases hp : p <;> by_cases hq : q <;> simp [hp, hq]
theorem lk_eq {a b : Bool} (h : (if a = true then (1 : Int32) else 0) = if b = true then 1 else 0) : false = (a != b) := by
  have := if_if.mp h
  cases a <;> cases b <;> simp_all
theorem lk_ne {a b : Bool} (h : ¬ (if a = true then (1 : Int32) else 0) = if b = true then 1 else 0) : true = (a != b) := by
  have := fun g => h (if_if.mpr g)
  cases a <;> cases b <;> simp_all
set_option maxHeartbeats 4000000 in
theorem mx_spread (X : am_X) (S : MS) (P : Nat) (mt : Nat → Option Nat) (go : Nat → Nat) (cut size : Nat) (hG : GW P mt go) (hR : RG S P mt go) (hS : SHN S) (hC : CF S P (sv S)) (hF : Fits P mt go (sv S)) (hN : fsum (sv S) (7 * P) ≤ 400) (hcut : cut < fsum (sv S) (7 * P)) (hcv : VS S cut) (htw : S.1 189 24 = 0 ∨ S.1 189 24 = 1) (hsz : size ≤ cnt (vb S) (fsum (sv S) (7 * P))) : ∃ many T, MC X 173 [.ref (189), .int (nI (cut)), .int (nI (size))] S (some (.int (nI many))) T ∧ SP S T (fsum (sv S) (7 * P)) cut size many (Lk P mt go (sv S) cut) := by
  have hP := hG.1
  have hp := hR.1
  obtain ⟨k, hk, hk1, hk2⟩ := srt_ex (7 * P) cut hcut
  have key := MX.mc (X := X) (mj := 173) (as := [.ref (189), .int (nI (cut)), .int (nI (size))]) (S := S) (Post := fun v T => ∃ many, v = some (.int (nI many)) ∧ SP S T (fsum (sv S) (7 * P)) cut size many (Lk P mt go (sv S) cut)) ?_
  · obtain ⟨v, T, g1, many, g2, g3⟩ := key
    subst g2
    exact ⟨many, T, g1, g3⟩
  have h18m : mny S S (fsum (sv S) (7 * P)) size = size := by unfold mny; omega
  have h18i : SP S S (fsum (sv S) (7 * P)) cut size (mny S S (fsum (sv S) (7 * P)) size) (DnI P mt go (sv S) cut (4 * (k / 7)) (0) (0)) := by
    rw [h18m]
    exact SP.start htw (DnI.first hk1 hk2)
  have h18 : ((18, [(0, .ref (189)), (1, .int (nI (cut))), (3, .int (nI (size))), (4, .int (nI (k / 7))), (5, .int (nI (4 * (k / 7))))], [], 208, HP (S), 0, 0) : am_Z) = (18, [(0, .ref (189)), (1, .int (nI (cut))), (3, .int (nI (mny S S (fsum (sv S) (7 * P)) size))), (4, .int (nI (k / 7))), (5, .int (nI (4 * (k / 7))))], [], 208, HP (S), 0, 0) := by rw [h18m]
  refine MX.of (Nat.le_of_ble_eq_true rfl) ?_
  refine as_iload_n d173_0 rfl ?_
  refine as_istore_n d173_1 (by decide) ?_
  refine as_aload_n d173_2 rfl ?_
  refine as_iload_n d173_3 rfl ?_
  refine ac_v1 d173_4 c173_239 (by decide) rfl (Nat.le_of_ble_eq_true rfl) (mc_sortOf X _ P _ k (sv S) hP hC (by omega) hk hk1 hk2) ?_
  refine an_bipush 7 d173_7 rfl ?_
  refine an_idiv d173_9 (by omega) (by omega) (by omega) ?_
  refine as_istore d173_10 (by decide) ?_
  refine an_iconst 4 d173_12 rfl ?_
  refine as_iload d173_13 rfl ?_
  refine an_imul d173_15 ?_
  refine as_istore d173_16 (by decide) ?_
  refine AW.loc [(0, .ref (189)), (1, .int (nI (cut))), (3, .int (nI (size))), (4, .int (nI ((k) / (7)))), (5, .int (nI ((4) * ((k) / (7)))))] (am_pick [3, 4, 2, 1, 0] rfl rfl) ?_
  refine aw_fromE (fun s T => ((18, [(0, .ref (189)), (1, .int (nI (cut))), (3, .int (nI (mny S T (fsum (sv S) (7 * P)) size))), (4, .int (nI (k / 7))), (5, .int (nI (s)))], [], 208, HP (T), 0, 0) : am_Z)) (fun s T => SP S T (fsum (sv S) (7 * P)) cut size (mny S T (fsum (sv S) (7 * P)) size) (DnI P mt go (sv S) cut (s) (0) (0))) (4 * (k / 7)) (4 * (k / 7) + 4) (by omega) (S) (h18) (h18i) (fun s T hs0 hs hIs ihs => ?_) (fun T hXs => ?_)
  · refine as_iload d173_18 rfl ?_
    refine an_iconst 4 d173_20 rfl ?_
    refine as_iload d173_21 rfl ?_
    refine an_imul d173_23 ?_
    refine an_iconst 4 d173_24 rfl ?_
    refine an_iadd d173_25 ?_
    refine an_icmp_ge 262 d173_26 (by decide) (by omega) (by omega) (fun c26 => by omega) (fun c26 => ?_)
    rcases mt_or mt (s) with e0 | ⟨t, e0⟩
    · have hDs := fun y b => DnI.none (P := P) (go := go) (sh := sv S) (cut := cut) e0 y b
      refine an_iconst 0 d173_29 rfl ?_
      refine as_istore d173_30 (by decide) ?_
      refine as_iload d173_32 rfl ?_
      refine an_iconst 4 d173_34 rfl ?_
      refine an_icmp_ge 256 d173_35 (by decide) (by omega) (by omega) (fun c35 => by omega) (fun c35 => ?_)
      refine as_aload_n d173_38 rfl ?_
      refine ap_get d173_39 f173_7 (by decide) rfl rfl ?_
      refine as_iload d173_42 rfl ?_
      refine ap_iald d173_44 (fun _ _ _ _ => rfl) (by decide) (by omega) (by decide) ?_
      refine an_top (e' := (-1)) (by rw [(hR.pkeep hIs.1).2.1 _ (by omega), e0]; rfl) ?_
      refine an_iconstI (-1) d173_45 rfl ?_
      refine as_icmp_eq 256 d173_46 (by decide) (fun c46 => ?_) (fun c46 => absurd rfl c46)
      refine an_iinc 1 d173_256 rfl rfl (by decide) ?_
      refine as_goto 18 d173_259 (by decide) ?_
      refine AW.loc [(0, .ref (189)), (1, .int (nI (cut))), (3, .int (nI (mny S T (fsum (sv S) (7 * P)) size))), (4, .int (nI (k / 7))), (5, .int (nI (s + 1)))] (am_pick [2, 3, 4, 5, 0] rfl rfl) ?_
      have ihs := ihs (T) (by first | exact hIs.mono hDs | exact hXc.mono hDs)
      exact ihs
    · have ht := mt_lt hG (show s < 4 * P by omega) e0
      have hDs := fun y b => DnI.side (P := P) (mt := mt) (go := go) (sh := sv S) (cut := cut) (s := s) y b
      refine an_iconst 0 d173_29 rfl ?_
      refine as_istore d173_30 (by decide) ?_
      refine AW.loc [(0, .ref (189)), (1, .int (nI (cut))), (3, .int (nI (mny S T (fsum (sv S) (7 * P)) size))), (4, .int (nI (k / 7))), (5, .int (nI (s))), (6, .int (nI (0)))] (am_pick [1, 2, 3, 4, 5, 0] rfl rfl) ?_
      refine aw_fromE (fun c T1 => ((32, [(0, .ref (189)), (1, .int (nI (cut))), (3, .int (nI (mny S T1 (fsum (sv S) (7 * P)) size))), (4, .int (nI (k / 7))), (5, .int (nI (s))), (6, .int (nI (c)))], [], 208, HP (T1), 0, 0) : am_Z)) (fun c T1 => SP S T1 (fsum (sv S) (7 * P)) cut size (mny S T1 (fsum (sv S) (7 * P)) size) (DnI P mt go (sv S) cut (s) (c) (0))) (0) (4) (by omega) (T) (rfl) (hIs) (fun c T1 hc0 hc hIc ihc => ?_) (fun T1 hXc => ?_)
      · refine as_iload d173_32 rfl ?_
        refine an_iconst 4 d173_34 rfl ?_
        refine an_icmp_ge 256 d173_35 (by decide) (by omega) (by omega) (fun c35 => by omega) (fun c35 => ?_)
        refine as_aload_n d173_38 rfl ?_
        refine ap_get d173_39 f173_7 (by decide) rfl rfl ?_
        refine as_iload d173_42 rfl ?_
        refine ap_iald d173_44 (fun _ _ _ _ => rfl) (by decide) (by omega) (by decide) ?_
        refine an_top (e' := nI (t)) (by rw [(hR.pkeep hIc.1).2.1 _ (by omega), e0]; rfl) ?_
        refine an_iconstI (-1) d173_45 rfl ?_
        refine as_icmp_eq 256 d173_46 (by decide) (fun c46 => absurd c46 (nI_ne1 (by omega))) (fun c46 => ?_)
        by_cases hcs : c = s % 4
        · have hDc := fun y b => DnI.skip (P := P) (mt := mt) (go := go) (sh := sv S) (cut := cut) hcs y b
          refine an_iconst 0 d173_49 rfl ?_
          refine as_istore d173_50 (by decide) ?_
          refine as_iload d173_52 rfl ?_
          refine as_iload d173_54 rfl ?_
          refine an_iconst 4 d173_56 rfl ?_
          refine an_irem d173_57 (by omega) (by omega) (by omega) ?_
          refine an_icmp_eq 250 d173_58 (by decide) (by omega) (by omega) (fun c58 => ?_) (fun c58 => absurd hcs c58)
          refine an_iinc 1 d173_250 rfl rfl (by decide) ?_
          refine as_goto 32 d173_253 (by decide) ?_
          refine AW.loc [(0, .ref (189)), (1, .int (nI (cut))), (3, .int (nI (mny S T1 (fsum (sv S) (7 * P)) size))), (4, .int (nI (k / 7))), (5, .int (nI (s))), (6, .int (nI (c + 1)))] (am_pick [2, 3, 4, 5, 6, 0] rfl rfl) ?_
          have ihc := ihc (T1) (by first | exact hIc.mono hDc | exact hJX.mono hDc)
          exact ihc
        · have hgl := hG.go_lt (show s < 4 * P by omega) e0 hc
          have hgn := hG.go_ne (show s < 4 * P by omega) e0 hc hcs
          have hb1 := arcP_le (fun i hi => (hS i hi).2) (p := k / 7) (f := s % 4) (c := c) (by omega) (by omega) hc hcs
          have hks : s / 4 = k / 7 := by omega
          have hfit : arcP (sv S) (s / 4) (s % 4) c = arcP (sv S) (t / 4) (t % 4) (go (4 * s + c)) := Classical.not_not.mp (fun q => hF s (by omega) c hc ⟨t, e0, hcs, q⟩)
          have hDc := fun y b => DnI.corner (P := P) (mt := mt) (go := go) (sh := sv S) (cut := cut) (s := s) (c := c) y b
          rw [hks] at hDc
          refine an_iconst 0 d173_49 rfl ?_
          refine as_istore d173_50 (by decide) ?_
          refine AW.loc [(0, .ref (189)), (1, .int (nI (cut))), (3, .int (nI (mny S T1 (fsum (sv S) (7 * P)) size))), (4, .int (nI (k / 7))), (5, .int (nI (s))), (6, .int (nI (c))), (7, .int (nI (0)))] (am_pick [1, 2, 3, 4, 5, 6, 0] rfl rfl) ?_
          refine aw_fromE (fun i U => ((52, [(0, .ref (189)), (1, .int (nI (cut))), (3, .int (nI (mny S U (fsum (sv S) (7 * P)) size))), (4, .int (nI (k / 7))), (5, .int (nI (s))), (6, .int (nI (c))), (7, .int (nI (i)))], [], 208, HP (U), 0, 0) : am_Z)) (fun i U => SP S U (fsum (sv S) (7 * P)) cut size (mny S U (fsum (sv S) (7 * P)) size) (DnI P mt go (sv S) cut (s) (c) (i))) (0) (arcP (sv S) (k / 7) (s % 4) c) (by omega) (T1) (rfl) (hIc) (fun i U hi0 hi hJ ihi => ?_) (fun U hJX => ?_)
          · refine as_iload d173_52 rfl ?_
            refine as_iload d173_54 rfl ?_
            refine an_iconst 4 d173_56 rfl ?_
            refine an_irem d173_57 (by omega) (by omega) (by omega) ?_
            refine an_icmp_eq 250 d173_58 (by decide) (by omega) (by omega) (fun c58 => absurd c58 hcs) (fun c58 => ?_)
            refine as_iload d173_61 rfl ?_
            refine as_aload_n d173_63 rfl ?_
            refine as_iload d173_64 rfl ?_
            refine as_iload d173_66 rfl ?_
            refine an_iconst 4 d173_68 rfl ?_
            refine an_irem d173_69 (by omega) (by omega) (by omega) ?_
            refine as_iload d173_70 rfl ?_
            refine ac_v3 d173_72 c173_230 (by decide) rfl (Nat.le_of_ble_eq_true rfl) (mc_arcsK X hJ.1 _ _ _ (by omega) (by omega) (by omega) (by omega) hS) ?_
            refine an_icmp_ge 250 d173_75 (by decide) (by omega) (by omega) (fun c75 => by omega) (fun c75 => ?_)
            have hi4 : i < arcP (sv S) (s / 4) (s % 4) c := by rw [hks]; exact hi
            have hi5 : i < arcP (sv S) (t / 4) (t % 4) (go (4 * s + c)) := by rw [← hfit]; exact hi4
            have hyN := cutN_lt (P := P) (sh := sv S) ht.1 hgl hgn hi5
            have hccv := hJ.2.2.1 cut hcut hcv
            refine as_aload_n d173_78 rfl ?_
            refine as_iload d173_79 rfl ?_
            refine as_iload d173_81 rfl ?_
            refine as_iload d173_83 rfl ?_
            refine ac_v3 d173_85 c173_242 (by decide) rfl (Nat.le_of_ble_eq_true rfl) (mc_cutAtK X hJ.1 P s c i hP hC hS (by omega) hc hcs hi4) ?_
            refine as_iload_n d173_88 rfl ?_
            refine an_icmp_eq 95 d173_89 (by decide) (by have := cutN_lt (P := P) (sh := sv S) (by omega) hc hcs hi4; omega) (by omega) (fun c89 => ?_) (fun c89 => ?_)
            · refine as_aload_n d173_95 rfl ?_
              refine ap_get d173_96 f173_13 (by decide) rfl rfl ?_
              refine an_iconst 4 d173_99 rfl ?_
              refine as_iload d173_100 rfl ?_
              refine an_imul d173_102 ?_
              refine as_iload d173_103 rfl ?_
              refine an_iadd d173_105 ?_
              refine ap_iald d173_106 (fun _ _ _ _ => rfl) (by decide) (by omega) (by decide) ?_
              refine an_top (e' := nI (go (((4) * (s)) + (c)))) ((hR.pkeep hJ.1).2.2 _ _ _ (by omega) e0 (by omega)) ?_
              refine as_istore d173_107 (by decide) ?_
              refine as_aload_n d173_109 rfl ?_
              refine as_aload_n d173_110 rfl ?_
              refine ap_get d173_111 f173_7 (by decide) rfl rfl ?_
              refine as_iload d173_114 rfl ?_
              refine ap_iald d173_116 (fun _ _ _ _ => rfl) (by decide) (by omega) (by decide) ?_
              refine an_top (e' := nI (t)) (by rw [(hR.pkeep hJ.1).2.1 _ (by omega), e0]; rfl) ?_
              refine as_iload d173_117 rfl ?_
              refine as_iload d173_119 rfl ?_
              refine ac_v3 d173_121 c173_242 (by decide) rfl (Nat.le_of_ble_eq_true rfl) (mc_cutAtK X hJ.1 P t (go (4 * s + c)) i hP hC hS ht.1 hgl hgn hi5) ?_
              refine as_istore d173_124 (by decide) ?_
              refine as_aload_n d173_126 rfl ?_
              refine as_iload d173_127 rfl ?_
              refine as_iload d173_129 rfl ?_
              refine as_iload d173_131 rfl ?_
              refine ac_v3 d173_133 c173_245 (by decide) rfl (Nat.le_of_ble_eq_true rfl) (mc_looksK X hJ.1 s c i (by omega) hc (by omega) hS) ?_
              refine as_aload_n d173_136 rfl ?_
              refine as_aload_n d173_137 rfl ?_
              refine ap_get d173_138 f173_7 (by decide) rfl rfl ?_
              refine as_iload d173_141 rfl ?_
              refine ap_iald d173_143 (fun _ _ _ _ => rfl) (by decide) (by omega) (by decide) ?_
              refine an_top (e' := nI (t)) (by rw [(hR.pkeep hJ.1).2.1 _ (by omega), e0]; rfl) ?_
              refine as_iload d173_144 rfl ?_
              refine as_iload d173_146 rfl ?_
              refine ac_v3 d173_148 c173_245 (by decide) rfl (Nat.le_of_ble_eq_true rfl) (mc_looksK X hJ.1 t (go (4 * s + c)) i (by omega) hgl (by omega) hS) ?_
              refine as_icmp_ne 163 d173_151 (by decide) (fun c151 => ?_) (fun c151 => ?_)
              · obtain ⟨b0, hbv, hb0⟩ : ∃ b0, b0 = true ∧ b0 = (lkB (sv S) s c i != lkB (sv S) t (go (4 * s + c)) i) := ⟨true, rfl, lk_ne c151⟩
                refine as_aload_n d173_163 rfl ?_
                refine ap_get d173_164 f173_57 (by decide) rfl rfl ?_
                refine as_iload_n d173_167 rfl ?_
                refine ap_iald d173_168 (fun _ _ _ _ => rfl) (by decide) (by omega) (by decide) ?_
                refine an_top (e' := S.2.1 205 cut) (hccv.2.2) ?_
                refine as_ineg d173_169 ?_
                refine an_top (e' := sgn b0 (S.2.1 205 cut)) (by rw [hbv]; rfl) ?_
                refine as_istore d173_170 (by decide) ?_
                refine as_aload_n d173_172 rfl ?_
                refine ap_get d173_173 f173_54 (by decide) rfl rfl ?_
                refine as_iload d173_176 rfl ?_
                refine ap_iald d173_178 (fun _ _ _ _ => rfl) (by decide) (by omega) (by decide) ?_
                refine an_iconstI (-1) d173_179 rfl ?_
                refine as_icmp_ne 216 d173_180 (by decide) (fun c180 => ?_) (fun c180 => ?_)
                · have hW := hJ
                  have hWv : VS U (cutN (sv S) t (go (4 * s + c)) i) := c180
                  refine as_aload_n d173_216 rfl ?_
                  refine as_aload_n d173_217 rfl ?_
                  refine ap_get d173_218 f173_248 (by decide) rfl rfl ?_
                  refine as_if_ne 236 d173_221 (by decide) (fun c221 => ?_) (fun c221 => ?_)
                  · refine an_iconst 1 d173_236 rfl ?_
                    refine as_goto 241 d173_237 (by decide) ?_
                    refine ap_put d173_241 f173_248 (by decide) rfl (Nat.le_of_ble_eq_true rfl) (rfl) rfl rfl ?_
                    refine an_iinc 1 d173_244 rfl rfl (by decide) ?_
                    refine as_goto 52 d173_247 (by decide) ?_
                    refine AW.loc [(0, .ref (189)), (1, .int (nI (cut))), (3, .int (nI (mny S U (fsum (sv S) (7 * P)) size))), (4, .int (nI (k / 7))), (5, .int (nI (s))), (6, .int (nI (c))), (7, .int (nI (i + 1)))] (am_pick [4, 5, 6, 7, 8, 9, 0] rfl rfl) ?_
                    have ihi := ihi ((U).sf 189 24 (nI (1))) (by
                      first
                      | exact hJ.mono hDi
                      | exact (hW.met (b := b0) hyN hWv (twx hW c221 c233)).mono (fun y b => DnI.link (by omega) e0 hc hcs hi4 c89 hb0 y b)
                      | exact (hW.met (b := b0) hyN hWv (tw1 hW c221)).mono (fun y b => DnI.link (by omega) e0 hc hcs hi4 c89 hb0 y b)
                      | exact (hW.met (b := b0) hyN hWv (tw0 hW c221 c233)).mono (fun y b => DnI.link (by omega) e0 hc hcs hi4 c89 hb0 y b)
                      | (refine SP.many ((hW.met (b := b0) hyN hWv (twx hW c221 c233)).mono (fun y b => or_dup.trans (DnI.link (by omega) e0 hc hcs hi4 c89 hb0 y b))) ?_; exact hmy)
                      | (refine SP.many ((hW.met (b := b0) hyN hWv (tw1 hW c221)).mono (fun y b => or_dup.trans (DnI.link (by omega) e0 hc hcs hi4 c89 hb0 y b))) ?_; exact hmy)
                      | (refine SP.many ((hW.met (b := b0) hyN hWv (tw0 hW c221 c233)).mono (fun y b => or_dup.trans (DnI.link (by omega) e0 hc hcs hi4 c89 hb0 y b))) ?_; exact hmy))
                    have e3 : mny S ((U).sf 189 24 (nI (1))) (fsum (sv S) (7 * P)) size = mny S U (fsum (sv S) (7 * P)) size := by first | rfl | exact hmy
                    rw [e3] at ihi
                    exact ihi
                  · refine as_aload_n d173_224 rfl ?_
                    refine ap_get d173_225 f173_57 (by decide) rfl rfl ?_
                    refine as_iload d173_228 rfl ?_
                    refine ap_iald d173_230 (fun _ _ _ _ => rfl) (by decide) (by omega) (by decide) ?_
                    refine as_iload d173_231 rfl ?_
                    refine as_icmp_eq 240 d173_233 (by decide) (fun c233 => ?_) (fun c233 => ?_)
                    · refine an_iconst 0 d173_240 rfl ?_
                      refine ap_put d173_241 f173_248 (by decide) rfl (Nat.le_of_ble_eq_true rfl) (rfl) rfl rfl ?_
                      refine an_iinc 1 d173_244 rfl rfl (by decide) ?_
                      refine as_goto 52 d173_247 (by decide) ?_
                      refine AW.loc [(0, .ref (189)), (1, .int (nI (cut))), (3, .int (nI (mny S U (fsum (sv S) (7 * P)) size))), (4, .int (nI (k / 7))), (5, .int (nI (s))), (6, .int (nI (c))), (7, .int (nI (i + 1)))] (am_pick [4, 5, 6, 7, 8, 9, 0] rfl rfl) ?_
                      have ihi := ihi ((U).sf 189 24 (nI (0))) (by
                        first
                        | exact hJ.mono hDi
                        | exact (hW.met (b := b0) hyN hWv (twx hW c221 c233)).mono (fun y b => DnI.link (by omega) e0 hc hcs hi4 c89 hb0 y b)
                        | exact (hW.met (b := b0) hyN hWv (tw1 hW c221)).mono (fun y b => DnI.link (by omega) e0 hc hcs hi4 c89 hb0 y b)
                        | exact (hW.met (b := b0) hyN hWv (tw0 hW c221 c233)).mono (fun y b => DnI.link (by omega) e0 hc hcs hi4 c89 hb0 y b)
                        | (refine SP.many ((hW.met (b := b0) hyN hWv (twx hW c221 c233)).mono (fun y b => or_dup.trans (DnI.link (by omega) e0 hc hcs hi4 c89 hb0 y b))) ?_; exact hmy)
                        | (refine SP.many ((hW.met (b := b0) hyN hWv (tw1 hW c221)).mono (fun y b => or_dup.trans (DnI.link (by omega) e0 hc hcs hi4 c89 hb0 y b))) ?_; exact hmy)
                        | (refine SP.many ((hW.met (b := b0) hyN hWv (tw0 hW c221 c233)).mono (fun y b => or_dup.trans (DnI.link (by omega) e0 hc hcs hi4 c89 hb0 y b))) ?_; exact hmy))
                      have e3 : mny S ((U).sf 189 24 (nI (0))) (fsum (sv S) (7 * P)) size = mny S U (fsum (sv S) (7 * P)) size := by first | rfl | exact hmy
                      rw [e3] at ihi
                      exact ihi
                    · refine an_iconst 1 d173_236 rfl ?_
                      refine as_goto 241 d173_237 (by decide) ?_
                      refine ap_put d173_241 f173_248 (by decide) rfl (Nat.le_of_ble_eq_true rfl) (rfl) rfl rfl ?_
                      refine an_iinc 1 d173_244 rfl rfl (by decide) ?_
                      refine as_goto 52 d173_247 (by decide) ?_
                      refine AW.loc [(0, .ref (189)), (1, .int (nI (cut))), (3, .int (nI (mny S U (fsum (sv S) (7 * P)) size))), (4, .int (nI (k / 7))), (5, .int (nI (s))), (6, .int (nI (c))), (7, .int (nI (i + 1)))] (am_pick [4, 5, 6, 7, 8, 9, 0] rfl rfl) ?_
                      have ihi := ihi ((U).sf 189 24 (nI (1))) (by
                        first
                        | exact hJ.mono hDi
                        | exact (hW.met (b := b0) hyN hWv (twx hW c221 c233)).mono (fun y b => DnI.link (by omega) e0 hc hcs hi4 c89 hb0 y b)
                        | exact (hW.met (b := b0) hyN hWv (tw1 hW c221)).mono (fun y b => DnI.link (by omega) e0 hc hcs hi4 c89 hb0 y b)
                        | exact (hW.met (b := b0) hyN hWv (tw0 hW c221 c233)).mono (fun y b => DnI.link (by omega) e0 hc hcs hi4 c89 hb0 y b)
                        | (refine SP.many ((hW.met (b := b0) hyN hWv (twx hW c221 c233)).mono (fun y b => or_dup.trans (DnI.link (by omega) e0 hc hcs hi4 c89 hb0 y b))) ?_; exact hmy)
                        | (refine SP.many ((hW.met (b := b0) hyN hWv (tw1 hW c221)).mono (fun y b => or_dup.trans (DnI.link (by omega) e0 hc hcs hi4 c89 hb0 y b))) ?_; exact hmy)
                        | (refine SP.many ((hW.met (b := b0) hyN hWv (tw0 hW c221 c233)).mono (fun y b => or_dup.trans (DnI.link (by omega) e0 hc hcs hi4 c89 hb0 y b))) ?_; exact hmy))
                      have e3 : mny S ((U).sf 189 24 (nI (1))) (fsum (sv S) (7 * P)) size = mny S U (fsum (sv S) (7 * P)) size := by first | rfl | exact hmy
                      rw [e3] at ihi
                      exact ihi
                · have hW := hJ.fresh hcut hcv (b := b0) hyN c180
                  have hmm : mny S U (fsum (sv S) (7 * P)) size < 400 := by
                    have q1 := hJ.2.2.2.2.2.2.1
                    have q2 := hW.2.2.2.2.2.2.1
                    have q3 := cnt_le (vb (((U.sa 204 (cutN (sv S) t (go (4 * s + c)) i) (U.2.1 204 cut)).sa 205 (cutN (sv S) t (go (4 * s + c)) i) (sgn b0 (S.2.1 205 cut))).sa 206 (mny S U (fsum (sv S) (7 * P)) size) (nI (cutN (sv S) t (go (4 * s + c)) i)))) (fsum (sv S) (7 * P))
                    omega
                  have hmy := hW.mny
                  have hWv := (hW.2.2.2.2.2.2.2.1 _ _ (Or.inr ⟨rfl, rfl⟩)).2.1
                  refine as_aload_n d173_183 rfl ?_
                  refine ap_get d173_184 f173_54 (by decide) rfl rfl ?_
                  refine as_iload d173_187 rfl ?_
                  refine as_aload_n d173_189 rfl ?_
                  refine ap_get d173_190 f173_54 (by decide) rfl rfl ?_
                  refine as_iload_n d173_193 rfl ?_
                  refine ap_iald d173_194 (fun _ _ _ _ => rfl) (by decide) (by omega) (by decide) ?_
                  refine ap_iast d173_195 (fun _ _ _ _ => rfl) (by decide) (by omega) (by decide) ?_
                  refine as_aload_n d173_196 rfl ?_
                  refine ap_get d173_197 f173_57 (by decide) rfl rfl ?_
                  refine as_iload d173_200 rfl ?_
                  refine as_iload d173_202 rfl ?_
                  refine ap_iast d173_204 (fun _ _ _ _ => rfl) (by decide) (by omega) (by decide) ?_
                  refine as_aload_n d173_205 rfl ?_
                  refine ap_get d173_206 f173_60 (by decide) rfl rfl ?_
                  refine as_iload_n d173_209 rfl ?_
                  refine as_iload d173_210 rfl ?_
                  refine ap_iast d173_212 (fun _ _ _ _ => rfl) (by decide) (by omega) (by decide) ?_
                  refine an_iinc 1 d173_213 rfl rfl (by decide) ?_
                  refine as_aload_n d173_216 rfl ?_
                  refine as_aload_n d173_217 rfl ?_
                  refine ap_get d173_218 f173_248 (by decide) rfl rfl ?_
                  refine as_if_ne 236 d173_221 (by decide) (fun c221 => ?_) (fun c221 => ?_)
                  · refine an_iconst 1 d173_236 rfl ?_
                    refine as_goto 241 d173_237 (by decide) ?_
                    refine ap_put d173_241 f173_248 (by decide) rfl (Nat.le_of_ble_eq_true rfl) (rfl) rfl rfl ?_
                    refine an_iinc 1 d173_244 rfl rfl (by decide) ?_
                    refine as_goto 52 d173_247 (by decide) ?_
                    refine AW.loc [(0, .ref (189)), (1, .int (nI (cut))), (3, .int (nI (mny S U (fsum (sv S) (7 * P)) size + 1))), (4, .int (nI (k / 7))), (5, .int (nI (s))), (6, .int (nI (c))), (7, .int (nI (i + 1)))] (am_pick [5, 6, 1, 7, 8, 9, 0] rfl rfl) ?_
                    have ihi := ihi (((((U).sa 204 (cutN (sv S) t (go (4 * s + c)) i) ((U).2.1 204 (cut))).sa 205 (cutN (sv S) t (go (4 * s + c)) i) (sgn b0 (S.2.1 205 cut))).sa 206 (mny S U (fsum (sv S) (7 * P)) size) (nI (cutN (sv S) t (go (4 * s + c)) i))).sf 189 24 (nI (1))) (by
                      first
                      | exact hJ.mono hDi
                      | exact (hW.met (b := b0) hyN hWv (twx hW c221 c233)).mono (fun y b => DnI.link (by omega) e0 hc hcs hi4 c89 hb0 y b)
                      | exact (hW.met (b := b0) hyN hWv (tw1 hW c221)).mono (fun y b => DnI.link (by omega) e0 hc hcs hi4 c89 hb0 y b)
                      | exact (hW.met (b := b0) hyN hWv (tw0 hW c221 c233)).mono (fun y b => DnI.link (by omega) e0 hc hcs hi4 c89 hb0 y b)
                      | (refine SP.many ((hW.met (b := b0) hyN hWv (twx hW c221 c233)).mono (fun y b => or_dup.trans (DnI.link (by omega) e0 hc hcs hi4 c89 hb0 y b))) ?_; exact hmy)
                      | (refine SP.many ((hW.met (b := b0) hyN hWv (tw1 hW c221)).mono (fun y b => or_dup.trans (DnI.link (by omega) e0 hc hcs hi4 c89 hb0 y b))) ?_; exact hmy)
                      | (refine SP.many ((hW.met (b := b0) hyN hWv (tw0 hW c221 c233)).mono (fun y b => or_dup.trans (DnI.link (by omega) e0 hc hcs hi4 c89 hb0 y b))) ?_; exact hmy))
                    have e3 : mny S (((((U).sa 204 (cutN (sv S) t (go (4 * s + c)) i) ((U).2.1 204 (cut))).sa 205 (cutN (sv S) t (go (4 * s + c)) i) (sgn b0 (S.2.1 205 cut))).sa 206 (mny S U (fsum (sv S) (7 * P)) size) (nI (cutN (sv S) t (go (4 * s + c)) i))).sf 189 24 (nI (1))) (fsum (sv S) (7 * P)) size = mny S U (fsum (sv S) (7 * P)) size + 1 := by first | rfl | exact hmy
                    rw [e3] at ihi
                    exact ihi
                  · refine as_aload_n d173_224 rfl ?_
                    refine ap_get d173_225 f173_57 (by decide) rfl rfl ?_
                    refine as_iload d173_228 rfl ?_
                    refine ap_iald d173_230 (fun _ _ _ _ => rfl) (by decide) (by omega) (by decide) ?_
                    refine as_iload d173_231 rfl ?_
                    refine as_icmp_eq 240 d173_233 (by decide) (fun c233 => ?_) (fun c233 => ?_)
                    · refine an_iconst 0 d173_240 rfl ?_
                      refine ap_put d173_241 f173_248 (by decide) rfl (Nat.le_of_ble_eq_true rfl) (rfl) rfl rfl ?_
                      refine an_iinc 1 d173_244 rfl rfl (by decide) ?_
                      refine as_goto 52 d173_247 (by decide) ?_
                      refine AW.loc [(0, .ref (189)), (1, .int (nI (cut))), (3, .int (nI (mny S U (fsum (sv S) (7 * P)) size + 1))), (4, .int (nI (k / 7))), (5, .int (nI (s))), (6, .int (nI (c))), (7, .int (nI (i + 1)))] (am_pick [5, 6, 1, 7, 8, 9, 0] rfl rfl) ?_
                      have ihi := ihi (((((U).sa 204 (cutN (sv S) t (go (4 * s + c)) i) ((U).2.1 204 (cut))).sa 205 (cutN (sv S) t (go (4 * s + c)) i) (sgn b0 (S.2.1 205 cut))).sa 206 (mny S U (fsum (sv S) (7 * P)) size) (nI (cutN (sv S) t (go (4 * s + c)) i))).sf 189 24 (nI (0))) (by
                        first
                        | exact hJ.mono hDi
                        | exact (hW.met (b := b0) hyN hWv (twx hW c221 c233)).mono (fun y b => DnI.link (by omega) e0 hc hcs hi4 c89 hb0 y b)
                        | exact (hW.met (b := b0) hyN hWv (tw1 hW c221)).mono (fun y b => DnI.link (by omega) e0 hc hcs hi4 c89 hb0 y b)
                        | exact (hW.met (b := b0) hyN hWv (tw0 hW c221 c233)).mono (fun y b => DnI.link (by omega) e0 hc hcs hi4 c89 hb0 y b)
                        | (refine SP.many ((hW.met (b := b0) hyN hWv (twx hW c221 c233)).mono (fun y b => or_dup.trans (DnI.link (by omega) e0 hc hcs hi4 c89 hb0 y b))) ?_; exact hmy)
                        | (refine SP.many ((hW.met (b := b0) hyN hWv (tw1 hW c221)).mono (fun y b => or_dup.trans (DnI.link (by omega) e0 hc hcs hi4 c89 hb0 y b))) ?_; exact hmy)
                        | (refine SP.many ((hW.met (b := b0) hyN hWv (tw0 hW c221 c233)).mono (fun y b => or_dup.trans (DnI.link (by omega) e0 hc hcs hi4 c89 hb0 y b))) ?_; exact hmy))
                      have e3 : mny S (((((U).sa 204 (cutN (sv S) t (go (4 * s + c)) i) ((U).2.1 204 (cut))).sa 205 (cutN (sv S) t (go (4 * s + c)) i) (sgn b0 (S.2.1 205 cut))).sa 206 (mny S U (fsum (sv S) (7 * P)) size) (nI (cutN (sv S) t (go (4 * s + c)) i))).sf 189 24 (nI (0))) (fsum (sv S) (7 * P)) size = mny S U (fsum (sv S) (7 * P)) size + 1 := by first | rfl | exact hmy
                      rw [e3] at ihi
                      exact ihi
                    · refine an_iconst 1 d173_236 rfl ?_
                      refine as_goto 241 d173_237 (by decide) ?_
                      refine ap_put d173_241 f173_248 (by decide) rfl (Nat.le_of_ble_eq_true rfl) (rfl) rfl rfl ?_
                      refine an_iinc 1 d173_244 rfl rfl (by decide) ?_
                      refine as_goto 52 d173_247 (by decide) ?_
                      refine AW.loc [(0, .ref (189)), (1, .int (nI (cut))), (3, .int (nI (mny S U (fsum (sv S) (7 * P)) size + 1))), (4, .int (nI (k / 7))), (5, .int (nI (s))), (6, .int (nI (c))), (7, .int (nI (i + 1)))] (am_pick [5, 6, 1, 7, 8, 9, 0] rfl rfl) ?_
                      have ihi := ihi (((((U).sa 204 (cutN (sv S) t (go (4 * s + c)) i) ((U).2.1 204 (cut))).sa 205 (cutN (sv S) t (go (4 * s + c)) i) (sgn b0 (S.2.1 205 cut))).sa 206 (mny S U (fsum (sv S) (7 * P)) size) (nI (cutN (sv S) t (go (4 * s + c)) i))).sf 189 24 (nI (1))) (by
                        first
                        | exact hJ.mono hDi
                        | exact (hW.met (b := b0) hyN hWv (twx hW c221 c233)).mono (fun y b => DnI.link (by omega) e0 hc hcs hi4 c89 hb0 y b)
                        | exact (hW.met (b := b0) hyN hWv (tw1 hW c221)).mono (fun y b => DnI.link (by omega) e0 hc hcs hi4 c89 hb0 y b)
                        | exact (hW.met (b := b0) hyN hWv (tw0 hW c221 c233)).mono (fun y b => DnI.link (by omega) e0 hc hcs hi4 c89 hb0 y b)
                        | (refine SP.many ((hW.met (b := b0) hyN hWv (twx hW c221 c233)).mono (fun y b => or_dup.trans (DnI.link (by omega) e0 hc hcs hi4 c89 hb0 y b))) ?_; exact hmy)
                        | (refine SP.many ((hW.met (b := b0) hyN hWv (tw1 hW c221)).mono (fun y b => or_dup.trans (DnI.link (by omega) e0 hc hcs hi4 c89 hb0 y b))) ?_; exact hmy)
                        | (refine SP.many ((hW.met (b := b0) hyN hWv (tw0 hW c221 c233)).mono (fun y b => or_dup.trans (DnI.link (by omega) e0 hc hcs hi4 c89 hb0 y b))) ?_; exact hmy))
                      have e3 : mny S (((((U).sa 204 (cutN (sv S) t (go (4 * s + c)) i) ((U).2.1 204 (cut))).sa 205 (cutN (sv S) t (go (4 * s + c)) i) (sgn b0 (S.2.1 205 cut))).sa 206 (mny S U (fsum (sv S) (7 * P)) size) (nI (cutN (sv S) t (go (4 * s + c)) i))).sf 189 24 (nI (1))) (fsum (sv S) (7 * P)) size = mny S U (fsum (sv S) (7 * P)) size + 1 := by first | rfl | exact hmy
                      rw [e3] at ihi
                      exact ihi
              · obtain ⟨b0, hbv, hb0⟩ : ∃ b0, b0 = false ∧ b0 = (lkB (sv S) s c i != lkB (sv S) t (go (4 * s + c)) i) := ⟨false, rfl, lk_eq c151⟩
                refine as_aload_n d173_154 rfl ?_
                refine ap_get d173_155 f173_57 (by decide) rfl rfl ?_
                refine as_iload_n d173_158 rfl ?_
                refine ap_iald d173_159 (fun _ _ _ _ => rfl) (by decide) (by omega) (by decide) ?_
                refine an_top (e' := sgn b0 (S.2.1 205 cut)) (by rw [hbv, hccv.2.2]; rfl) ?_
                refine as_goto 170 d173_160 (by decide) ?_
                refine as_istore d173_170 (by decide) ?_
                refine as_aload_n d173_172 rfl ?_
                refine ap_get d173_173 f173_54 (by decide) rfl rfl ?_
                refine as_iload d173_176 rfl ?_
                refine ap_iald d173_178 (fun _ _ _ _ => rfl) (by decide) (by omega) (by decide) ?_
                refine an_iconstI (-1) d173_179 rfl ?_
                refine as_icmp_ne 216 d173_180 (by decide) (fun c180 => ?_) (fun c180 => ?_)
                · have hW := hJ
                  have hWv : VS U (cutN (sv S) t (go (4 * s + c)) i) := c180
                  refine as_aload_n d173_216 rfl ?_
                  refine as_aload_n d173_217 rfl ?_
                  refine ap_get d173_218 f173_248 (by decide) rfl rfl ?_
                  refine as_if_ne 236 d173_221 (by decide) (fun c221 => ?_) (fun c221 => ?_)
                  · refine an_iconst 1 d173_236 rfl ?_
                    refine as_goto 241 d173_237 (by decide) ?_
                    refine ap_put d173_241 f173_248 (by decide) rfl (Nat.le_of_ble_eq_true rfl) (rfl) rfl rfl ?_
                    refine an_iinc 1 d173_244 rfl rfl (by decide) ?_
                    refine as_goto 52 d173_247 (by decide) ?_
                    refine AW.loc [(0, .ref (189)), (1, .int (nI (cut))), (3, .int (nI (mny S U (fsum (sv S) (7 * P)) size))), (4, .int (nI (k / 7))), (5, .int (nI (s))), (6, .int (nI (c))), (7, .int (nI (i + 1)))] (am_pick [4, 5, 6, 7, 8, 9, 0] rfl rfl) ?_
                    have ihi := ihi ((U).sf 189 24 (nI (1))) (by
                      first
                      | exact hJ.mono hDi
                      | exact (hW.met (b := b0) hyN hWv (twx hW c221 c233)).mono (fun y b => DnI.link (by omega) e0 hc hcs hi4 c89 hb0 y b)
                      | exact (hW.met (b := b0) hyN hWv (tw1 hW c221)).mono (fun y b => DnI.link (by omega) e0 hc hcs hi4 c89 hb0 y b)
                      | exact (hW.met (b := b0) hyN hWv (tw0 hW c221 c233)).mono (fun y b => DnI.link (by omega) e0 hc hcs hi4 c89 hb0 y b)
                      | (refine SP.many ((hW.met (b := b0) hyN hWv (twx hW c221 c233)).mono (fun y b => or_dup.trans (DnI.link (by omega) e0 hc hcs hi4 c89 hb0 y b))) ?_; exact hmy)
                      | (refine SP.many ((hW.met (b := b0) hyN hWv (tw1 hW c221)).mono (fun y b => or_dup.trans (DnI.link (by omega) e0 hc hcs hi4 c89 hb0 y b))) ?_; exact hmy)
                      | (refine SP.many ((hW.met (b := b0) hyN hWv (tw0 hW c221 c233)).mono (fun y b => or_dup.trans (DnI.link (by omega) e0 hc hcs hi4 c89 hb0 y b))) ?_; exact hmy))
                    have e3 : mny S ((U).sf 189 24 (nI (1))) (fsum (sv S) (7 * P)) size = mny S U (fsum (sv S) (7 * P)) size := by first | rfl | exact hmy
                    rw [e3] at ihi
                    exact ihi
                  · refine as_aload_n d173_224 rfl ?_
                    refine ap_get d173_225 f173_57 (by decide) rfl rfl ?_
                    refine as_iload d173_228 rfl ?_
                    refine ap_iald d173_230 (fun _ _ _ _ => rfl) (by decide) (by omega) (by decide) ?_
                    refine as_iload d173_231 rfl ?_
                    refine as_icmp_eq 240 d173_233 (by decide) (fun c233 => ?_) (fun c233 => ?_)
                    · refine an_iconst 0 d173_240 rfl ?_
                      refine ap_put d173_241 f173_248 (by decide) rfl (Nat.le_of_ble_eq_true rfl) (rfl) rfl rfl ?_
                      refine an_iinc 1 d173_244 rfl rfl (by decide) ?_
                      refine as_goto 52 d173_247 (by decide) ?_
                      refine AW.loc [(0, .ref (189)), (1, .int (nI (cut))), (3, .int (nI (mny S U (fsum (sv S) (7 * P)) size))), (4, .int (nI (k / 7))), (5, .int (nI (s))), (6, .int (nI (c))), (7, .int (nI (i + 1)))] (am_pick [4, 5, 6, 7, 8, 9, 0] rfl rfl) ?_
                      have ihi := ihi ((U).sf 189 24 (nI (0))) (by
                        first
                        | exact hJ.mono hDi
                        | exact (hW.met (b := b0) hyN hWv (twx hW c221 c233)).mono (fun y b => DnI.link (by omega) e0 hc hcs hi4 c89 hb0 y b)
                        | exact (hW.met (b := b0) hyN hWv (tw1 hW c221)).mono (fun y b => DnI.link (by omega) e0 hc hcs hi4 c89 hb0 y b)
                        | exact (hW.met (b := b0) hyN hWv (tw0 hW c221 c233)).mono (fun y b => DnI.link (by omega) e0 hc hcs hi4 c89 hb0 y b)
                        | (refine SP.many ((hW.met (b := b0) hyN hWv (twx hW c221 c233)).mono (fun y b => or_dup.trans (DnI.link (by omega) e0 hc hcs hi4 c89 hb0 y b))) ?_; exact hmy)
                        | (refine SP.many ((hW.met (b := b0) hyN hWv (tw1 hW c221)).mono (fun y b => or_dup.trans (DnI.link (by omega) e0 hc hcs hi4 c89 hb0 y b))) ?_; exact hmy)
                        | (refine SP.many ((hW.met (b := b0) hyN hWv (tw0 hW c221 c233)).mono (fun y b => or_dup.trans (DnI.link (by omega) e0 hc hcs hi4 c89 hb0 y b))) ?_; exact hmy))
                      have e3 : mny S ((U).sf 189 24 (nI (0))) (fsum (sv S) (7 * P)) size = mny S U (fsum (sv S) (7 * P)) size := by first | rfl | exact hmy
                      rw [e3] at ihi
                      exact ihi
                    · refine an_iconst 1 d173_236 rfl ?_
                      refine as_goto 241 d173_237 (by decide) ?_
                      refine ap_put d173_241 f173_248 (by decide) rfl (Nat.le_of_ble_eq_true rfl) (rfl) rfl rfl ?_
                      refine an_iinc 1 d173_244 rfl rfl (by decide) ?_
                      refine as_goto 52 d173_247 (by decide) ?_
                      refine AW.loc [(0, .ref (189)), (1, .int (nI (cut))), (3, .int (nI (mny S U (fsum (sv S) (7 * P)) size))), (4, .int (nI (k / 7))), (5, .int (nI (s))), (6, .int (nI (c))), (7, .int (nI (i + 1)))] (am_pick [4, 5, 6, 7, 8, 9, 0] rfl rfl) ?_
                      have ihi := ihi ((U).sf 189 24 (nI (1))) (by
                        first
                        | exact hJ.mono hDi
                        | exact (hW.met (b := b0) hyN hWv (twx hW c221 c233)).mono (fun y b => DnI.link (by omega) e0 hc hcs hi4 c89 hb0 y b)
                        | exact (hW.met (b := b0) hyN hWv (tw1 hW c221)).mono (fun y b => DnI.link (by omega) e0 hc hcs hi4 c89 hb0 y b)
                        | exact (hW.met (b := b0) hyN hWv (tw0 hW c221 c233)).mono (fun y b => DnI.link (by omega) e0 hc hcs hi4 c89 hb0 y b)
                        | (refine SP.many ((hW.met (b := b0) hyN hWv (twx hW c221 c233)).mono (fun y b => or_dup.trans (DnI.link (by omega) e0 hc hcs hi4 c89 hb0 y b))) ?_; exact hmy)
                        | (refine SP.many ((hW.met (b := b0) hyN hWv (tw1 hW c221)).mono (fun y b => or_dup.trans (DnI.link (by omega) e0 hc hcs hi4 c89 hb0 y b))) ?_; exact hmy)
                        | (refine SP.many ((hW.met (b := b0) hyN hWv (tw0 hW c221 c233)).mono (fun y b => or_dup.trans (DnI.link (by omega) e0 hc hcs hi4 c89 hb0 y b))) ?_; exact hmy))
                      have e3 : mny S ((U).sf 189 24 (nI (1))) (fsum (sv S) (7 * P)) size = mny S U (fsum (sv S) (7 * P)) size := by first | rfl | exact hmy
                      rw [e3] at ihi
                      exact ihi
                · have hW := hJ.fresh hcut hcv (b := b0) hyN c180
                  have hmm : mny S U (fsum (sv S) (7 * P)) size < 400 := by
                    have q1 := hJ.2.2.2.2.2.2.1
                    have q2 := hW.2.2.2.2.2.2.1
                    have q3 := cnt_le (vb (((U.sa 204 (cutN (sv S) t (go (4 * s + c)) i) (U.2.1 204 cut)).sa 205 (cutN (sv S) t (go (4 * s + c)) i) (sgn b0 (S.2.1 205 cut))).sa 206 (mny S U (fsum (sv S) (7 * P)) size) (nI (cutN (sv S) t (go (4 * s + c)) i)))) (fsum (sv S) (7 * P))
                    omega
                  have hmy := hW.mny
                  have hWv := (hW.2.2.2.2.2.2.2.1 _ _ (Or.inr ⟨rfl, rfl⟩)).2.1
                  refine as_aload_n d173_183 rfl ?_
                  refine ap_get d173_184 f173_54 (by decide) rfl rfl ?_
                  refine as_iload d173_187 rfl ?_
                  refine as_aload_n d173_189 rfl ?_
                  refine ap_get d173_190 f173_54 (by decide) rfl rfl ?_
                  refine as_iload_n d173_193 rfl ?_
                  refine ap_iald d173_194 (fun _ _ _ _ => rfl) (by decide) (by omega) (by decide) ?_
                  refine ap_iast d173_195 (fun _ _ _ _ => rfl) (by decide) (by omega) (by decide) ?_
                  refine as_aload_n d173_196 rfl ?_
                  refine ap_get d173_197 f173_57 (by decide) rfl rfl ?_
                  refine as_iload d173_200 rfl ?_
                  refine as_iload d173_202 rfl ?_
                  refine ap_iast d173_204 (fun _ _ _ _ => rfl) (by decide) (by omega) (by decide) ?_
                  refine as_aload_n d173_205 rfl ?_
                  refine ap_get d173_206 f173_60 (by decide) rfl rfl ?_
                  refine as_iload_n d173_209 rfl ?_
                  refine as_iload d173_210 rfl ?_
                  refine ap_iast d173_212 (fun _ _ _ _ => rfl) (by decide) (by omega) (by decide) ?_
                  refine an_iinc 1 d173_213 rfl rfl (by decide) ?_
                  refine as_aload_n d173_216 rfl ?_
                  refine as_aload_n d173_217 rfl ?_
                  refine ap_get d173_218 f173_248 (by decide) rfl rfl ?_
                  refine as_if_ne 236 d173_221 (by decide) (fun c221 => ?_) (fun c221 => ?_)
                  · refine an_iconst 1 d173_236 rfl ?_
                    refine as_goto 241 d173_237 (by decide) ?_
                    refine ap_put d173_241 f173_248 (by decide) rfl (Nat.le_of_ble_eq_true rfl) (rfl) rfl rfl ?_
                    refine an_iinc 1 d173_244 rfl rfl (by decide) ?_
                    refine as_goto 52 d173_247 (by decide) ?_
                    refine AW.loc [(0, .ref (189)), (1, .int (nI (cut))), (3, .int (nI (mny S U (fsum (sv S) (7 * P)) size + 1))), (4, .int (nI (k / 7))), (5, .int (nI (s))), (6, .int (nI (c))), (7, .int (nI (i + 1)))] (am_pick [5, 6, 1, 7, 8, 9, 0] rfl rfl) ?_
                    have ihi := ihi (((((U).sa 204 (cutN (sv S) t (go (4 * s + c)) i) ((U).2.1 204 (cut))).sa 205 (cutN (sv S) t (go (4 * s + c)) i) (sgn b0 (S.2.1 205 cut))).sa 206 (mny S U (fsum (sv S) (7 * P)) size) (nI (cutN (sv S) t (go (4 * s + c)) i))).sf 189 24 (nI (1))) (by
                      first
                      | exact hJ.mono hDi
                      | exact (hW.met (b := b0) hyN hWv (twx hW c221 c233)).mono (fun y b => DnI.link (by omega) e0 hc hcs hi4 c89 hb0 y b)
                      | exact (hW.met (b := b0) hyN hWv (tw1 hW c221)).mono (fun y b => DnI.link (by omega) e0 hc hcs hi4 c89 hb0 y b)
                      | exact (hW.met (b := b0) hyN hWv (tw0 hW c221 c233)).mono (fun y b => DnI.link (by omega) e0 hc hcs hi4 c89 hb0 y b)
                      | (refine SP.many ((hW.met (b := b0) hyN hWv (twx hW c221 c233)).mono (fun y b => or_dup.trans (DnI.link (by omega) e0 hc hcs hi4 c89 hb0 y b))) ?_; exact hmy)
                      | (refine SP.many ((hW.met (b := b0) hyN hWv (tw1 hW c221)).mono (fun y b => or_dup.trans (DnI.link (by omega) e0 hc hcs hi4 c89 hb0 y b))) ?_; exact hmy)
                      | (refine SP.many ((hW.met (b := b0) hyN hWv (tw0 hW c221 c233)).mono (fun y b => or_dup.trans (DnI.link (by omega) e0 hc hcs hi4 c89 hb0 y b))) ?_; exact hmy))
                    have e3 : mny S (((((U).sa 204 (cutN (sv S) t (go (4 * s + c)) i) ((U).2.1 204 (cut))).sa 205 (cutN (sv S) t (go (4 * s + c)) i) (sgn b0 (S.2.1 205 cut))).sa 206 (mny S U (fsum (sv S) (7 * P)) size) (nI (cutN (sv S) t (go (4 * s + c)) i))).sf 189 24 (nI (1))) (fsum (sv S) (7 * P)) size = mny S U (fsum (sv S) (7 * P)) size + 1 := by first | rfl | exact hmy
                    rw [e3] at ihi
                    exact ihi
                  · refine as_aload_n d173_224 rfl ?_
                    refine ap_get d173_225 f173_57 (by decide) rfl rfl ?_
                    refine as_iload d173_228 rfl ?_
                    refine ap_iald d173_230 (fun _ _ _ _ => rfl) (by decide) (by omega) (by decide) ?_
                    refine as_iload d173_231 rfl ?_
                    refine as_icmp_eq 240 d173_233 (by decide) (fun c233 => ?_) (fun c233 => ?_)
                    · refine an_iconst 0 d173_240 rfl ?_
                      refine ap_put d173_241 f173_248 (by decide) rfl (Nat.le_of_ble_eq_true rfl) (rfl) rfl rfl ?_
                      refine an_iinc 1 d173_244 rfl rfl (by decide) ?_
                      refine as_goto 52 d173_247 (by decide) ?_
                      refine AW.loc [(0, .ref (189)), (1, .int (nI (cut))), (3, .int (nI (mny S U (fsum (sv S) (7 * P)) size + 1))), (4, .int (nI (k / 7))), (5, .int (nI (s))), (6, .int (nI (c))), (7, .int (nI (i + 1)))] (am_pick [5, 6, 1, 7, 8, 9, 0] rfl rfl) ?_
                      have ihi := ihi (((((U).sa 204 (cutN (sv S) t (go (4 * s + c)) i) ((U).2.1 204 (cut))).sa 205 (cutN (sv S) t (go (4 * s + c)) i) (sgn b0 (S.2.1 205 cut))).sa 206 (mny S U (fsum (sv S) (7 * P)) size) (nI (cutN (sv S) t (go (4 * s + c)) i))).sf 189 24 (nI (0))) (by
                        first
                        | exact hJ.mono hDi
                        | exact (hW.met (b := b0) hyN hWv (twx hW c221 c233)).mono (fun y b => DnI.link (by omega) e0 hc hcs hi4 c89 hb0 y b)
                        | exact (hW.met (b := b0) hyN hWv (tw1 hW c221)).mono (fun y b => DnI.link (by omega) e0 hc hcs hi4 c89 hb0 y b)
                        | exact (hW.met (b := b0) hyN hWv (tw0 hW c221 c233)).mono (fun y b => DnI.link (by omega) e0 hc hcs hi4 c89 hb0 y b)
                        | (refine SP.many ((hW.met (b := b0) hyN hWv (twx hW c221 c233)).mono (fun y b => or_dup.trans (DnI.link (by omega) e0 hc hcs hi4 c89 hb0 y b))) ?_; exact hmy)
                        | (refine SP.many ((hW.met (b := b0) hyN hWv (tw1 hW c221)).mono (fun y b => or_dup.trans (DnI.link (by omega) e0 hc hcs hi4 c89 hb0 y b))) ?_; exact hmy)
                        | (refine SP.many ((hW.met (b := b0) hyN hWv (tw0 hW c221 c233)).mono (fun y b => or_dup.trans (DnI.link (by omega) e0 hc hcs hi4 c89 hb0 y b))) ?_; exact hmy))
                      have e3 : mny S (((((U).sa 204 (cutN (sv S) t (go (4 * s + c)) i) ((U).2.1 204 (cut))).sa 205 (cutN (sv S) t (go (4 * s + c)) i) (sgn b0 (S.2.1 205 cut))).sa 206 (mny S U (fsum (sv S) (7 * P)) size) (nI (cutN (sv S) t (go (4 * s + c)) i))).sf 189 24 (nI (0))) (fsum (sv S) (7 * P)) size = mny S U (fsum (sv S) (7 * P)) size + 1 := by first | rfl | exact hmy
                      rw [e3] at ihi
                      exact ihi
                    · refine an_iconst 1 d173_236 rfl ?_
                      refine as_goto 241 d173_237 (by decide) ?_
                      refine ap_put d173_241 f173_248 (by decide) rfl (Nat.le_of_ble_eq_true rfl) (rfl) rfl rfl ?_
                      refine an_iinc 1 d173_244 rfl rfl (by decide) ?_
                      refine as_goto 52 d173_247 (by decide) ?_
                      refine AW.loc [(0, .ref (189)), (1, .int (nI (cut))), (3, .int (nI (mny S U (fsum (sv S) (7 * P)) size + 1))), (4, .int (nI (k / 7))), (5, .int (nI (s))), (6, .int (nI (c))), (7, .int (nI (i + 1)))] (am_pick [5, 6, 1, 7, 8, 9, 0] rfl rfl) ?_
                      have ihi := ihi (((((U).sa 204 (cutN (sv S) t (go (4 * s + c)) i) ((U).2.1 204 (cut))).sa 205 (cutN (sv S) t (go (4 * s + c)) i) (sgn b0 (S.2.1 205 cut))).sa 206 (mny S U (fsum (sv S) (7 * P)) size) (nI (cutN (sv S) t (go (4 * s + c)) i))).sf 189 24 (nI (1))) (by
                        first
                        | exact hJ.mono hDi
                        | exact (hW.met (b := b0) hyN hWv (twx hW c221 c233)).mono (fun y b => DnI.link (by omega) e0 hc hcs hi4 c89 hb0 y b)
                        | exact (hW.met (b := b0) hyN hWv (tw1 hW c221)).mono (fun y b => DnI.link (by omega) e0 hc hcs hi4 c89 hb0 y b)
                        | exact (hW.met (b := b0) hyN hWv (tw0 hW c221 c233)).mono (fun y b => DnI.link (by omega) e0 hc hcs hi4 c89 hb0 y b)
                        | (refine SP.many ((hW.met (b := b0) hyN hWv (twx hW c221 c233)).mono (fun y b => or_dup.trans (DnI.link (by omega) e0 hc hcs hi4 c89 hb0 y b))) ?_; exact hmy)
                        | (refine SP.many ((hW.met (b := b0) hyN hWv (tw1 hW c221)).mono (fun y b => or_dup.trans (DnI.link (by omega) e0 hc hcs hi4 c89 hb0 y b))) ?_; exact hmy)
                        | (refine SP.many ((hW.met (b := b0) hyN hWv (tw0 hW c221 c233)).mono (fun y b => or_dup.trans (DnI.link (by omega) e0 hc hcs hi4 c89 hb0 y b))) ?_; exact hmy))
                      have e3 : mny S (((((U).sa 204 (cutN (sv S) t (go (4 * s + c)) i) ((U).2.1 204 (cut))).sa 205 (cutN (sv S) t (go (4 * s + c)) i) (sgn b0 (S.2.1 205 cut))).sa 206 (mny S U (fsum (sv S) (7 * P)) size) (nI (cutN (sv S) t (go (4 * s + c)) i))).sf 189 24 (nI (1))) (fsum (sv S) (7 * P)) size = mny S U (fsum (sv S) (7 * P)) size + 1 := by first | rfl | exact hmy
                      rw [e3] at ihi
                      exact ihi
            · have hDi := fun y b => DnI.other (P := P) (mt := mt) (go := go) (sh := sv S) (cut := cut) c89 y b
              refine as_goto 244 d173_92 (by decide) ?_
              refine an_iinc 1 d173_244 rfl rfl (by decide) ?_
              refine as_goto 52 d173_247 (by decide) ?_
              refine AW.loc [(0, .ref (189)), (1, .int (nI (cut))), (3, .int (nI (mny S U (fsum (sv S) (7 * P)) size))), (4, .int (nI (k / 7))), (5, .int (nI (s))), (6, .int (nI (c))), (7, .int (nI (i + 1)))] (am_pick [1, 2, 3, 4, 5, 6, 0] rfl rfl) ?_
              have ihi := ihi (U) (by
                first
                | exact hJ.mono hDi
                | exact (hW.met (b := b0) hyN hWv (twx hW c221 c233)).mono (fun y b => DnI.link (by omega) e0 hc hcs hi4 c89 hb0 y b)
                | exact (hW.met (b := b0) hyN hWv (tw1 hW c221)).mono (fun y b => DnI.link (by omega) e0 hc hcs hi4 c89 hb0 y b)
                | exact (hW.met (b := b0) hyN hWv (tw0 hW c221 c233)).mono (fun y b => DnI.link (by omega) e0 hc hcs hi4 c89 hb0 y b)
                | (refine SP.many ((hW.met (b := b0) hyN hWv (twx hW c221 c233)).mono (fun y b => or_dup.trans (DnI.link (by omega) e0 hc hcs hi4 c89 hb0 y b))) ?_; exact hmy)
                | (refine SP.many ((hW.met (b := b0) hyN hWv (tw1 hW c221)).mono (fun y b => or_dup.trans (DnI.link (by omega) e0 hc hcs hi4 c89 hb0 y b))) ?_; exact hmy)
                | (refine SP.many ((hW.met (b := b0) hyN hWv (tw0 hW c221 c233)).mono (fun y b => or_dup.trans (DnI.link (by omega) e0 hc hcs hi4 c89 hb0 y b))) ?_; exact hmy))
              exact ihi
          · refine as_iload d173_52 rfl ?_
            refine as_iload d173_54 rfl ?_
            refine an_iconst 4 d173_56 rfl ?_
            refine an_irem d173_57 (by omega) (by omega) (by omega) ?_
            refine an_icmp_eq 250 d173_58 (by decide) (by omega) (by omega) (fun c58 => absurd c58 hcs) (fun c58 => ?_)
            refine as_iload d173_61 rfl ?_
            refine as_aload_n d173_63 rfl ?_
            refine as_iload d173_64 rfl ?_
            refine as_iload d173_66 rfl ?_
            refine an_iconst 4 d173_68 rfl ?_
            refine an_irem d173_69 (by omega) (by omega) (by omega) ?_
            refine as_iload d173_70 rfl ?_
            refine ac_v3 d173_72 c173_230 (by decide) rfl (Nat.le_of_ble_eq_true rfl) (mc_arcsK X hJX.1 _ _ _ (by omega) (by omega) (by omega) (by omega) hS) ?_
            refine an_icmp_ge 250 d173_75 (by decide) (by omega) (by omega) (fun c75 => ?_) (fun c75 => by omega)
            refine an_iinc 1 d173_250 rfl rfl (by decide) ?_
            refine as_goto 32 d173_253 (by decide) ?_
            refine AW.loc [(0, .ref (189)), (1, .int (nI (cut))), (3, .int (nI (mny S U (fsum (sv S) (7 * P)) size))), (4, .int (nI (k / 7))), (5, .int (nI (s))), (6, .int (nI (c + 1)))] (am_pick [1, 2, 3, 4, 5, 0] rfl rfl) ?_
            have ihc := ihc (U) (by first | exact hIc.mono hDc | exact hJX.mono hDc)
            exact ihc
      · refine as_iload d173_32 rfl ?_
        refine an_iconst 4 d173_34 rfl ?_
        refine an_icmp_ge 256 d173_35 (by decide) (by omega) (by omega) (fun c35 => ?_) (fun c35 => by omega)
        refine an_iinc 1 d173_256 rfl rfl (by decide) ?_
        refine as_goto 18 d173_259 (by decide) ?_
        refine AW.loc [(0, .ref (189)), (1, .int (nI (cut))), (3, .int (nI (mny S T1 (fsum (sv S) (7 * P)) size))), (4, .int (nI (k / 7))), (5, .int (nI (s + 1)))] (am_pick [1, 2, 3, 4, 0] rfl rfl) ?_
        have ihs := ihs (T1) (by first | exact hIs.mono hDs | exact hXc.mono hDs)
        exact ihs
  · refine as_iload d173_18 rfl ?_
    refine an_iconst 4 d173_20 rfl ?_
    refine as_iload d173_21 rfl ?_
    refine an_imul d173_23 ?_
    refine an_iconst 4 d173_24 rfl ?_
    refine an_iadd d173_25 ?_
    refine an_icmp_ge 262 d173_26 (by decide) (by omega) (by omega) (fun c26 => ?_) (fun c26 => by omega)
    refine as_iload_n d173_262 rfl ?_
    refine as_ireturn d173_263 (by rw [t173]; rfl) ?_
    exact ⟨_, _, rfl, _, rfl, hXs.mono (DnI.last hk1 hk2)⟩
