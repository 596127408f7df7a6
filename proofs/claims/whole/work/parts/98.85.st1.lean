/-! both memories together: what holds between calls -/
def InvC (S : MS) (P : Nat) (mt : Nat → Option Nat) (go : Nat → Nat) (sh : Nat → Nat) : Prop := SD S P mt go ∧ SHC S sh ∧ LSt S P mt go ∧ (S.1 0 6 = nI 1 ∨ (S.1 0 6 = nI 0 ∧ PB S P mt go sh)) ∧ RQ S
def InvR (S : MS) (P : Nat) (mt : Nat → Option Nat) (go : Nat → Nat) : Prop := RG S P mt go ∧ SHN S ∧ ∀ i, 7 * P ≤ i → S.2.1 192 i = 0
def Inv (S : MS) (P : Nat) (mt : Nat → Option Nat) (go : Nat → Nat) : Prop := GW P mt go ∧ InvC S P mt go (sv S) ∧ InvR S P mt go
/-- a call of the class and the same call of the reference answer alike, and what holds between calls holds again -/
def LawS (X : am_X) (mC mR : Nat) (as : List Value) (S : MS) : Prop := ∃ z T U, MC X mC (.ref 0 :: as) S (some (.int z)) T ∧ MC X mR (.ref 189 :: as) T (some (.int z)) U ∧ ∃ P mt go, Inv U P mt go
def KC (S T : MS) : Prop := (∀ k, k < 189 → T.2.1 k = S.2.1 k) ∧ (∀ k, k < 189 → T.2.2.2 k = S.2.2.2 k) ∧ ∀ i j, i < 189 → T.1 i j = S.1 i j
theorem dN64 {P : Nat} {mt : Nat → Option Nat} {go : Nat → Nat} (h : GW P mt go) : dN P mt go ≤ 64 := (dall h (eqs mt go (4 * P)) [] (List.append_nil _)).1
theorem LSt.keep {S T : MS} {P : Nat} {mt : Nat → Option Nat} {go : Nat → Nat} (hG : GW P mt go) (h : LSt S P mt go) (h1 : ∀ k, k = 43 ∨ k = 44 ∨ k = 111 → T.2.2.2 k = S.2.2.2 k) (h2 : ∀ k, 45 ≤ k → k < 176 → T.2.1 k = S.2.1 k) (h3 : T.1 43 0 = S.1 43 0) (h4 : T.1 43 1 = S.1 43 1) (h5 : T.1 0 5 = S.1 0 5) : LSt T P mt go := by
  have lf : LRf S → LRf T := fun q => by
    unfold LRf
    rw [h1 44 (by omega), h1 111 (by omega)]
    exact q
  have lc : ∀ r s nr ns, LCf S r s nr ns → LCf T r s nr ns := fun r s nr ns q => by
    unfold LCf
    rw [h1 43 (by omega)]
    exact q
  have n64 := dN64 hG
  obtain ⟨⟨a1, a2⟩, b⟩ := h
  refine ⟨⟨lf a1, a2.imp (lc _ _ _ _) (lc _ _ _ _)⟩, ?_⟩
  rcases b with b | ⟨b, c1, c2, c3, c4⟩
  · exact Or.inl (h5.trans b)
  · refine Or.inr ⟨h5.trans b, lf c1, h3.trans c2, h4.trans c3, ?_⟩
    rcases c4 with ⟨d1, d2⟩ | ⟨d1, d2⟩
    · refine Or.inl ⟨lc _ _ _ _ d1, fun i hi j hj => ?_⟩
      have r := c1.1 i (by omega)
      rw [h1 44 (by omega), h2 _ r.1 (by omega)]
      exact d2 i hi j hj
    · refine Or.inr ⟨lc _ _ _ _ d1, fun i hi j hj => ?_⟩
      have r := c1.2.2.1 i (by omega)
      rw [h1 111 (by omega), h2 _ (by omega) r.2]
      exact d2 i hi j hj
theorem PB.keep {S T : MS} {P : Nat} {mt : Nat → Option Nat} {go : Nat → Nat} {sh : Nat → Nat} (h : PB S P mt go sh) (h1 : ∀ k, 181 ≤ k → k ≤ 188 → T.2.1 k = S.2.1 k) (h2 : T.1 180 6 = S.1 180 6) : PB T P mt go sh := by
  refine ⟨h.1.keep (h1 183 (by omega) (by omega)) (h1 184 (by omega) (by omega)) (h1 185 (by omega) (by omega)) h2, fun k hk => ?_⟩
  rw [h1 187 (by omega) (by omega), h1 188 (by omega) (by omega)]
  exact h.2 k hk
theorem SHC.eq {S T : MS} {sh : Nat → Nat} (h : SHC S sh) (e : T.2.1 178 = S.2.1 178) : SHC T sh := fun i hi => by rw [e]; exact h i hi
theorem RQ.eq {S T : MS} (h : RQ S) (e : T.2.2.2 23 = S.2.2.2 23) : RQ T := by unfold RQ; rw [e]; exact h
theorem PS.keep {S T : MS} {P : Nat} {mt : Nat → Option Nat} {go : Nat → Nat} {sh : Nat → Nat} (h : S.1 0 6 = nI 1 ∨ (S.1 0 6 = nI 0 ∧ PB S P mt go sh)) (h0 : T.1 0 6 = S.1 0 6) (h1 : ∀ k, 181 ≤ k → k ≤ 188 → T.2.1 k = S.2.1 k) (h2 : T.1 180 6 = S.1 180 6) : T.1 0 6 = nI 1 ∨ (T.1 0 6 = nI 0 ∧ PB T P mt go sh) := h.imp (fun q => h0.trans q) (fun q => ⟨h0.trans q.1, q.2.keep h1 h2⟩)
theorem InvC.kc {S T : MS} {P : Nat} {mt : Nat → Option Nat} {go : Nat → Nat} {sh : Nat → Nat} (hG : GW P mt go) (h : InvC S P mt go sh) (k : KC S T) : InvC T P mt go sh := by
  obtain ⟨a, b, c, d, e⟩ := h
  exact ⟨a.keep (fun i hi => k.1 i (by omega)) (fun i j _ hi => k.2.2 i j (by omega)), b.eq (k.1 178 (by omega)), c.keep hG (fun i hi => k.2.1 i (by omega)) (fun i _ hi => k.1 i (by omega)) (k.2.2 _ _ (by omega)) (k.2.2 _ _ (by omega)) (k.2.2 _ _ (by omega)), PS.keep d (k.2.2 _ _ (by omega)) (fun i _ hi => k.1 i (by omega)) (k.2.2 _ _ (by omega)), e.eq (k.2.1 23 (by omega))⟩
theorem InvR.eq {S T : MS} {P : Nat} {mt : Nat → Option Nat} {go : Nat → Nat} (h : InvR S P mt go) (h0 : T.1 189 0 = S.1 189 0) (h1 : T.2.1 190 = S.2.1 190) (h2 : T.2.1 191 = S.2.1 191) (h3 : T.2.1 192 = S.2.1 192) : InvR T P mt go ∧ sv T = sv S := by
  obtain ⟨⟨a1, a2, a3⟩, b, c⟩ := h
  obtain ⟨e1, e2⟩ := b.eq h3
  refine ⟨⟨⟨h0.trans a1, fun s hs => ?_, fun s t c' hs e hc => ?_⟩, e1, fun i hi => ?_⟩, e2⟩
  · rw [h1]; exact a2 s hs
  · rw [h2]; exact a3 s t c' hs e hc
  · rw [h3]; exact c i hi
/-- the reference's part unchanged -/
def KR (S T : MS) : Prop := (∀ k, 189 < k → T.2.1 k = S.2.1 k) ∧ T.1 189 0 = S.1 189 0
theorem InvR.kr {S T : MS} {P : Nat} {mt : Nat → Option Nat} {go : Nat → Nat} (h : InvR S P mt go) (k : KR S T) : InvR T P mt go ∧ sv T = sv S := h.eq k.2 (k.1 _ (by omega)) (k.1 _ (by omega)) (k.1 _ (by omega))
theorem KR.rf (S : MS) : KR S S := ⟨fun _ _ => rfl, rfl⟩
theorem KC.rf (S : MS) : KC S S := ⟨fun _ _ => rfl, fun _ _ => rfl, fun _ _ _ => rfl⟩
theorem rKeep.kc {S T : MS} (h : rKeep S T) : KC S T := ⟨fun k hk => h.1 k (by omega) (by omega) (by omega), fun k _ => by rw [h.2.1], fun i j hi => h.2.2 i j (by omega)⟩
theorem lKeep.kc {S T : MS} (h : lKeep S T) : KC S T := ⟨fun k hk => h.1 k (by omega) (by omega) (by omega), fun k _ => by rw [h.2.1], fun i j hi => h.2.2 i j (by omega)⟩
theorem fKeep.kc {S T : MS} (h : fKeep S T) : KC S T := ⟨fun k hk => h.1 k (by omega) (by omega), fun k _ => by rw [h.2.1], fun i j hi => h.2.2 i j (by omega)⟩
theorem hKeep.kc {S T : MS} (h : hKeep S T) : KC S T := ⟨fun k hk => h.1 k (by omega), fun k _ => by rw [h.2.2.1], fun i j hi => h.2.2.2 i j (by omega)⟩
theorem KC.trans {S T U : MS} (h : KC S T) (g : KC T U) : KC S U := ⟨fun k hk => (g.1 k hk).trans (h.1 k hk), fun k hk => (g.2.1 k hk).trans (h.2.1 k hk), fun i j hi => (g.2.2 i j hi).trans (h.2.2 i j hi)⟩
/-- the reference's gluing and sheet unchanged -/
def KS (S T : MS) : Prop := T.1 189 0 = S.1 189 0 ∧ T.2.1 190 = S.2.1 190 ∧ T.2.1 191 = S.2.1 191 ∧ T.2.1 192 = S.2.1 192
theorem rKeep.ks {S T : MS} (h : rKeep S T) : KS S T := ⟨h.2.2 _ _ (by omega), h.1 _ (by omega) (by omega) (by omega), h.1 _ (by omega) (by omega) (by omega), h.1 _ (by omega) (by omega) (by omega)⟩
theorem lKeep.ks {S T : MS} (h : lKeep S T) : KS S T := ⟨h.2.2 _ _ (by omega), h.1 _ (by omega) (by omega) (by omega), h.1 _ (by omega) (by omega) (by omega), h.1 _ (by omega) (by omega) (by omega)⟩
theorem fKeep.ks {S T : MS} (h : fKeep S T) : KS S T := ⟨h.2.2 _ _ (by omega), h.1 _ (by omega) (by omega), h.1 _ (by omega) (by omega), h.1 _ (by omega) (by omega)⟩
theorem hKeep.ks {S T : MS} (h : hKeep S T) : KS S T := ⟨h.2.2.2 _ _ (by omega), h.1 _ (by omega), h.1 _ (by omega), h.1 _ (by omega)⟩
theorem KS.trans {S T U : MS} (h : KS S T) (g : KS T U) : KS S U := ⟨g.1.trans h.1, g.2.1.trans h.2.1, g.2.2.1.trans h.2.2.1, g.2.2.2.trans h.2.2.2⟩
theorem Inv.ref {S T : MS} {P : Nat} {mt : Nat → Option Nat} {go : Nat → Nat} (h : Inv S P mt go) (k : KC S T) (s : KS S T) : Inv T P mt go := by
  obtain ⟨r, e⟩ := h.2.2.eq s.1 s.2.1 s.2.2.1 s.2.2.2
  refine ⟨h.1, ?_, r⟩
  rw [e]
  exact h.2.1.kc h.1 k
theorem Inv.mk' {S T : MS} {P : Nat} {mt : Nat → Option Nat} {go : Nat → Nat} (hG : GW P mt go) (hC : InvC T P mt go (sv S)) (hR : InvR S P mt go) (k : KR S T) : Inv T P mt go := by
  obtain ⟨r, e⟩ := hR.kr k
  exact ⟨hG, by rw [e]; exact hC, r⟩
theorem sv_z {S : MS} {P : Nat} {mt : Nat → Option Nat} {go : Nat → Nat} (h : InvR S P mt go) : ∀ i, 7 * P ≤ i → sv S i = 0 := fun i hi => by
  unfold sv
  rw [h.2.2 i hi]
  rfl
/-- the space changed -/
theorem New.c {S T : MS} {P P' : Nat} {mt mt' : Nat → Option Nat} {go go' sh sh' : Nat → Nat} (h : InvC S P mt go sh) (n : New S T P' mt' go') (hs : SHC T sh') : InvC T P' mt' go' sh' := by
  obtain ⟨n1, n2, n3, n4⟩ := n
  obtain ⟨-, -, c, -, e⟩ := h
  refine ⟨n1, hs, ⟨⟨c.1.1.eq n2.2.1, ?_⟩, Or.inl n3⟩, Or.inl n4, e.eq (by rw [n2.2.1])⟩
  unfold LCf
  rw [n2.2.1]
  exact c.1.2
theorem chg.kr {S T : MS} (h : chg S T) : KR S T := ⟨fun k hk => h.1 k (by omega) (by omega), h.2.2 _ _ (by omega)⟩
/-- the reference's rows -/
theorem zRow_at (S : MS) (A : Nat) : ∀ n i, (zRow S A n).2.1 A i = if i < n then 0 else S.2.1 A i
  | 0, i => by rw [if_neg (by omega)]; rfl
  | n + 1, i => by
    show ((zRow S A n).sa A n 0).2.1 A i = _
    rw [sa_at]
    by_cases c : i = n
    · rw [if_pos c, if_pos (by omega)]
    · rw [if_neg c, zRow_at S A n i]
      by_cases d : i < n
      · rw [if_pos d, if_pos (by omega)]
      · rw [if_neg d, if_neg (by omega)]
theorem zRow_o (S : MS) {A k : Nat} (h : k ≠ A) : ∀ n, (zRow S A n).2.1 k = S.2.1 k
  | 0 => rfl
  | n + 1 => by
    show ((zRow S A n).sa A n 0).2.1 k = _
    rw [sa_row _ _ _ _ h]
    exact zRow_o S h n
theorem zRow_2 (S : MS) (A : Nat) : ∀ n, (zRow S A n).2.2 = S.2.2
  | 0 => rfl
  | n + 1 => zRow_2 S A n
