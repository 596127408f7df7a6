/-! holes: the reference goes around an edge -/
theorem sl_at (S : MS) (a k : Nat) (x : Int64) (i j : Nat) : (S.sl a k x).2.2.1 i j = if i = a ∧ j = k then x else S.2.2.1 i j := u2_at _ _ _ _ _ _
def prOf (mt : Nat → Option Nat) (s : Nat) : Nat := match mt s with
  | none => 0
  | some t => cnt (prN mt) (min s t)
theorem prOf_s {mt : Nat → Option Nat} {s t : Nat} (h : mt s = some t) : prOf mt s = cnt (prN mt) (min s t) := by
  unfold prOf
  rw [h]
def sgW (mt : Nat → Option Nat) (s : Nat) : Int := if prN mt s = true then 1 else -1
/-- what a way adds up to -/
def rwX (mt : Nat → Option Nat) (x : Nat → WS) : Nat → Nat → Int
  | 0, _ => 0
  | n + 1, c => rwX mt x n c + if prOf mt (x n).1 = c then sgW mt (x n).1 else 0
theorem cnt_lt2 {q : Nat → Bool} {s n : Nat} (h : q s = true) (hs : s < n) : cnt q s < cnt q n := by
  induction n with
  | zero => omega
  | succ n ih =>
    by_cases e : s = n
    · subst e
      rw [cnt_t h]
      omega
    · have := ih (by omega)
      have h2 : cnt q n ≤ cnt q (n + 1) := by
        by_cases c : q n = true
        · rw [cnt_t c]; omega
        · rw [cnt_f c]; omega
      omega
theorem prOf_lt {P : Nat} {mt : Nat → Option Nat} {go : Nat → Nat} (hG : GW P mt go) {s t : Nat} (hs : s < 4 * P) (e0 : mt s = some t) : prOf mt s < cnt (prN mt) (4 * P) := by
  rw [prOf_s e0]
  obtain ⟨g1, g2, g3, -⟩ := hG.2 s hs t e0
  refine cnt_lt2 ?_ (show min s t < 4 * P by omega)
  by_cases q : s < t
  · rw [show min s t = s by omega]
    exact prN_t e0 q
  · rw [show min s t = t by omega]
    exact prN_t g3 (by omega)
/-- the row r of the table is being filled -/
def GRow (S T : MS) (r m : Nat) (f : Nat → Int) : Prop := T.1 = S.1 ∧ T.2.1 = S.2.1 ∧ T.2.2.2 = S.2.2.2 ∧ (∀ y j, ¬ (y = 198 ∧ 6 * r ≤ j ∧ j < 6 * r + 6) → T.2.2.1 y j = S.2.2.1 y j) ∧ ∀ c, c < m → T.2.2.1 198 (6 * r + c) = Int64.ofInt (f c)
theorem GRow.set {S T : MS} {r m : Nat} {f : Nat → Int} (h : GRow S T r m f) (hm : m < 6) (x : Int) : GRow S (T.sl 198 (6 * r + m) (Int64.ofInt x)) r (m + 1) (fun c => if c = m then x else f c) := by
  refine ⟨h.1, h.2.1, h.2.2.1, fun y j g => ?_, fun c hc => ?_⟩
  · rw [sl_at, if_neg (by omega)]
    exact h.2.2.2.1 y j g
  · rw [sl_at]
    by_cases e : c = m
    · rw [if_pos ⟨rfl, by omega⟩]
      show _ = Int64.ofInt (if c = m then x else f c)
      rw [if_pos e]
    · rw [if_neg (by omega)]
      show _ = Int64.ofInt (if c = m then x else f c)
      rw [if_neg e]
      exact h.2.2.2.2 c (by omega)
theorem GRow.step {S T : MS} {r m : Nat} {f : Nat → Int} (h : GRow S T r m f) {q : Nat} (hq : q < m) (hm : m ≤ 6) {d : Int} {y : Int64} (hy : y = T.2.2.1 198 (6 * r + q) + Int64.ofInt d) : GRow S (T.sl 198 (6 * r + q) y) r m (fun c => f c + if q = c then d else 0) := by
  refine ⟨h.1, h.2.1, h.2.2.1, fun z j g => ?_, fun c hc => ?_⟩
  · rw [sl_at, if_neg (by omega)]
    exact h.2.2.2.1 z j g
  · rw [sl_at]
    by_cases e : q = c
    · subst e
      rw [if_pos ⟨rfl, rfl⟩, hy, h.2.2.2.2 q hq]
      show _ = Int64.ofInt (f q + if q = q then d else 0)
      rw [if_pos rfl, Int64.ofInt_add]
    · rw [if_neg (by omega)]
      show _ = Int64.ofInt (f c + if q = c then d else 0)
      rw [if_neg e, Int.add_zero]
      exact h.2.2.2.2 c hc
/-- where the way around the edge k starts -/
def ws (k : Nat) : WS := (4 * (k / 6) + fE (5 - k % 6), fE (k % 6), tE (k % 6))
theorem fE_opp : ∀ e, e < 6 → fE (5 - e) < 4 ∧ fE (5 - e) ≠ fE e ∧ fE (5 - e) ≠ tE e ∧ ∀ j, j < fE (5 - e) → j = fE e ∨ j = tE e := by decide
theorem ws_v {P k : Nat} (h : k < 6 * P) : WV P (ws k) := by
  have h1 := fE_ok (k % 6) (by omega)
  have h2 := fE_opp (k % 6) (by omega)
  unfold WV ws
  dsimp only
  rw [show (4 * (k / 6) + fE (5 - k % 6)) % 4 = fE (5 - k % 6) by omega]
  exact ⟨by omega, h1.2.2.1, h1.2.2.2.1, by omega, by omega, by omega⟩
/-- the stations, one after another -/
def WX (mt : Nat → Option Nat) (go : Nat → Nat) (k n : Nat) (x : Nat → WS) : Prop := x 0 = ws k ∧ (∀ i, i < n → wst mt go (x i) = some (x (i + 1)) ∧ x (i + 1) ≠ ws k) ∧ (mt (x n).1 = none ∨ wst mt go (x n) = some (ws k))
theorem WX.v {P : Nat} {mt : Nat → Option Nat} {go : Nat → Nat} (hG : GW P mt go) {k n : Nat} {x : Nat → WS} (h : WX mt go k n x) (hk : k < 6 * P) : ∀ i, i ≤ n → WV P (x i)
  | 0, _ => by rw [h.1]; exact ws_v hk
  | i + 1, hi => (WX.v hG h hk i (by omega)).st hG (h.2.1 i (by omega)).1
theorem WX_ex {P : Nat} {mt : Nat → Option Nat} {go L : Nat → Nat} (hG : GW P mt go) (hN : NB P mt go L) {k : Nat} (hk : k < 6 * P) : ∃ n x, n < 6 * P ∧ WX mt go k n x := by
  obtain ⟨n, h1, v, h2, h3, h4⟩ := walk_end hG hN (ws_v hk)
  refine ⟨n, fun i => (wit mt go i (ws k)).getD (ws k), h1, rfl, fun i hi => ?_, ?_⟩
  · obtain ⟨u, x, a1, a2, a3⟩ := h4 i hi
    show wst mt go ((wit mt go i (ws k)).getD (ws k)) = some ((wit mt go (i + 1) (ws k)).getD (ws k)) ∧ (wit mt go (i + 1) (ws k)).getD (ws k) ≠ ws k
    rw [wit_s a1 a2, a1]
    exact ⟨a2, a3⟩
  · show mt ((wit mt go n (ws k)).getD (ws k)).1 = none ∨ wst mt go ((wit mt go n (ws k)).getD (ws k)) = some (ws k)
    rw [h2]
    exact h3
/-- a station's code tells it -/
theorem ws_eq {k : Nat} {w : WS} {P : Nat} (h : WV P w) (hk : k < 6 * P) (h1 : 16 * (w.1 / 4) + 4 * w.2.1 + w.2.2 = 16 * (k / 6) + 4 * fE (k % 6) + tE (k % 6)) (h2 : w.1 % 4 = fE (5 - k % 6)) : w = ws k := by
  obtain ⟨a1, a2, a3, a4, a5, a6⟩ := h
  have f1 := fE_ok (k % 6) (by omega)
  have e1 : w.1 / 4 = k / 6 := by omega
  have e2 : w.2.1 = fE (k % 6) := by omega
  have e3 : w.2.2 = tE (k % 6) := by omega
  refine Prod.ext ?_ (Prod.ext e2 e3)
  show w.1 = 4 * (k / 6) + fE (5 - k % 6)
  omega
