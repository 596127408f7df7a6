/-! the search: pieces and corners named anew -/
def pp6 : List Nat := [36, 24, 33, 9, 18, 6]
def comp (b m : Nat) : Nat := Nat.add (Nat.add (dg b (dg m 0)) (Nat.mul 4 (dg b (dg m 1)))) (Nat.add (Nat.mul 16 (dg b (dg m 2))) (Nat.mul 64 (dg b (dg m 3))))
def reix (a n : Nat) : Nat := Nat.add (Nat.add (Nat.shiftLeft (dg n 0) (Nat.mul 2 (dg a 0))) (Nat.shiftLeft (dg n 1) (Nat.mul 2 (dg a 1)))) (Nat.add (Nat.shiftLeft (dg n 2) (Nat.mul 2 (dg a 2))) (Nat.shiftLeft (dg n 3) (Nat.mul 2 (dg a 3))))
theorem comp_ok : ∀ b ∈ pms, ∀ m ∈ pms, comp b m ∈ pms ∧ ∀ c, c < 4 → dg (comp b m) c = dg b (dg m c) := by decide +kernel
theorem reix_ok : ∀ a ∈ pms, ∀ n ∈ pms, reix a n ∈ pms ∧ ∀ c, c < 4 → dg (reix a n) (dg a c) = dg n c := by decide +kernel
theorem pms_ok : ∀ a ∈ pms, ∀ c, c < 4 → dg a c < 4 ∧ ∀ d, d < 4 → dg a c = dg a d → c = d := by decide +kernel
theorem pms_sj : ∀ a ∈ pms, ∀ d, d < 4 → ∃ c, c < 4 ∧ dg a c = d := by
  have : ∀ a ∈ pms, ∀ d, d < 4 → dg a 0 = d ∨ dg a 1 = d ∨ dg a 2 = d ∨ dg a 3 = d := by decide +kernel
  intro a ha d hd
  rcases this a ha d hd with e | e | e | e
  · exact ⟨0, by omega, e⟩
  · exact ⟨1, by omega, e⟩
  · exact ⟨2, by omega, e⟩
  · exact ⟨3, by omega, e⟩
def kap (a k : Nat) : Nat := kO (dg a 0) (dg a (k + 1))
theorem kap_ok : ∀ a ∈ pms, ∀ c, c < 4 → ∀ f, f < 4 → c ≠ f → kO c f < 3 ∧ kO (dg a c) (dg a f) = kap a (kO c f) := by decide +kernel
theorem kap_in : ∀ a ∈ pms, ∀ k, k < 3 → kap a k < 3 ∧ ∀ l, l < 3 → kap a k = kap a l → k = l := by decide +kernel
theorem pp6_ok : ∀ a ∈ pp6, ∀ c, c < 3 → dg a c < 3 ∧ ∀ d, d < 3 → dg a c = dg a d → c = d := by decide +kernel
theorem inj_surj {n : Nat} {f : Nat → Nat} (h1 : ∀ i, i < n → f i < n) (h2 : ∀ i j, i < n → j < n → f i = f j → i = j) : ∀ j, j < n → ∃ i, i < n ∧ f i = j := by
  intro j hj
  by_cases c : ∃ i, i < n ∧ f i = j
  · exact c
  · exfalso
    have ne : ∀ i, i < n → f i ≠ j := fun i hi e => c ⟨i, hi, e⟩
    have := pigI (n - 1) n (fun i => if f i < j then f i else f i - 1) (fun i hi => by
      have a := h1 i hi
      have b := ne i hi
      show (if f i < j then f i else f i - 1) < n - 1
      split <;> omega) (fun i k hi hk e => h2 i k hi hk (by
      have a := ne i hi
      have b := ne k hk
      have e : (if f i < j then f i else f i - 1) = (if f k < j then f k else f k - 1) := e
      split at e <;> split at e <;> omega))
    omega
def mmf (m0 m1 m2 p : Nat) : Nat := if p = 0 then m0 else if p = 1 then m1 else m2
theorem mmf_in {m0 m1 m2 : Nat} (h0 : m0 ∈ pms) (h1 : m1 ∈ pms) (h2 : m2 ∈ pms) (p : Nat) : mmf m0 m1 m2 p ∈ pms := by
  unfold mmf
  split
  · exact h0
  · split
    · exact h1
    · exact h2
section
variable (PP m0 m1 m2 : Nat)
def tau (i : Nat) : Nat := 7 * dg PP (i / 7) + (if i % 7 < 4 then dg (mmf m0 m1 m2 (i / 7)) (i % 7) else 4 + kap (mmf m0 m1 m2 (i / 7)) (i % 7 - 4))
def pull (v : Vc) : Vc := fun i => if i < 21 then v (tau PP m0 m1 m2 i) else 0
def sgS (s : Nat) : Nat := 4 * dg PP (s / 4) + dg (mmf m0 m1 m2 (s / 4)) (s % 4)
def actG (g : PG) : PG := if sgS PP m0 m1 m2 g.1 < sgS PP m0 m1 m2 g.2.1 then (sgS PP m0 m1 m2 g.1, sgS PP m0 m1 m2 g.2.1, reix (mmf m0 m1 m2 (g.1 / 4)) (comp (mmf m0 m1 m2 (g.2.1 / 4)) g.2.2)) else (sgS PP m0 m1 m2 g.2.1, sgS PP m0 m1 m2 g.1, reix (comp (mmf m0 m1 m2 (g.2.1 / 4)) g.2.2) (mmf m0 m1 m2 (g.1 / 4)))
def actQ (q : QF) : QF := if sgS PP m0 m1 m2 q.1 < sgS PP m0 m1 m2 q.2.1 then (sgS PP m0 m1 m2 q.1, sgS PP m0 m1 m2 q.2.1, dg (mmf m0 m1 m2 (q.1 / 4)) q.2.2.1, dg (mmf m0 m1 m2 (q.2.1 / 4)) q.2.2.2) else (sgS PP m0 m1 m2 q.2.1, sgS PP m0 m1 m2 q.1, dg (mmf m0 m1 m2 (q.2.1 / 4)) q.2.2.2, dg (mmf m0 m1 m2 (q.1 / 4)) q.2.2.1)
end
section
variable {PP m0 m1 m2 : Nat}
theorem tau_in (hP : PP ∈ pp6) (h0 : m0 ∈ pms) (h1 : m1 ∈ pms) (h2 : m2 ∈ pms) : (∀ i, i < 21 → tau PP m0 m1 m2 i < 21) ∧ ∀ i j, i < 21 → j < 21 → tau PP m0 m1 m2 i = tau PP m0 m1 m2 j → i = j := by
  have hm := mmf_in h0 h1 h2
  have small : ∀ i, (if i % 7 < 4 then dg (mmf m0 m1 m2 (i / 7)) (i % 7) else 4 + kap (mmf m0 m1 m2 (i / 7)) (i % 7 - 4)) < 7 := fun i => by
    have := Nat.mod_lt i (show 0 < 7 by decide)
    split
    · have := (pms_ok _ (hm (i / 7)) (i % 7) (by omega)).1; omega
    · have := (kap_in _ (hm (i / 7)) (i % 7 - 4) (by omega)).1; omega
  refine ⟨fun i hi => ?_, fun i j hi hj e => ?_⟩
  · have a := small i
    have b := (pp6_ok _ hP (i / 7) (by omega)).1
    unfold tau
    omega
  · have a := small i
    have b := small j
    unfold tau at e
    have e1 : dg PP (i / 7) = dg PP (j / 7) := by omega
    have e2 := (pp6_ok _ hP (i / 7) (by omega)).2 (j / 7) (by omega) e1
    rw [e2] at e
    have hi7 := Nat.mod_lt i (show 0 < 7 by decide)
    have hj7 := Nat.mod_lt j (show 0 < 7 by decide)
    have e3 : i % 7 = j % 7 := by
      by_cases c : i % 7 < 4
      · rw [if_pos c] at e
        by_cases d : j % 7 < 4
        · rw [if_pos d] at e
          exact (pms_ok _ (hm (j / 7)) (i % 7) c).2 (j % 7) d (by omega)
        · rw [if_neg d] at e
          have := (pms_ok _ (hm (j / 7)) (i % 7) c).1
          omega
      · rw [if_neg c] at e
        by_cases d : j % 7 < 4
        · rw [if_pos d] at e
          have := (pms_ok _ (hm (j / 7)) (j % 7) d).1
          omega
        · rw [if_neg d] at e
          have := (kap_in _ (hm (j / 7)) (i % 7 - 4) (by omega)).2 (j % 7 - 4) (by omega) (by omega)
          omega
    omega
theorem sg_div (hP : PP ∈ pp6) (h0 : m0 ∈ pms) (h1 : m1 ∈ pms) (h2 : m2 ∈ pms) {s : Nat} (hs : s < 12) : sgS PP m0 m1 m2 s / 4 = dg PP (s / 4) ∧ sgS PP m0 m1 m2 s % 4 = dg (mmf m0 m1 m2 (s / 4)) (s % 4) ∧ sgS PP m0 m1 m2 s < 12 := by
  have a := (pms_ok _ (mmf_in h0 h1 h2 (s / 4)) (s % 4) (Nat.mod_lt _ (by decide))).1
  have b := (pp6_ok _ hP (s / 4) (by omega)).1
  unfold sgS
  omega
theorem sg_inj (hP : PP ∈ pp6) (h0 : m0 ∈ pms) (h1 : m1 ∈ pms) (h2 : m2 ∈ pms) {s t : Nat} (hs : s < 12) (ht : t < 12) (e : sgS PP m0 m1 m2 s = sgS PP m0 m1 m2 t) : s = t := by
  obtain ⟨a1, a2, -⟩ := sg_div hP h0 h1 h2 hs
  obtain ⟨b1, b2, -⟩ := sg_div hP h0 h1 h2 ht
  rw [e] at a1 a2
  have e1 := (pp6_ok _ hP (s / 4) (by omega)).2 (t / 4) (by omega) (by omega)
  rw [e1] at a2
  have := (pms_ok _ (mmf_in h0 h1 h2 (t / 4)) (s % 4) (Nat.mod_lt _ (by decide))).2 (t % 4) (Nat.mod_lt _ (by decide)) (by omega)
  omega
theorem tau_1 (hP : PP ∈ pp6) (h0 : m0 ∈ pms) (h1 : m1 ∈ pms) (h2 : m2 ∈ pms) {s c : Nat} (hs : s < 12) (hc : c < 4) : tau PP m0 m1 m2 (eqA1 s c) = eqA1 (sgS PP m0 m1 m2 s) (dg (mmf m0 m1 m2 (s / 4)) c) := by
  unfold tau eqA1
  rw [(sg_div hP h0 h1 h2 hs).1, show (7 * (s / 4) + c) / 7 = s / 4 by omega, show (7 * (s / 4) + c) % 7 = c by omega, if_pos hc]
theorem tau_2 (hP : PP ∈ pp6) (h0 : m0 ∈ pms) (h1 : m1 ∈ pms) (h2 : m2 ∈ pms) {s c : Nat} (hs : s < 12) (hc : c < 4) (hn : c ≠ s % 4) : tau PP m0 m1 m2 (eqA2 s c) = eqA2 (sgS PP m0 m1 m2 s) (dg (mmf m0 m1 m2 (s / 4)) c) := by
  have k := kap_ok _ (mmf_in h0 h1 h2 (s / 4)) c hc (s % 4) (Nat.mod_lt _ (by decide)) hn
  have d := sg_div hP h0 h1 h2 hs
  unfold tau eqA2
  rw [d.1, d.2.1, show (7 * (s / 4) + 4 + kO c (s % 4)) / 7 = s / 4 by omega, show (7 * (s / 4) + 4 + kO c (s % 4)) % 7 = 4 + kO c (s % 4) by omega, if_neg (by omega), show 4 + kO c (s % 4) - 4 = kO c (s % 4) by omega, k.2]
  omega
/-- a fitting told anew -/
theorem actQ_z (hP : PP ∈ pp6) (h0 : m0 ∈ pms) (h1 : m1 ∈ pms) (h2 : m2 ∈ pms) {q : QF} (hs : q.1 < 12) (ht : q.2.1 < 12) (hc : q.2.2.1 < 4) (hd : q.2.2.2 < 4) (nc : q.2.2.1 ≠ q.1 % 4) (nd : q.2.2.2 ≠ q.2.1 % 4) (v : Vc) : qF (actQ PP m0 m1 m2 q) v = 0 ↔ qF q (pull PP m0 m1 m2 v) = 0 := by
  have lt : ∀ s c, s < 12 → c < 4 → c ≠ s % 4 → eqA1 s c < 21 ∧ eqA2 s c < 21 := fun s c hs hc hn => by
    have := (kap_ok 228 (by decide) c hc (s % 4) (Nat.mod_lt _ (by decide)) hn).1
    unfold eqA1 eqA2
    omega
  have l1 := lt _ _ hs hc nc
  have l2 := lt _ _ ht hd nd
  unfold qF actQ exV pull
  rw [if_pos l1.1, if_pos l1.2, if_pos l2.1, if_pos l2.2, tau_1 hP h0 h1 h2 hs hc, tau_2 hP h0 h1 h2 hs hc nc, tau_1 hP h0 h1 h2 ht hd, tau_2 hP h0 h1 h2 ht hd nd]
  split
  · exact Iff.rfl
  · dsimp only
    omega
end
