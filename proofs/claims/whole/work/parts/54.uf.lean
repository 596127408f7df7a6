/-! groups whose members are told alike or unlike: the pure part -/
abbrev LRel : Type := Nat → Nat → Bool → Prop
/-- pa, un: parent and sign against it; cl: clash; rt, ph: root and sign against it -/
def UP (n : Nat) (J : LRel) (pa un cl rt ph : Nat → Nat) : Prop :=
  (∀ x, x < n → pa x ≤ x ∧ un x < 2 ∧ cl x < 2 ∧ rt x ≤ x ∧ ph x < 2 ∧ pa (rt x) = rt x ∧ rt (rt x) = rt x ∧ rt (pa x) = rt x ∧ (pa x = x → rt x = x ∧ ph x = 0) ∧ (pa x ≠ x → ph x = (un x + ph (pa x)) % 2)) ∧
  (∀ x y b, J x y b → x < n ∧ y < n ∧ rt x = rt y ∧ (cl (rt x) = 1 ∨ (ph x + ph y + bN b) % 2 = 0)) ∧
  (∀ x, x < n → cR (dR2 J) (2 * x) (2 * rt x + ph x)) ∧
  (∀ x, x < n → rt x = x → cl x = 1 → Tws J x)
theorem bN_lt (b : Bool) : bN b < 2 := by unfold bN; split <;> omega
section UF
variable {n : Nat} {J : LRel} {pa un cl rt ph : Nat → Nat}
theorem UP.ph0 (h : UP n J pa un cl rt ph) {x : Nat} (hx : x < n) (e : rt x = x) : ph x = 0 := by
  obtain ⟨-, -, -, -, -, h6, -, -, h9, -⟩ := h.1 x hx
  rw [e] at h6
  exact (h9 h6).2
theorem UP.zero : UP n (fun _ _ _ => False) (fun x => x) (fun _ => 0) (fun _ => 0) (fun x => x) (fun _ => 0) := by
  refine ⟨fun x hx => ⟨Nat.le_refl _, Nat.zero_lt_two, Nat.zero_lt_two, Nat.le_refl _, Nat.zero_lt_two, rfl, rfl, rfl, fun _ => ⟨rfl, rfl⟩, fun h => absurd rfl h⟩, fun x y b h => h.elim, fun x hx => cR.rf _ _, fun x hx _ h => by cases h⟩
/-- a member hung from its root -/
theorem UP.hang (h : UP n J pa un cl rt ph) {x : Nat} (hx : x < n) : UP n J (fun z => if z = x then rt x else pa z) (fun z => if z = x then ph x else un z) cl rt ph := by
  have hh := h.1 x hx
  refine ⟨fun z hz => ?_, h.2.1, h.2.2.1, h.2.2.2⟩
  obtain ⟨h1, h2, h3, h4, h5, h6, h7, h8, h9, h10⟩ := h.1 z hz
  dsimp only
  have hrr : (if rt z = x then rt x else pa (rt z)) = rt z := by
    by_cases e : rt z = x
    · rw [if_pos e]
      have : rt (rt z) = rt z := h7
      rw [e] at this
      rw [this, e]
    · rw [if_neg e]
      exact h6
  by_cases e : z = x
  · subst e
    rw [if_pos rfl, if_pos rfl]
    refine ⟨h4, h5, h3, h4, h5, hrr, h7, h7, fun g => ⟨g, h.ph0 hz g⟩, fun g => ?_⟩
    have : ph (rt z) = 0 := h.ph0 (show rt z < n by omega) h7
    rw [this]
    omega
  · rw [if_neg e, if_neg e]
    exact ⟨h1, h2, h3, h4, h5, hrr, h7, h8, h9, h10⟩
/-- joined where they hang together already -/
theorem UP.same (h : UP n J pa un cl rt ph) {x y : Nat} {b : Bool} (hx : x < n) (hy : y < n) (e : rt x = rt y) : UP n (fun u v d => J u v d ∨ (u = x ∧ v = y ∧ d = b)) pa un (fun z => if (ph x + ph y + bN b) % 2 = 1 ∧ z = rt x then 1 else cl z) rt ph := by
  have mono : ∀ {u v}, cR (dR2 J) u v → cR (dR2 (fun u v d => J u v d ∨ (u = x ∧ v = y ∧ d = b))) u v := fun c => c.mono (fun u v ⟨p, q, d, w1, w2⟩ => cR.of ⟨p, q, d, Or.inl w1, w2⟩)
  refine ⟨fun z hz => ?_, fun u v d hj => ?_, fun z hz => mono (h.2.2.1 z hz), fun z hz hr hc => ?_⟩
  · obtain ⟨h1, h2, h3, h4⟩ := h.1 z hz
    refine ⟨h1, h2, ?_, h4⟩
    dsimp only
    split <;> omega
  · dsimp only
    rcases hj with hj | ⟨rfl, rfl, rfl⟩
    · obtain ⟨g1, g2, g3, g4⟩ := h.2.1 u v d hj
      refine ⟨g1, g2, g3, ?_⟩
      by_cases q : (ph x + ph y + bN b) % 2 = 1 ∧ rt u = rt x
      · rw [if_pos q]
        exact Or.inl rfl
      · rw [if_neg q]
        exact g4
    · refine ⟨hx, hy, e, ?_⟩
      by_cases q : (ph u + ph v + bN d) % 2 = 1
      · rw [if_pos ⟨q, rfl⟩]
        exact Or.inl rfl
      · exact Or.inr (by omega)
  · dsimp only at hc
    by_cases q : (ph x + ph y + bN b) % 2 = 1 ∧ z = rt x
    · obtain ⟨q1, q2⟩ := q
      subst q2
      have c1 := mono (h.2.2.1 x hx)
      have c2 := mono (h.2.2.1 y hy)
      rw [← e] at c2
      have hp1 := (h.1 x hx).2.2.2.2.1
      have hp2 := (h.1 y hy).2.2.2.2.1
      have hb := bN_lt b
      have l1 : cR (dR2 (fun u v d => J u v d ∨ (u = x ∧ v = y ∧ d = b))) (2 * x) (2 * y + bN b) := cR.of ⟨x, y, b, Or.inr ⟨rfl, rfl, rfl⟩, Or.inl ⟨rfl, rfl⟩⟩
      have f2 := dR2.flip c2
      unfold Tws
      rw [show 2 * y + 1 - 2 * (2 * y % 2) = 2 * y + 1 by omega] at f2
      have key : cR (dR2 (fun u v d => J u v d ∨ (u = x ∧ v = y ∧ d = b))) (2 * rt x + ph x) (2 * rt x + (1 - ph x)) := by
        refine c1.symm.trans (l1.trans ?_)
        rcases (show bN b = 0 ∨ bN b = 1 by omega) with eb | eb
        · rw [eb] at q1 ⊢
          rw [show 1 - ph x = ph y by omega]
          exact c2
        · rw [eb] at q1 ⊢
          rw [show 2 * rt x + (1 - ph x) = 2 * rt x + ph y + 1 - 2 * ((2 * rt x + ph y) % 2) by omega]
          exact f2
      rcases (show ph x = 0 ∨ ph x = 1 by omega) with ep | ep
      · rw [ep] at key
        exact key
      · rw [ep] at key
        exact key.symm
    · rw [if_neg q] at hc
      have t := h.2.2.2 z hz hr hc
      exact mono t
/-- two groups become one: hi hangs from lo -/
theorem UP.link (h : UP n J pa un cl rt ph) {x y lo hi : Nat} {b : Bool} (hx : x < n) (hy : y < n) (e : (rt x = lo ∧ rt y = hi) ∨ (rt x = hi ∧ rt y = lo)) (hlt : lo < hi) : UP n (fun u v d => J u v d ∨ (u = x ∧ v = y ∧ d = b)) (fun z => if z = hi then lo else pa z) (fun z => if z = hi then (ph x + ph y + bN b) % 2 else un z) (fun z => if cl hi = 1 ∧ z = lo then 1 else cl z) (fun z => if rt z = hi then lo else rt z) (fun z => if rt z = hi then (ph z + (ph x + ph y + bN b) % 2) % 2 else ph z) := by
  have mono : ∀ {u v}, cR (dR2 J) u v → cR (dR2 (fun u v d => J u v d ∨ (u = x ∧ v = y ∧ d = b))) u v := fun c => c.mono (fun u v ⟨p, q, d, w1, w2⟩ => cR.of ⟨p, q, d, Or.inl w1, w2⟩)
  have hhi : hi < n ∧ rt hi = hi := by
    rcases e with ⟨-, e⟩ | ⟨e, -⟩
    · have := h.1 y hy
      rw [e] at this
      exact ⟨by omega, this.2.2.2.2.2.2.1⟩
    · have := h.1 x hx
      rw [e] at this
      exact ⟨by omega, this.2.2.2.2.2.2.1⟩
  have hlo : lo < n ∧ rt lo = lo := by
    rcases e with ⟨e, -⟩ | ⟨-, e⟩
    · have := h.1 x hx
      rw [e] at this
      exact ⟨by omega, this.2.2.2.2.2.2.1⟩
    · have := h.1 y hy
      rw [e] at this
      exact ⟨by omega, this.2.2.2.2.2.2.1⟩
  have plo := h.ph0 hlo.1 hlo.2
  have phi := h.ph0 hhi.1 hhi.2
  have pahi : pa hi = hi := by have := (h.1 hi hhi.1).2.2.2.2.2.1; rw [hhi.2] at this; exact this
  have palo : pa lo = lo := by have := (h.1 lo hlo.1).2.2.2.2.2.1; rw [hlo.2] at this; exact this
  have hp1 := (h.1 x hx).2.2.2.2.1
  have hp2 := (h.1 y hy).2.2.2.2.1
  have hb := bN_lt b
  have l1 : cR (dR2 (fun u v d => J u v d ∨ (u = x ∧ v = y ∧ d = b))) (2 * x) (2 * y + bN b) := cR.of ⟨x, y, b, Or.inr ⟨rfl, rfl, rfl⟩, Or.inl ⟨rfl, rfl⟩⟩
  have key : cR (dR2 (fun u v d => J u v d ∨ (u = x ∧ v = y ∧ d = b))) (2 * hi) (2 * lo + (ph x + ph y + bN b) % 2) := by
    have c1 := mono (h.2.2.1 x hx)
    have c2 := mono (h.2.2.1 y hy)
    have f1 := dR2.flip c1
    have f2 := dR2.flip c2
    have fl := dR2.flip l1
    rw [show 2 * x + 1 - 2 * (2 * x % 2) = 2 * x + 1 by omega] at f1 fl
    rw [show 2 * y + 1 - 2 * (2 * y % 2) = 2 * y + 1 by omega] at f2
    have A : ∀ ex, ex < 2 → cR (dR2 (fun u v d => J u v d ∨ (u = x ∧ v = y ∧ d = b))) (2 * x + ex) (2 * rt x + (ph x + ex) % 2) := by
      intro ex hex
      rcases (show ex = 0 ∨ ex = 1 by omega) with rfl | rfl
      · rw [show (ph x + 0) % 2 = ph x by omega]; exact c1
      · rw [show 2 * rt x + (ph x + 1) % 2 = 2 * rt x + ph x + 1 - 2 * ((2 * rt x + ph x) % 2) by omega]; exact f1
    have B : ∀ ex, ex < 2 → cR (dR2 (fun u v d => J u v d ∨ (u = x ∧ v = y ∧ d = b))) (2 * y + ex) (2 * rt y + (ph y + ex) % 2) := by
      intro ex hex
      rcases (show ex = 0 ∨ ex = 1 by omega) with rfl | rfl
      · rw [show (ph y + 0) % 2 = ph y by omega]; exact c2
      · rw [show 2 * rt y + (ph y + 1) % 2 = 2 * rt y + ph y + 1 - 2 * ((2 * rt y + ph y) % 2) by omega]; exact f2
    have Lk : ∀ ex, ex < 2 → cR (dR2 (fun u v d => J u v d ∨ (u = x ∧ v = y ∧ d = b))) (2 * x + ex) (2 * y + (ex + bN b) % 2) := by
      intro ex hex
      rcases (show ex = 0 ∨ ex = 1 by omega) with rfl | rfl
      · rw [show (0 + bN b) % 2 = bN b by omega]; exact l1
      · rw [show 2 * y + (1 + bN b) % 2 = 2 * y + bN b + 1 - 2 * ((2 * y + bN b) % 2) by omega]; exact fl
    rcases e with ⟨e1, e2⟩ | ⟨e1, e2⟩
    · have q1 := A ((ph y + bN b) % 2) (by omega)
      have q2 := Lk ((ph y + bN b) % 2) (by omega)
      have q3 := B ((((ph y + bN b) % 2) + bN b) % 2) (by omega)
      rw [e1] at q1
      rw [e2] at q3
      rw [show (ph x + (ph y + bN b) % 2) % 2 = (ph x + ph y + bN b) % 2 by omega] at q1
      rw [show (ph y + ((ph y + bN b) % 2 + bN b) % 2) % 2 = 0 by omega] at q3
      exact q3.symm.trans (q2.symm.trans q1)
    · have q1 := A (ph x) hp1
      have q2 := Lk (ph x) hp1
      have q3 := B ((ph x + bN b) % 2) (by omega)
      rw [e1] at q1
      rw [e2] at q3
      rw [show (ph x + ph x) % 2 = 0 by omega] at q1
      rw [show (ph y + (ph x + bN b) % 2) % 2 = (ph x + ph y + bN b) % 2 by omega] at q3
      exact q1.symm.trans (q2.trans q3)
  refine ⟨fun z hz => ?_, fun u v d hj => ?_, fun z hz => ?_, fun z hz hr hc => ?_⟩
  · obtain ⟨h1, h2, h3, h4, h5, h6, h7, h8, h9, h10⟩ := h.1 z hz
    dsimp only
    have g6 : ∀ w, (if w = hi then lo else w) ≠ hi := fun w => by split <;> omega
    have hrr : rt (if rt z = hi then lo else rt z) = if rt z = hi then lo else rt z := by
      by_cases q : rt z = hi
      · rw [if_pos q]; exact hlo.2
      · rw [if_neg q]; exact h7
    refine ⟨?_, ?_, ?_, ?_, ?_, ?_, ?_, ?_, ?_, ?_⟩
    · split <;> omega
    · split <;> omega
    · split <;> omega
    · split <;> omega
    · split <;> omega
    · rw [if_neg (g6 _)]
      by_cases q : rt z = hi
      · rw [if_pos q]; exact palo
      · rw [if_neg q]; exact h6
    · rw [hrr]
      by_cases q : rt z = hi
      · rw [if_pos q, if_neg (by omega)]
      · rw [if_neg q, if_neg q]
    · by_cases q : z = hi
      · rw [if_pos q, hlo.2, if_neg (by omega), q, hhi.2, if_pos rfl]
      · rw [if_neg q, h8]
    · intro g
      by_cases q : z = hi
      · rw [if_pos q] at g
        omega
      · rw [if_neg q] at g
        obtain ⟨a1, a2⟩ := h9 g
        rw [a1, if_neg q, if_neg q]
        exact ⟨rfl, a2⟩
    · intro g
      by_cases q : z = hi
      · subst q
        rw [if_pos rfl, if_pos rfl, hhi.2, if_pos rfl, hlo.2, if_neg (by omega), plo, phi]
        omega
      · rw [if_neg q] at g
        rw [if_neg q, if_neg q, h8]
        have := h10 g
        by_cases w : rt z = hi
        · rw [if_pos w, if_pos w, this]
          omega
        · rw [if_neg w, if_neg w]
          exact this
  · dsimp only
    have clw : ∀ w, cl w = 1 → (if cl hi = 1 ∧ (if w = hi then lo else w) = lo then 1 else cl (if w = hi then lo else w)) = 1 := by
      intro w hw
      by_cases q : w = hi
      · rw [if_pos q]
        rw [q] at hw
        rw [if_pos ⟨hw, rfl⟩]
      · rw [if_neg q]
        split
        · rfl
        · exact hw
    rcases hj with hj | ⟨rfl, rfl, rfl⟩
    · obtain ⟨g1, g2, g3, g4⟩ := h.2.1 u v d hj
      have hpu := (h.1 u g1).2.2.2.2.1
      have hpv := (h.1 v g2).2.2.2.2.1
      refine ⟨g1, g2, by rw [g3], ?_⟩
      rcases g4 with g4 | g4
      · exact Or.inl (clw _ g4)
      · right
        rw [g3]
        by_cases q : rt v = hi
        · rw [if_pos q, if_pos q]
          omega
        · rw [if_neg q, if_neg q]
          exact g4
    · refine ⟨hx, hy, ?_, ?_⟩
      · rcases e with ⟨e1, e2⟩ | ⟨e1, e2⟩
        · rw [e1, e2, if_neg (by omega), if_pos rfl]
        · rw [e1, e2, if_pos rfl, if_neg (by omega)]
      · right
        rcases e with ⟨e1, e2⟩ | ⟨e1, e2⟩
        · rw [e1, e2, if_neg (by omega), if_pos rfl]
          omega
        · rw [e1, e2, if_pos rfl, if_neg (by omega)]
          omega
  · dsimp only
    have c := mono (h.2.2.1 z hz)
    have hpz := (h.1 z hz).2.2.2.2.1
    by_cases q : rt z = hi
    · rw [if_pos q, if_pos q]
      rw [q] at c
      refine c.trans ?_
      rcases (show ph z = 0 ∨ ph z = 1 by omega) with ez | ez
      · rw [ez]
        rw [show (0 + (ph x + ph y + bN b) % 2) % 2 = (ph x + ph y + bN b) % 2 by omega]
        exact key
      · rw [ez]
        have f := dR2.flip key
        rw [show 2 * hi + 1 - 2 * (2 * hi % 2) = 2 * hi + 1 by omega] at f
        rw [show 2 * lo + (1 + (ph x + ph y + bN b) % 2) % 2 = 2 * lo + (ph x + ph y + bN b) % 2 + 1 - 2 * ((2 * lo + (ph x + ph y + bN b) % 2) % 2) by omega]
        exact f
    · rw [if_neg q, if_neg q]
      exact c
  · dsimp only at hr hc
    by_cases q : rt z = hi
    · rw [if_pos q] at hr
      subst hr
      rw [hlo.2] at q
      omega
    · rw [if_neg q] at hr
      by_cases w : cl hi = 1 ∧ z = lo
      · obtain ⟨w1, rfl⟩ := w
        have t : Tws _ hi := mono (h.2.2.2 hi hhi.1 hhi.2 w1)
        have hc2 : cR (sR2 (fun u v d => J u v d ∨ (u = x ∧ v = y ∧ d = b))) hi z := by
          have := dR2.half key
          rw [show 2 * hi / 2 = hi by omega, show (2 * z + (ph x + ph y + bN b) % 2) / 2 = z by omega] at this
          exact this
        exact (Tws.conn hc2).mp t
      · rw [if_neg w] at hc
        exact mono (h.2.2.2 z hz hr hc)
/-! what the groups are -/
theorem UP.conn (h : UP n J pa un cl rt ph) {x y : Nat} (hx : x < n) (hy : y < n) : rt x = rt y ↔ cR (sR2 J) x y := by
  have hr : ∀ z, z < n → cR (sR2 J) z (rt z) := fun z hz => by
    have c := dR2.half (h.2.2.1 z hz)
    have := (h.1 z hz).2.2.2.2.1
    rw [show 2 * z / 2 = z by omega, show (2 * rt z + ph z) / 2 = rt z by omega] at c
    exact c
  constructor
  · intro e
    exact (hr x hx).trans (e ▸ (hr y hy).symm)
  · intro c
    have := c (fun z => z < n ∧ rt x = rt z) ⟨hx, rfl⟩ (fun u v ⟨b, w⟩ => by
      obtain ⟨g1, g2, g3, -⟩ := h.2.1 u v b w
      exact ⟨fun q => ⟨g2, q.2.trans g3⟩, fun q => ⟨g1, q.2.trans g3.symm⟩⟩)
    exact this.2
theorem UP.fst (h : UP n J pa un cl rt ph) {x : Nat} (hx : x < n) : fs J x = true ↔ rt x = x := by
  rw [show fs J x = fstB (sR2 J) x from rfl, fstB_iff]
  constructor
  · intro g
    have h4 := (h.1 x hx).2.2.2.1
    have h7 := (h.1 x hx).2.2.2.2.2.2.1
    by_cases e : rt x = x
    · exact e
    · exact absurd ((h.conn (show rt x < n by omega) hx).mp h7) (g _ (by omega))
  · intro e y hy c
    have := (h.conn (show y < n by omega) hx).mpr c
    have h4 := (h.1 y (by omega)).2.2.2.1
    omega
theorem UP.lst (h : UP n J pa un cl rt ph) {x : Nat} (hx : x < n) : lst J x = rt x := by
  obtain ⟨h1, h2, h3⟩ := lst_spec J x
  have h7 := (h.1 x hx).2.2.2.2.2.2.1
  have h4 := (h.1 x hx).2.2.2.1
  refine fst_un h2 ((h.fst (by omega)).mpr h7) (h3.trans ?_)
  exact ((h.conn (by omega) hx).mp h7).symm
theorem UP.tws (h : UP n J pa un cl rt ph) {x : Nat} (hx : x < n) : Tws J x ↔ cl (rt x) = 1 := by
  have h7 := (h.1 x hx).2.2.2.2.2.2.1
  have h4 := (h.1 x hx).2.2.2.1
  have hc : cR (sR2 J) x (rt x) := ((h.conn (by omega) hx).mp h7).symm
  rw [Tws.conn hc]
  constructor
  · intro t
    have hcl := (h.1 (rt x) (by omega)).2.2.1
    by_cases e : cl (rt x) = 1
    · exact e
    · exfalso
      have key := t (fun u => u / 2 < n ∧ rt (u / 2) = rt x ∧ ph (u / 2) = u % 2) (by
        rw [show 2 * rt x / 2 = rt x by omega]
        exact ⟨by omega, h7, by rw [h.ph0 (by omega) h7]; omega⟩) (by
        intro u v ⟨a, c, b, hj, hcase⟩
        obtain ⟨g1, g2, g3, g4⟩ := h.2.1 a c b hj
        have pa1 := (h.1 a g1).2.2.2.2.1
        have pc1 := (h.1 c g2).2.2.2.2.1
        have hb := bN_lt b
        have eu : u / 2 = a := by omega
        have ev : v / 2 = c := by omega
        rw [eu, ev]
        constructor
        · rintro ⟨q1, q2, q3⟩
          have g5 := g4.resolve_left (by rw [q2]; exact e)
          exact ⟨g2, g3.symm.trans q2, by omega⟩
        · rintro ⟨q1, q2, q3⟩
          have g5 := g4.resolve_left (by rw [g3, q2]; exact e)
          exact ⟨g1, g3.trans q2, by omega⟩)
      have k3 := key.2.2
      rw [show (2 * rt x + 1) / 2 = rt x by omega, h.ph0 (by omega) h7] at k3
      omega
  · exact fun g => h.2.2.2 (rt x) (by omega) h7 g
end UF
