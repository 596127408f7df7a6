/-! the search: bounds for all gluings -/
def NBd (E : List (Vc → Int)) (k : Nat) : Prop := ∀ n R, ExF 21 (lgP 3) E n R → n ≤ k
theorem NBd.mono {E : List (Vc → Int)} {k k' : Nat} (h : NBd E k) (g : k ≤ k') : NBd E k' := fun n R x => Nat.le_trans (h n R x) g
theorem ExF.masks {E : List (Vc → Int)} {n : Nat} {R : Nat → Vc} (h : ExF 21 (lgP 3) E n R) {U : List Nat} (hU : ∀ r, r < n → mkV (R r) 21 ∈ U) : n ≤ U.length := by
  refine rows_le (m := U.length) (fun r k => U[k]? = some (mkV (R r) 21)) (fun r hr => ?_) (fun r s k hr hs a b => ?_)
  · obtain ⟨k, hk, e⟩ := List.getElem_of_mem (hU r hr)
    exact ⟨k, hk, by rw [List.getElem?_eq_getElem hk, e]⟩
  · have e : mkV (R r) 21 = mkV (R s) 21 := Option.some.inj (a.symm.trans b)
    exact h.2.2 r s hr hs (mkV_sb (h.1 r hr).1.2.2 (fun i hi => by rw [← e]; exact hi))
theorem ExR.nb {E : List (Vc → Int)} {rs : List Ray} (h : ExR E rs) : NBd E rs.length := fun n R x => by
  have := x.masks (U := rs.map Prod.fst) (fun r hr => by
    obtain ⟨y, y1, y2⟩ := h.2.1 _ (x.1 r hr)
    rw [show mkV (R r) 21 = y.1 by
      rw [(h.1 y y1).1.1]
      exact mk_eq ((x.1 r hr).2.2 _ (h.1 y y1).2.1 y2) y2]
    exact List.mem_map_of_mem y1)
  rwa [List.length_map] at this
theorem NBd.cong {E E' : List (Vc → Int)} {k : Nat} (hE : ∃ n R, ExF 21 (lgP 3) E' n R) (g : ∀ v, (∀ e ∈ E, e v = 0) ↔ ∀ e ∈ E', e v = 0) (h : NBd E' k) : NBd E k := fun n R x => by
  obtain ⟨n', R', x'⟩ := hE
  exact Nat.le_trans (x.le x' (fun v hv => hv.cong g)) (h n' R' x')
/-- the forms of some fittings -/
def FL (l : List QF) : List (Vc → Int) := l.map qF
theorem FL_lin (l : List QF) : ∀ e ∈ FL l, Lin e := fun e he => by
  obtain ⟨q, _, rfl⟩ := List.mem_map.mp he
  exact qF_lin q
theorem FL_ex (l : List QF) : ∃ n R, ExF 21 (lgP 3) (FL l) n R := by
  have := dd_ex (P := 3) (Nat.le_refl 3) l.reverse
  rw [List.map_reverse, List.reverse_reverse] at this
  exact ⟨_, _, this⟩
theorem FL_z {l : List QF} {v : Vc} : (∀ e ∈ FL l, e v = 0) ↔ ∀ q ∈ l, qF q v = 0 := ⟨fun h q hq => h _ (List.mem_map_of_mem hq), fun h e he => by
  obtain ⟨q, hq, rfl⟩ := List.mem_map.mp he
  exact h q hq⟩
theorem NBd.fl {l l' : List QF} {k : Nat} (g : ∀ v, (∀ q ∈ l, qF q v = 0) ↔ ∀ q ∈ l', qF q v = 0) (h : NBd (FL l') k) : NBd (FL l) k := h.cong (FL_ex l') (fun v => by rw [FL_z, FL_z]; exact g v)
theorem NBd.set {l l' : List QF} {k : Nat} (g : ∀ q, q ∈ l ↔ q ∈ l') (h : NBd (FL l') k) : NBd (FL l) k := h.fl (fun v => ⟨fun a q hq => a q ((g q).mpr hq), fun a q hq => a q ((g q).mp hq)⟩)
/-- a step makes no more than these -/
theorem evB_cn {e : Nat → Int} {ok : Nat → Nat → Bool} {a : Nat} : ∀ b, (evB e ok a b).length ≤ cnt (fun i => decide (e i < 0)) b
  | 0 => Nat.le_refl _
  | b + 1 => by
    have ih := evB_cn (e := e) (ok := ok) (a := a) b
    show (evB e ok a b ++ (if e b < 0 ∧ ok a b = true then [(a, b)] else [])).length ≤ cnt (fun i => decide (e i < 0)) b + (if decide (e b < 0) = true then 1 else 0)
    rw [List.length_append]
    by_cases c : e b < 0
    · rw [if_pos (decide_eq_true c)]
      split
      · show _ + 1 ≤ _; omega
      · show _ + 0 ≤ _; omega
    · rw [if_neg (fun w => c w.1)]
      show _ + 0 ≤ _
      omega
theorem evA_cn {e : Nat → Int} {ok : Nat → Nat → Bool} {n : Nat} : ∀ m, ∃ z p, z + p + cnt (fun i => decide (e i < 0)) m = m ∧ (evA e ok n m).length ≤ z + p * cnt (fun i => decide (e i < 0)) n
  | 0 => ⟨0, 0, rfl, Nat.zero_le _⟩
  | m + 1 => by
    obtain ⟨z, p, h1, h2⟩ := evA_cn (e := e) (ok := ok) (n := n) m
    have hc : cnt (fun i => decide (e i < 0)) (m + 1) = cnt (fun i => decide (e i < 0)) m + (if decide (e m < 0) = true then 1 else 0) := rfl
    have hl : (evA e ok n (m + 1)).length = (evA e ok n m).length + (if e m = 0 then [(m, m)] else if 0 < e m then evB e ok m n else []).length := List.length_append ..
    rw [hc, hl]
    by_cases c : e m = 0
    · refine ⟨z + 1, p, ?_, ?_⟩
      · rw [if_neg (by simp; omega)]; omega
      · rw [if_pos c]; show _ + 1 ≤ _; omega
    · rw [if_neg c]
      by_cases d : 0 < e m
      · refine ⟨z, p + 1, ?_, ?_⟩
        · rw [if_neg (by simp; omega)]; omega
        · rw [if_pos d, Nat.add_mul]
          have := evB_cn (e := e) (ok := ok) (a := m) n
          omega
      · refine ⟨z, p, ?_, ?_⟩
        · rw [if_pos (by simp; omega)]; omega
        · rw [if_neg d]; show _ + 0 ≤ _; omega
theorem sq64 : ∀ z, z < 17 → ∀ p, p < 17 → ∀ q, q < 17 → z + p + q ≤ 16 → z + p * q ≤ 64 := by decide +kernel
theorem NBd.sq {l : List QF} (h : NBd (FL l) 16) (q : QF) : NBd (FL (q :: l)) 64 := fun n R x => by
  obtain ⟨n', R', x'⟩ := FL_ex l
  have hn := h n' R' x'
  have y := dd_step (P := 3) (Nat.le_refl 3) (FL_lin l) x' q
  refine Nat.le_trans (x.le y (fun v hv => hv)) ?_
  obtain ⟨z, p, h1, h2⟩ := evA_cn (e := fun r => qF q (R' r)) (ok := okR R' 3 n') (n := n') n'
  exact Nat.le_trans h2 (sq64 z (by omega) p (by omega) _ (by omega) (by omega))
/-- the product of both sides -/
noncomputable def lenP (l : List (Nat × Ray)) : Nat := List.rec (motive := fun _ => Nat) 0 (fun _ _ ih => Nat.succ ih) l
theorem lenP_eq : ∀ l : List (Nat × Ray), lenP l = l.length
  | [] => rfl
  | r :: l => by
    show Nat.succ (lenP l) = l.length + 1
    rw [lenP_eq l]
noncomputable def prdK (a1 a2 b1 b2 : Nat) (rs : List Ray) : Nat := Nat.add (lenR (clsZ a1 a2 b1 b2 rs)) (Nat.mul (lenP (clsP a1 a2 b1 b2 rs)) (lenP (clsP b1 b2 a1 a2 rs)))
theorem prd_len {α β γ : Type} (f : α → β → γ) (B : List β) : ∀ A : List α, (A.flatMap (fun a => B.map (f a))).length = A.length * B.length
  | [] => (Nat.zero_mul _).symm
  | a :: A => by
    rw [List.flatMap_cons, List.length_append, List.length_map, prd_len f B A]
    show _ = (A.length + 1) * B.length
    rw [Nat.add_mul]
    omega
theorem prdK_ok {E : List (Vc → Int)} (hE : ∀ e ∈ E, Lin e) {f : Vc → Int} (hf : Lin f) {A1 A2 B1 B2 : Nat} (hA1 : A1 < 21) (hA2 : A2 < 21) (hB1 : B1 < 21) (hB2 : B2 < 21) (he : ∀ v, f v = (v A1 : Int) + v A2 - v B1 - v B2) {rs : List Ray} (h : ExR E rs) : NBd (f :: E) (prdK (16 * A1) (16 * A2) (16 * B1) (16 * B2) rs) := fun n R x => by
  have val : ∀ r : Ray, f (dvN r.2) = ((fld r.2 (16 * A1) + fld r.2 (16 * A2) : Nat) : Int) - ((fld r.2 (16 * B1) + fld r.2 (16 * B2) : Nat) : Int) := fun r => by
    rw [he, fld_dv hA1, fld_dv hA2, fld_dv hB1, fld_dv hB2]
    omega
  have := x.masks (U := (clsZ (16 * A1) (16 * A2) (16 * B1) (16 * B2) rs).map Prod.fst ++ (clsP (16 * A1) (16 * A2) (16 * B1) (16 * B2) rs).flatMap (fun a => (clsP (16 * B1) (16 * B2) (16 * A1) (16 * A2) rs).map (fun b => a.2.1 ||| b.2.1))) (fun r hr => by
    have hv := x.1 r hr
    rw [List.mem_append]
    by_cases c : MinS 21 (lgP 3) E (R r)
    · obtain ⟨y, y1, y2⟩ := h.2.1 _ c
      obtain ⟨a, b, ha, hb, hab⟩ := c.pr hE hf (h.1 y y1).2.1 y2
      have z := (pr_z ha hb hab).1.mp (hv.1.1 f (List.mem_cons_self ..))
      refine Or.inl (List.mem_map.mpr ⟨y, (clsZ_iff rs).mpr ⟨y1, by rw [val] at z; omega⟩, ?_⟩)
      rw [(h.1 y y1).1.1]
      exact mk_eq y2 (c.2.2 _ (h.1 y y1).2.1 y2)
    · obtain ⟨p, q, a1, a2, a3, a4, a5, a6⟩ := hv.cut lgP_dn hE hf c
      obtain ⟨rp, b1, b2⟩ := h.2.1 p a1
      obtain ⟨rq, c1, c2⟩ := h.2.1 q a2
      have hp : 0 < f (dvN rp.2) := by
        obtain ⟨a, b, ha, hb, hab⟩ := a1.pr hE hf (h.1 rp b1).2.1 b2
        exact (pr_z ha hb hab).2.mp a5
      have hq : f (dvN rq.2) < 0 := by
        obtain ⟨a, b, ha, hb, hab⟩ := a2.pr hE hf (h.1 rq c1).2.1 c2
        have z := pr_z ha hb hab
        by_cases w : f (dvN rq.2) < 0
        · exact w
        · by_cases w2 : f (dvN rq.2) = 0
          · have := z.1.mpr w2; omega
          · have := z.2.mpr (by omega); omega
      have hm := mixW_sb (f := f) (b2.trans a3) (c2.trans a4)
      have hm2 := hv.2.2 _ (mixW_S hE hf (h.1 rp b1).2.1 (h.1 rq c1).2.1 hp hq) hm
      have vp := val rp
      have vq := val rq
      refine Or.inr (List.mem_flatMap.mpr ⟨((fld rp.2 (16 * A1) + fld rp.2 (16 * A2)) - (fld rp.2 (16 * B1) + fld rp.2 (16 * B2)), rp), (clsP_iff rs).mpr ⟨b1, rfl, by show _ - _ ≠ 0; omega⟩, List.mem_map.mpr ⟨((fld rq.2 (16 * B1) + fld rq.2 (16 * B2)) - (fld rq.2 (16 * A1) + fld rq.2 (16 * A2)), rq), (clsP_iff rs).mpr ⟨c1, rfl, by show _ - _ ≠ 0; omega⟩, ?_⟩⟩)
      show rp.1 ||| rq.1 = _
      rw [mk_eq hm2 hm, (h.1 rp b1).1.1, (h.1 rq c1).1.1]
      apply Nat.eq_of_testBit_eq
      intro i
      rw [Nat.testBit_or, mkV_bit, mkV_bit, mkV_bit]
      have := mixW_z hp hq i
      by_cases d : dvN rp.2 i = 0
      · by_cases e : dvN rq.2 i = 0
        · have : mixW f (dvN rp.2) (dvN rq.2) i = 0 := this.mpr ⟨d, e⟩
          simp [d, e, this]
        · have : ¬ mixW f (dvN rp.2) (dvN rq.2) i = 0 := fun z => e (this.mp z).2
          simp [d, e, this]
      · have : ¬ mixW f (dvN rp.2) (dvN rq.2) i = 0 := fun z => d (this.mp z).1
        cases decide (i < 21) <;> simp [d, this])
  rw [List.length_append, List.length_map, prd_len] at this
  show n ≤ lenR _ + lenP _ * lenP _
  rw [lenR_eq, lenP_eq, lenP_eq]
  exact this
