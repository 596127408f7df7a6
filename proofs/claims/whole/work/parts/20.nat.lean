/-! rules over natural numbers and the memory of the run -/
section AN
variable {X : am_X} {mi : Nat} {pc : Nat} {L : am_L} {st : List Value} {n : Nat} {h : am_H} {k j : Nat} {Q : am_R → Prop} {S : MS}
theorem nI_mul (a b : Nat) : nI a * nI b = nI (a * b) := pk_mul a b
theorem an_iconst {v : Int} (m : Nat) (hd : decode (am_code mi) pc = .ok (.iconst v, 1)) (hv : Int32.ofInt v = nI m) (kk : AW X mi (pc + 1, L, .int (nI m) :: st, n, h, k, j) Q) : AW X mi (pc, L, st, n, h, k, j) Q := as_iconst hd (by rw [hv]; exact kk)
theorem an_bipush {v : Int} (m : Nat) (hd : decode (am_code mi) pc = .ok (.bipush v, 2)) (hv : (Int8.ofInt v).toInt32 = nI m) (kk : AW X mi (pc + 2, L, .int (nI m) :: st, n, h, k, j) Q) : AW X mi (pc, L, st, n, h, k, j) Q := as_bipush hd (by rw [hv]; exact kk)
theorem an_sipush {v : Int} (m : Nat) (hd : decode (am_code mi) pc = .ok (.sipush v, 3)) (hv : (Int16.ofInt v).toInt32 = nI m) (kk : AW X mi (pc + 3, L, .int (nI m) :: st, n, h, k, j) Q) : AW X mi (pc, L, st, n, h, k, j) Q := as_sipush hd (by rw [hv]; exact kk)
theorem an_iadd {x y : Nat} (hd : decode (am_code mi) pc = .ok (.iadd, 1)) (kk : AW X mi (pc + 1, L, .int (nI (x + y)) :: st, n, h, k, j) Q) : AW X mi (pc, L, .int (nI y) :: .int (nI x) :: st, n, h, k, j) Q := as_iadd hd (by rw [nI_add]; exact kk)
theorem an_imul {x y : Nat} (hd : decode (am_code mi) pc = .ok (.imul, 1)) (kk : AW X mi (pc + 1, L, .int (nI (x * y)) :: st, n, h, k, j) Q) : AW X mi (pc, L, .int (nI y) :: .int (nI x) :: st, n, h, k, j) Q := as_imul hd (by rw [nI_mul]; exact kk)
theorem an_isub {x y : Nat} (hd : decode (am_code mi) pc = .ok (.isub, 1)) (hle : y ≤ x) (kk : AW X mi (pc + 1, L, .int (nI (x - y)) :: st, n, h, k, j) Q) : AW X mi (pc, L, .int (nI y) :: .int (nI x) :: st, n, h, k, j) Q := as_isub hd (by rw [pk_sub hle]; exact kk)
theorem an_idiv {x y : Nat} (hd : decode (am_code mi) pc = .ok (.idiv, 1)) (hx : x < 2 ^ 31) (hy : 0 < y) (hy2 : y < 2 ^ 31) (kk : AW X mi (pc + 1, L, .int (nI (x / y)) :: st, n, h, k, j) Q) : AW X mi (pc, L, .int (nI y) :: .int (nI x) :: st, n, h, k, j) Q := as_idiv hd (nI_ne0 hy hy2) (by rw [pk_div hx hy hy2]; exact kk)
theorem an_irem {x y : Nat} (hd : decode (am_code mi) pc = .ok (.irem, 1)) (hx : x < 2 ^ 31) (hy : 0 < y) (hy2 : y < 2 ^ 31) (kk : AW X mi (pc + 1, L, .int (nI (x % y)) :: st, n, h, k, j) Q) : AW X mi (pc, L, .int (nI y) :: .int (nI x) :: st, n, h, k, j) Q := as_irem hd (nI_ne0 hy hy2) (by rw [pk_rem hx hy hy2]; exact kk)
theorem an_iinc {i : Nat} {v : Int} {x : Nat} (m : Nat) (hd : decode (am_code mi) pc = .ok (.iinc i v, 3)) (hv : Int32.ofInt v = nI m) (hl : am_ld L i = some (.int (nI x))) (hm : i < am_maxL mi) (kk : AW X mi (pc + 3, am_st1 L i (.int (nI (x + m))), st, n, h, k, j) Q) : AW X mi (pc, L, st, n, h, k, j) Q := as_iinc hd hl hm (by rw [hv, nI_add]; exact kk)
theorem an_top {e e' : Int32} (he : e = e') (kk : AW X mi (pc, L, .int e' :: st, n, h, k, j) Q) : AW X mi (pc, L, .int e :: st, n, h, k, j) Q := by rw [he]; exact kk
theorem an_topl {e e' : Int64} (he : e = e') (kk : AW X mi (pc, L, .long e' :: st, n, h, k, j) Q) : AW X mi (pc, L, .long e :: st, n, h, k, j) Q := by rw [he]; exact kk
theorem an_mem {h' : am_H} (he : h = h') (kk : AW X mi (pc, L, st, n, h', k, j) Q) : AW X mi (pc, L, st, n, h, k, j) Q := by rw [he]; exact kk
theorem an_icmp_eq {x y : Nat} {o : Int} (t : Nat) (hd : decode (am_code mi) pc = .ok (.if_icmp .eq o, 3)) (ht : (pc : Int) + o = (t : Int)) (hx : x < 2 ^ 31) (hy : y < 2 ^ 31) (k1 : x = y → AW X mi (t, L, st, n, h, k, j) Q) (k2 : x ≠ y → AW X mi (pc + 3, L, st, n, h, k, j) Q) : AW X mi (pc, L, .int (nI y) :: .int (nI x) :: st, n, h, k, j) Q := as_icmp_eq t hd ht (fun q => k1 ((nI_eq hx hy).mp q)) (fun q => k2 (fun r => q ((nI_eq hx hy).mpr r)))
theorem an_icmp_ne {x y : Nat} {o : Int} (t : Nat) (hd : decode (am_code mi) pc = .ok (.if_icmp .ne o, 3)) (ht : (pc : Int) + o = (t : Int)) (hx : x < 2 ^ 31) (hy : y < 2 ^ 31) (k1 : x ≠ y → AW X mi (t, L, st, n, h, k, j) Q) (k2 : x = y → AW X mi (pc + 3, L, st, n, h, k, j) Q) : AW X mi (pc, L, .int (nI y) :: .int (nI x) :: st, n, h, k, j) Q := as_icmp_ne t hd ht (fun q => k1 (fun r => q ((nI_eq hx hy).mpr r))) (fun q => k2 ((nI_eq hx hy).mp q))
theorem an_icmp_lt {x y : Nat} {o : Int} (t : Nat) (hd : decode (am_code mi) pc = .ok (.if_icmp .lt o, 3)) (ht : (pc : Int) + o = (t : Int)) (hx : x < 2 ^ 31) (hy : y < 2 ^ 31) (k1 : x < y → AW X mi (t, L, st, n, h, k, j) Q) (k2 : y ≤ x → AW X mi (pc + 3, L, st, n, h, k, j) Q) : AW X mi (pc, L, .int (nI y) :: .int (nI x) :: st, n, h, k, j) Q := as_icmp_lt t hd ht (fun q => k1 ((nI_ltI hx hy).mp q)) (fun q => k2 (Nat.not_lt.mp (fun r => q ((nI_ltI hx hy).mpr r))))
theorem an_icmp_ge {x y : Nat} {o : Int} (t : Nat) (hd : decode (am_code mi) pc = .ok (.if_icmp .ge o, 3)) (ht : (pc : Int) + o = (t : Int)) (hx : x < 2 ^ 31) (hy : y < 2 ^ 31) (k1 : y ≤ x → AW X mi (t, L, st, n, h, k, j) Q) (k2 : x < y → AW X mi (pc + 3, L, st, n, h, k, j) Q) : AW X mi (pc, L, .int (nI y) :: .int (nI x) :: st, n, h, k, j) Q := as_icmp_ge t hd ht (fun q => k1 ((nI_leI hy hx).mp q)) (fun q => k2 (Nat.not_le.mp (fun r => q ((nI_leI hy hx).mpr r))))
theorem an_icmp_gt {x y : Nat} {o : Int} (t : Nat) (hd : decode (am_code mi) pc = .ok (.if_icmp .gt o, 3)) (ht : (pc : Int) + o = (t : Int)) (hx : x < 2 ^ 31) (hy : y < 2 ^ 31) (k1 : y < x → AW X mi (t, L, st, n, h, k, j) Q) (k2 : x ≤ y → AW X mi (pc + 3, L, st, n, h, k, j) Q) : AW X mi (pc, L, .int (nI y) :: .int (nI x) :: st, n, h, k, j) Q := as_icmp_gt t hd ht (fun q => k1 ((nI_ltI hy hx).mp q)) (fun q => k2 (Nat.not_lt.mp (fun r => q ((nI_ltI hy hx).mpr r))))
theorem an_icmp_le {x y : Nat} {o : Int} (t : Nat) (hd : decode (am_code mi) pc = .ok (.if_icmp .le o, 3)) (ht : (pc : Int) + o = (t : Int)) (hx : x < 2 ^ 31) (hy : y < 2 ^ 31) (k1 : x ≤ y → AW X mi (t, L, st, n, h, k, j) Q) (k2 : y < x → AW X mi (pc + 3, L, st, n, h, k, j) Q) : AW X mi (pc, L, .int (nI y) :: .int (nI x) :: st, n, h, k, j) Q := as_icmp_le t hd ht (fun q => k1 ((nI_leI hx hy).mp q)) (fun q => k2 (Nat.not_le.mp (fun r => q ((nI_leI hx hy).mpr r))))
theorem nI_z {x : Nat} (hx : x < 2 ^ 31) : nI x = 0 ↔ x = 0 := by rw [← nI_0, nI_eq hx (by decide)]
theorem an_if_eq {x : Nat} {o : Int} (t : Nat) (hd : decode (am_code mi) pc = .ok (.ifCond .eq o, 3)) (ht : (pc : Int) + o = (t : Int)) (hx : x < 2 ^ 31) (k1 : x = 0 → AW X mi (t, L, st, n, h, k, j) Q) (k2 : x ≠ 0 → AW X mi (pc + 3, L, st, n, h, k, j) Q) : AW X mi (pc, L, .int (nI x) :: st, n, h, k, j) Q := as_if_eq t hd ht (fun q => k1 ((nI_z hx).mp q)) (fun q => k2 (fun r => q ((nI_z hx).mpr r)))
theorem an_if_ne {x : Nat} {o : Int} (t : Nat) (hd : decode (am_code mi) pc = .ok (.ifCond .ne o, 3)) (ht : (pc : Int) + o = (t : Int)) (hx : x < 2 ^ 31) (k1 : x ≠ 0 → AW X mi (t, L, st, n, h, k, j) Q) (k2 : x = 0 → AW X mi (pc + 3, L, st, n, h, k, j) Q) : AW X mi (pc, L, .int (nI x) :: st, n, h, k, j) Q := as_if_ne t hd ht (fun q => k1 (fun r => q ((nI_z hx).mpr r))) (fun q => k2 ((nI_z hx).mp q))
theorem am_in_nI {i len : Nat} (hi : i < len) (hl : len < 2 ^ 31) : am_in (nI i) len = true := decide_eq_true (vp_in_nI hi hl)
theorem am_in_cl {i : Int32} {len : Nat} (h : am_in i len = true) (hl : len < 2 ^ 31) : ∃ m, m < len ∧ i = nI m := vp_in_of (am_in_vp h) hl
/-! the memory -/
theorem ap_get {q ci f a : Nat} {fs : List Value} {v : Value} (hd : decode (am_code mi) pc = .ok (.getfield q, 3)) (hf : am_find am_ftL (am_mc mi) q = some (ci, f)) (ha : a < 208) (hh : HP S a = .inr (ci, fs)) (hv : fs[f]? = some v) (kk : AW X mi (pc + 3, L, v :: st, 208, HP S, k, j) Q) : AW X mi (pc, L, .ref a :: st, 208, HP S, k, j) Q := as_get hd hf ha hh hv kk
theorem ap_put {q ci f a : Nat} {fs : List Value} {x : Int32} (hd : decode (am_code mi) pc = .ok (.putfield q, 3)) (hf : am_find am_ftL (am_mc mi) q = some (ci, f)) (ha : a < 208) (hh : HP S a = .inr (ci, fs)) (hl : f < fs.length) (hv : am_okv (am_ty ci f) (.int x) = true) (hfin : ((am_C ci).2.1 f).2.2.2 = false) (hp : HPk a (u2 S.1 a f x a) (S.2.1 a) (S.2.2.1 a) (S.2.2.2 a) = .inr (ci, fs.set f (.int x))) (kk : AW X mi (pc + 3, L, st, 208, HP (S.sf a f x), k, j) Q) : AW X mi (pc, L, .int x :: .ref a :: st, 208, HP S, k, j) Q := as_put hd hf ha hh hl hv hfin (HP_sf S a f x hp) kk
theorem ap_putr {q ci f a y : Nat} {fs : List Value} (hd : decode (am_code mi) pc = .ok (.putfield q, 3)) (hf : am_find am_ftL (am_mc mi) q = some (ci, f)) (ha : a < 208) (hh : HP S a = .inr (ci, fs)) (hl : f < fs.length) (hv : am_okv (am_ty ci f) (.ref y) = true) (hfin : ((am_C ci).2.1 f).2.2.2 = false) (hp : HPk a (S.1 a) (S.2.1 a) (S.2.2.1 a) (u2 S.2.2.2 a f y a) = .inr (ci, fs.set f (.ref y))) (kk : AW X mi (pc + 3, L, st, 208, HP (S.sr a f y), k, j) Q) : AW X mi (pc, L, .ref y :: .ref a :: st, 208, HP S, k, j) Q := as_put hd hf ha hh hl hv hfin (HP_sr S a f y hp) kk
theorem ap_iald {a len i : Nat} (hd : decode (am_code mi) pc = .ok (.iaload, 1)) (hI : isI a len) (ha : a < 208) (hi : i < len) (hl : len < 2 ^ 31) (kk : AW X mi (pc + 1, L, .int (S.2.1 a i) :: st, 208, HP S, k, j) Q) : AW X mi (pc, L, .int (nI i) :: .ref a :: st, 208, HP S, k, j) Q := as_iald hd ha (hI _ _ _ _) (am_in_nI hi hl) (by rw [nI_clamp (by omega)]; exact kk)
theorem ap_zald {a len i : Nat} (hd : decode (am_code mi) pc = .ok (.baload, 1)) (hI : isZ a len) (ha : a < 208) (hi : i < len) (hl : len < 2 ^ 31) (kk : AW X mi (pc + 1, L, .int (S.2.1 a i) :: st, 208, HP S, k, j) Q) : AW X mi (pc, L, .int (nI i) :: .ref a :: st, 208, HP S, k, j) Q := as_zald hd ha (hI _ _ _ _) (am_in_nI hi hl) (by rw [nI_clamp (by omega)]; exact kk)
theorem ap_lald {a len i : Nat} (hd : decode (am_code mi) pc = .ok (.laload, 1)) (hI : isJ a len) (ha : a < 208) (hi : i < len) (hl : len < 2 ^ 31) (kk : AW X mi (pc + 1, L, .long (S.2.2.1 a i) :: st, 208, HP S, k, j) Q) : AW X mi (pc, L, .int (nI i) :: .ref a :: st, 208, HP S, k, j) Q := as_lald hd ha (hI _ _ _ _) (am_in_nI hi hl) (by rw [nI_clamp (by omega)]; exact kk)
/-- a constant array -/
theorem ap_cald {a len i : Nat} {f : Nat → Int32} (hd : decode (am_code mi) pc = .ok (.iaload, 1)) (hh : HP S a = .inl (0, len, .inl f)) (ha : a < 208) (hi : i < len) (hl : len < 2 ^ 31) (kk : AW X mi (pc + 1, L, .int (f i) :: st, 208, HP S, k, j) Q) : AW X mi (pc, L, .int (nI i) :: .ref a :: st, 208, HP S, k, j) Q := as_iald hd ha hh (am_in_nI hi hl) (by rw [nI_clamp (by omega)]; exact kk)
theorem ap_iast {a len i : Nat} {x : Int32} (hd : decode (am_code mi) pc = .ok (.iastore, 1)) (hI : isI a len) (ha : a < 208) (hi : i < len) (hl : len < 2 ^ 31) (kk : AW X mi (pc + 1, L, st, 208, HP (S.sa a i x), k, j) Q) : AW X mi (pc, L, .int x :: .int (nI i) :: .ref a :: st, 208, HP S, k, j) Q := as_iast hd ha (hI _ _ _ _) (am_in_nI hi hl) (HP_sa S a i x (by rw [hI, u2_row, nI_clamp (by omega)]; rfl)) kk
theorem ap_zast {a len i : Nat} {x : Int32} (hd : decode (am_code mi) pc = .ok (.bastore, 1)) (hI : isZ a len) (ha : a < 208) (hi : i < len) (hl : len < 2 ^ 31) (hx : vp_nar .boolean x = x) (kk : AW X mi (pc + 1, L, st, 208, HP (S.sa a i x), k, j) Q) : AW X mi (pc, L, .int x :: .int (nI i) :: .ref a :: st, 208, HP S, k, j) Q := as_zast hd ha (hI _ _ _ _) (am_in_nI hi hl) (HP_sa S a i x (by rw [hI, u2_row, nI_clamp (by omega), hx]; rfl)) kk
theorem ap_last {a len i : Nat} {x : Int64} (hd : decode (am_code mi) pc = .ok (.lastore, 1)) (hI : isJ a len) (ha : a < 208) (hi : i < len) (hl : len < 2 ^ 31) (kk : AW X mi (pc + 1, L, st, 208, HP (S.sl a i x), k, j) Q) : AW X mi (pc, L, .long x :: .int (nI i) :: .ref a :: st, 208, HP S, k, j) Q := as_last hd ha (hI _ _ _ _) (am_in_nI hi hl) (HP_sl S a i x (by rw [hI, u2_row, nI_clamp (by omega)]; rfl)) kk
def isQ (t a len : Nat) : Prop := ∀ fi ar la rf, HPk a fi ar la rf = .inl (t, len, .inr (.inr (.inr (.inr (fun i => if i < len then some (rf i) else none)))))
theorem ap_aald {t a len i : Nat} (hd : decode (am_code mi) pc = .ok (.aaload, 1)) (hI : isQ t a len) (ht : t = 3 ∨ t = 4) (ha : a < 208) (hi : i < len) (hl : len < 2 ^ 31) (kk : AW X mi (pc + 1, L, .ref (S.2.2.2 a i) :: st, 208, HP S, k, j) Q) : AW X mi (pc, L, .int (nI i) :: .ref a :: st, 208, HP S, k, j) Q := as_aald hd ha (hI _ _ _ _) ht (am_in_nI hi hl) (by rw [nI_clamp (by omega)]; exact if_pos hi) kk
theorem ap_aastI {a len i v len2 : Nat} (hd : decode (am_code mi) pc = .ok (.aastore, 1)) (hI : isQ 3 a len) (ha : a < 208) (hv : v < 208) (hV : isI v len2) (hi : i < len) (hl : len < 2 ^ 31) (kk : AW X mi (pc + 1, L, st, 208, HP (S.sr a i v), k, j) Q) : AW X mi (pc, L, .ref v :: .int (nI i) :: .ref a :: st, 208, HP S, k, j) Q := as_aast hd ha hv (hI _ _ _ _) (hV _ _ _ _) (Or.inl ⟨rfl, rfl⟩) (am_in_nI hi hl) (HP_sr S a i v (by
  rw [hI, u2_row, nI_clamp (by omega)]
  refine congrArg (fun f : Nat → Option Nat => (Sum.inl (3, len, Sum.inr (Sum.inr (Sum.inr (Sum.inr f)))) : am_E)) (funext fun q => ?_)
  by_cases hq : q = i <;> simp [va_up, hq, hi])) kk
theorem ap_aastJ {a len i v len2 : Nat} (hd : decode (am_code mi) pc = .ok (.aastore, 1)) (hI : isQ 4 a len) (ha : a < 208) (hv : v < 208) (hV : isJ v len2) (hi : i < len) (hl : len < 2 ^ 31) (kk : AW X mi (pc + 1, L, st, 208, HP (S.sr a i v), k, j) Q) : AW X mi (pc, L, .ref v :: .int (nI i) :: .ref a :: st, 208, HP S, k, j) Q := as_aast hd ha hv (hI _ _ _ _) (hV _ _ _ _) (Or.inr ⟨rfl, rfl⟩) (am_in_nI hi hl) (HP_sr S a i v (by
  rw [hI, u2_row, nI_clamp (by omega)]
  refine congrArg (fun f : Nat → Option Nat => (Sum.inl (4, len, Sum.inr (Sum.inr (Sum.inr (Sum.inr f)))) : am_E)) (funext fun q => ?_)
  by_cases hq : q = i <;> simp [va_up, hq, hi])) kk
/-! locals that are kept -/
def am_ndb : List Nat → Bool
  | [] => true
  | a :: l => !(l.contains a) && am_ndb l
theorem am_ndb_ok : ∀ {l : List Nat}, am_ndb l = true → l.Nodup
  | [], _ => List.nodup_nil
  | a :: l, h => by
    unfold am_ndb at h
    rw [Bool.and_eq_true] at h
    exact List.nodup_cons.mpr ⟨by simpa using h.1, am_ndb_ok h.2⟩
theorem am_pick {L L' : am_L} (ks : List Nat) (hn : am_ndb (L.map (fun q => q.1)) = true) (hp : ks.filterMap (fun k => L[k]?) = L') : am_sub L' L := am_sub_pick ks (am_ndb_ok hn) hp
/-! calls -/
/-- a call that makes no cells -/
def MC (X : am_X) (mj : Nat) (as : List Value) (S : MS) (v : Option Value) (S' : MS) : Prop := AV X mj as 208 (HP S) (fun r => r = (v, 208, HP S', 0, 0))
theorem MC.of {mj : Nat} {as : List Value} {v : Option Value} {S' : MS} (hl : (lg_sl as).length ≤ am_maxL mj) (kk : AW X mj (0, lv_args 0 as, [], 208, HP S, 0, 0) (fun r => r = (v, 208, HP S', 0, 0))) : MC X mj as S v S' := AV.of hl kk
theorem am_callK {mj : Nat} {as rest : List Value} {v : Option Value} {S' : MS} (hc : MC X mj as S v S') (hs : ∀ (call : am_Cl) (r : am_R), call mj as 208 (HP S) = some r → am_step X call mi (pc, L, st, 208, HP S, k, j) = am_back (pc + 3) L rest k j (some r)) (kk : AW X mi (pc + 3, L, v.toList ++ rest, 208, HP S', k, j) Q) : AW X mi (pc, L, st, 208, HP S, k, j) Q := by
  refine AW.call hc (f := fun r => (pc + 3, L, r.1.toList ++ rest, r.2.1, r.2.2.1, k + r.2.2.2.1, j + r.2.2.2.2)) (fun call r hr => ?_) (fun r hr => ?_)
  · rw [hs call r hr]
    rfl
  · subst hr
    exact kk
theorem am_okc_of {mj : Nat} {rest : List Value} (h1 : am_cat rest ≤ 8) (h2 : am_fr mj + 1 ≤ am_fr mi) (h3 : 8 + (am_maxL mj + 11) + am_lo mj ≤ am_lo mi) : am_okc mi mj rest = true := by
  unfold am_okc
  simp [h1, h2, h3]
theorem ac_v0 {q mj b : Nat} {rest fs : List Value} {v : Option Value} {S' : MS} (hd : decode (am_code mi) pc = .ok (.invokevirtual q, 3)) (hc : am_find am_ctL (am_mc mi) q = some (0, mj) ∧ am_na mj = 0 ∧ am_fr mj + 1 ≤ am_fr mi ∧ 8 + (am_maxL mj + 11) + am_lo mj ≤ am_lo mi) (hb : b < 208) (hh : HP S b = .inr (am_mc mj, fs)) (hr : am_cat rest ≤ 8) (hm : MC X mj [.ref b] S v S') (kk : AW X mi (pc + 3, L, v.toList ++ rest, 208, HP S', k, j) Q) : AW X mi (pc, L, .ref b :: rest, 208, HP S, k, j) Q := by
  have hok := am_okc_of hr hc.2.2.1 hc.2.2.2
  exact am_callK hm (fun call r hcl => by simp [am_step, hd, am_len, am_ex, am_call, hc.1, hc.2.1, hh, hb, hok, hcl]) kk
theorem ac_v1 {q mj b : Nat} {v1 : Value} {rest fs : List Value} {v : Option Value} {S' : MS} (hd : decode (am_code mi) pc = .ok (.invokevirtual q, 3)) (hc : am_find am_ctL (am_mc mi) q = some (0, mj) ∧ am_na mj = 1 ∧ am_fr mj + 1 ≤ am_fr mi ∧ 8 + (am_maxL mj + 11) + am_lo mj ≤ am_lo mi) (hb : b < 208) (hh : HP S b = .inr (am_mc mj, fs)) (hr : am_cat rest ≤ 8) (hm : MC X mj [.ref b, v1] S v S') (kk : AW X mi (pc + 3, L, v.toList ++ rest, 208, HP S', k, j) Q) : AW X mi (pc, L, v1 :: .ref b :: rest, 208, HP S, k, j) Q := by
  have hok := am_okc_of hr hc.2.2.1 hc.2.2.2
  exact am_callK hm (fun call r hcl => by simp [am_step, hd, am_len, am_ex, am_call, hc.1, hc.2.1, hh, hb, hok, hcl]) kk
theorem ac_v2 {q mj b : Nat} {v1 v2 : Value} {rest fs : List Value} {v : Option Value} {S' : MS} (hd : decode (am_code mi) pc = .ok (.invokevirtual q, 3)) (hc : am_find am_ctL (am_mc mi) q = some (0, mj) ∧ am_na mj = 2 ∧ am_fr mj + 1 ≤ am_fr mi ∧ 8 + (am_maxL mj + 11) + am_lo mj ≤ am_lo mi) (hb : b < 208) (hh : HP S b = .inr (am_mc mj, fs)) (hr : am_cat rest ≤ 8) (hm : MC X mj [.ref b, v1, v2] S v S') (kk : AW X mi (pc + 3, L, v.toList ++ rest, 208, HP S', k, j) Q) : AW X mi (pc, L, v2 :: v1 :: .ref b :: rest, 208, HP S, k, j) Q := by
  have hok := am_okc_of hr hc.2.2.1 hc.2.2.2
  exact am_callK hm (fun call r hcl => by simp [am_step, hd, am_len, am_ex, am_call, hc.1, hc.2.1, hh, hb, hok, hcl]) kk
theorem ac_v3 {q mj b : Nat} {v1 v2 v3 : Value} {rest fs : List Value} {v : Option Value} {S' : MS} (hd : decode (am_code mi) pc = .ok (.invokevirtual q, 3)) (hc : am_find am_ctL (am_mc mi) q = some (0, mj) ∧ am_na mj = 3 ∧ am_fr mj + 1 ≤ am_fr mi ∧ 8 + (am_maxL mj + 11) + am_lo mj ≤ am_lo mi) (hb : b < 208) (hh : HP S b = .inr (am_mc mj, fs)) (hr : am_cat rest ≤ 8) (hm : MC X mj [.ref b, v1, v2, v3] S v S') (kk : AW X mi (pc + 3, L, v.toList ++ rest, 208, HP S', k, j) Q) : AW X mi (pc, L, v3 :: v2 :: v1 :: .ref b :: rest, 208, HP S, k, j) Q := by
  have hok := am_okc_of hr hc.2.2.1 hc.2.2.2
  exact am_callK hm (fun call r hcl => by simp [am_step, hd, am_len, am_ex, am_call, hc.1, hc.2.1, hh, hb, hok, hcl]) kk
theorem ac_v4 {q mj b : Nat} {v1 v2 v3 v4 : Value} {rest fs : List Value} {v : Option Value} {S' : MS} (hd : decode (am_code mi) pc = .ok (.invokevirtual q, 3)) (hc : am_find am_ctL (am_mc mi) q = some (0, mj) ∧ am_na mj = 4 ∧ am_fr mj + 1 ≤ am_fr mi ∧ 8 + (am_maxL mj + 11) + am_lo mj ≤ am_lo mi) (hb : b < 208) (hh : HP S b = .inr (am_mc mj, fs)) (hr : am_cat rest ≤ 8) (hm : MC X mj [.ref b, v1, v2, v3, v4] S v S') (kk : AW X mi (pc + 3, L, v.toList ++ rest, 208, HP S', k, j) Q) : AW X mi (pc, L, v4 :: v3 :: v2 :: v1 :: .ref b :: rest, 208, HP S, k, j) Q := by
  have hok := am_okc_of hr hc.2.2.1 hc.2.2.2
  exact am_callK hm (fun call r hcl => by simp [am_step, hd, am_len, am_ex, am_call, hc.1, hc.2.1, hh, hb, hok, hcl]) kk
theorem ac_v5 {q mj b : Nat} {v1 v2 v3 v4 v5 : Value} {rest fs : List Value} {v : Option Value} {S' : MS} (hd : decode (am_code mi) pc = .ok (.invokevirtual q, 3)) (hc : am_find am_ctL (am_mc mi) q = some (0, mj) ∧ am_na mj = 5 ∧ am_fr mj + 1 ≤ am_fr mi ∧ 8 + (am_maxL mj + 11) + am_lo mj ≤ am_lo mi) (hb : b < 208) (hh : HP S b = .inr (am_mc mj, fs)) (hr : am_cat rest ≤ 8) (hm : MC X mj [.ref b, v1, v2, v3, v4, v5] S v S') (kk : AW X mi (pc + 3, L, v.toList ++ rest, 208, HP S', k, j) Q) : AW X mi (pc, L, v5 :: v4 :: v3 :: v2 :: v1 :: .ref b :: rest, 208, HP S, k, j) Q := by
  have hok := am_okc_of hr hc.2.2.1 hc.2.2.2
  exact am_callK hm (fun call r hcl => by simp [am_step, hd, am_len, am_ex, am_call, hc.1, hc.2.1, hh, hb, hok, hcl]) kk
theorem ac_s1 {q mj kd : Nat} {v1 : Value} {rest : List Value} {v : Option Value} {S' : MS} (hd : decode (am_code mi) pc = .ok (.invokestatic q, 3)) (hc : am_find am_ctL (am_mc mi) q = some (kd, mj) ∧ am_na mj = 1 ∧ am_fr mj + 1 ≤ am_fr mi ∧ 8 + (am_maxL mj + 11) + am_lo mj ≤ am_lo mi) (hk : kd = 1 ∨ kd = 3) (hr : am_cat rest ≤ 8) (hm : MC X mj [v1] S v S') (kk : AW X mi (pc + 3, L, v.toList ++ rest, 208, HP S', k, j) Q) : AW X mi (pc, L, v1 :: rest, 208, HP S, k, j) Q := by
  have hok := am_okc_of hr hc.2.2.1 hc.2.2.2
  rcases hk with rfl | rfl
  · exact am_callK hm (fun call r hcl => by simp [am_step, hd, am_len, am_ex, am_call, hc.1, hc.2.1, hok, hcl]) kk
  · exact am_callK hm (fun call r hcl => by simp [am_step, hd, am_len, am_ex, am_call, hc.1, hc.2.1, hok, hcl]) kk
theorem ac_s2 {q mj kd : Nat} {v1 v2 : Value} {rest : List Value} {v : Option Value} {S' : MS} (hd : decode (am_code mi) pc = .ok (.invokestatic q, 3)) (hc : am_find am_ctL (am_mc mi) q = some (kd, mj) ∧ am_na mj = 2 ∧ am_fr mj + 1 ≤ am_fr mi ∧ 8 + (am_maxL mj + 11) + am_lo mj ≤ am_lo mi) (hk : kd = 1 ∨ kd = 3) (hr : am_cat rest ≤ 8) (hm : MC X mj [v1, v2] S v S') (kk : AW X mi (pc + 3, L, v.toList ++ rest, 208, HP S', k, j) Q) : AW X mi (pc, L, v2 :: v1 :: rest, 208, HP S, k, j) Q := by
  have hok := am_okc_of hr hc.2.2.1 hc.2.2.2
  rcases hk with rfl | rfl
  · exact am_callK hm (fun call r hcl => by simp [am_step, hd, am_len, am_ex, am_call, hc.1, hc.2.1, hok, hcl]) kk
  · exact am_callK hm (fun call r hcl => by simp [am_step, hd, am_len, am_ex, am_call, hc.1, hc.2.1, hok, hcl]) kk
theorem ac_s3 {q mj kd : Nat} {v1 v2 v3 : Value} {rest : List Value} {v : Option Value} {S' : MS} (hd : decode (am_code mi) pc = .ok (.invokestatic q, 3)) (hc : am_find am_ctL (am_mc mi) q = some (kd, mj) ∧ am_na mj = 3 ∧ am_fr mj + 1 ≤ am_fr mi ∧ 8 + (am_maxL mj + 11) + am_lo mj ≤ am_lo mi) (hk : kd = 1 ∨ kd = 3) (hr : am_cat rest ≤ 8) (hm : MC X mj [v1, v2, v3] S v S') (kk : AW X mi (pc + 3, L, v.toList ++ rest, 208, HP S', k, j) Q) : AW X mi (pc, L, v3 :: v2 :: v1 :: rest, 208, HP S, k, j) Q := by
  have hok := am_okc_of hr hc.2.2.1 hc.2.2.2
  rcases hk with rfl | rfl
  · exact am_callK hm (fun call r hcl => by simp [am_step, hd, am_len, am_ex, am_call, hc.1, hc.2.1, hok, hcl]) kk
  · exact am_callK hm (fun call r hcl => by simp [am_step, hd, am_len, am_ex, am_call, hc.1, hc.2.1, hok, hcl]) kk
theorem ac_s4 {q mj kd : Nat} {v1 v2 v3 v4 : Value} {rest : List Value} {v : Option Value} {S' : MS} (hd : decode (am_code mi) pc = .ok (.invokestatic q, 3)) (hc : am_find am_ctL (am_mc mi) q = some (kd, mj) ∧ am_na mj = 4 ∧ am_fr mj + 1 ≤ am_fr mi ∧ 8 + (am_maxL mj + 11) + am_lo mj ≤ am_lo mi) (hk : kd = 1 ∨ kd = 3) (hr : am_cat rest ≤ 8) (hm : MC X mj [v1, v2, v3, v4] S v S') (kk : AW X mi (pc + 3, L, v.toList ++ rest, 208, HP S', k, j) Q) : AW X mi (pc, L, v4 :: v3 :: v2 :: v1 :: rest, 208, HP S, k, j) Q := by
  have hok := am_okc_of hr hc.2.2.1 hc.2.2.2
  rcases hk with rfl | rfl
  · exact am_callK hm (fun call r hcl => by simp [am_step, hd, am_len, am_ex, am_call, hc.1, hc.2.1, hok, hcl]) kk
  · exact am_callK hm (fun call r hcl => by simp [am_step, hd, am_len, am_ex, am_call, hc.1, hc.2.1, hok, hcl]) kk
theorem ac_s5 {q mj kd : Nat} {v1 v2 v3 v4 v5 : Value} {rest : List Value} {v : Option Value} {S' : MS} (hd : decode (am_code mi) pc = .ok (.invokestatic q, 3)) (hc : am_find am_ctL (am_mc mi) q = some (kd, mj) ∧ am_na mj = 5 ∧ am_fr mj + 1 ≤ am_fr mi ∧ 8 + (am_maxL mj + 11) + am_lo mj ≤ am_lo mi) (hk : kd = 1 ∨ kd = 3) (hr : am_cat rest ≤ 8) (hm : MC X mj [v1, v2, v3, v4, v5] S v S') (kk : AW X mi (pc + 3, L, v.toList ++ rest, 208, HP S', k, j) Q) : AW X mi (pc, L, v5 :: v4 :: v3 :: v2 :: v1 :: rest, 208, HP S, k, j) Q := by
  have hok := am_okc_of hr hc.2.2.1 hc.2.2.2
  rcases hk with rfl | rfl
  · exact am_callK hm (fun call r hcl => by simp [am_step, hd, am_len, am_ex, am_call, hc.1, hc.2.1, hok, hcl]) kk
  · exact am_callK hm (fun call r hcl => by simp [am_step, hd, am_len, am_ex, am_call, hc.1, hc.2.1, hok, hcl]) kk
theorem ac_min {q mj : Nat} {x y : Int32} {rest : List Value} (hd : decode (am_code mi) pc = .ok (.invokestatic q, 3)) (hc : am_find am_ctL (am_mc mi) q = some (6, mj)) (h1 : 1 ≤ am_fr mi) (h2 : am_cat rest + 13 ≤ am_lo mi) (kk : AW X mi (pc + 3, L, .int (if y < x then y else x) :: rest, n, h, k, j) Q) : AW X mi (pc, L, .int y :: .int x :: rest, n, h, k, j) Q := AW.step (fun call => by simp [am_step, hd, am_len, am_ex, am_call, hc, h1, h2, am_go]) kk
theorem ac_max {q mj : Nat} {x y : Int32} {rest : List Value} (hd : decode (am_code mi) pc = .ok (.invokestatic q, 3)) (hc : am_find am_ctL (am_mc mi) q = some (7, mj)) (h1 : 1 ≤ am_fr mi) (h2 : am_cat rest + 13 ≤ am_lo mi) (kk : AW X mi (pc + 3, L, .int (if x < y then y else x) :: rest, n, h, k, j) Q) : AW X mi (pc, L, .int y :: .int x :: rest, n, h, k, j) Q := AW.step (fun call => by simp [am_step, hd, am_len, am_ex, am_call, hc, h1, h2, am_go]) kk
theorem ac_abs {q mj : Nat} {x : Int64} {rest : List Value} (hd : decode (am_code mi) pc = .ok (.invokestatic q, 3)) (hc : am_find am_ctL (am_mc mi) q = some (8, mj)) (h1 : 1 ≤ am_fr mi) (h2 : am_cat rest + 13 ≤ am_lo mi) (kk : AW X mi (pc + 3, L, .long (if 0 < x then x else -x) :: rest, n, h, k, j) Q) : AW X mi (pc, L, .long x :: rest, n, h, k, j) Q := AW.step (fun call => by simp [am_step, hd, am_len, am_ex, am_call, hc, h1, h2, am_go]) kk
end AN
section AN2
variable {X : am_X} {mi : Nat} {pc : Nat} {L : am_L} {st : List Value} {n : Nat} {h : am_H} {k j : Nat} {Q : am_R → Prop} {S : MS}
theorem an_iconstI {v : Int} (m : Int32) (hd : decode (am_code mi) pc = .ok (.iconst v, 1)) (hv : Int32.ofInt v = m) (kk : AW X mi (pc + 1, L, .int m :: st, n, h, k, j) Q) : AW X mi (pc, L, st, n, h, k, j) Q := as_iconst hd (by rw [hv]; exact kk)
theorem an_bipushI {v : Int} (m : Int32) (hd : decode (am_code mi) pc = .ok (.bipush v, 2)) (hv : (Int8.ofInt v).toInt32 = m) (kk : AW X mi (pc + 2, L, .int m :: st, n, h, k, j) Q) : AW X mi (pc, L, st, n, h, k, j) Q := as_bipush hd (by rw [hv]; exact kk)
theorem an_stat {u i : Nat} (hd : decode (am_code mi) pc = .ok (.iaload, 1)) (hu : 0 < u ∧ u < 5) (hi : i < (am_sl (u - 1)).length) (kk : AW X mi (pc + 1, L, .int ((am_sl (u - 1)).getD i 0) :: st, n, h, k, j) Q) : AW X mi (pc, L, .int (nI i) :: .float (UInt32.ofNat u) :: st, n, h, k, j) Q := by
  have e0 : (UInt32.ofNat u).toNat = u := by
    rw [UInt32.toNat_ofNat']
    exact Nat.mod_eq_of_lt (Nat.lt_trans hu.2 (by decide))
  have e1 : am_sx X (UInt32.ofNat u).toNat = ((am_sl (u - 1)).length, fun j => (am_sl (u - 1)).getD j 0) := by
    rw [e0]
    unfold am_sx
    rw [if_neg (by omega)]
  have hb : (am_sl (u - 1)).length < 2 ^ 31 := by
    rcases (show u = 1 ∨ u = 2 ∨ u = 3 ∨ u = 4 by omega) with rfl | rfl | rfl | rfl <;> decide
  refine as_fald hd (by rw [e0]; exact hu.2) (by rw [e1]; exact am_in_nI hi hb) ?_
  rw [e1]
  dsimp only
  rw [nI_clamp (by omega)]
  exact kk
end AN2
