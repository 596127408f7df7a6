/-! each step of the abstract machine is the machine's: switches, fields, arrays -/
section AMT
variable {p : Program} {l : Launch} {e : Env} {R : Room} {s : State} {m : MethodId} {args : Array Value} {below : List Frame} {meth : Method} {c : Code} {Q : State → Prop}
variable {K : am_K} {X : am_X} {mi : Nat} {pc : Nat} {L : am_L} {st : List Value} {n : Nat} {h : am_H} {k j : Nat} {z : am_Z} {call : am_Cl} {len : Nat}
theorem am_s_tableswitch {d lo hi : Int} {offs : Array Int} {len : Nat} (hA : am_At K X mi p R s m args meth c) (hd : decode (am_code mi) pc = .ok (.tableswitch d lo hi offs, len)) (hx : am_ex X call mi (.tableswitch d lo hi offs) len pc L st n h k j = some (.inl z)) (go : am_Go K mi p l e R s m args below meth c Q z) : am_Go K mi p l e R s m args below meth c Q (pc, L, st, n, h, k, j) := by
  obtain ⟨hex, hb, hml, hown, hts, hnm, hK, hF, hbs, hfr, hlo⟩ := hA
  dsimp only [am_ex] at hx
  split at hx
  · split at hx
    · rename_i hc
      obtain ⟨t, ht, rfl⟩ := am_jmp_inj hx
      intro H locs ls hH hl
      exact lv_tableOut hex hb hd hc ht (go H locs ls hH hl)
    · rename_i hc
      split at hx
      · rename_i o ho
        obtain ⟨t, ht, rfl⟩ := am_jmp_inj hx
        intro H locs ls hH hl
        exact lv_tableIn hex hb hd (fun q => hc (Or.inl q)) (fun q => hc (Or.inr q)) ho ht (go H locs ls hH hl)
      · cases hx
  · cases hx
theorem am_s_lookupswitch {d : Int} {ps : Array (Int × Int)} {len : Nat} (hA : am_At K X mi p R s m args meth c) (hd : decode (am_code mi) pc = .ok (.lookupswitch d ps, len)) (hx : am_ex X call mi (.lookupswitch d ps) len pc L st n h k j = some (.inl z)) (go : am_Go K mi p l e R s m args below meth c Q z) : am_Go K mi p l e R s m args below meth c Q (pc, L, st, n, h, k, j) := by
  obtain ⟨hex, hb, hml, hown, hts, hnm, hK, hF, hbs, hfr, hlo⟩ := hA
  dsimp only [am_ex] at hx
  split at hx
  · split at hx
    · rename_i hc
      obtain ⟨t, ht, rfl⟩ := am_jmp_inj hx
      intro H locs ls hH hl
      exact lv_lookup hex hb hd hc rfl ht (go H locs ls hH hl)
    · cases hx
  · cases hx
theorem am_s_getfield {q : Nat} (hA : am_At K X mi p R s m args meth c) (hd : decode (am_code mi) pc = .ok (.getfield q, 3)) (hx : am_ex X call mi (.getfield q) 3 pc L st n h k j = some (.inl z)) (go : am_Go K mi p l e R s m args below meth c Q z) : am_Go K mi p l e R s m args below meth c Q (pc, L, st, n, h, k, j) := by
  obtain ⟨hex, hb, hml, hown, hts, hnm, hK, hF, hbs, hfr, hlo⟩ := hA
  dsimp only [am_ex] at hx
  split at hx
  · rename_i st1 hg
    obtain rfl := am_go_inj hx
    intro H locs ls hH hl
    unfold am_get at hg
    split at hg
    · rename_i ci f a rest hfd
      split at hg
      · rename_i cj fs he
        split at hg
        · rename_i hc
          obtain ⟨ha, rfl⟩ := hc
          obtain ⟨v, hv, rfl⟩ := Option.map_eq_some_iff.mp hg
          obtain ⟨h1, h2, h3⟩ := am_ckF_ok _ (am_find_in hfd)
          refine va_get (D := am_D K) (v := am_v K v) (fs := am_vs K fs) hex hb hts (am_u_ok ci h1) hown hK hH.2.1 a ?_ (am_cl_get ci h1) f h2 (hts _ h3) (fun _ q => q) ?_ hd (go H locs ls hH hl)
          · rw [am_W_get K h ha, he]; rfl
          · rw [List.getElem?_map, hv]; rfl
        · cases hg
      · cases hg
    · cases hg
  · cases hx
theorem am_okv_ok {K : am_K} {ty : FieldType} {v : Value} (h : am_okv ty v = true) : narrow ty (am_v K v) = am_v K v ∧ fits ty (am_v K v) = true := by
  unfold am_okv at h
  split at h
  · exact ⟨rfl, rfl⟩
  · exact ⟨rfl, rfl⟩
  · rename_i v
    rcases Bool.or_eq_true_iff.mp h with h | h
    · rw [show v = 0 from by simpa using h]; exact ⟨rfl, rfl⟩
    · rw [show v = 1 from by simpa using h]; exact ⟨rfl, rfl⟩
  · exact ⟨rfl, rfl⟩
  · exact ⟨rfl, rfl⟩
  · cases h
theorem am_s_putfield {q : Nat} (hA : am_At K X mi p R s m args meth c) (hd : decode (am_code mi) pc = .ok (.putfield q, 3)) (hx : am_ex X call mi (.putfield q) 3 pc L st n h k j = some (.inl z)) (go : am_Go K mi p l e R s m args below meth c Q z) : am_Go K mi p l e R s m args below meth c Q (pc, L, st, n, h, k, j) := by
  obtain ⟨hex, hb, hml, hown, hts, hnm, hK, hF, hbs, hfr, hlo⟩ := hA
  dsimp only [am_ex] at hx
  split at hx
  · rename_i st1 h1 hg
    obtain rfl := am_go_inj hx
    intro H locs ls hH hl
    unfold am_put at hg
    split at hg
    · rename_i ci f v a rest hfd
      split at hg
      · rename_i cj fs he
        split at hg
        · rename_i hc
          obtain ⟨ha, rfl, hlen, hok, hfin⟩ := hc
          cases hg
          obtain ⟨g1, g2, g3⟩ := am_ckF_ok _ (am_find_in hfd)
          obtain ⟨o1, o2⟩ := am_okv_ok (K := K) hok
          have hw : (am_W K n h)[a]? = some (K.1 + a, .inr (ci, am_vs K fs)) := by rw [am_W_get K h ha, he]; rfl
          have hset : (am_W K n h).set a (K.1 + a, .inr (ci, (am_vs K fs).set f (am_v K v))) = am_W K n (am_up h a (.inr (ci, fs.set f v))) := by
            rw [← am_W_set K h ha]
            congr 2
            show _ = am_e K (.inr (ci, fs.set f v))
            unfold am_e
            dsimp only
            rw [List.map_set]
          have kk : ∀ (H1 : Heap) (locs1 : List Loc), va_P (am_D K) am_cl ((am_W K n h).set a (K.1 + a, .inr (ci, (am_vs K fs).set f (am_v K v)))) H1 → va_D (am_A K) ((am_W K n h).set a (K.1 + a, .inr (ci, (am_vs K fs).set f (am_v K v)))) → va_S (am_A K) s.heap H1 locs1 → W p l e R s m args below meth c H1 locs1 k j Q (F0 m (pc + 3) ls (am_vs K st1)) := by
            intro H1 locs1 hP1 _ hS1
            rw [hset] at hP1
            exact go H1 locs1 ls ⟨hH.1, hP1, hS1⟩ hl
          rcases hfin with hfin | ⟨hin, hdc⟩
          · exact va_put (D := am_D K) (v := am_v K v) (fs := am_vs K fs) (ty := am_ty ci f) hex hb hts (am_u_ok ci g1) (am_ty ci) (am_ckT_ok ci g1) (am_ckU_ok ci g1) hown hK hH.2.1 (am_W_D K n h) hH.2.2 a hw (am_cl_get ci g1) f g2 (hts _ g3) (fun _ q => q) hfin (am_ckT_ok ci g1 f g2) o1 o2 (by simpa using hlen) hd kk
          · by_cases hfin : ((am_C ci).2.1 f).2.2.2 = true
            · exact va_putF (D := am_D K) (v := am_v K v) (fs := am_vs K fs) (ty := am_ty ci f) hex hb hts (am_u_ok ci g1) (am_ty ci) (am_ckT_ok ci g1) (am_ckU_ok ci g1) hown hK hH.2.1 (am_W_D K n h) hH.2.2 a hw (am_cl_get ci g1) f g2 (hts _ g3) (fun _ q => q) hfin (hnm hin) hdc (am_ckT_ok ci g1 f g2) o1 o2 (by simpa using hlen) hd kk
            · exact va_put (D := am_D K) (v := am_v K v) (fs := am_vs K fs) (ty := am_ty ci f) hex hb hts (am_u_ok ci g1) (am_ty ci) (am_ckT_ok ci g1) (am_ckU_ok ci g1) hown hK hH.2.1 (am_W_D K n h) hH.2.2 a hw (am_cl_get ci g1) f g2 (hts _ g3) (fun _ q => q) (by simpa using hfin) (am_ckT_ok ci g1 f g2) o1 o2 (by simpa using hlen) hd kk
        · cases hg
      · cases hg
    · cases hg
  · cases hx
theorem am_s_getstatic {q : Nat} (hA : am_At K X mi p R s m args meth c) (hd : decode (am_code mi) pc = .ok (.getstatic q, 3)) (hx : am_ex X call mi (.getstatic q) 3 pc L st n h k j = some (.inl z)) (go : am_Go K mi p l e R s m args below meth c Q z) : am_Go K mi p l e R s m args below meth c Q (pc, L, st, n, h, k, j) := by
  obtain ⟨hex, hb, hml, hown, hts, hnm, hK, hF, hbs, hfr, hlo⟩ := hA
  dsimp only [am_ex] at hx
  split at hx
  · rename_i u b hg
    obtain rfl := am_go_inj hx
    intro H locs ls hH hl
    have g := am_ckG_ok _ (am_find_in hg)
    obtain ⟨u1, u2, g⟩ := g
    have hz := (hF.2.1 u u1 u2).1
    have hu : (UInt32.ofNat u).toNat = u := by
      rw [UInt32.toNat_ofNat']
      exact Nat.mod_eq_of_lt (Nat.lt_trans u2 (by decide))
    have hgo := go H locs ls hH hl
    have e1 : am_v K (.float (UInt32.ofNat u)) = .ref (K.2.1 u) := by
      show Value.ref (K.2.1 (UInt32.ofNat u).toNat) = _
      rw [hu]
    have hgo : W p l e R s m args below meth c H locs k j Q (F0 m (pc + 3) ls (.ref (K.2.1 u) :: am_vs K st)) := by
      rw [← e1]
      exact hgo
    rcases g with ⟨-, g⟩ | g
    · have hN : va_Nw (.fieldLinkNest (am_cn (am_mc mi)) q "ThirdSheets" (am_sn u) "[I" "ThirdSheets") s := hF.2.2.1 (am_mc mi, q, u) g
      have hN2 : (Cond.fieldLinkNest (am_cn (am_mc mi)) q "ThirdSheets" (am_sn u) "[I" "ThirdSheets").before args s = true := va_Nw.use rfl hN
      exact va_getsN (C := "ThirdSheets") (n := am_sn u) (d := "[I") (ref := "ThirdSheets") hex hb hz hH.2.2 hown hN2 (fun _ q => q) hd hgo
    · have hN2 : (Cond.fieldLink (am_cn (am_mc mi)) q "ThirdSheets" (am_sn u) "[I").before args s = true := hts _ g
      exact va_gets (C := "ThirdSheets") (n := am_sn u) (d := "[I") (ref := "ThirdSheets") hex hb hz hH.2.2 hown hN2 (fun _ q => q) hd hgo
  · cases hx
theorem am_s_aload {i : Instr} {t : Nat} (hi : i = .iaload ∧ t = 0 ∨ i = .baload ∧ t = 2) (hA : am_At K X mi p R s m args meth c) (hd : decode (am_code mi) pc = .ok (i, 1)) {st1 : List Value} (hg : am_aload X t st n h = some st1) (go : am_Go K mi p l e R s m args below meth c Q (pc + 1, L, st1, n, h, k, j)) : am_Go K mi p l e R s m args below meth c Q (pc, L, st, n, h, k, j) := by
  obtain ⟨hex, hb, hml, hown, hts, hnm, hK, hF, hbs, hfr, hlo⟩ := hA
  intro H locs ls hH hl
  unfold am_aload at hg
  split at hg
  · rename_i i9 a rest
    split at hg
    · rename_i u len f he
      split at hg
      · rename_i hc
        obtain ⟨ha, rfl, hin⟩ := hc
        cases hg
        have hw : (am_W K n h)[a]? = some (K.1 + a, .inl (K.2.2.2.2 u, len, .inl f)) := by rw [am_W_get K h ha, he]; rfl
        rcases hi with ⟨rfl, rfl⟩ | ⟨rfl, rfl⟩
        · exact va_iald hex hb hK hH.2.1 a 0 hw rfl (am_in_vp hin) hd (go H locs ls hH hl)
        · exact va_zald hex hb hK hH.2.1 a 2 hw rfl (am_in_vp hin) hd (go H locs ls hH hl)
      · cases hg
    · cases hg
  · rename_i i9 u rest
    split at hg
    · rename_i hc
      obtain ⟨rfl, hu, hin⟩ := hc
      cases hg
      rcases hi with ⟨rfl, -⟩ | ⟨-, q⟩
      · by_cases h0 : u.toNat = 0
        · have ee : am_sx X u.toNat = X := by unfold am_sx; rw [if_pos h0]
          have hgo := go H locs ls hH hl
          rw [ee] at hin hgo
          have hsld := va_sld (Q := Q) (rest := am_vs K rest) hex hb hF.1.1 (Nat.lt_of_lt_of_le hF.1.2.1 hbs) (Nat.not_le.mpr hF.1.2.1) hH.2.2 (am_in_vp hin) hd hgo
          show W p l e R s m args below meth c H locs k j Q (F0 m pc ls (.int i9 :: .ref (K.2.1 u.toNat) :: am_vs K rest))
          rw [h0]
          exact hsld
        · have ee : am_sx X u.toNat = ((am_sl (u.toNat - 1)).length, fun j => (am_sl (u.toNat - 1)).getD j 0) := by unfold am_sx; rw [if_neg h0]
          have hgo := go H locs ls hH hl
          rw [ee] at hin hgo
          exact va_ti hex hb (hF.2.1 u.toNat (Nat.pos_of_ne_zero h0) hu).2 hH.2.2 (am_in_vp hin) rfl hd hgo
      · cases q
    · cases hg
  · cases hg
theorem am_s_iaload (hA : am_At K X mi p R s m args meth c) (hd : decode (am_code mi) pc = .ok (.iaload, 1)) (hx : am_ex X call mi .iaload 1 pc L st n h k j = some (.inl z)) (go : am_Go K mi p l e R s m args below meth c Q z) : am_Go K mi p l e R s m args below meth c Q (pc, L, st, n, h, k, j) := by
  dsimp only [am_ex] at hx
  split at hx
  · rename_i st1 hg
    obtain rfl := am_go_inj hx
    exact am_s_aload (Or.inl ⟨rfl, rfl⟩) hA hd hg go
  · cases hx
theorem am_s_baload (hA : am_At K X mi p R s m args meth c) (hd : decode (am_code mi) pc = .ok (.baload, 1)) (hx : am_ex X call mi .baload 1 pc L st n h k j = some (.inl z)) (go : am_Go K mi p l e R s m args below meth c Q z) : am_Go K mi p l e R s m args below meth c Q (pc, L, st, n, h, k, j) := by
  dsimp only [am_ex] at hx
  split at hx
  · rename_i st1 hg
    obtain rfl := am_go_inj hx
    exact am_s_aload (Or.inr ⟨rfl, rfl⟩) hA hd hg go
  · cases hx
theorem am_s_laload (hA : am_At K X mi p R s m args meth c) (hd : decode (am_code mi) pc = .ok (.laload, 1)) (hx : am_ex X call mi .laload 1 pc L st n h k j = some (.inl z)) (go : am_Go K mi p l e R s m args below meth c Q z) : am_Go K mi p l e R s m args below meth c Q (pc, L, st, n, h, k, j) := by
  obtain ⟨hex, hb, hml, hown, hts, hnm, hK, hF, hbs, hfr, hlo⟩ := hA
  dsimp only [am_ex] at hx
  split at hx
  · rename_i st1 hg
    obtain rfl := am_go_inj hx
    intro H locs ls hH hl
    unfold am_lald at hg
    split at hg
    · rename_i i9 a rest
      split at hg
      · rename_i len f he
        split at hg
        · rename_i hc
          cases hg
          have hw : (am_W K n h)[a]? = some (K.1 + a, .inl (K.2.2.2.2 1, len, .inr (.inl f))) := by rw [am_W_get K h hc.1, he]; rfl
          exact va_lald hex hb hK hH.2.1 a 1 hw rfl (am_in_vp hc.2) hd (go H locs ls hH hl)
        · cases hg
      · cases hg
    · cases hg
  · cases hx
theorem am_rf (K : am_K) (o : Option Nat) : va_rf (o.map (fun k => K.1 + k)) = am_v K (va_rf o) := by cases o <;> rfl
theorem am_s_aaload (hA : am_At K X mi p R s m args meth c) (hd : decode (am_code mi) pc = .ok (.aaload, 1)) (hx : am_ex X call mi .aaload 1 pc L st n h k j = some (.inl z)) (go : am_Go K mi p l e R s m args below meth c Q z) : am_Go K mi p l e R s m args below meth c Q (pc, L, st, n, h, k, j) := by
  obtain ⟨hex, hb, hml, hown, hts, hnm, hK, hF, hbs, hfr, hlo⟩ := hA
  dsimp only [am_ex] at hx
  split at hx
  · rename_i st1 hg
    obtain rfl := am_go_inj hx
    intro H locs ls hH hl
    unfold am_aald at hg
    split at hg
    · rename_i i9 a rest
      split at hg
      · rename_i t len f he
        split at hg
        · rename_i hc
          obtain ⟨ha, ht, hin⟩ := hc
          cases hg
          have hin' := am_in_vp hin
          have hlt : i9.toNatClampNeg < len := Nat.not_le.mp fun q => hin' (Or.inr q)
          have hw : (am_W K n h)[a]? = some (K.1 + a, .inl (K.2.2.2.2 t, len, .inr (.inr (.inr (.inr (fun i => (f i).map (fun k => K.1 + k))))))) := by rw [am_W_get K h ha, he]; rfl
          have hgo := go H locs ls hH hl
          have hgo : W p l e R s m args below meth c H locs k j Q (F0 m (pc + 1) ls (va_rf ((f i9.toNatClampNeg).map (fun k => K.1 + k)) :: am_vs K rest)) := by
            rw [am_rf]
            exact hgo
          rcases ht with rfl | rfl
          · exact W.aald (v := va_rf ((f i9.toNatClampNeg).map (fun k => K.1 + k))) (ty := .array .int) hex hb (hH.2.1 a _ hw) ((hK.2 3 _ rfl).1 len (fun j => va_rf ((f j).map (fun k => K.1 + k)))) rfl (fun q => by cases q) (by show ¬ (i9 < 0 ∨ (arrV _ _ _).slots.size ≤ _); rw [arrV_size]; exact hin') (by show (arrV _ _ _).slots[_]? = _; rw [arrV_read _ _ hlt]) rfl rfl hd hgo
          · exact W.aald (v := va_rf ((f i9.toNatClampNeg).map (fun k => K.1 + k))) (ty := .array .long) hex hb (hH.2.1 a _ hw) ((hK.2 4 _ rfl).1 len (fun j => va_rf ((f j).map (fun k => K.1 + k)))) rfl (fun q => by cases q) (by show ¬ (i9 < 0 ∨ (arrV _ _ _).slots.size ≤ _); rw [arrV_size]; exact hin') (by show (arrV _ _ _).slots[_]? = _; rw [arrV_read _ _ hlt]) rfl rfl hd hgo
        · cases hg
      · cases hg
    · cases hg
  · cases hx
theorem am_s_arraylength (hA : am_At K X mi p R s m args meth c) (hd : decode (am_code mi) pc = .ok (.arraylength, 1)) (hx : am_ex X call mi .arraylength 1 pc L st n h k j = some (.inl z)) (go : am_Go K mi p l e R s m args below meth c Q z) : am_Go K mi p l e R s m args below meth c Q (pc, L, st, n, h, k, j) := by
  obtain ⟨hex, hb, hml, hown, hts, hnm, hK, hF, hbs, hfr, hlo⟩ := hA
  dsimp only [am_ex] at hx
  split at hx
  · rename_i st1 hg
    obtain rfl := am_go_inj hx
    intro H locs ls hH hl
    unfold am_alen at hg
    split at hg
    · rename_i a rest
      split at hg
      · rename_i t len f he
        split at hg
        · rename_i hc
          obtain ⟨ha, ht⟩ := hc
          cases hg
          have hw : (am_W K n h)[a]? = some (K.1 + a, .inl (K.2.2.2.2 t, am_a K (len, f))) := by rw [am_W_get K h ha, he]; rfl
          have e1 : (am_a K (len, f)).1 = len := by
            unfold am_a
            split
            · rename_i h9; cases h9; rfl
            · rfl
          have hty : ∃ ty, (am_tys K)[t]? = some (K.2.2.2.2 t, ty) := by
            rcases (show t = 0 ∨ t = 1 ∨ t = 2 ∨ t = 3 ∨ t = 4 by omega) with rfl | rfl | rfl | rfl | rfl <;> exact ⟨_, rfl⟩
          obtain ⟨ty, hty⟩ := hty
          exact va_alen hex hb hK hH.2.1 a t hw hty (by rw [e1]) hd (go H locs ls hH hl)
        · cases hg
      · cases hg
    · rename_i u rest
      split at hg
      · rename_i hu
        cases hg
        by_cases h0 : u.toNat = 0
        · have ee : am_sx X u.toNat = X := by unfold am_sx; rw [if_pos h0]
          have hgo := go H locs ls hH hl
          rw [ee] at hgo
          have hsl := va_slen (Q := Q) (rest := am_vs K rest) hex hb hF.1.1 (Nat.lt_of_lt_of_le hF.1.2.1 hbs) (Nat.not_le.mpr hF.1.2.1) hH.2.2 hd hgo
          show W p l e R s m args below meth c H locs k j Q (F0 m pc ls (.ref (K.2.1 u.toNat) :: am_vs K rest))
          rw [h0]
          exact hsl
        · have ee : am_sx X u.toNat = ((am_sl (u.toNat - 1)).length, fun j => (am_sl (u.toNat - 1)).getD j 0) := by unfold am_sx; rw [if_neg h0]
          have hgo := go H locs ls hH hl
          rw [ee] at hgo
          exact va_tlen hex hb (hF.2.1 u.toNat (Nat.pos_of_ne_zero h0) hu).2 hH.2.2 rfl hd hgo
      · cases hg
    · cases hg
  · cases hx
end AMT
