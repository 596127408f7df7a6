/-! constructors: their walks -/
theorem av_fill (X : am_X) {n a len : Nat} {h : am_H} {f : Nat → Int32} {v : Int32} (ha : a < n) (hh : h a = .inl (0, len, .inl f)) (hl : len < 2 ^ 31) : AV X 180 [.ref a, .int v] n h (fun r => r = (none, n, am_up h a (.inl (0, len, .inl (fun i => if i < len then v else f i))), 0, 0)) := by
  refine AV.of (Nat.le_of_ble_eq_true rfl) ?_
  refine an_iconst 0 d180_0 rfl ?_
  refine as_istore_n d180_1 (by decide) ?_
  refine as_aload_n d180_2 rfl ?_
  refine as_alen d180_3 ha hh (by decide) ?_
  refine as_istore_n d180_4 (by decide) ?_
  refine AW.loc [(0, .ref a), (1, .int v), (2, .int (nI 0)), (3, .int (nI len))] (am_pick [2, 3, 1, 0] rfl rfl) ?_
  have h00 : am_up h a (.inl (0, len, .inl (fun i => if i < 0 then v else f i))) = h := by
    funext y
    show (if y = a then _ else h y) = h y
    by_cases e : y = a
    · rw [if_pos e, e, hh]
      congr 1
    · rw [if_neg e]
  refine aw_for (fun t => ((5, [(0, .ref a), (1, .int v), (2, .int (nI t)), (3, .int (nI len))], [], n, am_up h a (.inl (0, len, .inl (fun i => if i < t then v else f i))), 0, 0) : am_Z)) len (by rw [h00]) (fun t ht ih => ?_) ?_
  · refine as_iload_n d180_5 rfl ?_
    refine as_iload_n d180_6 rfl ?_
    refine an_icmp_ge 20 d180_7 (by decide) (by omega) (by omega) (fun c7 => by omega) (fun c7 => ?_)
    refine as_aload_n d180_10 rfl ?_
    refine as_iload_n d180_11 rfl ?_
    refine as_iload_n d180_12 rfl ?_
    refine as_iast (f := fun i => if i < t then v else f i) (len := len) (h1 := am_up h a (.inl (0, len, .inl (fun i => if i < t + 1 then v else f i)))) d180_13 ha (if_pos rfl) (am_in_nI ht hl) ?_ ?_
    · funext y
      show (if y = a then _ else (if y = a then _ else h y)) = (if y = a then _ else h y)
      by_cases e : y = a
      · rw [if_pos e, if_pos e]
        congr 4
        funext i
        rw [show (nI t).toNatClampNeg = t from nI_clamp (by omega)]
        show (if i = t then v else if i < t then v else f i) = if i < t + 1 then v else f i
        by_cases e2 : i = t
        · rw [if_pos e2, if_pos (by omega)]
        · rw [if_neg e2]
          by_cases e3 : i < t
          · rw [if_pos e3, if_pos (by omega)]
          · rw [if_neg e3, if_neg (by omega)]
      · rw [if_neg e, if_neg e, if_neg e]
    refine an_iinc 1 d180_14 rfl rfl (by decide) ?_
    refine as_goto 5 d180_17 (by decide) ?_
    refine AW.loc [(0, .ref a), (1, .int v), (2, .int (nI (t + 1))), (3, .int (nI len))] (am_pick [1, 2, 0, 3] rfl rfl) ?_
    exact ih
  · refine as_iload_n d180_5 rfl ?_
    refine as_iload_n d180_6 rfl ?_
    refine an_icmp_ge 20 d180_7 (by decide) (by omega) (by omega) (fun c7 => ?_) (fun c7 => by omega)
    exact as_return d180_20 rfl rfl
theorem av_ct0 (X : am_X) : AV X 0 [.ref 4, .int (nI 12)] 5 hk7 (fun r => r = (none, 10, hk17, 5, 60)) := by
  refine AV.of (by decide) ?_
  refine as_aload_n d0_0 rfl ?_
  refine ai_sup (mj := 0) d0_1 (by decide) (by decide) (by decide) ?_
  refine as_aload_n d0_4 rfl ?_
  refine as_iload_n d0_5 rfl ?_
  refine ai_arr (t := 0) (h1 := hk8) (n1 := 6) (k1 := 1) (j1 := 12) d0_6 rfl (by decide) (by decide) (by decide) rfl rfl rfl rfl ?_
  refine ai_put (ci := 0) (f := 0) (fs := [.null, .null, .null, .null, .null, .int 0, .int 0]) (fs1 := [.ref (5), .null, .null, .null, .null, .int 0, .int 0]) (h1 := hk9) d0_8 (by decide) (by decide) rfl (by decide) (by decide +kernel) (by decide +kernel) rfl rfl ?_
  refine as_aload_n d0_11 rfl ?_
  refine as_iload_n d0_12 rfl ?_
  refine ai_arr (t := 0) (h1 := hk10) (n1 := 7) (k1 := 2) (j1 := 24) d0_13 rfl (by decide) (by decide) (by decide) rfl rfl rfl rfl ?_
  refine ai_put (ci := 0) (f := 1) (fs := [.ref (5), .null, .null, .null, .null, .int 0, .int 0]) (fs1 := [.ref (5), .ref (6), .null, .null, .null, .int 0, .int 0]) (h1 := hk11) d0_15 (by decide) (by decide) rfl (by decide) (by decide +kernel) (by decide +kernel) rfl rfl ?_
  refine as_aload_n d0_18 rfl ?_
  refine as_iload_n d0_19 rfl ?_
  refine ai_arr (t := 2) (h1 := hk12) (n1 := 8) (k1 := 3) (j1 := 36) d0_20 rfl (by decide) (by decide) (by decide) rfl rfl rfl rfl ?_
  refine ai_put (ci := 0) (f := 2) (fs := [.ref (5), .ref (6), .null, .null, .null, .int 0, .int 0]) (fs1 := [.ref (5), .ref (6), .ref (7), .null, .null, .int 0, .int 0]) (h1 := hk13) d0_22 (by decide) (by decide) rfl (by decide) (by decide +kernel) (by decide +kernel) rfl rfl ?_
  refine as_aload_n d0_25 rfl ?_
  refine as_iload_n d0_26 rfl ?_
  refine ai_arr (t := 0) (h1 := hk14) (n1 := 9) (k1 := 4) (j1 := 48) d0_27 rfl (by decide) (by decide) (by decide) rfl rfl rfl rfl ?_
  refine ai_put (ci := 0) (f := 3) (fs := [.ref (5), .ref (6), .ref (7), .null, .null, .int 0, .int 0]) (fs1 := [.ref (5), .ref (6), .ref (7), .ref (8), .null, .int 0, .int 0]) (h1 := hk15) d0_29 (by decide) (by decide) rfl (by decide) (by decide +kernel) (by decide +kernel) rfl rfl ?_
  refine as_aload_n d0_32 rfl ?_
  refine as_iload_n d0_33 rfl ?_
  refine ai_arr (t := 0) (h1 := hk16) (n1 := 10) (k1 := 5) (j1 := 60) d0_34 rfl (by decide) (by decide) (by decide) rfl rfl rfl rfl ?_
  refine ai_put (ci := 0) (f := 4) (fs := [.ref (5), .ref (6), .ref (7), .ref (8), .null, .int 0, .int 0]) (fs1 := [.ref (5), .ref (6), .ref (7), .ref (8), .ref (9), .int 0, .int 0]) (h1 := hk17) d0_36 (by decide) (by decide) rfl (by decide) (by decide +kernel) (by decide +kernel) rfl rfl ?_
  exact as_return d0_39 rfl rfl
theorem av_ct1 (X : am_X) : AV X 0 [.ref 10, .int (nI 18)] 11 hk19 (fun r => r = (none, 16, hk29, 5, 90)) := by
  refine AV.of (by decide) ?_
  refine as_aload_n d0_0 rfl ?_
  refine ai_sup (mj := 0) d0_1 (by decide) (by decide) (by decide) ?_
  refine as_aload_n d0_4 rfl ?_
  refine as_iload_n d0_5 rfl ?_
  refine ai_arr (t := 0) (h1 := hk20) (n1 := 12) (k1 := 1) (j1 := 18) d0_6 rfl (by decide) (by decide) (by decide) rfl rfl rfl rfl ?_
  refine ai_put (ci := 0) (f := 0) (fs := [.null, .null, .null, .null, .null, .int 0, .int 0]) (fs1 := [.ref (11), .null, .null, .null, .null, .int 0, .int 0]) (h1 := hk21) d0_8 (by decide) (by decide) rfl (by decide) (by decide +kernel) (by decide +kernel) rfl rfl ?_
  refine as_aload_n d0_11 rfl ?_
  refine as_iload_n d0_12 rfl ?_
  refine ai_arr (t := 0) (h1 := hk22) (n1 := 13) (k1 := 2) (j1 := 36) d0_13 rfl (by decide) (by decide) (by decide) rfl rfl rfl rfl ?_
  refine ai_put (ci := 0) (f := 1) (fs := [.ref (11), .null, .null, .null, .null, .int 0, .int 0]) (fs1 := [.ref (11), .ref (12), .null, .null, .null, .int 0, .int 0]) (h1 := hk23) d0_15 (by decide) (by decide) rfl (by decide) (by decide +kernel) (by decide +kernel) rfl rfl ?_
  refine as_aload_n d0_18 rfl ?_
  refine as_iload_n d0_19 rfl ?_
  refine ai_arr (t := 2) (h1 := hk24) (n1 := 14) (k1 := 3) (j1 := 54) d0_20 rfl (by decide) (by decide) (by decide) rfl rfl rfl rfl ?_
  refine ai_put (ci := 0) (f := 2) (fs := [.ref (11), .ref (12), .null, .null, .null, .int 0, .int 0]) (fs1 := [.ref (11), .ref (12), .ref (13), .null, .null, .int 0, .int 0]) (h1 := hk25) d0_22 (by decide) (by decide) rfl (by decide) (by decide +kernel) (by decide +kernel) rfl rfl ?_
  refine as_aload_n d0_25 rfl ?_
  refine as_iload_n d0_26 rfl ?_
  refine ai_arr (t := 0) (h1 := hk26) (n1 := 15) (k1 := 4) (j1 := 72) d0_27 rfl (by decide) (by decide) (by decide) rfl rfl rfl rfl ?_
  refine ai_put (ci := 0) (f := 3) (fs := [.ref (11), .ref (12), .ref (13), .null, .null, .int 0, .int 0]) (fs1 := [.ref (11), .ref (12), .ref (13), .ref (14), .null, .int 0, .int 0]) (h1 := hk27) d0_29 (by decide) (by decide) rfl (by decide) (by decide +kernel) (by decide +kernel) rfl rfl ?_
  refine as_aload_n d0_32 rfl ?_
  refine as_iload_n d0_33 rfl ?_
  refine ai_arr (t := 0) (h1 := hk28) (n1 := 16) (k1 := 5) (j1 := 90) d0_34 rfl (by decide) (by decide) (by decide) rfl rfl rfl rfl ?_
  refine ai_put (ci := 0) (f := 4) (fs := [.ref (11), .ref (12), .ref (13), .ref (14), .null, .int 0, .int 0]) (fs1 := [.ref (11), .ref (12), .ref (13), .ref (14), .ref (15), .int 0, .int 0]) (h1 := hk29) d0_36 (by decide) (by decide) rfl (by decide) (by decide +kernel) (by decide +kernel) rfl rfl ?_
  exact as_return d0_39 rfl rfl
theorem av_ct2 (X : am_X) : AV X 0 [.ref 16, .int (nI 3)] 17 hk31 (fun r => r = (none, 22, hk41, 5, 15)) := by
  refine AV.of (by decide) ?_
  refine as_aload_n d0_0 rfl ?_
  refine ai_sup (mj := 0) d0_1 (by decide) (by decide) (by decide) ?_
  refine as_aload_n d0_4 rfl ?_
  refine as_iload_n d0_5 rfl ?_
  refine ai_arr (t := 0) (h1 := hk32) (n1 := 18) (k1 := 1) (j1 := 3) d0_6 rfl (by decide) (by decide) (by decide) rfl rfl rfl rfl ?_
  refine ai_put (ci := 0) (f := 0) (fs := [.null, .null, .null, .null, .null, .int 0, .int 0]) (fs1 := [.ref (17), .null, .null, .null, .null, .int 0, .int 0]) (h1 := hk33) d0_8 (by decide) (by decide) rfl (by decide) (by decide +kernel) (by decide +kernel) rfl rfl ?_
  refine as_aload_n d0_11 rfl ?_
  refine as_iload_n d0_12 rfl ?_
  refine ai_arr (t := 0) (h1 := hk34) (n1 := 19) (k1 := 2) (j1 := 6) d0_13 rfl (by decide) (by decide) (by decide) rfl rfl rfl rfl ?_
  refine ai_put (ci := 0) (f := 1) (fs := [.ref (17), .null, .null, .null, .null, .int 0, .int 0]) (fs1 := [.ref (17), .ref (18), .null, .null, .null, .int 0, .int 0]) (h1 := hk35) d0_15 (by decide) (by decide) rfl (by decide) (by decide +kernel) (by decide +kernel) rfl rfl ?_
  refine as_aload_n d0_18 rfl ?_
  refine as_iload_n d0_19 rfl ?_
  refine ai_arr (t := 2) (h1 := hk36) (n1 := 20) (k1 := 3) (j1 := 9) d0_20 rfl (by decide) (by decide) (by decide) rfl rfl rfl rfl ?_
  refine ai_put (ci := 0) (f := 2) (fs := [.ref (17), .ref (18), .null, .null, .null, .int 0, .int 0]) (fs1 := [.ref (17), .ref (18), .ref (19), .null, .null, .int 0, .int 0]) (h1 := hk37) d0_22 (by decide) (by decide) rfl (by decide) (by decide +kernel) (by decide +kernel) rfl rfl ?_
  refine as_aload_n d0_25 rfl ?_
  refine as_iload_n d0_26 rfl ?_
  refine ai_arr (t := 0) (h1 := hk38) (n1 := 21) (k1 := 4) (j1 := 12) d0_27 rfl (by decide) (by decide) (by decide) rfl rfl rfl rfl ?_
  refine ai_put (ci := 0) (f := 3) (fs := [.ref (17), .ref (18), .ref (19), .null, .null, .int 0, .int 0]) (fs1 := [.ref (17), .ref (18), .ref (19), .ref (20), .null, .int 0, .int 0]) (h1 := hk39) d0_29 (by decide) (by decide) rfl (by decide) (by decide +kernel) (by decide +kernel) rfl rfl ?_
  refine as_aload_n d0_32 rfl ?_
  refine as_iload_n d0_33 rfl ?_
  refine ai_arr (t := 0) (h1 := hk40) (n1 := 22) (k1 := 5) (j1 := 15) d0_34 rfl (by decide) (by decide) (by decide) rfl rfl rfl rfl ?_
  refine ai_put (ci := 0) (f := 4) (fs := [.ref (17), .ref (18), .ref (19), .ref (20), .null, .int 0, .int 0]) (fs1 := [.ref (17), .ref (18), .ref (19), .ref (20), .ref (21), .int 0, .int 0]) (h1 := hk41) d0_36 (by decide) (by decide) rfl (by decide) (by decide +kernel) (by decide +kernel) rfl rfl ?_
  exact as_return d0_39 rfl rfl
theorem av_ct3 (X : am_X) : AV X 57 [.ref 1] 2 hk2 (fun r => r = (none, 22, hk43, 20, 246)) := by
  refine AV.of (by decide) ?_
  refine as_aload_n d57_0 rfl ?_
  refine ai_sup (mj := 0) d57_1 (by decide) (by decide) (by decide) ?_
  refine as_aload_n d57_4 rfl ?_
  refine an_bipush 12 d57_5 rfl ?_
  refine ai_arr (t := 0) (h1 := hk3) (n1 := 3) (k1 := 1) (j1 := 12) d57_7 rfl (by decide) (by decide) (by decide) rfl rfl rfl rfl ?_
  refine ai_put (ci := 5) (f := 2) (fs := [.int 0, .int 0, .null, .null, .null, .null, .null]) (fs1 := [.int 0, .int 0, .ref (2), .null, .null, .null, .null]) (h1 := hk4) d57_9 (by decide) (by decide) rfl (by decide) (by decide +kernel) (by decide +kernel) rfl rfl ?_
  refine as_aload_n d57_12 rfl ?_
  refine an_bipush 48 d57_13 rfl ?_
  refine ai_arr (t := 0) (h1 := hk5) (n1 := 4) (k1 := 2) (j1 := 60) d57_15 rfl (by decide) (by decide) (by decide) rfl rfl rfl rfl ?_
  refine ai_put (ci := 5) (f := 3) (fs := [.int 0, .int 0, .ref (2), .null, .null, .null, .null]) (fs1 := [.int 0, .int 0, .ref (2), .ref (3), .null, .null, .null]) (h1 := hk6) d57_17 (by decide) (by decide) rfl (by decide) (by decide +kernel) (by decide +kernel) rfl rfl ?_
  refine as_aload_n d57_20 rfl ?_
  refine ai_new (ci := 0) (h1 := hk7) (n1 := 5) (k1 := 3) (j1 := 67) d57_21 (by decide) (by decide) (by rw [am_def0]; rfl) rfl rfl rfl ?_
  refine as_dup d57_24 rfl ?_
  refine an_bipush 12 d57_25 rfl ?_
  refine ai_in1 (n1 := 10) (h1 := hk17) (k1 := 5) (j1 := 60) (k2 := 8) (j2 := 127) d57_27 ⟨by decide, rfl, by decide, by decide⟩ rfl (by decide) (av_ct0 X) rfl rfl ?_
  refine ai_put (ci := 5) (f := 4) (fs := [.int 0, .int 0, .ref (2), .ref (3), .null, .null, .null]) (fs1 := [.int 0, .int 0, .ref (2), .ref (3), .ref (4), .null, .null]) (h1 := hk18) d57_30 (by decide) (by decide) rfl (by decide) (by decide +kernel) (by decide +kernel) rfl rfl ?_
  refine as_aload_n d57_33 rfl ?_
  refine ai_new (ci := 0) (h1 := hk19) (n1 := 11) (k1 := 9) (j1 := 134) d57_34 (by decide) (by decide) (by rw [am_def0]; rfl) rfl rfl rfl ?_
  refine as_dup d57_37 rfl ?_
  refine an_bipush 18 d57_38 rfl ?_
  refine ai_in1 (n1 := 16) (h1 := hk29) (k1 := 5) (j1 := 90) (k2 := 14) (j2 := 224) d57_40 ⟨by decide, rfl, by decide, by decide⟩ rfl (by decide) (av_ct1 X) rfl rfl ?_
  refine ai_put (ci := 5) (f := 5) (fs := [.int 0, .int 0, .ref (2), .ref (3), .ref (4), .null, .null]) (fs1 := [.int 0, .int 0, .ref (2), .ref (3), .ref (4), .ref (10), .null]) (h1 := hk30) d57_43 (by decide) (by decide) rfl (by decide) (by decide +kernel) (by decide +kernel) rfl rfl ?_
  refine as_aload_n d57_46 rfl ?_
  refine ai_new (ci := 0) (h1 := hk31) (n1 := 17) (k1 := 15) (j1 := 231) d57_47 (by decide) (by decide) (by rw [am_def0]; rfl) rfl rfl rfl ?_
  refine as_dup d57_50 rfl ?_
  refine an_iconst 3 d57_51 rfl ?_
  refine ai_in1 (n1 := 22) (h1 := hk41) (k1 := 5) (j1 := 15) (k2 := 20) (j2 := 246) d57_52 ⟨by decide, rfl, by decide, by decide⟩ rfl (by decide) (av_ct2 X) rfl rfl ?_
  refine ai_put (ci := 5) (f := 6) (fs := [.int 0, .int 0, .ref (2), .ref (3), .ref (4), .ref (10), .null]) (fs1 := [.int 0, .int 0, .ref (2), .ref (3), .ref (4), .ref (10), .ref (16)]) (h1 := hk42) d57_55 (by decide) (by decide) rfl (by decide) (by decide +kernel) (by decide +kernel) rfl rfl ?_
  refine as_aload_n d57_58 rfl ?_
  refine as_get (ci := 5) (f := 2) (fs := [.int 0, .int 0, .ref (2), .ref (3), .ref (4), .ref (10), .ref (16)]) d57_59 (by decide) (by decide) rfl rfl ?_
  refine an_iconstI (-1) d57_62 rfl ?_
  refine ai_st2 (n1 := 22) (h1 := hk43) (k1 := 0) (j1 := 0) (k2 := 20) (j2 := 246) d57_63 ⟨by decide +kernel, rfl, by decide, by decide⟩ (Or.inl rfl) (by decide) (av_fill X (f := fun _ => 0) (len := 12) (by decide) rfl (by decide)) rfl rfl ?_
  exact as_return d57_66 rfl rfl
theorem av_ct4 (X : am_X) : AV X 20 [.ref 22] 23 hk45 (fun r => r = (none, 43, hk49, 20, 138)) := by
  refine AV.of (by decide) ?_
  refine as_aload_n d20_0 rfl ?_
  refine ai_sup (mj := 0) d20_1 (by decide) (by decide) (by decide) ?_
  refine as_aload_n d20_4 rfl ?_
  refine an_bipush 18 d20_5 rfl ?_
  refine an_bipush 6 d20_7 rfl ?_
  refine ai_grid (t := 4) (h1 := hk46) (n1 := 42) (k1 := 19) (j1 := 126) d20_9 (by decide) (by decide) (by decide) (by decide) (by decide) (by decide) (by decide) (by decide) rfl rfl rfl rfl ?_
  refine ai_put (ci := 2) (f := 0) (fs := [.null, .null, .int 0, .int 0, .int 0]) (fs1 := [.ref (23), .null, .int 0, .int 0, .int 0]) (h1 := hk47) d20_13 (by decide) (by decide) rfl (by decide) (by decide +kernel) (by decide +kernel) rfl rfl ?_
  refine as_aload_n d20_16 rfl ?_
  refine an_bipush 12 d20_17 rfl ?_
  refine ai_arr (t := 0) (h1 := hk48) (n1 := 43) (k1 := 20) (j1 := 138) d20_19 rfl (by decide) (by decide) (by decide) rfl rfl rfl rfl ?_
  refine ai_put (ci := 2) (f := 1) (fs := [.ref (23), .null, .int 0, .int 0, .int 0]) (fs1 := [.ref (23), .ref (42), .int 0, .int 0, .int 0]) (h1 := hk49) d20_21 (by decide) (by decide) rfl (by decide) (by decide +kernel) (by decide +kernel) rfl rfl ?_
  exact as_return d20_24 rfl rfl
theorem av_ct5 (X : am_X) : AV X 7 [.ref 43] 44 hk51 (fun r => r = (none, 177, hk61, 133, 3008)) := by
  refine AV.of (by decide) ?_
  refine as_aload_n d7_0 rfl ?_
  refine ai_sup (mj := 0) d7_1 (by decide) (by decide) (by decide) ?_
  refine as_aload_n d7_4 rfl ?_
  refine an_bipush 64 d7_5 rfl ?_
  refine an_bipush 21 d7_7 rfl ?_
  refine ai_grid (t := 3) (h1 := hk52) (n1 := 109) (k1 := 65) (j1 := 1408) d7_9 (by decide) (by decide) (by decide) (by decide) (by decide) (by decide) (by decide) (by decide) rfl rfl rfl rfl ?_
  refine ai_put (ci := 1) (f := 2) (fs := [.int 0, .int 0, .null, .null, .null, .int 0, .null, .null]) (fs1 := [.int 0, .int 0, .ref (44), .null, .null, .int 0, .null, .null]) (h1 := hk53) d7_13 (by decide) (by decide) rfl (by decide) (by decide +kernel) (by decide +kernel) rfl rfl ?_
  refine as_aload_n d7_16 rfl ?_
  refine an_bipush 64 d7_17 rfl ?_
  refine ai_arr (t := 0) (h1 := hk54) (n1 := 110) (k1 := 66) (j1 := 1472) d7_19 rfl (by decide) (by decide) (by decide) rfl rfl rfl rfl ?_
  refine ai_put (ci := 1) (f := 3) (fs := [.int 0, .int 0, .ref (44), .null, .null, .int 0, .null, .null]) (fs1 := [.int 0, .int 0, .ref (44), .ref (109), .null, .int 0, .null, .null]) (h1 := hk55) d7_21 (by decide) (by decide) rfl (by decide) (by decide +kernel) (by decide +kernel) rfl rfl ?_
  refine as_aload_n d7_24 rfl ?_
  refine an_bipush 64 d7_25 rfl ?_
  refine ai_arr (t := 0) (h1 := hk56) (n1 := 111) (k1 := 67) (j1 := 1536) d7_27 rfl (by decide) (by decide) (by decide) rfl rfl rfl rfl ?_
  refine ai_put (ci := 1) (f := 4) (fs := [.int 0, .int 0, .ref (44), .ref (109), .null, .int 0, .null, .null]) (fs1 := [.int 0, .int 0, .ref (44), .ref (109), .ref (110), .int 0, .null, .null]) (h1 := hk57) d7_29 (by decide) (by decide) rfl (by decide) (by decide +kernel) (by decide +kernel) rfl rfl ?_
  refine as_aload_n d7_32 rfl ?_
  refine an_bipush 64 d7_33 rfl ?_
  refine an_bipush 21 d7_35 rfl ?_
  refine ai_grid (t := 3) (h1 := hk58) (n1 := 176) (k1 := 132) (j1 := 2944) d7_37 (by decide) (by decide) (by decide) (by decide) (by decide) (by decide) (by decide) (by decide) rfl rfl rfl rfl ?_
  refine ai_put (ci := 1) (f := 6) (fs := [.int 0, .int 0, .ref (44), .ref (109), .ref (110), .int 0, .null, .null]) (fs1 := [.int 0, .int 0, .ref (44), .ref (109), .ref (110), .int 0, .ref (111), .null]) (h1 := hk59) d7_41 (by decide) (by decide) rfl (by decide) (by decide +kernel) (by decide +kernel) rfl rfl ?_
  refine as_aload_n d7_44 rfl ?_
  refine an_bipush 64 d7_45 rfl ?_
  refine ai_arr (t := 0) (h1 := hk60) (n1 := 177) (k1 := 133) (j1 := 3008) d7_47 rfl (by decide) (by decide) (by decide) rfl rfl rfl rfl ?_
  refine ai_put (ci := 1) (f := 7) (fs := [.int 0, .int 0, .ref (44), .ref (109), .ref (110), .int 0, .ref (111), .null]) (fs1 := [.int 0, .int 0, .ref (44), .ref (109), .ref (110), .int 0, .ref (111), .ref (176)]) (h1 := hk61) d7_49 (by decide) (by decide) rfl (by decide) (by decide +kernel) (by decide +kernel) rfl rfl ?_
  exact as_return d7_52 rfl rfl
theorem av_ct6 (X : am_X) : AV X 44 [.ref 177] 178 hk63 (fun r => r = (none, 179, hk65, 1, 21)) := by
  refine AV.of (by decide) ?_
  refine as_aload_n d44_0 rfl ?_
  refine ai_sup (mj := 0) d44_1 (by decide) (by decide) (by decide) ?_
  refine as_aload_n d44_4 rfl ?_
  refine an_bipush 21 d44_5 rfl ?_
  refine ai_arr (t := 0) (h1 := hk64) (n1 := 179) (k1 := 1) (j1 := 21) d44_7 rfl (by decide) (by decide) (by decide) rfl rfl rfl rfl ?_
  refine ai_put (ci := 4) (f := 0) (fs := [.null]) (fs1 := [.ref (178)]) (h1 := hk65) d44_9 (by decide) (by decide) rfl (by decide) (by decide +kernel) (by decide +kernel) rfl rfl ?_
  exact as_return d44_12 rfl rfl
theorem av_ct7 (X : am_X) : AV X 0 [.ref 180, .int (nI 400)] 181 hk68 (fun r => r = (none, 186, hk78, 5, 2000)) := by
  refine AV.of (by decide) ?_
  refine as_aload_n d0_0 rfl ?_
  refine ai_sup (mj := 0) d0_1 (by decide) (by decide) (by decide) ?_
  refine as_aload_n d0_4 rfl ?_
  refine as_iload_n d0_5 rfl ?_
  refine ai_arr (t := 0) (h1 := hk69) (n1 := 182) (k1 := 1) (j1 := 400) d0_6 rfl (by decide) (by decide) (by decide) rfl rfl rfl rfl ?_
  refine ai_put (ci := 0) (f := 0) (fs := [.null, .null, .null, .null, .null, .int 0, .int 0]) (fs1 := [.ref (181), .null, .null, .null, .null, .int 0, .int 0]) (h1 := hk70) d0_8 (by decide) (by decide) rfl (by decide) (by decide +kernel) (by decide +kernel) rfl rfl ?_
  refine as_aload_n d0_11 rfl ?_
  refine as_iload_n d0_12 rfl ?_
  refine ai_arr (t := 0) (h1 := hk71) (n1 := 183) (k1 := 2) (j1 := 800) d0_13 rfl (by decide) (by decide) (by decide) rfl rfl rfl rfl ?_
  refine ai_put (ci := 0) (f := 1) (fs := [.ref (181), .null, .null, .null, .null, .int 0, .int 0]) (fs1 := [.ref (181), .ref (182), .null, .null, .null, .int 0, .int 0]) (h1 := hk72) d0_15 (by decide) (by decide) rfl (by decide) (by decide +kernel) (by decide +kernel) rfl rfl ?_
  refine as_aload_n d0_18 rfl ?_
  refine as_iload_n d0_19 rfl ?_
  refine ai_arr (t := 2) (h1 := hk73) (n1 := 184) (k1 := 3) (j1 := 1200) d0_20 rfl (by decide) (by decide) (by decide) rfl rfl rfl rfl ?_
  refine ai_put (ci := 0) (f := 2) (fs := [.ref (181), .ref (182), .null, .null, .null, .int 0, .int 0]) (fs1 := [.ref (181), .ref (182), .ref (183), .null, .null, .int 0, .int 0]) (h1 := hk74) d0_22 (by decide) (by decide) rfl (by decide) (by decide +kernel) (by decide +kernel) rfl rfl ?_
  refine as_aload_n d0_25 rfl ?_
  refine as_iload_n d0_26 rfl ?_
  refine ai_arr (t := 0) (h1 := hk75) (n1 := 185) (k1 := 4) (j1 := 1600) d0_27 rfl (by decide) (by decide) (by decide) rfl rfl rfl rfl ?_
  refine ai_put (ci := 0) (f := 3) (fs := [.ref (181), .ref (182), .ref (183), .null, .null, .int 0, .int 0]) (fs1 := [.ref (181), .ref (182), .ref (183), .ref (184), .null, .int 0, .int 0]) (h1 := hk76) d0_29 (by decide) (by decide) rfl (by decide) (by decide +kernel) (by decide +kernel) rfl rfl ?_
  refine as_aload_n d0_32 rfl ?_
  refine as_iload_n d0_33 rfl ?_
  refine ai_arr (t := 0) (h1 := hk77) (n1 := 186) (k1 := 5) (j1 := 2000) d0_34 rfl (by decide) (by decide) (by decide) rfl rfl rfl rfl ?_
  refine ai_put (ci := 0) (f := 4) (fs := [.ref (181), .ref (182), .ref (183), .ref (184), .null, .int 0, .int 0]) (fs1 := [.ref (181), .ref (182), .ref (183), .ref (184), .ref (185), .int 0, .int 0]) (h1 := hk78) d0_36 (by decide) (by decide) rfl (by decide) (by decide +kernel) (by decide +kernel) rfl rfl ?_
  exact as_return d0_39 rfl rfl
theorem av_ct8 (X : am_X) : AV X 34 [.ref 179] 180 hk67 (fun r => r = (none, 189, hk85, 9, 2828)) := by
  refine AV.of (by decide) ?_
  refine as_aload_n d34_0 rfl ?_
  refine ai_sup (mj := 0) d34_1 (by decide) (by decide) (by decide) ?_
  refine as_aload_n d34_4 rfl ?_
  refine ai_new (ci := 0) (h1 := hk68) (n1 := 181) (k1 := 1) (j1 := 7) d34_5 (by decide) (by decide) (by rw [am_def0]; rfl) rfl rfl rfl ?_
  refine as_dup d34_8 rfl ?_
  refine an_sipush 400 d34_9 rfl ?_
  refine ai_in1 (n1 := 186) (h1 := hk78) (k1 := 5) (j1 := 2000) (k2 := 6) (j2 := 2007) d34_12 ⟨by decide, rfl, by decide, by decide⟩ rfl (by decide) (av_ct7 X) rfl rfl ?_
  refine ai_put (ci := 3) (f := 0) (fs := [.null, .null, .null, .null]) (fs1 := [.ref (180), .null, .null, .null]) (h1 := hk79) d34_15 (by decide) (by decide) rfl (by decide) (by decide +kernel) (by decide +kernel) rfl rfl ?_
  refine as_aload_n d34_18 rfl ?_
  refine an_bipush 21 d34_19 rfl ?_
  refine ai_arr (t := 0) (h1 := hk80) (n1 := 187) (k1 := 7) (j1 := 2028) d34_21 rfl (by decide) (by decide) (by decide) rfl rfl rfl rfl ?_
  refine ai_put (ci := 3) (f := 1) (fs := [.ref (180), .null, .null, .null]) (fs1 := [.ref (180), .ref (186), .null, .null]) (h1 := hk81) d34_23 (by decide) (by decide) rfl (by decide) (by decide +kernel) (by decide +kernel) rfl rfl ?_
  refine as_aload_n d34_26 rfl ?_
  refine an_sipush 400 d34_27 rfl ?_
  refine ai_arr (t := 0) (h1 := hk82) (n1 := 188) (k1 := 8) (j1 := 2428) d34_30 rfl (by decide) (by decide) (by decide) rfl rfl rfl rfl ?_
  refine ai_put (ci := 3) (f := 2) (fs := [.ref (180), .ref (186), .null, .null]) (fs1 := [.ref (180), .ref (186), .ref (187), .null]) (h1 := hk83) d34_32 (by decide) (by decide) rfl (by decide) (by decide +kernel) (by decide +kernel) rfl rfl ?_
  refine as_aload_n d34_35 rfl ?_
  refine an_sipush 400 d34_36 rfl ?_
  refine ai_arr (t := 0) (h1 := hk84) (n1 := 189) (k1 := 9) (j1 := 2828) d34_39 rfl (by decide) (by decide) (by decide) rfl rfl rfl rfl ?_
  refine ai_put (ci := 3) (f := 3) (fs := [.ref (180), .ref (186), .ref (187), .null]) (fs1 := [.ref (180), .ref (186), .ref (187), .ref (188)]) (h1 := hk85) d34_41 (by decide) (by decide) rfl (by decide) (by decide +kernel) (by decide +kernel) rfl rfl ?_
  exact as_return d34_44 rfl rfl
theorem av_ct9 (X : am_X) : AV X 78 [.ref 0] 1 hk1 (fun r => r = (none, 189, hk88, 188, 6266)) := by
  refine AV.of (by decide) ?_
  refine as_aload_n d78_0 rfl ?_
  refine ai_sup (mj := 0) d78_1 (by decide) (by decide) (by decide) ?_
  refine as_aload_n d78_4 rfl ?_
  refine ai_new (ci := 5) (h1 := hk2) (n1 := 2) (k1 := 1) (j1 := 7) d78_5 (by decide) (by decide) (by rw [am_def5]; rfl) rfl rfl rfl ?_
  refine as_dup d78_8 rfl ?_
  refine ai_in0 (n1 := 22) (h1 := hk43) (k1 := 20) (j1 := 246) (k2 := 21) (j2 := 253) d78_9 ⟨by decide, rfl, by decide, by decide⟩ rfl (by decide) (av_ct3 X) rfl rfl ?_
  refine ai_put (ci := 6) (f := 0) (fs := [.null, .null, .null, .null, .null, .int 0, .int 0]) (fs1 := [.ref (1), .null, .null, .null, .null, .int 0, .int 0]) (h1 := hk44) d78_12 (by decide) (by decide) rfl (by decide) (by decide +kernel) (by decide +kernel) rfl rfl ?_
  refine as_aload_n d78_15 rfl ?_
  refine ai_new (ci := 2) (h1 := hk45) (n1 := 23) (k1 := 22) (j1 := 258) d78_16 (by decide) (by decide) (by rw [am_def2]; rfl) rfl rfl rfl ?_
  refine as_dup d78_19 rfl ?_
  refine ai_in0 (n1 := 43) (h1 := hk49) (k1 := 20) (j1 := 138) (k2 := 42) (j2 := 396) d78_20 ⟨by decide, rfl, by decide, by decide⟩ rfl (by decide) (av_ct4 X) rfl rfl ?_
  refine ai_put (ci := 6) (f := 1) (fs := [.ref (1), .null, .null, .null, .null, .int 0, .int 0]) (fs1 := [.ref (1), .ref (22), .null, .null, .null, .int 0, .int 0]) (h1 := hk50) d78_23 (by decide) (by decide) rfl (by decide) (by decide +kernel) (by decide +kernel) rfl rfl ?_
  refine as_aload_n d78_26 rfl ?_
  refine ai_new (ci := 1) (h1 := hk51) (n1 := 44) (k1 := 43) (j1 := 404) d78_27 (by decide) (by decide) (by rw [am_def1]; rfl) rfl rfl rfl ?_
  refine as_dup d78_30 rfl ?_
  refine ai_in0 (n1 := 177) (h1 := hk61) (k1 := 133) (j1 := 3008) (k2 := 176) (j2 := 3412) d78_31 ⟨by decide, rfl, by decide, by decide⟩ rfl (by decide) (av_ct5 X) rfl rfl ?_
  refine ai_put (ci := 6) (f := 2) (fs := [.ref (1), .ref (22), .null, .null, .null, .int 0, .int 0]) (fs1 := [.ref (1), .ref (22), .ref (43), .null, .null, .int 0, .int 0]) (h1 := hk62) d78_34 (by decide) (by decide) rfl (by decide) (by decide +kernel) (by decide +kernel) rfl rfl ?_
  refine as_aload_n d78_37 rfl ?_
  refine ai_new (ci := 4) (h1 := hk63) (n1 := 178) (k1 := 177) (j1 := 3413) d78_38 (by decide) (by decide) (by rw [am_def4]; rfl) rfl rfl rfl ?_
  refine as_dup d78_41 rfl ?_
  refine ai_in0 (n1 := 179) (h1 := hk65) (k1 := 1) (j1 := 21) (k2 := 178) (j2 := 3434) d78_42 ⟨by decide, rfl, by decide, by decide⟩ rfl (by decide) (av_ct6 X) rfl rfl ?_
  refine ai_put (ci := 6) (f := 3) (fs := [.ref (1), .ref (22), .ref (43), .null, .null, .int 0, .int 0]) (fs1 := [.ref (1), .ref (22), .ref (43), .ref (177), .null, .int 0, .int 0]) (h1 := hk66) d78_45 (by decide) (by decide) rfl (by decide) (by decide +kernel) (by decide +kernel) rfl rfl ?_
  refine as_aload_n d78_48 rfl ?_
  refine ai_new (ci := 3) (h1 := hk67) (n1 := 180) (k1 := 179) (j1 := 3438) d78_49 (by decide) (by decide) (by rw [am_def3]; rfl) rfl rfl rfl ?_
  refine as_dup d78_52 rfl ?_
  refine ai_in0 (n1 := 189) (h1 := hk85) (k1 := 9) (j1 := 2828) (k2 := 188) (j2 := 6266) d78_53 ⟨by decide, rfl, by decide, by decide⟩ rfl (by decide) (av_ct8 X) rfl rfl ?_
  refine ai_put (ci := 6) (f := 4) (fs := [.ref (1), .ref (22), .ref (43), .ref (177), .null, .int 0, .int 0]) (fs1 := [.ref (1), .ref (22), .ref (43), .ref (177), .ref (179), .int 0, .int 0]) (h1 := hk86) d78_56 (by decide) (by decide) rfl (by decide) (by decide +kernel) (by decide +kernel) rfl rfl ?_
  refine as_aload_n d78_59 rfl ?_
  refine an_iconst 1 d78_60 rfl ?_
  refine ai_put (ci := 6) (f := 5) (fs := [.ref (1), .ref (22), .ref (43), .ref (177), .ref (179), .int 0, .int 0]) (fs1 := [.ref (1), .ref (22), .ref (43), .ref (177), .ref (179), .int (nI 1), .int 0]) (h1 := hk87) d78_61 (by decide) (by decide) rfl (by decide) (by decide +kernel) (by decide +kernel) rfl rfl ?_
  refine as_aload_n d78_64 rfl ?_
  refine an_iconst 1 d78_65 rfl ?_
  refine ai_put (ci := 6) (f := 6) (fs := [.ref (1), .ref (22), .ref (43), .ref (177), .ref (179), .int (nI 1), .int 0]) (fs1 := [.ref (1), .ref (22), .ref (43), .ref (177), .ref (179), .int (nI 1), .int (nI 1)]) (h1 := hk88) d78_66 (by decide) (by decide) rfl (by decide) (by decide +kernel) (by decide +kernel) rfl rfl ?_
  exact as_return d78_69 rfl rfl
theorem av_ct10 (X : am_X) : AV X 108 [.ref 189] 190 hk89 (fun r => r = (none, 208, hk137, 18, 85907)) := by
  refine AV.of (by decide) ?_
  refine as_aload_n d108_0 rfl ?_
  refine ai_sup (mj := 0) d108_1 (by decide) (by decide) (by decide) ?_
  refine as_aload_n d108_4 rfl ?_
  refine an_bipush 12 d108_5 rfl ?_
  refine ai_arr (t := 0) (h1 := hk90) (n1 := 191) (k1 := 1) (j1 := 12) d108_7 rfl (by decide) (by decide) (by decide) rfl rfl rfl rfl ?_
  refine ai_put (ci := 7) (f := 1) (fs := [.int 0, .null, .null, .null, .null, .null, .null, .null, .null, .int 0, .null, .int 0, .int 0, .null, .int 0, .null, .null, .null, .int 0, .int 0, .null, .null, .null, .null, .int 0, .null]) (fs1 := [.int 0, .ref (190), .null, .null, .null, .null, .null, .null, .null, .int 0, .null, .int 0, .int 0, .null, .int 0, .null, .null, .null, .int 0, .int 0, .null, .null, .null, .null, .int 0, .null]) (h1 := hk91) d108_9 (by decide) (by decide) rfl (by decide) (by decide +kernel) (by decide +kernel) rfl rfl ?_
  refine as_aload_n d108_12 rfl ?_
  refine an_bipush 48 d108_13 rfl ?_
  refine ai_arr (t := 0) (h1 := hk92) (n1 := 192) (k1 := 2) (j1 := 60) d108_15 rfl (by decide) (by decide) (by decide) rfl rfl rfl rfl ?_
  refine ai_put (ci := 7) (f := 2) (fs := [.int 0, .ref (190), .null, .null, .null, .null, .null, .null, .null, .int 0, .null, .int 0, .int 0, .null, .int 0, .null, .null, .null, .int 0, .int 0, .null, .null, .null, .null, .int 0, .null]) (fs1 := [.int 0, .ref (190), .ref (191), .null, .null, .null, .null, .null, .null, .int 0, .null, .int 0, .int 0, .null, .int 0, .null, .null, .null, .int 0, .int 0, .null, .null, .null, .null, .int 0, .null]) (h1 := hk93) d108_17 (by decide) (by decide) rfl (by decide) (by decide +kernel) (by decide +kernel) rfl rfl ?_
  refine as_aload_n d108_20 rfl ?_
  refine an_bipush 21 d108_21 rfl ?_
  refine ai_arr (t := 0) (h1 := hk94) (n1 := 193) (k1 := 3) (j1 := 81) d108_23 rfl (by decide) (by decide) (by decide) rfl rfl rfl rfl ?_
  refine ai_put (ci := 7) (f := 3) (fs := [.int 0, .ref (190), .ref (191), .null, .null, .null, .null, .null, .null, .int 0, .null, .int 0, .int 0, .null, .int 0, .null, .null, .null, .int 0, .int 0, .null, .null, .null, .null, .int 0, .null]) (fs1 := [.int 0, .ref (190), .ref (191), .ref (192), .null, .null, .null, .null, .null, .int 0, .null, .int 0, .int 0, .null, .int 0, .null, .null, .null, .int 0, .int 0, .null, .null, .null, .null, .int 0, .null]) (h1 := hk95) d108_25 (by decide) (by decide) rfl (by decide) (by decide +kernel) (by decide +kernel) rfl rfl ?_
  refine as_aload_n d108_28 rfl ?_
  refine an_bipush 6 d108_29 rfl ?_
  refine ai_arr (t := 0) (h1 := hk96) (n1 := 194) (k1 := 4) (j1 := 87) d108_31 rfl (by decide) (by decide) (by decide) rfl rfl rfl rfl ?_
  refine as_dup d108_33 rfl ?_
  refine an_iconst 0 d108_34 rfl ?_
  refine an_iconst 0 d108_35 rfl ?_
  refine as_iast (f := fun _ => 0) (len := 6) (h1 := hk97) d108_36 (by decide) rfl (by decide) rfl ?_
  refine as_dup d108_37 rfl ?_
  refine an_iconst 1 d108_38 rfl ?_
  refine an_iconst 0 d108_39 rfl ?_
  refine as_iast (f := upd (fun _ => 0) (nI 0).toNatClampNeg (nI 0)) (len := 6) (h1 := hk98) d108_40 (by decide) rfl (by decide) rfl ?_
  refine as_dup d108_41 rfl ?_
  refine an_iconst 2 d108_42 rfl ?_
  refine an_iconst 0 d108_43 rfl ?_
  refine as_iast (f := upd (upd (fun _ => 0) (nI 0).toNatClampNeg (nI 0)) (nI 1).toNatClampNeg (nI 0)) (len := 6) (h1 := hk99) d108_44 (by decide) rfl (by decide) rfl ?_
  refine as_dup d108_45 rfl ?_
  refine an_iconst 3 d108_46 rfl ?_
  refine an_iconst 1 d108_47 rfl ?_
  refine as_iast (f := upd (upd (upd (fun _ => 0) (nI 0).toNatClampNeg (nI 0)) (nI 1).toNatClampNeg (nI 0)) (nI 2).toNatClampNeg (nI 0)) (len := 6) (h1 := hk100) d108_48 (by decide) rfl (by decide) rfl ?_
  refine as_dup d108_49 rfl ?_
  refine an_iconst 4 d108_50 rfl ?_
  refine an_iconst 1 d108_51 rfl ?_
  refine as_iast (f := upd (upd (upd (upd (fun _ => 0) (nI 0).toNatClampNeg (nI 0)) (nI 1).toNatClampNeg (nI 0)) (nI 2).toNatClampNeg (nI 0)) (nI 3).toNatClampNeg (nI 1)) (len := 6) (h1 := hk101) d108_52 (by decide) rfl (by decide) rfl ?_
  refine as_dup d108_53 rfl ?_
  refine an_iconst 5 d108_54 rfl ?_
  refine an_iconst 2 d108_55 rfl ?_
  refine as_iast (f := upd (upd (upd (upd (upd (fun _ => 0) (nI 0).toNatClampNeg (nI 0)) (nI 1).toNatClampNeg (nI 0)) (nI 2).toNatClampNeg (nI 0)) (nI 3).toNatClampNeg (nI 1)) (nI 4).toNatClampNeg (nI 1)) (len := 6) (h1 := hk102) d108_56 (by decide) rfl (by decide) rfl ?_
  refine ai_put (ci := 7) (f := 4) (fs := [.int 0, .ref (190), .ref (191), .ref (192), .null, .null, .null, .null, .null, .int 0, .null, .int 0, .int 0, .null, .int 0, .null, .null, .null, .int 0, .int 0, .null, .null, .null, .null, .int 0, .null]) (fs1 := [.int 0, .ref (190), .ref (191), .ref (192), .ref (193), .null, .null, .null, .null, .int 0, .null, .int 0, .int 0, .null, .int 0, .null, .null, .null, .int 0, .int 0, .null, .null, .null, .null, .int 0, .null]) (h1 := hk103) d108_57 (by decide) (by decide) rfl (by decide) (by decide +kernel) (by decide +kernel) rfl rfl ?_
  refine as_aload_n d108_60 rfl ?_
  refine an_bipush 6 d108_61 rfl ?_
  refine ai_arr (t := 0) (h1 := hk104) (n1 := 195) (k1 := 5) (j1 := 93) d108_63 rfl (by decide) (by decide) (by decide) rfl rfl rfl rfl ?_
  refine as_dup d108_65 rfl ?_
  refine an_iconst 0 d108_66 rfl ?_
  refine an_iconst 1 d108_67 rfl ?_
  refine as_iast (f := fun _ => 0) (len := 6) (h1 := hk105) d108_68 (by decide) rfl (by decide) rfl ?_
  refine as_dup d108_69 rfl ?_
  refine an_iconst 1 d108_70 rfl ?_
  refine an_iconst 2 d108_71 rfl ?_
  refine as_iast (f := upd (fun _ => 0) (nI 0).toNatClampNeg (nI 1)) (len := 6) (h1 := hk106) d108_72 (by decide) rfl (by decide) rfl ?_
  refine as_dup d108_73 rfl ?_
  refine an_iconst 2 d108_74 rfl ?_
  refine an_iconst 3 d108_75 rfl ?_
  refine as_iast (f := upd (upd (fun _ => 0) (nI 0).toNatClampNeg (nI 1)) (nI 1).toNatClampNeg (nI 2)) (len := 6) (h1 := hk107) d108_76 (by decide) rfl (by decide) rfl ?_
  refine as_dup d108_77 rfl ?_
  refine an_iconst 3 d108_78 rfl ?_
  refine an_iconst 2 d108_79 rfl ?_
  refine as_iast (f := upd (upd (upd (fun _ => 0) (nI 0).toNatClampNeg (nI 1)) (nI 1).toNatClampNeg (nI 2)) (nI 2).toNatClampNeg (nI 3)) (len := 6) (h1 := hk108) d108_80 (by decide) rfl (by decide) rfl ?_
  refine as_dup d108_81 rfl ?_
  refine an_iconst 4 d108_82 rfl ?_
  refine an_iconst 3 d108_83 rfl ?_
  refine as_iast (f := upd (upd (upd (upd (fun _ => 0) (nI 0).toNatClampNeg (nI 1)) (nI 1).toNatClampNeg (nI 2)) (nI 2).toNatClampNeg (nI 3)) (nI 3).toNatClampNeg (nI 2)) (len := 6) (h1 := hk109) d108_84 (by decide) rfl (by decide) rfl ?_
  refine as_dup d108_85 rfl ?_
  refine an_iconst 5 d108_86 rfl ?_
  refine an_iconst 3 d108_87 rfl ?_
  refine as_iast (f := upd (upd (upd (upd (upd (fun _ => 0) (nI 0).toNatClampNeg (nI 1)) (nI 1).toNatClampNeg (nI 2)) (nI 2).toNatClampNeg (nI 3)) (nI 3).toNatClampNeg (nI 2)) (nI 4).toNatClampNeg (nI 3)) (len := 6) (h1 := hk110) d108_88 (by decide) rfl (by decide) rfl ?_
  refine ai_put (ci := 7) (f := 5) (fs := [.int 0, .ref (190), .ref (191), .ref (192), .ref (193), .null, .null, .null, .null, .int 0, .null, .int 0, .int 0, .null, .int 0, .null, .null, .null, .int 0, .int 0, .null, .null, .null, .null, .int 0, .null]) (fs1 := [.int 0, .ref (190), .ref (191), .ref (192), .ref (193), .ref (194), .null, .null, .null, .int 0, .null, .int 0, .int 0, .null, .int 0, .null, .null, .null, .int 0, .int 0, .null, .null, .null, .null, .int 0, .null]) (h1 := hk111) d108_89 (by decide) (by decide) rfl (by decide) (by decide +kernel) (by decide +kernel) rfl rfl ?_
  refine as_aload_n d108_92 rfl ?_
  refine an_bipush 36 d108_93 rfl ?_
  refine ai_arr (t := 0) (h1 := hk112) (n1 := 196) (k1 := 6) (j1 := 129) d108_95 rfl (by decide) (by decide) (by decide) rfl rfl rfl rfl ?_
  refine ai_put (ci := 7) (f := 6) (fs := [.int 0, .ref (190), .ref (191), .ref (192), .ref (193), .ref (194), .null, .null, .null, .int 0, .null, .int 0, .int 0, .null, .int 0, .null, .null, .null, .int 0, .int 0, .null, .null, .null, .null, .int 0, .null]) (fs1 := [.int 0, .ref (190), .ref (191), .ref (192), .ref (193), .ref (194), .ref (195), .null, .null, .int 0, .null, .int 0, .int 0, .null, .int 0, .null, .null, .null, .int 0, .int 0, .null, .null, .null, .null, .int 0, .null]) (h1 := hk113) d108_97 (by decide) (by decide) rfl (by decide) (by decide +kernel) (by decide +kernel) rfl rfl ?_
  refine as_aload_n d108_100 rfl ?_
  refine an_bipush 12 d108_101 rfl ?_
  refine ai_arr (t := 0) (h1 := hk114) (n1 := 197) (k1 := 7) (j1 := 141) d108_103 rfl (by decide) (by decide) (by decide) rfl rfl rfl rfl ?_
  refine ai_put (ci := 7) (f := 7) (fs := [.int 0, .ref (190), .ref (191), .ref (192), .ref (193), .ref (194), .ref (195), .null, .null, .int 0, .null, .int 0, .int 0, .null, .int 0, .null, .null, .null, .int 0, .int 0, .null, .null, .null, .null, .int 0, .null]) (fs1 := [.int 0, .ref (190), .ref (191), .ref (192), .ref (193), .ref (194), .ref (195), .ref (196), .null, .int 0, .null, .int 0, .int 0, .null, .int 0, .null, .null, .null, .int 0, .int 0, .null, .null, .null, .null, .int 0, .null]) (h1 := hk115) d108_105 (by decide) (by decide) rfl (by decide) (by decide +kernel) (by decide +kernel) rfl rfl ?_
  refine as_aload_n d108_108 rfl ?_
  refine an_iconst 3 d108_109 rfl ?_
  refine ai_arr (t := 0) (h1 := hk116) (n1 := 198) (k1 := 8) (j1 := 144) d108_110 rfl (by decide) (by decide) (by decide) rfl rfl rfl rfl ?_
  refine ai_put (ci := 7) (f := 8) (fs := [.int 0, .ref (190), .ref (191), .ref (192), .ref (193), .ref (194), .ref (195), .ref (196), .null, .int 0, .null, .int 0, .int 0, .null, .int 0, .null, .null, .null, .int 0, .int 0, .null, .null, .null, .null, .int 0, .null]) (fs1 := [.int 0, .ref (190), .ref (191), .ref (192), .ref (193), .ref (194), .ref (195), .ref (196), .ref (197), .int 0, .null, .int 0, .int 0, .null, .int 0, .null, .null, .null, .int 0, .int 0, .null, .null, .null, .null, .int 0, .null]) (h1 := hk117) d108_112 (by decide) (by decide) rfl (by decide) (by decide +kernel) (by decide +kernel) rfl rfl ?_
  refine as_aload_n d108_115 rfl ?_
  refine an_bipush 108 d108_116 rfl ?_
  refine ai_arr (t := 1) (h1 := hk118) (n1 := 199) (k1 := 9) (j1 := 252) d108_118 rfl (by decide) (by decide) (by decide) rfl rfl rfl rfl ?_
  refine ai_put (ci := 7) (f := 10) (fs := [.int 0, .ref (190), .ref (191), .ref (192), .ref (193), .ref (194), .ref (195), .ref (196), .ref (197), .int 0, .null, .int 0, .int 0, .null, .int 0, .null, .null, .null, .int 0, .int 0, .null, .null, .null, .null, .int 0, .null]) (fs1 := [.int 0, .ref (190), .ref (191), .ref (192), .ref (193), .ref (194), .ref (195), .ref (196), .ref (197), .int 0, .ref (198), .int 0, .int 0, .null, .int 0, .null, .null, .null, .int 0, .int 0, .null, .null, .null, .null, .int 0, .null]) (h1 := hk119) d108_120 (by decide) (by decide) rfl (by decide) (by decide +kernel) (by decide +kernel) rfl rfl ?_
  refine as_aload_n d108_123 rfl ?_
  refine an_bipush 12 d108_124 rfl ?_
  refine ai_arr (t := 0) (h1 := hk120) (n1 := 200) (k1 := 10) (j1 := 264) d108_126 rfl (by decide) (by decide) (by decide) rfl rfl rfl rfl ?_
  refine ai_put (ci := 7) (f := 13) (fs := [.int 0, .ref (190), .ref (191), .ref (192), .ref (193), .ref (194), .ref (195), .ref (196), .ref (197), .int 0, .ref (198), .int 0, .int 0, .null, .int 0, .null, .null, .null, .int 0, .int 0, .null, .null, .null, .null, .int 0, .null]) (fs1 := [.int 0, .ref (190), .ref (191), .ref (192), .ref (193), .ref (194), .ref (195), .ref (196), .ref (197), .int 0, .ref (198), .int 0, .int 0, .ref (199), .int 0, .null, .null, .null, .int 0, .int 0, .null, .null, .null, .null, .int 0, .null]) (h1 := hk121) d108_128 (by decide) (by decide) rfl (by decide) (by decide +kernel) (by decide +kernel) rfl rfl ?_
  refine as_aload_n d108_131 rfl ?_
  refine as_ldc (v := nI 42000) d108_132 (by decide +kernel) ?_
  refine ai_arr (t := 0) (h1 := hk122) (n1 := 201) (k1 := 11) (j1 := 42264) d108_134 rfl (by decide) (by decide) (by decide) rfl rfl rfl rfl ?_
  refine ai_put (ci := 7) (f := 15) (fs := [.int 0, .ref (190), .ref (191), .ref (192), .ref (193), .ref (194), .ref (195), .ref (196), .ref (197), .int 0, .ref (198), .int 0, .int 0, .ref (199), .int 0, .null, .null, .null, .int 0, .int 0, .null, .null, .null, .null, .int 0, .null]) (fs1 := [.int 0, .ref (190), .ref (191), .ref (192), .ref (193), .ref (194), .ref (195), .ref (196), .ref (197), .int 0, .ref (198), .int 0, .int 0, .ref (199), .int 0, .ref (200), .null, .null, .int 0, .int 0, .null, .null, .null, .null, .int 0, .null]) (h1 := hk123) d108_136 (by decide) (by decide) rfl (by decide) (by decide +kernel) (by decide +kernel) rfl rfl ?_
  refine as_aload_n d108_139 rfl ?_
  refine as_ldc (v := nI 42000) d108_140 (by decide +kernel) ?_
  refine ai_arr (t := 0) (h1 := hk124) (n1 := 202) (k1 := 12) (j1 := 84264) d108_142 rfl (by decide) (by decide) (by decide) rfl rfl rfl rfl ?_
  refine ai_put (ci := 7) (f := 16) (fs := [.int 0, .ref (190), .ref (191), .ref (192), .ref (193), .ref (194), .ref (195), .ref (196), .ref (197), .int 0, .ref (198), .int 0, .int 0, .ref (199), .int 0, .ref (200), .null, .null, .int 0, .int 0, .null, .null, .null, .null, .int 0, .null]) (fs1 := [.int 0, .ref (190), .ref (191), .ref (192), .ref (193), .ref (194), .ref (195), .ref (196), .ref (197), .int 0, .ref (198), .int 0, .int 0, .ref (199), .int 0, .ref (200), .ref (201), .null, .int 0, .int 0, .null, .null, .null, .null, .int 0, .null]) (h1 := hk125) d108_144 (by decide) (by decide) rfl (by decide) (by decide +kernel) (by decide +kernel) rfl rfl ?_
  refine as_aload_n d108_147 rfl ?_
  refine an_bipush 21 d108_148 rfl ?_
  refine ai_arr (t := 0) (h1 := hk126) (n1 := 203) (k1 := 13) (j1 := 84285) d108_150 rfl (by decide) (by decide) (by decide) rfl rfl rfl rfl ?_
  refine ai_put (ci := 7) (f := 17) (fs := [.int 0, .ref (190), .ref (191), .ref (192), .ref (193), .ref (194), .ref (195), .ref (196), .ref (197), .int 0, .ref (198), .int 0, .int 0, .ref (199), .int 0, .ref (200), .ref (201), .null, .int 0, .int 0, .null, .null, .null, .null, .int 0, .null]) (fs1 := [.int 0, .ref (190), .ref (191), .ref (192), .ref (193), .ref (194), .ref (195), .ref (196), .ref (197), .int 0, .ref (198), .int 0, .int 0, .ref (199), .int 0, .ref (200), .ref (201), .ref (202), .int 0, .int 0, .null, .null, .null, .null, .int 0, .null]) (h1 := hk127) d108_152 (by decide) (by decide) rfl (by decide) (by decide +kernel) (by decide +kernel) rfl rfl ?_
  refine as_aload_n d108_155 rfl ?_
  refine an_bipush 22 d108_156 rfl ?_
  refine ai_arr (t := 0) (h1 := hk128) (n1 := 204) (k1 := 14) (j1 := 84307) d108_158 rfl (by decide) (by decide) (by decide) rfl rfl rfl rfl ?_
  refine ai_put (ci := 7) (f := 20) (fs := [.int 0, .ref (190), .ref (191), .ref (192), .ref (193), .ref (194), .ref (195), .ref (196), .ref (197), .int 0, .ref (198), .int 0, .int 0, .ref (199), .int 0, .ref (200), .ref (201), .ref (202), .int 0, .int 0, .null, .null, .null, .null, .int 0, .null]) (fs1 := [.int 0, .ref (190), .ref (191), .ref (192), .ref (193), .ref (194), .ref (195), .ref (196), .ref (197), .int 0, .ref (198), .int 0, .int 0, .ref (199), .int 0, .ref (200), .ref (201), .ref (202), .int 0, .int 0, .ref (203), .null, .null, .null, .int 0, .null]) (h1 := hk129) d108_160 (by decide) (by decide) rfl (by decide) (by decide +kernel) (by decide +kernel) rfl rfl ?_
  refine as_aload_n d108_163 rfl ?_
  refine an_sipush 400 d108_164 rfl ?_
  refine ai_arr (t := 0) (h1 := hk130) (n1 := 205) (k1 := 15) (j1 := 84707) d108_167 rfl (by decide) (by decide) (by decide) rfl rfl rfl rfl ?_
  refine ai_put (ci := 7) (f := 21) (fs := [.int 0, .ref (190), .ref (191), .ref (192), .ref (193), .ref (194), .ref (195), .ref (196), .ref (197), .int 0, .ref (198), .int 0, .int 0, .ref (199), .int 0, .ref (200), .ref (201), .ref (202), .int 0, .int 0, .ref (203), .null, .null, .null, .int 0, .null]) (fs1 := [.int 0, .ref (190), .ref (191), .ref (192), .ref (193), .ref (194), .ref (195), .ref (196), .ref (197), .int 0, .ref (198), .int 0, .int 0, .ref (199), .int 0, .ref (200), .ref (201), .ref (202), .int 0, .int 0, .ref (203), .ref (204), .null, .null, .int 0, .null]) (h1 := hk131) d108_169 (by decide) (by decide) rfl (by decide) (by decide +kernel) (by decide +kernel) rfl rfl ?_
  refine as_aload_n d108_172 rfl ?_
  refine an_sipush 400 d108_173 rfl ?_
  refine ai_arr (t := 0) (h1 := hk132) (n1 := 206) (k1 := 16) (j1 := 85107) d108_176 rfl (by decide) (by decide) (by decide) rfl rfl rfl rfl ?_
  refine ai_put (ci := 7) (f := 22) (fs := [.int 0, .ref (190), .ref (191), .ref (192), .ref (193), .ref (194), .ref (195), .ref (196), .ref (197), .int 0, .ref (198), .int 0, .int 0, .ref (199), .int 0, .ref (200), .ref (201), .ref (202), .int 0, .int 0, .ref (203), .ref (204), .null, .null, .int 0, .null]) (fs1 := [.int 0, .ref (190), .ref (191), .ref (192), .ref (193), .ref (194), .ref (195), .ref (196), .ref (197), .int 0, .ref (198), .int 0, .int 0, .ref (199), .int 0, .ref (200), .ref (201), .ref (202), .int 0, .int 0, .ref (203), .ref (204), .ref (205), .null, .int 0, .null]) (h1 := hk133) d108_178 (by decide) (by decide) rfl (by decide) (by decide +kernel) (by decide +kernel) rfl rfl ?_
  refine as_aload_n d108_181 rfl ?_
  refine an_sipush 400 d108_182 rfl ?_
  refine ai_arr (t := 0) (h1 := hk134) (n1 := 207) (k1 := 17) (j1 := 85507) d108_185 rfl (by decide) (by decide) (by decide) rfl rfl rfl rfl ?_
  refine ai_put (ci := 7) (f := 23) (fs := [.int 0, .ref (190), .ref (191), .ref (192), .ref (193), .ref (194), .ref (195), .ref (196), .ref (197), .int 0, .ref (198), .int 0, .int 0, .ref (199), .int 0, .ref (200), .ref (201), .ref (202), .int 0, .int 0, .ref (203), .ref (204), .ref (205), .null, .int 0, .null]) (fs1 := [.int 0, .ref (190), .ref (191), .ref (192), .ref (193), .ref (194), .ref (195), .ref (196), .ref (197), .int 0, .ref (198), .int 0, .int 0, .ref (199), .int 0, .ref (200), .ref (201), .ref (202), .int 0, .int 0, .ref (203), .ref (204), .ref (205), .ref (206), .int 0, .null]) (h1 := hk135) d108_187 (by decide) (by decide) rfl (by decide) (by decide +kernel) (by decide +kernel) rfl rfl ?_
  refine as_aload_n d108_190 rfl ?_
  refine an_sipush 400 d108_191 rfl ?_
  refine ai_arr (t := 2) (h1 := hk136) (n1 := 208) (k1 := 18) (j1 := 85907) d108_194 rfl (by decide) (by decide) (by decide) rfl rfl rfl rfl ?_
  refine ai_put (ci := 7) (f := 25) (fs := [.int 0, .ref (190), .ref (191), .ref (192), .ref (193), .ref (194), .ref (195), .ref (196), .ref (197), .int 0, .ref (198), .int 0, .int 0, .ref (199), .int 0, .ref (200), .ref (201), .ref (202), .int 0, .int 0, .ref (203), .ref (204), .ref (205), .ref (206), .int 0, .null]) (fs1 := [.int 0, .ref (190), .ref (191), .ref (192), .ref (193), .ref (194), .ref (195), .ref (196), .ref (197), .int 0, .ref (198), .int 0, .int 0, .ref (199), .int 0, .ref (200), .ref (201), .ref (202), .int 0, .int 0, .ref (203), .ref (204), .ref (205), .ref (206), .int 0, .ref (207)]) (h1 := hk137) d108_196 (by decide) (by decide) rfl (by decide) (by decide +kernel) (by decide +kernel) rfl rfl ?_
  exact as_return d108_199 rfl rfl
theorem aw_law0 {X : am_X} {Q : am_R → Prop} (kk : AW X 181 (16, [(2, .ref 189), (1, .ref 0), (0, .float 0)], [], 208, hk137, 208, 92206) Q) : AW X 181 (0, [(0, .float 0)], [], 0, am_h0, 0, 0) Q := by
  refine ai_new (ci := 6) (h1 := hk1) (n1 := 1) (k1 := 1) (j1 := 7) d181_0 (by decide) (by decide) (by rw [am_def6]; rfl) rfl rfl rfl ?_
  refine as_dup d181_3 rfl ?_
  refine ai_in0 (n1 := 189) (h1 := hk88) (k1 := 188) (j1 := 6266) (k2 := 189) (j2 := 6273) d181_4 ⟨by decide, rfl, by decide, by decide⟩ rfl (by decide) (av_ct9 X) rfl rfl ?_
  refine as_astore_n d181_7 (by decide) ?_
  refine ai_new (ci := 7) (h1 := hk89) (n1 := 190) (k1 := 190) (j1 := 6299) d181_8 (by decide) (by decide) (by rw [am_def7]; rfl) rfl rfl rfl ?_
  refine as_dup d181_11 rfl ?_
  refine ai_in0 (n1 := 208) (h1 := hk137) (k1 := 18) (j1 := 85907) (k2 := 208) (j2 := 92206) d181_12 ⟨by decide, rfl, by decide, by decide⟩ rfl (by decide) (av_ct10 X) rfl rfl ?_
  refine as_astore_n d181_15 (by decide) ?_
  exact kk
