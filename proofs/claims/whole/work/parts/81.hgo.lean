/-! holes: the reference's goAround -/
theorem RG.gr {S T : MS} {P r m : Nat} {mt : Nat → Option Nat} {go : Nat → Nat} {f : Nat → Int} (h : RG S P mt go) (g : GRow S T r m f) : RG T P mt go := by
  unfold RG
  rw [g.1, g.2.1]
  exact h
theorem GRow.zero (S : MS) (r : Nat) : GRow S S r 0 (fun _ => 0) := ⟨rfl, rfl, rfl, fun _ _ _ => rfl, fun _ h => absurd h (Nat.not_lt_zero _)⟩
theorem GRow.eq {S T : MS} {r m : Nat} {f g : Nat → Int} (h : GRow S T r m f) (e : ∀ c, c < m → g c = f c) : GRow S T r m g := ⟨h.1, h.2.1, h.2.2.1, h.2.2.2.1, fun c hc => by rw [e c hc]; exact h.2.2.2.2 c hc⟩
set_option maxHeartbeats 1000000 in
theorem mx_goAround (X : am_X) (S : MS) (P : Nat) (mt : Nat → Option Nat) (go : Nat → Nat) (hG : GW P mt go) (hR : RG S P mt go) (r : Nat) (hr : r < 18) (hr1 : S.1 189 11 = nI r) (hm : cnt (prN mt) (4 * P) ≤ 6) (hc1 : S.1 189 12 = nI (cnt (prN mt) (4 * P))) (hPO : PO mt (S.2.1 199) P (4 * P)) (k n : Nat) (hk : k < 6 * P) (x : Nat → WS) (hx : WX mt go k n x) : ∃ v T, MC X 143 [.ref (189), .int (nI (k))] S v T ∧ ((v = some (.int (nI 0)) ∧ mt (x n).1 = none ∧ ∃ f, GRow S T r (cnt (prN mt) (4 * P)) f) ∨ (v = some (.int (nI 1)) ∧ wst mt go (x n) = some (ws k) ∧ GRow S T r (cnt (prN mt) (4 * P)) (rwX mt x (n + 1)))) := by
  have hP := hG.1
  have hf := fE_ok (k % 6) (by omega)
  have ho := fE_opp (k % 6) (by omega)
  have z1 : (x 0).1 / 4 = k / 6 := by rw [hx.1]; show (4 * (k / 6) + fE (5 - k % 6)) / 4 = _; omega
  have z2 : (x 0).2.1 = fE (k % 6) := by rw [hx.1]; rfl
  have z3 : (x 0).2.2 = tE (k % 6) := by rw [hx.1]; rfl
  have z4 : (x 0).1 % 4 = fE (5 - k % 6) := by rw [hx.1]; show (4 * (k / 6) + fE (5 - k % 6)) % 4 = _; omega
  refine MX.mc (X := X) (mj := 143) (as := [.ref (189), .int (nI (k))]) (S := S) (Post := fun v T => ((v = some (.int (nI 0)) ∧ mt (x n).1 = none ∧ ∃ f, GRow S T r (cnt (prN mt) (4 * P)) f) ∨ (v = some (.int (nI 1)) ∧ wst mt go (x n) = some (ws k) ∧ GRow S T r (cnt (prN mt) (4 * P)) (rwX mt x (n + 1))))) ?_
  refine MX.of (Nat.le_of_ble_eq_true rfl) ?_
  refine as_iload_n d143_0 rfl ?_
  refine an_bipush 6 d143_1 rfl ?_
  refine an_idiv d143_3 (by omega) (by omega) (by omega) ?_
  refine as_istore_n d143_4 (by decide) ?_
  refine as_aload_n d143_5 rfl ?_
  refine ap_get d143_6 f143_19 (by decide) rfl rfl ?_
  refine as_iload_n d143_9 rfl ?_
  refine an_bipush 6 d143_10 rfl ?_
  refine an_irem d143_12 (by omega) (by omega) (by omega) ?_
  refine ap_cald d143_13 rfl (by decide) (by omega) (by decide) ?_
  refine an_top (e' := nI (fE (k % 6))) (hf.1) ?_
  refine as_istore_n d143_14 (by decide) ?_
  refine as_aload_n d143_15 rfl ?_
  refine ap_get d143_16 f143_22 (by decide) rfl rfl ?_
  refine as_iload_n d143_19 rfl ?_
  refine an_bipush 6 d143_20 rfl ?_
  refine an_irem d143_22 (by omega) (by omega) (by omega) ?_
  refine ap_cald d143_23 rfl (by decide) (by omega) (by decide) ?_
  refine an_top (e' := nI (tE (k % 6))) (hf.2.1) ?_
  refine as_istore d143_24 (by decide) ?_
  refine an_iconst 0 d143_26 rfl ?_
  refine as_istore d143_27 (by decide) ?_
  refine AW.loc [(0, .ref (189)), (2, .int (nI ((k) / (6)))), (3, .int (nI (fE (k % 6)))), (4, .int (nI (tE (k % 6)))), (5, .int (nI (0)))] (am_pick [4, 3, 2, 1, 0] rfl rfl) ?_
  refine aw_for (fun j => ((29, [(0, .ref (189)), (2, .int (nI (k / 6))), (3, .int (nI (fE (k % 6)))), (4, .int (nI (tE (k % 6)))), (5, .int (nI (j)))], [], 208, HP (S), 0, 0) : am_Z)) (fE (5 - k % 6)) (rfl) (fun j hj ihj => ?_) ?_
  · have hjj := ho.2.2.2 j hj
    refine as_iload d143_29 rfl ?_
    refine as_iload_n d143_31 rfl ?_
    refine an_icmp_eq 42 d143_32 (by decide) (by omega) (by omega) (fun c32 => ?_) (fun c32 => ?_)
    · refine an_iinc 1 d143_42 rfl rfl (by decide) ?_
      refine as_goto 29 d143_45 (by decide) ?_
      refine AW.loc [(0, .ref (189)), (2, .int (nI (k / 6))), (3, .int (nI (fE (k % 6)))), (4, .int (nI (tE (k % 6)))), (5, .int (nI (j + 1)))] (am_pick [1, 2, 3, 4, 0] rfl rfl) ?_
      exact ihj
    · refine as_iload d143_35 rfl ?_
      refine as_iload d143_37 rfl ?_
      refine an_icmp_ne 48 d143_39 (by decide) (by omega) (by omega) (fun c39 => by omega) (fun c39 => ?_)
      refine an_iinc 1 d143_42 rfl rfl (by decide) ?_
      refine as_goto 29 d143_45 (by decide) ?_
      refine AW.loc [(0, .ref (189)), (2, .int (nI (k / 6))), (3, .int (nI (fE (k % 6)))), (4, .int (nI (tE (k % 6)))), (5, .int (nI (j + 1)))] (am_pick [1, 2, 3, 4, 0] rfl rfl) ?_
      exact ihj
  · refine as_iload d143_29 rfl ?_
    refine as_iload_n d143_31 rfl ?_
    refine an_icmp_eq 42 d143_32 (by decide) (by omega) (by omega) (fun c32 => by omega) (fun c32 => ?_)
    refine as_iload d143_35 rfl ?_
    refine as_iload d143_37 rfl ?_
    refine an_icmp_ne 48 d143_39 (by decide) (by omega) (by omega) (fun c39 => ?_) (fun c39 => by omega)
    refine an_bipush 16 d143_48 rfl ?_
    refine as_iload_n d143_50 rfl ?_
    refine an_imul d143_51 ?_
    refine an_iconst 4 d143_52 rfl ?_
    refine as_iload_n d143_53 rfl ?_
    refine an_imul d143_54 ?_
    refine an_iadd d143_55 ?_
    refine as_iload d143_56 rfl ?_
    refine an_iadd d143_58 ?_
    refine as_istore d143_59 (by decide) ?_
    refine as_iload d143_61 rfl ?_
    refine as_istore d143_63 (by decide) ?_
    refine an_iconst 0 d143_65 rfl ?_
    refine as_istore d143_66 (by decide) ?_
    refine AW.loc [(0, .ref (189)), (2, .int (nI (k / 6))), (3, .int (nI (fE (k % 6)))), (4, .int (nI (tE (k % 6)))), (5, .int (nI ((fE (5 - k % 6))))), (6, .int (nI ((((16) * (k / 6)) + ((4) * (fE (k % 6)))) + (tE (k % 6))))), (7, .int (nI ((fE (5 - k % 6))))), (8, .int (nI (0)))] (am_pick [3, 4, 5, 6, 7, 2, 1, 0] rfl rfl) ?_
    refine aw_fromE (fun c T0 => ((68, [(0, .ref (189)), (2, .int (nI (k / 6))), (3, .int (nI (fE (k % 6)))), (4, .int (nI (tE (k % 6)))), (5, .int (nI (fE (5 - k % 6)))), (6, .int (nI (16 * (k / 6) + 4 * fE (k % 6) + tE (k % 6)))), (7, .int (nI (fE (5 - k % 6)))), (8, .int (nI (c)))], [], 208, HP (T0), 0, 0) : am_Z)) (fun c T0 => GRow S T0 r (c) (fun _ => 0)) (0) (cnt (prN mt) (4 * P)) (by omega) (S) (rfl) (GRow.zero S r) (fun c T0 hc0 hc hI0 ihc => ?_) (fun T0 hX0 => ?_)
    · refine as_iload d143_68 rfl ?_
      refine as_aload_n d143_70 rfl ?_
      refine ap_get d143_71 f143_159 (by decide) rfl rfl ?_
      refine an_top (e' := nI (cnt (prN mt) (4 * P))) ((congrFun (congrFun hI0.1 189) 12).trans hc1) ?_
      refine an_icmp_ge 99 d143_74 (by decide) (by omega) (by omega) (fun c74 => by omega) (fun c74 => ?_)
      refine as_aload_n d143_77 rfl ?_
      refine ap_get d143_78 f143_34 (by decide) rfl rfl ?_
      refine an_bipush 6 d143_81 rfl ?_
      refine as_aload_n d143_83 rfl ?_
      refine ap_get d143_84 f143_162 (by decide) rfl rfl ?_
      refine an_top (e' := nI (r)) ((congrFun (congrFun hI0.1 189) 11).trans hr1) ?_
      refine an_imul d143_87 ?_
      refine as_iload d143_88 rfl ?_
      refine an_iadd d143_90 ?_
      refine as_lconst d143_91 ?_
      refine ap_last d143_92 (fun _ _ _ _ => rfl) (by decide) (by omega) (by decide) ?_
      refine an_iinc 1 d143_93 rfl rfl (by decide) ?_
      refine as_goto 68 d143_96 (by decide) ?_
      refine AW.loc [(0, .ref (189)), (2, .int (nI (k / 6))), (3, .int (nI (fE (k % 6)))), (4, .int (nI (tE (k % 6)))), (5, .int (nI (fE (5 - k % 6)))), (6, .int (nI (16 * (k / 6) + 4 * fE (k % 6) + tE (k % 6)))), (7, .int (nI (fE (5 - k % 6)))), (8, .int (nI (c + 1)))] (am_pick [1, 2, 3, 4, 5, 6, 7, 0] rfl rfl) ?_
      have ihc := ihc ((T0).sl 198 (((6) * (r)) + (c)) (Int64.ofNat 0)) ((hI0.set (by omega) 0).eq (fun c' _ => by show (0 : Int) = if c' = c then 0 else 0; split <;> rfl))
      exact ihc
    · refine as_iload d143_68 rfl ?_
      refine as_aload_n d143_70 rfl ?_
      refine ap_get d143_71 f143_159 (by decide) rfl rfl ?_
      refine an_top (e' := nI (cnt (prN mt) (4 * P))) ((congrFun (congrFun hX0.1 189) 12).trans hc1) ?_
      refine an_icmp_ge 99 d143_74 (by decide) (by omega) (by omega) (fun c74 => ?_) (fun c74 => by omega)
      refine an_iconst 1 d143_99 rfl ?_
      refine as_istore d143_100 (by decide) ?_
      refine AW.loc [(0, .ref (189)), (2, .int (nI (k / 6))), (3, .int (nI (fE (k % 6)))), (4, .int (nI (tE (k % 6)))), (5, .int (nI (fE (5 - k % 6)))), (6, .int (nI (16 * (k / 6) + 4 * fE (k % 6) + tE (k % 6)))), (7, .int (nI (fE (5 - k % 6)))), (8, .int (nI (1)))] (am_pick [1, 2, 3, 4, 5, 6, 7, 0] rfl rfl) ?_
      refine aw_fromE (fun i T => ((102, [(0, .ref (189)), (2, .int (nI ((x (i)).1 / 4))), (3, .int (nI ((x (i)).2.1))), (4, .int (nI ((x (i)).2.2))), (5, .int (nI ((x (i)).1 % 4))), (6, .int (nI (16 * (k / 6) + 4 * fE (k % 6) + tE (k % 6)))), (7, .int (nI (fE (5 - k % 6)))), (8, .int (nI (1)))], [], 208, HP (T), 0, 0) : am_Z)) (fun i T => GRow S T r (cnt (prN mt) (4 * P)) (rwX mt x (i))) (0) (n) (by omega) (T0) (by rw [z1, z2, z3, z4]) (hX0) (fun i T hi0 hi hI ih => ?_) (fun T hX => ?_)
      · have hv := hx.v hG hk (i) (by omega)
        obtain ⟨t, e0, b2, b3, b4, b5, b6, b7, b8, b9, d1, d2, d3, d4, d5⟩ := wst_f hG hv (hx.2.1 i hi).1
        have hpr := prOf_lt hG hv.1 e0
        have hpo : T.2.1 199 (x i).1 = nI (prOf mt (x i).1) := by rw [hI.2.1, prOf_s e0]; exact hPO _ hv.1 _ e0 (by have := hv.1; omega)
        have hs12 := hv.1
        obtain ⟨-, w1, w2, w3, w4, w5⟩ := hv
        have ho4 := oth4 b9 d1 (show t % 4 < 4 by omega) d2 d3 d4
        have hsum : (x (i + 1)).2.1 + (x (i + 1)).2.2 + t % 4 ≤ 6 := by omega
        have hRT := hR.gr hI
        refine as_iload d143_102 rfl ?_
        refine an_if_eq 275 d143_104 (by decide) (by omega) (fun c104 => absurd c104 (by decide)) (fun c104 => ?_)
        refine an_iconst 4 d143_107 rfl ?_
        refine as_iload_n d143_108 rfl ?_
        refine an_imul d143_109 ?_
        refine as_iload d143_110 rfl ?_
        refine an_iadd d143_112 ?_
        refine an_top (e' := nI ((x i).1)) (congrArg nI (by omega)) ?_
        refine as_istore d143_113 (by decide) ?_
        refine AW.loc [(9, .int (nI ((x i).1))), (0, .ref (189)), (2, .int (nI ((x (i)).1 / 4))), (3, .int (nI ((x (i)).2.1))), (4, .int (nI ((x (i)).2.2))), (5, .int (nI ((x (i)).1 % 4))), (6, .int (nI (16 * (k / 6) + 4 * fE (k % 6) + tE (k % 6)))), (7, .int (nI (fE (5 - k % 6)))), (8, .int (nI (1)))] (am_pick [0, 1, 2, 3, 4, 5, 6, 7, 8] rfl rfl) ?_
        refine as_aload_n d143_115 rfl ?_
        refine ap_get d143_116 f143_7 (by decide) rfl rfl ?_
        refine as_iload d143_119 rfl ?_
        refine ap_iald d143_121 (fun _ _ _ _ => rfl) (by decide) (by omega) (by decide) ?_
        refine an_top (e' := nI (t)) ((hRT.2.1 _ hs12).trans (by rw [e0]; rfl)) ?_
        refine an_iconstI (-1) d143_122 rfl ?_
        refine as_icmp_ne 128 d143_123 (by decide) (fun c123 => ?_) (fun c123 => absurd c123 (nI_ne1 (by omega)))
        refine as_aload_n d143_128 rfl ?_
        refine ap_get d143_129 f143_34 (by decide) rfl rfl ?_
        refine an_bipush 6 d143_132 rfl ?_
        refine as_aload_n d143_134 rfl ?_
        refine ap_get d143_135 f143_162 (by decide) rfl rfl ?_
        refine an_top (e' := nI (r)) ((congrFun (congrFun hI.1 189) 11).trans hr1) ?_
        refine an_imul d143_138 ?_
        refine as_aload_n d143_139 rfl ?_
        refine ap_get d143_140 f143_38 (by decide) rfl rfl ?_
        refine as_iload d143_143 rfl ?_
        refine ap_iald d143_145 (fun _ _ _ _ => rfl) (by decide) (by omega) (by decide) ?_
        refine an_top (e' := nI (prOf mt (x i).1)) (hpo) ?_
        refine an_iadd d143_146 ?_
        refine as_dup2 d143_147 rfl rfl ?_
        refine ap_lald d143_148 (fun _ _ _ _ => rfl) (by decide) (by omega) (by decide) ?_
        refine as_iload d143_149 rfl ?_
        refine as_aload_n d143_151 rfl ?_
        refine ap_get d143_152 f143_7 (by decide) rfl rfl ?_
        refine as_iload d143_155 rfl ?_
        refine ap_iald d143_157 (fun _ _ _ _ => rfl) (by decide) (by omega) (by decide) ?_
        refine an_top (e' := nI (t)) ((hRT.2.1 _ hs12).trans (by rw [e0]; rfl)) ?_
        refine an_icmp_ge 165 d143_158 (by decide) (by omega) (by omega) (fun c158 => ?_) (fun c158 => ?_)
        · have hsg : Int64.ofInt (sgW mt (x i).1) = (-1) := by unfold sgW; rw [if_neg (prN_g e0 (by omega))]; rfl
          refine as_ldc2 (v := (-1)) d143_165 (by decide +kernel) ?_
          refine as_ladd d143_168 ?_
          refine ap_last d143_169 (fun _ _ _ _ => rfl) (by decide) (by omega) (by decide) ?_
          have hst := hI.step (d := sgW mt (x i).1) hpr hm (congrArg (fun z => T.2.2.1 198 (6 * r + prOf mt (x i).1) + z) hsg.symm)
          refine as_aload_n d143_170 rfl ?_
          refine ap_get d143_171 f143_7 (by decide) rfl rfl ?_
          refine as_iload d143_174 rfl ?_
          refine ap_iald d143_176 (fun _ _ _ _ => rfl) (by decide) (by omega) (by decide) ?_
          refine an_top (e' := nI (t)) ((hRT.2.1 _ hs12).trans (by rw [e0]; rfl)) ?_
          refine an_iconst 4 d143_177 rfl ?_
          refine an_idiv d143_178 (by omega) (by omega) (by omega) ?_
          refine as_istore d143_179 (by decide) ?_
          refine AW.loc [(10, .int (nI ((t) / (4)))), (9, .int (nI ((x i).1))), (0, .ref (189)), (2, .int (nI ((x (i)).1 / 4))), (3, .int (nI ((x (i)).2.1))), (4, .int (nI ((x (i)).2.2))), (5, .int (nI ((x (i)).1 % 4))), (6, .int (nI (16 * (k / 6) + 4 * fE (k % 6) + tE (k % 6)))), (7, .int (nI (fE (5 - k % 6)))), (8, .int (nI (1)))] (am_pick [0, 1, 2, 3, 4, 5, 6, 7, 8, 9] rfl rfl) ?_
          refine as_aload_n d143_181 rfl ?_
          refine ap_get d143_182 f143_7 (by decide) rfl rfl ?_
          refine as_iload d143_185 rfl ?_
          refine ap_iald d143_187 (fun _ _ _ _ => rfl) (by decide) (by omega) (by decide) ?_
          refine an_top (e' := nI (t)) ((hRT.2.1 _ hs12).trans (by rw [e0]; rfl)) ?_
          refine an_iconst 4 d143_188 rfl ?_
          refine an_irem d143_189 (by omega) (by omega) (by omega) ?_
          refine as_istore d143_190 (by decide) ?_
          refine AW.loc [(11, .int (nI ((t) % (4)))), (10, .int (nI ((t) / (4)))), (9, .int (nI ((x i).1))), (0, .ref (189)), (2, .int (nI ((x (i)).1 / 4))), (3, .int (nI ((x (i)).2.1))), (4, .int (nI ((x (i)).2.2))), (5, .int (nI ((x (i)).1 % 4))), (6, .int (nI (16 * (k / 6) + 4 * fE (k % 6) + tE (k % 6)))), (7, .int (nI (fE (5 - k % 6)))), (8, .int (nI (1)))] (am_pick [0, 1, 2, 3, 4, 5, 6, 7, 8, 9, 10] rfl rfl) ?_
          refine as_aload_n d143_192 rfl ?_
          refine ap_get d143_193 f143_13 (by decide) rfl rfl ?_
          refine an_iconst 4 d143_196 rfl ?_
          refine as_iload d143_197 rfl ?_
          refine an_imul d143_199 ?_
          refine as_iload_n d143_200 rfl ?_
          refine an_iadd d143_201 ?_
          refine ap_iald d143_202 (fun _ _ _ _ => rfl) (by decide) (by omega) (by decide) ?_
          refine an_top (e' := nI ((x (i + 1)).2.1)) ((hRT.2.2 _ _ _ hs12 e0 (by omega)).trans (congrArg nI b5.symm)) ?_
          refine as_istore d143_203 (by decide) ?_
          refine AW.loc [(12, .int (nI ((x (i + 1)).2.1))), (11, .int (nI ((t) % (4)))), (10, .int (nI ((t) / (4)))), (9, .int (nI ((x i).1))), (0, .ref (189)), (2, .int (nI ((x (i)).1 / 4))), (3, .int (nI ((x (i)).2.1))), (4, .int (nI ((x (i)).2.2))), (5, .int (nI ((x (i)).1 % 4))), (6, .int (nI (16 * (k / 6) + 4 * fE (k % 6) + tE (k % 6)))), (7, .int (nI (fE (5 - k % 6)))), (8, .int (nI (1)))] (am_pick [0, 1, 2, 3, 4, 5, 6, 7, 8, 9, 10, 11] rfl rfl) ?_
          refine as_aload_n d143_205 rfl ?_
          refine ap_get d143_206 f143_13 (by decide) rfl rfl ?_
          refine an_iconst 4 d143_209 rfl ?_
          refine as_iload d143_210 rfl ?_
          refine an_imul d143_212 ?_
          refine as_iload d143_213 rfl ?_
          refine an_iadd d143_215 ?_
          refine ap_iald d143_216 (fun _ _ _ _ => rfl) (by decide) (by omega) (by decide) ?_
          refine an_top (e' := nI ((x (i + 1)).2.2)) ((hRT.2.2 _ _ _ hs12 e0 (by omega)).trans (congrArg nI b6.symm)) ?_
          refine as_istore d143_217 (by decide) ?_
          refine AW.loc [(13, .int (nI ((x (i + 1)).2.2))), (12, .int (nI ((x (i + 1)).2.1))), (11, .int (nI ((t) % (4)))), (10, .int (nI ((t) / (4)))), (9, .int (nI ((x i).1))), (0, .ref (189)), (2, .int (nI ((x (i)).1 / 4))), (3, .int (nI ((x (i)).2.1))), (4, .int (nI ((x (i)).2.2))), (5, .int (nI ((x (i)).1 % 4))), (6, .int (nI (16 * (k / 6) + 4 * fE (k % 6) + tE (k % 6)))), (7, .int (nI (fE (5 - k % 6)))), (8, .int (nI (1)))] (am_pick [0, 1, 2, 3, 4, 5, 6, 7, 8, 9, 10, 11, 12] rfl rfl) ?_
          refine an_bipush 6 d143_219 rfl ?_
          refine as_iload d143_221 rfl ?_
          refine an_isub d143_223 (by omega) ?_
          refine as_iload d143_224 rfl ?_
          refine an_isub d143_226 (by omega) ?_
          refine as_iload d143_227 rfl ?_
          refine an_isub d143_229 (by omega) ?_
          refine as_istore d143_230 (by decide) ?_
          refine AW.loc [(5, .int (nI ((((6) - ((x (i + 1)).2.1)) - ((x (i + 1)).2.2)) - ((t) % (4))))), (13, .int (nI ((x (i + 1)).2.2))), (12, .int (nI ((x (i + 1)).2.1))), (11, .int (nI ((t) % (4)))), (10, .int (nI ((t) / (4)))), (9, .int (nI ((x i).1))), (0, .ref (189)), (2, .int (nI ((x (i)).1 / 4))), (3, .int (nI ((x (i)).2.1))), (4, .int (nI ((x (i)).2.2))), (6, .int (nI (16 * (k / 6) + 4 * fE (k % 6) + tE (k % 6)))), (7, .int (nI (fE (5 - k % 6)))), (8, .int (nI (1)))] (am_pick [0, 1, 2, 3, 4, 5, 6, 7, 8, 9, 10, 11, 12] rfl rfl) ?_
          refine as_iload d143_232 rfl ?_
          refine as_istore_n d143_234 (by decide) ?_
          refine AW.loc [(2, .int (nI ((t) / (4)))), (5, .int (nI ((((6) - ((x (i + 1)).2.1)) - ((x (i + 1)).2.2)) - ((t) % (4))))), (13, .int (nI ((x (i + 1)).2.2))), (12, .int (nI ((x (i + 1)).2.1))), (11, .int (nI ((t) % (4)))), (10, .int (nI ((t) / (4)))), (9, .int (nI ((x i).1))), (0, .ref (189)), (3, .int (nI ((x (i)).2.1))), (4, .int (nI ((x (i)).2.2))), (6, .int (nI (16 * (k / 6) + 4 * fE (k % 6) + tE (k % 6)))), (7, .int (nI (fE (5 - k % 6)))), (8, .int (nI (1)))] (am_pick [0, 1, 2, 3, 4, 5, 6, 7, 8, 9, 10, 11, 12] rfl rfl) ?_
          refine as_iload d143_235 rfl ?_
          refine as_istore_n d143_237 (by decide) ?_
          refine AW.loc [(3, .int (nI ((x (i + 1)).2.1))), (2, .int (nI ((t) / (4)))), (5, .int (nI ((((6) - ((x (i + 1)).2.1)) - ((x (i + 1)).2.2)) - ((t) % (4))))), (13, .int (nI ((x (i + 1)).2.2))), (12, .int (nI ((x (i + 1)).2.1))), (11, .int (nI ((t) % (4)))), (10, .int (nI ((t) / (4)))), (9, .int (nI ((x i).1))), (0, .ref (189)), (4, .int (nI ((x (i)).2.2))), (6, .int (nI (16 * (k / 6) + 4 * fE (k % 6) + tE (k % 6)))), (7, .int (nI (fE (5 - k % 6)))), (8, .int (nI (1)))] (am_pick [0, 1, 2, 3, 4, 5, 6, 7, 8, 9, 10, 11, 12] rfl rfl) ?_
          refine as_iload d143_238 rfl ?_
          refine as_istore d143_240 (by decide) ?_
          refine AW.loc [(4, .int (nI ((x (i + 1)).2.2))), (3, .int (nI ((x (i + 1)).2.1))), (2, .int (nI ((t) / (4)))), (5, .int (nI ((((6) - ((x (i + 1)).2.1)) - ((x (i + 1)).2.2)) - ((t) % (4))))), (13, .int (nI ((x (i + 1)).2.2))), (12, .int (nI ((x (i + 1)).2.1))), (11, .int (nI ((t) % (4)))), (10, .int (nI ((t) / (4)))), (9, .int (nI ((x i).1))), (0, .ref (189)), (6, .int (nI (16 * (k / 6) + 4 * fE (k % 6) + tE (k % 6)))), (7, .int (nI (fE (5 - k % 6)))), (8, .int (nI (1)))] (am_pick [0, 1, 2, 3, 4, 5, 6, 7, 8, 9, 10, 11, 12] rfl rfl) ?_
          refine an_bipush 16 d143_242 rfl ?_
          refine as_iload_n d143_244 rfl ?_
          refine an_imul d143_245 ?_
          refine an_iconst 4 d143_246 rfl ?_
          refine as_iload_n d143_247 rfl ?_
          refine an_imul d143_248 ?_
          refine an_iadd d143_249 ?_
          refine as_iload d143_250 rfl ?_
          refine an_iadd d143_252 ?_
          refine as_iload d143_253 rfl ?_
          refine an_icmp_ne 265 d143_255 (by decide) (by omega) (by omega) (fun c255 => ?_) (fun c255 => ?_)
          · skip
            refine AW.loc [(4, .int (nI ((x (i + 1)).2.2))), (3, .int (nI ((x (i + 1)).2.1))), (2, .int (nI ((t) / (4)))), (5, .int (nI ((((6) - ((x (i + 1)).2.1)) - ((x (i + 1)).2.2)) - ((t) % (4))))), (13, .int (nI ((x (i + 1)).2.2))), (12, .int (nI ((x (i + 1)).2.1))), (11, .int (nI ((t) % (4)))), (10, .int (nI ((t) / (4)))), (9, .int (nI ((x i).1))), (0, .ref (189)), (6, .int (nI (16 * (k / 6) + 4 * fE (k % 6) + tE (k % 6)))), (7, .int (nI (fE (5 - k % 6)))), (8, .int (nI (1)))] (am_pick [0, 1, 2, 3, 4, 5, 6, 7, 8, 9, 10, 11, 12] rfl rfl) ?_
            refine an_iconst 1 d143_265 rfl ?_
            refine as_goto 270 d143_266 (by decide) ?_
            refine as_istore d143_270 (by decide) ?_
            refine as_goto 102 d143_272 (by decide) ?_
            refine AW.loc [(0, .ref (189)), (2, .int (nI ((t) / (4)))), (3, .int (nI ((x (i + 1)).2.1))), (4, .int (nI ((x (i + 1)).2.2))), (5, .int (nI ((((6) - ((x (i + 1)).2.1)) - ((x (i + 1)).2.2)) - ((t) % (4))))), (6, .int (nI (16 * (k / 6) + 4 * fE (k % 6) + tE (k % 6)))), (7, .int (nI (fE (5 - k % 6)))), (8, .int (nI (1)))] (am_pick [10, 3, 2, 1, 4, 11, 12, 0] rfl rfl) ?_
            have ih := ih ((T).sl 198 (((6) * (r)) + (prOf mt (x i).1)) (((T).2.2.1 198 (((6) * (r)) + (prOf mt (x i).1))) + ((-1)))) (hst)
            have e2 : (x (i + 1)).1 / 4 = (t) / (4) := by omega
            have e5 : (x (i + 1)).1 % 4 = (((6) - ((x (i + 1)).2.1)) - ((x (i + 1)).2.2)) - ((t) % (4)) := by omega
            rw [e2, e5] at ih
            exact ih
          · refine as_iload d143_258 rfl ?_
            refine as_iload d143_260 rfl ?_
            refine an_icmp_eq 269 d143_262 (by decide) (by omega) (by omega) (fun c262 => absurd (ws_eq (hx.v hG hk (i + 1) (by omega)) hk (by omega) (by omega)) (hx.2.1 i hi).2) (fun c262 => ?_)
            refine AW.loc [(4, .int (nI ((x (i + 1)).2.2))), (3, .int (nI ((x (i + 1)).2.1))), (2, .int (nI ((t) / (4)))), (5, .int (nI ((((6) - ((x (i + 1)).2.1)) - ((x (i + 1)).2.2)) - ((t) % (4))))), (13, .int (nI ((x (i + 1)).2.2))), (12, .int (nI ((x (i + 1)).2.1))), (11, .int (nI ((t) % (4)))), (10, .int (nI ((t) / (4)))), (9, .int (nI ((x i).1))), (0, .ref (189)), (6, .int (nI (16 * (k / 6) + 4 * fE (k % 6) + tE (k % 6)))), (7, .int (nI (fE (5 - k % 6)))), (8, .int (nI (1)))] (am_pick [0, 1, 2, 3, 4, 5, 6, 7, 8, 9, 10, 11, 12] rfl rfl) ?_
            refine an_iconst 1 d143_265 rfl ?_
            refine as_goto 270 d143_266 (by decide) ?_
            refine as_istore d143_270 (by decide) ?_
            refine as_goto 102 d143_272 (by decide) ?_
            refine AW.loc [(0, .ref (189)), (2, .int (nI ((t) / (4)))), (3, .int (nI ((x (i + 1)).2.1))), (4, .int (nI ((x (i + 1)).2.2))), (5, .int (nI ((((6) - ((x (i + 1)).2.1)) - ((x (i + 1)).2.2)) - ((t) % (4))))), (6, .int (nI (16 * (k / 6) + 4 * fE (k % 6) + tE (k % 6)))), (7, .int (nI (fE (5 - k % 6)))), (8, .int (nI (1)))] (am_pick [10, 3, 2, 1, 4, 11, 12, 0] rfl rfl) ?_
            have ih := ih ((T).sl 198 (((6) * (r)) + (prOf mt (x i).1)) (((T).2.2.1 198 (((6) * (r)) + (prOf mt (x i).1))) + ((-1)))) (hst)
            have e2 : (x (i + 1)).1 / 4 = (t) / (4) := by omega
            have e5 : (x (i + 1)).1 % 4 = (((6) - ((x (i + 1)).2.1)) - ((x (i + 1)).2.2)) - ((t) % (4)) := by omega
            rw [e2, e5] at ih
            exact ih
        · have hsg : Int64.ofInt (sgW mt (x i).1) = Int64.ofNat 1 := by unfold sgW; rw [if_pos (prN_t e0 (by omega))]; rfl
          refine as_lconst d143_161 ?_
          refine as_goto 168 d143_162 (by decide) ?_
          refine as_ladd d143_168 ?_
          refine ap_last d143_169 (fun _ _ _ _ => rfl) (by decide) (by omega) (by decide) ?_
          have hst := hI.step (d := sgW mt (x i).1) hpr hm (congrArg (fun z => T.2.2.1 198 (6 * r + prOf mt (x i).1) + z) hsg.symm)
          refine as_aload_n d143_170 rfl ?_
          refine ap_get d143_171 f143_7 (by decide) rfl rfl ?_
          refine as_iload d143_174 rfl ?_
          refine ap_iald d143_176 (fun _ _ _ _ => rfl) (by decide) (by omega) (by decide) ?_
          refine an_top (e' := nI (t)) ((hRT.2.1 _ hs12).trans (by rw [e0]; rfl)) ?_
          refine an_iconst 4 d143_177 rfl ?_
          refine an_idiv d143_178 (by omega) (by omega) (by omega) ?_
          refine as_istore d143_179 (by decide) ?_
          refine AW.loc [(10, .int (nI ((t) / (4)))), (9, .int (nI ((x i).1))), (0, .ref (189)), (2, .int (nI ((x (i)).1 / 4))), (3, .int (nI ((x (i)).2.1))), (4, .int (nI ((x (i)).2.2))), (5, .int (nI ((x (i)).1 % 4))), (6, .int (nI (16 * (k / 6) + 4 * fE (k % 6) + tE (k % 6)))), (7, .int (nI (fE (5 - k % 6)))), (8, .int (nI (1)))] (am_pick [0, 1, 2, 3, 4, 5, 6, 7, 8, 9] rfl rfl) ?_
          refine as_aload_n d143_181 rfl ?_
          refine ap_get d143_182 f143_7 (by decide) rfl rfl ?_
          refine as_iload d143_185 rfl ?_
          refine ap_iald d143_187 (fun _ _ _ _ => rfl) (by decide) (by omega) (by decide) ?_
          refine an_top (e' := nI (t)) ((hRT.2.1 _ hs12).trans (by rw [e0]; rfl)) ?_
          refine an_iconst 4 d143_188 rfl ?_
          refine an_irem d143_189 (by omega) (by omega) (by omega) ?_
          refine as_istore d143_190 (by decide) ?_
          refine AW.loc [(11, .int (nI ((t) % (4)))), (10, .int (nI ((t) / (4)))), (9, .int (nI ((x i).1))), (0, .ref (189)), (2, .int (nI ((x (i)).1 / 4))), (3, .int (nI ((x (i)).2.1))), (4, .int (nI ((x (i)).2.2))), (5, .int (nI ((x (i)).1 % 4))), (6, .int (nI (16 * (k / 6) + 4 * fE (k % 6) + tE (k % 6)))), (7, .int (nI (fE (5 - k % 6)))), (8, .int (nI (1)))] (am_pick [0, 1, 2, 3, 4, 5, 6, 7, 8, 9, 10] rfl rfl) ?_
          refine as_aload_n d143_192 rfl ?_
          refine ap_get d143_193 f143_13 (by decide) rfl rfl ?_
          refine an_iconst 4 d143_196 rfl ?_
          refine as_iload d143_197 rfl ?_
          refine an_imul d143_199 ?_
          refine as_iload_n d143_200 rfl ?_
          refine an_iadd d143_201 ?_
          refine ap_iald d143_202 (fun _ _ _ _ => rfl) (by decide) (by omega) (by decide) ?_
          refine an_top (e' := nI ((x (i + 1)).2.1)) ((hRT.2.2 _ _ _ hs12 e0 (by omega)).trans (congrArg nI b5.symm)) ?_
          refine as_istore d143_203 (by decide) ?_
          refine AW.loc [(12, .int (nI ((x (i + 1)).2.1))), (11, .int (nI ((t) % (4)))), (10, .int (nI ((t) / (4)))), (9, .int (nI ((x i).1))), (0, .ref (189)), (2, .int (nI ((x (i)).1 / 4))), (3, .int (nI ((x (i)).2.1))), (4, .int (nI ((x (i)).2.2))), (5, .int (nI ((x (i)).1 % 4))), (6, .int (nI (16 * (k / 6) + 4 * fE (k % 6) + tE (k % 6)))), (7, .int (nI (fE (5 - k % 6)))), (8, .int (nI (1)))] (am_pick [0, 1, 2, 3, 4, 5, 6, 7, 8, 9, 10, 11] rfl rfl) ?_
          refine as_aload_n d143_205 rfl ?_
          refine ap_get d143_206 f143_13 (by decide) rfl rfl ?_
          refine an_iconst 4 d143_209 rfl ?_
          refine as_iload d143_210 rfl ?_
          refine an_imul d143_212 ?_
          refine as_iload d143_213 rfl ?_
          refine an_iadd d143_215 ?_
          refine ap_iald d143_216 (fun _ _ _ _ => rfl) (by decide) (by omega) (by decide) ?_
          refine an_top (e' := nI ((x (i + 1)).2.2)) ((hRT.2.2 _ _ _ hs12 e0 (by omega)).trans (congrArg nI b6.symm)) ?_
          refine as_istore d143_217 (by decide) ?_
          refine AW.loc [(13, .int (nI ((x (i + 1)).2.2))), (12, .int (nI ((x (i + 1)).2.1))), (11, .int (nI ((t) % (4)))), (10, .int (nI ((t) / (4)))), (9, .int (nI ((x i).1))), (0, .ref (189)), (2, .int (nI ((x (i)).1 / 4))), (3, .int (nI ((x (i)).2.1))), (4, .int (nI ((x (i)).2.2))), (5, .int (nI ((x (i)).1 % 4))), (6, .int (nI (16 * (k / 6) + 4 * fE (k % 6) + tE (k % 6)))), (7, .int (nI (fE (5 - k % 6)))), (8, .int (nI (1)))] (am_pick [0, 1, 2, 3, 4, 5, 6, 7, 8, 9, 10, 11, 12] rfl rfl) ?_
          refine an_bipush 6 d143_219 rfl ?_
          refine as_iload d143_221 rfl ?_
          refine an_isub d143_223 (by omega) ?_
          refine as_iload d143_224 rfl ?_
          refine an_isub d143_226 (by omega) ?_
          refine as_iload d143_227 rfl ?_
          refine an_isub d143_229 (by omega) ?_
          refine as_istore d143_230 (by decide) ?_
          refine AW.loc [(5, .int (nI ((((6) - ((x (i + 1)).2.1)) - ((x (i + 1)).2.2)) - ((t) % (4))))), (13, .int (nI ((x (i + 1)).2.2))), (12, .int (nI ((x (i + 1)).2.1))), (11, .int (nI ((t) % (4)))), (10, .int (nI ((t) / (4)))), (9, .int (nI ((x i).1))), (0, .ref (189)), (2, .int (nI ((x (i)).1 / 4))), (3, .int (nI ((x (i)).2.1))), (4, .int (nI ((x (i)).2.2))), (6, .int (nI (16 * (k / 6) + 4 * fE (k % 6) + tE (k % 6)))), (7, .int (nI (fE (5 - k % 6)))), (8, .int (nI (1)))] (am_pick [0, 1, 2, 3, 4, 5, 6, 7, 8, 9, 10, 11, 12] rfl rfl) ?_
          refine as_iload d143_232 rfl ?_
          refine as_istore_n d143_234 (by decide) ?_
          refine AW.loc [(2, .int (nI ((t) / (4)))), (5, .int (nI ((((6) - ((x (i + 1)).2.1)) - ((x (i + 1)).2.2)) - ((t) % (4))))), (13, .int (nI ((x (i + 1)).2.2))), (12, .int (nI ((x (i + 1)).2.1))), (11, .int (nI ((t) % (4)))), (10, .int (nI ((t) / (4)))), (9, .int (nI ((x i).1))), (0, .ref (189)), (3, .int (nI ((x (i)).2.1))), (4, .int (nI ((x (i)).2.2))), (6, .int (nI (16 * (k / 6) + 4 * fE (k % 6) + tE (k % 6)))), (7, .int (nI (fE (5 - k % 6)))), (8, .int (nI (1)))] (am_pick [0, 1, 2, 3, 4, 5, 6, 7, 8, 9, 10, 11, 12] rfl rfl) ?_
          refine as_iload d143_235 rfl ?_
          refine as_istore_n d143_237 (by decide) ?_
          refine AW.loc [(3, .int (nI ((x (i + 1)).2.1))), (2, .int (nI ((t) / (4)))), (5, .int (nI ((((6) - ((x (i + 1)).2.1)) - ((x (i + 1)).2.2)) - ((t) % (4))))), (13, .int (nI ((x (i + 1)).2.2))), (12, .int (nI ((x (i + 1)).2.1))), (11, .int (nI ((t) % (4)))), (10, .int (nI ((t) / (4)))), (9, .int (nI ((x i).1))), (0, .ref (189)), (4, .int (nI ((x (i)).2.2))), (6, .int (nI (16 * (k / 6) + 4 * fE (k % 6) + tE (k % 6)))), (7, .int (nI (fE (5 - k % 6)))), (8, .int (nI (1)))] (am_pick [0, 1, 2, 3, 4, 5, 6, 7, 8, 9, 10, 11, 12] rfl rfl) ?_
          refine as_iload d143_238 rfl ?_
          refine as_istore d143_240 (by decide) ?_
          refine AW.loc [(4, .int (nI ((x (i + 1)).2.2))), (3, .int (nI ((x (i + 1)).2.1))), (2, .int (nI ((t) / (4)))), (5, .int (nI ((((6) - ((x (i + 1)).2.1)) - ((x (i + 1)).2.2)) - ((t) % (4))))), (13, .int (nI ((x (i + 1)).2.2))), (12, .int (nI ((x (i + 1)).2.1))), (11, .int (nI ((t) % (4)))), (10, .int (nI ((t) / (4)))), (9, .int (nI ((x i).1))), (0, .ref (189)), (6, .int (nI (16 * (k / 6) + 4 * fE (k % 6) + tE (k % 6)))), (7, .int (nI (fE (5 - k % 6)))), (8, .int (nI (1)))] (am_pick [0, 1, 2, 3, 4, 5, 6, 7, 8, 9, 10, 11, 12] rfl rfl) ?_
          refine an_bipush 16 d143_242 rfl ?_
          refine as_iload_n d143_244 rfl ?_
          refine an_imul d143_245 ?_
          refine an_iconst 4 d143_246 rfl ?_
          refine as_iload_n d143_247 rfl ?_
          refine an_imul d143_248 ?_
          refine an_iadd d143_249 ?_
          refine as_iload d143_250 rfl ?_
          refine an_iadd d143_252 ?_
          refine as_iload d143_253 rfl ?_
          refine an_icmp_ne 265 d143_255 (by decide) (by omega) (by omega) (fun c255 => ?_) (fun c255 => ?_)
          · skip
            refine AW.loc [(4, .int (nI ((x (i + 1)).2.2))), (3, .int (nI ((x (i + 1)).2.1))), (2, .int (nI ((t) / (4)))), (5, .int (nI ((((6) - ((x (i + 1)).2.1)) - ((x (i + 1)).2.2)) - ((t) % (4))))), (13, .int (nI ((x (i + 1)).2.2))), (12, .int (nI ((x (i + 1)).2.1))), (11, .int (nI ((t) % (4)))), (10, .int (nI ((t) / (4)))), (9, .int (nI ((x i).1))), (0, .ref (189)), (6, .int (nI (16 * (k / 6) + 4 * fE (k % 6) + tE (k % 6)))), (7, .int (nI (fE (5 - k % 6)))), (8, .int (nI (1)))] (am_pick [0, 1, 2, 3, 4, 5, 6, 7, 8, 9, 10, 11, 12] rfl rfl) ?_
            refine an_iconst 1 d143_265 rfl ?_
            refine as_goto 270 d143_266 (by decide) ?_
            refine as_istore d143_270 (by decide) ?_
            refine as_goto 102 d143_272 (by decide) ?_
            refine AW.loc [(0, .ref (189)), (2, .int (nI ((t) / (4)))), (3, .int (nI ((x (i + 1)).2.1))), (4, .int (nI ((x (i + 1)).2.2))), (5, .int (nI ((((6) - ((x (i + 1)).2.1)) - ((x (i + 1)).2.2)) - ((t) % (4))))), (6, .int (nI (16 * (k / 6) + 4 * fE (k % 6) + tE (k % 6)))), (7, .int (nI (fE (5 - k % 6)))), (8, .int (nI (1)))] (am_pick [10, 3, 2, 1, 4, 11, 12, 0] rfl rfl) ?_
            have ih := ih ((T).sl 198 (((6) * (r)) + (prOf mt (x i).1)) (((T).2.2.1 198 (((6) * (r)) + (prOf mt (x i).1))) + (Int64.ofNat 1))) (hst)
            have e2 : (x (i + 1)).1 / 4 = (t) / (4) := by omega
            have e5 : (x (i + 1)).1 % 4 = (((6) - ((x (i + 1)).2.1)) - ((x (i + 1)).2.2)) - ((t) % (4)) := by omega
            rw [e2, e5] at ih
            exact ih
          · refine as_iload d143_258 rfl ?_
            refine as_iload d143_260 rfl ?_
            refine an_icmp_eq 269 d143_262 (by decide) (by omega) (by omega) (fun c262 => absurd (ws_eq (hx.v hG hk (i + 1) (by omega)) hk (by omega) (by omega)) (hx.2.1 i hi).2) (fun c262 => ?_)
            refine AW.loc [(4, .int (nI ((x (i + 1)).2.2))), (3, .int (nI ((x (i + 1)).2.1))), (2, .int (nI ((t) / (4)))), (5, .int (nI ((((6) - ((x (i + 1)).2.1)) - ((x (i + 1)).2.2)) - ((t) % (4))))), (13, .int (nI ((x (i + 1)).2.2))), (12, .int (nI ((x (i + 1)).2.1))), (11, .int (nI ((t) % (4)))), (10, .int (nI ((t) / (4)))), (9, .int (nI ((x i).1))), (0, .ref (189)), (6, .int (nI (16 * (k / 6) + 4 * fE (k % 6) + tE (k % 6)))), (7, .int (nI (fE (5 - k % 6)))), (8, .int (nI (1)))] (am_pick [0, 1, 2, 3, 4, 5, 6, 7, 8, 9, 10, 11, 12] rfl rfl) ?_
            refine an_iconst 1 d143_265 rfl ?_
            refine as_goto 270 d143_266 (by decide) ?_
            refine as_istore d143_270 (by decide) ?_
            refine as_goto 102 d143_272 (by decide) ?_
            refine AW.loc [(0, .ref (189)), (2, .int (nI ((t) / (4)))), (3, .int (nI ((x (i + 1)).2.1))), (4, .int (nI ((x (i + 1)).2.2))), (5, .int (nI ((((6) - ((x (i + 1)).2.1)) - ((x (i + 1)).2.2)) - ((t) % (4))))), (6, .int (nI (16 * (k / 6) + 4 * fE (k % 6) + tE (k % 6)))), (7, .int (nI (fE (5 - k % 6)))), (8, .int (nI (1)))] (am_pick [10, 3, 2, 1, 4, 11, 12, 0] rfl rfl) ?_
            have ih := ih ((T).sl 198 (((6) * (r)) + (prOf mt (x i).1)) (((T).2.2.1 198 (((6) * (r)) + (prOf mt (x i).1))) + (Int64.ofNat 1))) (hst)
            have e2 : (x (i + 1)).1 / 4 = (t) / (4) := by omega
            have e5 : (x (i + 1)).1 % 4 = (((6) - ((x (i + 1)).2.1)) - ((x (i + 1)).2.2)) - ((t) % (4)) := by omega
            rw [e2, e5] at ih
            exact ih
      · rcases hx.2.2 with e0 | he
        · have hv := hx.v hG hk n (Nat.le_refl n)
          have hs12 := hv.1
          have hRT := hR.gr hX
          refine as_iload d143_102 rfl ?_
          refine an_if_eq 275 d143_104 (by decide) (by omega) (fun c104 => absurd c104 (by decide)) (fun c104 => ?_)
          refine an_iconst 4 d143_107 rfl ?_
          refine as_iload_n d143_108 rfl ?_
          refine an_imul d143_109 ?_
          refine as_iload d143_110 rfl ?_
          refine an_iadd d143_112 ?_
          refine an_top (e' := nI ((x n).1)) (congrArg nI (by omega)) ?_
          refine as_istore d143_113 (by decide) ?_
          refine as_aload_n d143_115 rfl ?_
          refine ap_get d143_116 f143_7 (by decide) rfl rfl ?_
          refine as_iload d143_119 rfl ?_
          refine ap_iald d143_121 (fun _ _ _ _ => rfl) (by decide) (by omega) (by decide) ?_
          refine an_top (e' := (-1)) (by rw [hRT.2.1 _ hs12, e0]; rfl) ?_
          refine an_iconstI (-1) d143_122 rfl ?_
          refine as_icmp_ne 128 d143_123 (by decide) (fun c123 => absurd rfl c123) (fun c123 => ?_)
          refine an_iconst 0 d143_126 rfl ?_
          refine as_ireturn d143_127 (by rw [t143]; rfl) ?_
          exact ⟨_, _, rfl, Or.inl ⟨rfl, e0, _, hX⟩⟩
        · have hv := hx.v hG hk (n) (by omega)
          obtain ⟨t, e0, b2, b3, b4, b5, b6, b7, b8, b9, d1, d2, d3, d4, d5⟩ := wst_f hG hv he
          have hpr := prOf_lt hG hv.1 e0
          have hpo : T.2.1 199 (x n).1 = nI (prOf mt (x n).1) := by rw [hX.2.1, prOf_s e0]; exact hPO _ hv.1 _ e0 (by have := hv.1; omega)
          have hs12 := hv.1
          obtain ⟨-, w1, w2, w3, w4, w5⟩ := hv
          have ho4 := oth4 b9 d1 (show t % 4 < 4 by omega) d2 d3 d4
          have hsum : (ws k).2.1 + (ws k).2.2 + t % 4 ≤ 6 := by omega
          have hRT := hR.gr hX
          have y1 : (ws k).1 / 4 = k / 6 := by rw [← z1, hx.1]
          have y2 : (ws k).2.1 = fE (k % 6) := rfl
          have y3 : (ws k).2.2 = tE (k % 6) := rfl
          have y4 : (ws k).1 % 4 = fE (5 - k % 6) := by rw [← z4, hx.1]
          have hcode : 16 * (t / 4) + 4 * (ws k).2.1 + (ws k).2.2 = 16 * (k / 6) + 4 * fE (k % 6) + tE (k % 6) := by omega
          have hside : 6 - (ws k).2.1 - (ws k).2.2 - t % 4 = fE (5 - k % 6) := by omega
          refine as_iload d143_102 rfl ?_
          refine an_if_eq 275 d143_104 (by decide) (by omega) (fun c104 => absurd c104 (by decide)) (fun c104 => ?_)
          refine an_iconst 4 d143_107 rfl ?_
          refine as_iload_n d143_108 rfl ?_
          refine an_imul d143_109 ?_
          refine as_iload d143_110 rfl ?_
          refine an_iadd d143_112 ?_
          refine an_top (e' := nI ((x n).1)) (congrArg nI (by omega)) ?_
          refine as_istore d143_113 (by decide) ?_
          refine AW.loc [(9, .int (nI ((x n).1))), (0, .ref (189)), (2, .int (nI ((x ((n))).1 / 4))), (3, .int (nI ((x ((n))).2.1))), (4, .int (nI ((x ((n))).2.2))), (5, .int (nI ((x ((n))).1 % 4))), (6, .int (nI (16 * (k / 6) + 4 * fE (k % 6) + tE (k % 6)))), (7, .int (nI (fE (5 - k % 6)))), (8, .int (nI (1)))] (am_pick [0, 1, 2, 3, 4, 5, 6, 7, 8] rfl rfl) ?_
          refine as_aload_n d143_115 rfl ?_
          refine ap_get d143_116 f143_7 (by decide) rfl rfl ?_
          refine as_iload d143_119 rfl ?_
          refine ap_iald d143_121 (fun _ _ _ _ => rfl) (by decide) (by omega) (by decide) ?_
          refine an_top (e' := nI (t)) ((hRT.2.1 _ hs12).trans (by rw [e0]; rfl)) ?_
          refine an_iconstI (-1) d143_122 rfl ?_
          refine as_icmp_ne 128 d143_123 (by decide) (fun c123 => ?_) (fun c123 => absurd c123 (nI_ne1 (by omega)))
          refine as_aload_n d143_128 rfl ?_
          refine ap_get d143_129 f143_34 (by decide) rfl rfl ?_
          refine an_bipush 6 d143_132 rfl ?_
          refine as_aload_n d143_134 rfl ?_
          refine ap_get d143_135 f143_162 (by decide) rfl rfl ?_
          refine an_top (e' := nI (r)) ((congrFun (congrFun hX.1 189) 11).trans hr1) ?_
          refine an_imul d143_138 ?_
          refine as_aload_n d143_139 rfl ?_
          refine ap_get d143_140 f143_38 (by decide) rfl rfl ?_
          refine as_iload d143_143 rfl ?_
          refine ap_iald d143_145 (fun _ _ _ _ => rfl) (by decide) (by omega) (by decide) ?_
          refine an_top (e' := nI (prOf mt (x n).1)) (hpo) ?_
          refine an_iadd d143_146 ?_
          refine as_dup2 d143_147 rfl rfl ?_
          refine ap_lald d143_148 (fun _ _ _ _ => rfl) (by decide) (by omega) (by decide) ?_
          refine as_iload d143_149 rfl ?_
          refine as_aload_n d143_151 rfl ?_
          refine ap_get d143_152 f143_7 (by decide) rfl rfl ?_
          refine as_iload d143_155 rfl ?_
          refine ap_iald d143_157 (fun _ _ _ _ => rfl) (by decide) (by omega) (by decide) ?_
          refine an_top (e' := nI (t)) ((hRT.2.1 _ hs12).trans (by rw [e0]; rfl)) ?_
          refine an_icmp_ge 165 d143_158 (by decide) (by omega) (by omega) (fun c158 => ?_) (fun c158 => ?_)
          · have hsg : Int64.ofInt (sgW mt (x n).1) = (-1) := by unfold sgW; rw [if_neg (prN_g e0 (by omega))]; rfl
            refine as_ldc2 (v := (-1)) d143_165 (by decide +kernel) ?_
            refine as_ladd d143_168 ?_
            refine ap_last d143_169 (fun _ _ _ _ => rfl) (by decide) (by omega) (by decide) ?_
            have hst := hX.step (d := sgW mt (x n).1) hpr hm (congrArg (fun z => T.2.2.1 198 (6 * r + prOf mt (x n).1) + z) hsg.symm)
            refine as_aload_n d143_170 rfl ?_
            refine ap_get d143_171 f143_7 (by decide) rfl rfl ?_
            refine as_iload d143_174 rfl ?_
            refine ap_iald d143_176 (fun _ _ _ _ => rfl) (by decide) (by omega) (by decide) ?_
            refine an_top (e' := nI (t)) ((hRT.2.1 _ hs12).trans (by rw [e0]; rfl)) ?_
            refine an_iconst 4 d143_177 rfl ?_
            refine an_idiv d143_178 (by omega) (by omega) (by omega) ?_
            refine as_istore d143_179 (by decide) ?_
            refine AW.loc [(10, .int (nI ((t) / (4)))), (9, .int (nI ((x n).1))), (0, .ref (189)), (2, .int (nI ((x ((n))).1 / 4))), (3, .int (nI ((x ((n))).2.1))), (4, .int (nI ((x ((n))).2.2))), (5, .int (nI ((x ((n))).1 % 4))), (6, .int (nI (16 * (k / 6) + 4 * fE (k % 6) + tE (k % 6)))), (7, .int (nI (fE (5 - k % 6)))), (8, .int (nI (1)))] (am_pick [0, 1, 2, 3, 4, 5, 6, 7, 8, 9] rfl rfl) ?_
            refine as_aload_n d143_181 rfl ?_
            refine ap_get d143_182 f143_7 (by decide) rfl rfl ?_
            refine as_iload d143_185 rfl ?_
            refine ap_iald d143_187 (fun _ _ _ _ => rfl) (by decide) (by omega) (by decide) ?_
            refine an_top (e' := nI (t)) ((hRT.2.1 _ hs12).trans (by rw [e0]; rfl)) ?_
            refine an_iconst 4 d143_188 rfl ?_
            refine an_irem d143_189 (by omega) (by omega) (by omega) ?_
            refine as_istore d143_190 (by decide) ?_
            refine AW.loc [(11, .int (nI ((t) % (4)))), (10, .int (nI ((t) / (4)))), (9, .int (nI ((x n).1))), (0, .ref (189)), (2, .int (nI ((x ((n))).1 / 4))), (3, .int (nI ((x ((n))).2.1))), (4, .int (nI ((x ((n))).2.2))), (5, .int (nI ((x ((n))).1 % 4))), (6, .int (nI (16 * (k / 6) + 4 * fE (k % 6) + tE (k % 6)))), (7, .int (nI (fE (5 - k % 6)))), (8, .int (nI (1)))] (am_pick [0, 1, 2, 3, 4, 5, 6, 7, 8, 9, 10] rfl rfl) ?_
            refine as_aload_n d143_192 rfl ?_
            refine ap_get d143_193 f143_13 (by decide) rfl rfl ?_
            refine an_iconst 4 d143_196 rfl ?_
            refine as_iload d143_197 rfl ?_
            refine an_imul d143_199 ?_
            refine as_iload_n d143_200 rfl ?_
            refine an_iadd d143_201 ?_
            refine ap_iald d143_202 (fun _ _ _ _ => rfl) (by decide) (by omega) (by decide) ?_
            refine an_top (e' := nI ((ws k).2.1)) ((hRT.2.2 _ _ _ hs12 e0 (by omega)).trans (congrArg nI b5.symm)) ?_
            refine as_istore d143_203 (by decide) ?_
            refine AW.loc [(12, .int (nI ((ws k).2.1))), (11, .int (nI ((t) % (4)))), (10, .int (nI ((t) / (4)))), (9, .int (nI ((x n).1))), (0, .ref (189)), (2, .int (nI ((x ((n))).1 / 4))), (3, .int (nI ((x ((n))).2.1))), (4, .int (nI ((x ((n))).2.2))), (5, .int (nI ((x ((n))).1 % 4))), (6, .int (nI (16 * (k / 6) + 4 * fE (k % 6) + tE (k % 6)))), (7, .int (nI (fE (5 - k % 6)))), (8, .int (nI (1)))] (am_pick [0, 1, 2, 3, 4, 5, 6, 7, 8, 9, 10, 11] rfl rfl) ?_
            refine as_aload_n d143_205 rfl ?_
            refine ap_get d143_206 f143_13 (by decide) rfl rfl ?_
            refine an_iconst 4 d143_209 rfl ?_
            refine as_iload d143_210 rfl ?_
            refine an_imul d143_212 ?_
            refine as_iload d143_213 rfl ?_
            refine an_iadd d143_215 ?_
            refine ap_iald d143_216 (fun _ _ _ _ => rfl) (by decide) (by omega) (by decide) ?_
            refine an_top (e' := nI ((ws k).2.2)) ((hRT.2.2 _ _ _ hs12 e0 (by omega)).trans (congrArg nI b6.symm)) ?_
            refine as_istore d143_217 (by decide) ?_
            refine AW.loc [(13, .int (nI ((ws k).2.2))), (12, .int (nI ((ws k).2.1))), (11, .int (nI ((t) % (4)))), (10, .int (nI ((t) / (4)))), (9, .int (nI ((x n).1))), (0, .ref (189)), (2, .int (nI ((x ((n))).1 / 4))), (3, .int (nI ((x ((n))).2.1))), (4, .int (nI ((x ((n))).2.2))), (5, .int (nI ((x ((n))).1 % 4))), (6, .int (nI (16 * (k / 6) + 4 * fE (k % 6) + tE (k % 6)))), (7, .int (nI (fE (5 - k % 6)))), (8, .int (nI (1)))] (am_pick [0, 1, 2, 3, 4, 5, 6, 7, 8, 9, 10, 11, 12] rfl rfl) ?_
            refine an_bipush 6 d143_219 rfl ?_
            refine as_iload d143_221 rfl ?_
            refine an_isub d143_223 (by omega) ?_
            refine as_iload d143_224 rfl ?_
            refine an_isub d143_226 (by omega) ?_
            refine as_iload d143_227 rfl ?_
            refine an_isub d143_229 (by omega) ?_
            refine as_istore d143_230 (by decide) ?_
            refine AW.loc [(5, .int (nI ((((6) - ((ws k).2.1)) - ((ws k).2.2)) - ((t) % (4))))), (13, .int (nI ((ws k).2.2))), (12, .int (nI ((ws k).2.1))), (11, .int (nI ((t) % (4)))), (10, .int (nI ((t) / (4)))), (9, .int (nI ((x n).1))), (0, .ref (189)), (2, .int (nI ((x ((n))).1 / 4))), (3, .int (nI ((x ((n))).2.1))), (4, .int (nI ((x ((n))).2.2))), (6, .int (nI (16 * (k / 6) + 4 * fE (k % 6) + tE (k % 6)))), (7, .int (nI (fE (5 - k % 6)))), (8, .int (nI (1)))] (am_pick [0, 1, 2, 3, 4, 5, 6, 7, 8, 9, 10, 11, 12] rfl rfl) ?_
            refine as_iload d143_232 rfl ?_
            refine as_istore_n d143_234 (by decide) ?_
            refine AW.loc [(2, .int (nI ((t) / (4)))), (5, .int (nI ((((6) - ((ws k).2.1)) - ((ws k).2.2)) - ((t) % (4))))), (13, .int (nI ((ws k).2.2))), (12, .int (nI ((ws k).2.1))), (11, .int (nI ((t) % (4)))), (10, .int (nI ((t) / (4)))), (9, .int (nI ((x n).1))), (0, .ref (189)), (3, .int (nI ((x ((n))).2.1))), (4, .int (nI ((x ((n))).2.2))), (6, .int (nI (16 * (k / 6) + 4 * fE (k % 6) + tE (k % 6)))), (7, .int (nI (fE (5 - k % 6)))), (8, .int (nI (1)))] (am_pick [0, 1, 2, 3, 4, 5, 6, 7, 8, 9, 10, 11, 12] rfl rfl) ?_
            refine as_iload d143_235 rfl ?_
            refine as_istore_n d143_237 (by decide) ?_
            refine AW.loc [(3, .int (nI ((ws k).2.1))), (2, .int (nI ((t) / (4)))), (5, .int (nI ((((6) - ((ws k).2.1)) - ((ws k).2.2)) - ((t) % (4))))), (13, .int (nI ((ws k).2.2))), (12, .int (nI ((ws k).2.1))), (11, .int (nI ((t) % (4)))), (10, .int (nI ((t) / (4)))), (9, .int (nI ((x n).1))), (0, .ref (189)), (4, .int (nI ((x ((n))).2.2))), (6, .int (nI (16 * (k / 6) + 4 * fE (k % 6) + tE (k % 6)))), (7, .int (nI (fE (5 - k % 6)))), (8, .int (nI (1)))] (am_pick [0, 1, 2, 3, 4, 5, 6, 7, 8, 9, 10, 11, 12] rfl rfl) ?_
            refine as_iload d143_238 rfl ?_
            refine as_istore d143_240 (by decide) ?_
            refine AW.loc [(4, .int (nI ((ws k).2.2))), (3, .int (nI ((ws k).2.1))), (2, .int (nI ((t) / (4)))), (5, .int (nI ((((6) - ((ws k).2.1)) - ((ws k).2.2)) - ((t) % (4))))), (13, .int (nI ((ws k).2.2))), (12, .int (nI ((ws k).2.1))), (11, .int (nI ((t) % (4)))), (10, .int (nI ((t) / (4)))), (9, .int (nI ((x n).1))), (0, .ref (189)), (6, .int (nI (16 * (k / 6) + 4 * fE (k % 6) + tE (k % 6)))), (7, .int (nI (fE (5 - k % 6)))), (8, .int (nI (1)))] (am_pick [0, 1, 2, 3, 4, 5, 6, 7, 8, 9, 10, 11, 12] rfl rfl) ?_
            refine an_bipush 16 d143_242 rfl ?_
            refine as_iload_n d143_244 rfl ?_
            refine an_imul d143_245 ?_
            refine an_iconst 4 d143_246 rfl ?_
            refine as_iload_n d143_247 rfl ?_
            refine an_imul d143_248 ?_
            refine an_iadd d143_249 ?_
            refine as_iload d143_250 rfl ?_
            refine an_iadd d143_252 ?_
            refine as_iload d143_253 rfl ?_
            refine an_icmp_ne 265 d143_255 (by decide) (by omega) (by omega) (fun c255 => absurd hcode c255) (fun c255 => ?_)
            refine as_iload d143_258 rfl ?_
            refine as_iload d143_260 rfl ?_
            refine an_icmp_eq 269 d143_262 (by decide) (by omega) (by omega) (fun c262 => ?_) (fun c262 => absurd hside c262)
            refine an_iconst 0 d143_269 rfl ?_
            refine as_istore d143_270 (by decide) ?_
            refine as_goto 102 d143_272 (by decide) ?_
            refine as_iload d143_102 rfl ?_
            refine an_if_eq 275 d143_104 (by decide) (by omega) (fun c104 => ?_) (fun c104 => absurd c104 (by decide))
            refine an_iconst 1 d143_275 rfl ?_
            refine as_ireturn d143_276 (by rw [t143]; rfl) ?_
            exact ⟨_, _, rfl, Or.inr ⟨rfl, he, hst⟩⟩
          · have hsg : Int64.ofInt (sgW mt (x n).1) = Int64.ofNat 1 := by unfold sgW; rw [if_pos (prN_t e0 (by omega))]; rfl
            refine as_lconst d143_161 ?_
            refine as_goto 168 d143_162 (by decide) ?_
            refine as_ladd d143_168 ?_
            refine ap_last d143_169 (fun _ _ _ _ => rfl) (by decide) (by omega) (by decide) ?_
            have hst := hX.step (d := sgW mt (x n).1) hpr hm (congrArg (fun z => T.2.2.1 198 (6 * r + prOf mt (x n).1) + z) hsg.symm)
            refine as_aload_n d143_170 rfl ?_
            refine ap_get d143_171 f143_7 (by decide) rfl rfl ?_
            refine as_iload d143_174 rfl ?_
            refine ap_iald d143_176 (fun _ _ _ _ => rfl) (by decide) (by omega) (by decide) ?_
            refine an_top (e' := nI (t)) ((hRT.2.1 _ hs12).trans (by rw [e0]; rfl)) ?_
            refine an_iconst 4 d143_177 rfl ?_
            refine an_idiv d143_178 (by omega) (by omega) (by omega) ?_
            refine as_istore d143_179 (by decide) ?_
            refine AW.loc [(10, .int (nI ((t) / (4)))), (9, .int (nI ((x n).1))), (0, .ref (189)), (2, .int (nI ((x ((n))).1 / 4))), (3, .int (nI ((x ((n))).2.1))), (4, .int (nI ((x ((n))).2.2))), (5, .int (nI ((x ((n))).1 % 4))), (6, .int (nI (16 * (k / 6) + 4 * fE (k % 6) + tE (k % 6)))), (7, .int (nI (fE (5 - k % 6)))), (8, .int (nI (1)))] (am_pick [0, 1, 2, 3, 4, 5, 6, 7, 8, 9] rfl rfl) ?_
            refine as_aload_n d143_181 rfl ?_
            refine ap_get d143_182 f143_7 (by decide) rfl rfl ?_
            refine as_iload d143_185 rfl ?_
            refine ap_iald d143_187 (fun _ _ _ _ => rfl) (by decide) (by omega) (by decide) ?_
            refine an_top (e' := nI (t)) ((hRT.2.1 _ hs12).trans (by rw [e0]; rfl)) ?_
            refine an_iconst 4 d143_188 rfl ?_
            refine an_irem d143_189 (by omega) (by omega) (by omega) ?_
            refine as_istore d143_190 (by decide) ?_
            refine AW.loc [(11, .int (nI ((t) % (4)))), (10, .int (nI ((t) / (4)))), (9, .int (nI ((x n).1))), (0, .ref (189)), (2, .int (nI ((x ((n))).1 / 4))), (3, .int (nI ((x ((n))).2.1))), (4, .int (nI ((x ((n))).2.2))), (5, .int (nI ((x ((n))).1 % 4))), (6, .int (nI (16 * (k / 6) + 4 * fE (k % 6) + tE (k % 6)))), (7, .int (nI (fE (5 - k % 6)))), (8, .int (nI (1)))] (am_pick [0, 1, 2, 3, 4, 5, 6, 7, 8, 9, 10] rfl rfl) ?_
            refine as_aload_n d143_192 rfl ?_
            refine ap_get d143_193 f143_13 (by decide) rfl rfl ?_
            refine an_iconst 4 d143_196 rfl ?_
            refine as_iload d143_197 rfl ?_
            refine an_imul d143_199 ?_
            refine as_iload_n d143_200 rfl ?_
            refine an_iadd d143_201 ?_
            refine ap_iald d143_202 (fun _ _ _ _ => rfl) (by decide) (by omega) (by decide) ?_
            refine an_top (e' := nI ((ws k).2.1)) ((hRT.2.2 _ _ _ hs12 e0 (by omega)).trans (congrArg nI b5.symm)) ?_
            refine as_istore d143_203 (by decide) ?_
            refine AW.loc [(12, .int (nI ((ws k).2.1))), (11, .int (nI ((t) % (4)))), (10, .int (nI ((t) / (4)))), (9, .int (nI ((x n).1))), (0, .ref (189)), (2, .int (nI ((x ((n))).1 / 4))), (3, .int (nI ((x ((n))).2.1))), (4, .int (nI ((x ((n))).2.2))), (5, .int (nI ((x ((n))).1 % 4))), (6, .int (nI (16 * (k / 6) + 4 * fE (k % 6) + tE (k % 6)))), (7, .int (nI (fE (5 - k % 6)))), (8, .int (nI (1)))] (am_pick [0, 1, 2, 3, 4, 5, 6, 7, 8, 9, 10, 11] rfl rfl) ?_
            refine as_aload_n d143_205 rfl ?_
            refine ap_get d143_206 f143_13 (by decide) rfl rfl ?_
            refine an_iconst 4 d143_209 rfl ?_
            refine as_iload d143_210 rfl ?_
            refine an_imul d143_212 ?_
            refine as_iload d143_213 rfl ?_
            refine an_iadd d143_215 ?_
            refine ap_iald d143_216 (fun _ _ _ _ => rfl) (by decide) (by omega) (by decide) ?_
            refine an_top (e' := nI ((ws k).2.2)) ((hRT.2.2 _ _ _ hs12 e0 (by omega)).trans (congrArg nI b6.symm)) ?_
            refine as_istore d143_217 (by decide) ?_
            refine AW.loc [(13, .int (nI ((ws k).2.2))), (12, .int (nI ((ws k).2.1))), (11, .int (nI ((t) % (4)))), (10, .int (nI ((t) / (4)))), (9, .int (nI ((x n).1))), (0, .ref (189)), (2, .int (nI ((x ((n))).1 / 4))), (3, .int (nI ((x ((n))).2.1))), (4, .int (nI ((x ((n))).2.2))), (5, .int (nI ((x ((n))).1 % 4))), (6, .int (nI (16 * (k / 6) + 4 * fE (k % 6) + tE (k % 6)))), (7, .int (nI (fE (5 - k % 6)))), (8, .int (nI (1)))] (am_pick [0, 1, 2, 3, 4, 5, 6, 7, 8, 9, 10, 11, 12] rfl rfl) ?_
            refine an_bipush 6 d143_219 rfl ?_
            refine as_iload d143_221 rfl ?_
            refine an_isub d143_223 (by omega) ?_
            refine as_iload d143_224 rfl ?_
            refine an_isub d143_226 (by omega) ?_
            refine as_iload d143_227 rfl ?_
            refine an_isub d143_229 (by omega) ?_
            refine as_istore d143_230 (by decide) ?_
            refine AW.loc [(5, .int (nI ((((6) - ((ws k).2.1)) - ((ws k).2.2)) - ((t) % (4))))), (13, .int (nI ((ws k).2.2))), (12, .int (nI ((ws k).2.1))), (11, .int (nI ((t) % (4)))), (10, .int (nI ((t) / (4)))), (9, .int (nI ((x n).1))), (0, .ref (189)), (2, .int (nI ((x ((n))).1 / 4))), (3, .int (nI ((x ((n))).2.1))), (4, .int (nI ((x ((n))).2.2))), (6, .int (nI (16 * (k / 6) + 4 * fE (k % 6) + tE (k % 6)))), (7, .int (nI (fE (5 - k % 6)))), (8, .int (nI (1)))] (am_pick [0, 1, 2, 3, 4, 5, 6, 7, 8, 9, 10, 11, 12] rfl rfl) ?_
            refine as_iload d143_232 rfl ?_
            refine as_istore_n d143_234 (by decide) ?_
            refine AW.loc [(2, .int (nI ((t) / (4)))), (5, .int (nI ((((6) - ((ws k).2.1)) - ((ws k).2.2)) - ((t) % (4))))), (13, .int (nI ((ws k).2.2))), (12, .int (nI ((ws k).2.1))), (11, .int (nI ((t) % (4)))), (10, .int (nI ((t) / (4)))), (9, .int (nI ((x n).1))), (0, .ref (189)), (3, .int (nI ((x ((n))).2.1))), (4, .int (nI ((x ((n))).2.2))), (6, .int (nI (16 * (k / 6) + 4 * fE (k % 6) + tE (k % 6)))), (7, .int (nI (fE (5 - k % 6)))), (8, .int (nI (1)))] (am_pick [0, 1, 2, 3, 4, 5, 6, 7, 8, 9, 10, 11, 12] rfl rfl) ?_
            refine as_iload d143_235 rfl ?_
            refine as_istore_n d143_237 (by decide) ?_
            refine AW.loc [(3, .int (nI ((ws k).2.1))), (2, .int (nI ((t) / (4)))), (5, .int (nI ((((6) - ((ws k).2.1)) - ((ws k).2.2)) - ((t) % (4))))), (13, .int (nI ((ws k).2.2))), (12, .int (nI ((ws k).2.1))), (11, .int (nI ((t) % (4)))), (10, .int (nI ((t) / (4)))), (9, .int (nI ((x n).1))), (0, .ref (189)), (4, .int (nI ((x ((n))).2.2))), (6, .int (nI (16 * (k / 6) + 4 * fE (k % 6) + tE (k % 6)))), (7, .int (nI (fE (5 - k % 6)))), (8, .int (nI (1)))] (am_pick [0, 1, 2, 3, 4, 5, 6, 7, 8, 9, 10, 11, 12] rfl rfl) ?_
            refine as_iload d143_238 rfl ?_
            refine as_istore d143_240 (by decide) ?_
            refine AW.loc [(4, .int (nI ((ws k).2.2))), (3, .int (nI ((ws k).2.1))), (2, .int (nI ((t) / (4)))), (5, .int (nI ((((6) - ((ws k).2.1)) - ((ws k).2.2)) - ((t) % (4))))), (13, .int (nI ((ws k).2.2))), (12, .int (nI ((ws k).2.1))), (11, .int (nI ((t) % (4)))), (10, .int (nI ((t) / (4)))), (9, .int (nI ((x n).1))), (0, .ref (189)), (6, .int (nI (16 * (k / 6) + 4 * fE (k % 6) + tE (k % 6)))), (7, .int (nI (fE (5 - k % 6)))), (8, .int (nI (1)))] (am_pick [0, 1, 2, 3, 4, 5, 6, 7, 8, 9, 10, 11, 12] rfl rfl) ?_
            refine an_bipush 16 d143_242 rfl ?_
            refine as_iload_n d143_244 rfl ?_
            refine an_imul d143_245 ?_
            refine an_iconst 4 d143_246 rfl ?_
            refine as_iload_n d143_247 rfl ?_
            refine an_imul d143_248 ?_
            refine an_iadd d143_249 ?_
            refine as_iload d143_250 rfl ?_
            refine an_iadd d143_252 ?_
            refine as_iload d143_253 rfl ?_
            refine an_icmp_ne 265 d143_255 (by decide) (by omega) (by omega) (fun c255 => absurd hcode c255) (fun c255 => ?_)
            refine as_iload d143_258 rfl ?_
            refine as_iload d143_260 rfl ?_
            refine an_icmp_eq 269 d143_262 (by decide) (by omega) (by omega) (fun c262 => ?_) (fun c262 => absurd hside c262)
            refine an_iconst 0 d143_269 rfl ?_
            refine as_istore d143_270 (by decide) ?_
            refine as_goto 102 d143_272 (by decide) ?_
            refine as_iload d143_102 rfl ?_
            refine an_if_eq 275 d143_104 (by decide) (by omega) (fun c104 => ?_) (fun c104 => absurd c104 (by decide))
            refine an_iconst 1 d143_275 rfl ?_
            refine as_ireturn d143_276 (by rw [t143]; rfl) ?_
            exact ⟨_, _, rfl, Or.inr ⟨rfl, he, hst⟩⟩
