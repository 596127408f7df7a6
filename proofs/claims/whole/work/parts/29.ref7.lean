/-! the reference: glue, isEvenChange -/
def gi (f x : Nat) : Nat := if x ≤ f then x else x - 1
theorem gi_eq {f x : Nat} (h : x = f) : gi f (x + 1) = gi f x := by
  unfold gi
  rw [if_neg (by omega), if_pos (by omega)]
  omega
theorem gi_ne {f x : Nat} (h : x ≠ f) : gi f (x + 1) = gi f x + 1 := by
  unfold gi
  by_cases h2 : x < f
  · rw [if_pos (by omega), if_pos (by omega)]
  · rw [if_neg (by omega), if_neg (by omega)]
    omega
def gy (f g m x : Nat) : Nat := if x = f then g else if gi f x = 0 then m % 4 else if gi f x = 1 then m / 4 % 4 else m / 16
def glRow (S : MS) (s t f g m : Nat) : Nat → MS
  | 0 => (S.sa 190 s (nI t)).sa 190 t (nI s)
  | x + 1 => ((glRow S s t f g m x).sa 191 (4 * s + x) (nI (gy f g m x))).sa 191 (4 * t + gy f g m x) (nI x)
theorem glRow_s (S : MS) (s t f g m x : Nat) : glRow S s t f g m (x + 1) = ((glRow S s t f g m x).sa 191 (4 * s + x) (nI (gy f g m x))).sa 191 (4 * t + gy f g m x) (nI x) := rfl
theorem gy_lt {f g m x : Nat} (hg : g < 4) (hm : m < 64) : gy f g m x < 4 := by
  unfold gy
  split
  · exact hg
  · split
    · omega
    · split <;> omega
/-- what glue refuses, of a map that is in its bounds -/
abbrev gBad (p f q g m : Nat) : Prop := m % 4 = m / 4 % 4 ∨ m % 4 = m / 16 ∨ m / 4 % 4 = m / 16 ∨ m % 4 = g ∨ m / 4 % 4 = g ∨ m / 16 = g ∨ (p = q ∧ f = g)
def gAns (mt : Nat → Option Nat) (p f q g m : Nat) : Int32 := if gBad p f q g m then -2 else if mt (4 * p + f) = none ∧ mt (4 * q + g) = none then 1 else -3
def gMem (S : MS) (mt : Nat → Option Nat) (p f q g m : Nat) : MS := if gBad p f q g m then S else if mt (4 * p + f) = none ∧ mt (4 * q + g) = none then glRow S (4 * p + f) (4 * q + g) f g m 4 else S
theorem in63 {u : Int32} (h : 0 ≤ u ∧ u ≤ 63) : ∃ v, v < 64 ∧ u = nI v := by
  obtain ⟨v, hv, rfl⟩ := nI_of (x := u) (fun g => by
    have := h.1
    simp only [Int32.lt_iff_toInt_lt, Int32.le_iff_toInt_le] at *
    omega)
  exact ⟨v, by have := (nI_leI hv (by decide)).mp (show nI v ≤ nI 63 from h.2); omega, rfl⟩
theorem isSd_nI {P q g : Nat} (hP : P ≤ 3) (hq : q < P) (hg : g < 4) : isSd P (nI q) (nI g) := ⟨⟨nI_pos' (by omega), nI_lt hq (by omega)⟩, nI_pos' (by omega), nI_lt (b := 4) hg (by decide)⟩
set_option maxHeartbeats 4000000 in
theorem mc_glueN (X : am_X) (S : MS) (P : Nat) (mt : Nat → Option Nat) (go : Nat → Nat) (p f q g m : Nat) (hG : GW P mt go) (hR : RG S P mt go) (h1 : p < P) (h2 : f < 4) (h3 : q < P) (h4 : g < 4) (h5 : m < 64) : MC X 128 [.ref (189), .int (nI (p)), .int (nI (f)), .int (nI (q)), .int (nI (g)), .int (nI (m))] S (some (.int (gAns mt p f q g m))) (gMem S mt p f q g m) := by
  refine MC.of (Nat.le_of_ble_eq_true rfl) ?_
  have hp := hR.1
  have hP := hG.1
  have b1 := isSd_nI hP h1 h2
  have b2 := isSd_nI hP h3 h4
  have b3 : (0 : Int32) ≤ nI m ∧ nI m ≤ nI 63 := ⟨nI_pos' (by omega), nI_le (by omega) (by decide)⟩
  refine as_aload_n d128_0 rfl ?_
  refine as_iload_n d128_1 rfl ?_
  refine as_iload_n d128_2 rfl ?_
  refine ac_v2 d128_3 c128_114 (by decide) rfl (Nat.le_of_ble_eq_true rfl) (mc_isSideP X _ P hP hp _ _) ?_
  refine as_if_eq 30 d128_6 (by decide) (fun c9 => absurd b1 (am_b01.mp c9)) (fun c9 => ?_)
  refine as_aload_n d128_9 rfl ?_
  refine as_iload_n d128_10 rfl ?_
  refine as_iload d128_11 rfl ?_
  refine ac_v2 d128_13 c128_114 (by decide) rfl (Nat.le_of_ble_eq_true rfl) (mc_isSideP X _ P hP hp _ _) ?_
  refine as_if_eq 30 d128_16 (by decide) (fun c9 => absurd b2 (am_b01.mp c9)) (fun c9 => ?_)
  refine as_iload d128_19 rfl ?_
  refine an_iconst 0 d128_21 rfl ?_
  refine an_bipush 63 d128_22 rfl ?_
  refine ac_s3 d128_24 c128_71 (by decide) (Nat.le_of_ble_eq_true rfl) (mc_in X _ _ _ _) ?_
  refine as_if_ne 33 d128_27 (by decide) (fun c9 => ?_) (fun c9 => absurd b3 (am_b01.mp c9))
  refine as_iload d128_33 rfl ?_
  refine an_iconst 4 d128_35 rfl ?_
  refine an_irem d128_36 (by omega) (by omega) (by omega) ?_
  refine as_istore d128_37 (by decide) ?_
  refine as_iload d128_39 rfl ?_
  refine an_iconst 4 d128_41 rfl ?_
  refine an_idiv d128_42 (by omega) (by omega) (by omega) ?_
  refine an_iconst 4 d128_43 rfl ?_
  refine an_irem d128_44 (by omega) (by omega) (by omega) ?_
  refine as_istore d128_45 (by decide) ?_
  refine as_iload d128_47 rfl ?_
  refine an_bipush 16 d128_49 rfl ?_
  refine an_idiv d128_51 (by omega) (by omega) (by omega) ?_
  refine as_istore d128_52 (by decide) ?_
  refine as_iload d128_54 rfl ?_
  refine as_iload d128_56 rfl ?_
  refine an_icmp_eq 107 d128_58 (by decide) (by omega) (by omega) (fun c4 => ?_) (fun c4 => ?_)
  · refine an_bipushI (-2) d128_107 rfl ?_
    refine as_ireturn d128_109 (by rw [t128]; rfl) ?_
    refine am_rr ?_ ?_
    · unfold gAns
      first | (rw [if_pos (by omega)]) | (rw [if_neg (by omega), if_neg (fun h => e1 (by rw [h.1]; rfl))]) | (rw [if_neg (by omega), if_neg (fun h => e2 (by rw [h.2]; rfl))]) | (rw [if_neg (by omega), if_pos ⟨mt_none hG (by omega) e1, mt_none hG (by omega) e2⟩]; rfl)
    · unfold gMem
      first | (rw [if_pos (by omega)]) | (rw [if_neg (by omega), if_neg (fun h => e1 (by rw [h.1]; rfl))]) | (rw [if_neg (by omega), if_neg (fun h => e2 (by rw [h.2]; rfl))]) | (rw [if_neg (by omega), if_pos ⟨mt_none hG (by omega) e1, mt_none hG (by omega) e2⟩])
  · refine as_iload d128_61 rfl ?_
    refine as_iload d128_63 rfl ?_
    refine an_icmp_eq 107 d128_65 (by decide) (by omega) (by omega) (fun c5 => ?_) (fun c5 => ?_)
    · refine an_bipushI (-2) d128_107 rfl ?_
      refine as_ireturn d128_109 (by rw [t128]; rfl) ?_
      refine am_rr ?_ ?_
      · unfold gAns
        first | (rw [if_pos (by omega)]) | (rw [if_neg (by omega), if_neg (fun h => e1 (by rw [h.1]; rfl))]) | (rw [if_neg (by omega), if_neg (fun h => e2 (by rw [h.2]; rfl))]) | (rw [if_neg (by omega), if_pos ⟨mt_none hG (by omega) e1, mt_none hG (by omega) e2⟩]; rfl)
      · unfold gMem
        first | (rw [if_pos (by omega)]) | (rw [if_neg (by omega), if_neg (fun h => e1 (by rw [h.1]; rfl))]) | (rw [if_neg (by omega), if_neg (fun h => e2 (by rw [h.2]; rfl))]) | (rw [if_neg (by omega), if_pos ⟨mt_none hG (by omega) e1, mt_none hG (by omega) e2⟩])
    · refine as_iload d128_68 rfl ?_
      refine as_iload d128_70 rfl ?_
      refine an_icmp_eq 107 d128_72 (by decide) (by omega) (by omega) (fun c6 => ?_) (fun c6 => ?_)
      · refine an_bipushI (-2) d128_107 rfl ?_
        refine as_ireturn d128_109 (by rw [t128]; rfl) ?_
        refine am_rr ?_ ?_
        · unfold gAns
          first | (rw [if_pos (by omega)]) | (rw [if_neg (by omega), if_neg (fun h => e1 (by rw [h.1]; rfl))]) | (rw [if_neg (by omega), if_neg (fun h => e2 (by rw [h.2]; rfl))]) | (rw [if_neg (by omega), if_pos ⟨mt_none hG (by omega) e1, mt_none hG (by omega) e2⟩]; rfl)
        · unfold gMem
          first | (rw [if_pos (by omega)]) | (rw [if_neg (by omega), if_neg (fun h => e1 (by rw [h.1]; rfl))]) | (rw [if_neg (by omega), if_neg (fun h => e2 (by rw [h.2]; rfl))]) | (rw [if_neg (by omega), if_pos ⟨mt_none hG (by omega) e1, mt_none hG (by omega) e2⟩])
      · refine as_iload d128_75 rfl ?_
        refine as_iload d128_77 rfl ?_
        refine an_icmp_eq 107 d128_79 (by decide) (by omega) (by omega) (fun c7 => ?_) (fun c7 => ?_)
        · refine an_bipushI (-2) d128_107 rfl ?_
          refine as_ireturn d128_109 (by rw [t128]; rfl) ?_
          refine am_rr ?_ ?_
          · unfold gAns
            first | (rw [if_pos (by omega)]) | (rw [if_neg (by omega), if_neg (fun h => e1 (by rw [h.1]; rfl))]) | (rw [if_neg (by omega), if_neg (fun h => e2 (by rw [h.2]; rfl))]) | (rw [if_neg (by omega), if_pos ⟨mt_none hG (by omega) e1, mt_none hG (by omega) e2⟩]; rfl)
          · unfold gMem
            first | (rw [if_pos (by omega)]) | (rw [if_neg (by omega), if_neg (fun h => e1 (by rw [h.1]; rfl))]) | (rw [if_neg (by omega), if_neg (fun h => e2 (by rw [h.2]; rfl))]) | (rw [if_neg (by omega), if_pos ⟨mt_none hG (by omega) e1, mt_none hG (by omega) e2⟩])
        · refine as_iload d128_82 rfl ?_
          refine as_iload d128_84 rfl ?_
          refine an_icmp_eq 107 d128_86 (by decide) (by omega) (by omega) (fun c8 => ?_) (fun c8 => ?_)
          · refine an_bipushI (-2) d128_107 rfl ?_
            refine as_ireturn d128_109 (by rw [t128]; rfl) ?_
            refine am_rr ?_ ?_
            · unfold gAns
              first | (rw [if_pos (by omega)]) | (rw [if_neg (by omega), if_neg (fun h => e1 (by rw [h.1]; rfl))]) | (rw [if_neg (by omega), if_neg (fun h => e2 (by rw [h.2]; rfl))]) | (rw [if_neg (by omega), if_pos ⟨mt_none hG (by omega) e1, mt_none hG (by omega) e2⟩]; rfl)
            · unfold gMem
              first | (rw [if_pos (by omega)]) | (rw [if_neg (by omega), if_neg (fun h => e1 (by rw [h.1]; rfl))]) | (rw [if_neg (by omega), if_neg (fun h => e2 (by rw [h.2]; rfl))]) | (rw [if_neg (by omega), if_pos ⟨mt_none hG (by omega) e1, mt_none hG (by omega) e2⟩])
          · refine as_iload d128_89 rfl ?_
            refine as_iload d128_91 rfl ?_
            refine an_icmp_eq 107 d128_93 (by decide) (by omega) (by omega) (fun c9 => ?_) (fun c9 => ?_)
            · refine an_bipushI (-2) d128_107 rfl ?_
              refine as_ireturn d128_109 (by rw [t128]; rfl) ?_
              refine am_rr ?_ ?_
              · unfold gAns
                first | (rw [if_pos (by omega)]) | (rw [if_neg (by omega), if_neg (fun h => e1 (by rw [h.1]; rfl))]) | (rw [if_neg (by omega), if_neg (fun h => e2 (by rw [h.2]; rfl))]) | (rw [if_neg (by omega), if_pos ⟨mt_none hG (by omega) e1, mt_none hG (by omega) e2⟩]; rfl)
              · unfold gMem
                first | (rw [if_pos (by omega)]) | (rw [if_neg (by omega), if_neg (fun h => e1 (by rw [h.1]; rfl))]) | (rw [if_neg (by omega), if_neg (fun h => e2 (by rw [h.2]; rfl))]) | (rw [if_neg (by omega), if_pos ⟨mt_none hG (by omega) e1, mt_none hG (by omega) e2⟩])
            · refine as_iload_n d128_96 rfl ?_
              refine as_iload_n d128_97 rfl ?_
              refine an_icmp_ne 110 d128_98 (by decide) (by omega) (by omega) (fun c10 => ?_) (fun c10 => ?_)
              · refine an_iconst 4 d128_110 rfl ?_
                refine as_iload_n d128_111 rfl ?_
                refine an_imul d128_112 ?_
                refine as_iload_n d128_113 rfl ?_
                refine an_iadd d128_114 ?_
                refine as_istore d128_115 (by decide) ?_
                refine an_iconst 4 d128_117 rfl ?_
                refine as_iload_n d128_118 rfl ?_
                refine an_imul d128_119 ?_
                refine as_iload d128_120 rfl ?_
                refine an_iadd d128_122 ?_
                refine as_istore d128_123 (by decide) ?_
                refine as_aload_n d128_125 rfl ?_
                refine ap_get d128_126 f128_7 (by decide) rfl rfl ?_
                refine as_iload d128_129 rfl ?_
                refine ap_iald d128_131 (fun _ _ _ _ => rfl) (by decide) (by omega) (by decide) ?_
                refine an_top (e' := mI (mt (4 * p + f))) (hR.2.1 _ (by omega)) ?_
                refine an_iconstI (-1) d128_132 rfl ?_
                refine as_icmp_ne 147 d128_133 (by decide) (fun e1 => ?_) (fun e1 => ?_)
                · refine an_bipushI (-3) d128_147 rfl ?_
                  refine as_ireturn d128_149 (by rw [t128]; rfl) ?_
                  refine am_rr ?_ ?_
                  · unfold gAns
                    first | (rw [if_pos (by omega)]) | (rw [if_neg (by omega), if_neg (fun h => e1 (by rw [h.1]; rfl))]) | (rw [if_neg (by omega), if_neg (fun h => e2 (by rw [h.2]; rfl))]) | (rw [if_neg (by omega), if_pos ⟨mt_none hG (by omega) e1, mt_none hG (by omega) e2⟩]; rfl)
                  · unfold gMem
                    first | (rw [if_pos (by omega)]) | (rw [if_neg (by omega), if_neg (fun h => e1 (by rw [h.1]; rfl))]) | (rw [if_neg (by omega), if_neg (fun h => e2 (by rw [h.2]; rfl))]) | (rw [if_neg (by omega), if_pos ⟨mt_none hG (by omega) e1, mt_none hG (by omega) e2⟩])
                · refine as_aload_n d128_136 rfl ?_
                  refine ap_get d128_137 f128_7 (by decide) rfl rfl ?_
                  refine as_iload d128_140 rfl ?_
                  refine ap_iald d128_142 (fun _ _ _ _ => rfl) (by decide) (by omega) (by decide) ?_
                  refine an_top (e' := mI (mt (4 * q + g))) (hR.2.1 _ (by omega)) ?_
                  refine an_iconstI (-1) d128_143 rfl ?_
                  refine as_icmp_eq 150 d128_144 (by decide) (fun e2 => ?_) (fun e2 => ?_)
                  · refine as_aload_n d128_150 rfl ?_
                    refine ap_get d128_151 f128_7 (by decide) rfl rfl ?_
                    refine as_iload d128_154 rfl ?_
                    refine as_iload d128_156 rfl ?_
                    refine ap_iast d128_158 (fun _ _ _ _ => rfl) (by decide) (by omega) (by decide) ?_
                    refine as_aload_n d128_159 rfl ?_
                    refine ap_get d128_160 f128_7 (by decide) rfl rfl ?_
                    refine as_iload d128_163 rfl ?_
                    refine as_iload d128_165 rfl ?_
                    refine ap_iast d128_167 (fun _ _ _ _ => rfl) (by decide) (by omega) (by decide) ?_
                    refine an_iconst 0 d128_168 rfl ?_
                    refine as_istore d128_169 (by decide) ?_
                    refine an_iconst 0 d128_171 rfl ?_
                    refine as_istore d128_172 (by decide) ?_
                    refine AW.loc [(0, .ref (189)), (1, .int (nI (p))), (2, .int (nI (f))), (3, .int (nI (q))), (4, .int (nI (g))), (6, .int (nI ((m) % (4)))), (7, .int (nI (((m) / (4)) % (4)))), (8, .int (nI ((m) / (16)))), (9, .int (nI (((4) * (p)) + (f)))), (10, .int (nI (((4) * (q)) + (g)))), (11, .int (nI (0))), (12, .int (nI (0)))] (am_pick [7, 8, 9, 10, 11, 6, 5, 4, 3, 2, 1, 0] rfl rfl) ?_
                    refine aw_for (fun x => ((174, [(0, .ref (189)), (1, .int (nI (p))), (2, .int (nI (f))), (3, .int (nI (q))), (4, .int (nI (g))), (6, .int (nI (m % 4))), (7, .int (nI (m / 4 % 4))), (8, .int (nI (m / 16))), (9, .int (nI (4 * p + f))), (10, .int (nI (4 * q + g))), (11, .int (nI (gi f (x)))), (12, .int (nI (x)))], [], 208, HP (glRow S (4 * p + f) (4 * q + g) f g m (x)), 0, 0) : am_Z)) (4) (rfl) (fun x hi ih => ?_) ?_
                    · have hgi : gi f x ≤ 3 := by unfold gi; split <;> omega
                      refine as_iload d128_174 rfl ?_
                      refine an_iconst 4 d128_176 rfl ?_
                      refine an_icmp_ge 252 d128_177 (by decide) (by omega) (by omega) (fun c13 => by omega) (fun c13 => ?_)
                      refine as_iload d128_180 rfl ?_
                      refine as_istore d128_182 (by decide) ?_
                      refine as_iload d128_184 rfl ?_
                      refine as_iload_n d128_186 rfl ?_
                      refine an_icmp_eq 218 d128_187 (by decide) (by omega) (by omega) (fun d1 => ?_) (fun d1 => ?_)
                      · have ey : gy f g m x = g := by
                          unfold gy
                          first | (rw [if_pos d1]) | (rw [if_neg d1, if_pos d2]) | (rw [if_neg d1, if_neg d2, if_pos d3]) | (rw [if_neg d1, if_neg d2, if_neg d3])
                        have ei : gi f (x + 1) = gi f (x) := by
                          first | exact gi_eq d1 | exact gi_ne d1
                        have hyl := gy_lt (f := f) (m := m) (x := x) h4 h5
                        refine as_aload_n d128_218 rfl ?_
                        refine ap_get d128_219 f128_13 (by decide) rfl rfl ?_
                        refine an_iconst 4 d128_222 rfl ?_
                        refine as_iload d128_223 rfl ?_
                        refine an_imul d128_225 ?_
                        refine as_iload d128_226 rfl ?_
                        refine an_iadd d128_228 ?_
                        refine as_iload d128_229 rfl ?_
                        refine ap_iast d128_231 (fun _ _ _ _ => rfl) (by decide) (by omega) (by decide) ?_
                        refine as_aload_n d128_232 rfl ?_
                        refine ap_get d128_233 f128_13 (by decide) rfl rfl ?_
                        refine an_iconst 4 d128_236 rfl ?_
                        refine as_iload d128_237 rfl ?_
                        refine an_imul d128_239 ?_
                        refine as_iload d128_240 rfl ?_
                        refine an_iadd d128_242 ?_
                        refine as_iload d128_243 rfl ?_
                        refine ap_iast d128_245 (fun _ _ _ _ => rfl) (by decide) (by omega) (by decide) ?_
                        refine an_iinc 1 d128_246 rfl rfl (by decide) ?_
                        refine as_goto 174 d128_249 (by decide) ?_
                        refine AW.loc [(0, .ref (189)), (1, .int (nI (p))), (2, .int (nI (f))), (3, .int (nI (q))), (4, .int (nI (g))), (6, .int (nI (m % 4))), (7, .int (nI (m / 4 % 4))), (8, .int (nI (m / 16))), (9, .int (nI (4 * p + f))), (10, .int (nI (4 * q + g))), (11, .int (nI (gi f (x)))), (12, .int (nI (x + 1)))] (am_pick [2, 3, 4, 5, 6, 7, 8, 9, 10, 11, 12, 0] rfl rfl) ?_
                        refine an_mem (congrArg HP (show _ = glRow S (4 * p + f) (4 * q + g) f g m (x + 1) from ?_)) ?_
                        · rw [glRow_s, ey]
                        · rw [ei] at ih
                          exact ih
                      · refine as_iload d128_190 rfl ?_
                        refine an_if_ne 200 d128_192 (by decide) (by omega) (fun d2 => ?_) (fun d2 => ?_)
                        · refine as_iload d128_200 rfl ?_
                          refine an_iconst 1 d128_202 rfl ?_
                          refine an_icmp_ne 211 d128_203 (by decide) (by omega) (by omega) (fun d3 => ?_) (fun d3 => ?_)
                          · refine as_iload d128_211 rfl ?_
                            refine as_istore d128_213 (by decide) ?_
                            refine an_iinc 1 d128_215 rfl rfl (by decide) ?_
                            have ey : gy f g m x = m / 16 := by
                              unfold gy
                              first | (rw [if_pos d1]) | (rw [if_neg d1, if_pos d2]) | (rw [if_neg d1, if_neg d2, if_pos d3]) | (rw [if_neg d1, if_neg d2, if_neg d3])
                            have ei : gi f (x + 1) = gi f (x) + 1 := by
                              first | exact gi_eq d1 | exact gi_ne d1
                            have hyl := gy_lt (f := f) (m := m) (x := x) h4 h5
                            refine as_aload_n d128_218 rfl ?_
                            refine ap_get d128_219 f128_13 (by decide) rfl rfl ?_
                            refine an_iconst 4 d128_222 rfl ?_
                            refine as_iload d128_223 rfl ?_
                            refine an_imul d128_225 ?_
                            refine as_iload d128_226 rfl ?_
                            refine an_iadd d128_228 ?_
                            refine as_iload d128_229 rfl ?_
                            refine ap_iast d128_231 (fun _ _ _ _ => rfl) (by decide) (by omega) (by decide) ?_
                            refine as_aload_n d128_232 rfl ?_
                            refine ap_get d128_233 f128_13 (by decide) rfl rfl ?_
                            refine an_iconst 4 d128_236 rfl ?_
                            refine as_iload d128_237 rfl ?_
                            refine an_imul d128_239 ?_
                            refine as_iload d128_240 rfl ?_
                            refine an_iadd d128_242 ?_
                            refine as_iload d128_243 rfl ?_
                            refine ap_iast d128_245 (fun _ _ _ _ => rfl) (by decide) (by omega) (by decide) ?_
                            refine an_iinc 1 d128_246 rfl rfl (by decide) ?_
                            refine as_goto 174 d128_249 (by decide) ?_
                            refine AW.loc [(0, .ref (189)), (1, .int (nI (p))), (2, .int (nI (f))), (3, .int (nI (q))), (4, .int (nI (g))), (6, .int (nI (m % 4))), (7, .int (nI (m / 4 % 4))), (8, .int (nI (m / 16))), (9, .int (nI (4 * p + f))), (10, .int (nI (4 * q + g))), (11, .int (nI (gi f (x) + 1))), (12, .int (nI (x + 1)))] (am_pick [3, 4, 5, 6, 7, 8, 9, 10, 11, 12, 1, 0] rfl rfl) ?_
                            refine an_mem (congrArg HP (show _ = glRow S (4 * p + f) (4 * q + g) f g m (x + 1) from ?_)) ?_
                            · rw [glRow_s, ey]
                            · rw [ei] at ih
                              exact ih
                          · refine as_iload d128_206 rfl ?_
                            refine as_goto 213 d128_208 (by decide) ?_
                            refine as_istore d128_213 (by decide) ?_
                            refine an_iinc 1 d128_215 rfl rfl (by decide) ?_
                            have ey : gy f g m x = m / 4 % 4 := by
                              unfold gy
                              first | (rw [if_pos d1]) | (rw [if_neg d1, if_pos d2]) | (rw [if_neg d1, if_neg d2, if_pos d3]) | (rw [if_neg d1, if_neg d2, if_neg d3])
                            have ei : gi f (x + 1) = gi f (x) + 1 := by
                              first | exact gi_eq d1 | exact gi_ne d1
                            have hyl := gy_lt (f := f) (m := m) (x := x) h4 h5
                            refine as_aload_n d128_218 rfl ?_
                            refine ap_get d128_219 f128_13 (by decide) rfl rfl ?_
                            refine an_iconst 4 d128_222 rfl ?_
                            refine as_iload d128_223 rfl ?_
                            refine an_imul d128_225 ?_
                            refine as_iload d128_226 rfl ?_
                            refine an_iadd d128_228 ?_
                            refine as_iload d128_229 rfl ?_
                            refine ap_iast d128_231 (fun _ _ _ _ => rfl) (by decide) (by omega) (by decide) ?_
                            refine as_aload_n d128_232 rfl ?_
                            refine ap_get d128_233 f128_13 (by decide) rfl rfl ?_
                            refine an_iconst 4 d128_236 rfl ?_
                            refine as_iload d128_237 rfl ?_
                            refine an_imul d128_239 ?_
                            refine as_iload d128_240 rfl ?_
                            refine an_iadd d128_242 ?_
                            refine as_iload d128_243 rfl ?_
                            refine ap_iast d128_245 (fun _ _ _ _ => rfl) (by decide) (by omega) (by decide) ?_
                            refine an_iinc 1 d128_246 rfl rfl (by decide) ?_
                            refine as_goto 174 d128_249 (by decide) ?_
                            refine AW.loc [(0, .ref (189)), (1, .int (nI (p))), (2, .int (nI (f))), (3, .int (nI (q))), (4, .int (nI (g))), (6, .int (nI (m % 4))), (7, .int (nI (m / 4 % 4))), (8, .int (nI (m / 16))), (9, .int (nI (4 * p + f))), (10, .int (nI (4 * q + g))), (11, .int (nI (gi f (x) + 1))), (12, .int (nI (x + 1)))] (am_pick [3, 4, 5, 6, 7, 8, 9, 10, 11, 12, 1, 0] rfl rfl) ?_
                            refine an_mem (congrArg HP (show _ = glRow S (4 * p + f) (4 * q + g) f g m (x + 1) from ?_)) ?_
                            · rw [glRow_s, ey]
                            · rw [ei] at ih
                              exact ih
                        · refine as_iload d128_195 rfl ?_
                          refine as_goto 213 d128_197 (by decide) ?_
                          refine as_istore d128_213 (by decide) ?_
                          refine an_iinc 1 d128_215 rfl rfl (by decide) ?_
                          have ey : gy f g m x = m % 4 := by
                            unfold gy
                            first | (rw [if_pos d1]) | (rw [if_neg d1, if_pos d2]) | (rw [if_neg d1, if_neg d2, if_pos d3]) | (rw [if_neg d1, if_neg d2, if_neg d3])
                          have ei : gi f (x + 1) = gi f (x) + 1 := by
                            first | exact gi_eq d1 | exact gi_ne d1
                          have hyl := gy_lt (f := f) (m := m) (x := x) h4 h5
                          refine as_aload_n d128_218 rfl ?_
                          refine ap_get d128_219 f128_13 (by decide) rfl rfl ?_
                          refine an_iconst 4 d128_222 rfl ?_
                          refine as_iload d128_223 rfl ?_
                          refine an_imul d128_225 ?_
                          refine as_iload d128_226 rfl ?_
                          refine an_iadd d128_228 ?_
                          refine as_iload d128_229 rfl ?_
                          refine ap_iast d128_231 (fun _ _ _ _ => rfl) (by decide) (by omega) (by decide) ?_
                          refine as_aload_n d128_232 rfl ?_
                          refine ap_get d128_233 f128_13 (by decide) rfl rfl ?_
                          refine an_iconst 4 d128_236 rfl ?_
                          refine as_iload d128_237 rfl ?_
                          refine an_imul d128_239 ?_
                          refine as_iload d128_240 rfl ?_
                          refine an_iadd d128_242 ?_
                          refine as_iload d128_243 rfl ?_
                          refine ap_iast d128_245 (fun _ _ _ _ => rfl) (by decide) (by omega) (by decide) ?_
                          refine an_iinc 1 d128_246 rfl rfl (by decide) ?_
                          refine as_goto 174 d128_249 (by decide) ?_
                          refine AW.loc [(0, .ref (189)), (1, .int (nI (p))), (2, .int (nI (f))), (3, .int (nI (q))), (4, .int (nI (g))), (6, .int (nI (m % 4))), (7, .int (nI (m / 4 % 4))), (8, .int (nI (m / 16))), (9, .int (nI (4 * p + f))), (10, .int (nI (4 * q + g))), (11, .int (nI (gi f (x) + 1))), (12, .int (nI (x + 1)))] (am_pick [3, 4, 5, 6, 7, 8, 9, 10, 11, 12, 1, 0] rfl rfl) ?_
                          refine an_mem (congrArg HP (show _ = glRow S (4 * p + f) (4 * q + g) f g m (x + 1) from ?_)) ?_
                          · rw [glRow_s, ey]
                          · rw [ei] at ih
                            exact ih
                    · refine as_iload d128_174 rfl ?_
                      refine an_iconst 4 d128_176 rfl ?_
                      refine an_icmp_ge 252 d128_177 (by decide) (by omega) (by omega) (fun c17 => ?_) (fun c17 => by omega)
                      refine an_iconst 1 d128_252 rfl ?_
                      refine as_ireturn d128_253 (by rw [t128]; rfl) ?_
                      refine am_rr ?_ ?_
                      · unfold gAns
                        first | (rw [if_pos (by omega)]) | (rw [if_neg (by omega), if_neg (fun h => e1 (by rw [h.1]; rfl))]) | (rw [if_neg (by omega), if_neg (fun h => e2 (by rw [h.2]; rfl))]) | (rw [if_neg (by omega), if_pos ⟨mt_none hG (by omega) e1, mt_none hG (by omega) e2⟩]; rfl)
                      · unfold gMem
                        first | (rw [if_pos (by omega)]) | (rw [if_neg (by omega), if_neg (fun h => e1 (by rw [h.1]; rfl))]) | (rw [if_neg (by omega), if_neg (fun h => e2 (by rw [h.2]; rfl))]) | (rw [if_neg (by omega), if_pos ⟨mt_none hG (by omega) e1, mt_none hG (by omega) e2⟩])
                  · refine an_bipushI (-3) d128_147 rfl ?_
                    refine as_ireturn d128_149 (by rw [t128]; rfl) ?_
                    refine am_rr ?_ ?_
                    · unfold gAns
                      first | (rw [if_pos (by omega)]) | (rw [if_neg (by omega), if_neg (fun h => e1 (by rw [h.1]; rfl))]) | (rw [if_neg (by omega), if_neg (fun h => e2 (by rw [h.2]; rfl))]) | (rw [if_neg (by omega), if_pos ⟨mt_none hG (by omega) e1, mt_none hG (by omega) e2⟩]; rfl)
                    · unfold gMem
                      first | (rw [if_pos (by omega)]) | (rw [if_neg (by omega), if_neg (fun h => e1 (by rw [h.1]; rfl))]) | (rw [if_neg (by omega), if_neg (fun h => e2 (by rw [h.2]; rfl))]) | (rw [if_neg (by omega), if_pos ⟨mt_none hG (by omega) e1, mt_none hG (by omega) e2⟩])
              · refine as_iload_n d128_101 rfl ?_
                refine as_iload d128_102 rfl ?_
                refine an_icmp_ne 110 d128_104 (by decide) (by omega) (by omega) (fun c18 => ?_) (fun c18 => ?_)
                · refine an_iconst 4 d128_110 rfl ?_
                  refine as_iload_n d128_111 rfl ?_
                  refine an_imul d128_112 ?_
                  refine as_iload_n d128_113 rfl ?_
                  refine an_iadd d128_114 ?_
                  refine as_istore d128_115 (by decide) ?_
                  refine an_iconst 4 d128_117 rfl ?_
                  refine as_iload_n d128_118 rfl ?_
                  refine an_imul d128_119 ?_
                  refine as_iload d128_120 rfl ?_
                  refine an_iadd d128_122 ?_
                  refine as_istore d128_123 (by decide) ?_
                  refine as_aload_n d128_125 rfl ?_
                  refine ap_get d128_126 f128_7 (by decide) rfl rfl ?_
                  refine as_iload d128_129 rfl ?_
                  refine ap_iald d128_131 (fun _ _ _ _ => rfl) (by decide) (by omega) (by decide) ?_
                  refine an_top (e' := mI (mt (4 * p + f))) (hR.2.1 _ (by omega)) ?_
                  refine an_iconstI (-1) d128_132 rfl ?_
                  refine as_icmp_ne 147 d128_133 (by decide) (fun e1 => ?_) (fun e1 => ?_)
                  · refine an_bipushI (-3) d128_147 rfl ?_
                    refine as_ireturn d128_149 (by rw [t128]; rfl) ?_
                    refine am_rr ?_ ?_
                    · unfold gAns
                      first | (rw [if_pos (by omega)]) | (rw [if_neg (by omega), if_neg (fun h => e1 (by rw [h.1]; rfl))]) | (rw [if_neg (by omega), if_neg (fun h => e2 (by rw [h.2]; rfl))]) | (rw [if_neg (by omega), if_pos ⟨mt_none hG (by omega) e1, mt_none hG (by omega) e2⟩]; rfl)
                    · unfold gMem
                      first | (rw [if_pos (by omega)]) | (rw [if_neg (by omega), if_neg (fun h => e1 (by rw [h.1]; rfl))]) | (rw [if_neg (by omega), if_neg (fun h => e2 (by rw [h.2]; rfl))]) | (rw [if_neg (by omega), if_pos ⟨mt_none hG (by omega) e1, mt_none hG (by omega) e2⟩])
                  · refine as_aload_n d128_136 rfl ?_
                    refine ap_get d128_137 f128_7 (by decide) rfl rfl ?_
                    refine as_iload d128_140 rfl ?_
                    refine ap_iald d128_142 (fun _ _ _ _ => rfl) (by decide) (by omega) (by decide) ?_
                    refine an_top (e' := mI (mt (4 * q + g))) (hR.2.1 _ (by omega)) ?_
                    refine an_iconstI (-1) d128_143 rfl ?_
                    refine as_icmp_eq 150 d128_144 (by decide) (fun e2 => ?_) (fun e2 => ?_)
                    · refine as_aload_n d128_150 rfl ?_
                      refine ap_get d128_151 f128_7 (by decide) rfl rfl ?_
                      refine as_iload d128_154 rfl ?_
                      refine as_iload d128_156 rfl ?_
                      refine ap_iast d128_158 (fun _ _ _ _ => rfl) (by decide) (by omega) (by decide) ?_
                      refine as_aload_n d128_159 rfl ?_
                      refine ap_get d128_160 f128_7 (by decide) rfl rfl ?_
                      refine as_iload d128_163 rfl ?_
                      refine as_iload d128_165 rfl ?_
                      refine ap_iast d128_167 (fun _ _ _ _ => rfl) (by decide) (by omega) (by decide) ?_
                      refine an_iconst 0 d128_168 rfl ?_
                      refine as_istore d128_169 (by decide) ?_
                      refine an_iconst 0 d128_171 rfl ?_
                      refine as_istore d128_172 (by decide) ?_
                      refine AW.loc [(0, .ref (189)), (1, .int (nI (p))), (2, .int (nI (f))), (3, .int (nI (q))), (4, .int (nI (g))), (6, .int (nI ((m) % (4)))), (7, .int (nI (((m) / (4)) % (4)))), (8, .int (nI ((m) / (16)))), (9, .int (nI (((4) * (p)) + (f)))), (10, .int (nI (((4) * (q)) + (g)))), (11, .int (nI (0))), (12, .int (nI (0)))] (am_pick [7, 8, 9, 10, 11, 6, 5, 4, 3, 2, 1, 0] rfl rfl) ?_
                      refine aw_for (fun x => ((174, [(0, .ref (189)), (1, .int (nI (p))), (2, .int (nI (f))), (3, .int (nI (q))), (4, .int (nI (g))), (6, .int (nI (m % 4))), (7, .int (nI (m / 4 % 4))), (8, .int (nI (m / 16))), (9, .int (nI (4 * p + f))), (10, .int (nI (4 * q + g))), (11, .int (nI (gi f (x)))), (12, .int (nI (x)))], [], 208, HP (glRow S (4 * p + f) (4 * q + g) f g m (x)), 0, 0) : am_Z)) (4) (rfl) (fun x hi ih => ?_) ?_
                      · have hgi : gi f x ≤ 3 := by unfold gi; split <;> omega
                        refine as_iload d128_174 rfl ?_
                        refine an_iconst 4 d128_176 rfl ?_
                        refine an_icmp_ge 252 d128_177 (by decide) (by omega) (by omega) (fun c21 => by omega) (fun c21 => ?_)
                        refine as_iload d128_180 rfl ?_
                        refine as_istore d128_182 (by decide) ?_
                        refine as_iload d128_184 rfl ?_
                        refine as_iload_n d128_186 rfl ?_
                        refine an_icmp_eq 218 d128_187 (by decide) (by omega) (by omega) (fun d1 => ?_) (fun d1 => ?_)
                        · have ey : gy f g m x = g := by
                            unfold gy
                            first | (rw [if_pos d1]) | (rw [if_neg d1, if_pos d2]) | (rw [if_neg d1, if_neg d2, if_pos d3]) | (rw [if_neg d1, if_neg d2, if_neg d3])
                          have ei : gi f (x + 1) = gi f (x) := by
                            first | exact gi_eq d1 | exact gi_ne d1
                          have hyl := gy_lt (f := f) (m := m) (x := x) h4 h5
                          refine as_aload_n d128_218 rfl ?_
                          refine ap_get d128_219 f128_13 (by decide) rfl rfl ?_
                          refine an_iconst 4 d128_222 rfl ?_
                          refine as_iload d128_223 rfl ?_
                          refine an_imul d128_225 ?_
                          refine as_iload d128_226 rfl ?_
                          refine an_iadd d128_228 ?_
                          refine as_iload d128_229 rfl ?_
                          refine ap_iast d128_231 (fun _ _ _ _ => rfl) (by decide) (by omega) (by decide) ?_
                          refine as_aload_n d128_232 rfl ?_
                          refine ap_get d128_233 f128_13 (by decide) rfl rfl ?_
                          refine an_iconst 4 d128_236 rfl ?_
                          refine as_iload d128_237 rfl ?_
                          refine an_imul d128_239 ?_
                          refine as_iload d128_240 rfl ?_
                          refine an_iadd d128_242 ?_
                          refine as_iload d128_243 rfl ?_
                          refine ap_iast d128_245 (fun _ _ _ _ => rfl) (by decide) (by omega) (by decide) ?_
                          refine an_iinc 1 d128_246 rfl rfl (by decide) ?_
                          refine as_goto 174 d128_249 (by decide) ?_
                          refine AW.loc [(0, .ref (189)), (1, .int (nI (p))), (2, .int (nI (f))), (3, .int (nI (q))), (4, .int (nI (g))), (6, .int (nI (m % 4))), (7, .int (nI (m / 4 % 4))), (8, .int (nI (m / 16))), (9, .int (nI (4 * p + f))), (10, .int (nI (4 * q + g))), (11, .int (nI (gi f (x)))), (12, .int (nI (x + 1)))] (am_pick [2, 3, 4, 5, 6, 7, 8, 9, 10, 11, 12, 0] rfl rfl) ?_
                          refine an_mem (congrArg HP (show _ = glRow S (4 * p + f) (4 * q + g) f g m (x + 1) from ?_)) ?_
                          · rw [glRow_s, ey]
                          · rw [ei] at ih
                            exact ih
                        · refine as_iload d128_190 rfl ?_
                          refine an_if_ne 200 d128_192 (by decide) (by omega) (fun d2 => ?_) (fun d2 => ?_)
                          · refine as_iload d128_200 rfl ?_
                            refine an_iconst 1 d128_202 rfl ?_
                            refine an_icmp_ne 211 d128_203 (by decide) (by omega) (by omega) (fun d3 => ?_) (fun d3 => ?_)
                            · refine as_iload d128_211 rfl ?_
                              refine as_istore d128_213 (by decide) ?_
                              refine an_iinc 1 d128_215 rfl rfl (by decide) ?_
                              have ey : gy f g m x = m / 16 := by
                                unfold gy
                                first | (rw [if_pos d1]) | (rw [if_neg d1, if_pos d2]) | (rw [if_neg d1, if_neg d2, if_pos d3]) | (rw [if_neg d1, if_neg d2, if_neg d3])
                              have ei : gi f (x + 1) = gi f (x) + 1 := by
                                first | exact gi_eq d1 | exact gi_ne d1
                              have hyl := gy_lt (f := f) (m := m) (x := x) h4 h5
                              refine as_aload_n d128_218 rfl ?_
                              refine ap_get d128_219 f128_13 (by decide) rfl rfl ?_
                              refine an_iconst 4 d128_222 rfl ?_
                              refine as_iload d128_223 rfl ?_
                              refine an_imul d128_225 ?_
                              refine as_iload d128_226 rfl ?_
                              refine an_iadd d128_228 ?_
                              refine as_iload d128_229 rfl ?_
                              refine ap_iast d128_231 (fun _ _ _ _ => rfl) (by decide) (by omega) (by decide) ?_
                              refine as_aload_n d128_232 rfl ?_
                              refine ap_get d128_233 f128_13 (by decide) rfl rfl ?_
                              refine an_iconst 4 d128_236 rfl ?_
                              refine as_iload d128_237 rfl ?_
                              refine an_imul d128_239 ?_
                              refine as_iload d128_240 rfl ?_
                              refine an_iadd d128_242 ?_
                              refine as_iload d128_243 rfl ?_
                              refine ap_iast d128_245 (fun _ _ _ _ => rfl) (by decide) (by omega) (by decide) ?_
                              refine an_iinc 1 d128_246 rfl rfl (by decide) ?_
                              refine as_goto 174 d128_249 (by decide) ?_
                              refine AW.loc [(0, .ref (189)), (1, .int (nI (p))), (2, .int (nI (f))), (3, .int (nI (q))), (4, .int (nI (g))), (6, .int (nI (m % 4))), (7, .int (nI (m / 4 % 4))), (8, .int (nI (m / 16))), (9, .int (nI (4 * p + f))), (10, .int (nI (4 * q + g))), (11, .int (nI (gi f (x) + 1))), (12, .int (nI (x + 1)))] (am_pick [3, 4, 5, 6, 7, 8, 9, 10, 11, 12, 1, 0] rfl rfl) ?_
                              refine an_mem (congrArg HP (show _ = glRow S (4 * p + f) (4 * q + g) f g m (x + 1) from ?_)) ?_
                              · rw [glRow_s, ey]
                              · rw [ei] at ih
                                exact ih
                            · refine as_iload d128_206 rfl ?_
                              refine as_goto 213 d128_208 (by decide) ?_
                              refine as_istore d128_213 (by decide) ?_
                              refine an_iinc 1 d128_215 rfl rfl (by decide) ?_
                              have ey : gy f g m x = m / 4 % 4 := by
                                unfold gy
                                first | (rw [if_pos d1]) | (rw [if_neg d1, if_pos d2]) | (rw [if_neg d1, if_neg d2, if_pos d3]) | (rw [if_neg d1, if_neg d2, if_neg d3])
                              have ei : gi f (x + 1) = gi f (x) + 1 := by
                                first | exact gi_eq d1 | exact gi_ne d1
                              have hyl := gy_lt (f := f) (m := m) (x := x) h4 h5
                              refine as_aload_n d128_218 rfl ?_
                              refine ap_get d128_219 f128_13 (by decide) rfl rfl ?_
                              refine an_iconst 4 d128_222 rfl ?_
                              refine as_iload d128_223 rfl ?_
                              refine an_imul d128_225 ?_
                              refine as_iload d128_226 rfl ?_
                              refine an_iadd d128_228 ?_
                              refine as_iload d128_229 rfl ?_
                              refine ap_iast d128_231 (fun _ _ _ _ => rfl) (by decide) (by omega) (by decide) ?_
                              refine as_aload_n d128_232 rfl ?_
                              refine ap_get d128_233 f128_13 (by decide) rfl rfl ?_
                              refine an_iconst 4 d128_236 rfl ?_
                              refine as_iload d128_237 rfl ?_
                              refine an_imul d128_239 ?_
                              refine as_iload d128_240 rfl ?_
                              refine an_iadd d128_242 ?_
                              refine as_iload d128_243 rfl ?_
                              refine ap_iast d128_245 (fun _ _ _ _ => rfl) (by decide) (by omega) (by decide) ?_
                              refine an_iinc 1 d128_246 rfl rfl (by decide) ?_
                              refine as_goto 174 d128_249 (by decide) ?_
                              refine AW.loc [(0, .ref (189)), (1, .int (nI (p))), (2, .int (nI (f))), (3, .int (nI (q))), (4, .int (nI (g))), (6, .int (nI (m % 4))), (7, .int (nI (m / 4 % 4))), (8, .int (nI (m / 16))), (9, .int (nI (4 * p + f))), (10, .int (nI (4 * q + g))), (11, .int (nI (gi f (x) + 1))), (12, .int (nI (x + 1)))] (am_pick [3, 4, 5, 6, 7, 8, 9, 10, 11, 12, 1, 0] rfl rfl) ?_
                              refine an_mem (congrArg HP (show _ = glRow S (4 * p + f) (4 * q + g) f g m (x + 1) from ?_)) ?_
                              · rw [glRow_s, ey]
                              · rw [ei] at ih
                                exact ih
                          · refine as_iload d128_195 rfl ?_
                            refine as_goto 213 d128_197 (by decide) ?_
                            refine as_istore d128_213 (by decide) ?_
                            refine an_iinc 1 d128_215 rfl rfl (by decide) ?_
                            have ey : gy f g m x = m % 4 := by
                              unfold gy
                              first | (rw [if_pos d1]) | (rw [if_neg d1, if_pos d2]) | (rw [if_neg d1, if_neg d2, if_pos d3]) | (rw [if_neg d1, if_neg d2, if_neg d3])
                            have ei : gi f (x + 1) = gi f (x) + 1 := by
                              first | exact gi_eq d1 | exact gi_ne d1
                            have hyl := gy_lt (f := f) (m := m) (x := x) h4 h5
                            refine as_aload_n d128_218 rfl ?_
                            refine ap_get d128_219 f128_13 (by decide) rfl rfl ?_
                            refine an_iconst 4 d128_222 rfl ?_
                            refine as_iload d128_223 rfl ?_
                            refine an_imul d128_225 ?_
                            refine as_iload d128_226 rfl ?_
                            refine an_iadd d128_228 ?_
                            refine as_iload d128_229 rfl ?_
                            refine ap_iast d128_231 (fun _ _ _ _ => rfl) (by decide) (by omega) (by decide) ?_
                            refine as_aload_n d128_232 rfl ?_
                            refine ap_get d128_233 f128_13 (by decide) rfl rfl ?_
                            refine an_iconst 4 d128_236 rfl ?_
                            refine as_iload d128_237 rfl ?_
                            refine an_imul d128_239 ?_
                            refine as_iload d128_240 rfl ?_
                            refine an_iadd d128_242 ?_
                            refine as_iload d128_243 rfl ?_
                            refine ap_iast d128_245 (fun _ _ _ _ => rfl) (by decide) (by omega) (by decide) ?_
                            refine an_iinc 1 d128_246 rfl rfl (by decide) ?_
                            refine as_goto 174 d128_249 (by decide) ?_
                            refine AW.loc [(0, .ref (189)), (1, .int (nI (p))), (2, .int (nI (f))), (3, .int (nI (q))), (4, .int (nI (g))), (6, .int (nI (m % 4))), (7, .int (nI (m / 4 % 4))), (8, .int (nI (m / 16))), (9, .int (nI (4 * p + f))), (10, .int (nI (4 * q + g))), (11, .int (nI (gi f (x) + 1))), (12, .int (nI (x + 1)))] (am_pick [3, 4, 5, 6, 7, 8, 9, 10, 11, 12, 1, 0] rfl rfl) ?_
                            refine an_mem (congrArg HP (show _ = glRow S (4 * p + f) (4 * q + g) f g m (x + 1) from ?_)) ?_
                            · rw [glRow_s, ey]
                            · rw [ei] at ih
                              exact ih
                      · refine as_iload d128_174 rfl ?_
                        refine an_iconst 4 d128_176 rfl ?_
                        refine an_icmp_ge 252 d128_177 (by decide) (by omega) (by omega) (fun c25 => ?_) (fun c25 => by omega)
                        refine an_iconst 1 d128_252 rfl ?_
                        refine as_ireturn d128_253 (by rw [t128]; rfl) ?_
                        refine am_rr ?_ ?_
                        · unfold gAns
                          first | (rw [if_pos (by omega)]) | (rw [if_neg (by omega), if_neg (fun h => e1 (by rw [h.1]; rfl))]) | (rw [if_neg (by omega), if_neg (fun h => e2 (by rw [h.2]; rfl))]) | (rw [if_neg (by omega), if_pos ⟨mt_none hG (by omega) e1, mt_none hG (by omega) e2⟩]; rfl)
                        · unfold gMem
                          first | (rw [if_pos (by omega)]) | (rw [if_neg (by omega), if_neg (fun h => e1 (by rw [h.1]; rfl))]) | (rw [if_neg (by omega), if_neg (fun h => e2 (by rw [h.2]; rfl))]) | (rw [if_neg (by omega), if_pos ⟨mt_none hG (by omega) e1, mt_none hG (by omega) e2⟩])
                    · refine an_bipushI (-3) d128_147 rfl ?_
                      refine as_ireturn d128_149 (by rw [t128]; rfl) ?_
                      refine am_rr ?_ ?_
                      · unfold gAns
                        first | (rw [if_pos (by omega)]) | (rw [if_neg (by omega), if_neg (fun h => e1 (by rw [h.1]; rfl))]) | (rw [if_neg (by omega), if_neg (fun h => e2 (by rw [h.2]; rfl))]) | (rw [if_neg (by omega), if_pos ⟨mt_none hG (by omega) e1, mt_none hG (by omega) e2⟩]; rfl)
                      · unfold gMem
                        first | (rw [if_pos (by omega)]) | (rw [if_neg (by omega), if_neg (fun h => e1 (by rw [h.1]; rfl))]) | (rw [if_neg (by omega), if_neg (fun h => e2 (by rw [h.2]; rfl))]) | (rw [if_neg (by omega), if_pos ⟨mt_none hG (by omega) e1, mt_none hG (by omega) e2⟩])
                · refine an_bipushI (-2) d128_107 rfl ?_
                  refine as_ireturn d128_109 (by rw [t128]; rfl) ?_
                  refine am_rr ?_ ?_
                  · unfold gAns
                    first | (rw [if_pos (by omega)]) | (rw [if_neg (by omega), if_neg (fun h => e1 (by rw [h.1]; rfl))]) | (rw [if_neg (by omega), if_neg (fun h => e2 (by rw [h.2]; rfl))]) | (rw [if_neg (by omega), if_pos ⟨mt_none hG (by omega) e1, mt_none hG (by omega) e2⟩]; rfl)
                  · unfold gMem
                    first | (rw [if_pos (by omega)]) | (rw [if_neg (by omega), if_neg (fun h => e1 (by rw [h.1]; rfl))]) | (rw [if_neg (by omega), if_neg (fun h => e2 (by rw [h.2]; rfl))]) | (rw [if_neg (by omega), if_pos ⟨mt_none hG (by omega) e1, mt_none hG (by omega) e2⟩])
def gA (P : Nat) (mt : Nat → Option Nat) (p f q g map : Int32) : Int32 := if isSd P p f ∧ isSd P q g ∧ 0 ≤ map ∧ map ≤ 63 then gAns mt p.toNatClampNeg f.toNatClampNeg q.toNatClampNeg g.toNatClampNeg map.toNatClampNeg else -2
def gM (S : MS) (P : Nat) (mt : Nat → Option Nat) (p f q g map : Int32) : MS := if isSd P p f ∧ isSd P q g ∧ 0 ≤ map ∧ map ≤ 63 then gMem S mt p.toNatClampNeg f.toNatClampNeg q.toNatClampNeg g.toNatClampNeg map.toNatClampNeg else S
theorem mc_glue (X : am_X) (S : MS) (P : Nat) (mt : Nat → Option Nat) (go : Nat → Nat) (p f q g map : Int32) (hG : GW P mt go) (hR : RG S P mt go) : MC X 128 [.ref (189), .int (p), .int (f), .int (q), .int (g), .int (map)] S (some (.int (gA P mt p f q g map))) (gM S P mt p f q g map) := by
  have hp := hR.1
  have hP := hG.1
  by_cases hv : isSd P p f ∧ isSd P q g ∧ 0 ≤ map ∧ map ≤ 63
  · unfold gA gM
    rw [if_pos hv, if_pos hv]
    obtain ⟨p1, f1, a1, a2, rfl, rfl, -⟩ := isSd_n hP hv.1
    obtain ⟨q1, g1, a3, a4, rfl, rfl, -⟩ := isSd_n hP hv.2.1
    obtain ⟨m1, a5, rfl⟩ := in63 hv.2.2
    rw [nI_clamp (by omega), nI_clamp (by omega), nI_clamp (by omega), nI_clamp (by omega), nI_clamp (by omega)]
    exact mc_glueN X S P mt go p1 f1 q1 g1 m1 hG hR a1 a2 a3 a4 a5
  · refine MC.of (Nat.le_of_ble_eq_true rfl) ?_
    refine as_aload_n d128_0 rfl ?_
    refine as_iload_n d128_1 rfl ?_
    refine as_iload_n d128_2 rfl ?_
    refine ac_v2 d128_3 c128_114 (by decide) rfl (Nat.le_of_ble_eq_true rfl) (mc_isSideP X _ P hP hp _ _) ?_
    refine as_if_eq 30 d128_6 (by decide) (fun c1 => ?_) (fun c1 => ?_)
    · refine an_bipushI (-2) d128_30 rfl ?_
      refine as_ireturn d128_32 (by rw [t128]; rfl) ?_
      refine am_rr ?_ ?_
      · unfold gA
        rw [if_neg hv]
      · unfold gM
        rw [if_neg hv]
    · refine as_aload_n d128_9 rfl ?_
      refine as_iload_n d128_10 rfl ?_
      refine as_iload d128_11 rfl ?_
      refine ac_v2 d128_13 c128_114 (by decide) rfl (Nat.le_of_ble_eq_true rfl) (mc_isSideP X _ P hP hp _ _) ?_
      refine as_if_eq 30 d128_16 (by decide) (fun c2 => ?_) (fun c2 => ?_)
      · refine an_bipushI (-2) d128_30 rfl ?_
        refine as_ireturn d128_32 (by rw [t128]; rfl) ?_
        refine am_rr ?_ ?_
        · unfold gA
          rw [if_neg hv]
        · unfold gM
          rw [if_neg hv]
      · refine as_iload d128_19 rfl ?_
        refine an_iconst 0 d128_21 rfl ?_
        refine an_bipush 63 d128_22 rfl ?_
        refine ac_s3 d128_24 c128_71 (by decide) (Nat.le_of_ble_eq_true rfl) (mc_in X _ _ _ _) ?_
        refine as_if_ne 33 d128_27 (by decide) (fun c3 => ?_) (fun c3 => ?_)
        · exact absurd ⟨am_b1 c1, am_b1 c2, am_b1 c3⟩ hv
        · refine an_bipushI (-2) d128_30 rfl ?_
          refine as_ireturn d128_32 (by rw [t128]; rfl) ?_
          refine am_rr ?_ ?_
          · unfold gA
            rw [if_neg hv]
          · unfold gM
            rw [if_neg hv]
