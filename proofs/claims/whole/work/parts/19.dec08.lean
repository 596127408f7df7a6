/-! ThirdSheetsModel.drop()I is 165 -/
theorem d165_0 : decode (am_code 165) 0 = .ok (.iconst 0, 1) := by decide +kernel
theorem d165_1 : decode (am_code 165) 1 = .ok (.istore_n 1, 1) := by decide +kernel
theorem d165_2 : decode (am_code 165) 2 = .ok (.iconst 0, 1) := by decide +kernel
theorem d165_3 : decode (am_code 165) 3 = .ok (.istore_n 2, 1) := by decide +kernel
theorem d165_4 : decode (am_code 165) 4 = .ok (.iload_n 2, 1) := by decide +kernel
theorem d165_5 : decode (am_code 165) 5 = .ok (.bipush 21, 2) := by decide +kernel
theorem d165_7 : decode (am_code 165) 7 = .ok (.if_icmp .ge 26, 3) := by decide +kernel
theorem d165_10 : decode (am_code 165) 10 = .ok (.iload_n 1, 1) := by decide +kernel
theorem d165_11 : decode (am_code 165) 11 = .ok (.aload_n 0, 1) := by decide +kernel
theorem d165_12 : decode (am_code 165) 12 = .ok (.getfield 16, 3) := by decide +kernel
theorem d165_15 : decode (am_code 165) 15 = .ok (.iload_n 2, 1) := by decide +kernel
theorem d165_16 : decode (am_code 165) 16 = .ok (.iaload, 1) := by decide +kernel
theorem d165_17 : decode (am_code 165) 17 = .ok (.ifCond .eq 7, 3) := by decide +kernel
theorem d165_20 : decode (am_code 165) 20 = .ok (.iconst 1, 1) := by decide +kernel
theorem d165_21 : decode (am_code 165) 21 = .ok (.goto 4, 3) := by decide +kernel
theorem d165_24 : decode (am_code 165) 24 = .ok (.iconst 0, 1) := by decide +kernel
theorem d165_25 : decode (am_code 165) 25 = .ok (.iadd, 1) := by decide +kernel
theorem d165_26 : decode (am_code 165) 26 = .ok (.istore_n 1, 1) := by decide +kernel
theorem d165_27 : decode (am_code 165) 27 = .ok (.iinc 2 1, 3) := by decide +kernel
theorem d165_30 : decode (am_code 165) 30 = .ok (.goto (-26), 3) := by decide +kernel
theorem d165_33 : decode (am_code 165) 33 = .ok (.aload_n 0, 1) := by decide +kernel
theorem d165_34 : decode (am_code 165) 34 = .ok (.invokevirtual 111, 3) := by decide +kernel
theorem d165_37 : decode (am_code 165) 37 = .ok (.iload_n 1, 1) := by decide +kernel
theorem d165_38 : decode (am_code 165) 38 = .ok (.ireturn, 1) := by decide +kernel
theorem f165_16 : am_find am_ftL (am_mc 165) 16 = some (7, 3) := by decide +kernel
theorem c165_111 : am_find am_ctL (am_mc 165) 111 = some (0, 127) ∧ am_na 127 = 0 ∧ am_fr 127 + 1 ≤ am_fr 165 ∧ 8 + (am_maxL 127 + 11) + am_lo 127 ≤ am_lo 165 := by decide +kernel
theorem l165 : am_maxL 165 = 3 := by decide +kernel
theorem t165 : am_ret 165 = (some .int) := by decide +kernel
/-! ThirdSheetsModel.arcs(III)I is 166 -/
theorem d166_0 : decode (am_code 166) 0 = .ok (.aload_n 0, 1) := by decide +kernel
theorem d166_1 : decode (am_code 166) 1 = .ok (.getfield 16, 3) := by decide +kernel
theorem d166_4 : decode (am_code 166) 4 = .ok (.bipush 7, 2) := by decide +kernel
theorem d166_6 : decode (am_code 166) 6 = .ok (.iload_n 1, 1) := by decide +kernel
theorem d166_7 : decode (am_code 166) 7 = .ok (.imul, 1) := by decide +kernel
theorem d166_8 : decode (am_code 166) 8 = .ok (.iload_n 3, 1) := by decide +kernel
theorem d166_9 : decode (am_code 166) 9 = .ok (.iadd, 1) := by decide +kernel
theorem d166_10 : decode (am_code 166) 10 = .ok (.iaload, 1) := by decide +kernel
theorem d166_11 : decode (am_code 166) 11 = .ok (.aload_n 0, 1) := by decide +kernel
theorem d166_12 : decode (am_code 166) 12 = .ok (.getfield 16, 3) := by decide +kernel
theorem d166_15 : decode (am_code 166) 15 = .ok (.bipush 7, 2) := by decide +kernel
theorem d166_17 : decode (am_code 166) 17 = .ok (.iload_n 1, 1) := by decide +kernel
theorem d166_18 : decode (am_code 166) 18 = .ok (.imul, 1) := by decide +kernel
theorem d166_19 : decode (am_code 166) 19 = .ok (.iconst 4, 1) := by decide +kernel
theorem d166_20 : decode (am_code 166) 20 = .ok (.iadd, 1) := by decide +kernel
theorem d166_21 : decode (am_code 166) 21 = .ok (.iload_n 3, 1) := by decide +kernel
theorem d166_22 : decode (am_code 166) 22 = .ok (.iload_n 2, 1) := by decide +kernel
theorem d166_23 : decode (am_code 166) 23 = .ok (.invokestatic 186, 3) := by decide +kernel
theorem d166_26 : decode (am_code 166) 26 = .ok (.iadd, 1) := by decide +kernel
theorem d166_27 : decode (am_code 166) 27 = .ok (.iaload, 1) := by decide +kernel
theorem d166_28 : decode (am_code 166) 28 = .ok (.iadd, 1) := by decide +kernel
theorem d166_29 : decode (am_code 166) 29 = .ok (.ireturn, 1) := by decide +kernel
theorem f166_16 : am_find am_ftL (am_mc 166) 16 = some (7, 3) := by decide +kernel
theorem c166_186 : am_find am_ctL (am_mc 166) 186 = some (1, 149) ∧ am_na 149 = 2 ∧ am_fr 149 + 1 ≤ am_fr 166 ∧ 8 + (am_maxL 149 + 11) + am_lo 149 ≤ am_lo 166 := by decide +kernel
theorem l166 : am_maxL 166 = 4 := by decide +kernel
theorem t166 : am_ret 166 = (some .int) := by decide +kernel
/-! ThirdSheetsModel.legal()I is 167 -/
theorem d167_0 : decode (am_code 167) 0 = .ok (.iconst 0, 1) := by decide +kernel
theorem d167_1 : decode (am_code 167) 1 = .ok (.istore_n 1, 1) := by decide +kernel
theorem d167_2 : decode (am_code 167) 2 = .ok (.iload_n 1, 1) := by decide +kernel
theorem d167_3 : decode (am_code 167) 3 = .ok (.iconst 4, 1) := by decide +kernel
theorem d167_4 : decode (am_code 167) 4 = .ok (.aload_n 0, 1) := by decide +kernel
theorem d167_5 : decode (am_code 167) 5 = .ok (.getfield 67, 3) := by decide +kernel
theorem d167_8 : decode (am_code 167) 8 = .ok (.imul, 1) := by decide +kernel
theorem d167_9 : decode (am_code 167) 9 = .ok (.if_icmp .ge 85, 3) := by decide +kernel
theorem d167_12 : decode (am_code 167) 12 = .ok (.iconst 0, 1) := by decide +kernel
theorem d167_13 : decode (am_code 167) 13 = .ok (.istore_n 2, 1) := by decide +kernel
theorem d167_14 : decode (am_code 167) 14 = .ok (.iload_n 2, 1) := by decide +kernel
theorem d167_15 : decode (am_code 167) 15 = .ok (.iconst 4, 1) := by decide +kernel
theorem d167_16 : decode (am_code 167) 16 = .ok (.if_icmp .ge 72, 3) := by decide +kernel
theorem d167_19 : decode (am_code 167) 19 = .ok (.aload_n 0, 1) := by decide +kernel
theorem d167_20 : decode (am_code 167) 20 = .ok (.getfield 7, 3) := by decide +kernel
theorem d167_23 : decode (am_code 167) 23 = .ok (.iload_n 1, 1) := by decide +kernel
theorem d167_24 : decode (am_code 167) 24 = .ok (.iaload, 1) := by decide +kernel
theorem d167_25 : decode (am_code 167) 25 = .ok (.iconst (-1), 1) := by decide +kernel
theorem d167_26 : decode (am_code 167) 26 = .ok (.if_icmp .eq 62, 3) := by decide +kernel
theorem d167_29 : decode (am_code 167) 29 = .ok (.iload_n 2, 1) := by decide +kernel
theorem d167_30 : decode (am_code 167) 30 = .ok (.iload_n 1, 1) := by decide +kernel
theorem d167_31 : decode (am_code 167) 31 = .ok (.iconst 4, 1) := by decide +kernel
theorem d167_32 : decode (am_code 167) 32 = .ok (.irem, 1) := by decide +kernel
theorem d167_33 : decode (am_code 167) 33 = .ok (.if_icmp .eq 49, 3) := by decide +kernel
theorem d167_36 : decode (am_code 167) 36 = .ok (.aload_n 0, 1) := by decide +kernel
theorem d167_37 : decode (am_code 167) 37 = .ok (.iload_n 1, 1) := by decide +kernel
theorem d167_38 : decode (am_code 167) 38 = .ok (.iconst 4, 1) := by decide +kernel
theorem d167_39 : decode (am_code 167) 39 = .ok (.idiv, 1) := by decide +kernel
theorem d167_40 : decode (am_code 167) 40 = .ok (.iload_n 1, 1) := by decide +kernel
theorem d167_41 : decode (am_code 167) 41 = .ok (.iconst 4, 1) := by decide +kernel
theorem d167_42 : decode (am_code 167) 42 = .ok (.irem, 1) := by decide +kernel
theorem d167_43 : decode (am_code 167) 43 = .ok (.iload_n 2, 1) := by decide +kernel
theorem d167_44 : decode (am_code 167) 44 = .ok (.invokevirtual 230, 3) := by decide +kernel
theorem d167_47 : decode (am_code 167) 47 = .ok (.aload_n 0, 1) := by decide +kernel
theorem d167_48 : decode (am_code 167) 48 = .ok (.aload_n 0, 1) := by decide +kernel
theorem d167_49 : decode (am_code 167) 49 = .ok (.getfield 7, 3) := by decide +kernel
theorem d167_52 : decode (am_code 167) 52 = .ok (.iload_n 1, 1) := by decide +kernel
theorem d167_53 : decode (am_code 167) 53 = .ok (.iaload, 1) := by decide +kernel
theorem d167_54 : decode (am_code 167) 54 = .ok (.iconst 4, 1) := by decide +kernel
theorem d167_55 : decode (am_code 167) 55 = .ok (.idiv, 1) := by decide +kernel
theorem d167_56 : decode (am_code 167) 56 = .ok (.aload_n 0, 1) := by decide +kernel
theorem d167_57 : decode (am_code 167) 57 = .ok (.getfield 7, 3) := by decide +kernel
theorem d167_60 : decode (am_code 167) 60 = .ok (.iload_n 1, 1) := by decide +kernel
theorem d167_61 : decode (am_code 167) 61 = .ok (.iaload, 1) := by decide +kernel
theorem d167_62 : decode (am_code 167) 62 = .ok (.iconst 4, 1) := by decide +kernel
theorem d167_63 : decode (am_code 167) 63 = .ok (.irem, 1) := by decide +kernel
theorem d167_64 : decode (am_code 167) 64 = .ok (.aload_n 0, 1) := by decide +kernel
theorem d167_65 : decode (am_code 167) 65 = .ok (.getfield 13, 3) := by decide +kernel
theorem d167_68 : decode (am_code 167) 68 = .ok (.iconst 4, 1) := by decide +kernel
theorem d167_69 : decode (am_code 167) 69 = .ok (.iload_n 1, 1) := by decide +kernel
theorem d167_70 : decode (am_code 167) 70 = .ok (.imul, 1) := by decide +kernel
theorem d167_71 : decode (am_code 167) 71 = .ok (.iload_n 2, 1) := by decide +kernel
theorem d167_72 : decode (am_code 167) 72 = .ok (.iadd, 1) := by decide +kernel
theorem d167_73 : decode (am_code 167) 73 = .ok (.iaload, 1) := by decide +kernel
theorem d167_74 : decode (am_code 167) 74 = .ok (.invokevirtual 230, 3) := by decide +kernel
theorem d167_77 : decode (am_code 167) 77 = .ok (.if_icmp .eq 5, 3) := by decide +kernel
theorem d167_80 : decode (am_code 167) 80 = .ok (.iconst 1, 1) := by decide +kernel
theorem d167_81 : decode (am_code 167) 81 = .ok (.ireturn, 1) := by decide +kernel
theorem d167_82 : decode (am_code 167) 82 = .ok (.iinc 2 1, 3) := by decide +kernel
theorem d167_85 : decode (am_code 167) 85 = .ok (.goto (-71), 3) := by decide +kernel
theorem d167_88 : decode (am_code 167) 88 = .ok (.iinc 1 1, 3) := by decide +kernel
theorem d167_91 : decode (am_code 167) 91 = .ok (.goto (-89), 3) := by decide +kernel
theorem d167_94 : decode (am_code 167) 94 = .ok (.iconst 0, 1) := by decide +kernel
theorem d167_95 : decode (am_code 167) 95 = .ok (.istore_n 1, 1) := by decide +kernel
theorem d167_96 : decode (am_code 167) 96 = .ok (.iconst 0, 1) := by decide +kernel
theorem d167_97 : decode (am_code 167) 97 = .ok (.istore_n 2, 1) := by decide +kernel
theorem d167_98 : decode (am_code 167) 98 = .ok (.iload_n 2, 1) := by decide +kernel
theorem d167_99 : decode (am_code 167) 99 = .ok (.bipush 7, 2) := by decide +kernel
theorem d167_101 : decode (am_code 167) 101 = .ok (.aload_n 0, 1) := by decide +kernel
theorem d167_102 : decode (am_code 167) 102 = .ok (.getfield 67, 3) := by decide +kernel
theorem d167_105 : decode (am_code 167) 105 = .ok (.imul, 1) := by decide +kernel
theorem d167_106 : decode (am_code 167) 106 = .ok (.if_icmp .ge 28, 3) := by decide +kernel
theorem d167_109 : decode (am_code 167) 109 = .ok (.iload_n 1, 1) := by decide +kernel
theorem d167_110 : decode (am_code 167) 110 = .ok (.aload_n 0, 1) := by decide +kernel
theorem d167_111 : decode (am_code 167) 111 = .ok (.getfield 16, 3) := by decide +kernel
theorem d167_114 : decode (am_code 167) 114 = .ok (.iload_n 2, 1) := by decide +kernel
theorem d167_115 : decode (am_code 167) 115 = .ok (.iaload, 1) := by decide +kernel
theorem d167_116 : decode (am_code 167) 116 = .ok (.ifCond .eq 9, 3) := by decide +kernel
theorem d167_119 : decode (am_code 167) 119 = .ok (.iconst 1, 1) := by decide +kernel
theorem d167_120 : decode (am_code 167) 120 = .ok (.iload_n 2, 1) := by decide +kernel
theorem d167_121 : decode (am_code 167) 121 = .ok (.ishl, 1) := by decide +kernel
theorem d167_122 : decode (am_code 167) 122 = .ok (.goto 4, 3) := by decide +kernel
theorem d167_125 : decode (am_code 167) 125 = .ok (.iconst 0, 1) := by decide +kernel
theorem d167_126 : decode (am_code 167) 126 = .ok (.ior, 1) := by decide +kernel
theorem d167_127 : decode (am_code 167) 127 = .ok (.istore_n 1, 1) := by decide +kernel
theorem d167_128 : decode (am_code 167) 128 = .ok (.iinc 2 1, 3) := by decide +kernel
theorem d167_131 : decode (am_code 167) 131 = .ok (.goto (-33), 3) := by decide +kernel
theorem d167_134 : decode (am_code 167) 134 = .ok (.aload_n 0, 1) := by decide +kernel
theorem d167_135 : decode (am_code 167) 135 = .ok (.iload_n 1, 1) := by decide +kernel
theorem d167_136 : decode (am_code 167) 136 = .ok (.invokevirtual 208, 3) := by decide +kernel
theorem d167_139 : decode (am_code 167) 139 = .ok (.ifCond .eq 7, 3) := by decide +kernel
theorem d167_142 : decode (am_code 167) 142 = .ok (.iconst 0, 1) := by decide +kernel
theorem d167_143 : decode (am_code 167) 143 = .ok (.goto 4, 3) := by decide +kernel
theorem d167_146 : decode (am_code 167) 146 = .ok (.iconst 2, 1) := by decide +kernel
theorem d167_147 : decode (am_code 167) 147 = .ok (.ireturn, 1) := by decide +kernel
theorem f167_67 : am_find am_ftL (am_mc 167) 67 = some (7, 0) := by decide +kernel
theorem f167_7 : am_find am_ftL (am_mc 167) 7 = some (7, 1) := by decide +kernel
theorem f167_13 : am_find am_ftL (am_mc 167) 13 = some (7, 2) := by decide +kernel
theorem f167_16 : am_find am_ftL (am_mc 167) 16 = some (7, 3) := by decide +kernel
theorem c167_230 : am_find am_ctL (am_mc 167) 230 = some (0, 166) ∧ am_na 166 = 3 ∧ am_fr 166 + 1 ≤ am_fr 167 ∧ 8 + (am_maxL 166 + 11) + am_lo 166 ≤ am_lo 167 := by decide +kernel
theorem c167_208 : am_find am_ctL (am_mc 167) 208 = some (0, 153) ∧ am_na 153 = 1 ∧ am_fr 153 + 1 ≤ am_fr 167 ∧ 8 + (am_maxL 153 + 11) + am_lo 153 ≤ am_lo 167 := by decide +kernel
theorem l167 : am_maxL 167 = 3 := by decide +kernel
theorem t167 : am_ret 167 = (some .int) := by decide +kernel
/-! ThirdSheetsModel.meets(II)Z is 168 -/
theorem d168_0 : decode (am_code 168) 0 = .ok (.iload_n 1, 1) := by decide +kernel
theorem d168_1 : decode (am_code 168) 1 = .ok (.iconst 4, 1) := by decide +kernel
theorem d168_2 : decode (am_code 168) 2 = .ok (.if_icmp .ge 31, 3) := by decide +kernel
theorem d168_5 : decode (am_code 168) 5 = .ok (.aload_n 0, 1) := by decide +kernel
theorem d168_6 : decode (am_code 168) 6 = .ok (.getfield 19, 3) := by decide +kernel
theorem d168_9 : decode (am_code 168) 9 = .ok (.iload_n 2, 1) := by decide +kernel
theorem d168_10 : decode (am_code 168) 10 = .ok (.iaload, 1) := by decide +kernel
theorem d168_11 : decode (am_code 168) 11 = .ok (.iload_n 1, 1) := by decide +kernel
theorem d168_12 : decode (am_code 168) 12 = .ok (.if_icmp .eq 13, 3) := by decide +kernel
theorem d168_15 : decode (am_code 168) 15 = .ok (.aload_n 0, 1) := by decide +kernel
theorem d168_16 : decode (am_code 168) 16 = .ok (.getfield 22, 3) := by decide +kernel
theorem d168_19 : decode (am_code 168) 19 = .ok (.iload_n 2, 1) := by decide +kernel
theorem d168_20 : decode (am_code 168) 20 = .ok (.iaload, 1) := by decide +kernel
theorem d168_21 : decode (am_code 168) 21 = .ok (.iload_n 1, 1) := by decide +kernel
theorem d168_22 : decode (am_code 168) 22 = .ok (.if_icmp .ne 7, 3) := by decide +kernel
theorem d168_25 : decode (am_code 168) 25 = .ok (.iconst 1, 1) := by decide +kernel
theorem d168_26 : decode (am_code 168) 26 = .ok (.goto 33, 3) := by decide +kernel
theorem d168_29 : decode (am_code 168) 29 = .ok (.iconst 0, 1) := by decide +kernel
theorem d168_30 : decode (am_code 168) 30 = .ok (.goto 29, 3) := by decide +kernel
theorem d168_33 : decode (am_code 168) 33 = .ok (.aload_n 0, 1) := by decide +kernel
theorem d168_34 : decode (am_code 168) 34 = .ok (.getfield 19, 3) := by decide +kernel
theorem d168_37 : decode (am_code 168) 37 = .ok (.iload_n 2, 1) := by decide +kernel
theorem d168_38 : decode (am_code 168) 38 = .ok (.iaload, 1) := by decide +kernel
theorem d168_39 : decode (am_code 168) 39 = .ok (.aload_n 0, 1) := by decide +kernel
theorem d168_40 : decode (am_code 168) 40 = .ok (.getfield 22, 3) := by decide +kernel
theorem d168_43 : decode (am_code 168) 43 = .ok (.iload_n 2, 1) := by decide +kernel
theorem d168_44 : decode (am_code 168) 44 = .ok (.iaload, 1) := by decide +kernel
theorem d168_45 : decode (am_code 168) 45 = .ok (.invokestatic 186, 3) := by decide +kernel
theorem d168_48 : decode (am_code 168) 48 = .ok (.iload_n 1, 1) := by decide +kernel
theorem d168_49 : decode (am_code 168) 49 = .ok (.iconst 4, 1) := by decide +kernel
theorem d168_50 : decode (am_code 168) 50 = .ok (.isub, 1) := by decide +kernel
theorem d168_51 : decode (am_code 168) 51 = .ok (.if_icmp .eq 7, 3) := by decide +kernel
theorem d168_54 : decode (am_code 168) 54 = .ok (.iconst 1, 1) := by decide +kernel
theorem d168_55 : decode (am_code 168) 55 = .ok (.goto 4, 3) := by decide +kernel
theorem d168_58 : decode (am_code 168) 58 = .ok (.iconst 0, 1) := by decide +kernel
theorem d168_59 : decode (am_code 168) 59 = .ok (.ireturn, 1) := by decide +kernel
theorem f168_19 : am_find am_ftL (am_mc 168) 19 = some (7, 4) := by decide +kernel
theorem f168_22 : am_find am_ftL (am_mc 168) 22 = some (7, 5) := by decide +kernel
theorem c168_186 : am_find am_ctL (am_mc 168) 186 = some (1, 149) ∧ am_na 149 = 2 ∧ am_fr 149 + 1 ≤ am_fr 168 ∧ 8 + (am_maxL 149 + 11) + am_lo 149 ≤ am_lo 168 := by decide +kernel
theorem l168 : am_maxL 168 = 3 := by decide +kernel
theorem t168 : am_ret 168 = (some .boolean) := by decide +kernel
/-! ThirdSheetsModel.euler()I is 169 -/
theorem d169_0 : decode (am_code 169) 0 = .ok (.aload_n 0, 1) := by decide +kernel
theorem d169_1 : decode (am_code 169) 1 = .ok (.invokevirtual 233, 3) := by decide +kernel
theorem d169_4 : decode (am_code 169) 4 = .ok (.ifCond .eq 6, 3) := by decide +kernel
theorem d169_7 : decode (am_code 169) 7 = .ok (.ldc 128, 2) := by decide +kernel
theorem d169_9 : decode (am_code 169) 9 = .ok (.ireturn, 1) := by decide +kernel
theorem d169_10 : decode (am_code 169) 10 = .ok (.aload_n 0, 1) := by decide +kernel
theorem d169_11 : decode (am_code 169) 11 = .ok (.invokevirtual 118, 3) := by decide +kernel
theorem d169_14 : decode (am_code 169) 14 = .ok (.iconst 0, 1) := by decide +kernel
theorem d169_15 : decode (am_code 169) 15 = .ok (.istore_n 1, 1) := by decide +kernel
theorem d169_16 : decode (am_code 169) 16 = .ok (.iconst 0, 1) := by decide +kernel
theorem d169_17 : decode (am_code 169) 17 = .ok (.istore_n 2, 1) := by decide +kernel
theorem d169_18 : decode (am_code 169) 18 = .ok (.iload_n 2, 1) := by decide +kernel
theorem d169_19 : decode (am_code 169) 19 = .ok (.bipush 6, 2) := by decide +kernel
theorem d169_21 : decode (am_code 169) 21 = .ok (.aload_n 0, 1) := by decide +kernel
theorem d169_22 : decode (am_code 169) 22 = .ok (.getfield 67, 3) := by decide +kernel
theorem d169_25 : decode (am_code 169) 25 = .ok (.imul, 1) := by decide +kernel
theorem d169_26 : decode (am_code 169) 26 = .ok (.if_icmp .ge 64, 3) := by decide +kernel
theorem d169_29 : decode (am_code 169) 29 = .ok (.iconst 0, 1) := by decide +kernel
theorem d169_30 : decode (am_code 169) 30 = .ok (.istore_n 3, 1) := by decide +kernel
theorem d169_31 : decode (am_code 169) 31 = .ok (.iload_n 3, 1) := by decide +kernel
theorem d169_32 : decode (am_code 169) 32 = .ok (.bipush 7, 2) := by decide +kernel
theorem d169_34 : decode (am_code 169) 34 = .ok (.if_icmp .ge 50, 3) := by decide +kernel
theorem d169_37 : decode (am_code 169) 37 = .ok (.aload_n 0, 1) := by decide +kernel
theorem d169_38 : decode (am_code 169) 38 = .ok (.iload_n 2, 1) := by decide +kernel
theorem d169_39 : decode (am_code 169) 39 = .ok (.invokevirtual 105, 3) := by decide +kernel
theorem d169_42 : decode (am_code 169) 42 = .ok (.ifCond .eq 42, 3) := by decide +kernel
theorem d169_45 : decode (am_code 169) 45 = .ok (.iload_n 1, 1) := by decide +kernel
theorem d169_46 : decode (am_code 169) 46 = .ok (.aload_n 0, 1) := by decide +kernel
theorem d169_47 : decode (am_code 169) 47 = .ok (.iload_n 3, 1) := by decide +kernel
theorem d169_48 : decode (am_code 169) 48 = .ok (.iload_n 2, 1) := by decide +kernel
theorem d169_49 : decode (am_code 169) 49 = .ok (.bipush 6, 2) := by decide +kernel
theorem d169_51 : decode (am_code 169) 51 = .ok (.irem, 1) := by decide +kernel
theorem d169_52 : decode (am_code 169) 52 = .ok (.invokevirtual 236, 3) := by decide +kernel
theorem d169_55 : decode (am_code 169) 55 = .ok (.ifCond .eq 20, 3) := by decide +kernel
theorem d169_58 : decode (am_code 169) 58 = .ok (.aload_n 0, 1) := by decide +kernel
theorem d169_59 : decode (am_code 169) 59 = .ok (.getfield 16, 3) := by decide +kernel
theorem d169_62 : decode (am_code 169) 62 = .ok (.bipush 7, 2) := by decide +kernel
theorem d169_64 : decode (am_code 169) 64 = .ok (.iload_n 2, 1) := by decide +kernel
theorem d169_65 : decode (am_code 169) 65 = .ok (.bipush 6, 2) := by decide +kernel
theorem d169_67 : decode (am_code 169) 67 = .ok (.idiv, 1) := by decide +kernel
theorem d169_68 : decode (am_code 169) 68 = .ok (.imul, 1) := by decide +kernel
theorem d169_69 : decode (am_code 169) 69 = .ok (.iload_n 3, 1) := by decide +kernel
theorem d169_70 : decode (am_code 169) 70 = .ok (.iadd, 1) := by decide +kernel
theorem d169_71 : decode (am_code 169) 71 = .ok (.iaload, 1) := by decide +kernel
theorem d169_72 : decode (am_code 169) 72 = .ok (.goto 4, 3) := by decide +kernel
theorem d169_75 : decode (am_code 169) 75 = .ok (.iconst 0, 1) := by decide +kernel
theorem d169_76 : decode (am_code 169) 76 = .ok (.iadd, 1) := by decide +kernel
theorem d169_77 : decode (am_code 169) 77 = .ok (.istore_n 1, 1) := by decide +kernel
theorem d169_78 : decode (am_code 169) 78 = .ok (.iinc 3 1, 3) := by decide +kernel
theorem d169_81 : decode (am_code 169) 81 = .ok (.goto (-50), 3) := by decide +kernel
theorem d169_84 : decode (am_code 169) 84 = .ok (.iinc 2 1, 3) := by decide +kernel
theorem d169_87 : decode (am_code 169) 87 = .ok (.goto (-69), 3) := by decide +kernel
theorem d169_90 : decode (am_code 169) 90 = .ok (.iconst 0, 1) := by decide +kernel
theorem d169_91 : decode (am_code 169) 91 = .ok (.istore_n 2, 1) := by decide +kernel
theorem d169_92 : decode (am_code 169) 92 = .ok (.iload_n 2, 1) := by decide +kernel
theorem d169_93 : decode (am_code 169) 93 = .ok (.iconst 4, 1) := by decide +kernel
theorem d169_94 : decode (am_code 169) 94 = .ok (.aload_n 0, 1) := by decide +kernel
theorem d169_95 : decode (am_code 169) 95 = .ok (.getfield 67, 3) := by decide +kernel
theorem d169_98 : decode (am_code 169) 98 = .ok (.imul, 1) := by decide +kernel
theorem d169_99 : decode (am_code 169) 99 = .ok (.if_icmp .ge 67, 3) := by decide +kernel
theorem d169_102 : decode (am_code 169) 102 = .ok (.iconst 0, 1) := by decide +kernel
theorem d169_103 : decode (am_code 169) 103 = .ok (.istore_n 3, 1) := by decide +kernel
theorem d169_104 : decode (am_code 169) 104 = .ok (.iload_n 3, 1) := by decide +kernel
theorem d169_105 : decode (am_code 169) 105 = .ok (.iconst 4, 1) := by decide +kernel
theorem d169_106 : decode (am_code 169) 106 = .ok (.if_icmp .ge 54, 3) := by decide +kernel
theorem d169_109 : decode (am_code 169) 109 = .ok (.iload_n 1, 1) := by decide +kernel
theorem d169_110 : decode (am_code 169) 110 = .ok (.iload_n 3, 1) := by decide +kernel
theorem d169_111 : decode (am_code 169) 111 = .ok (.iload_n 2, 1) := by decide +kernel
theorem d169_112 : decode (am_code 169) 112 = .ok (.iconst 4, 1) := by decide +kernel
theorem d169_113 : decode (am_code 169) 113 = .ok (.irem, 1) := by decide +kernel
theorem d169_114 : decode (am_code 169) 114 = .ok (.if_icmp .eq 37, 3) := by decide +kernel
theorem d169_117 : decode (am_code 169) 117 = .ok (.aload_n 0, 1) := by decide +kernel
theorem d169_118 : decode (am_code 169) 118 = .ok (.getfield 7, 3) := by decide +kernel
theorem d169_121 : decode (am_code 169) 121 = .ok (.iload_n 2, 1) := by decide +kernel
theorem d169_122 : decode (am_code 169) 122 = .ok (.iaload, 1) := by decide +kernel
theorem d169_123 : decode (am_code 169) 123 = .ok (.iconst (-1), 1) := by decide +kernel
theorem d169_124 : decode (am_code 169) 124 = .ok (.if_icmp .eq 13, 3) := by decide +kernel
theorem d169_127 : decode (am_code 169) 127 = .ok (.iload_n 2, 1) := by decide +kernel
theorem d169_128 : decode (am_code 169) 128 = .ok (.aload_n 0, 1) := by decide +kernel
theorem d169_129 : decode (am_code 169) 129 = .ok (.getfield 7, 3) := by decide +kernel
theorem d169_132 : decode (am_code 169) 132 = .ok (.iload_n 2, 1) := by decide +kernel
theorem d169_133 : decode (am_code 169) 133 = .ok (.iaload, 1) := by decide +kernel
theorem d169_134 : decode (am_code 169) 134 = .ok (.if_icmp .ge 17, 3) := by decide +kernel
theorem d169_137 : decode (am_code 169) 137 = .ok (.aload_n 0, 1) := by decide +kernel
theorem d169_138 : decode (am_code 169) 138 = .ok (.iload_n 2, 1) := by decide +kernel
theorem d169_139 : decode (am_code 169) 139 = .ok (.iconst 4, 1) := by decide +kernel
theorem d169_140 : decode (am_code 169) 140 = .ok (.idiv, 1) := by decide +kernel
theorem d169_141 : decode (am_code 169) 141 = .ok (.iload_n 2, 1) := by decide +kernel
theorem d169_142 : decode (am_code 169) 142 = .ok (.iconst 4, 1) := by decide +kernel
theorem d169_143 : decode (am_code 169) 143 = .ok (.irem, 1) := by decide +kernel
theorem d169_144 : decode (am_code 169) 144 = .ok (.iload_n 3, 1) := by decide +kernel
theorem d169_145 : decode (am_code 169) 145 = .ok (.invokevirtual 230, 3) := by decide +kernel
theorem d169_148 : decode (am_code 169) 148 = .ok (.goto 4, 3) := by decide +kernel
theorem d169_151 : decode (am_code 169) 151 = .ok (.iconst 0, 1) := by decide +kernel
theorem d169_152 : decode (am_code 169) 152 = .ok (.isub, 1) := by decide +kernel
theorem d169_153 : decode (am_code 169) 153 = .ok (.istore_n 1, 1) := by decide +kernel
theorem d169_154 : decode (am_code 169) 154 = .ok (.iinc 3 1, 3) := by decide +kernel
theorem d169_157 : decode (am_code 169) 157 = .ok (.goto (-53), 3) := by decide +kernel
theorem d169_160 : decode (am_code 169) 160 = .ok (.iinc 2 1, 3) := by decide +kernel
theorem d169_163 : decode (am_code 169) 163 = .ok (.goto (-71), 3) := by decide +kernel
theorem d169_166 : decode (am_code 169) 166 = .ok (.iconst 0, 1) := by decide +kernel
theorem d169_167 : decode (am_code 169) 167 = .ok (.istore_n 2, 1) := by decide +kernel
theorem d169_168 : decode (am_code 169) 168 = .ok (.iload_n 2, 1) := by decide +kernel
theorem d169_169 : decode (am_code 169) 169 = .ok (.bipush 7, 2) := by decide +kernel
theorem d169_171 : decode (am_code 169) 171 = .ok (.aload_n 0, 1) := by decide +kernel
theorem d169_172 : decode (am_code 169) 172 = .ok (.getfield 67, 3) := by decide +kernel
theorem d169_175 : decode (am_code 169) 175 = .ok (.imul, 1) := by decide +kernel
theorem d169_176 : decode (am_code 169) 176 = .ok (.if_icmp .ge 18, 3) := by decide +kernel
theorem d169_179 : decode (am_code 169) 179 = .ok (.iload_n 1, 1) := by decide +kernel
theorem d169_180 : decode (am_code 169) 180 = .ok (.aload_n 0, 1) := by decide +kernel
theorem d169_181 : decode (am_code 169) 181 = .ok (.getfield 16, 3) := by decide +kernel
theorem d169_184 : decode (am_code 169) 184 = .ok (.iload_n 2, 1) := by decide +kernel
theorem d169_185 : decode (am_code 169) 185 = .ok (.iaload, 1) := by decide +kernel
theorem d169_186 : decode (am_code 169) 186 = .ok (.iadd, 1) := by decide +kernel
theorem d169_187 : decode (am_code 169) 187 = .ok (.istore_n 1, 1) := by decide +kernel
theorem d169_188 : decode (am_code 169) 188 = .ok (.iinc 2 1, 3) := by decide +kernel
theorem d169_191 : decode (am_code 169) 191 = .ok (.goto (-23), 3) := by decide +kernel
theorem d169_194 : decode (am_code 169) 194 = .ok (.iload_n 1, 1) := by decide +kernel
theorem d169_195 : decode (am_code 169) 195 = .ok (.ireturn, 1) := by decide +kernel
theorem f169_67 : am_find am_ftL (am_mc 169) 67 = some (7, 0) := by decide +kernel
theorem f169_16 : am_find am_ftL (am_mc 169) 16 = some (7, 3) := by decide +kernel
theorem f169_7 : am_find am_ftL (am_mc 169) 7 = some (7, 1) := by decide +kernel
theorem c169_233 : am_find am_ctL (am_mc 169) 233 = some (0, 167) ∧ am_na 167 = 0 ∧ am_fr 167 + 1 ≤ am_fr 169 ∧ 8 + (am_maxL 167 + 11) + am_lo 167 ≤ am_lo 169 := by decide +kernel
theorem c169_118 : am_find am_ctL (am_mc 169) 118 = some (0, 116) ∧ am_na 116 = 0 ∧ am_fr 116 + 1 ≤ am_fr 169 ∧ 8 + (am_maxL 116 + 11) + am_lo 116 ≤ am_lo 169 := by decide +kernel
theorem c169_105 : am_find am_ctL (am_mc 169) 105 = some (0, 119) ∧ am_na 119 = 1 ∧ am_fr 119 + 1 ≤ am_fr 169 ∧ 8 + (am_maxL 119 + 11) + am_lo 119 ≤ am_lo 169 := by decide +kernel
theorem c169_236 : am_find am_ctL (am_mc 169) 236 = some (0, 168) ∧ am_na 168 = 2 ∧ am_fr 168 + 1 ≤ am_fr 169 ∧ 8 + (am_maxL 168 + 11) + am_lo 168 ≤ am_lo 169 := by decide +kernel
theorem c169_230 : am_find am_ctL (am_mc 169) 230 = some (0, 166) ∧ am_na 166 = 3 ∧ am_fr 166 + 1 ≤ am_fr 169 ∧ 8 + (am_maxL 166 + 11) + am_lo 166 ≤ am_lo 169 := by decide +kernel
theorem l169 : am_maxL 169 = 4 := by decide +kernel
theorem t169 : am_ret 169 = (some .int) := by decide +kernel
/-! ThirdSheetsModel.cutAt(III)I is 170 -/
theorem d170_0 : decode (am_code 170) 0 = .ok (.iload_n 1, 1) := by decide +kernel
theorem d170_1 : decode (am_code 170) 1 = .ok (.iconst 4, 1) := by decide +kernel
theorem d170_2 : decode (am_code 170) 2 = .ok (.idiv, 1) := by decide +kernel
theorem d170_3 : decode (am_code 170) 3 = .ok (.istore 4, 2) := by decide +kernel
theorem d170_5 : decode (am_code 170) 5 = .ok (.aload_n 0, 1) := by decide +kernel
theorem d170_6 : decode (am_code 170) 6 = .ok (.getfield 16, 3) := by decide +kernel
theorem d170_9 : decode (am_code 170) 9 = .ok (.bipush 7, 2) := by decide +kernel
theorem d170_11 : decode (am_code 170) 11 = .ok (.iload 4, 2) := by decide +kernel
theorem d170_13 : decode (am_code 170) 13 = .ok (.imul, 1) := by decide +kernel
theorem d170_14 : decode (am_code 170) 14 = .ok (.iload_n 2, 1) := by decide +kernel
theorem d170_15 : decode (am_code 170) 15 = .ok (.iadd, 1) := by decide +kernel
theorem d170_16 : decode (am_code 170) 16 = .ok (.iaload, 1) := by decide +kernel
theorem d170_17 : decode (am_code 170) 17 = .ok (.istore 5, 2) := by decide +kernel
theorem d170_19 : decode (am_code 170) 19 = .ok (.iload_n 3, 1) := by decide +kernel
theorem d170_20 : decode (am_code 170) 20 = .ok (.iload 5, 2) := by decide +kernel
theorem d170_22 : decode (am_code 170) 22 = .ok (.if_icmp .ge 18, 3) := by decide +kernel
theorem d170_25 : decode (am_code 170) 25 = .ok (.aload_n 0, 1) := by decide +kernel
theorem d170_26 : decode (am_code 170) 26 = .ok (.getfield 51, 3) := by decide +kernel
theorem d170_29 : decode (am_code 170) 29 = .ok (.bipush 7, 2) := by decide +kernel
theorem d170_31 : decode (am_code 170) 31 = .ok (.iload 4, 2) := by decide +kernel
theorem d170_33 : decode (am_code 170) 33 = .ok (.imul, 1) := by decide +kernel
theorem d170_34 : decode (am_code 170) 34 = .ok (.iload_n 2, 1) := by decide +kernel
theorem d170_35 : decode (am_code 170) 35 = .ok (.iadd, 1) := by decide +kernel
theorem d170_36 : decode (am_code 170) 36 = .ok (.iaload, 1) := by decide +kernel
theorem d170_37 : decode (am_code 170) 37 = .ok (.iload_n 3, 1) := by decide +kernel
theorem d170_38 : decode (am_code 170) 38 = .ok (.iadd, 1) := by decide +kernel
theorem d170_39 : decode (am_code 170) 39 = .ok (.ireturn, 1) := by decide +kernel
theorem d170_40 : decode (am_code 170) 40 = .ok (.iconst 4, 1) := by decide +kernel
theorem d170_41 : decode (am_code 170) 41 = .ok (.iload_n 2, 1) := by decide +kernel
theorem d170_42 : decode (am_code 170) 42 = .ok (.iload_n 1, 1) := by decide +kernel
theorem d170_43 : decode (am_code 170) 43 = .ok (.iconst 4, 1) := by decide +kernel
theorem d170_44 : decode (am_code 170) 44 = .ok (.irem, 1) := by decide +kernel
theorem d170_45 : decode (am_code 170) 45 = .ok (.invokestatic 186, 3) := by decide +kernel
theorem d170_48 : decode (am_code 170) 48 = .ok (.iadd, 1) := by decide +kernel
theorem d170_49 : decode (am_code 170) 49 = .ok (.istore 6, 2) := by decide +kernel
theorem d170_51 : decode (am_code 170) 51 = .ok (.iload_n 2, 1) := by decide +kernel
theorem d170_52 : decode (am_code 170) 52 = .ok (.ifCond .eq 9, 3) := by decide +kernel
theorem d170_55 : decode (am_code 170) 55 = .ok (.iload_n 1, 1) := by decide +kernel
theorem d170_56 : decode (am_code 170) 56 = .ok (.iconst 4, 1) := by decide +kernel
theorem d170_57 : decode (am_code 170) 57 = .ok (.irem, 1) := by decide +kernel
theorem d170_58 : decode (am_code 170) 58 = .ok (.ifCond .ne 7, 3) := by decide +kernel
theorem d170_61 : decode (am_code 170) 61 = .ok (.iconst 1, 1) := by decide +kernel
theorem d170_62 : decode (am_code 170) 62 = .ok (.goto 4, 3) := by decide +kernel
theorem d170_65 : decode (am_code 170) 65 = .ok (.iconst 0, 1) := by decide +kernel
theorem d170_66 : decode (am_code 170) 66 = .ok (.istore 7, 2) := by decide +kernel
theorem d170_68 : decode (am_code 170) 68 = .ok (.aload_n 0, 1) := by decide +kernel
theorem d170_69 : decode (am_code 170) 69 = .ok (.getfield 16, 3) := by decide +kernel
theorem d170_72 : decode (am_code 170) 72 = .ok (.bipush 7, 2) := by decide +kernel
theorem d170_74 : decode (am_code 170) 74 = .ok (.iload 4, 2) := by decide +kernel
theorem d170_76 : decode (am_code 170) 76 = .ok (.imul, 1) := by decide +kernel
theorem d170_77 : decode (am_code 170) 77 = .ok (.iload 6, 2) := by decide +kernel
theorem d170_79 : decode (am_code 170) 79 = .ok (.iadd, 1) := by decide +kernel
theorem d170_80 : decode (am_code 170) 80 = .ok (.iaload, 1) := by decide +kernel
theorem d170_81 : decode (am_code 170) 81 = .ok (.istore 8, 2) := by decide +kernel
theorem d170_83 : decode (am_code 170) 83 = .ok (.aload_n 0, 1) := by decide +kernel
theorem d170_84 : decode (am_code 170) 84 = .ok (.getfield 51, 3) := by decide +kernel
theorem d170_87 : decode (am_code 170) 87 = .ok (.bipush 7, 2) := by decide +kernel
theorem d170_89 : decode (am_code 170) 89 = .ok (.iload 4, 2) := by decide +kernel
theorem d170_91 : decode (am_code 170) 91 = .ok (.imul, 1) := by decide +kernel
theorem d170_92 : decode (am_code 170) 92 = .ok (.iload 6, 2) := by decide +kernel
theorem d170_94 : decode (am_code 170) 94 = .ok (.iadd, 1) := by decide +kernel
theorem d170_95 : decode (am_code 170) 95 = .ok (.iaload, 1) := by decide +kernel
theorem d170_96 : decode (am_code 170) 96 = .ok (.iload 7, 2) := by decide +kernel
theorem d170_98 : decode (am_code 170) 98 = .ok (.ifCond .eq 10, 3) := by decide +kernel
theorem d170_101 : decode (am_code 170) 101 = .ok (.iload_n 3, 1) := by decide +kernel
theorem d170_102 : decode (am_code 170) 102 = .ok (.iload 5, 2) := by decide +kernel
theorem d170_104 : decode (am_code 170) 104 = .ok (.isub, 1) := by decide +kernel
theorem d170_105 : decode (am_code 170) 105 = .ok (.goto 12, 3) := by decide +kernel
theorem d170_108 : decode (am_code 170) 108 = .ok (.iload 8, 2) := by decide +kernel
theorem d170_110 : decode (am_code 170) 110 = .ok (.iconst 1, 1) := by decide +kernel
theorem d170_111 : decode (am_code 170) 111 = .ok (.isub, 1) := by decide +kernel
theorem d170_112 : decode (am_code 170) 112 = .ok (.iload_n 3, 1) := by decide +kernel
theorem d170_113 : decode (am_code 170) 113 = .ok (.iload 5, 2) := by decide +kernel
theorem d170_115 : decode (am_code 170) 115 = .ok (.isub, 1) := by decide +kernel
theorem d170_116 : decode (am_code 170) 116 = .ok (.isub, 1) := by decide +kernel
theorem d170_117 : decode (am_code 170) 117 = .ok (.iadd, 1) := by decide +kernel
theorem d170_118 : decode (am_code 170) 118 = .ok (.ireturn, 1) := by decide +kernel
theorem f170_16 : am_find am_ftL (am_mc 170) 16 = some (7, 3) := by decide +kernel
theorem f170_51 : am_find am_ftL (am_mc 170) 51 = some (7, 20) := by decide +kernel
theorem c170_186 : am_find am_ctL (am_mc 170) 186 = some (1, 149) ∧ am_na 149 = 2 ∧ am_fr 149 + 1 ≤ am_fr 170 ∧ 8 + (am_maxL 149 + 11) + am_lo 149 ≤ am_lo 170 := by decide +kernel
theorem l170 : am_maxL 170 = 9 := by decide +kernel
theorem t170 : am_ret 170 = (some .int) := by decide +kernel
/-! ThirdSheetsModel.looks(III)Z is 171 -/
theorem d171_0 : decode (am_code 171) 0 = .ok (.iload_n 3, 1) := by decide +kernel
theorem d171_1 : decode (am_code 171) 1 = .ok (.aload_n 0, 1) := by decide +kernel
theorem d171_2 : decode (am_code 171) 2 = .ok (.getfield 16, 3) := by decide +kernel
theorem d171_5 : decode (am_code 171) 5 = .ok (.bipush 7, 2) := by decide +kernel
theorem d171_7 : decode (am_code 171) 7 = .ok (.iload_n 1, 1) := by decide +kernel
theorem d171_8 : decode (am_code 171) 8 = .ok (.iconst 4, 1) := by decide +kernel
theorem d171_9 : decode (am_code 171) 9 = .ok (.idiv, 1) := by decide +kernel
theorem d171_10 : decode (am_code 171) 10 = .ok (.imul, 1) := by decide +kernel
theorem d171_11 : decode (am_code 171) 11 = .ok (.iload_n 2, 1) := by decide +kernel
theorem d171_12 : decode (am_code 171) 12 = .ok (.iadd, 1) := by decide +kernel
theorem d171_13 : decode (am_code 171) 13 = .ok (.iaload, 1) := by decide +kernel
theorem d171_14 : decode (am_code 171) 14 = .ok (.if_icmp .lt 13, 3) := by decide +kernel
theorem d171_17 : decode (am_code 171) 17 = .ok (.iload_n 2, 1) := by decide +kernel
theorem d171_18 : decode (am_code 171) 18 = .ok (.ifCond .eq 9, 3) := by decide +kernel
theorem d171_21 : decode (am_code 171) 21 = .ok (.iload_n 1, 1) := by decide +kernel
theorem d171_22 : decode (am_code 171) 22 = .ok (.iconst 4, 1) := by decide +kernel
theorem d171_23 : decode (am_code 171) 23 = .ok (.irem, 1) := by decide +kernel
theorem d171_24 : decode (am_code 171) 24 = .ok (.ifCond .ne 7, 3) := by decide +kernel
theorem d171_27 : decode (am_code 171) 27 = .ok (.iconst 1, 1) := by decide +kernel
theorem d171_28 : decode (am_code 171) 28 = .ok (.goto 4, 3) := by decide +kernel
theorem d171_31 : decode (am_code 171) 31 = .ok (.iconst 0, 1) := by decide +kernel
theorem d171_32 : decode (am_code 171) 32 = .ok (.ireturn, 1) := by decide +kernel
theorem f171_16 : am_find am_ftL (am_mc 171) 16 = some (7, 3) := by decide +kernel
theorem l171 : am_maxL 171 = 4 := by decide +kernel
theorem t171 : am_ret 171 = (some .boolean) := by decide +kernel
/-! ThirdSheetsModel.sortOf(I)I is 172 -/
theorem d172_0 : decode (am_code 172) 0 = .ok (.iconst 0, 1) := by decide +kernel
theorem d172_1 : decode (am_code 172) 1 = .ok (.istore_n 2, 1) := by decide +kernel
theorem d172_2 : decode (am_code 172) 2 = .ok (.aload_n 0, 1) := by decide +kernel
theorem d172_3 : decode (am_code 172) 3 = .ok (.getfield 51, 3) := by decide +kernel
theorem d172_6 : decode (am_code 172) 6 = .ok (.iload_n 2, 1) := by decide +kernel
theorem d172_7 : decode (am_code 172) 7 = .ok (.iconst 1, 1) := by decide +kernel
theorem d172_8 : decode (am_code 172) 8 = .ok (.iadd, 1) := by decide +kernel
theorem d172_9 : decode (am_code 172) 9 = .ok (.iaload, 1) := by decide +kernel
theorem d172_10 : decode (am_code 172) 10 = .ok (.iload_n 1, 1) := by decide +kernel
theorem d172_11 : decode (am_code 172) 11 = .ok (.if_icmp .gt 9, 3) := by decide +kernel
theorem d172_14 : decode (am_code 172) 14 = .ok (.iinc 2 1, 3) := by decide +kernel
theorem d172_17 : decode (am_code 172) 17 = .ok (.goto (-15), 3) := by decide +kernel
theorem d172_20 : decode (am_code 172) 20 = .ok (.iload_n 2, 1) := by decide +kernel
theorem d172_21 : decode (am_code 172) 21 = .ok (.ireturn, 1) := by decide +kernel
theorem f172_51 : am_find am_ftL (am_mc 172) 51 = some (7, 20) := by decide +kernel
theorem l172 : am_maxL 172 = 3 := by decide +kernel
theorem t172 : am_ret 172 = (some .int) := by decide +kernel
/-! ThirdSheetsModel.spread(II)I is 173 -/
theorem d173_0 : decode (am_code 173) 0 = .ok (.iload_n 2, 1) := by decide +kernel
theorem d173_1 : decode (am_code 173) 1 = .ok (.istore_n 3, 1) := by decide +kernel
theorem d173_2 : decode (am_code 173) 2 = .ok (.aload_n 0, 1) := by decide +kernel
theorem d173_3 : decode (am_code 173) 3 = .ok (.iload_n 1, 1) := by decide +kernel
theorem d173_4 : decode (am_code 173) 4 = .ok (.invokevirtual 239, 3) := by decide +kernel
theorem d173_7 : decode (am_code 173) 7 = .ok (.bipush 7, 2) := by decide +kernel
theorem d173_9 : decode (am_code 173) 9 = .ok (.idiv, 1) := by decide +kernel
theorem d173_10 : decode (am_code 173) 10 = .ok (.istore 4, 2) := by decide +kernel
theorem d173_12 : decode (am_code 173) 12 = .ok (.iconst 4, 1) := by decide +kernel
theorem d173_13 : decode (am_code 173) 13 = .ok (.iload 4, 2) := by decide +kernel
theorem d173_15 : decode (am_code 173) 15 = .ok (.imul, 1) := by decide +kernel
theorem d173_16 : decode (am_code 173) 16 = .ok (.istore 5, 2) := by decide +kernel
theorem d173_18 : decode (am_code 173) 18 = .ok (.iload 5, 2) := by decide +kernel
theorem d173_20 : decode (am_code 173) 20 = .ok (.iconst 4, 1) := by decide +kernel
theorem d173_21 : decode (am_code 173) 21 = .ok (.iload 4, 2) := by decide +kernel
theorem d173_23 : decode (am_code 173) 23 = .ok (.imul, 1) := by decide +kernel
theorem d173_24 : decode (am_code 173) 24 = .ok (.iconst 4, 1) := by decide +kernel
theorem d173_25 : decode (am_code 173) 25 = .ok (.iadd, 1) := by decide +kernel
theorem d173_26 : decode (am_code 173) 26 = .ok (.if_icmp .ge 236, 3) := by decide +kernel
theorem d173_29 : decode (am_code 173) 29 = .ok (.iconst 0, 1) := by decide +kernel
theorem d173_30 : decode (am_code 173) 30 = .ok (.istore 6, 2) := by decide +kernel
theorem d173_32 : decode (am_code 173) 32 = .ok (.iload 6, 2) := by decide +kernel
theorem d173_34 : decode (am_code 173) 34 = .ok (.iconst 4, 1) := by decide +kernel
theorem d173_35 : decode (am_code 173) 35 = .ok (.if_icmp .ge 221, 3) := by decide +kernel
theorem d173_38 : decode (am_code 173) 38 = .ok (.aload_n 0, 1) := by decide +kernel
theorem d173_39 : decode (am_code 173) 39 = .ok (.getfield 7, 3) := by decide +kernel
theorem d173_42 : decode (am_code 173) 42 = .ok (.iload 5, 2) := by decide +kernel
theorem d173_44 : decode (am_code 173) 44 = .ok (.iaload, 1) := by decide +kernel
theorem d173_45 : decode (am_code 173) 45 = .ok (.iconst (-1), 1) := by decide +kernel
theorem d173_46 : decode (am_code 173) 46 = .ok (.if_icmp .eq 210, 3) := by decide +kernel
theorem d173_49 : decode (am_code 173) 49 = .ok (.iconst 0, 1) := by decide +kernel
theorem d173_50 : decode (am_code 173) 50 = .ok (.istore 7, 2) := by decide +kernel
theorem d173_52 : decode (am_code 173) 52 = .ok (.iload 6, 2) := by decide +kernel
theorem d173_54 : decode (am_code 173) 54 = .ok (.iload 5, 2) := by decide +kernel
theorem d173_56 : decode (am_code 173) 56 = .ok (.iconst 4, 1) := by decide +kernel
theorem d173_57 : decode (am_code 173) 57 = .ok (.irem, 1) := by decide +kernel
theorem d173_58 : decode (am_code 173) 58 = .ok (.if_icmp .eq 192, 3) := by decide +kernel
theorem d173_61 : decode (am_code 173) 61 = .ok (.iload 7, 2) := by decide +kernel
theorem d173_63 : decode (am_code 173) 63 = .ok (.aload_n 0, 1) := by decide +kernel
theorem d173_64 : decode (am_code 173) 64 = .ok (.iload 4, 2) := by decide +kernel
theorem d173_66 : decode (am_code 173) 66 = .ok (.iload 5, 2) := by decide +kernel
theorem d173_68 : decode (am_code 173) 68 = .ok (.iconst 4, 1) := by decide +kernel
theorem d173_69 : decode (am_code 173) 69 = .ok (.irem, 1) := by decide +kernel
theorem d173_70 : decode (am_code 173) 70 = .ok (.iload 6, 2) := by decide +kernel
theorem d173_72 : decode (am_code 173) 72 = .ok (.invokevirtual 230, 3) := by decide +kernel
theorem d173_75 : decode (am_code 173) 75 = .ok (.if_icmp .ge 175, 3) := by decide +kernel
theorem d173_78 : decode (am_code 173) 78 = .ok (.aload_n 0, 1) := by decide +kernel
theorem d173_79 : decode (am_code 173) 79 = .ok (.iload 5, 2) := by decide +kernel
theorem d173_81 : decode (am_code 173) 81 = .ok (.iload 6, 2) := by decide +kernel
theorem d173_83 : decode (am_code 173) 83 = .ok (.iload 7, 2) := by decide +kernel
theorem d173_85 : decode (am_code 173) 85 = .ok (.invokevirtual 242, 3) := by decide +kernel
theorem d173_88 : decode (am_code 173) 88 = .ok (.iload_n 1, 1) := by decide +kernel
theorem d173_89 : decode (am_code 173) 89 = .ok (.if_icmp .eq 6, 3) := by decide +kernel
theorem d173_92 : decode (am_code 173) 92 = .ok (.goto 152, 3) := by decide +kernel
theorem d173_95 : decode (am_code 173) 95 = .ok (.aload_n 0, 1) := by decide +kernel
theorem d173_96 : decode (am_code 173) 96 = .ok (.getfield 13, 3) := by decide +kernel
theorem d173_99 : decode (am_code 173) 99 = .ok (.iconst 4, 1) := by decide +kernel
theorem d173_100 : decode (am_code 173) 100 = .ok (.iload 5, 2) := by decide +kernel
theorem d173_102 : decode (am_code 173) 102 = .ok (.imul, 1) := by decide +kernel
theorem d173_103 : decode (am_code 173) 103 = .ok (.iload 6, 2) := by decide +kernel
theorem d173_105 : decode (am_code 173) 105 = .ok (.iadd, 1) := by decide +kernel
theorem d173_106 : decode (am_code 173) 106 = .ok (.iaload, 1) := by decide +kernel
theorem d173_107 : decode (am_code 173) 107 = .ok (.istore 8, 2) := by decide +kernel
theorem d173_109 : decode (am_code 173) 109 = .ok (.aload_n 0, 1) := by decide +kernel
theorem d173_110 : decode (am_code 173) 110 = .ok (.aload_n 0, 1) := by decide +kernel
theorem d173_111 : decode (am_code 173) 111 = .ok (.getfield 7, 3) := by decide +kernel
theorem d173_114 : decode (am_code 173) 114 = .ok (.iload 5, 2) := by decide +kernel
theorem d173_116 : decode (am_code 173) 116 = .ok (.iaload, 1) := by decide +kernel
theorem d173_117 : decode (am_code 173) 117 = .ok (.iload 8, 2) := by decide +kernel
theorem d173_119 : decode (am_code 173) 119 = .ok (.iload 7, 2) := by decide +kernel
theorem d173_121 : decode (am_code 173) 121 = .ok (.invokevirtual 242, 3) := by decide +kernel
theorem d173_124 : decode (am_code 173) 124 = .ok (.istore 9, 2) := by decide +kernel
theorem d173_126 : decode (am_code 173) 126 = .ok (.aload_n 0, 1) := by decide +kernel
theorem d173_127 : decode (am_code 173) 127 = .ok (.iload 5, 2) := by decide +kernel
theorem d173_129 : decode (am_code 173) 129 = .ok (.iload 6, 2) := by decide +kernel
theorem d173_131 : decode (am_code 173) 131 = .ok (.iload 7, 2) := by decide +kernel
theorem d173_133 : decode (am_code 173) 133 = .ok (.invokevirtual 245, 3) := by decide +kernel
theorem d173_136 : decode (am_code 173) 136 = .ok (.aload_n 0, 1) := by decide +kernel
theorem d173_137 : decode (am_code 173) 137 = .ok (.aload_n 0, 1) := by decide +kernel
theorem d173_138 : decode (am_code 173) 138 = .ok (.getfield 7, 3) := by decide +kernel
theorem d173_141 : decode (am_code 173) 141 = .ok (.iload 5, 2) := by decide +kernel
theorem d173_143 : decode (am_code 173) 143 = .ok (.iaload, 1) := by decide +kernel
theorem d173_144 : decode (am_code 173) 144 = .ok (.iload 8, 2) := by decide +kernel
theorem d173_146 : decode (am_code 173) 146 = .ok (.iload 7, 2) := by decide +kernel
theorem d173_148 : decode (am_code 173) 148 = .ok (.invokevirtual 245, 3) := by decide +kernel
theorem d173_151 : decode (am_code 173) 151 = .ok (.if_icmp .ne 12, 3) := by decide +kernel
theorem d173_154 : decode (am_code 173) 154 = .ok (.aload_n 0, 1) := by decide +kernel
theorem d173_155 : decode (am_code 173) 155 = .ok (.getfield 57, 3) := by decide +kernel
theorem d173_158 : decode (am_code 173) 158 = .ok (.iload_n 1, 1) := by decide +kernel
theorem d173_159 : decode (am_code 173) 159 = .ok (.iaload, 1) := by decide +kernel
theorem d173_160 : decode (am_code 173) 160 = .ok (.goto 10, 3) := by decide +kernel
theorem d173_163 : decode (am_code 173) 163 = .ok (.aload_n 0, 1) := by decide +kernel
theorem d173_164 : decode (am_code 173) 164 = .ok (.getfield 57, 3) := by decide +kernel
theorem d173_167 : decode (am_code 173) 167 = .ok (.iload_n 1, 1) := by decide +kernel
theorem d173_168 : decode (am_code 173) 168 = .ok (.iaload, 1) := by decide +kernel
theorem d173_169 : decode (am_code 173) 169 = .ok (.ineg, 1) := by decide +kernel
theorem d173_170 : decode (am_code 173) 170 = .ok (.istore 10, 2) := by decide +kernel
theorem d173_172 : decode (am_code 173) 172 = .ok (.aload_n 0, 1) := by decide +kernel
theorem d173_173 : decode (am_code 173) 173 = .ok (.getfield 54, 3) := by decide +kernel
theorem d173_176 : decode (am_code 173) 176 = .ok (.iload 9, 2) := by decide +kernel
theorem d173_178 : decode (am_code 173) 178 = .ok (.iaload, 1) := by decide +kernel
theorem d173_179 : decode (am_code 173) 179 = .ok (.iconst (-1), 1) := by decide +kernel
theorem d173_180 : decode (am_code 173) 180 = .ok (.if_icmp .ne 36, 3) := by decide +kernel
theorem d173_183 : decode (am_code 173) 183 = .ok (.aload_n 0, 1) := by decide +kernel
theorem d173_184 : decode (am_code 173) 184 = .ok (.getfield 54, 3) := by decide +kernel
theorem d173_187 : decode (am_code 173) 187 = .ok (.iload 9, 2) := by decide +kernel
theorem d173_189 : decode (am_code 173) 189 = .ok (.aload_n 0, 1) := by decide +kernel
theorem d173_190 : decode (am_code 173) 190 = .ok (.getfield 54, 3) := by decide +kernel
theorem d173_193 : decode (am_code 173) 193 = .ok (.iload_n 1, 1) := by decide +kernel
theorem d173_194 : decode (am_code 173) 194 = .ok (.iaload, 1) := by decide +kernel
theorem d173_195 : decode (am_code 173) 195 = .ok (.iastore, 1) := by decide +kernel
theorem d173_196 : decode (am_code 173) 196 = .ok (.aload_n 0, 1) := by decide +kernel
theorem d173_197 : decode (am_code 173) 197 = .ok (.getfield 57, 3) := by decide +kernel
theorem d173_200 : decode (am_code 173) 200 = .ok (.iload 9, 2) := by decide +kernel
theorem d173_202 : decode (am_code 173) 202 = .ok (.iload 10, 2) := by decide +kernel
theorem d173_204 : decode (am_code 173) 204 = .ok (.iastore, 1) := by decide +kernel
theorem d173_205 : decode (am_code 173) 205 = .ok (.aload_n 0, 1) := by decide +kernel
theorem d173_206 : decode (am_code 173) 206 = .ok (.getfield 60, 3) := by decide +kernel
theorem d173_209 : decode (am_code 173) 209 = .ok (.iload_n 3, 1) := by decide +kernel
theorem d173_210 : decode (am_code 173) 210 = .ok (.iload 9, 2) := by decide +kernel
theorem d173_212 : decode (am_code 173) 212 = .ok (.iastore, 1) := by decide +kernel
theorem d173_213 : decode (am_code 173) 213 = .ok (.iinc 3 1, 3) := by decide +kernel
theorem d173_216 : decode (am_code 173) 216 = .ok (.aload_n 0, 1) := by decide +kernel
theorem d173_217 : decode (am_code 173) 217 = .ok (.aload_n 0, 1) := by decide +kernel
theorem d173_218 : decode (am_code 173) 218 = .ok (.getfield 248, 3) := by decide +kernel
theorem d173_221 : decode (am_code 173) 221 = .ok (.ifCond .ne 15, 3) := by decide +kernel
theorem d173_224 : decode (am_code 173) 224 = .ok (.aload_n 0, 1) := by decide +kernel
theorem d173_225 : decode (am_code 173) 225 = .ok (.getfield 57, 3) := by decide +kernel
theorem d173_228 : decode (am_code 173) 228 = .ok (.iload 9, 2) := by decide +kernel
theorem d173_230 : decode (am_code 173) 230 = .ok (.iaload, 1) := by decide +kernel
theorem d173_231 : decode (am_code 173) 231 = .ok (.iload 10, 2) := by decide +kernel
theorem d173_233 : decode (am_code 173) 233 = .ok (.if_icmp .eq 7, 3) := by decide +kernel
theorem d173_236 : decode (am_code 173) 236 = .ok (.iconst 1, 1) := by decide +kernel
theorem d173_237 : decode (am_code 173) 237 = .ok (.goto 4, 3) := by decide +kernel
theorem d173_240 : decode (am_code 173) 240 = .ok (.iconst 0, 1) := by decide +kernel
theorem d173_241 : decode (am_code 173) 241 = .ok (.putfield 248, 3) := by decide +kernel
theorem d173_244 : decode (am_code 173) 244 = .ok (.iinc 7 1, 3) := by decide +kernel
theorem d173_247 : decode (am_code 173) 247 = .ok (.goto (-195), 3) := by decide +kernel
theorem d173_250 : decode (am_code 173) 250 = .ok (.iinc 6 1, 3) := by decide +kernel
theorem d173_253 : decode (am_code 173) 253 = .ok (.goto (-221), 3) := by decide +kernel
theorem d173_256 : decode (am_code 173) 256 = .ok (.iinc 5 1, 3) := by decide +kernel
theorem d173_259 : decode (am_code 173) 259 = .ok (.goto (-241), 3) := by decide +kernel
theorem d173_262 : decode (am_code 173) 262 = .ok (.iload_n 3, 1) := by decide +kernel
theorem d173_263 : decode (am_code 173) 263 = .ok (.ireturn, 1) := by decide +kernel
theorem f173_7 : am_find am_ftL (am_mc 173) 7 = some (7, 1) := by decide +kernel
theorem f173_13 : am_find am_ftL (am_mc 173) 13 = some (7, 2) := by decide +kernel
theorem f173_57 : am_find am_ftL (am_mc 173) 57 = some (7, 22) := by decide +kernel
theorem f173_54 : am_find am_ftL (am_mc 173) 54 = some (7, 21) := by decide +kernel
theorem f173_60 : am_find am_ftL (am_mc 173) 60 = some (7, 23) := by decide +kernel
theorem f173_248 : am_find am_ftL (am_mc 173) 248 = some (7, 24) := by decide +kernel
theorem c173_239 : am_find am_ctL (am_mc 173) 239 = some (0, 172) ∧ am_na 172 = 1 ∧ am_fr 172 + 1 ≤ am_fr 173 ∧ 8 + (am_maxL 172 + 11) + am_lo 172 ≤ am_lo 173 := by decide +kernel
theorem c173_230 : am_find am_ctL (am_mc 173) 230 = some (0, 166) ∧ am_na 166 = 3 ∧ am_fr 166 + 1 ≤ am_fr 173 ∧ 8 + (am_maxL 166 + 11) + am_lo 166 ≤ am_lo 173 := by decide +kernel
theorem c173_242 : am_find am_ctL (am_mc 173) 242 = some (0, 170) ∧ am_na 170 = 3 ∧ am_fr 170 + 1 ≤ am_fr 173 ∧ 8 + (am_maxL 170 + 11) + am_lo 170 ≤ am_lo 173 := by decide +kernel
theorem c173_245 : am_find am_ctL (am_mc 173) 245 = some (0, 171) ∧ am_na 171 = 3 ∧ am_fr 171 + 1 ≤ am_fr 173 ∧ 8 + (am_maxL 171 + 11) + am_lo 171 ≤ am_lo 173 := by decide +kernel
theorem l173 : am_maxL 173 = 11 := by decide +kernel
theorem t173 : am_ret 173 = (some .int) := by decide +kernel
/-! ThirdSheetsModel.findParts()I is 174 -/
theorem d174_0 : decode (am_code 174) 0 = .ok (.aload_n 0, 1) := by decide +kernel
theorem d174_1 : decode (am_code 174) 1 = .ok (.invokevirtual 118, 3) := by decide +kernel
theorem d174_4 : decode (am_code 174) 4 = .ok (.aload_n 0, 1) := by decide +kernel
theorem d174_5 : decode (am_code 174) 5 = .ok (.iconst 0, 1) := by decide +kernel
theorem d174_6 : decode (am_code 174) 6 = .ok (.putfield 251, 3) := by decide +kernel
theorem d174_9 : decode (am_code 174) 9 = .ok (.iconst 0, 1) := by decide +kernel
theorem d174_10 : decode (am_code 174) 10 = .ok (.istore_n 1, 1) := by decide +kernel
theorem d174_11 : decode (am_code 174) 11 = .ok (.iload_n 1, 1) := by decide +kernel
theorem d174_12 : decode (am_code 174) 12 = .ok (.bipush 7, 2) := by decide +kernel
theorem d174_14 : decode (am_code 174) 14 = .ok (.aload_n 0, 1) := by decide +kernel
theorem d174_15 : decode (am_code 174) 15 = .ok (.getfield 67, 3) := by decide +kernel
theorem d174_18 : decode (am_code 174) 18 = .ok (.imul, 1) := by decide +kernel
theorem d174_19 : decode (am_code 174) 19 = .ok (.if_icmp .ge 34, 3) := by decide +kernel
theorem d174_22 : decode (am_code 174) 22 = .ok (.aload_n 0, 1) := by decide +kernel
theorem d174_23 : decode (am_code 174) 23 = .ok (.getfield 51, 3) := by decide +kernel
theorem d174_26 : decode (am_code 174) 26 = .ok (.iload_n 1, 1) := by decide +kernel
theorem d174_27 : decode (am_code 174) 27 = .ok (.aload_n 0, 1) := by decide +kernel
theorem d174_28 : decode (am_code 174) 28 = .ok (.getfield 251, 3) := by decide +kernel
theorem d174_31 : decode (am_code 174) 31 = .ok (.iastore, 1) := by decide +kernel
theorem d174_32 : decode (am_code 174) 32 = .ok (.aload_n 0, 1) := by decide +kernel
theorem d174_33 : decode (am_code 174) 33 = .ok (.dup, 1) := by decide +kernel
theorem d174_34 : decode (am_code 174) 34 = .ok (.getfield 251, 3) := by decide +kernel
theorem d174_37 : decode (am_code 174) 37 = .ok (.aload_n 0, 1) := by decide +kernel
theorem d174_38 : decode (am_code 174) 38 = .ok (.getfield 16, 3) := by decide +kernel
theorem d174_41 : decode (am_code 174) 41 = .ok (.iload_n 1, 1) := by decide +kernel
theorem d174_42 : decode (am_code 174) 42 = .ok (.iaload, 1) := by decide +kernel
theorem d174_43 : decode (am_code 174) 43 = .ok (.iadd, 1) := by decide +kernel
theorem d174_44 : decode (am_code 174) 44 = .ok (.putfield 251, 3) := by decide +kernel
theorem d174_47 : decode (am_code 174) 47 = .ok (.iinc 1 1, 3) := by decide +kernel
theorem d174_50 : decode (am_code 174) 50 = .ok (.goto (-39), 3) := by decide +kernel
theorem d174_53 : decode (am_code 174) 53 = .ok (.aload_n 0, 1) := by decide +kernel
theorem d174_54 : decode (am_code 174) 54 = .ok (.getfield 51, 3) := by decide +kernel
theorem d174_57 : decode (am_code 174) 57 = .ok (.bipush 7, 2) := by decide +kernel
theorem d174_59 : decode (am_code 174) 59 = .ok (.aload_n 0, 1) := by decide +kernel
theorem d174_60 : decode (am_code 174) 60 = .ok (.getfield 67, 3) := by decide +kernel
theorem d174_63 : decode (am_code 174) 63 = .ok (.imul, 1) := by decide +kernel
theorem d174_64 : decode (am_code 174) 64 = .ok (.aload_n 0, 1) := by decide +kernel
theorem d174_65 : decode (am_code 174) 65 = .ok (.getfield 251, 3) := by decide +kernel
theorem d174_68 : decode (am_code 174) 68 = .ok (.iastore, 1) := by decide +kernel
theorem d174_69 : decode (am_code 174) 69 = .ok (.iconst 0, 1) := by decide +kernel
theorem d174_70 : decode (am_code 174) 70 = .ok (.istore_n 1, 1) := by decide +kernel
theorem d174_71 : decode (am_code 174) 71 = .ok (.iconst 0, 1) := by decide +kernel
theorem d174_72 : decode (am_code 174) 72 = .ok (.istore_n 2, 1) := by decide +kernel
theorem d174_73 : decode (am_code 174) 73 = .ok (.iload_n 2, 1) := by decide +kernel
theorem d174_74 : decode (am_code 174) 74 = .ok (.aload_n 0, 1) := by decide +kernel
theorem d174_75 : decode (am_code 174) 75 = .ok (.getfield 251, 3) := by decide +kernel
theorem d174_78 : decode (am_code 174) 78 = .ok (.if_icmp .ge 26, 3) := by decide +kernel
theorem d174_81 : decode (am_code 174) 81 = .ok (.aload_n 0, 1) := by decide +kernel
theorem d174_82 : decode (am_code 174) 82 = .ok (.getfield 251, 3) := by decide +kernel
theorem d174_85 : decode (am_code 174) 85 = .ok (.sipush 400, 3) := by decide +kernel
theorem d174_88 : decode (am_code 174) 88 = .ok (.if_icmp .gt 16, 3) := by decide +kernel
theorem d174_91 : decode (am_code 174) 91 = .ok (.aload_n 0, 1) := by decide +kernel
theorem d174_92 : decode (am_code 174) 92 = .ok (.getfield 54, 3) := by decide +kernel
theorem d174_95 : decode (am_code 174) 95 = .ok (.iload_n 2, 1) := by decide +kernel
theorem d174_96 : decode (am_code 174) 96 = .ok (.iconst (-1), 1) := by decide +kernel
theorem d174_97 : decode (am_code 174) 97 = .ok (.iastore, 1) := by decide +kernel
theorem d174_98 : decode (am_code 174) 98 = .ok (.iinc 2 1, 3) := by decide +kernel
theorem d174_101 : decode (am_code 174) 101 = .ok (.goto (-28), 3) := by decide +kernel
theorem d174_104 : decode (am_code 174) 104 = .ok (.iconst 0, 1) := by decide +kernel
theorem d174_105 : decode (am_code 174) 105 = .ok (.istore_n 2, 1) := by decide +kernel
theorem d174_106 : decode (am_code 174) 106 = .ok (.iload_n 2, 1) := by decide +kernel
theorem d174_107 : decode (am_code 174) 107 = .ok (.aload_n 0, 1) := by decide +kernel
theorem d174_108 : decode (am_code 174) 108 = .ok (.getfield 251, 3) := by decide +kernel
theorem d174_111 : decode (am_code 174) 111 = .ok (.if_icmp .ge 98, 3) := by decide +kernel
theorem d174_114 : decode (am_code 174) 114 = .ok (.aload_n 0, 1) := by decide +kernel
theorem d174_115 : decode (am_code 174) 115 = .ok (.getfield 251, 3) := by decide +kernel
theorem d174_118 : decode (am_code 174) 118 = .ok (.sipush 400, 3) := by decide +kernel
theorem d174_121 : decode (am_code 174) 121 = .ok (.if_icmp .gt 88, 3) := by decide +kernel
theorem d174_124 : decode (am_code 174) 124 = .ok (.aload_n 0, 1) := by decide +kernel
theorem d174_125 : decode (am_code 174) 125 = .ok (.getfield 54, 3) := by decide +kernel
theorem d174_128 : decode (am_code 174) 128 = .ok (.iload_n 2, 1) := by decide +kernel
theorem d174_129 : decode (am_code 174) 129 = .ok (.iaload, 1) := by decide +kernel
theorem d174_130 : decode (am_code 174) 130 = .ok (.iconst (-1), 1) := by decide +kernel
theorem d174_131 : decode (am_code 174) 131 = .ok (.if_icmp .ne 72, 3) := by decide +kernel
theorem d174_134 : decode (am_code 174) 134 = .ok (.aload_n 0, 1) := by decide +kernel
theorem d174_135 : decode (am_code 174) 135 = .ok (.getfield 54, 3) := by decide +kernel
theorem d174_138 : decode (am_code 174) 138 = .ok (.iload_n 2, 1) := by decide +kernel
theorem d174_139 : decode (am_code 174) 139 = .ok (.iload_n 1, 1) := by decide +kernel
theorem d174_140 : decode (am_code 174) 140 = .ok (.iastore, 1) := by decide +kernel
theorem d174_141 : decode (am_code 174) 141 = .ok (.aload_n 0, 1) := by decide +kernel
theorem d174_142 : decode (am_code 174) 142 = .ok (.getfield 57, 3) := by decide +kernel
theorem d174_145 : decode (am_code 174) 145 = .ok (.iload_n 2, 1) := by decide +kernel
theorem d174_146 : decode (am_code 174) 146 = .ok (.iconst 1, 1) := by decide +kernel
theorem d174_147 : decode (am_code 174) 147 = .ok (.iastore, 1) := by decide +kernel
theorem d174_148 : decode (am_code 174) 148 = .ok (.aload_n 0, 1) := by decide +kernel
theorem d174_149 : decode (am_code 174) 149 = .ok (.getfield 60, 3) := by decide +kernel
theorem d174_152 : decode (am_code 174) 152 = .ok (.iconst 0, 1) := by decide +kernel
theorem d174_153 : decode (am_code 174) 153 = .ok (.iload_n 2, 1) := by decide +kernel
theorem d174_154 : decode (am_code 174) 154 = .ok (.iastore, 1) := by decide +kernel
theorem d174_155 : decode (am_code 174) 155 = .ok (.aload_n 0, 1) := by decide +kernel
theorem d174_156 : decode (am_code 174) 156 = .ok (.iconst 0, 1) := by decide +kernel
theorem d174_157 : decode (am_code 174) 157 = .ok (.putfield 248, 3) := by decide +kernel
theorem d174_160 : decode (am_code 174) 160 = .ok (.iconst 1, 1) := by decide +kernel
theorem d174_161 : decode (am_code 174) 161 = .ok (.istore_n 3, 1) := by decide +kernel
theorem d174_162 : decode (am_code 174) 162 = .ok (.iconst 0, 1) := by decide +kernel
theorem d174_163 : decode (am_code 174) 163 = .ok (.istore 4, 2) := by decide +kernel
theorem d174_165 : decode (am_code 174) 165 = .ok (.iload 4, 2) := by decide +kernel
theorem d174_167 : decode (am_code 174) 167 = .ok (.iload_n 3, 1) := by decide +kernel
theorem d174_168 : decode (am_code 174) 168 = .ok (.if_icmp .ge 22, 3) := by decide +kernel
theorem d174_171 : decode (am_code 174) 171 = .ok (.aload_n 0, 1) := by decide +kernel
theorem d174_172 : decode (am_code 174) 172 = .ok (.aload_n 0, 1) := by decide +kernel
theorem d174_173 : decode (am_code 174) 173 = .ok (.getfield 60, 3) := by decide +kernel
theorem d174_176 : decode (am_code 174) 176 = .ok (.iload 4, 2) := by decide +kernel
theorem d174_178 : decode (am_code 174) 178 = .ok (.iaload, 1) := by decide +kernel
theorem d174_179 : decode (am_code 174) 179 = .ok (.iload_n 3, 1) := by decide +kernel
theorem d174_180 : decode (am_code 174) 180 = .ok (.invokevirtual 254, 3) := by decide +kernel
theorem d174_183 : decode (am_code 174) 183 = .ok (.istore_n 3, 1) := by decide +kernel
theorem d174_184 : decode (am_code 174) 184 = .ok (.iinc 4 1, 3) := by decide +kernel
theorem d174_187 : decode (am_code 174) 187 = .ok (.goto (-22), 3) := by decide +kernel
theorem d174_190 : decode (am_code 174) 190 = .ok (.aload_n 0, 1) := by decide +kernel
theorem d174_191 : decode (am_code 174) 191 = .ok (.getfield 63, 3) := by decide +kernel
theorem d174_194 : decode (am_code 174) 194 = .ok (.iload_n 1, 1) := by decide +kernel
theorem d174_195 : decode (am_code 174) 195 = .ok (.aload_n 0, 1) := by decide +kernel
theorem d174_196 : decode (am_code 174) 196 = .ok (.getfield 248, 3) := by decide +kernel
theorem d174_199 : decode (am_code 174) 199 = .ok (.bastore, 1) := by decide +kernel
theorem d174_200 : decode (am_code 174) 200 = .ok (.iinc 1 1, 3) := by decide +kernel
theorem d174_203 : decode (am_code 174) 203 = .ok (.iinc 2 1, 3) := by decide +kernel
theorem d174_206 : decode (am_code 174) 206 = .ok (.goto (-100), 3) := by decide +kernel
theorem d174_209 : decode (am_code 174) 209 = .ok (.iload_n 1, 1) := by decide +kernel
theorem d174_210 : decode (am_code 174) 210 = .ok (.ireturn, 1) := by decide +kernel
theorem f174_251 : am_find am_ftL (am_mc 174) 251 = some (7, 19) := by decide +kernel
theorem f174_67 : am_find am_ftL (am_mc 174) 67 = some (7, 0) := by decide +kernel
theorem f174_51 : am_find am_ftL (am_mc 174) 51 = some (7, 20) := by decide +kernel
theorem f174_16 : am_find am_ftL (am_mc 174) 16 = some (7, 3) := by decide +kernel
theorem f174_54 : am_find am_ftL (am_mc 174) 54 = some (7, 21) := by decide +kernel
theorem f174_57 : am_find am_ftL (am_mc 174) 57 = some (7, 22) := by decide +kernel
theorem f174_60 : am_find am_ftL (am_mc 174) 60 = some (7, 23) := by decide +kernel
theorem f174_248 : am_find am_ftL (am_mc 174) 248 = some (7, 24) := by decide +kernel
theorem f174_63 : am_find am_ftL (am_mc 174) 63 = some (7, 25) := by decide +kernel
theorem c174_118 : am_find am_ctL (am_mc 174) 118 = some (0, 116) ∧ am_na 116 = 0 ∧ am_fr 116 + 1 ≤ am_fr 174 ∧ 8 + (am_maxL 116 + 11) + am_lo 116 ≤ am_lo 174 := by decide +kernel
theorem c174_254 : am_find am_ctL (am_mc 174) 254 = some (0, 173) ∧ am_na 173 = 2 ∧ am_fr 173 + 1 ≤ am_fr 174 ∧ 8 + (am_maxL 173 + 11) + am_lo 173 ≤ am_lo 174 := by decide +kernel
theorem l174 : am_maxL 174 = 5 := by decide +kernel
theorem t174 : am_ret 174 = (some .int) := by decide +kernel
/-! ThirdSheetsModel.parts()I is 175 -/
theorem d175_0 : decode (am_code 175) 0 = .ok (.aload_n 0, 1) := by decide +kernel
theorem d175_1 : decode (am_code 175) 1 = .ok (.invokevirtual 233, 3) := by decide +kernel
theorem d175_4 : decode (am_code 175) 4 = .ok (.ifCond .eq 6, 3) := by decide +kernel
theorem d175_7 : decode (am_code 175) 7 = .ok (.bipush (-3), 2) := by decide +kernel
theorem d175_9 : decode (am_code 175) 9 = .ok (.ireturn, 1) := by decide +kernel
theorem d175_10 : decode (am_code 175) 10 = .ok (.aload_n 0, 1) := by decide +kernel
theorem d175_11 : decode (am_code 175) 11 = .ok (.invokevirtual 257, 3) := by decide +kernel
theorem d175_14 : decode (am_code 175) 14 = .ok (.istore_n 1, 1) := by decide +kernel
theorem d175_15 : decode (am_code 175) 15 = .ok (.aload_n 0, 1) := by decide +kernel
theorem d175_16 : decode (am_code 175) 16 = .ok (.getfield 251, 3) := by decide +kernel
theorem d175_19 : decode (am_code 175) 19 = .ok (.sipush 400, 3) := by decide +kernel
theorem d175_22 : decode (am_code 175) 22 = .ok (.if_icmp .le 8, 3) := by decide +kernel
theorem d175_25 : decode (am_code 175) 25 = .ok (.bipush (-4), 2) := by decide +kernel
theorem d175_27 : decode (am_code 175) 27 = .ok (.goto 4, 3) := by decide +kernel
theorem d175_30 : decode (am_code 175) 30 = .ok (.iload_n 1, 1) := by decide +kernel
theorem d175_31 : decode (am_code 175) 31 = .ok (.ireturn, 1) := by decide +kernel
theorem f175_251 : am_find am_ftL (am_mc 175) 251 = some (7, 19) := by decide +kernel
theorem c175_233 : am_find am_ctL (am_mc 175) 233 = some (0, 167) ∧ am_na 167 = 0 ∧ am_fr 167 + 1 ≤ am_fr 175 ∧ 8 + (am_maxL 167 + 11) + am_lo 167 ≤ am_lo 175 := by decide +kernel
theorem c175_257 : am_find am_ctL (am_mc 175) 257 = some (0, 174) ∧ am_na 174 = 0 ∧ am_fr 174 + 1 ≤ am_fr 175 ∧ 8 + (am_maxL 174 + 11) + am_lo 174 ≤ am_lo 175 := by decide +kernel
theorem l175 : am_maxL 175 = 2 := by decide +kernel
theorem t175 : am_ret 175 = (some .int) := by decide +kernel
/-! ThirdSheetsModel.cutsOf(I)I is 176 -/
theorem d176_0 : decode (am_code 176) 0 = .ok (.iconst 0, 1) := by decide +kernel
theorem d176_1 : decode (am_code 176) 1 = .ok (.istore_n 2, 1) := by decide +kernel
theorem d176_2 : decode (am_code 176) 2 = .ok (.iconst 0, 1) := by decide +kernel
theorem d176_3 : decode (am_code 176) 3 = .ok (.istore_n 3, 1) := by decide +kernel
theorem d176_4 : decode (am_code 176) 4 = .ok (.iload_n 3, 1) := by decide +kernel
theorem d176_5 : decode (am_code 176) 5 = .ok (.aload_n 0, 1) := by decide +kernel
theorem d176_6 : decode (am_code 176) 6 = .ok (.getfield 251, 3) := by decide +kernel
theorem d176_9 : decode (am_code 176) 9 = .ok (.if_icmp .ge 27, 3) := by decide +kernel
theorem d176_12 : decode (am_code 176) 12 = .ok (.iload_n 2, 1) := by decide +kernel
theorem d176_13 : decode (am_code 176) 13 = .ok (.aload_n 0, 1) := by decide +kernel
theorem d176_14 : decode (am_code 176) 14 = .ok (.getfield 54, 3) := by decide +kernel
theorem d176_17 : decode (am_code 176) 17 = .ok (.iload_n 3, 1) := by decide +kernel
theorem d176_18 : decode (am_code 176) 18 = .ok (.iaload, 1) := by decide +kernel
theorem d176_19 : decode (am_code 176) 19 = .ok (.iload_n 1, 1) := by decide +kernel
theorem d176_20 : decode (am_code 176) 20 = .ok (.if_icmp .ne 7, 3) := by decide +kernel
theorem d176_23 : decode (am_code 176) 23 = .ok (.iconst 1, 1) := by decide +kernel
theorem d176_24 : decode (am_code 176) 24 = .ok (.goto 4, 3) := by decide +kernel
theorem d176_27 : decode (am_code 176) 27 = .ok (.iconst 0, 1) := by decide +kernel
theorem d176_28 : decode (am_code 176) 28 = .ok (.iadd, 1) := by decide +kernel
theorem d176_29 : decode (am_code 176) 29 = .ok (.istore_n 2, 1) := by decide +kernel
theorem d176_30 : decode (am_code 176) 30 = .ok (.iinc 3 1, 3) := by decide +kernel
theorem d176_33 : decode (am_code 176) 33 = .ok (.goto (-29), 3) := by decide +kernel
theorem d176_36 : decode (am_code 176) 36 = .ok (.iload_n 2, 1) := by decide +kernel
theorem d176_37 : decode (am_code 176) 37 = .ok (.ireturn, 1) := by decide +kernel
theorem f176_251 : am_find am_ftL (am_mc 176) 251 = some (7, 19) := by decide +kernel
theorem f176_54 : am_find am_ftL (am_mc 176) 54 = some (7, 21) := by decide +kernel
theorem l176 : am_maxL 176 = 4 := by decide +kernel
theorem t176 : am_ret 176 = (some .int) := by decide +kernel
/-! ThirdSheetsModel.worth(I)I is 177 -/
theorem d177_0 : decode (am_code 177) 0 = .ok (.aload_n 0, 1) := by decide +kernel
theorem d177_1 : decode (am_code 177) 1 = .ok (.iload_n 1, 1) := by decide +kernel
theorem d177_2 : decode (am_code 177) 2 = .ok (.invokevirtual 239, 3) := by decide +kernel
theorem d177_5 : decode (am_code 177) 5 = .ok (.istore_n 2, 1) := by decide +kernel
theorem d177_6 : decode (am_code 177) 6 = .ok (.iload_n 2, 1) := by decide +kernel
theorem d177_7 : decode (am_code 177) 7 = .ok (.bipush 7, 2) := by decide +kernel
theorem d177_9 : decode (am_code 177) 9 = .ok (.idiv, 1) := by decide +kernel
theorem d177_10 : decode (am_code 177) 10 = .ok (.istore_n 3, 1) := by decide +kernel
theorem d177_11 : decode (am_code 177) 11 = .ok (.iconst 1, 1) := by decide +kernel
theorem d177_12 : decode (am_code 177) 12 = .ok (.istore 4, 2) := by decide +kernel
theorem d177_14 : decode (am_code 177) 14 = .ok (.iconst 0, 1) := by decide +kernel
theorem d177_15 : decode (am_code 177) 15 = .ok (.istore 5, 2) := by decide +kernel
theorem d177_17 : decode (am_code 177) 17 = .ok (.iload 5, 2) := by decide +kernel
theorem d177_19 : decode (am_code 177) 19 = .ok (.bipush 6, 2) := by decide +kernel
theorem d177_21 : decode (am_code 177) 21 = .ok (.if_icmp .ge 46, 3) := by decide +kernel
theorem d177_24 : decode (am_code 177) 24 = .ok (.iload 4, 2) := by decide +kernel
theorem d177_26 : decode (am_code 177) 26 = .ok (.aload_n 0, 1) := by decide +kernel
theorem d177_27 : decode (am_code 177) 27 = .ok (.bipush 6, 2) := by decide +kernel
theorem d177_29 : decode (am_code 177) 29 = .ok (.iload_n 3, 1) := by decide +kernel
theorem d177_30 : decode (am_code 177) 30 = .ok (.imul, 1) := by decide +kernel
theorem d177_31 : decode (am_code 177) 31 = .ok (.iload 5, 2) := by decide +kernel
theorem d177_33 : decode (am_code 177) 33 = .ok (.iadd, 1) := by decide +kernel
theorem d177_34 : decode (am_code 177) 34 = .ok (.invokevirtual 105, 3) := by decide +kernel
theorem d177_37 : decode (am_code 177) 37 = .ok (.ifCond .eq 20, 3) := by decide +kernel
theorem d177_40 : decode (am_code 177) 40 = .ok (.aload_n 0, 1) := by decide +kernel
theorem d177_41 : decode (am_code 177) 41 = .ok (.iload_n 2, 1) := by decide +kernel
theorem d177_42 : decode (am_code 177) 42 = .ok (.bipush 7, 2) := by decide +kernel
theorem d177_44 : decode (am_code 177) 44 = .ok (.irem, 1) := by decide +kernel
theorem d177_45 : decode (am_code 177) 45 = .ok (.iload 5, 2) := by decide +kernel
theorem d177_47 : decode (am_code 177) 47 = .ok (.invokevirtual 236, 3) := by decide +kernel
theorem d177_50 : decode (am_code 177) 50 = .ok (.ifCond .eq 7, 3) := by decide +kernel
theorem d177_53 : decode (am_code 177) 53 = .ok (.iconst 1, 1) := by decide +kernel
theorem d177_54 : decode (am_code 177) 54 = .ok (.goto 4, 3) := by decide +kernel
theorem d177_57 : decode (am_code 177) 57 = .ok (.iconst 0, 1) := by decide +kernel
theorem d177_58 : decode (am_code 177) 58 = .ok (.iadd, 1) := by decide +kernel
theorem d177_59 : decode (am_code 177) 59 = .ok (.istore 4, 2) := by decide +kernel
theorem d177_61 : decode (am_code 177) 61 = .ok (.iinc 5 1, 3) := by decide +kernel
theorem d177_64 : decode (am_code 177) 64 = .ok (.goto (-47), 3) := by decide +kernel
theorem d177_67 : decode (am_code 177) 67 = .ok (.iconst 4, 1) := by decide +kernel
theorem d177_68 : decode (am_code 177) 68 = .ok (.iload_n 3, 1) := by decide +kernel
theorem d177_69 : decode (am_code 177) 69 = .ok (.imul, 1) := by decide +kernel
theorem d177_70 : decode (am_code 177) 70 = .ok (.istore 5, 2) := by decide +kernel
theorem d177_72 : decode (am_code 177) 72 = .ok (.iload 5, 2) := by decide +kernel
theorem d177_74 : decode (am_code 177) 74 = .ok (.iconst 4, 1) := by decide +kernel
theorem d177_75 : decode (am_code 177) 75 = .ok (.iload_n 3, 1) := by decide +kernel
theorem d177_76 : decode (am_code 177) 76 = .ok (.imul, 1) := by decide +kernel
theorem d177_77 : decode (am_code 177) 77 = .ok (.iconst 4, 1) := by decide +kernel
theorem d177_78 : decode (am_code 177) 78 = .ok (.iadd, 1) := by decide +kernel
theorem d177_79 : decode (am_code 177) 79 = .ok (.if_icmp .ge 73, 3) := by decide +kernel
theorem d177_82 : decode (am_code 177) 82 = .ok (.iload_n 2, 1) := by decide +kernel
theorem d177_83 : decode (am_code 177) 83 = .ok (.bipush 7, 2) := by decide +kernel
theorem d177_85 : decode (am_code 177) 85 = .ok (.irem, 1) := by decide +kernel
theorem d177_86 : decode (am_code 177) 86 = .ok (.iconst 3, 1) := by decide +kernel
theorem d177_87 : decode (am_code 177) 87 = .ok (.if_icmp .gt 14, 3) := by decide +kernel
theorem d177_90 : decode (am_code 177) 90 = .ok (.iload 5, 2) := by decide +kernel
theorem d177_92 : decode (am_code 177) 92 = .ok (.iconst 4, 1) := by decide +kernel
theorem d177_93 : decode (am_code 177) 93 = .ok (.irem, 1) := by decide +kernel
theorem d177_94 : decode (am_code 177) 94 = .ok (.iload_n 2, 1) := by decide +kernel
theorem d177_95 : decode (am_code 177) 95 = .ok (.bipush 7, 2) := by decide +kernel
theorem d177_97 : decode (am_code 177) 97 = .ok (.irem, 1) := by decide +kernel
theorem d177_98 : decode (am_code 177) 98 = .ok (.if_icmp .eq 7, 3) := by decide +kernel
theorem d177_101 : decode (am_code 177) 101 = .ok (.iconst 1, 1) := by decide +kernel
theorem d177_102 : decode (am_code 177) 102 = .ok (.goto 4, 3) := by decide +kernel
theorem d177_105 : decode (am_code 177) 105 = .ok (.iconst 0, 1) := by decide +kernel
theorem d177_106 : decode (am_code 177) 106 = .ok (.istore 6, 2) := by decide +kernel
theorem d177_108 : decode (am_code 177) 108 = .ok (.iload 4, 2) := by decide +kernel
theorem d177_110 : decode (am_code 177) 110 = .ok (.iload 6, 2) := by decide +kernel
theorem d177_112 : decode (am_code 177) 112 = .ok (.ifCond .eq 30, 3) := by decide +kernel
theorem d177_115 : decode (am_code 177) 115 = .ok (.aload_n 0, 1) := by decide +kernel
theorem d177_116 : decode (am_code 177) 116 = .ok (.getfield 7, 3) := by decide +kernel
theorem d177_119 : decode (am_code 177) 119 = .ok (.iload 5, 2) := by decide +kernel
theorem d177_121 : decode (am_code 177) 121 = .ok (.iaload, 1) := by decide +kernel
theorem d177_122 : decode (am_code 177) 122 = .ok (.iconst (-1), 1) := by decide +kernel
theorem d177_123 : decode (am_code 177) 123 = .ok (.if_icmp .eq 15, 3) := by decide +kernel
theorem d177_126 : decode (am_code 177) 126 = .ok (.iload 5, 2) := by decide +kernel
theorem d177_128 : decode (am_code 177) 128 = .ok (.aload_n 0, 1) := by decide +kernel
theorem d177_129 : decode (am_code 177) 129 = .ok (.getfield 7, 3) := by decide +kernel
theorem d177_132 : decode (am_code 177) 132 = .ok (.iload 5, 2) := by decide +kernel
theorem d177_134 : decode (am_code 177) 134 = .ok (.iaload, 1) := by decide +kernel
theorem d177_135 : decode (am_code 177) 135 = .ok (.if_icmp .ge 7, 3) := by decide +kernel
theorem d177_138 : decode (am_code 177) 138 = .ok (.iconst 1, 1) := by decide +kernel
theorem d177_139 : decode (am_code 177) 139 = .ok (.goto 4, 3) := by decide +kernel
theorem d177_142 : decode (am_code 177) 142 = .ok (.iconst 0, 1) := by decide +kernel
theorem d177_143 : decode (am_code 177) 143 = .ok (.isub, 1) := by decide +kernel
theorem d177_144 : decode (am_code 177) 144 = .ok (.istore 4, 2) := by decide +kernel
theorem d177_146 : decode (am_code 177) 146 = .ok (.iinc 5 1, 3) := by decide +kernel
theorem d177_149 : decode (am_code 177) 149 = .ok (.goto (-77), 3) := by decide +kernel
theorem d177_152 : decode (am_code 177) 152 = .ok (.iload 4, 2) := by decide +kernel
theorem d177_154 : decode (am_code 177) 154 = .ok (.ireturn, 1) := by decide +kernel
theorem f177_7 : am_find am_ftL (am_mc 177) 7 = some (7, 1) := by decide +kernel
theorem c177_239 : am_find am_ctL (am_mc 177) 239 = some (0, 172) ∧ am_na 172 = 1 ∧ am_fr 172 + 1 ≤ am_fr 177 ∧ 8 + (am_maxL 172 + 11) + am_lo 172 ≤ am_lo 177 := by decide +kernel
theorem c177_105 : am_find am_ctL (am_mc 177) 105 = some (0, 119) ∧ am_na 119 = 1 ∧ am_fr 119 + 1 ≤ am_fr 177 ∧ 8 + (am_maxL 119 + 11) + am_lo 119 ≤ am_lo 177 := by decide +kernel
theorem c177_236 : am_find am_ctL (am_mc 177) 236 = some (0, 168) ∧ am_na 168 = 2 ∧ am_fr 168 + 1 ≤ am_fr 177 ∧ 8 + (am_maxL 168 + 11) + am_lo 168 ≤ am_lo 177 := by decide +kernel
theorem l177 : am_maxL 177 = 7 := by decide +kernel
theorem t177 : am_ret 177 = (some .int) := by decide +kernel
/-! ThirdSheetsModel.part(II)I is 178 -/
theorem d178_0 : decode (am_code 178) 0 = .ok (.iload_n 2, 1) := by decide +kernel
theorem d178_1 : decode (am_code 178) 1 = .ok (.iconst 0, 1) := by decide +kernel
theorem d178_2 : decode (am_code 178) 2 = .ok (.iconst 2, 1) := by decide +kernel
theorem d178_3 : decode (am_code 178) 3 = .ok (.invokestatic 71, 3) := by decide +kernel
theorem d178_6 : decode (am_code 178) 6 = .ok (.ifCond .eq 10, 3) := by decide +kernel
theorem d178_9 : decode (am_code 178) 9 = .ok (.aload_n 0, 1) := by decide +kernel
theorem d178_10 : decode (am_code 178) 10 = .ok (.invokevirtual 233, 3) := by decide +kernel
theorem d178_13 : decode (am_code 178) 13 = .ok (.ifCond .eq 6, 3) := by decide +kernel
theorem d178_16 : decode (am_code 178) 16 = .ok (.ldc 128, 2) := by decide +kernel
theorem d178_18 : decode (am_code 178) 18 = .ok (.ireturn, 1) := by decide +kernel
theorem d178_19 : decode (am_code 178) 19 = .ok (.aload_n 0, 1) := by decide +kernel
theorem d178_20 : decode (am_code 178) 20 = .ok (.invokevirtual 257, 3) := by decide +kernel
theorem d178_23 : decode (am_code 178) 23 = .ok (.istore_n 3, 1) := by decide +kernel
theorem d178_24 : decode (am_code 178) 24 = .ok (.aload_n 0, 1) := by decide +kernel
theorem d178_25 : decode (am_code 178) 25 = .ok (.getfield 251, 3) := by decide +kernel
theorem d178_28 : decode (am_code 178) 28 = .ok (.sipush 400, 3) := by decide +kernel
theorem d178_31 : decode (am_code 178) 31 = .ok (.if_icmp .gt 14, 3) := by decide +kernel
theorem d178_34 : decode (am_code 178) 34 = .ok (.iload_n 1, 1) := by decide +kernel
theorem d178_35 : decode (am_code 178) 35 = .ok (.iconst 0, 1) := by decide +kernel
theorem d178_36 : decode (am_code 178) 36 = .ok (.iload_n 3, 1) := by decide +kernel
theorem d178_37 : decode (am_code 178) 37 = .ok (.iconst 1, 1) := by decide +kernel
theorem d178_38 : decode (am_code 178) 38 = .ok (.isub, 1) := by decide +kernel
theorem d178_39 : decode (am_code 178) 39 = .ok (.invokestatic 71, 3) := by decide +kernel
theorem d178_42 : decode (am_code 178) 42 = .ok (.ifCond .ne 6, 3) := by decide +kernel
theorem d178_45 : decode (am_code 178) 45 = .ok (.ldc 128, 2) := by decide +kernel
theorem d178_47 : decode (am_code 178) 47 = .ok (.ireturn, 1) := by decide +kernel
theorem d178_48 : decode (am_code 178) 48 = .ok (.iload_n 2, 1) := by decide +kernel
theorem d178_49 : decode (am_code 178) 49 = .ok (.ifCond .ne 9, 3) := by decide +kernel
theorem d178_52 : decode (am_code 178) 52 = .ok (.aload_n 0, 1) := by decide +kernel
theorem d178_53 : decode (am_code 178) 53 = .ok (.iload_n 1, 1) := by decide +kernel
theorem d178_54 : decode (am_code 178) 54 = .ok (.invokevirtual 260, 3) := by decide +kernel
theorem d178_57 : decode (am_code 178) 57 = .ok (.ireturn, 1) := by decide +kernel
theorem d178_58 : decode (am_code 178) 58 = .ok (.iload_n 2, 1) := by decide +kernel
theorem d178_59 : decode (am_code 178) 59 = .ok (.iconst 2, 1) := by decide +kernel
theorem d178_60 : decode (am_code 178) 60 = .ok (.if_icmp .ne 18, 3) := by decide +kernel
theorem d178_63 : decode (am_code 178) 63 = .ok (.aload_n 0, 1) := by decide +kernel
theorem d178_64 : decode (am_code 178) 64 = .ok (.getfield 63, 3) := by decide +kernel
theorem d178_67 : decode (am_code 178) 67 = .ok (.iload_n 1, 1) := by decide +kernel
theorem d178_68 : decode (am_code 178) 68 = .ok (.baload, 1) := by decide +kernel
theorem d178_69 : decode (am_code 178) 69 = .ok (.ifCond .eq 7, 3) := by decide +kernel
theorem d178_72 : decode (am_code 178) 72 = .ok (.iconst 0, 1) := by decide +kernel
theorem d178_73 : decode (am_code 178) 73 = .ok (.goto 4, 3) := by decide +kernel
theorem d178_76 : decode (am_code 178) 76 = .ok (.iconst 1, 1) := by decide +kernel
theorem d178_77 : decode (am_code 178) 77 = .ok (.ireturn, 1) := by decide +kernel
theorem d178_78 : decode (am_code 178) 78 = .ok (.iconst 0, 1) := by decide +kernel
theorem d178_79 : decode (am_code 178) 79 = .ok (.istore 4, 2) := by decide +kernel
theorem d178_81 : decode (am_code 178) 81 = .ok (.iconst 0, 1) := by decide +kernel
theorem d178_82 : decode (am_code 178) 82 = .ok (.istore 5, 2) := by decide +kernel
theorem d178_84 : decode (am_code 178) 84 = .ok (.iload 5, 2) := by decide +kernel
theorem d178_86 : decode (am_code 178) 86 = .ok (.aload_n 0, 1) := by decide +kernel
theorem d178_87 : decode (am_code 178) 87 = .ok (.getfield 251, 3) := by decide +kernel
theorem d178_90 : decode (am_code 178) 90 = .ok (.if_icmp .ge 35, 3) := by decide +kernel
theorem d178_93 : decode (am_code 178) 93 = .ok (.iload 4, 2) := by decide +kernel
theorem d178_95 : decode (am_code 178) 95 = .ok (.aload_n 0, 1) := by decide +kernel
theorem d178_96 : decode (am_code 178) 96 = .ok (.getfield 54, 3) := by decide +kernel
theorem d178_99 : decode (am_code 178) 99 = .ok (.iload 5, 2) := by decide +kernel
theorem d178_101 : decode (am_code 178) 101 = .ok (.iaload, 1) := by decide +kernel
theorem d178_102 : decode (am_code 178) 102 = .ok (.iload_n 1, 1) := by decide +kernel
theorem d178_103 : decode (am_code 178) 103 = .ok (.if_icmp .ne 12, 3) := by decide +kernel
theorem d178_106 : decode (am_code 178) 106 = .ok (.aload_n 0, 1) := by decide +kernel
theorem d178_107 : decode (am_code 178) 107 = .ok (.iload 5, 2) := by decide +kernel
theorem d178_109 : decode (am_code 178) 109 = .ok (.invokevirtual 263, 3) := by decide +kernel
theorem d178_112 : decode (am_code 178) 112 = .ok (.goto 4, 3) := by decide +kernel
theorem d178_115 : decode (am_code 178) 115 = .ok (.iconst 0, 1) := by decide +kernel
theorem d178_116 : decode (am_code 178) 116 = .ok (.iadd, 1) := by decide +kernel
theorem d178_117 : decode (am_code 178) 117 = .ok (.istore 4, 2) := by decide +kernel
theorem d178_119 : decode (am_code 178) 119 = .ok (.iinc 5 1, 3) := by decide +kernel
theorem d178_122 : decode (am_code 178) 122 = .ok (.goto (-38), 3) := by decide +kernel
theorem d178_125 : decode (am_code 178) 125 = .ok (.iload 4, 2) := by decide +kernel
theorem d178_127 : decode (am_code 178) 127 = .ok (.ireturn, 1) := by decide +kernel
theorem f178_251 : am_find am_ftL (am_mc 178) 251 = some (7, 19) := by decide +kernel
theorem f178_63 : am_find am_ftL (am_mc 178) 63 = some (7, 25) := by decide +kernel
theorem f178_54 : am_find am_ftL (am_mc 178) 54 = some (7, 21) := by decide +kernel
theorem c178_71 : am_find am_ctL (am_mc 178) 71 = some (1, 109) ∧ am_na 109 = 3 ∧ am_fr 109 + 1 ≤ am_fr 178 ∧ 8 + (am_maxL 109 + 11) + am_lo 109 ≤ am_lo 178 := by decide +kernel
theorem c178_233 : am_find am_ctL (am_mc 178) 233 = some (0, 167) ∧ am_na 167 = 0 ∧ am_fr 167 + 1 ≤ am_fr 178 ∧ 8 + (am_maxL 167 + 11) + am_lo 167 ≤ am_lo 178 := by decide +kernel
theorem c178_257 : am_find am_ctL (am_mc 178) 257 = some (0, 174) ∧ am_na 174 = 0 ∧ am_fr 174 + 1 ≤ am_fr 178 ∧ 8 + (am_maxL 174 + 11) + am_lo 174 ≤ am_lo 178 := by decide +kernel
theorem c178_260 : am_find am_ctL (am_mc 178) 260 = some (0, 176) ∧ am_na 176 = 1 ∧ am_fr 176 + 1 ≤ am_fr 178 ∧ 8 + (am_maxL 176 + 11) + am_lo 176 ≤ am_lo 178 := by decide +kernel
theorem c178_263 : am_find am_ctL (am_mc 178) 263 = some (0, 177) ∧ am_na 177 = 1 ∧ am_fr 177 + 1 ≤ am_fr 178 ∧ 8 + (am_maxL 177 + 11) + am_lo 177 ≤ am_lo 178 := by decide +kernel
theorem l178 : am_maxL 178 = 6 := by decide +kernel
theorem t178 : am_ret 178 = (some .int) := by decide +kernel
