/-! ThirdSheetsModel.holes(I)I is 148 -/
theorem d148_0 : decode (am_code 148) 0 = .ok (.iload_n 1, 1) := by decide +kernel
theorem d148_1 : decode (am_code 148) 1 = .ok (.ifCond .ge 6, 3) := by decide +kernel
theorem d148_4 : decode (am_code 148) 4 = .ok (.bipush (-2), 2) := by decide +kernel
theorem d148_6 : decode (am_code 148) 6 = .ok (.ireturn, 1) := by decide +kernel
theorem d148_7 : decode (am_code 148) 7 = .ok (.aload_n 0, 1) := by decide +kernel
theorem d148_8 : decode (am_code 148) 8 = .ok (.invokevirtual 118, 3) := by decide +kernel
theorem d148_11 : decode (am_code 148) 11 = .ok (.aload_n 0, 1) := by decide +kernel
theorem d148_12 : decode (am_code 148) 12 = .ok (.invokevirtual 136, 3) := by decide +kernel
theorem d148_15 : decode (am_code 148) 15 = .ok (.ifCond .eq 6, 3) := by decide +kernel
theorem d148_18 : decode (am_code 148) 18 = .ok (.bipush (-3), 2) := by decide +kernel
theorem d148_20 : decode (am_code 148) 20 = .ok (.ireturn, 1) := by decide +kernel
theorem d148_21 : decode (am_code 148) 21 = .ok (.aload_n 0, 1) := by decide +kernel
theorem d148_22 : decode (am_code 148) 22 = .ok (.invokevirtual 177, 3) := by decide +kernel
theorem d148_25 : decode (am_code 148) 25 = .ok (.iconst 0, 1) := by decide +kernel
theorem d148_26 : decode (am_code 148) 26 = .ok (.istore_n 2, 1) := by decide +kernel
theorem d148_27 : decode (am_code 148) 27 = .ok (.iconst 0, 1) := by decide +kernel
theorem d148_28 : decode (am_code 148) 28 = .ok (.istore_n 3, 1) := by decide +kernel
theorem d148_29 : decode (am_code 148) 29 = .ok (.iconst (-1), 1) := by decide +kernel
theorem d148_30 : decode (am_code 148) 30 = .ok (.istore 4, 2) := by decide +kernel
theorem d148_32 : decode (am_code 148) 32 = .ok (.iload_n 2, 1) := by decide +kernel
theorem d148_33 : decode (am_code 148) 33 = .ok (.aload_n 0, 1) := by decide +kernel
theorem d148_34 : decode (am_code 148) 34 = .ok (.getfield 162, 3) := by decide +kernel
theorem d148_37 : decode (am_code 148) 37 = .ok (.if_icmp .ge 108, 3) := by decide +kernel
theorem d148_40 : decode (am_code 148) 40 = .ok (.iload_n 2, 1) := by decide +kernel
theorem d148_41 : decode (am_code 148) 41 = .ok (.aload_n 0, 1) := by decide +kernel
theorem d148_42 : decode (am_code 148) 42 = .ok (.getfield 159, 3) := by decide +kernel
theorem d148_45 : decode (am_code 148) 45 = .ok (.if_icmp .ge 100, 3) := by decide +kernel
theorem d148_48 : decode (am_code 148) 48 = .ok (.aload_n 0, 1) := by decide +kernel
theorem d148_49 : decode (am_code 148) 49 = .ok (.iload_n 2, 1) := by decide +kernel
theorem d148_50 : decode (am_code 148) 50 = .ok (.invokevirtual 180, 3) := by decide +kernel
theorem d148_53 : decode (am_code 148) 53 = .ok (.ifCond .eq 92, 3) := by decide +kernel
theorem d148_56 : decode (am_code 148) 56 = .ok (.aload_n 0, 1) := by decide +kernel
theorem d148_57 : decode (am_code 148) 57 = .ok (.iload_n 2, 1) := by decide +kernel
theorem d148_58 : decode (am_code 148) 58 = .ok (.invokevirtual 183, 3) := by decide +kernel
theorem d148_61 : decode (am_code 148) 61 = .ok (.ifCond .ne 12, 3) := by decide +kernel
theorem d148_64 : decode (am_code 148) 64 = .ok (.aload_n 0, 1) := by decide +kernel
theorem d148_65 : decode (am_code 148) 65 = .ok (.iload_n 2, 1) := by decide +kernel
theorem d148_66 : decode (am_code 148) 66 = .ok (.invokevirtual 180, 3) := by decide +kernel
theorem d148_69 : decode (am_code 148) 69 = .ok (.pop, 1) := by decide +kernel
theorem d148_70 : decode (am_code 148) 70 = .ok (.goto (-14), 3) := by decide +kernel
theorem d148_73 : decode (am_code 148) 73 = .ok (.aload_n 0, 1) := by decide +kernel
theorem d148_74 : decode (am_code 148) 74 = .ok (.iload_n 2, 1) := by decide +kernel
theorem d148_75 : decode (am_code 148) 75 = .ok (.iload_n 2, 1) := by decide +kernel
theorem d148_76 : decode (am_code 148) 76 = .ok (.invokevirtual 173, 3) := by decide +kernel
theorem d148_79 : decode (am_code 148) 79 = .ok (.lconst 0, 1) := by decide +kernel
theorem d148_80 : decode (am_code 148) 80 = .ok (.lcmp, 1) := by decide +kernel
theorem d148_81 : decode (am_code 148) 81 = .ok (.ifCond .ge 13, 3) := by decide +kernel
theorem d148_84 : decode (am_code 148) 84 = .ok (.aload_n 0, 1) := by decide +kernel
theorem d148_85 : decode (am_code 148) 85 = .ok (.iload_n 2, 1) := by decide +kernel
theorem d148_86 : decode (am_code 148) 86 = .ok (.iload_n 2, 1) := by decide +kernel
theorem d148_87 : decode (am_code 148) 87 = .ok (.invokevirtual 173, 3) := by decide +kernel
theorem d148_90 : decode (am_code 148) 90 = .ok (.lneg, 1) := by decide +kernel
theorem d148_91 : decode (am_code 148) 91 = .ok (.goto 9, 3) := by decide +kernel
theorem d148_94 : decode (am_code 148) 94 = .ok (.aload_n 0, 1) := by decide +kernel
theorem d148_95 : decode (am_code 148) 95 = .ok (.iload_n 2, 1) := by decide +kernel
theorem d148_96 : decode (am_code 148) 96 = .ok (.iload_n 2, 1) := by decide +kernel
theorem d148_97 : decode (am_code 148) 97 = .ok (.invokevirtual 173, 3) := by decide +kernel
theorem d148_100 : decode (am_code 148) 100 = .ok (.lstore 5, 2) := by decide +kernel
theorem d148_102 : decode (am_code 148) 102 = .ok (.iload_n 3, 1) := by decide +kernel
theorem d148_103 : decode (am_code 148) 103 = .ok (.lload 5, 2) := by decide +kernel
theorem d148_105 : decode (am_code 148) 105 = .ok (.lconst 1, 1) := by decide +kernel
theorem d148_106 : decode (am_code 148) 106 = .ok (.lcmp, 1) := by decide +kernel
theorem d148_107 : decode (am_code 148) 107 = .ok (.ifCond .le 7, 3) := by decide +kernel
theorem d148_110 : decode (am_code 148) 110 = .ok (.iconst 1, 1) := by decide +kernel
theorem d148_111 : decode (am_code 148) 111 = .ok (.goto 4, 3) := by decide +kernel
theorem d148_114 : decode (am_code 148) 114 = .ok (.iconst 0, 1) := by decide +kernel
theorem d148_115 : decode (am_code 148) 115 = .ok (.iadd, 1) := by decide +kernel
theorem d148_116 : decode (am_code 148) 116 = .ok (.istore_n 3, 1) := by decide +kernel
theorem d148_117 : decode (am_code 148) 117 = .ok (.lload 5, 2) := by decide +kernel
theorem d148_119 : decode (am_code 148) 119 = .ok (.lconst 1, 1) := by decide +kernel
theorem d148_120 : decode (am_code 148) 120 = .ok (.lcmp, 1) := by decide +kernel
theorem d148_121 : decode (am_code 148) 121 = .ok (.ifCond .le 14, 3) := by decide +kernel
theorem d148_124 : decode (am_code 148) 124 = .ok (.iload_n 3, 1) := by decide +kernel
theorem d148_125 : decode (am_code 148) 125 = .ok (.iload_n 1, 1) := by decide +kernel
theorem d148_126 : decode (am_code 148) 126 = .ok (.if_icmp .ne 9, 3) := by decide +kernel
theorem d148_129 : decode (am_code 148) 129 = .ok (.lload 5, 2) := by decide +kernel
theorem d148_131 : decode (am_code 148) 131 = .ok (.l2i, 1) := by decide +kernel
theorem d148_132 : decode (am_code 148) 132 = .ok (.goto 5, 3) := by decide +kernel
theorem d148_135 : decode (am_code 148) 135 = .ok (.iload 4, 2) := by decide +kernel
theorem d148_137 : decode (am_code 148) 137 = .ok (.istore 4, 2) := by decide +kernel
theorem d148_139 : decode (am_code 148) 139 = .ok (.iinc 2 1, 3) := by decide +kernel
theorem d148_142 : decode (am_code 148) 142 = .ok (.goto (-110), 3) := by decide +kernel
theorem d148_145 : decode (am_code 148) 145 = .ok (.iload_n 1, 1) := by decide +kernel
theorem d148_146 : decode (am_code 148) 146 = .ok (.ifCond .ne 22, 3) := by decide +kernel
theorem d148_149 : decode (am_code 148) 149 = .ok (.aload_n 0, 1) := by decide +kernel
theorem d148_150 : decode (am_code 148) 150 = .ok (.getfield 159, 3) := by decide +kernel
theorem d148_153 : decode (am_code 148) 153 = .ok (.aload_n 0, 1) := by decide +kernel
theorem d148_154 : decode (am_code 148) 154 = .ok (.getfield 67, 3) := by decide +kernel
theorem d148_157 : decode (am_code 148) 157 = .ok (.isub, 1) := by decide +kernel
theorem d148_158 : decode (am_code 148) 158 = .ok (.aload_n 0, 1) := by decide +kernel
theorem d148_159 : decode (am_code 148) 159 = .ok (.invokevirtual 156, 3) := by decide +kernel
theorem d148_162 : decode (am_code 148) 162 = .ok (.iadd, 1) := by decide +kernel
theorem d148_163 : decode (am_code 148) 163 = .ok (.iload_n 2, 1) := by decide +kernel
theorem d148_164 : decode (am_code 148) 164 = .ok (.isub, 1) := by decide +kernel
theorem d148_165 : decode (am_code 148) 165 = .ok (.goto 5, 3) := by decide +kernel
theorem d148_168 : decode (am_code 148) 168 = .ok (.iload 4, 2) := by decide +kernel
theorem d148_170 : decode (am_code 148) 170 = .ok (.ireturn, 1) := by decide +kernel
theorem f148_162 : am_find am_ftL (am_mc 148) 162 = some (7, 11) := by decide +kernel
theorem f148_159 : am_find am_ftL (am_mc 148) 159 = some (7, 12) := by decide +kernel
theorem f148_67 : am_find am_ftL (am_mc 148) 67 = some (7, 0) := by decide +kernel
theorem c148_118 : am_find am_ctL (am_mc 148) 118 = some (0, 116) ∧ am_na 116 = 0 ∧ am_fr 116 + 1 ≤ am_fr 148 ∧ 8 + (am_maxL 116 + 11) + am_lo 116 ≤ am_lo 148 := by decide +kernel
theorem c148_136 : am_find am_ctL (am_mc 148) 136 = some (0, 125) ∧ am_na 125 = 0 ∧ am_fr 125 + 1 ≤ am_fr 148 ∧ 8 + (am_maxL 125 + 11) + am_lo 125 ≤ am_lo 148 := by decide +kernel
theorem c148_177 : am_find am_ctL (am_mc 148) 177 = some (0, 144) ∧ am_na 144 = 0 ∧ am_fr 144 + 1 ≤ am_fr 148 ∧ 8 + (am_maxL 144 + 11) + am_lo 144 ≤ am_lo 148 := by decide +kernel
theorem c148_180 : am_find am_ctL (am_mc 148) 180 = some (0, 146) ∧ am_na 146 = 1 ∧ am_fr 146 + 1 ≤ am_fr 148 ∧ 8 + (am_maxL 146 + 11) + am_lo 146 ≤ am_lo 148 := by decide +kernel
theorem c148_183 : am_find am_ctL (am_mc 148) 183 = some (0, 147) ∧ am_na 147 = 1 ∧ am_fr 147 + 1 ≤ am_fr 148 ∧ 8 + (am_maxL 147 + 11) + am_lo 147 ≤ am_lo 148 := by decide +kernel
theorem c148_173 : am_find am_ctL (am_mc 148) 173 = some (0, 145) ∧ am_na 145 = 2 ∧ am_fr 145 + 1 ≤ am_fr 148 ∧ 8 + (am_maxL 145 + 11) + am_lo 145 ≤ am_lo 148 := by decide +kernel
theorem c148_156 : am_find am_ctL (am_mc 148) 156 = some (0, 140) ∧ am_na 140 = 0 ∧ am_fr 140 + 1 ≤ am_fr 148 ∧ 8 + (am_maxL 140 + 11) + am_lo 140 ≤ am_lo 148 := by decide +kernel
theorem l148 : am_maxL 148 = 7 := by decide +kernel
theorem t148 : am_ret 148 = (some .int) := by decide +kernel
/-! ThirdSheetsModel.kindOf(II)I is 149 -/
theorem d149_0 : decode (am_code 149) 0 = .ok (.iload_n 0, 1) := by decide +kernel
theorem d149_1 : decode (am_code 149) 1 = .ok (.iload_n 1, 1) := by decide +kernel
theorem d149_2 : decode (am_code 149) 2 = .ok (.iadd, 1) := by decide +kernel
theorem d149_3 : decode (am_code 149) 3 = .ok (.istore_n 2, 1) := by decide +kernel
theorem d149_4 : decode (am_code 149) 4 = .ok (.iload_n 0, 1) := by decide +kernel
theorem d149_5 : decode (am_code 149) 5 = .ok (.ifCond .eq 7, 3) := by decide +kernel
theorem d149_8 : decode (am_code 149) 8 = .ok (.iload_n 1, 1) := by decide +kernel
theorem d149_9 : decode (am_code 149) 9 = .ok (.ifCond .ne 9, 3) := by decide +kernel
theorem d149_12 : decode (am_code 149) 12 = .ok (.iload_n 2, 1) := by decide +kernel
theorem d149_13 : decode (am_code 149) 13 = .ok (.iconst 1, 1) := by decide +kernel
theorem d149_14 : decode (am_code 149) 14 = .ok (.isub, 1) := by decide +kernel
theorem d149_15 : decode (am_code 149) 15 = .ok (.goto 6, 3) := by decide +kernel
theorem d149_18 : decode (am_code 149) 18 = .ok (.iconst 5, 1) := by decide +kernel
theorem d149_19 : decode (am_code 149) 19 = .ok (.iload_n 2, 1) := by decide +kernel
theorem d149_20 : decode (am_code 149) 20 = .ok (.isub, 1) := by decide +kernel
theorem d149_21 : decode (am_code 149) 21 = .ok (.ireturn, 1) := by decide +kernel
theorem l149 : am_maxL 149 = 3 := by decide +kernel
theorem t149 : am_ret 149 = (some .int) := by decide +kernel
/-! ThirdSheetsModel.layEquation(II)V is 150 -/
theorem d150_0 : decode (am_code 150) 0 = .ok (.iload_n 1, 1) := by decide +kernel
theorem d150_1 : decode (am_code 150) 1 = .ok (.iconst 4, 1) := by decide +kernel
theorem d150_2 : decode (am_code 150) 2 = .ok (.idiv, 1) := by decide +kernel
theorem d150_3 : decode (am_code 150) 3 = .ok (.istore_n 3, 1) := by decide +kernel
theorem d150_4 : decode (am_code 150) 4 = .ok (.aload_n 0, 1) := by decide +kernel
theorem d150_5 : decode (am_code 150) 5 = .ok (.getfield 7, 3) := by decide +kernel
theorem d150_8 : decode (am_code 150) 8 = .ok (.iload_n 1, 1) := by decide +kernel
theorem d150_9 : decode (am_code 150) 9 = .ok (.iaload, 1) := by decide +kernel
theorem d150_10 : decode (am_code 150) 10 = .ok (.iconst 4, 1) := by decide +kernel
theorem d150_11 : decode (am_code 150) 11 = .ok (.idiv, 1) := by decide +kernel
theorem d150_12 : decode (am_code 150) 12 = .ok (.istore 4, 2) := by decide +kernel
theorem d150_14 : decode (am_code 150) 14 = .ok (.aload_n 0, 1) := by decide +kernel
theorem d150_15 : decode (am_code 150) 15 = .ok (.getfield 13, 3) := by decide +kernel
theorem d150_18 : decode (am_code 150) 18 = .ok (.iconst 4, 1) := by decide +kernel
theorem d150_19 : decode (am_code 150) 19 = .ok (.iload_n 1, 1) := by decide +kernel
theorem d150_20 : decode (am_code 150) 20 = .ok (.imul, 1) := by decide +kernel
theorem d150_21 : decode (am_code 150) 21 = .ok (.iload_n 2, 1) := by decide +kernel
theorem d150_22 : decode (am_code 150) 22 = .ok (.iadd, 1) := by decide +kernel
theorem d150_23 : decode (am_code 150) 23 = .ok (.iaload, 1) := by decide +kernel
theorem d150_24 : decode (am_code 150) 24 = .ok (.istore 5, 2) := by decide +kernel
theorem d150_26 : decode (am_code 150) 26 = .ok (.iconst 0, 1) := by decide +kernel
theorem d150_27 : decode (am_code 150) 27 = .ok (.istore 6, 2) := by decide +kernel
theorem d150_29 : decode (am_code 150) 29 = .ok (.iload 6, 2) := by decide +kernel
theorem d150_31 : decode (am_code 150) 31 = .ok (.bipush 21, 2) := by decide +kernel
theorem d150_33 : decode (am_code 150) 33 = .ok (.if_icmp .ge 17, 3) := by decide +kernel
theorem d150_36 : decode (am_code 150) 36 = .ok (.aload_n 0, 1) := by decide +kernel
theorem d150_37 : decode (am_code 150) 37 = .ok (.getfield 48, 3) := by decide +kernel
theorem d150_40 : decode (am_code 150) 40 = .ok (.iload 6, 2) := by decide +kernel
theorem d150_42 : decode (am_code 150) 42 = .ok (.iconst 0, 1) := by decide +kernel
theorem d150_43 : decode (am_code 150) 43 = .ok (.iastore, 1) := by decide +kernel
theorem d150_44 : decode (am_code 150) 44 = .ok (.iinc 6 1, 3) := by decide +kernel
theorem d150_47 : decode (am_code 150) 47 = .ok (.goto (-18), 3) := by decide +kernel
theorem d150_50 : decode (am_code 150) 50 = .ok (.aload_n 0, 1) := by decide +kernel
theorem d150_51 : decode (am_code 150) 51 = .ok (.getfield 48, 3) := by decide +kernel
theorem d150_54 : decode (am_code 150) 54 = .ok (.bipush 7, 2) := by decide +kernel
theorem d150_56 : decode (am_code 150) 56 = .ok (.iload_n 3, 1) := by decide +kernel
theorem d150_57 : decode (am_code 150) 57 = .ok (.imul, 1) := by decide +kernel
theorem d150_58 : decode (am_code 150) 58 = .ok (.iload_n 2, 1) := by decide +kernel
theorem d150_59 : decode (am_code 150) 59 = .ok (.iadd, 1) := by decide +kernel
theorem d150_60 : decode (am_code 150) 60 = .ok (.dup2, 1) := by decide +kernel
theorem d150_61 : decode (am_code 150) 61 = .ok (.iaload, 1) := by decide +kernel
theorem d150_62 : decode (am_code 150) 62 = .ok (.iconst 1, 1) := by decide +kernel
theorem d150_63 : decode (am_code 150) 63 = .ok (.iadd, 1) := by decide +kernel
theorem d150_64 : decode (am_code 150) 64 = .ok (.iastore, 1) := by decide +kernel
theorem d150_65 : decode (am_code 150) 65 = .ok (.aload_n 0, 1) := by decide +kernel
theorem d150_66 : decode (am_code 150) 66 = .ok (.getfield 48, 3) := by decide +kernel
theorem d150_69 : decode (am_code 150) 69 = .ok (.bipush 7, 2) := by decide +kernel
theorem d150_71 : decode (am_code 150) 71 = .ok (.iload_n 3, 1) := by decide +kernel
theorem d150_72 : decode (am_code 150) 72 = .ok (.imul, 1) := by decide +kernel
theorem d150_73 : decode (am_code 150) 73 = .ok (.iconst 4, 1) := by decide +kernel
theorem d150_74 : decode (am_code 150) 74 = .ok (.iadd, 1) := by decide +kernel
theorem d150_75 : decode (am_code 150) 75 = .ok (.iload_n 2, 1) := by decide +kernel
theorem d150_76 : decode (am_code 150) 76 = .ok (.iload_n 1, 1) := by decide +kernel
theorem d150_77 : decode (am_code 150) 77 = .ok (.iconst 4, 1) := by decide +kernel
theorem d150_78 : decode (am_code 150) 78 = .ok (.irem, 1) := by decide +kernel
theorem d150_79 : decode (am_code 150) 79 = .ok (.invokestatic 186, 3) := by decide +kernel
theorem d150_82 : decode (am_code 150) 82 = .ok (.iadd, 1) := by decide +kernel
theorem d150_83 : decode (am_code 150) 83 = .ok (.dup2, 1) := by decide +kernel
theorem d150_84 : decode (am_code 150) 84 = .ok (.iaload, 1) := by decide +kernel
theorem d150_85 : decode (am_code 150) 85 = .ok (.iconst 1, 1) := by decide +kernel
theorem d150_86 : decode (am_code 150) 86 = .ok (.iadd, 1) := by decide +kernel
theorem d150_87 : decode (am_code 150) 87 = .ok (.iastore, 1) := by decide +kernel
theorem d150_88 : decode (am_code 150) 88 = .ok (.aload_n 0, 1) := by decide +kernel
theorem d150_89 : decode (am_code 150) 89 = .ok (.getfield 48, 3) := by decide +kernel
theorem d150_92 : decode (am_code 150) 92 = .ok (.bipush 7, 2) := by decide +kernel
theorem d150_94 : decode (am_code 150) 94 = .ok (.iload 4, 2) := by decide +kernel
theorem d150_96 : decode (am_code 150) 96 = .ok (.imul, 1) := by decide +kernel
theorem d150_97 : decode (am_code 150) 97 = .ok (.iload 5, 2) := by decide +kernel
theorem d150_99 : decode (am_code 150) 99 = .ok (.iadd, 1) := by decide +kernel
theorem d150_100 : decode (am_code 150) 100 = .ok (.dup2, 1) := by decide +kernel
theorem d150_101 : decode (am_code 150) 101 = .ok (.iaload, 1) := by decide +kernel
theorem d150_102 : decode (am_code 150) 102 = .ok (.iconst 1, 1) := by decide +kernel
theorem d150_103 : decode (am_code 150) 103 = .ok (.isub, 1) := by decide +kernel
theorem d150_104 : decode (am_code 150) 104 = .ok (.iastore, 1) := by decide +kernel
theorem d150_105 : decode (am_code 150) 105 = .ok (.aload_n 0, 1) := by decide +kernel
theorem d150_106 : decode (am_code 150) 106 = .ok (.getfield 48, 3) := by decide +kernel
theorem d150_109 : decode (am_code 150) 109 = .ok (.bipush 7, 2) := by decide +kernel
theorem d150_111 : decode (am_code 150) 111 = .ok (.iload 4, 2) := by decide +kernel
theorem d150_113 : decode (am_code 150) 113 = .ok (.imul, 1) := by decide +kernel
theorem d150_114 : decode (am_code 150) 114 = .ok (.iconst 4, 1) := by decide +kernel
theorem d150_115 : decode (am_code 150) 115 = .ok (.iadd, 1) := by decide +kernel
theorem d150_116 : decode (am_code 150) 116 = .ok (.iload 5, 2) := by decide +kernel
theorem d150_118 : decode (am_code 150) 118 = .ok (.aload_n 0, 1) := by decide +kernel
theorem d150_119 : decode (am_code 150) 119 = .ok (.getfield 7, 3) := by decide +kernel
theorem d150_122 : decode (am_code 150) 122 = .ok (.iload_n 1, 1) := by decide +kernel
theorem d150_123 : decode (am_code 150) 123 = .ok (.iaload, 1) := by decide +kernel
theorem d150_124 : decode (am_code 150) 124 = .ok (.iconst 4, 1) := by decide +kernel
theorem d150_125 : decode (am_code 150) 125 = .ok (.irem, 1) := by decide +kernel
theorem d150_126 : decode (am_code 150) 126 = .ok (.invokestatic 186, 3) := by decide +kernel
theorem d150_129 : decode (am_code 150) 129 = .ok (.iadd, 1) := by decide +kernel
theorem d150_130 : decode (am_code 150) 130 = .ok (.dup2, 1) := by decide +kernel
theorem d150_131 : decode (am_code 150) 131 = .ok (.iaload, 1) := by decide +kernel
theorem d150_132 : decode (am_code 150) 132 = .ok (.iconst 1, 1) := by decide +kernel
theorem d150_133 : decode (am_code 150) 133 = .ok (.isub, 1) := by decide +kernel
theorem d150_134 : decode (am_code 150) 134 = .ok (.iastore, 1) := by decide +kernel
theorem d150_135 : decode (am_code 150) 135 = .ok (.return_, 1) := by decide +kernel
theorem f150_7 : am_find am_ftL (am_mc 150) 7 = some (7, 1) := by decide +kernel
theorem f150_13 : am_find am_ftL (am_mc 150) 13 = some (7, 2) := by decide +kernel
theorem f150_48 : am_find am_ftL (am_mc 150) 48 = some (7, 17) := by decide +kernel
theorem c150_186 : am_find am_ctL (am_mc 150) 186 = some (1, 149) ∧ am_na 149 = 2 ∧ am_fr 149 + 1 ≤ am_fr 150 ∧ 8 + (am_maxL 149 + 11) + am_lo 149 ≤ am_lo 150 := by decide +kernel
theorem l150 : am_maxL 150 = 7 := by decide +kernel
theorem t150 : am_ret 150 = none := by decide +kernel
/-! ThirdSheetsModel.side(I)I is 151 -/
theorem d151_0 : decode (am_code 151) 0 = .ok (.iconst 0, 1) := by decide +kernel
theorem d151_1 : decode (am_code 151) 1 = .ok (.istore_n 2, 1) := by decide +kernel
theorem d151_2 : decode (am_code 151) 2 = .ok (.iconst 0, 1) := by decide +kernel
theorem d151_3 : decode (am_code 151) 3 = .ok (.istore_n 3, 1) := by decide +kernel
theorem d151_4 : decode (am_code 151) 4 = .ok (.iload_n 3, 1) := by decide +kernel
theorem d151_5 : decode (am_code 151) 5 = .ok (.bipush 7, 2) := by decide +kernel
theorem d151_7 : decode (am_code 151) 7 = .ok (.aload_n 0, 1) := by decide +kernel
theorem d151_8 : decode (am_code 151) 8 = .ok (.getfield 67, 3) := by decide +kernel
theorem d151_11 : decode (am_code 151) 11 = .ok (.imul, 1) := by decide +kernel
theorem d151_12 : decode (am_code 151) 12 = .ok (.if_icmp .ge 30, 3) := by decide +kernel
theorem d151_15 : decode (am_code 151) 15 = .ok (.iload_n 2, 1) := by decide +kernel
theorem d151_16 : decode (am_code 151) 16 = .ok (.aload_n 0, 1) := by decide +kernel
theorem d151_17 : decode (am_code 151) 17 = .ok (.getfield 48, 3) := by decide +kernel
theorem d151_20 : decode (am_code 151) 20 = .ok (.iload_n 3, 1) := by decide +kernel
theorem d151_21 : decode (am_code 151) 21 = .ok (.iaload, 1) := by decide +kernel
theorem d151_22 : decode (am_code 151) 22 = .ok (.aload_n 0, 1) := by decide +kernel
theorem d151_23 : decode (am_code 151) 23 = .ok (.getfield 42, 3) := by decide +kernel
theorem d151_26 : decode (am_code 151) 26 = .ok (.bipush 21, 2) := by decide +kernel
theorem d151_28 : decode (am_code 151) 28 = .ok (.iload_n 1, 1) := by decide +kernel
theorem d151_29 : decode (am_code 151) 29 = .ok (.imul, 1) := by decide +kernel
theorem d151_30 : decode (am_code 151) 30 = .ok (.iload_n 3, 1) := by decide +kernel
theorem d151_31 : decode (am_code 151) 31 = .ok (.iadd, 1) := by decide +kernel
theorem d151_32 : decode (am_code 151) 32 = .ok (.iaload, 1) := by decide +kernel
theorem d151_33 : decode (am_code 151) 33 = .ok (.imul, 1) := by decide +kernel
theorem d151_34 : decode (am_code 151) 34 = .ok (.iadd, 1) := by decide +kernel
theorem d151_35 : decode (am_code 151) 35 = .ok (.istore_n 2, 1) := by decide +kernel
theorem d151_36 : decode (am_code 151) 36 = .ok (.iinc 3 1, 3) := by decide +kernel
theorem d151_39 : decode (am_code 151) 39 = .ok (.goto (-35), 3) := by decide +kernel
theorem d151_42 : decode (am_code 151) 42 = .ok (.iload_n 2, 1) := by decide +kernel
theorem d151_43 : decode (am_code 151) 43 = .ok (.ireturn, 1) := by decide +kernel
theorem f151_67 : am_find am_ftL (am_mc 151) 67 = some (7, 0) := by decide +kernel
theorem f151_48 : am_find am_ftL (am_mc 151) 48 = some (7, 17) := by decide +kernel
theorem f151_42 : am_find am_ftL (am_mc 151) 42 = some (7, 15) := by decide +kernel
theorem l151 : am_maxL 151 = 4 := by decide +kernel
theorem t151 : am_ret 151 = (some .int) := by decide +kernel
/-! ThirdSheetsModel.supportOf(I)I is 152 -/
theorem d152_0 : decode (am_code 152) 0 = .ok (.iconst 0, 1) := by decide +kernel
theorem d152_1 : decode (am_code 152) 1 = .ok (.istore_n 2, 1) := by decide +kernel
theorem d152_2 : decode (am_code 152) 2 = .ok (.iconst 0, 1) := by decide +kernel
theorem d152_3 : decode (am_code 152) 3 = .ok (.istore_n 3, 1) := by decide +kernel
theorem d152_4 : decode (am_code 152) 4 = .ok (.iload_n 3, 1) := by decide +kernel
theorem d152_5 : decode (am_code 152) 5 = .ok (.bipush 7, 2) := by decide +kernel
theorem d152_7 : decode (am_code 152) 7 = .ok (.aload_n 0, 1) := by decide +kernel
theorem d152_8 : decode (am_code 152) 8 = .ok (.getfield 67, 3) := by decide +kernel
theorem d152_11 : decode (am_code 152) 11 = .ok (.imul, 1) := by decide +kernel
theorem d152_12 : decode (am_code 152) 12 = .ok (.if_icmp .ge 33, 3) := by decide +kernel
theorem d152_15 : decode (am_code 152) 15 = .ok (.iload_n 2, 1) := by decide +kernel
theorem d152_16 : decode (am_code 152) 16 = .ok (.aload_n 0, 1) := by decide +kernel
theorem d152_17 : decode (am_code 152) 17 = .ok (.getfield 42, 3) := by decide +kernel
theorem d152_20 : decode (am_code 152) 20 = .ok (.bipush 21, 2) := by decide +kernel
theorem d152_22 : decode (am_code 152) 22 = .ok (.iload_n 1, 1) := by decide +kernel
theorem d152_23 : decode (am_code 152) 23 = .ok (.imul, 1) := by decide +kernel
theorem d152_24 : decode (am_code 152) 24 = .ok (.iload_n 3, 1) := by decide +kernel
theorem d152_25 : decode (am_code 152) 25 = .ok (.iadd, 1) := by decide +kernel
theorem d152_26 : decode (am_code 152) 26 = .ok (.iaload, 1) := by decide +kernel
theorem d152_27 : decode (am_code 152) 27 = .ok (.ifCond .eq 9, 3) := by decide +kernel
theorem d152_30 : decode (am_code 152) 30 = .ok (.iconst 1, 1) := by decide +kernel
theorem d152_31 : decode (am_code 152) 31 = .ok (.iload_n 3, 1) := by decide +kernel
theorem d152_32 : decode (am_code 152) 32 = .ok (.ishl, 1) := by decide +kernel
theorem d152_33 : decode (am_code 152) 33 = .ok (.goto 4, 3) := by decide +kernel
theorem d152_36 : decode (am_code 152) 36 = .ok (.iconst 0, 1) := by decide +kernel
theorem d152_37 : decode (am_code 152) 37 = .ok (.ior, 1) := by decide +kernel
theorem d152_38 : decode (am_code 152) 38 = .ok (.istore_n 2, 1) := by decide +kernel
theorem d152_39 : decode (am_code 152) 39 = .ok (.iinc 3 1, 3) := by decide +kernel
theorem d152_42 : decode (am_code 152) 42 = .ok (.goto (-38), 3) := by decide +kernel
theorem d152_45 : decode (am_code 152) 45 = .ok (.iload_n 2, 1) := by decide +kernel
theorem d152_46 : decode (am_code 152) 46 = .ok (.ireturn, 1) := by decide +kernel
theorem f152_67 : am_find am_ftL (am_mc 152) 67 = some (7, 0) := by decide +kernel
theorem f152_42 : am_find am_ftL (am_mc 152) 42 = some (7, 15) := by decide +kernel
theorem l152 : am_maxL 152 = 4 := by decide +kernel
theorem t152 : am_ret 152 = (some .int) := by decide +kernel
/-! ThirdSheetsModel.hasOneKind(I)Z is 153 -/
theorem d153_0 : decode (am_code 153) 0 = .ok (.iconst 1, 1) := by decide +kernel
theorem d153_1 : decode (am_code 153) 1 = .ok (.istore_n 2, 1) := by decide +kernel
theorem d153_2 : decode (am_code 153) 2 = .ok (.iconst 0, 1) := by decide +kernel
theorem d153_3 : decode (am_code 153) 3 = .ok (.istore_n 3, 1) := by decide +kernel
theorem d153_4 : decode (am_code 153) 4 = .ok (.iload_n 3, 1) := by decide +kernel
theorem d153_5 : decode (am_code 153) 5 = .ok (.aload_n 0, 1) := by decide +kernel
theorem d153_6 : decode (am_code 153) 6 = .ok (.getfield 67, 3) := by decide +kernel
theorem d153_9 : decode (am_code 153) 9 = .ok (.if_icmp .ge 42, 3) := by decide +kernel
theorem d153_12 : decode (am_code 153) 12 = .ok (.iload_n 1, 1) := by decide +kernel
theorem d153_13 : decode (am_code 153) 13 = .ok (.bipush 7, 2) := by decide +kernel
theorem d153_15 : decode (am_code 153) 15 = .ok (.iload_n 3, 1) := by decide +kernel
theorem d153_16 : decode (am_code 153) 16 = .ok (.imul, 1) := by decide +kernel
theorem d153_17 : decode (am_code 153) 17 = .ok (.iconst 4, 1) := by decide +kernel
theorem d153_18 : decode (am_code 153) 18 = .ok (.iadd, 1) := by decide +kernel
theorem d153_19 : decode (am_code 153) 19 = .ok (.ishr, 1) := by decide +kernel
theorem d153_20 : decode (am_code 153) 20 = .ok (.bipush 7, 2) := by decide +kernel
theorem d153_22 : decode (am_code 153) 22 = .ok (.iand, 1) := by decide +kernel
theorem d153_23 : decode (am_code 153) 23 = .ok (.istore 4, 2) := by decide +kernel
theorem d153_25 : decode (am_code 153) 25 = .ok (.iload_n 2, 1) := by decide +kernel
theorem d153_26 : decode (am_code 153) 26 = .ok (.ifCond .eq 17, 3) := by decide +kernel
theorem d153_29 : decode (am_code 153) 29 = .ok (.iload 4, 2) := by decide +kernel
theorem d153_31 : decode (am_code 153) 31 = .ok (.iload 4, 2) := by decide +kernel
theorem d153_33 : decode (am_code 153) 33 = .ok (.iconst 1, 1) := by decide +kernel
theorem d153_34 : decode (am_code 153) 34 = .ok (.isub, 1) := by decide +kernel
theorem d153_35 : decode (am_code 153) 35 = .ok (.iand, 1) := by decide +kernel
theorem d153_36 : decode (am_code 153) 36 = .ok (.ifCond .ne 7, 3) := by decide +kernel
theorem d153_39 : decode (am_code 153) 39 = .ok (.iconst 1, 1) := by decide +kernel
theorem d153_40 : decode (am_code 153) 40 = .ok (.goto 4, 3) := by decide +kernel
theorem d153_43 : decode (am_code 153) 43 = .ok (.iconst 0, 1) := by decide +kernel
theorem d153_44 : decode (am_code 153) 44 = .ok (.istore_n 2, 1) := by decide +kernel
theorem d153_45 : decode (am_code 153) 45 = .ok (.iinc 3 1, 3) := by decide +kernel
theorem d153_48 : decode (am_code 153) 48 = .ok (.goto (-44), 3) := by decide +kernel
theorem d153_51 : decode (am_code 153) 51 = .ok (.iload_n 2, 1) := by decide +kernel
theorem d153_52 : decode (am_code 153) 52 = .ok (.ireturn, 1) := by decide +kernel
theorem f153_67 : am_find am_ftL (am_mc 153) 67 = some (7, 0) := by decide +kernel
theorem l153 : am_maxL 153 = 5 := by decide +kernel
theorem t153 : am_ret 153 = (some .boolean) := by decide +kernel
/-! ThirdSheetsModel.areBeside(III)Z is 154 -/
theorem d154_0 : decode (am_code 154) 0 = .ok (.iconst 1, 1) := by decide +kernel
theorem d154_1 : decode (am_code 154) 1 = .ok (.istore 4, 2) := by decide +kernel
theorem d154_3 : decode (am_code 154) 3 = .ok (.iconst 0, 1) := by decide +kernel
theorem d154_4 : decode (am_code 154) 4 = .ok (.istore 5, 2) := by decide +kernel
theorem d154_6 : decode (am_code 154) 6 = .ok (.iload 5, 2) := by decide +kernel
theorem d154_8 : decode (am_code 154) 8 = .ok (.aload_n 0, 1) := by decide +kernel
theorem d154_9 : decode (am_code 154) 9 = .ok (.getfield 189, 3) := by decide +kernel
theorem d154_12 : decode (am_code 154) 12 = .ok (.if_icmp .ge 46, 3) := by decide +kernel
theorem d154_15 : decode (am_code 154) 15 = .ok (.iload 4, 2) := by decide +kernel
theorem d154_17 : decode (am_code 154) 17 = .ok (.ifCond .eq 41, 3) := by decide +kernel
theorem d154_20 : decode (am_code 154) 20 = .ok (.iload 5, 2) := by decide +kernel
theorem d154_22 : decode (am_code 154) 22 = .ok (.iload_n 1, 1) := by decide +kernel
theorem d154_23 : decode (am_code 154) 23 = .ok (.if_icmp .eq 22, 3) := by decide +kernel
theorem d154_26 : decode (am_code 154) 26 = .ok (.iload 5, 2) := by decide +kernel
theorem d154_28 : decode (am_code 154) 28 = .ok (.iload_n 2, 1) := by decide +kernel
theorem d154_29 : decode (am_code 154) 29 = .ok (.if_icmp .eq 16, 3) := by decide +kernel
theorem d154_32 : decode (am_code 154) 32 = .ok (.aload_n 0, 1) := by decide +kernel
theorem d154_33 : decode (am_code 154) 33 = .ok (.iload 5, 2) := by decide +kernel
theorem d154_35 : decode (am_code 154) 35 = .ok (.invokevirtual 192, 3) := by decide +kernel
theorem d154_38 : decode (am_code 154) 38 = .ok (.iload_n 3, 1) := by decide +kernel
theorem d154_39 : decode (am_code 154) 39 = .ok (.iconst (-1), 1) := by decide +kernel
theorem d154_40 : decode (am_code 154) 40 = .ok (.ixor, 1) := by decide +kernel
theorem d154_41 : decode (am_code 154) 41 = .ok (.iand, 1) := by decide +kernel
theorem d154_42 : decode (am_code 154) 42 = .ok (.ifCond .eq 7, 3) := by decide +kernel
theorem d154_45 : decode (am_code 154) 45 = .ok (.iconst 1, 1) := by decide +kernel
theorem d154_46 : decode (am_code 154) 46 = .ok (.goto 4, 3) := by decide +kernel
theorem d154_49 : decode (am_code 154) 49 = .ok (.iconst 0, 1) := by decide +kernel
theorem d154_50 : decode (am_code 154) 50 = .ok (.istore 4, 2) := by decide +kernel
theorem d154_52 : decode (am_code 154) 52 = .ok (.iinc 5 1, 3) := by decide +kernel
theorem d154_55 : decode (am_code 154) 55 = .ok (.goto (-49), 3) := by decide +kernel
theorem d154_58 : decode (am_code 154) 58 = .ok (.iload 4, 2) := by decide +kernel
theorem d154_60 : decode (am_code 154) 60 = .ok (.ireturn, 1) := by decide +kernel
theorem f154_189 : am_find am_ftL (am_mc 154) 189 = some (7, 14) := by decide +kernel
theorem c154_192 : am_find am_ctL (am_mc 154) 192 = some (0, 152) ∧ am_na 152 = 1 ∧ am_fr 152 + 1 ≤ am_fr 154 ∧ 8 + (am_maxL 152 + 11) + am_lo 152 ≤ am_lo 154 := by decide +kernel
theorem l154 : am_maxL 154 = 6 := by decide +kernel
theorem t154 : am_ret 154 = (some .boolean) := by decide +kernel
/-! ThirdSheetsModel.divisor(II)I is 155 -/
theorem d155_0 : decode (am_code 155) 0 = .ok (.iload_n 0, 1) := by decide +kernel
theorem d155_1 : decode (am_code 155) 1 = .ok (.istore_n 2, 1) := by decide +kernel
theorem d155_2 : decode (am_code 155) 2 = .ok (.iload_n 1, 1) := by decide +kernel
theorem d155_3 : decode (am_code 155) 3 = .ok (.istore_n 3, 1) := by decide +kernel
theorem d155_4 : decode (am_code 155) 4 = .ok (.iload_n 3, 1) := by decide +kernel
theorem d155_5 : decode (am_code 155) 5 = .ok (.ifCond .eq 16, 3) := by decide +kernel
theorem d155_8 : decode (am_code 155) 8 = .ok (.iload_n 2, 1) := by decide +kernel
theorem d155_9 : decode (am_code 155) 9 = .ok (.iload_n 3, 1) := by decide +kernel
theorem d155_10 : decode (am_code 155) 10 = .ok (.irem, 1) := by decide +kernel
theorem d155_11 : decode (am_code 155) 11 = .ok (.istore 4, 2) := by decide +kernel
theorem d155_13 : decode (am_code 155) 13 = .ok (.iload_n 3, 1) := by decide +kernel
theorem d155_14 : decode (am_code 155) 14 = .ok (.istore_n 2, 1) := by decide +kernel
theorem d155_15 : decode (am_code 155) 15 = .ok (.iload 4, 2) := by decide +kernel
theorem d155_17 : decode (am_code 155) 17 = .ok (.istore_n 3, 1) := by decide +kernel
theorem d155_18 : decode (am_code 155) 18 = .ok (.goto (-14), 3) := by decide +kernel
theorem d155_21 : decode (am_code 155) 21 = .ok (.iload_n 2, 1) := by decide +kernel
theorem d155_22 : decode (am_code 155) 22 = .ok (.ireturn, 1) := by decide +kernel
theorem l155 : am_maxL 155 = 5 := by decide +kernel
theorem t155 : am_ret 155 = (some .int) := by decide +kernel
/-! ThirdSheetsModel.layRay(IIII)V is 156 -/
theorem d156_0 : decode (am_code 156) 0 = .ok (.iconst 0, 1) := by decide +kernel
theorem d156_1 : decode (am_code 156) 1 = .ok (.istore 5, 2) := by decide +kernel
theorem d156_3 : decode (am_code 156) 3 = .ok (.iconst 0, 1) := by decide +kernel
theorem d156_4 : decode (am_code 156) 4 = .ok (.istore 6, 2) := by decide +kernel
theorem d156_6 : decode (am_code 156) 6 = .ok (.iload 6, 2) := by decide +kernel
theorem d156_8 : decode (am_code 156) 8 = .ok (.bipush 7, 2) := by decide +kernel
theorem d156_10 : decode (am_code 156) 10 = .ok (.aload_n 0, 1) := by decide +kernel
theorem d156_11 : decode (am_code 156) 11 = .ok (.getfield 67, 3) := by decide +kernel
theorem d156_14 : decode (am_code 156) 14 = .ok (.imul, 1) := by decide +kernel
theorem d156_15 : decode (am_code 156) 15 = .ok (.if_icmp .ge 67, 3) := by decide +kernel
theorem d156_18 : decode (am_code 156) 18 = .ok (.iload_n 3, 1) := by decide +kernel
theorem d156_19 : decode (am_code 156) 19 = .ok (.aload_n 0, 1) := by decide +kernel
theorem d156_20 : decode (am_code 156) 20 = .ok (.getfield 42, 3) := by decide +kernel
theorem d156_23 : decode (am_code 156) 23 = .ok (.bipush 21, 2) := by decide +kernel
theorem d156_25 : decode (am_code 156) 25 = .ok (.iload_n 1, 1) := by decide +kernel
theorem d156_26 : decode (am_code 156) 26 = .ok (.imul, 1) := by decide +kernel
theorem d156_27 : decode (am_code 156) 27 = .ok (.iload 6, 2) := by decide +kernel
theorem d156_29 : decode (am_code 156) 29 = .ok (.iadd, 1) := by decide +kernel
theorem d156_30 : decode (am_code 156) 30 = .ok (.iaload, 1) := by decide +kernel
theorem d156_31 : decode (am_code 156) 31 = .ok (.imul, 1) := by decide +kernel
theorem d156_32 : decode (am_code 156) 32 = .ok (.iload 4, 2) := by decide +kernel
theorem d156_34 : decode (am_code 156) 34 = .ok (.aload_n 0, 1) := by decide +kernel
theorem d156_35 : decode (am_code 156) 35 = .ok (.getfield 42, 3) := by decide +kernel
theorem d156_38 : decode (am_code 156) 38 = .ok (.bipush 21, 2) := by decide +kernel
theorem d156_40 : decode (am_code 156) 40 = .ok (.iload_n 2, 1) := by decide +kernel
theorem d156_41 : decode (am_code 156) 41 = .ok (.imul, 1) := by decide +kernel
theorem d156_42 : decode (am_code 156) 42 = .ok (.iload 6, 2) := by decide +kernel
theorem d156_44 : decode (am_code 156) 44 = .ok (.iadd, 1) := by decide +kernel
theorem d156_45 : decode (am_code 156) 45 = .ok (.iaload, 1) := by decide +kernel
theorem d156_46 : decode (am_code 156) 46 = .ok (.imul, 1) := by decide +kernel
theorem d156_47 : decode (am_code 156) 47 = .ok (.iadd, 1) := by decide +kernel
theorem d156_48 : decode (am_code 156) 48 = .ok (.istore 7, 2) := by decide +kernel
theorem d156_50 : decode (am_code 156) 50 = .ok (.aload_n 0, 1) := by decide +kernel
theorem d156_51 : decode (am_code 156) 51 = .ok (.getfield 45, 3) := by decide +kernel
theorem d156_54 : decode (am_code 156) 54 = .ok (.bipush 21, 2) := by decide +kernel
theorem d156_56 : decode (am_code 156) 56 = .ok (.aload_n 0, 1) := by decide +kernel
theorem d156_57 : decode (am_code 156) 57 = .ok (.getfield 195, 3) := by decide +kernel
theorem d156_60 : decode (am_code 156) 60 = .ok (.imul, 1) := by decide +kernel
theorem d156_61 : decode (am_code 156) 61 = .ok (.iload 6, 2) := by decide +kernel
theorem d156_63 : decode (am_code 156) 63 = .ok (.iadd, 1) := by decide +kernel
theorem d156_64 : decode (am_code 156) 64 = .ok (.iload 7, 2) := by decide +kernel
theorem d156_66 : decode (am_code 156) 66 = .ok (.iastore, 1) := by decide +kernel
theorem d156_67 : decode (am_code 156) 67 = .ok (.iload 5, 2) := by decide +kernel
theorem d156_69 : decode (am_code 156) 69 = .ok (.iload 7, 2) := by decide +kernel
theorem d156_71 : decode (am_code 156) 71 = .ok (.invokestatic 198, 3) := by decide +kernel
theorem d156_74 : decode (am_code 156) 74 = .ok (.istore 5, 2) := by decide +kernel
theorem d156_76 : decode (am_code 156) 76 = .ok (.iinc 6 1, 3) := by decide +kernel
theorem d156_79 : decode (am_code 156) 79 = .ok (.goto (-73), 3) := by decide +kernel
theorem d156_82 : decode (am_code 156) 82 = .ok (.iconst 0, 1) := by decide +kernel
theorem d156_83 : decode (am_code 156) 83 = .ok (.istore 6, 2) := by decide +kernel
theorem d156_85 : decode (am_code 156) 85 = .ok (.iload 6, 2) := by decide +kernel
theorem d156_87 : decode (am_code 156) 87 = .ok (.bipush 7, 2) := by decide +kernel
theorem d156_89 : decode (am_code 156) 89 = .ok (.aload_n 0, 1) := by decide +kernel
theorem d156_90 : decode (am_code 156) 90 = .ok (.getfield 67, 3) := by decide +kernel
theorem d156_93 : decode (am_code 156) 93 = .ok (.imul, 1) := by decide +kernel
theorem d156_94 : decode (am_code 156) 94 = .ok (.if_icmp .ge 29, 3) := by decide +kernel
theorem d156_97 : decode (am_code 156) 97 = .ok (.aload_n 0, 1) := by decide +kernel
theorem d156_98 : decode (am_code 156) 98 = .ok (.getfield 45, 3) := by decide +kernel
theorem d156_101 : decode (am_code 156) 101 = .ok (.bipush 21, 2) := by decide +kernel
theorem d156_103 : decode (am_code 156) 103 = .ok (.aload_n 0, 1) := by decide +kernel
theorem d156_104 : decode (am_code 156) 104 = .ok (.getfield 195, 3) := by decide +kernel
theorem d156_107 : decode (am_code 156) 107 = .ok (.imul, 1) := by decide +kernel
theorem d156_108 : decode (am_code 156) 108 = .ok (.iload 6, 2) := by decide +kernel
theorem d156_110 : decode (am_code 156) 110 = .ok (.iadd, 1) := by decide +kernel
theorem d156_111 : decode (am_code 156) 111 = .ok (.dup2, 1) := by decide +kernel
theorem d156_112 : decode (am_code 156) 112 = .ok (.iaload, 1) := by decide +kernel
theorem d156_113 : decode (am_code 156) 113 = .ok (.iload 5, 2) := by decide +kernel
theorem d156_115 : decode (am_code 156) 115 = .ok (.idiv, 1) := by decide +kernel
theorem d156_116 : decode (am_code 156) 116 = .ok (.iastore, 1) := by decide +kernel
theorem d156_117 : decode (am_code 156) 117 = .ok (.iinc 6 1, 3) := by decide +kernel
theorem d156_120 : decode (am_code 156) 120 = .ok (.goto (-35), 3) := by decide +kernel
theorem d156_123 : decode (am_code 156) 123 = .ok (.aload_n 0, 1) := by decide +kernel
theorem d156_124 : decode (am_code 156) 124 = .ok (.dup, 1) := by decide +kernel
theorem d156_125 : decode (am_code 156) 125 = .ok (.getfield 195, 3) := by decide +kernel
theorem d156_128 : decode (am_code 156) 128 = .ok (.iconst 1, 1) := by decide +kernel
theorem d156_129 : decode (am_code 156) 129 = .ok (.iadd, 1) := by decide +kernel
theorem d156_130 : decode (am_code 156) 130 = .ok (.putfield 195, 3) := by decide +kernel
theorem d156_133 : decode (am_code 156) 133 = .ok (.return_, 1) := by decide +kernel
theorem f156_67 : am_find am_ftL (am_mc 156) 67 = some (7, 0) := by decide +kernel
theorem f156_42 : am_find am_ftL (am_mc 156) 42 = some (7, 15) := by decide +kernel
theorem f156_45 : am_find am_ftL (am_mc 156) 45 = some (7, 16) := by decide +kernel
theorem f156_195 : am_find am_ftL (am_mc 156) 195 = some (7, 18) := by decide +kernel
theorem c156_198 : am_find am_ctL (am_mc 156) 198 = some (1, 155) ∧ am_na 155 = 2 ∧ am_fr 155 + 1 ≤ am_fr 156 ∧ 8 + (am_maxL 155 + 11) + am_lo 155 ≤ am_lo 156 := by decide +kernel
theorem l156 : am_maxL 156 = 8 := by decide +kernel
theorem t156 : am_ret 156 = none := by decide +kernel
/-! ThirdSheetsModel.meet()V is 157 -/
theorem d157_0 : decode (am_code 157) 0 = .ok (.aload_n 0, 1) := by decide +kernel
theorem d157_1 : decode (am_code 157) 1 = .ok (.iconst 0, 1) := by decide +kernel
theorem d157_2 : decode (am_code 157) 2 = .ok (.putfield 195, 3) := by decide +kernel
theorem d157_5 : decode (am_code 157) 5 = .ok (.iconst 0, 1) := by decide +kernel
theorem d157_6 : decode (am_code 157) 6 = .ok (.istore_n 1, 1) := by decide +kernel
theorem d157_7 : decode (am_code 157) 7 = .ok (.iload_n 1, 1) := by decide +kernel
theorem d157_8 : decode (am_code 157) 8 = .ok (.aload_n 0, 1) := by decide +kernel
theorem d157_9 : decode (am_code 157) 9 = .ok (.getfield 189, 3) := by decide +kernel
theorem d157_12 : decode (am_code 157) 12 = .ok (.if_icmp .ge 102, 3) := by decide +kernel
theorem d157_15 : decode (am_code 157) 15 = .ok (.aload_n 0, 1) := by decide +kernel
theorem d157_16 : decode (am_code 157) 16 = .ok (.iload_n 1, 1) := by decide +kernel
theorem d157_17 : decode (am_code 157) 17 = .ok (.invokevirtual 201, 3) := by decide +kernel
theorem d157_20 : decode (am_code 157) 20 = .ok (.istore_n 2, 1) := by decide +kernel
theorem d157_21 : decode (am_code 157) 21 = .ok (.iload_n 2, 1) := by decide +kernel
theorem d157_22 : decode (am_code 157) 22 = .ok (.ifCond .ne 11, 3) := by decide +kernel
theorem d157_25 : decode (am_code 157) 25 = .ok (.aload_n 0, 1) := by decide +kernel
theorem d157_26 : decode (am_code 157) 26 = .ok (.iload_n 1, 1) := by decide +kernel
theorem d157_27 : decode (am_code 157) 27 = .ok (.iload_n 1, 1) := by decide +kernel
theorem d157_28 : decode (am_code 157) 28 = .ok (.iconst 1, 1) := by decide +kernel
theorem d157_29 : decode (am_code 157) 29 = .ok (.iconst 0, 1) := by decide +kernel
theorem d157_30 : decode (am_code 157) 30 = .ok (.invokevirtual 204, 3) := by decide +kernel
theorem d157_33 : decode (am_code 157) 33 = .ok (.iconst 0, 1) := by decide +kernel
theorem d157_34 : decode (am_code 157) 34 = .ok (.istore_n 3, 1) := by decide +kernel
theorem d157_35 : decode (am_code 157) 35 = .ok (.iload_n 3, 1) := by decide +kernel
theorem d157_36 : decode (am_code 157) 36 = .ok (.aload_n 0, 1) := by decide +kernel
theorem d157_37 : decode (am_code 157) 37 = .ok (.getfield 189, 3) := by decide +kernel
theorem d157_40 : decode (am_code 157) 40 = .ok (.if_icmp .ge 68, 3) := by decide +kernel
theorem d157_43 : decode (am_code 157) 43 = .ok (.iload_n 2, 1) := by decide +kernel
theorem d157_44 : decode (am_code 157) 44 = .ok (.ifCond .le 64, 3) := by decide +kernel
theorem d157_47 : decode (am_code 157) 47 = .ok (.aload_n 0, 1) := by decide +kernel
theorem d157_48 : decode (am_code 157) 48 = .ok (.iload_n 3, 1) := by decide +kernel
theorem d157_49 : decode (am_code 157) 49 = .ok (.invokevirtual 201, 3) := by decide +kernel
theorem d157_52 : decode (am_code 157) 52 = .ok (.istore 4, 2) := by decide +kernel
theorem d157_54 : decode (am_code 157) 54 = .ok (.aload_n 0, 1) := by decide +kernel
theorem d157_55 : decode (am_code 157) 55 = .ok (.iload_n 1, 1) := by decide +kernel
theorem d157_56 : decode (am_code 157) 56 = .ok (.invokevirtual 192, 3) := by decide +kernel
theorem d157_59 : decode (am_code 157) 59 = .ok (.aload_n 0, 1) := by decide +kernel
theorem d157_60 : decode (am_code 157) 60 = .ok (.iload_n 3, 1) := by decide +kernel
theorem d157_61 : decode (am_code 157) 61 = .ok (.invokevirtual 192, 3) := by decide +kernel
theorem d157_64 : decode (am_code 157) 64 = .ok (.ior, 1) := by decide +kernel
theorem d157_65 : decode (am_code 157) 65 = .ok (.istore 5, 2) := by decide +kernel
theorem d157_67 : decode (am_code 157) 67 = .ok (.iload 4, 2) := by decide +kernel
theorem d157_69 : decode (am_code 157) 69 = .ok (.ifCond .ge 33, 3) := by decide +kernel
theorem d157_72 : decode (am_code 157) 72 = .ok (.aload_n 0, 1) := by decide +kernel
theorem d157_73 : decode (am_code 157) 73 = .ok (.iload 5, 2) := by decide +kernel
theorem d157_75 : decode (am_code 157) 75 = .ok (.invokevirtual 208, 3) := by decide +kernel
theorem d157_78 : decode (am_code 157) 78 = .ok (.ifCond .eq 24, 3) := by decide +kernel
theorem d157_81 : decode (am_code 157) 81 = .ok (.aload_n 0, 1) := by decide +kernel
theorem d157_82 : decode (am_code 157) 82 = .ok (.iload_n 1, 1) := by decide +kernel
theorem d157_83 : decode (am_code 157) 83 = .ok (.iload_n 3, 1) := by decide +kernel
theorem d157_84 : decode (am_code 157) 84 = .ok (.iload 5, 2) := by decide +kernel
theorem d157_86 : decode (am_code 157) 86 = .ok (.invokevirtual 211, 3) := by decide +kernel
theorem d157_89 : decode (am_code 157) 89 = .ok (.ifCond .eq 13, 3) := by decide +kernel
theorem d157_92 : decode (am_code 157) 92 = .ok (.aload_n 0, 1) := by decide +kernel
theorem d157_93 : decode (am_code 157) 93 = .ok (.iload_n 1, 1) := by decide +kernel
theorem d157_94 : decode (am_code 157) 94 = .ok (.iload_n 3, 1) := by decide +kernel
theorem d157_95 : decode (am_code 157) 95 = .ok (.iload 4, 2) := by decide +kernel
theorem d157_97 : decode (am_code 157) 97 = .ok (.ineg, 1) := by decide +kernel
theorem d157_98 : decode (am_code 157) 98 = .ok (.iload_n 2, 1) := by decide +kernel
theorem d157_99 : decode (am_code 157) 99 = .ok (.invokevirtual 204, 3) := by decide +kernel
theorem d157_102 : decode (am_code 157) 102 = .ok (.iinc 3 1, 3) := by decide +kernel
theorem d157_105 : decode (am_code 157) 105 = .ok (.goto (-70), 3) := by decide +kernel
theorem d157_108 : decode (am_code 157) 108 = .ok (.iinc 1 1, 3) := by decide +kernel
theorem d157_111 : decode (am_code 157) 111 = .ok (.goto (-104), 3) := by decide +kernel
theorem d157_114 : decode (am_code 157) 114 = .ok (.aload_n 0, 1) := by decide +kernel
theorem d157_115 : decode (am_code 157) 115 = .ok (.aload_n 0, 1) := by decide +kernel
theorem d157_116 : decode (am_code 157) 116 = .ok (.getfield 195, 3) := by decide +kernel
theorem d157_119 : decode (am_code 157) 119 = .ok (.putfield 189, 3) := by decide +kernel
theorem d157_122 : decode (am_code 157) 122 = .ok (.iconst 0, 1) := by decide +kernel
theorem d157_123 : decode (am_code 157) 123 = .ok (.istore_n 1, 1) := by decide +kernel
theorem d157_124 : decode (am_code 157) 124 = .ok (.iload_n 1, 1) := by decide +kernel
theorem d157_125 : decode (am_code 157) 125 = .ok (.bipush 21, 2) := by decide +kernel
theorem d157_127 : decode (am_code 157) 127 = .ok (.aload_n 0, 1) := by decide +kernel
theorem d157_128 : decode (am_code 157) 128 = .ok (.getfield 189, 3) := by decide +kernel
theorem d157_131 : decode (am_code 157) 131 = .ok (.imul, 1) := by decide +kernel
theorem d157_132 : decode (am_code 157) 132 = .ok (.if_icmp .ge 21, 3) := by decide +kernel
theorem d157_135 : decode (am_code 157) 135 = .ok (.aload_n 0, 1) := by decide +kernel
theorem d157_136 : decode (am_code 157) 136 = .ok (.getfield 42, 3) := by decide +kernel
theorem d157_139 : decode (am_code 157) 139 = .ok (.iload_n 1, 1) := by decide +kernel
theorem d157_140 : decode (am_code 157) 140 = .ok (.aload_n 0, 1) := by decide +kernel
theorem d157_141 : decode (am_code 157) 141 = .ok (.getfield 45, 3) := by decide +kernel
theorem d157_144 : decode (am_code 157) 144 = .ok (.iload_n 1, 1) := by decide +kernel
theorem d157_145 : decode (am_code 157) 145 = .ok (.iaload, 1) := by decide +kernel
theorem d157_146 : decode (am_code 157) 146 = .ok (.iastore, 1) := by decide +kernel
theorem d157_147 : decode (am_code 157) 147 = .ok (.iinc 1 1, 3) := by decide +kernel
theorem d157_150 : decode (am_code 157) 150 = .ok (.goto (-26), 3) := by decide +kernel
theorem d157_153 : decode (am_code 157) 153 = .ok (.return_, 1) := by decide +kernel
theorem f157_195 : am_find am_ftL (am_mc 157) 195 = some (7, 18) := by decide +kernel
theorem f157_189 : am_find am_ftL (am_mc 157) 189 = some (7, 14) := by decide +kernel
theorem f157_42 : am_find am_ftL (am_mc 157) 42 = some (7, 15) := by decide +kernel
theorem f157_45 : am_find am_ftL (am_mc 157) 45 = some (7, 16) := by decide +kernel
theorem c157_201 : am_find am_ctL (am_mc 157) 201 = some (0, 151) ∧ am_na 151 = 1 ∧ am_fr 151 + 1 ≤ am_fr 157 ∧ 8 + (am_maxL 151 + 11) + am_lo 151 ≤ am_lo 157 := by decide +kernel
theorem c157_204 : am_find am_ctL (am_mc 157) 204 = some (0, 156) ∧ am_na 156 = 4 ∧ am_fr 156 + 1 ≤ am_fr 157 ∧ 8 + (am_maxL 156 + 11) + am_lo 156 ≤ am_lo 157 := by decide +kernel
theorem c157_192 : am_find am_ctL (am_mc 157) 192 = some (0, 152) ∧ am_na 152 = 1 ∧ am_fr 152 + 1 ≤ am_fr 157 ∧ 8 + (am_maxL 152 + 11) + am_lo 152 ≤ am_lo 157 := by decide +kernel
theorem c157_208 : am_find am_ctL (am_mc 157) 208 = some (0, 153) ∧ am_na 153 = 1 ∧ am_fr 153 + 1 ≤ am_fr 157 ∧ 8 + (am_maxL 153 + 11) + am_lo 153 ≤ am_lo 157 := by decide +kernel
theorem c157_211 : am_find am_ctL (am_mc 157) 211 = some (0, 154) ∧ am_na 154 = 3 ∧ am_fr 154 + 1 ≤ am_fr 157 ∧ 8 + (am_maxL 154 + 11) + am_lo 154 ≤ am_lo 157 := by decide +kernel
theorem l157 : am_maxL 157 = 6 := by decide +kernel
theorem t157 : am_ret 157 = none := by decide +kernel
/-! ThirdSheetsModel.isBefore(II)Z is 158 -/
theorem d158_0 : decode (am_code 158) 0 = .ok (.iconst 0, 1) := by decide +kernel
theorem d158_1 : decode (am_code 158) 1 = .ok (.istore_n 3, 1) := by decide +kernel
theorem d158_2 : decode (am_code 158) 2 = .ok (.iload_n 3, 1) := by decide +kernel
theorem d158_3 : decode (am_code 158) 3 = .ok (.bipush 7, 2) := by decide +kernel
theorem d158_5 : decode (am_code 158) 5 = .ok (.aload_n 0, 1) := by decide +kernel
theorem d158_6 : decode (am_code 158) 6 = .ok (.getfield 67, 3) := by decide +kernel
theorem d158_9 : decode (am_code 158) 9 = .ok (.imul, 1) := by decide +kernel
theorem d158_10 : decode (am_code 158) 10 = .ok (.iconst 1, 1) := by decide +kernel
theorem d158_11 : decode (am_code 158) 11 = .ok (.isub, 1) := by decide +kernel
theorem d158_12 : decode (am_code 158) 12 = .ok (.if_icmp .ge 34, 3) := by decide +kernel
theorem d158_15 : decode (am_code 158) 15 = .ok (.aload_n 0, 1) := by decide +kernel
theorem d158_16 : decode (am_code 158) 16 = .ok (.getfield 42, 3) := by decide +kernel
theorem d158_19 : decode (am_code 158) 19 = .ok (.bipush 21, 2) := by decide +kernel
theorem d158_21 : decode (am_code 158) 21 = .ok (.iload_n 1, 1) := by decide +kernel
theorem d158_22 : decode (am_code 158) 22 = .ok (.imul, 1) := by decide +kernel
theorem d158_23 : decode (am_code 158) 23 = .ok (.iload_n 3, 1) := by decide +kernel
theorem d158_24 : decode (am_code 158) 24 = .ok (.iadd, 1) := by decide +kernel
theorem d158_25 : decode (am_code 158) 25 = .ok (.iaload, 1) := by decide +kernel
theorem d158_26 : decode (am_code 158) 26 = .ok (.aload_n 0, 1) := by decide +kernel
theorem d158_27 : decode (am_code 158) 27 = .ok (.getfield 42, 3) := by decide +kernel
theorem d158_30 : decode (am_code 158) 30 = .ok (.bipush 21, 2) := by decide +kernel
theorem d158_32 : decode (am_code 158) 32 = .ok (.iload_n 2, 1) := by decide +kernel
theorem d158_33 : decode (am_code 158) 33 = .ok (.imul, 1) := by decide +kernel
theorem d158_34 : decode (am_code 158) 34 = .ok (.iload_n 3, 1) := by decide +kernel
theorem d158_35 : decode (am_code 158) 35 = .ok (.iadd, 1) := by decide +kernel
theorem d158_36 : decode (am_code 158) 36 = .ok (.iaload, 1) := by decide +kernel
theorem d158_37 : decode (am_code 158) 37 = .ok (.if_icmp .ne 9, 3) := by decide +kernel
theorem d158_40 : decode (am_code 158) 40 = .ok (.iinc 3 1, 3) := by decide +kernel
theorem d158_43 : decode (am_code 158) 43 = .ok (.goto (-41), 3) := by decide +kernel
theorem d158_46 : decode (am_code 158) 46 = .ok (.aload_n 0, 1) := by decide +kernel
theorem d158_47 : decode (am_code 158) 47 = .ok (.getfield 42, 3) := by decide +kernel
theorem d158_50 : decode (am_code 158) 50 = .ok (.bipush 21, 2) := by decide +kernel
theorem d158_52 : decode (am_code 158) 52 = .ok (.iload_n 1, 1) := by decide +kernel
theorem d158_53 : decode (am_code 158) 53 = .ok (.imul, 1) := by decide +kernel
theorem d158_54 : decode (am_code 158) 54 = .ok (.iload_n 3, 1) := by decide +kernel
theorem d158_55 : decode (am_code 158) 55 = .ok (.iadd, 1) := by decide +kernel
theorem d158_56 : decode (am_code 158) 56 = .ok (.iaload, 1) := by decide +kernel
theorem d158_57 : decode (am_code 158) 57 = .ok (.aload_n 0, 1) := by decide +kernel
theorem d158_58 : decode (am_code 158) 58 = .ok (.getfield 42, 3) := by decide +kernel
theorem d158_61 : decode (am_code 158) 61 = .ok (.bipush 21, 2) := by decide +kernel
theorem d158_63 : decode (am_code 158) 63 = .ok (.iload_n 2, 1) := by decide +kernel
theorem d158_64 : decode (am_code 158) 64 = .ok (.imul, 1) := by decide +kernel
theorem d158_65 : decode (am_code 158) 65 = .ok (.iload_n 3, 1) := by decide +kernel
theorem d158_66 : decode (am_code 158) 66 = .ok (.iadd, 1) := by decide +kernel
theorem d158_67 : decode (am_code 158) 67 = .ok (.iaload, 1) := by decide +kernel
theorem d158_68 : decode (am_code 158) 68 = .ok (.if_icmp .ge 7, 3) := by decide +kernel
theorem d158_71 : decode (am_code 158) 71 = .ok (.iconst 1, 1) := by decide +kernel
theorem d158_72 : decode (am_code 158) 72 = .ok (.goto 4, 3) := by decide +kernel
theorem d158_75 : decode (am_code 158) 75 = .ok (.iconst 0, 1) := by decide +kernel
theorem d158_76 : decode (am_code 158) 76 = .ok (.ireturn, 1) := by decide +kernel
theorem f158_67 : am_find am_ftL (am_mc 158) 67 = some (7, 0) := by decide +kernel
theorem f158_42 : am_find am_ftL (am_mc 158) 42 = some (7, 15) := by decide +kernel
theorem l158 : am_maxL 158 = 4 := by decide +kernel
theorem t158 : am_ret 158 = (some .boolean) := by decide +kernel
/-! ThirdSheetsModel.swap(II)V is 159 -/
theorem d159_0 : decode (am_code 159) 0 = .ok (.iconst 0, 1) := by decide +kernel
theorem d159_1 : decode (am_code 159) 1 = .ok (.istore_n 3, 1) := by decide +kernel
theorem d159_2 : decode (am_code 159) 2 = .ok (.iload_n 3, 1) := by decide +kernel
theorem d159_3 : decode (am_code 159) 3 = .ok (.bipush 7, 2) := by decide +kernel
theorem d159_5 : decode (am_code 159) 5 = .ok (.aload_n 0, 1) := by decide +kernel
theorem d159_6 : decode (am_code 159) 6 = .ok (.getfield 67, 3) := by decide +kernel
theorem d159_9 : decode (am_code 159) 9 = .ok (.imul, 1) := by decide +kernel
theorem d159_10 : decode (am_code 159) 10 = .ok (.if_icmp .ge 57, 3) := by decide +kernel
theorem d159_13 : decode (am_code 159) 13 = .ok (.aload_n 0, 1) := by decide +kernel
theorem d159_14 : decode (am_code 159) 14 = .ok (.getfield 42, 3) := by decide +kernel
theorem d159_17 : decode (am_code 159) 17 = .ok (.bipush 21, 2) := by decide +kernel
theorem d159_19 : decode (am_code 159) 19 = .ok (.iload_n 1, 1) := by decide +kernel
theorem d159_20 : decode (am_code 159) 20 = .ok (.imul, 1) := by decide +kernel
theorem d159_21 : decode (am_code 159) 21 = .ok (.iload_n 3, 1) := by decide +kernel
theorem d159_22 : decode (am_code 159) 22 = .ok (.iadd, 1) := by decide +kernel
theorem d159_23 : decode (am_code 159) 23 = .ok (.iaload, 1) := by decide +kernel
theorem d159_24 : decode (am_code 159) 24 = .ok (.istore 4, 2) := by decide +kernel
theorem d159_26 : decode (am_code 159) 26 = .ok (.aload_n 0, 1) := by decide +kernel
theorem d159_27 : decode (am_code 159) 27 = .ok (.getfield 42, 3) := by decide +kernel
theorem d159_30 : decode (am_code 159) 30 = .ok (.bipush 21, 2) := by decide +kernel
theorem d159_32 : decode (am_code 159) 32 = .ok (.iload_n 1, 1) := by decide +kernel
theorem d159_33 : decode (am_code 159) 33 = .ok (.imul, 1) := by decide +kernel
theorem d159_34 : decode (am_code 159) 34 = .ok (.iload_n 3, 1) := by decide +kernel
theorem d159_35 : decode (am_code 159) 35 = .ok (.iadd, 1) := by decide +kernel
theorem d159_36 : decode (am_code 159) 36 = .ok (.aload_n 0, 1) := by decide +kernel
theorem d159_37 : decode (am_code 159) 37 = .ok (.getfield 42, 3) := by decide +kernel
theorem d159_40 : decode (am_code 159) 40 = .ok (.bipush 21, 2) := by decide +kernel
theorem d159_42 : decode (am_code 159) 42 = .ok (.iload_n 2, 1) := by decide +kernel
theorem d159_43 : decode (am_code 159) 43 = .ok (.imul, 1) := by decide +kernel
theorem d159_44 : decode (am_code 159) 44 = .ok (.iload_n 3, 1) := by decide +kernel
theorem d159_45 : decode (am_code 159) 45 = .ok (.iadd, 1) := by decide +kernel
theorem d159_46 : decode (am_code 159) 46 = .ok (.iaload, 1) := by decide +kernel
theorem d159_47 : decode (am_code 159) 47 = .ok (.iastore, 1) := by decide +kernel
theorem d159_48 : decode (am_code 159) 48 = .ok (.aload_n 0, 1) := by decide +kernel
theorem d159_49 : decode (am_code 159) 49 = .ok (.getfield 42, 3) := by decide +kernel
theorem d159_52 : decode (am_code 159) 52 = .ok (.bipush 21, 2) := by decide +kernel
theorem d159_54 : decode (am_code 159) 54 = .ok (.iload_n 2, 1) := by decide +kernel
theorem d159_55 : decode (am_code 159) 55 = .ok (.imul, 1) := by decide +kernel
theorem d159_56 : decode (am_code 159) 56 = .ok (.iload_n 3, 1) := by decide +kernel
theorem d159_57 : decode (am_code 159) 57 = .ok (.iadd, 1) := by decide +kernel
theorem d159_58 : decode (am_code 159) 58 = .ok (.iload 4, 2) := by decide +kernel
theorem d159_60 : decode (am_code 159) 60 = .ok (.iastore, 1) := by decide +kernel
theorem d159_61 : decode (am_code 159) 61 = .ok (.iinc 3 1, 3) := by decide +kernel
theorem d159_64 : decode (am_code 159) 64 = .ok (.goto (-62), 3) := by decide +kernel
theorem d159_67 : decode (am_code 159) 67 = .ok (.return_, 1) := by decide +kernel
theorem f159_67 : am_find am_ftL (am_mc 159) 67 = some (7, 0) := by decide +kernel
theorem f159_42 : am_find am_ftL (am_mc 159) 42 = some (7, 15) := by decide +kernel
theorem l159 : am_maxL 159 = 5 := by decide +kernel
theorem t159 : am_ret 159 = none := by decide +kernel
/-! ThirdSheetsModel.findLeast()V is 160 -/
theorem d160_0 : decode (am_code 160) 0 = .ok (.aload_n 0, 1) := by decide +kernel
theorem d160_1 : decode (am_code 160) 1 = .ok (.bipush 7, 2) := by decide +kernel
theorem d160_3 : decode (am_code 160) 3 = .ok (.aload_n 0, 1) := by decide +kernel
theorem d160_4 : decode (am_code 160) 4 = .ok (.getfield 67, 3) := by decide +kernel
theorem d160_7 : decode (am_code 160) 7 = .ok (.imul, 1) := by decide +kernel
theorem d160_8 : decode (am_code 160) 8 = .ok (.putfield 189, 3) := by decide +kernel
theorem d160_11 : decode (am_code 160) 11 = .ok (.iconst 0, 1) := by decide +kernel
theorem d160_12 : decode (am_code 160) 12 = .ok (.istore_n 1, 1) := by decide +kernel
theorem d160_13 : decode (am_code 160) 13 = .ok (.iload_n 1, 1) := by decide +kernel
theorem d160_14 : decode (am_code 160) 14 = .ok (.aload_n 0, 1) := by decide +kernel
theorem d160_15 : decode (am_code 160) 15 = .ok (.getfield 189, 3) := by decide +kernel
theorem d160_18 : decode (am_code 160) 18 = .ok (.if_icmp .ge 44, 3) := by decide +kernel
theorem d160_21 : decode (am_code 160) 21 = .ok (.iconst 0, 1) := by decide +kernel
theorem d160_22 : decode (am_code 160) 22 = .ok (.istore_n 2, 1) := by decide +kernel
theorem d160_23 : decode (am_code 160) 23 = .ok (.iload_n 2, 1) := by decide +kernel
theorem d160_24 : decode (am_code 160) 24 = .ok (.bipush 21, 2) := by decide +kernel
theorem d160_26 : decode (am_code 160) 26 = .ok (.if_icmp .ge 30, 3) := by decide +kernel
theorem d160_29 : decode (am_code 160) 29 = .ok (.aload_n 0, 1) := by decide +kernel
theorem d160_30 : decode (am_code 160) 30 = .ok (.getfield 42, 3) := by decide +kernel
theorem d160_33 : decode (am_code 160) 33 = .ok (.bipush 21, 2) := by decide +kernel
theorem d160_35 : decode (am_code 160) 35 = .ok (.iload_n 1, 1) := by decide +kernel
theorem d160_36 : decode (am_code 160) 36 = .ok (.imul, 1) := by decide +kernel
theorem d160_37 : decode (am_code 160) 37 = .ok (.iload_n 2, 1) := by decide +kernel
theorem d160_38 : decode (am_code 160) 38 = .ok (.iadd, 1) := by decide +kernel
theorem d160_39 : decode (am_code 160) 39 = .ok (.iload_n 2, 1) := by decide +kernel
theorem d160_40 : decode (am_code 160) 40 = .ok (.iload_n 1, 1) := by decide +kernel
theorem d160_41 : decode (am_code 160) 41 = .ok (.if_icmp .ne 7, 3) := by decide +kernel
theorem d160_44 : decode (am_code 160) 44 = .ok (.iconst 1, 1) := by decide +kernel
theorem d160_45 : decode (am_code 160) 45 = .ok (.goto 4, 3) := by decide +kernel
theorem d160_48 : decode (am_code 160) 48 = .ok (.iconst 0, 1) := by decide +kernel
theorem d160_49 : decode (am_code 160) 49 = .ok (.iastore, 1) := by decide +kernel
theorem d160_50 : decode (am_code 160) 50 = .ok (.iinc 2 1, 3) := by decide +kernel
theorem d160_53 : decode (am_code 160) 53 = .ok (.goto (-30), 3) := by decide +kernel
theorem d160_56 : decode (am_code 160) 56 = .ok (.iinc 1 1, 3) := by decide +kernel
theorem d160_59 : decode (am_code 160) 59 = .ok (.goto (-46), 3) := by decide +kernel
theorem d160_62 : decode (am_code 160) 62 = .ok (.iconst 0, 1) := by decide +kernel
theorem d160_63 : decode (am_code 160) 63 = .ok (.istore_n 1, 1) := by decide +kernel
theorem d160_64 : decode (am_code 160) 64 = .ok (.iload_n 1, 1) := by decide +kernel
theorem d160_65 : decode (am_code 160) 65 = .ok (.iconst 4, 1) := by decide +kernel
theorem d160_66 : decode (am_code 160) 66 = .ok (.aload_n 0, 1) := by decide +kernel
theorem d160_67 : decode (am_code 160) 67 = .ok (.getfield 67, 3) := by decide +kernel
theorem d160_70 : decode (am_code 160) 70 = .ok (.imul, 1) := by decide +kernel
theorem d160_71 : decode (am_code 160) 71 = .ok (.if_icmp .ge 59, 3) := by decide +kernel
theorem d160_74 : decode (am_code 160) 74 = .ok (.iconst 0, 1) := by decide +kernel
theorem d160_75 : decode (am_code 160) 75 = .ok (.istore_n 2, 1) := by decide +kernel
theorem d160_76 : decode (am_code 160) 76 = .ok (.iload_n 2, 1) := by decide +kernel
theorem d160_77 : decode (am_code 160) 77 = .ok (.iconst 4, 1) := by decide +kernel
theorem d160_78 : decode (am_code 160) 78 = .ok (.if_icmp .ge 46, 3) := by decide +kernel
theorem d160_81 : decode (am_code 160) 81 = .ok (.aload_n 0, 1) := by decide +kernel
theorem d160_82 : decode (am_code 160) 82 = .ok (.getfield 7, 3) := by decide +kernel
theorem d160_85 : decode (am_code 160) 85 = .ok (.iload_n 1, 1) := by decide +kernel
theorem d160_86 : decode (am_code 160) 86 = .ok (.iaload, 1) := by decide +kernel
theorem d160_87 : decode (am_code 160) 87 = .ok (.iconst (-1), 1) := by decide +kernel
theorem d160_88 : decode (am_code 160) 88 = .ok (.if_icmp .eq 36, 3) := by decide +kernel
theorem d160_91 : decode (am_code 160) 91 = .ok (.iload_n 1, 1) := by decide +kernel
theorem d160_92 : decode (am_code 160) 92 = .ok (.aload_n 0, 1) := by decide +kernel
theorem d160_93 : decode (am_code 160) 93 = .ok (.getfield 7, 3) := by decide +kernel
theorem d160_96 : decode (am_code 160) 96 = .ok (.iload_n 1, 1) := by decide +kernel
theorem d160_97 : decode (am_code 160) 97 = .ok (.iaload, 1) := by decide +kernel
theorem d160_98 : decode (am_code 160) 98 = .ok (.if_icmp .ge 26, 3) := by decide +kernel
theorem d160_101 : decode (am_code 160) 101 = .ok (.iload_n 2, 1) := by decide +kernel
theorem d160_102 : decode (am_code 160) 102 = .ok (.iload_n 1, 1) := by decide +kernel
theorem d160_103 : decode (am_code 160) 103 = .ok (.iconst 4, 1) := by decide +kernel
theorem d160_104 : decode (am_code 160) 104 = .ok (.irem, 1) := by decide +kernel
theorem d160_105 : decode (am_code 160) 105 = .ok (.if_icmp .eq 13, 3) := by decide +kernel
theorem d160_108 : decode (am_code 160) 108 = .ok (.aload_n 0, 1) := by decide +kernel
theorem d160_109 : decode (am_code 160) 109 = .ok (.iload_n 1, 1) := by decide +kernel
theorem d160_110 : decode (am_code 160) 110 = .ok (.iload_n 2, 1) := by decide +kernel
theorem d160_111 : decode (am_code 160) 111 = .ok (.invokevirtual 214, 3) := by decide +kernel
theorem d160_114 : decode (am_code 160) 114 = .ok (.aload_n 0, 1) := by decide +kernel
theorem d160_115 : decode (am_code 160) 115 = .ok (.invokevirtual 218, 3) := by decide +kernel
theorem d160_118 : decode (am_code 160) 118 = .ok (.iinc 2 1, 3) := by decide +kernel
theorem d160_121 : decode (am_code 160) 121 = .ok (.goto (-45), 3) := by decide +kernel
theorem d160_124 : decode (am_code 160) 124 = .ok (.iinc 1 1, 3) := by decide +kernel
theorem d160_127 : decode (am_code 160) 127 = .ok (.goto (-63), 3) := by decide +kernel
theorem d160_130 : decode (am_code 160) 130 = .ok (.iconst 1, 1) := by decide +kernel
theorem d160_131 : decode (am_code 160) 131 = .ok (.istore_n 1, 1) := by decide +kernel
theorem d160_132 : decode (am_code 160) 132 = .ok (.iload_n 1, 1) := by decide +kernel
theorem d160_133 : decode (am_code 160) 133 = .ok (.aload_n 0, 1) := by decide +kernel
theorem d160_134 : decode (am_code 160) 134 = .ok (.getfield 189, 3) := by decide +kernel
theorem d160_137 : decode (am_code 160) 137 = .ok (.if_icmp .ge 40, 3) := by decide +kernel
theorem d160_140 : decode (am_code 160) 140 = .ok (.iload_n 1, 1) := by decide +kernel
theorem d160_141 : decode (am_code 160) 141 = .ok (.istore_n 2, 1) := by decide +kernel
theorem d160_142 : decode (am_code 160) 142 = .ok (.iload_n 2, 1) := by decide +kernel
theorem d160_143 : decode (am_code 160) 143 = .ok (.ifCond .le 28, 3) := by decide +kernel
theorem d160_146 : decode (am_code 160) 146 = .ok (.aload_n 0, 1) := by decide +kernel
theorem d160_147 : decode (am_code 160) 147 = .ok (.iload_n 2, 1) := by decide +kernel
theorem d160_148 : decode (am_code 160) 148 = .ok (.iload_n 2, 1) := by decide +kernel
theorem d160_149 : decode (am_code 160) 149 = .ok (.iconst 1, 1) := by decide +kernel
theorem d160_150 : decode (am_code 160) 150 = .ok (.isub, 1) := by decide +kernel
theorem d160_151 : decode (am_code 160) 151 = .ok (.invokevirtual 221, 3) := by decide +kernel
theorem d160_154 : decode (am_code 160) 154 = .ok (.ifCond .eq 17, 3) := by decide +kernel
theorem d160_157 : decode (am_code 160) 157 = .ok (.aload_n 0, 1) := by decide +kernel
theorem d160_158 : decode (am_code 160) 158 = .ok (.iload_n 2, 1) := by decide +kernel
theorem d160_159 : decode (am_code 160) 159 = .ok (.iload_n 2, 1) := by decide +kernel
theorem d160_160 : decode (am_code 160) 160 = .ok (.iconst 1, 1) := by decide +kernel
theorem d160_161 : decode (am_code 160) 161 = .ok (.isub, 1) := by decide +kernel
theorem d160_162 : decode (am_code 160) 162 = .ok (.invokevirtual 224, 3) := by decide +kernel
theorem d160_165 : decode (am_code 160) 165 = .ok (.iinc 2 (-1), 3) := by decide +kernel
theorem d160_168 : decode (am_code 160) 168 = .ok (.goto (-26), 3) := by decide +kernel
theorem d160_171 : decode (am_code 160) 171 = .ok (.iinc 1 1, 3) := by decide +kernel
theorem d160_174 : decode (am_code 160) 174 = .ok (.goto (-42), 3) := by decide +kernel
theorem d160_177 : decode (am_code 160) 177 = .ok (.return_, 1) := by decide +kernel
theorem f160_67 : am_find am_ftL (am_mc 160) 67 = some (7, 0) := by decide +kernel
theorem f160_189 : am_find am_ftL (am_mc 160) 189 = some (7, 14) := by decide +kernel
theorem f160_42 : am_find am_ftL (am_mc 160) 42 = some (7, 15) := by decide +kernel
theorem f160_7 : am_find am_ftL (am_mc 160) 7 = some (7, 1) := by decide +kernel
theorem c160_214 : am_find am_ctL (am_mc 160) 214 = some (0, 150) ∧ am_na 150 = 2 ∧ am_fr 150 + 1 ≤ am_fr 160 ∧ 8 + (am_maxL 150 + 11) + am_lo 150 ≤ am_lo 160 := by decide +kernel
theorem c160_218 : am_find am_ctL (am_mc 160) 218 = some (0, 157) ∧ am_na 157 = 0 ∧ am_fr 157 + 1 ≤ am_fr 160 ∧ 8 + (am_maxL 157 + 11) + am_lo 157 ≤ am_lo 160 := by decide +kernel
theorem c160_221 : am_find am_ctL (am_mc 160) 221 = some (0, 158) ∧ am_na 158 = 2 ∧ am_fr 158 + 1 ≤ am_fr 160 ∧ 8 + (am_maxL 158 + 11) + am_lo 158 ≤ am_lo 160 := by decide +kernel
theorem c160_224 : am_find am_ctL (am_mc 160) 224 = some (0, 159) ∧ am_na 159 = 2 ∧ am_fr 159 + 1 ≤ am_fr 160 ∧ 8 + (am_maxL 159 + 11) + am_lo 159 ≤ am_lo 160 := by decide +kernel
theorem l160 : am_maxL 160 = 3 := by decide +kernel
theorem t160 : am_ret 160 = none := by decide +kernel
/-! ThirdSheetsModel.least()I is 161 -/
theorem d161_0 : decode (am_code 161) 0 = .ok (.aload_n 0, 1) := by decide +kernel
theorem d161_1 : decode (am_code 161) 1 = .ok (.invokevirtual 227, 3) := by decide +kernel
theorem d161_4 : decode (am_code 161) 4 = .ok (.aload_n 0, 1) := by decide +kernel
theorem d161_5 : decode (am_code 161) 5 = .ok (.getfield 189, 3) := by decide +kernel
theorem d161_8 : decode (am_code 161) 8 = .ok (.ireturn, 1) := by decide +kernel
theorem f161_189 : am_find am_ftL (am_mc 161) 189 = some (7, 14) := by decide +kernel
theorem c161_227 : am_find am_ctL (am_mc 161) 227 = some (0, 160) ∧ am_na 160 = 0 ∧ am_fr 160 + 1 ≤ am_fr 161 ∧ 8 + (am_maxL 160 + 11) + am_lo 160 ≤ am_lo 161 := by decide +kernel
theorem l161 : am_maxL 161 = 1 := by decide +kernel
theorem t161 : am_ret 161 = (some .int) := by decide +kernel
/-! ThirdSheetsModel.number(II)I is 162 -/
theorem d162_0 : decode (am_code 162) 0 = .ok (.aload_n 0, 1) := by decide +kernel
theorem d162_1 : decode (am_code 162) 1 = .ok (.invokevirtual 227, 3) := by decide +kernel
theorem d162_4 : decode (am_code 162) 4 = .ok (.iload_n 1, 1) := by decide +kernel
theorem d162_5 : decode (am_code 162) 5 = .ok (.iconst 0, 1) := by decide +kernel
theorem d162_6 : decode (am_code 162) 6 = .ok (.aload_n 0, 1) := by decide +kernel
theorem d162_7 : decode (am_code 162) 7 = .ok (.getfield 189, 3) := by decide +kernel
theorem d162_10 : decode (am_code 162) 10 = .ok (.iconst 1, 1) := by decide +kernel
theorem d162_11 : decode (am_code 162) 11 = .ok (.isub, 1) := by decide +kernel
theorem d162_12 : decode (am_code 162) 12 = .ok (.invokestatic 71, 3) := by decide +kernel
theorem d162_15 : decode (am_code 162) 15 = .ok (.ifCond .eq 34, 3) := by decide +kernel
theorem d162_18 : decode (am_code 162) 18 = .ok (.iload_n 2, 1) := by decide +kernel
theorem d162_19 : decode (am_code 162) 19 = .ok (.iconst 0, 1) := by decide +kernel
theorem d162_20 : decode (am_code 162) 20 = .ok (.bipush 7, 2) := by decide +kernel
theorem d162_22 : decode (am_code 162) 22 = .ok (.aload_n 0, 1) := by decide +kernel
theorem d162_23 : decode (am_code 162) 23 = .ok (.getfield 67, 3) := by decide +kernel
theorem d162_26 : decode (am_code 162) 26 = .ok (.imul, 1) := by decide +kernel
theorem d162_27 : decode (am_code 162) 27 = .ok (.iconst 1, 1) := by decide +kernel
theorem d162_28 : decode (am_code 162) 28 = .ok (.isub, 1) := by decide +kernel
theorem d162_29 : decode (am_code 162) 29 = .ok (.invokestatic 71, 3) := by decide +kernel
theorem d162_32 : decode (am_code 162) 32 = .ok (.ifCond .eq 17, 3) := by decide +kernel
theorem d162_35 : decode (am_code 162) 35 = .ok (.aload_n 0, 1) := by decide +kernel
theorem d162_36 : decode (am_code 162) 36 = .ok (.getfield 42, 3) := by decide +kernel
theorem d162_39 : decode (am_code 162) 39 = .ok (.bipush 21, 2) := by decide +kernel
theorem d162_41 : decode (am_code 162) 41 = .ok (.iload_n 1, 1) := by decide +kernel
theorem d162_42 : decode (am_code 162) 42 = .ok (.imul, 1) := by decide +kernel
theorem d162_43 : decode (am_code 162) 43 = .ok (.iload_n 2, 1) := by decide +kernel
theorem d162_44 : decode (am_code 162) 44 = .ok (.iadd, 1) := by decide +kernel
theorem d162_45 : decode (am_code 162) 45 = .ok (.iaload, 1) := by decide +kernel
theorem d162_46 : decode (am_code 162) 46 = .ok (.goto 5, 3) := by decide +kernel
theorem d162_49 : decode (am_code 162) 49 = .ok (.bipush (-2), 2) := by decide +kernel
theorem d162_51 : decode (am_code 162) 51 = .ok (.ireturn, 1) := by decide +kernel
theorem f162_189 : am_find am_ftL (am_mc 162) 189 = some (7, 14) := by decide +kernel
theorem f162_67 : am_find am_ftL (am_mc 162) 67 = some (7, 0) := by decide +kernel
theorem f162_42 : am_find am_ftL (am_mc 162) 42 = some (7, 15) := by decide +kernel
theorem c162_227 : am_find am_ctL (am_mc 162) 227 = some (0, 160) ∧ am_na 160 = 0 ∧ am_fr 160 + 1 ≤ am_fr 162 ∧ 8 + (am_maxL 160 + 11) + am_lo 160 ≤ am_lo 162 := by decide +kernel
theorem c162_71 : am_find am_ctL (am_mc 162) 71 = some (1, 109) ∧ am_na 109 = 3 ∧ am_fr 109 + 1 ≤ am_fr 162 ∧ 8 + (am_maxL 109 + 11) + am_lo 109 ≤ am_lo 162 := by decide +kernel
theorem l162 : am_maxL 162 = 3 := by decide +kernel
theorem t162 : am_ret 162 = (some .int) := by decide +kernel
/-! ThirdSheetsModel.put(II)I is 163 -/
theorem d163_0 : decode (am_code 163) 0 = .ok (.iload_n 1, 1) := by decide +kernel
theorem d163_1 : decode (am_code 163) 1 = .ok (.iconst 0, 1) := by decide +kernel
theorem d163_2 : decode (am_code 163) 2 = .ok (.bipush 7, 2) := by decide +kernel
theorem d163_4 : decode (am_code 163) 4 = .ok (.aload_n 0, 1) := by decide +kernel
theorem d163_5 : decode (am_code 163) 5 = .ok (.getfield 67, 3) := by decide +kernel
theorem d163_8 : decode (am_code 163) 8 = .ok (.imul, 1) := by decide +kernel
theorem d163_9 : decode (am_code 163) 9 = .ok (.iconst 1, 1) := by decide +kernel
theorem d163_10 : decode (am_code 163) 10 = .ok (.isub, 1) := by decide +kernel
theorem d163_11 : decode (am_code 163) 11 = .ok (.invokestatic 71, 3) := by decide +kernel
theorem d163_14 : decode (am_code 163) 14 = .ok (.ifCond .eq 14, 3) := by decide +kernel
theorem d163_17 : decode (am_code 163) 17 = .ok (.iload_n 2, 1) := by decide +kernel
theorem d163_18 : decode (am_code 163) 18 = .ok (.iconst 0, 1) := by decide +kernel
theorem d163_19 : decode (am_code 163) 19 = .ok (.sipush 1000, 3) := by decide +kernel
theorem d163_22 : decode (am_code 163) 22 = .ok (.invokestatic 71, 3) := by decide +kernel
theorem d163_25 : decode (am_code 163) 25 = .ok (.ifCond .ne 6, 3) := by decide +kernel
theorem d163_28 : decode (am_code 163) 28 = .ok (.bipush (-2), 2) := by decide +kernel
theorem d163_30 : decode (am_code 163) 30 = .ok (.ireturn, 1) := by decide +kernel
theorem d163_31 : decode (am_code 163) 31 = .ok (.aload_n 0, 1) := by decide +kernel
theorem d163_32 : decode (am_code 163) 32 = .ok (.getfield 16, 3) := by decide +kernel
theorem d163_35 : decode (am_code 163) 35 = .ok (.iload_n 1, 1) := by decide +kernel
theorem d163_36 : decode (am_code 163) 36 = .ok (.iaload, 1) := by decide +kernel
theorem d163_37 : decode (am_code 163) 37 = .ok (.istore_n 3, 1) := by decide +kernel
theorem d163_38 : decode (am_code 163) 38 = .ok (.aload_n 0, 1) := by decide +kernel
theorem d163_39 : decode (am_code 163) 39 = .ok (.getfield 16, 3) := by decide +kernel
theorem d163_42 : decode (am_code 163) 42 = .ok (.iload_n 1, 1) := by decide +kernel
theorem d163_43 : decode (am_code 163) 43 = .ok (.iload_n 2, 1) := by decide +kernel
theorem d163_44 : decode (am_code 163) 44 = .ok (.iastore, 1) := by decide +kernel
theorem d163_45 : decode (am_code 163) 45 = .ok (.iload_n 3, 1) := by decide +kernel
theorem d163_46 : decode (am_code 163) 46 = .ok (.ireturn, 1) := by decide +kernel
theorem f163_67 : am_find am_ftL (am_mc 163) 67 = some (7, 0) := by decide +kernel
theorem f163_16 : am_find am_ftL (am_mc 163) 16 = some (7, 3) := by decide +kernel
theorem c163_71 : am_find am_ctL (am_mc 163) 71 = some (1, 109) ∧ am_na 109 = 3 ∧ am_fr 109 + 1 ≤ am_fr 163 ∧ 8 + (am_maxL 109 + 11) + am_lo 109 ≤ am_lo 163 := by decide +kernel
theorem l163 : am_maxL 163 = 4 := by decide +kernel
theorem t163 : am_ret 163 = (some .int) := by decide +kernel
/-! ThirdSheetsModel.add(II)I is 164 -/
theorem d164_0 : decode (am_code 164) 0 = .ok (.aload_n 0, 1) := by decide +kernel
theorem d164_1 : decode (am_code 164) 1 = .ok (.invokevirtual 227, 3) := by decide +kernel
theorem d164_4 : decode (am_code 164) 4 = .ok (.iload_n 1, 1) := by decide +kernel
theorem d164_5 : decode (am_code 164) 5 = .ok (.iconst 0, 1) := by decide +kernel
theorem d164_6 : decode (am_code 164) 6 = .ok (.aload_n 0, 1) := by decide +kernel
theorem d164_7 : decode (am_code 164) 7 = .ok (.getfield 189, 3) := by decide +kernel
theorem d164_10 : decode (am_code 164) 10 = .ok (.iconst 1, 1) := by decide +kernel
theorem d164_11 : decode (am_code 164) 11 = .ok (.isub, 1) := by decide +kernel
theorem d164_12 : decode (am_code 164) 12 = .ok (.invokestatic 71, 3) := by decide +kernel
theorem d164_15 : decode (am_code 164) 15 = .ok (.ifCond .eq 13, 3) := by decide +kernel
theorem d164_18 : decode (am_code 164) 18 = .ok (.iload_n 2, 1) := by decide +kernel
theorem d164_19 : decode (am_code 164) 19 = .ok (.iconst 0, 1) := by decide +kernel
theorem d164_20 : decode (am_code 164) 20 = .ok (.bipush 100, 2) := by decide +kernel
theorem d164_22 : decode (am_code 164) 22 = .ok (.invokestatic 71, 3) := by decide +kernel
theorem d164_25 : decode (am_code 164) 25 = .ok (.ifCond .ne 6, 3) := by decide +kernel
theorem d164_28 : decode (am_code 164) 28 = .ok (.bipush (-2), 2) := by decide +kernel
theorem d164_30 : decode (am_code 164) 30 = .ok (.ireturn, 1) := by decide +kernel
theorem d164_31 : decode (am_code 164) 31 = .ok (.iconst 0, 1) := by decide +kernel
theorem d164_32 : decode (am_code 164) 32 = .ok (.istore_n 3, 1) := by decide +kernel
theorem d164_33 : decode (am_code 164) 33 = .ok (.iload_n 3, 1) := by decide +kernel
theorem d164_34 : decode (am_code 164) 34 = .ok (.bipush 7, 2) := by decide +kernel
theorem d164_36 : decode (am_code 164) 36 = .ok (.aload_n 0, 1) := by decide +kernel
theorem d164_37 : decode (am_code 164) 37 = .ok (.getfield 67, 3) := by decide +kernel
theorem d164_40 : decode (am_code 164) 40 = .ok (.imul, 1) := by decide +kernel
theorem d164_41 : decode (am_code 164) 41 = .ok (.if_icmp .ge 38, 3) := by decide +kernel
theorem d164_44 : decode (am_code 164) 44 = .ok (.aload_n 0, 1) := by decide +kernel
theorem d164_45 : decode (am_code 164) 45 = .ok (.getfield 16, 3) := by decide +kernel
theorem d164_48 : decode (am_code 164) 48 = .ok (.iload_n 3, 1) := by decide +kernel
theorem d164_49 : decode (am_code 164) 49 = .ok (.iaload, 1) := by decide +kernel
theorem d164_50 : decode (am_code 164) 50 = .ok (.iload_n 2, 1) := by decide +kernel
theorem d164_51 : decode (am_code 164) 51 = .ok (.aload_n 0, 1) := by decide +kernel
theorem d164_52 : decode (am_code 164) 52 = .ok (.getfield 42, 3) := by decide +kernel
theorem d164_55 : decode (am_code 164) 55 = .ok (.bipush 21, 2) := by decide +kernel
theorem d164_57 : decode (am_code 164) 57 = .ok (.iload_n 1, 1) := by decide +kernel
theorem d164_58 : decode (am_code 164) 58 = .ok (.imul, 1) := by decide +kernel
theorem d164_59 : decode (am_code 164) 59 = .ok (.iload_n 3, 1) := by decide +kernel
theorem d164_60 : decode (am_code 164) 60 = .ok (.iadd, 1) := by decide +kernel
theorem d164_61 : decode (am_code 164) 61 = .ok (.iaload, 1) := by decide +kernel
theorem d164_62 : decode (am_code 164) 62 = .ok (.imul, 1) := by decide +kernel
theorem d164_63 : decode (am_code 164) 63 = .ok (.iadd, 1) := by decide +kernel
theorem d164_64 : decode (am_code 164) 64 = .ok (.sipush 1000, 3) := by decide +kernel
theorem d164_67 : decode (am_code 164) 67 = .ok (.if_icmp .le 6, 3) := by decide +kernel
theorem d164_70 : decode (am_code 164) 70 = .ok (.bipush (-4), 2) := by decide +kernel
theorem d164_72 : decode (am_code 164) 72 = .ok (.ireturn, 1) := by decide +kernel
theorem d164_73 : decode (am_code 164) 73 = .ok (.iinc 3 1, 3) := by decide +kernel
theorem d164_76 : decode (am_code 164) 76 = .ok (.goto (-43), 3) := by decide +kernel
theorem d164_79 : decode (am_code 164) 79 = .ok (.iconst 0, 1) := by decide +kernel
theorem d164_80 : decode (am_code 164) 80 = .ok (.istore_n 3, 1) := by decide +kernel
theorem d164_81 : decode (am_code 164) 81 = .ok (.iload_n 3, 1) := by decide +kernel
theorem d164_82 : decode (am_code 164) 82 = .ok (.bipush 7, 2) := by decide +kernel
theorem d164_84 : decode (am_code 164) 84 = .ok (.aload_n 0, 1) := by decide +kernel
theorem d164_85 : decode (am_code 164) 85 = .ok (.getfield 67, 3) := by decide +kernel
theorem d164_88 : decode (am_code 164) 88 = .ok (.imul, 1) := by decide +kernel
theorem d164_89 : decode (am_code 164) 89 = .ok (.if_icmp .ge 31, 3) := by decide +kernel
theorem d164_92 : decode (am_code 164) 92 = .ok (.aload_n 0, 1) := by decide +kernel
theorem d164_93 : decode (am_code 164) 93 = .ok (.getfield 16, 3) := by decide +kernel
theorem d164_96 : decode (am_code 164) 96 = .ok (.iload_n 3, 1) := by decide +kernel
theorem d164_97 : decode (am_code 164) 97 = .ok (.dup2, 1) := by decide +kernel
theorem d164_98 : decode (am_code 164) 98 = .ok (.iaload, 1) := by decide +kernel
theorem d164_99 : decode (am_code 164) 99 = .ok (.iload_n 2, 1) := by decide +kernel
theorem d164_100 : decode (am_code 164) 100 = .ok (.aload_n 0, 1) := by decide +kernel
theorem d164_101 : decode (am_code 164) 101 = .ok (.getfield 42, 3) := by decide +kernel
theorem d164_104 : decode (am_code 164) 104 = .ok (.bipush 21, 2) := by decide +kernel
theorem d164_106 : decode (am_code 164) 106 = .ok (.iload_n 1, 1) := by decide +kernel
theorem d164_107 : decode (am_code 164) 107 = .ok (.imul, 1) := by decide +kernel
theorem d164_108 : decode (am_code 164) 108 = .ok (.iload_n 3, 1) := by decide +kernel
theorem d164_109 : decode (am_code 164) 109 = .ok (.iadd, 1) := by decide +kernel
theorem d164_110 : decode (am_code 164) 110 = .ok (.iaload, 1) := by decide +kernel
theorem d164_111 : decode (am_code 164) 111 = .ok (.imul, 1) := by decide +kernel
theorem d164_112 : decode (am_code 164) 112 = .ok (.iadd, 1) := by decide +kernel
theorem d164_113 : decode (am_code 164) 113 = .ok (.iastore, 1) := by decide +kernel
theorem d164_114 : decode (am_code 164) 114 = .ok (.iinc 3 1, 3) := by decide +kernel
theorem d164_117 : decode (am_code 164) 117 = .ok (.goto (-36), 3) := by decide +kernel
theorem d164_120 : decode (am_code 164) 120 = .ok (.iconst 1, 1) := by decide +kernel
theorem d164_121 : decode (am_code 164) 121 = .ok (.ireturn, 1) := by decide +kernel
theorem f164_189 : am_find am_ftL (am_mc 164) 189 = some (7, 14) := by decide +kernel
theorem f164_67 : am_find am_ftL (am_mc 164) 67 = some (7, 0) := by decide +kernel
theorem f164_16 : am_find am_ftL (am_mc 164) 16 = some (7, 3) := by decide +kernel
theorem f164_42 : am_find am_ftL (am_mc 164) 42 = some (7, 15) := by decide +kernel
theorem c164_227 : am_find am_ctL (am_mc 164) 227 = some (0, 160) ∧ am_na 160 = 0 ∧ am_fr 160 + 1 ≤ am_fr 164 ∧ 8 + (am_maxL 160 + 11) + am_lo 160 ≤ am_lo 164 := by decide +kernel
theorem c164_71 : am_find am_ctL (am_mc 164) 71 = some (1, 109) ∧ am_na 109 = 3 ∧ am_fr 109 + 1 ≤ am_fr 164 ∧ 8 + (am_maxL 109 + 11) + am_lo 109 ≤ am_lo 164 := by decide +kernel
theorem l164 : am_maxL 164 = 4 := by decide +kernel
theorem t164 : am_ret 164 = (some .int) := by decide +kernel
