/-! ThirdSheets.count(I)I is 87 -/
theorem d87_0 : decode (am_code 87) 0 = .ok (.iload_n 1, 1) := by decide +kernel
theorem d87_1 : decode (am_code 87) 1 = .ok (.tableswitch 148 0 8 #[51, 59, 70, 81, 89, 97, 105, 121, 137], 51) := by decide +kernel
theorem d87_52 : decode (am_code 87) 52 = .ok (.aload_n 0, 1) := by decide +kernel
theorem d87_53 : decode (am_code 87) 53 = .ok (.getfield 10, 3) := by decide +kernel
theorem d87_56 : decode (am_code 87) 56 = .ok (.getfield 51, 3) := by decide +kernel
theorem d87_59 : decode (am_code 87) 59 = .ok (.ireturn, 1) := by decide +kernel
theorem d87_60 : decode (am_code 87) 60 = .ok (.aload_n 0, 1) := by decide +kernel
theorem d87_61 : decode (am_code 87) 61 = .ok (.getfield 10, 3) := by decide +kernel
theorem d87_64 : decode (am_code 87) 64 = .ok (.getfield 93, 3) := by decide +kernel
theorem d87_67 : decode (am_code 87) 67 = .ok (.getfield 105, 3) := by decide +kernel
theorem d87_70 : decode (am_code 87) 70 = .ok (.ireturn, 1) := by decide +kernel
theorem d87_71 : decode (am_code 87) 71 = .ok (.aload_n 0, 1) := by decide +kernel
theorem d87_72 : decode (am_code 87) 72 = .ok (.getfield 10, 3) := by decide +kernel
theorem d87_75 : decode (am_code 87) 75 = .ok (.getfield 102, 3) := by decide +kernel
theorem d87_78 : decode (am_code 87) 78 = .ok (.getfield 105, 3) := by decide +kernel
theorem d87_81 : decode (am_code 87) 81 = .ok (.ireturn, 1) := by decide +kernel
theorem d87_82 : decode (am_code 87) 82 = .ok (.aload_n 0, 1) := by decide +kernel
theorem d87_83 : decode (am_code 87) 83 = .ok (.getfield 10, 3) := by decide +kernel
theorem d87_86 : decode (am_code 87) 86 = .ok (.invokevirtual 116, 3) := by decide +kernel
theorem d87_89 : decode (am_code 87) 89 = .ok (.ireturn, 1) := by decide +kernel
theorem d87_90 : decode (am_code 87) 90 = .ok (.aload_n 0, 1) := by decide +kernel
theorem d87_91 : decode (am_code 87) 91 = .ok (.getfield 10, 3) := by decide +kernel
theorem d87_94 : decode (am_code 87) 94 = .ok (.invokevirtual 120, 3) := by decide +kernel
theorem d87_97 : decode (am_code 87) 97 = .ok (.ireturn, 1) := by decide +kernel
theorem d87_98 : decode (am_code 87) 98 = .ok (.aload_n 0, 1) := by decide +kernel
theorem d87_99 : decode (am_code 87) 99 = .ok (.getfield 10, 3) := by decide +kernel
theorem d87_102 : decode (am_code 87) 102 = .ok (.invokevirtual 123, 3) := by decide +kernel
theorem d87_105 : decode (am_code 87) 105 = .ok (.ireturn, 1) := by decide +kernel
theorem d87_106 : decode (am_code 87) 106 = .ok (.aload_n 0, 1) := by decide +kernel
theorem d87_107 : decode (am_code 87) 107 = .ok (.getfield 10, 3) := by decide +kernel
theorem d87_110 : decode (am_code 87) 110 = .ok (.invokevirtual 126, 3) := by decide +kernel
theorem d87_113 : decode (am_code 87) 113 = .ok (.ifCond .eq 7, 3) := by decide +kernel
theorem d87_116 : decode (am_code 87) 116 = .ok (.iconst 1, 1) := by decide +kernel
theorem d87_117 : decode (am_code 87) 117 = .ok (.goto 4, 3) := by decide +kernel
theorem d87_120 : decode (am_code 87) 120 = .ok (.iconst 0, 1) := by decide +kernel
theorem d87_121 : decode (am_code 87) 121 = .ok (.ireturn, 1) := by decide +kernel
theorem d87_122 : decode (am_code 87) 122 = .ok (.aload_n 0, 1) := by decide +kernel
theorem d87_123 : decode (am_code 87) 123 = .ok (.getfield 10, 3) := by decide +kernel
theorem d87_126 : decode (am_code 87) 126 = .ok (.invokevirtual 130, 3) := by decide +kernel
theorem d87_129 : decode (am_code 87) 129 = .ok (.ifCond .eq 7, 3) := by decide +kernel
theorem d87_132 : decode (am_code 87) 132 = .ok (.iconst 1, 1) := by decide +kernel
theorem d87_133 : decode (am_code 87) 133 = .ok (.goto 4, 3) := by decide +kernel
theorem d87_136 : decode (am_code 87) 136 = .ok (.iconst 0, 1) := by decide +kernel
theorem d87_137 : decode (am_code 87) 137 = .ok (.ireturn, 1) := by decide +kernel
theorem d87_138 : decode (am_code 87) 138 = .ok (.aload_n 0, 1) := by decide +kernel
theorem d87_139 : decode (am_code 87) 139 = .ok (.getfield 10, 3) := by decide +kernel
theorem d87_142 : decode (am_code 87) 142 = .ok (.getfield 133, 3) := by decide +kernel
theorem d87_145 : decode (am_code 87) 145 = .ok (.getfield 105, 3) := by decide +kernel
theorem d87_148 : decode (am_code 87) 148 = .ok (.ireturn, 1) := by decide +kernel
theorem d87_149 : decode (am_code 87) 149 = .ok (.ldc 111, 2) := by decide +kernel
theorem d87_151 : decode (am_code 87) 151 = .ok (.ireturn, 1) := by decide +kernel
theorem f87_10 : am_find am_ftL (am_mc 87) 10 = some (6, 0) := by decide +kernel
theorem f87_51 : am_find am_ftL (am_mc 87) 51 = some (5, 0) := by decide +kernel
theorem f87_93 : am_find am_ftL (am_mc 87) 93 = some (5, 4) := by decide +kernel
theorem f87_105 : am_find am_ftL (am_mc 87) 105 = some (0, 6) := by decide +kernel
theorem f87_102 : am_find am_ftL (am_mc 87) 102 = some (5, 5) := by decide +kernel
theorem f87_133 : am_find am_ftL (am_mc 87) 133 = some (5, 6) := by decide +kernel
theorem c87_116 : am_find am_ctL (am_mc 87) 116 = some (0, 69) ∧ am_na 69 = 0 ∧ am_fr 69 + 1 ≤ am_fr 87 ∧ 8 + (am_maxL 69 + 11) + am_lo 69 ≤ am_lo 87 := by decide +kernel
theorem c87_120 : am_find am_ctL (am_mc 87) 120 = some (0, 70) ∧ am_na 70 = 0 ∧ am_fr 70 + 1 ≤ am_fr 87 ∧ 8 + (am_maxL 70 + 11) + am_lo 70 ≤ am_lo 87 := by decide +kernel
theorem c87_123 : am_find am_ctL (am_mc 87) 123 = some (0, 71) ∧ am_na 71 = 0 ∧ am_fr 71 + 1 ≤ am_fr 87 ∧ 8 + (am_maxL 71 + 11) + am_lo 71 ≤ am_lo 87 := by decide +kernel
theorem c87_126 : am_find am_ctL (am_mc 87) 126 = some (0, 73) ∧ am_na 73 = 0 ∧ am_fr 73 + 1 ≤ am_fr 87 ∧ 8 + (am_maxL 73 + 11) + am_lo 73 ≤ am_lo 87 := by decide +kernel
theorem c87_130 : am_find am_ctL (am_mc 87) 130 = some (0, 72) ∧ am_na 72 = 0 ∧ am_fr 72 + 1 ≤ am_fr 87 ∧ 8 + (am_maxL 72 + 11) + am_lo 72 ≤ am_lo 87 := by decide +kernel
theorem l87 : am_maxL 87 = 2 := by decide +kernel
theorem t87 : am_ret 87 = (some .int) := by decide +kernel
/-! ThirdSheets.holes(I)I is 88 -/
theorem d88_0 : decode (am_code 88) 0 = .ok (.iload_n 1, 1) := by decide +kernel
theorem d88_1 : decode (am_code 88) 1 = .ok (.ifCond .ge 6, 3) := by decide +kernel
theorem d88_4 : decode (am_code 88) 4 = .ok (.bipush (-2), 2) := by decide +kernel
theorem d88_6 : decode (am_code 88) 6 = .ok (.ireturn, 1) := by decide +kernel
theorem d88_7 : decode (am_code 88) 7 = .ok (.aload_n 0, 1) := by decide +kernel
theorem d88_8 : decode (am_code 88) 8 = .ok (.getfield 10, 3) := by decide +kernel
theorem d88_11 : decode (am_code 88) 11 = .ok (.getfield 102, 3) := by decide +kernel
theorem d88_14 : decode (am_code 88) 14 = .ok (.invokevirtual 136, 3) := by decide +kernel
theorem d88_17 : decode (am_code 88) 17 = .ok (.ifCond .eq 6, 3) := by decide +kernel
theorem d88_20 : decode (am_code 88) 20 = .ok (.bipush (-3), 2) := by decide +kernel
theorem d88_22 : decode (am_code 88) 22 = .ok (.ireturn, 1) := by decide +kernel
theorem d88_23 : decode (am_code 88) 23 = .ok (.aload_n 0, 1) := by decide +kernel
theorem d88_24 : decode (am_code 88) 24 = .ok (.getfield 19, 3) := by decide +kernel
theorem d88_27 : decode (am_code 88) 27 = .ok (.aload_n 0, 1) := by decide +kernel
theorem d88_28 : decode (am_code 88) 28 = .ok (.getfield 10, 3) := by decide +kernel
theorem d88_31 : decode (am_code 88) 31 = .ok (.invokevirtual 139, 3) := by decide +kernel
theorem d88_34 : decode (am_code 88) 34 = .ok (.iload_n 1, 1) := by decide +kernel
theorem d88_35 : decode (am_code 88) 35 = .ok (.ifCond .ne 38, 3) := by decide +kernel
theorem d88_38 : decode (am_code 88) 38 = .ok (.aload_n 0, 1) := by decide +kernel
theorem d88_39 : decode (am_code 88) 39 = .ok (.getfield 10, 3) := by decide +kernel
theorem d88_42 : decode (am_code 88) 42 = .ok (.getfield 143, 3) := by decide +kernel
theorem d88_45 : decode (am_code 88) 45 = .ok (.aload_n 0, 1) := by decide +kernel
theorem d88_46 : decode (am_code 88) 46 = .ok (.getfield 10, 3) := by decide +kernel
theorem d88_49 : decode (am_code 88) 49 = .ok (.getfield 51, 3) := by decide +kernel
theorem d88_52 : decode (am_code 88) 52 = .ok (.isub, 1) := by decide +kernel
theorem d88_53 : decode (am_code 88) 53 = .ok (.aload_n 0, 1) := by decide +kernel
theorem d88_54 : decode (am_code 88) 54 = .ok (.getfield 10, 3) := by decide +kernel
theorem d88_57 : decode (am_code 88) 57 = .ok (.getfield 133, 3) := by decide +kernel
theorem d88_60 : decode (am_code 88) 60 = .ok (.getfield 105, 3) := by decide +kernel
theorem d88_63 : decode (am_code 88) 63 = .ok (.iadd, 1) := by decide +kernel
theorem d88_64 : decode (am_code 88) 64 = .ok (.aload_n 0, 1) := by decide +kernel
theorem d88_65 : decode (am_code 88) 65 = .ok (.getfield 19, 3) := by decide +kernel
theorem d88_68 : decode (am_code 88) 68 = .ok (.getfield 146, 3) := by decide +kernel
theorem d88_71 : decode (am_code 88) 71 = .ok (.isub, 1) := by decide +kernel
theorem d88_72 : decode (am_code 88) 72 = .ok (.ireturn, 1) := by decide +kernel
theorem d88_73 : decode (am_code 88) 73 = .ok (.aload_n 0, 1) := by decide +kernel
theorem d88_74 : decode (am_code 88) 74 = .ok (.getfield 19, 3) := by decide +kernel
theorem d88_77 : decode (am_code 88) 77 = .ok (.iload_n 1, 1) := by decide +kernel
theorem d88_78 : decode (am_code 88) 78 = .ok (.invokevirtual 149, 3) := by decide +kernel
theorem d88_81 : decode (am_code 88) 81 = .ok (.ireturn, 1) := by decide +kernel
theorem f88_10 : am_find am_ftL (am_mc 88) 10 = some (6, 0) := by decide +kernel
theorem f88_102 : am_find am_ftL (am_mc 88) 102 = some (5, 5) := by decide +kernel
theorem f88_19 : am_find am_ftL (am_mc 88) 19 = some (6, 1) := by decide +kernel
theorem f88_143 : am_find am_ftL (am_mc 88) 143 = some (5, 1) := by decide +kernel
theorem f88_51 : am_find am_ftL (am_mc 88) 51 = some (5, 0) := by decide +kernel
theorem f88_133 : am_find am_ftL (am_mc 88) 133 = some (5, 6) := by decide +kernel
theorem f88_105 : am_find am_ftL (am_mc 88) 105 = some (0, 6) := by decide +kernel
theorem f88_146 : am_find am_ftL (am_mc 88) 146 = some (2, 4) := by decide +kernel
theorem c88_136 : am_find am_ctL (am_mc 88) 136 = some (0, 6) ∧ am_na 6 = 0 ∧ am_fr 6 + 1 ≤ am_fr 88 ∧ 8 + (am_maxL 6 + 11) + am_lo 6 ≤ am_lo 88 := by decide +kernel
theorem c88_139 : am_find am_ctL (am_mc 88) 139 = some (0, 21) ∧ am_na 21 = 1 ∧ am_fr 21 + 1 ≤ am_fr 88 ∧ 8 + (am_maxL 21 + 11) + am_lo 21 ≤ am_lo 88 := by decide +kernel
theorem c88_149 : am_find am_ctL (am_mc 88) 149 = some (0, 22) ∧ am_na 22 = 1 ∧ am_fr 22 + 1 ≤ am_fr 88 ∧ 8 + (am_maxL 22 + 11) + am_lo 22 ≤ am_lo 88 := by decide +kernel
theorem l88 : am_maxL 88 = 2 := by decide +kernel
theorem t88 : am_ret 88 = (some .int) := by decide +kernel
/-! ThirdSheets.least()I is 89 -/
theorem d89_0 : decode (am_code 89) 0 = .ok (.aload_n 0, 1) := by decide +kernel
theorem d89_1 : decode (am_code 89) 1 = .ok (.invokevirtual 152, 3) := by decide +kernel
theorem d89_4 : decode (am_code 89) 4 = .ok (.aload_n 0, 1) := by decide +kernel
theorem d89_5 : decode (am_code 89) 5 = .ok (.getfield 26, 3) := by decide +kernel
theorem d89_8 : decode (am_code 89) 8 = .ok (.getfield 155, 3) := by decide +kernel
theorem d89_11 : decode (am_code 89) 11 = .ok (.ireturn, 1) := by decide +kernel
theorem f89_26 : am_find am_ftL (am_mc 89) 26 = some (6, 2) := by decide +kernel
theorem f89_155 : am_find am_ftL (am_mc 89) 155 = some (1, 1) := by decide +kernel
theorem c89_152 : am_find am_ctL (am_mc 89) 152 = some (0, 104) ∧ am_na 104 = 0 ∧ am_fr 104 + 1 ≤ am_fr 89 ∧ 8 + (am_maxL 104 + 11) + am_lo 104 ≤ am_lo 89 := by decide +kernel
theorem l89 : am_maxL 89 = 1 := by decide +kernel
theorem t89 : am_ret 89 = (some .int) := by decide +kernel
/-! ThirdSheets.number(II)I is 90 -/
theorem d90_0 : decode (am_code 90) 0 = .ok (.aload_n 0, 1) := by decide +kernel
theorem d90_1 : decode (am_code 90) 1 = .ok (.invokevirtual 152, 3) := by decide +kernel
theorem d90_4 : decode (am_code 90) 4 = .ok (.aload_n 0, 1) := by decide +kernel
theorem d90_5 : decode (am_code 90) 5 = .ok (.iload_n 1, 1) := by decide +kernel
theorem d90_6 : decode (am_code 90) 6 = .ok (.invokevirtual 158, 3) := by decide +kernel
theorem d90_9 : decode (am_code 90) 9 = .ok (.ifCond .eq 11, 3) := by decide +kernel
theorem d90_12 : decode (am_code 90) 12 = .ok (.aload_n 0, 1) := by decide +kernel
theorem d90_13 : decode (am_code 90) 13 = .ok (.iload_n 2, 1) := by decide +kernel
theorem d90_14 : decode (am_code 90) 14 = .ok (.invokevirtual 161, 3) := by decide +kernel
theorem d90_17 : decode (am_code 90) 17 = .ok (.ifCond .ne 6, 3) := by decide +kernel
theorem d90_20 : decode (am_code 90) 20 = .ok (.bipush (-2), 2) := by decide +kernel
theorem d90_22 : decode (am_code 90) 22 = .ok (.ireturn, 1) := by decide +kernel
theorem d90_23 : decode (am_code 90) 23 = .ok (.aload_n 0, 1) := by decide +kernel
theorem d90_24 : decode (am_code 90) 24 = .ok (.getfield 26, 3) := by decide +kernel
theorem d90_27 : decode (am_code 90) 27 = .ok (.getfield 164, 3) := by decide +kernel
theorem d90_30 : decode (am_code 90) 30 = .ok (.iload_n 1, 1) := by decide +kernel
theorem d90_31 : decode (am_code 90) 31 = .ok (.aaload, 1) := by decide +kernel
theorem d90_32 : decode (am_code 90) 32 = .ok (.iload_n 2, 1) := by decide +kernel
theorem d90_33 : decode (am_code 90) 33 = .ok (.iaload, 1) := by decide +kernel
theorem d90_34 : decode (am_code 90) 34 = .ok (.ireturn, 1) := by decide +kernel
theorem f90_26 : am_find am_ftL (am_mc 90) 26 = some (6, 2) := by decide +kernel
theorem f90_164 : am_find am_ftL (am_mc 90) 164 = some (1, 2) := by decide +kernel
theorem c90_152 : am_find am_ctL (am_mc 90) 152 = some (0, 104) ∧ am_na 104 = 0 ∧ am_fr 104 + 1 ≤ am_fr 90 ∧ 8 + (am_maxL 104 + 11) + am_lo 104 ≤ am_lo 90 := by decide +kernel
theorem c90_158 : am_find am_ctL (am_mc 90) 158 = some (0, 101) ∧ am_na 101 = 1 ∧ am_fr 101 + 1 ≤ am_fr 90 ∧ 8 + (am_maxL 101 + 11) + am_lo 101 ≤ am_lo 90 := by decide +kernel
theorem c90_161 : am_find am_ctL (am_mc 90) 161 = some (0, 100) ∧ am_na 100 = 1 ∧ am_fr 100 + 1 ≤ am_fr 90 ∧ 8 + (am_maxL 100 + 11) + am_lo 100 ≤ am_lo 90 := by decide +kernel
theorem l90 : am_maxL 90 = 3 := by decide +kernel
theorem t90 : am_ret 90 = (some .int) := by decide +kernel
/-! ThirdSheets.put(II)I is 91 -/
theorem d91_0 : decode (am_code 91) 0 = .ok (.aload_n 0, 1) := by decide +kernel
theorem d91_1 : decode (am_code 91) 1 = .ok (.iload_n 1, 1) := by decide +kernel
theorem d91_2 : decode (am_code 91) 2 = .ok (.invokevirtual 161, 3) := by decide +kernel
theorem d91_5 : decode (am_code 91) 5 = .ok (.ifCond .eq 14, 3) := by decide +kernel
theorem d91_8 : decode (am_code 91) 8 = .ok (.iload_n 2, 1) := by decide +kernel
theorem d91_9 : decode (am_code 91) 9 = .ok (.ifCond .lt 10, 3) := by decide +kernel
theorem d91_12 : decode (am_code 91) 12 = .ok (.iload_n 2, 1) := by decide +kernel
theorem d91_13 : decode (am_code 91) 13 = .ok (.sipush 1000, 3) := by decide +kernel
theorem d91_16 : decode (am_code 91) 16 = .ok (.if_icmp .le 6, 3) := by decide +kernel
theorem d91_19 : decode (am_code 91) 19 = .ok (.bipush (-2), 2) := by decide +kernel
theorem d91_21 : decode (am_code 91) 21 = .ok (.ireturn, 1) := by decide +kernel
theorem d91_22 : decode (am_code 91) 22 = .ok (.aload_n 0, 1) := by decide +kernel
theorem d91_23 : decode (am_code 91) 23 = .ok (.getfield 33, 3) := by decide +kernel
theorem d91_26 : decode (am_code 91) 26 = .ok (.getfield 168, 3) := by decide +kernel
theorem d91_29 : decode (am_code 91) 29 = .ok (.iload_n 1, 1) := by decide +kernel
theorem d91_30 : decode (am_code 91) 30 = .ok (.iaload, 1) := by decide +kernel
theorem d91_31 : decode (am_code 91) 31 = .ok (.istore_n 3, 1) := by decide +kernel
theorem d91_32 : decode (am_code 91) 32 = .ok (.aload_n 0, 1) := by decide +kernel
theorem d91_33 : decode (am_code 91) 33 = .ok (.getfield 33, 3) := by decide +kernel
theorem d91_36 : decode (am_code 91) 36 = .ok (.getfield 168, 3) := by decide +kernel
theorem d91_39 : decode (am_code 91) 39 = .ok (.iload_n 1, 1) := by decide +kernel
theorem d91_40 : decode (am_code 91) 40 = .ok (.iload_n 2, 1) := by decide +kernel
theorem d91_41 : decode (am_code 91) 41 = .ok (.iastore, 1) := by decide +kernel
theorem d91_42 : decode (am_code 91) 42 = .ok (.aload_n 0, 1) := by decide +kernel
theorem d91_43 : decode (am_code 91) 43 = .ok (.iconst 1, 1) := by decide +kernel
theorem d91_44 : decode (am_code 91) 44 = .ok (.putfield 48, 3) := by decide +kernel
theorem d91_47 : decode (am_code 91) 47 = .ok (.iload_n 3, 1) := by decide +kernel
theorem d91_48 : decode (am_code 91) 48 = .ok (.ireturn, 1) := by decide +kernel
theorem f91_33 : am_find am_ftL (am_mc 91) 33 = some (6, 3) := by decide +kernel
theorem f91_168 : am_find am_ftL (am_mc 91) 168 = some (4, 0) := by decide +kernel
theorem f91_48 : am_find am_ftL (am_mc 91) 48 = some (6, 6) := by decide +kernel
theorem c91_161 : am_find am_ctL (am_mc 91) 161 = some (0, 100) ∧ am_na 100 = 1 ∧ am_fr 100 + 1 ≤ am_fr 91 ∧ 8 + (am_maxL 100 + 11) + am_lo 100 ≤ am_lo 91 := by decide +kernel
theorem l91 : am_maxL 91 = 4 := by decide +kernel
theorem t91 : am_ret 91 = (some .int) := by decide +kernel
/-! ThirdSheets.add(II)I is 92 -/
theorem d92_0 : decode (am_code 92) 0 = .ok (.aload_n 0, 1) := by decide +kernel
theorem d92_1 : decode (am_code 92) 1 = .ok (.invokevirtual 152, 3) := by decide +kernel
theorem d92_4 : decode (am_code 92) 4 = .ok (.aload_n 0, 1) := by decide +kernel
theorem d92_5 : decode (am_code 92) 5 = .ok (.iload_n 1, 1) := by decide +kernel
theorem d92_6 : decode (am_code 92) 6 = .ok (.invokevirtual 158, 3) := by decide +kernel
theorem d92_9 : decode (am_code 92) 9 = .ok (.ifCond .eq 13, 3) := by decide +kernel
theorem d92_12 : decode (am_code 92) 12 = .ok (.iload_n 2, 1) := by decide +kernel
theorem d92_13 : decode (am_code 92) 13 = .ok (.ifCond .lt 9, 3) := by decide +kernel
theorem d92_16 : decode (am_code 92) 16 = .ok (.iload_n 2, 1) := by decide +kernel
theorem d92_17 : decode (am_code 92) 17 = .ok (.bipush 100, 2) := by decide +kernel
theorem d92_19 : decode (am_code 92) 19 = .ok (.if_icmp .le 6, 3) := by decide +kernel
theorem d92_22 : decode (am_code 92) 22 = .ok (.bipush (-2), 2) := by decide +kernel
theorem d92_24 : decode (am_code 92) 24 = .ok (.ireturn, 1) := by decide +kernel
theorem d92_25 : decode (am_code 92) 25 = .ok (.aload_n 0, 1) := by decide +kernel
theorem d92_26 : decode (am_code 92) 26 = .ok (.getfield 33, 3) := by decide +kernel
theorem d92_29 : decode (am_code 92) 29 = .ok (.aload_n 0, 1) := by decide +kernel
theorem d92_30 : decode (am_code 92) 30 = .ok (.getfield 26, 3) := by decide +kernel
theorem d92_33 : decode (am_code 92) 33 = .ok (.getfield 164, 3) := by decide +kernel
theorem d92_36 : decode (am_code 92) 36 = .ok (.iload_n 1, 1) := by decide +kernel
theorem d92_37 : decode (am_code 92) 37 = .ok (.aaload, 1) := by decide +kernel
theorem d92_38 : decode (am_code 92) 38 = .ok (.iload_n 2, 1) := by decide +kernel
theorem d92_39 : decode (am_code 92) 39 = .ok (.invokevirtual 170, 3) := by decide +kernel
theorem d92_42 : decode (am_code 92) 42 = .ok (.ifCond .ne 6, 3) := by decide +kernel
theorem d92_45 : decode (am_code 92) 45 = .ok (.bipush (-4), 2) := by decide +kernel
theorem d92_47 : decode (am_code 92) 47 = .ok (.ireturn, 1) := by decide +kernel
theorem d92_48 : decode (am_code 92) 48 = .ok (.aload_n 0, 1) := by decide +kernel
theorem d92_49 : decode (am_code 92) 49 = .ok (.getfield 33, 3) := by decide +kernel
theorem d92_52 : decode (am_code 92) 52 = .ok (.aload_n 0, 1) := by decide +kernel
theorem d92_53 : decode (am_code 92) 53 = .ok (.getfield 26, 3) := by decide +kernel
theorem d92_56 : decode (am_code 92) 56 = .ok (.getfield 164, 3) := by decide +kernel
theorem d92_59 : decode (am_code 92) 59 = .ok (.iload_n 1, 1) := by decide +kernel
theorem d92_60 : decode (am_code 92) 60 = .ok (.aaload, 1) := by decide +kernel
theorem d92_61 : decode (am_code 92) 61 = .ok (.iload_n 2, 1) := by decide +kernel
theorem d92_62 : decode (am_code 92) 62 = .ok (.invokevirtual 174, 3) := by decide +kernel
theorem d92_65 : decode (am_code 92) 65 = .ok (.aload_n 0, 1) := by decide +kernel
theorem d92_66 : decode (am_code 92) 66 = .ok (.iconst 1, 1) := by decide +kernel
theorem d92_67 : decode (am_code 92) 67 = .ok (.putfield 48, 3) := by decide +kernel
theorem d92_70 : decode (am_code 92) 70 = .ok (.iconst 1, 1) := by decide +kernel
theorem d92_71 : decode (am_code 92) 71 = .ok (.ireturn, 1) := by decide +kernel
theorem f92_33 : am_find am_ftL (am_mc 92) 33 = some (6, 3) := by decide +kernel
theorem f92_26 : am_find am_ftL (am_mc 92) 26 = some (6, 2) := by decide +kernel
theorem f92_164 : am_find am_ftL (am_mc 92) 164 = some (1, 2) := by decide +kernel
theorem f92_48 : am_find am_ftL (am_mc 92) 48 = some (6, 6) := by decide +kernel
theorem c92_152 : am_find am_ctL (am_mc 92) 152 = some (0, 104) ∧ am_na 104 = 0 ∧ am_fr 104 + 1 ≤ am_fr 92 ∧ 8 + (am_maxL 104 + 11) + am_lo 104 ≤ am_lo 92 := by decide +kernel
theorem c92_158 : am_find am_ctL (am_mc 92) 158 = some (0, 101) ∧ am_na 101 = 1 ∧ am_fr 101 + 1 ≤ am_fr 92 ∧ 8 + (am_maxL 101 + 11) + am_lo 101 ≤ am_lo 92 := by decide +kernel
theorem c92_170 : am_find am_ctL (am_mc 92) 170 = some (0, 48) ∧ am_na 48 = 2 ∧ am_fr 48 + 1 ≤ am_fr 92 ∧ 8 + (am_maxL 48 + 11) + am_lo 48 ≤ am_lo 92 := by decide +kernel
theorem c92_174 : am_find am_ctL (am_mc 92) 174 = some (0, 49) ∧ am_na 49 = 2 ∧ am_fr 49 + 1 ≤ am_fr 92 ∧ 8 + (am_maxL 49 + 11) + am_lo 49 ≤ am_lo 92 := by decide +kernel
theorem l92 : am_maxL 92 = 3 := by decide +kernel
theorem t92 : am_ret 92 = (some .int) := by decide +kernel
/-! ThirdSheets.drop()I is 93 -/
theorem d93_0 : decode (am_code 93) 0 = .ok (.aload_n 0, 1) := by decide +kernel
theorem d93_1 : decode (am_code 93) 1 = .ok (.getfield 33, 3) := by decide +kernel
theorem d93_4 : decode (am_code 93) 4 = .ok (.invokevirtual 178, 3) := by decide +kernel
theorem d93_7 : decode (am_code 93) 7 = .ok (.istore_n 1, 1) := by decide +kernel
theorem d93_8 : decode (am_code 93) 8 = .ok (.aload_n 0, 1) := by decide +kernel
theorem d93_9 : decode (am_code 93) 9 = .ok (.getfield 33, 3) := by decide +kernel
theorem d93_12 : decode (am_code 93) 12 = .ok (.invokevirtual 58, 3) := by decide +kernel
theorem d93_15 : decode (am_code 93) 15 = .ok (.aload_n 0, 1) := by decide +kernel
theorem d93_16 : decode (am_code 93) 16 = .ok (.iconst 1, 1) := by decide +kernel
theorem d93_17 : decode (am_code 93) 17 = .ok (.putfield 48, 3) := by decide +kernel
theorem d93_20 : decode (am_code 93) 20 = .ok (.iload_n 1, 1) := by decide +kernel
theorem d93_21 : decode (am_code 93) 21 = .ok (.ireturn, 1) := by decide +kernel
theorem f93_33 : am_find am_ftL (am_mc 93) 33 = some (6, 3) := by decide +kernel
theorem f93_48 : am_find am_ftL (am_mc 93) 48 = some (6, 6) := by decide +kernel
theorem c93_178 : am_find am_ctL (am_mc 93) 178 = some (0, 46) ∧ am_na 46 = 0 ∧ am_fr 46 + 1 ≤ am_fr 93 ∧ 8 + (am_maxL 46 + 11) + am_lo 46 ≤ am_lo 93 := by decide +kernel
theorem c93_58 : am_find am_ctL (am_mc 93) 58 = some (0, 45) ∧ am_na 45 = 0 ∧ am_fr 45 + 1 ≤ am_fr 93 ∧ 8 + (am_maxL 45 + 11) + am_lo 45 ≤ am_lo 93 := by decide +kernel
theorem l93 : am_maxL 93 = 2 := by decide +kernel
theorem t93 : am_ret 93 = (some .int) := by decide +kernel
/-! ThirdSheets.legal()I is 94 -/
theorem d94_0 : decode (am_code 94) 0 = .ok (.aload_n 0, 1) := by decide +kernel
theorem d94_1 : decode (am_code 94) 1 = .ok (.getfield 33, 3) := by decide +kernel
theorem d94_4 : decode (am_code 94) 4 = .ok (.aload_n 0, 1) := by decide +kernel
theorem d94_5 : decode (am_code 94) 5 = .ok (.getfield 10, 3) := by decide +kernel
theorem d94_8 : decode (am_code 94) 8 = .ok (.invokevirtual 181, 3) := by decide +kernel
theorem d94_11 : decode (am_code 94) 11 = .ok (.ifCond .ne 5, 3) := by decide +kernel
theorem d94_14 : decode (am_code 94) 14 = .ok (.iconst 1, 1) := by decide +kernel
theorem d94_15 : decode (am_code 94) 15 = .ok (.ireturn, 1) := by decide +kernel
theorem d94_16 : decode (am_code 94) 16 = .ok (.aload_n 0, 1) := by decide +kernel
theorem d94_17 : decode (am_code 94) 17 = .ok (.getfield 33, 3) := by decide +kernel
theorem d94_20 : decode (am_code 94) 20 = .ok (.invokevirtual 185, 3) := by decide +kernel
theorem d94_23 : decode (am_code 94) 23 = .ok (.ifCond .eq 7, 3) := by decide +kernel
theorem d94_26 : decode (am_code 94) 26 = .ok (.iconst 2, 1) := by decide +kernel
theorem d94_27 : decode (am_code 94) 27 = .ok (.goto 4, 3) := by decide +kernel
theorem d94_30 : decode (am_code 94) 30 = .ok (.iconst 0, 1) := by decide +kernel
theorem d94_31 : decode (am_code 94) 31 = .ok (.ireturn, 1) := by decide +kernel
theorem f94_33 : am_find am_ftL (am_mc 94) 33 = some (6, 3) := by decide +kernel
theorem f94_10 : am_find am_ftL (am_mc 94) 10 = some (6, 0) := by decide +kernel
theorem c94_181 : am_find am_ctL (am_mc 94) 181 = some (0, 51) ∧ am_na 51 = 1 ∧ am_fr 51 + 1 ≤ am_fr 94 ∧ 8 + (am_maxL 51 + 11) + am_lo 51 ≤ am_lo 94 := by decide +kernel
theorem c94_185 : am_find am_ctL (am_mc 94) 185 = some (0, 53) ∧ am_na 53 = 0 ∧ am_fr 53 + 1 ≤ am_fr 94 ∧ 8 + (am_maxL 53 + 11) + am_lo 53 ≤ am_lo 94 := by decide +kernel
theorem l94 : am_maxL 94 = 1 := by decide +kernel
theorem t94 : am_ret 94 = (some .int) := by decide +kernel
/-! ThirdSheets.euler()I is 95 -/
theorem d95_0 : decode (am_code 95) 0 = .ok (.aload_n 0, 1) := by decide +kernel
theorem d95_1 : decode (am_code 95) 1 = .ok (.getfield 33, 3) := by decide +kernel
theorem d95_4 : decode (am_code 95) 4 = .ok (.aload_n 0, 1) := by decide +kernel
theorem d95_5 : decode (am_code 95) 5 = .ok (.getfield 10, 3) := by decide +kernel
theorem d95_8 : decode (am_code 95) 8 = .ok (.invokevirtual 188, 3) := by decide +kernel
theorem d95_11 : decode (am_code 95) 11 = .ok (.ifCond .eq 17, 3) := by decide +kernel
theorem d95_14 : decode (am_code 95) 14 = .ok (.aload_n 0, 1) := by decide +kernel
theorem d95_15 : decode (am_code 95) 15 = .ok (.getfield 33, 3) := by decide +kernel
theorem d95_18 : decode (am_code 95) 18 = .ok (.aload_n 0, 1) := by decide +kernel
theorem d95_19 : decode (am_code 95) 19 = .ok (.getfield 10, 3) := by decide +kernel
theorem d95_22 : decode (am_code 95) 22 = .ok (.invokevirtual 191, 3) := by decide +kernel
theorem d95_25 : decode (am_code 95) 25 = .ok (.goto 5, 3) := by decide +kernel
theorem d95_28 : decode (am_code 95) 28 = .ok (.ldc 111, 2) := by decide +kernel
theorem d95_30 : decode (am_code 95) 30 = .ok (.ireturn, 1) := by decide +kernel
theorem f95_33 : am_find am_ftL (am_mc 95) 33 = some (6, 3) := by decide +kernel
theorem f95_10 : am_find am_ftL (am_mc 95) 10 = some (6, 0) := by decide +kernel
theorem c95_188 : am_find am_ctL (am_mc 95) 188 = some (0, 50) ∧ am_na 50 = 1 ∧ am_fr 50 + 1 ≤ am_fr 95 ∧ 8 + (am_maxL 50 + 11) + am_lo 50 ≤ am_lo 95 := by decide +kernel
theorem c95_191 : am_find am_ctL (am_mc 95) 191 = some (0, 54) ∧ am_na 54 = 1 ∧ am_fr 54 + 1 ≤ am_fr 95 ∧ 8 + (am_maxL 54 + 11) + am_lo 54 ≤ am_lo 95 := by decide +kernel
theorem l95 : am_maxL 95 = 1 := by decide +kernel
theorem t95 : am_ret 95 = (some .int) := by decide +kernel
/-! ThirdSheets.parts()I is 96 -/
theorem d96_0 : decode (am_code 96) 0 = .ok (.aload_n 0, 1) := by decide +kernel
theorem d96_1 : decode (am_code 96) 1 = .ok (.getfield 33, 3) := by decide +kernel
theorem d96_4 : decode (am_code 96) 4 = .ok (.aload_n 0, 1) := by decide +kernel
theorem d96_5 : decode (am_code 96) 5 = .ok (.getfield 10, 3) := by decide +kernel
theorem d96_8 : decode (am_code 96) 8 = .ok (.invokevirtual 188, 3) := by decide +kernel
theorem d96_11 : decode (am_code 96) 11 = .ok (.ifCond .ne 6, 3) := by decide +kernel
theorem d96_14 : decode (am_code 96) 14 = .ok (.bipush (-3), 2) := by decide +kernel
theorem d96_16 : decode (am_code 96) 16 = .ok (.ireturn, 1) := by decide +kernel
theorem d96_17 : decode (am_code 96) 17 = .ok (.aload_n 0, 1) := by decide +kernel
theorem d96_18 : decode (am_code 96) 18 = .ok (.getfield 33, 3) := by decide +kernel
theorem d96_21 : decode (am_code 96) 21 = .ok (.invokevirtual 194, 3) := by decide +kernel
theorem d96_24 : decode (am_code 96) 24 = .ok (.sipush 400, 3) := by decide +kernel
theorem d96_27 : decode (am_code 96) 27 = .ok (.if_icmp .le 6, 3) := by decide +kernel
theorem d96_30 : decode (am_code 96) 30 = .ok (.bipush (-4), 2) := by decide +kernel
theorem d96_32 : decode (am_code 96) 32 = .ok (.ireturn, 1) := by decide +kernel
theorem d96_33 : decode (am_code 96) 33 = .ok (.aload_n 0, 1) := by decide +kernel
theorem d96_34 : decode (am_code 96) 34 = .ok (.invokevirtual 197, 3) := by decide +kernel
theorem d96_37 : decode (am_code 96) 37 = .ok (.aload_n 0, 1) := by decide +kernel
theorem d96_38 : decode (am_code 96) 38 = .ok (.getfield 40, 3) := by decide +kernel
theorem d96_41 : decode (am_code 96) 41 = .ok (.getfield 200, 3) := by decide +kernel
theorem d96_44 : decode (am_code 96) 44 = .ok (.getfield 105, 3) := by decide +kernel
theorem d96_47 : decode (am_code 96) 47 = .ok (.ireturn, 1) := by decide +kernel
theorem f96_33 : am_find am_ftL (am_mc 96) 33 = some (6, 3) := by decide +kernel
theorem f96_10 : am_find am_ftL (am_mc 96) 10 = some (6, 0) := by decide +kernel
theorem f96_40 : am_find am_ftL (am_mc 96) 40 = some (6, 4) := by decide +kernel
theorem f96_200 : am_find am_ftL (am_mc 96) 200 = some (3, 0) := by decide +kernel
theorem f96_105 : am_find am_ftL (am_mc 96) 105 = some (0, 6) := by decide +kernel
theorem c96_188 : am_find am_ctL (am_mc 96) 188 = some (0, 50) ∧ am_na 50 = 1 ∧ am_fr 50 + 1 ≤ am_fr 96 ∧ 8 + (am_maxL 50 + 11) + am_lo 50 ≤ am_lo 96 := by decide +kernel
theorem c96_194 : am_find am_ctL (am_mc 96) 194 = some (0, 47) ∧ am_na 47 = 0 ∧ am_fr 47 + 1 ≤ am_fr 96 ∧ 8 + (am_maxL 47 + 11) + am_lo 47 ≤ am_lo 96 := by decide +kernel
theorem c96_197 : am_find am_ctL (am_mc 96) 197 = some (0, 105) ∧ am_na 105 = 0 ∧ am_fr 105 + 1 ≤ am_fr 96 ∧ 8 + (am_maxL 105 + 11) + am_lo 105 ≤ am_lo 96 := by decide +kernel
theorem l96 : am_maxL 96 = 1 := by decide +kernel
theorem t96 : am_ret 96 = (some .int) := by decide +kernel
/-! ThirdSheets.part(II)I is 97 -/
theorem d97_0 : decode (am_code 97) 0 = .ok (.iload_n 1, 1) := by decide +kernel
theorem d97_1 : decode (am_code 97) 1 = .ok (.ifCond .lt 12, 3) := by decide +kernel
theorem d97_4 : decode (am_code 97) 4 = .ok (.iload_n 2, 1) := by decide +kernel
theorem d97_5 : decode (am_code 97) 5 = .ok (.ifCond .lt 8, 3) := by decide +kernel
theorem d97_8 : decode (am_code 97) 8 = .ok (.iload_n 2, 1) := by decide +kernel
theorem d97_9 : decode (am_code 97) 9 = .ok (.iconst 2, 1) := by decide +kernel
theorem d97_10 : decode (am_code 97) 10 = .ok (.if_icmp .le 6, 3) := by decide +kernel
theorem d97_13 : decode (am_code 97) 13 = .ok (.ldc 111, 2) := by decide +kernel
theorem d97_15 : decode (am_code 97) 15 = .ok (.ireturn, 1) := by decide +kernel
theorem d97_16 : decode (am_code 97) 16 = .ok (.aload_n 0, 1) := by decide +kernel
theorem d97_17 : decode (am_code 97) 17 = .ok (.getfield 33, 3) := by decide +kernel
theorem d97_20 : decode (am_code 97) 20 = .ok (.aload_n 0, 1) := by decide +kernel
theorem d97_21 : decode (am_code 97) 21 = .ok (.getfield 10, 3) := by decide +kernel
theorem d97_24 : decode (am_code 97) 24 = .ok (.invokevirtual 188, 3) := by decide +kernel
theorem d97_27 : decode (am_code 97) 27 = .ok (.ifCond .eq 16, 3) := by decide +kernel
theorem d97_30 : decode (am_code 97) 30 = .ok (.aload_n 0, 1) := by decide +kernel
theorem d97_31 : decode (am_code 97) 31 = .ok (.getfield 33, 3) := by decide +kernel
theorem d97_34 : decode (am_code 97) 34 = .ok (.invokevirtual 194, 3) := by decide +kernel
theorem d97_37 : decode (am_code 97) 37 = .ok (.sipush 400, 3) := by decide +kernel
theorem d97_40 : decode (am_code 97) 40 = .ok (.if_icmp .le 6, 3) := by decide +kernel
theorem d97_43 : decode (am_code 97) 43 = .ok (.ldc 111, 2) := by decide +kernel
theorem d97_45 : decode (am_code 97) 45 = .ok (.ireturn, 1) := by decide +kernel
theorem d97_46 : decode (am_code 97) 46 = .ok (.aload_n 0, 1) := by decide +kernel
theorem d97_47 : decode (am_code 97) 47 = .ok (.invokevirtual 197, 3) := by decide +kernel
theorem d97_50 : decode (am_code 97) 50 = .ok (.iload_n 1, 1) := by decide +kernel
theorem d97_51 : decode (am_code 97) 51 = .ok (.aload_n 0, 1) := by decide +kernel
theorem d97_52 : decode (am_code 97) 52 = .ok (.getfield 40, 3) := by decide +kernel
theorem d97_55 : decode (am_code 97) 55 = .ok (.getfield 200, 3) := by decide +kernel
theorem d97_58 : decode (am_code 97) 58 = .ok (.getfield 105, 3) := by decide +kernel
theorem d97_61 : decode (am_code 97) 61 = .ok (.if_icmp .lt 6, 3) := by decide +kernel
theorem d97_64 : decode (am_code 97) 64 = .ok (.ldc 111, 2) := by decide +kernel
theorem d97_66 : decode (am_code 97) 66 = .ok (.ireturn, 1) := by decide +kernel
theorem d97_67 : decode (am_code 97) 67 = .ok (.iload_n 2, 1) := by decide +kernel
theorem d97_68 : decode (am_code 97) 68 = .ok (.lookupswitch 48 #[(0, 28), (1, 38)], 28) := by decide +kernel
theorem d97_96 : decode (am_code 97) 96 = .ok (.aload_n 0, 1) := by decide +kernel
theorem d97_97 : decode (am_code 97) 97 = .ok (.getfield 40, 3) := by decide +kernel
theorem d97_100 : decode (am_code 97) 100 = .ok (.getfield 203, 3) := by decide +kernel
theorem d97_103 : decode (am_code 97) 103 = .ok (.iload_n 1, 1) := by decide +kernel
theorem d97_104 : decode (am_code 97) 104 = .ok (.iaload, 1) := by decide +kernel
theorem d97_105 : decode (am_code 97) 105 = .ok (.ireturn, 1) := by decide +kernel
theorem d97_106 : decode (am_code 97) 106 = .ok (.aload_n 0, 1) := by decide +kernel
theorem d97_107 : decode (am_code 97) 107 = .ok (.getfield 40, 3) := by decide +kernel
theorem d97_110 : decode (am_code 97) 110 = .ok (.getfield 206, 3) := by decide +kernel
theorem d97_113 : decode (am_code 97) 113 = .ok (.iload_n 1, 1) := by decide +kernel
theorem d97_114 : decode (am_code 97) 114 = .ok (.iaload, 1) := by decide +kernel
theorem d97_115 : decode (am_code 97) 115 = .ok (.ireturn, 1) := by decide +kernel
theorem d97_116 : decode (am_code 97) 116 = .ok (.aload_n 0, 1) := by decide +kernel
theorem d97_117 : decode (am_code 97) 117 = .ok (.getfield 40, 3) := by decide +kernel
theorem d97_120 : decode (am_code 97) 120 = .ok (.getfield 200, 3) := by decide +kernel
theorem d97_123 : decode (am_code 97) 123 = .ok (.iload_n 1, 1) := by decide +kernel
theorem d97_124 : decode (am_code 97) 124 = .ok (.invokevirtual 108, 3) := by decide +kernel
theorem d97_127 : decode (am_code 97) 127 = .ok (.ifCond .eq 7, 3) := by decide +kernel
theorem d97_130 : decode (am_code 97) 130 = .ok (.iconst 0, 1) := by decide +kernel
theorem d97_131 : decode (am_code 97) 131 = .ok (.goto 4, 3) := by decide +kernel
theorem d97_134 : decode (am_code 97) 134 = .ok (.iconst 1, 1) := by decide +kernel
theorem d97_135 : decode (am_code 97) 135 = .ok (.ireturn, 1) := by decide +kernel
theorem f97_33 : am_find am_ftL (am_mc 97) 33 = some (6, 3) := by decide +kernel
theorem f97_10 : am_find am_ftL (am_mc 97) 10 = some (6, 0) := by decide +kernel
theorem f97_40 : am_find am_ftL (am_mc 97) 40 = some (6, 4) := by decide +kernel
theorem f97_200 : am_find am_ftL (am_mc 97) 200 = some (3, 0) := by decide +kernel
theorem f97_105 : am_find am_ftL (am_mc 97) 105 = some (0, 6) := by decide +kernel
theorem f97_203 : am_find am_ftL (am_mc 97) 203 = some (3, 2) := by decide +kernel
theorem f97_206 : am_find am_ftL (am_mc 97) 206 = some (3, 3) := by decide +kernel
theorem c97_188 : am_find am_ctL (am_mc 97) 188 = some (0, 50) ∧ am_na 50 = 1 ∧ am_fr 50 + 1 ≤ am_fr 97 ∧ 8 + (am_maxL 50 + 11) + am_lo 50 ≤ am_lo 97 := by decide +kernel
theorem c97_194 : am_find am_ctL (am_mc 97) 194 = some (0, 47) ∧ am_na 47 = 0 ∧ am_fr 47 + 1 ≤ am_fr 97 ∧ 8 + (am_maxL 47 + 11) + am_lo 47 ≤ am_lo 97 := by decide +kernel
theorem c97_197 : am_find am_ctL (am_mc 97) 197 = some (0, 105) ∧ am_na 105 = 0 ∧ am_fr 105 + 1 ≤ am_fr 97 ∧ 8 + (am_maxL 105 + 11) + am_lo 105 ≤ am_lo 97 := by decide +kernel
theorem c97_108 : am_find am_ctL (am_mc 97) 108 = some (0, 5) ∧ am_na 5 = 1 ∧ am_fr 5 + 1 ≤ am_fr 97 ∧ 8 + (am_maxL 5 + 11) + am_lo 5 ≤ am_lo 97 := by decide +kernel
theorem l97 : am_maxL 97 = 3 := by decide +kernel
theorem t97 : am_ret 97 = (some .int) := by decide +kernel
/-! ThirdSheets.hasPiece(I)Z is 98 -/
theorem d98_0 : decode (am_code 98) 0 = .ok (.iload_n 1, 1) := by decide +kernel
theorem d98_1 : decode (am_code 98) 1 = .ok (.ifCond .lt 18, 3) := by decide +kernel
theorem d98_4 : decode (am_code 98) 4 = .ok (.iload_n 1, 1) := by decide +kernel
theorem d98_5 : decode (am_code 98) 5 = .ok (.aload_n 0, 1) := by decide +kernel
theorem d98_6 : decode (am_code 98) 6 = .ok (.getfield 10, 3) := by decide +kernel
theorem d98_9 : decode (am_code 98) 9 = .ok (.getfield 51, 3) := by decide +kernel
theorem d98_12 : decode (am_code 98) 12 = .ok (.if_icmp .ge 7, 3) := by decide +kernel
theorem d98_15 : decode (am_code 98) 15 = .ok (.iconst 1, 1) := by decide +kernel
theorem d98_16 : decode (am_code 98) 16 = .ok (.goto 4, 3) := by decide +kernel
theorem d98_19 : decode (am_code 98) 19 = .ok (.iconst 0, 1) := by decide +kernel
theorem d98_20 : decode (am_code 98) 20 = .ok (.ireturn, 1) := by decide +kernel
theorem f98_10 : am_find am_ftL (am_mc 98) 10 = some (6, 0) := by decide +kernel
theorem f98_51 : am_find am_ftL (am_mc 98) 51 = some (5, 0) := by decide +kernel
theorem l98 : am_maxL 98 = 2 := by decide +kernel
theorem t98 : am_ret 98 = (some .boolean) := by decide +kernel
/-! ThirdSheets.hasSide(II)Z is 99 -/
theorem d99_0 : decode (am_code 99) 0 = .ok (.aload_n 0, 1) := by decide +kernel
theorem d99_1 : decode (am_code 99) 1 = .ok (.iload_n 1, 1) := by decide +kernel
theorem d99_2 : decode (am_code 99) 2 = .ok (.invokevirtual 90, 3) := by decide +kernel
theorem d99_5 : decode (am_code 99) 5 = .ok (.ifCond .eq 16, 3) := by decide +kernel
theorem d99_8 : decode (am_code 99) 8 = .ok (.iload_n 2, 1) := by decide +kernel
theorem d99_9 : decode (am_code 99) 9 = .ok (.ifCond .lt 12, 3) := by decide +kernel
theorem d99_12 : decode (am_code 99) 12 = .ok (.iload_n 2, 1) := by decide +kernel
theorem d99_13 : decode (am_code 99) 13 = .ok (.iconst 4, 1) := by decide +kernel
theorem d99_14 : decode (am_code 99) 14 = .ok (.if_icmp .ge 7, 3) := by decide +kernel
theorem d99_17 : decode (am_code 99) 17 = .ok (.iconst 1, 1) := by decide +kernel
theorem d99_18 : decode (am_code 99) 18 = .ok (.goto 4, 3) := by decide +kernel
theorem d99_21 : decode (am_code 99) 21 = .ok (.iconst 0, 1) := by decide +kernel
theorem d99_22 : decode (am_code 99) 22 = .ok (.ireturn, 1) := by decide +kernel
theorem c99_90 : am_find am_ctL (am_mc 99) 90 = some (0, 98) ∧ am_na 98 = 1 ∧ am_fr 98 + 1 ≤ am_fr 99 ∧ 8 + (am_maxL 98 + 11) + am_lo 98 ≤ am_lo 99 := by decide +kernel
theorem l99 : am_maxL 99 = 3 := by decide +kernel
theorem t99 : am_ret 99 = (some .boolean) := by decide +kernel
/-! ThirdSheets.hasNumber(I)Z is 100 -/
theorem d100_0 : decode (am_code 100) 0 = .ok (.iload_n 1, 1) := by decide +kernel
theorem d100_1 : decode (am_code 100) 1 = .ok (.ifCond .lt 21, 3) := by decide +kernel
theorem d100_4 : decode (am_code 100) 4 = .ok (.iload_n 1, 1) := by decide +kernel
theorem d100_5 : decode (am_code 100) 5 = .ok (.bipush 7, 2) := by decide +kernel
theorem d100_7 : decode (am_code 100) 7 = .ok (.aload_n 0, 1) := by decide +kernel
theorem d100_8 : decode (am_code 100) 8 = .ok (.getfield 10, 3) := by decide +kernel
theorem d100_11 : decode (am_code 100) 11 = .ok (.getfield 51, 3) := by decide +kernel
theorem d100_14 : decode (am_code 100) 14 = .ok (.imul, 1) := by decide +kernel
theorem d100_15 : decode (am_code 100) 15 = .ok (.if_icmp .ge 7, 3) := by decide +kernel
theorem d100_18 : decode (am_code 100) 18 = .ok (.iconst 1, 1) := by decide +kernel
theorem d100_19 : decode (am_code 100) 19 = .ok (.goto 4, 3) := by decide +kernel
theorem d100_22 : decode (am_code 100) 22 = .ok (.iconst 0, 1) := by decide +kernel
theorem d100_23 : decode (am_code 100) 23 = .ok (.ireturn, 1) := by decide +kernel
theorem f100_10 : am_find am_ftL (am_mc 100) 10 = some (6, 0) := by decide +kernel
theorem f100_51 : am_find am_ftL (am_mc 100) 51 = some (5, 0) := by decide +kernel
theorem l100 : am_maxL 100 = 2 := by decide +kernel
theorem t100 : am_ret 100 = (some .boolean) := by decide +kernel
/-! ThirdSheets.hasLeast(I)Z is 101 -/
theorem d101_0 : decode (am_code 101) 0 = .ok (.iload_n 1, 1) := by decide +kernel
theorem d101_1 : decode (am_code 101) 1 = .ok (.ifCond .lt 18, 3) := by decide +kernel
theorem d101_4 : decode (am_code 101) 4 = .ok (.iload_n 1, 1) := by decide +kernel
theorem d101_5 : decode (am_code 101) 5 = .ok (.aload_n 0, 1) := by decide +kernel
theorem d101_6 : decode (am_code 101) 6 = .ok (.getfield 26, 3) := by decide +kernel
theorem d101_9 : decode (am_code 101) 9 = .ok (.getfield 155, 3) := by decide +kernel
theorem d101_12 : decode (am_code 101) 12 = .ok (.if_icmp .ge 7, 3) := by decide +kernel
theorem d101_15 : decode (am_code 101) 15 = .ok (.iconst 1, 1) := by decide +kernel
theorem d101_16 : decode (am_code 101) 16 = .ok (.goto 4, 3) := by decide +kernel
theorem d101_19 : decode (am_code 101) 19 = .ok (.iconst 0, 1) := by decide +kernel
theorem d101_20 : decode (am_code 101) 20 = .ok (.ireturn, 1) := by decide +kernel
theorem f101_26 : am_find am_ftL (am_mc 101) 26 = some (6, 2) := by decide +kernel
theorem f101_155 : am_find am_ftL (am_mc 101) 155 = some (1, 1) := by decide +kernel
theorem l101 : am_maxL 101 = 2 := by decide +kernel
theorem t101 : am_ret 101 = (some .boolean) := by decide +kernel
/-! ThirdSheets.goesOnto(II)Z is 102 -/
theorem d102_0 : decode (am_code 102) 0 = .ok (.iload_n 0, 1) := by decide +kernel
theorem d102_1 : decode (am_code 102) 1 = .ok (.ifCond .lt 9, 3) := by decide +kernel
theorem d102_4 : decode (am_code 102) 4 = .ok (.iload_n 0, 1) := by decide +kernel
theorem d102_5 : decode (am_code 102) 5 = .ok (.bipush 63, 2) := by decide +kernel
theorem d102_7 : decode (am_code 102) 7 = .ok (.if_icmp .le 5, 3) := by decide +kernel
theorem d102_10 : decode (am_code 102) 10 = .ok (.iconst 0, 1) := by decide +kernel
theorem d102_11 : decode (am_code 102) 11 = .ok (.ireturn, 1) := by decide +kernel
theorem d102_12 : decode (am_code 102) 12 = .ok (.iconst 1, 1) := by decide +kernel
theorem d102_13 : decode (am_code 102) 13 = .ok (.iload_n 0, 1) := by decide +kernel
theorem d102_14 : decode (am_code 102) 14 = .ok (.iconst 3, 1) := by decide +kernel
theorem d102_15 : decode (am_code 102) 15 = .ok (.iand, 1) := by decide +kernel
theorem d102_16 : decode (am_code 102) 16 = .ok (.ishl, 1) := by decide +kernel
theorem d102_17 : decode (am_code 102) 17 = .ok (.iconst 1, 1) := by decide +kernel
theorem d102_18 : decode (am_code 102) 18 = .ok (.iload_n 0, 1) := by decide +kernel
theorem d102_19 : decode (am_code 102) 19 = .ok (.iconst 2, 1) := by decide +kernel
theorem d102_20 : decode (am_code 102) 20 = .ok (.ishr, 1) := by decide +kernel
theorem d102_21 : decode (am_code 102) 21 = .ok (.iconst 3, 1) := by decide +kernel
theorem d102_22 : decode (am_code 102) 22 = .ok (.iand, 1) := by decide +kernel
theorem d102_23 : decode (am_code 102) 23 = .ok (.ishl, 1) := by decide +kernel
theorem d102_24 : decode (am_code 102) 24 = .ok (.ior, 1) := by decide +kernel
theorem d102_25 : decode (am_code 102) 25 = .ok (.iconst 1, 1) := by decide +kernel
theorem d102_26 : decode (am_code 102) 26 = .ok (.iload_n 0, 1) := by decide +kernel
theorem d102_27 : decode (am_code 102) 27 = .ok (.iconst 4, 1) := by decide +kernel
theorem d102_28 : decode (am_code 102) 28 = .ok (.ishr, 1) := by decide +kernel
theorem d102_29 : decode (am_code 102) 29 = .ok (.iconst 3, 1) := by decide +kernel
theorem d102_30 : decode (am_code 102) 30 = .ok (.iand, 1) := by decide +kernel
theorem d102_31 : decode (am_code 102) 31 = .ok (.ishl, 1) := by decide +kernel
theorem d102_32 : decode (am_code 102) 32 = .ok (.ior, 1) := by decide +kernel
theorem d102_33 : decode (am_code 102) 33 = .ok (.iconst 1, 1) := by decide +kernel
theorem d102_34 : decode (am_code 102) 34 = .ok (.iload_n 1, 1) := by decide +kernel
theorem d102_35 : decode (am_code 102) 35 = .ok (.ishl, 1) := by decide +kernel
theorem d102_36 : decode (am_code 102) 36 = .ok (.ior, 1) := by decide +kernel
theorem d102_37 : decode (am_code 102) 37 = .ok (.istore_n 2, 1) := by decide +kernel
theorem d102_38 : decode (am_code 102) 38 = .ok (.iload_n 2, 1) := by decide +kernel
theorem d102_39 : decode (am_code 102) 39 = .ok (.bipush 15, 2) := by decide +kernel
theorem d102_41 : decode (am_code 102) 41 = .ok (.if_icmp .ne 7, 3) := by decide +kernel
theorem d102_44 : decode (am_code 102) 44 = .ok (.iconst 1, 1) := by decide +kernel
theorem d102_45 : decode (am_code 102) 45 = .ok (.goto 4, 3) := by decide +kernel
theorem d102_48 : decode (am_code 102) 48 = .ok (.iconst 0, 1) := by decide +kernel
theorem d102_49 : decode (am_code 102) 49 = .ok (.ireturn, 1) := by decide +kernel
theorem l102 : am_maxL 102 = 3 := by decide +kernel
theorem t102 : am_ret 102 = (some .boolean) := by decide +kernel
/-! ThirdSheets.spaceChanged()V is 103 -/
theorem d103_0 : decode (am_code 103) 0 = .ok (.aload_n 0, 1) := by decide +kernel
theorem d103_1 : decode (am_code 103) 1 = .ok (.getfield 10, 3) := by decide +kernel
theorem d103_4 : decode (am_code 103) 4 = .ok (.invokevirtual 209, 3) := by decide +kernel
theorem d103_7 : decode (am_code 103) 7 = .ok (.aload_n 0, 1) := by decide +kernel
theorem d103_8 : decode (am_code 103) 8 = .ok (.iconst 1, 1) := by decide +kernel
theorem d103_9 : decode (am_code 103) 9 = .ok (.putfield 44, 3) := by decide +kernel
theorem d103_12 : decode (am_code 103) 12 = .ok (.aload_n 0, 1) := by decide +kernel
theorem d103_13 : decode (am_code 103) 13 = .ok (.iconst 1, 1) := by decide +kernel
theorem d103_14 : decode (am_code 103) 14 = .ok (.putfield 48, 3) := by decide +kernel
theorem d103_17 : decode (am_code 103) 17 = .ok (.return_, 1) := by decide +kernel
theorem f103_10 : am_find am_ftL (am_mc 103) 10 = some (6, 0) := by decide +kernel
theorem f103_44 : am_find am_ftL (am_mc 103) 44 = some (6, 5) := by decide +kernel
theorem f103_48 : am_find am_ftL (am_mc 103) 48 = some (6, 6) := by decide +kernel
theorem c103_209 : am_find am_ctL (am_mc 103) 209 = some (0, 65) ∧ am_na 65 = 0 ∧ am_fr 65 + 1 ≤ am_fr 103 ∧ 8 + (am_maxL 65 + 11) + am_lo 65 ≤ am_lo 103 := by decide +kernel
theorem l103 : am_maxL 103 = 1 := by decide +kernel
theorem t103 : am_ret 103 = none := by decide +kernel
/-! ThirdSheets.freshenLeast()V is 104 -/
theorem d104_0 : decode (am_code 104) 0 = .ok (.aload_n 0, 1) := by decide +kernel
theorem d104_1 : decode (am_code 104) 1 = .ok (.getfield 44, 3) := by decide +kernel
theorem d104_4 : decode (am_code 104) 4 = .ok (.ifCond .eq 19, 3) := by decide +kernel
theorem d104_7 : decode (am_code 104) 7 = .ok (.aload_n 0, 1) := by decide +kernel
theorem d104_8 : decode (am_code 104) 8 = .ok (.getfield 26, 3) := by decide +kernel
theorem d104_11 : decode (am_code 104) 11 = .ok (.aload_n 0, 1) := by decide +kernel
theorem d104_12 : decode (am_code 104) 12 = .ok (.getfield 10, 3) := by decide +kernel
theorem d104_15 : decode (am_code 104) 15 = .ok (.invokevirtual 212, 3) := by decide +kernel
theorem d104_18 : decode (am_code 104) 18 = .ok (.aload_n 0, 1) := by decide +kernel
theorem d104_19 : decode (am_code 104) 19 = .ok (.iconst 0, 1) := by decide +kernel
theorem d104_20 : decode (am_code 104) 20 = .ok (.putfield 44, 3) := by decide +kernel
theorem d104_23 : decode (am_code 104) 23 = .ok (.return_, 1) := by decide +kernel
theorem f104_44 : am_find am_ftL (am_mc 104) 44 = some (6, 5) := by decide +kernel
theorem f104_26 : am_find am_ftL (am_mc 104) 26 = some (6, 2) := by decide +kernel
theorem f104_10 : am_find am_ftL (am_mc 104) 10 = some (6, 0) := by decide +kernel
theorem c104_212 : am_find am_ctL (am_mc 104) 212 = some (0, 8) ∧ am_na 8 = 1 ∧ am_fr 8 + 1 ≤ am_fr 104 ∧ 8 + (am_maxL 8 + 11) + am_lo 8 ≤ am_lo 104 := by decide +kernel
theorem l104 : am_maxL 104 = 1 := by decide +kernel
theorem t104 : am_ret 104 = none := by decide +kernel
/-! ThirdSheets.freshenParts()V is 105 -/
theorem d105_0 : decode (am_code 105) 0 = .ok (.aload_n 0, 1) := by decide +kernel
theorem d105_1 : decode (am_code 105) 1 = .ok (.getfield 48, 3) := by decide +kernel
theorem d105_4 : decode (am_code 105) 4 = .ok (.ifCond .eq 26, 3) := by decide +kernel
theorem d105_7 : decode (am_code 105) 7 = .ok (.aload_n 0, 1) := by decide +kernel
theorem d105_8 : decode (am_code 105) 8 = .ok (.getfield 40, 3) := by decide +kernel
theorem d105_11 : decode (am_code 105) 11 = .ok (.aload_n 0, 1) := by decide +kernel
theorem d105_12 : decode (am_code 105) 12 = .ok (.getfield 10, 3) := by decide +kernel
theorem d105_15 : decode (am_code 105) 15 = .ok (.aload_n 0, 1) := by decide +kernel
theorem d105_16 : decode (am_code 105) 16 = .ok (.getfield 33, 3) := by decide +kernel
theorem d105_19 : decode (am_code 105) 19 = .ok (.getfield 168, 3) := by decide +kernel
theorem d105_22 : decode (am_code 105) 22 = .ok (.invokevirtual 213, 3) := by decide +kernel
theorem d105_25 : decode (am_code 105) 25 = .ok (.aload_n 0, 1) := by decide +kernel
theorem d105_26 : decode (am_code 105) 26 = .ok (.iconst 0, 1) := by decide +kernel
theorem d105_27 : decode (am_code 105) 27 = .ok (.putfield 48, 3) := by decide +kernel
theorem d105_30 : decode (am_code 105) 30 = .ok (.return_, 1) := by decide +kernel
theorem f105_48 : am_find am_ftL (am_mc 105) 48 = some (6, 6) := by decide +kernel
theorem f105_40 : am_find am_ftL (am_mc 105) 40 = some (6, 4) := by decide +kernel
theorem f105_10 : am_find am_ftL (am_mc 105) 10 = some (6, 0) := by decide +kernel
theorem f105_33 : am_find am_ftL (am_mc 105) 33 = some (6, 3) := by decide +kernel
theorem f105_168 : am_find am_ftL (am_mc 105) 168 = some (4, 0) := by decide +kernel
theorem c105_213 : am_find am_ctL (am_mc 105) 213 = some (0, 35) ∧ am_na 35 = 2 ∧ am_fr 35 + 1 ≤ am_fr 105 ∧ 8 + (am_maxL 35 + 11) + am_lo 35 ≤ am_lo 105 := by decide +kernel
theorem l105 : am_maxL 105 = 1 := by decide +kernel
theorem t105 : am_ret 105 = none := by decide +kernel
/-! ThirdSheets.arcsAround([III)I is 106 -/
theorem d106_0 : decode (am_code 106) 0 = .ok (.bipush 7, 2) := by decide +kernel
theorem d106_2 : decode (am_code 106) 2 = .ok (.iload_n 1, 1) := by decide +kernel
theorem d106_3 : decode (am_code 106) 3 = .ok (.iconst 4, 1) := by decide +kernel
theorem d106_4 : decode (am_code 106) 4 = .ok (.idiv, 1) := by decide +kernel
theorem d106_5 : decode (am_code 106) 5 = .ok (.imul, 1) := by decide +kernel
theorem d106_6 : decode (am_code 106) 6 = .ok (.istore_n 3, 1) := by decide +kernel
theorem d106_7 : decode (am_code 106) 7 = .ok (.aload_n 0, 1) := by decide +kernel
theorem d106_8 : decode (am_code 106) 8 = .ok (.iload_n 3, 1) := by decide +kernel
theorem d106_9 : decode (am_code 106) 9 = .ok (.iload_n 2, 1) := by decide +kernel
theorem d106_10 : decode (am_code 106) 10 = .ok (.iadd, 1) := by decide +kernel
theorem d106_11 : decode (am_code 106) 11 = .ok (.iaload, 1) := by decide +kernel
theorem d106_12 : decode (am_code 106) 12 = .ok (.aload_n 0, 1) := by decide +kernel
theorem d106_13 : decode (am_code 106) 13 = .ok (.iload_n 3, 1) := by decide +kernel
theorem d106_14 : decode (am_code 106) 14 = .ok (.iconst 4, 1) := by decide +kernel
theorem d106_15 : decode (am_code 106) 15 = .ok (.iadd, 1) := by decide +kernel
theorem d106_16 : decode (am_code 106) 16 = .ok (.getstatic 216, 3) := by decide +kernel
theorem d106_19 : decode (am_code 106) 19 = .ok (.iconst 4, 1) := by decide +kernel
theorem d106_20 : decode (am_code 106) 20 = .ok (.iload_n 2, 1) := by decide +kernel
theorem d106_21 : decode (am_code 106) 21 = .ok (.imul, 1) := by decide +kernel
theorem d106_22 : decode (am_code 106) 22 = .ok (.iload_n 1, 1) := by decide +kernel
theorem d106_23 : decode (am_code 106) 23 = .ok (.iconst 4, 1) := by decide +kernel
theorem d106_24 : decode (am_code 106) 24 = .ok (.irem, 1) := by decide +kernel
theorem d106_25 : decode (am_code 106) 25 = .ok (.iadd, 1) := by decide +kernel
theorem d106_26 : decode (am_code 106) 26 = .ok (.iaload, 1) := by decide +kernel
theorem d106_27 : decode (am_code 106) 27 = .ok (.iadd, 1) := by decide +kernel
theorem d106_28 : decode (am_code 106) 28 = .ok (.iaload, 1) := by decide +kernel
theorem d106_29 : decode (am_code 106) 29 = .ok (.iadd, 1) := by decide +kernel
theorem d106_30 : decode (am_code 106) 30 = .ok (.ireturn, 1) := by decide +kernel
theorem g106_216 : am_find am_gtL (am_mc 106) 216 = some (4, 0) := by decide +kernel
theorem l106 : am_maxL 106 = 4 := by decide +kernel
theorem t106 : am_ret 106 = (some .int) := by decide +kernel
/-! ThirdSheets.meets(II)Z is 107 -/
theorem d107_0 : decode (am_code 107) 0 = .ok (.iload_n 0, 1) := by decide +kernel
theorem d107_1 : decode (am_code 107) 1 = .ok (.iconst 4, 1) := by decide +kernel
theorem d107_2 : decode (am_code 107) 2 = .ok (.if_icmp .ge 27, 3) := by decide +kernel
theorem d107_5 : decode (am_code 107) 5 = .ok (.iload_n 0, 1) := by decide +kernel
theorem d107_6 : decode (am_code 107) 6 = .ok (.getstatic 219, 3) := by decide +kernel
theorem d107_9 : decode (am_code 107) 9 = .ok (.iload_n 1, 1) := by decide +kernel
theorem d107_10 : decode (am_code 107) 10 = .ok (.iaload, 1) := by decide +kernel
theorem d107_11 : decode (am_code 107) 11 = .ok (.if_icmp .eq 12, 3) := by decide +kernel
theorem d107_14 : decode (am_code 107) 14 = .ok (.iload_n 0, 1) := by decide +kernel
theorem d107_15 : decode (am_code 107) 15 = .ok (.getstatic 222, 3) := by decide +kernel
theorem d107_18 : decode (am_code 107) 18 = .ok (.iload_n 1, 1) := by decide +kernel
theorem d107_19 : decode (am_code 107) 19 = .ok (.iaload, 1) := by decide +kernel
theorem d107_20 : decode (am_code 107) 20 = .ok (.if_icmp .ne 7, 3) := by decide +kernel
theorem d107_23 : decode (am_code 107) 23 = .ok (.iconst 1, 1) := by decide +kernel
theorem d107_24 : decode (am_code 107) 24 = .ok (.goto 4, 3) := by decide +kernel
theorem d107_27 : decode (am_code 107) 27 = .ok (.iconst 0, 1) := by decide +kernel
theorem d107_28 : decode (am_code 107) 28 = .ok (.ireturn, 1) := by decide +kernel
theorem d107_29 : decode (am_code 107) 29 = .ok (.iload_n 0, 1) := by decide +kernel
theorem d107_30 : decode (am_code 107) 30 = .ok (.iconst 4, 1) := by decide +kernel
theorem d107_31 : decode (am_code 107) 31 = .ok (.isub, 1) := by decide +kernel
theorem d107_32 : decode (am_code 107) 32 = .ok (.getstatic 216, 3) := by decide +kernel
theorem d107_35 : decode (am_code 107) 35 = .ok (.iconst 4, 1) := by decide +kernel
theorem d107_36 : decode (am_code 107) 36 = .ok (.getstatic 219, 3) := by decide +kernel
theorem d107_39 : decode (am_code 107) 39 = .ok (.iload_n 1, 1) := by decide +kernel
theorem d107_40 : decode (am_code 107) 40 = .ok (.iaload, 1) := by decide +kernel
theorem d107_41 : decode (am_code 107) 41 = .ok (.imul, 1) := by decide +kernel
theorem d107_42 : decode (am_code 107) 42 = .ok (.getstatic 222, 3) := by decide +kernel
theorem d107_45 : decode (am_code 107) 45 = .ok (.iload_n 1, 1) := by decide +kernel
theorem d107_46 : decode (am_code 107) 46 = .ok (.iaload, 1) := by decide +kernel
theorem d107_47 : decode (am_code 107) 47 = .ok (.iadd, 1) := by decide +kernel
theorem d107_48 : decode (am_code 107) 48 = .ok (.iaload, 1) := by decide +kernel
theorem d107_49 : decode (am_code 107) 49 = .ok (.if_icmp .eq 7, 3) := by decide +kernel
theorem d107_52 : decode (am_code 107) 52 = .ok (.iconst 1, 1) := by decide +kernel
theorem d107_53 : decode (am_code 107) 53 = .ok (.goto 4, 3) := by decide +kernel
theorem d107_56 : decode (am_code 107) 56 = .ok (.iconst 0, 1) := by decide +kernel
theorem d107_57 : decode (am_code 107) 57 = .ok (.ireturn, 1) := by decide +kernel
theorem g107_219 : am_find am_gtL (am_mc 107) 219 = some (1, 0) := by decide +kernel
theorem g107_222 : am_find am_gtL (am_mc 107) 222 = some (2, 0) := by decide +kernel
theorem g107_216 : am_find am_gtL (am_mc 107) 216 = some (4, 0) := by decide +kernel
theorem l107 : am_maxL 107 = 2 := by decide +kernel
theorem t107 : am_ret 107 = (some .boolean) := by decide +kernel
/-! ThirdSheetsModel.<init>()V is 108 -/
theorem d108_0 : decode (am_code 108) 0 = .ok (.aload_n 0, 1) := by decide +kernel
theorem d108_1 : decode (am_code 108) 1 = .ok (.invokespecial 1, 3) := by decide +kernel
theorem d108_4 : decode (am_code 108) 4 = .ok (.aload_n 0, 1) := by decide +kernel
theorem d108_5 : decode (am_code 108) 5 = .ok (.bipush 12, 2) := by decide +kernel
theorem d108_7 : decode (am_code 108) 7 = .ok (.newarray .int, 2) := by decide +kernel
theorem d108_9 : decode (am_code 108) 9 = .ok (.putfield 7, 3) := by decide +kernel
theorem d108_12 : decode (am_code 108) 12 = .ok (.aload_n 0, 1) := by decide +kernel
theorem d108_13 : decode (am_code 108) 13 = .ok (.bipush 48, 2) := by decide +kernel
theorem d108_15 : decode (am_code 108) 15 = .ok (.newarray .int, 2) := by decide +kernel
theorem d108_17 : decode (am_code 108) 17 = .ok (.putfield 13, 3) := by decide +kernel
theorem d108_20 : decode (am_code 108) 20 = .ok (.aload_n 0, 1) := by decide +kernel
theorem d108_21 : decode (am_code 108) 21 = .ok (.bipush 21, 2) := by decide +kernel
theorem d108_23 : decode (am_code 108) 23 = .ok (.newarray .int, 2) := by decide +kernel
theorem d108_25 : decode (am_code 108) 25 = .ok (.putfield 16, 3) := by decide +kernel
theorem d108_28 : decode (am_code 108) 28 = .ok (.aload_n 0, 1) := by decide +kernel
theorem d108_29 : decode (am_code 108) 29 = .ok (.bipush 6, 2) := by decide +kernel
theorem d108_31 : decode (am_code 108) 31 = .ok (.newarray .int, 2) := by decide +kernel
theorem d108_33 : decode (am_code 108) 33 = .ok (.dup, 1) := by decide +kernel
theorem d108_34 : decode (am_code 108) 34 = .ok (.iconst 0, 1) := by decide +kernel
theorem d108_35 : decode (am_code 108) 35 = .ok (.iconst 0, 1) := by decide +kernel
theorem d108_36 : decode (am_code 108) 36 = .ok (.iastore, 1) := by decide +kernel
theorem d108_37 : decode (am_code 108) 37 = .ok (.dup, 1) := by decide +kernel
theorem d108_38 : decode (am_code 108) 38 = .ok (.iconst 1, 1) := by decide +kernel
theorem d108_39 : decode (am_code 108) 39 = .ok (.iconst 0, 1) := by decide +kernel
theorem d108_40 : decode (am_code 108) 40 = .ok (.iastore, 1) := by decide +kernel
theorem d108_41 : decode (am_code 108) 41 = .ok (.dup, 1) := by decide +kernel
theorem d108_42 : decode (am_code 108) 42 = .ok (.iconst 2, 1) := by decide +kernel
theorem d108_43 : decode (am_code 108) 43 = .ok (.iconst 0, 1) := by decide +kernel
theorem d108_44 : decode (am_code 108) 44 = .ok (.iastore, 1) := by decide +kernel
theorem d108_45 : decode (am_code 108) 45 = .ok (.dup, 1) := by decide +kernel
theorem d108_46 : decode (am_code 108) 46 = .ok (.iconst 3, 1) := by decide +kernel
theorem d108_47 : decode (am_code 108) 47 = .ok (.iconst 1, 1) := by decide +kernel
theorem d108_48 : decode (am_code 108) 48 = .ok (.iastore, 1) := by decide +kernel
theorem d108_49 : decode (am_code 108) 49 = .ok (.dup, 1) := by decide +kernel
theorem d108_50 : decode (am_code 108) 50 = .ok (.iconst 4, 1) := by decide +kernel
theorem d108_51 : decode (am_code 108) 51 = .ok (.iconst 1, 1) := by decide +kernel
theorem d108_52 : decode (am_code 108) 52 = .ok (.iastore, 1) := by decide +kernel
theorem d108_53 : decode (am_code 108) 53 = .ok (.dup, 1) := by decide +kernel
theorem d108_54 : decode (am_code 108) 54 = .ok (.iconst 5, 1) := by decide +kernel
theorem d108_55 : decode (am_code 108) 55 = .ok (.iconst 2, 1) := by decide +kernel
theorem d108_56 : decode (am_code 108) 56 = .ok (.iastore, 1) := by decide +kernel
theorem d108_57 : decode (am_code 108) 57 = .ok (.putfield 19, 3) := by decide +kernel
theorem d108_60 : decode (am_code 108) 60 = .ok (.aload_n 0, 1) := by decide +kernel
theorem d108_61 : decode (am_code 108) 61 = .ok (.bipush 6, 2) := by decide +kernel
theorem d108_63 : decode (am_code 108) 63 = .ok (.newarray .int, 2) := by decide +kernel
theorem d108_65 : decode (am_code 108) 65 = .ok (.dup, 1) := by decide +kernel
theorem d108_66 : decode (am_code 108) 66 = .ok (.iconst 0, 1) := by decide +kernel
theorem d108_67 : decode (am_code 108) 67 = .ok (.iconst 1, 1) := by decide +kernel
theorem d108_68 : decode (am_code 108) 68 = .ok (.iastore, 1) := by decide +kernel
theorem d108_69 : decode (am_code 108) 69 = .ok (.dup, 1) := by decide +kernel
theorem d108_70 : decode (am_code 108) 70 = .ok (.iconst 1, 1) := by decide +kernel
theorem d108_71 : decode (am_code 108) 71 = .ok (.iconst 2, 1) := by decide +kernel
theorem d108_72 : decode (am_code 108) 72 = .ok (.iastore, 1) := by decide +kernel
theorem d108_73 : decode (am_code 108) 73 = .ok (.dup, 1) := by decide +kernel
theorem d108_74 : decode (am_code 108) 74 = .ok (.iconst 2, 1) := by decide +kernel
theorem d108_75 : decode (am_code 108) 75 = .ok (.iconst 3, 1) := by decide +kernel
theorem d108_76 : decode (am_code 108) 76 = .ok (.iastore, 1) := by decide +kernel
theorem d108_77 : decode (am_code 108) 77 = .ok (.dup, 1) := by decide +kernel
theorem d108_78 : decode (am_code 108) 78 = .ok (.iconst 3, 1) := by decide +kernel
theorem d108_79 : decode (am_code 108) 79 = .ok (.iconst 2, 1) := by decide +kernel
theorem d108_80 : decode (am_code 108) 80 = .ok (.iastore, 1) := by decide +kernel
theorem d108_81 : decode (am_code 108) 81 = .ok (.dup, 1) := by decide +kernel
theorem d108_82 : decode (am_code 108) 82 = .ok (.iconst 4, 1) := by decide +kernel
theorem d108_83 : decode (am_code 108) 83 = .ok (.iconst 3, 1) := by decide +kernel
theorem d108_84 : decode (am_code 108) 84 = .ok (.iastore, 1) := by decide +kernel
theorem d108_85 : decode (am_code 108) 85 = .ok (.dup, 1) := by decide +kernel
theorem d108_86 : decode (am_code 108) 86 = .ok (.iconst 5, 1) := by decide +kernel
theorem d108_87 : decode (am_code 108) 87 = .ok (.iconst 3, 1) := by decide +kernel
theorem d108_88 : decode (am_code 108) 88 = .ok (.iastore, 1) := by decide +kernel
theorem d108_89 : decode (am_code 108) 89 = .ok (.putfield 22, 3) := by decide +kernel
theorem d108_92 : decode (am_code 108) 92 = .ok (.aload_n 0, 1) := by decide +kernel
theorem d108_93 : decode (am_code 108) 93 = .ok (.bipush 36, 2) := by decide +kernel
theorem d108_95 : decode (am_code 108) 95 = .ok (.newarray .int, 2) := by decide +kernel
theorem d108_97 : decode (am_code 108) 97 = .ok (.putfield 25, 3) := by decide +kernel
theorem d108_100 : decode (am_code 108) 100 = .ok (.aload_n 0, 1) := by decide +kernel
theorem d108_101 : decode (am_code 108) 101 = .ok (.bipush 12, 2) := by decide +kernel
theorem d108_103 : decode (am_code 108) 103 = .ok (.newarray .int, 2) := by decide +kernel
theorem d108_105 : decode (am_code 108) 105 = .ok (.putfield 28, 3) := by decide +kernel
theorem d108_108 : decode (am_code 108) 108 = .ok (.aload_n 0, 1) := by decide +kernel
theorem d108_109 : decode (am_code 108) 109 = .ok (.iconst 3, 1) := by decide +kernel
theorem d108_110 : decode (am_code 108) 110 = .ok (.newarray .int, 2) := by decide +kernel
theorem d108_112 : decode (am_code 108) 112 = .ok (.putfield 31, 3) := by decide +kernel
theorem d108_115 : decode (am_code 108) 115 = .ok (.aload_n 0, 1) := by decide +kernel
theorem d108_116 : decode (am_code 108) 116 = .ok (.bipush 108, 2) := by decide +kernel
theorem d108_118 : decode (am_code 108) 118 = .ok (.newarray .long, 2) := by decide +kernel
theorem d108_120 : decode (am_code 108) 120 = .ok (.putfield 34, 3) := by decide +kernel
theorem d108_123 : decode (am_code 108) 123 = .ok (.aload_n 0, 1) := by decide +kernel
theorem d108_124 : decode (am_code 108) 124 = .ok (.bipush 12, 2) := by decide +kernel
theorem d108_126 : decode (am_code 108) 126 = .ok (.newarray .int, 2) := by decide +kernel
theorem d108_128 : decode (am_code 108) 128 = .ok (.putfield 38, 3) := by decide +kernel
theorem d108_131 : decode (am_code 108) 131 = .ok (.aload_n 0, 1) := by decide +kernel
theorem d108_132 : decode (am_code 108) 132 = .ok (.ldc 41, 2) := by decide +kernel
theorem d108_134 : decode (am_code 108) 134 = .ok (.newarray .int, 2) := by decide +kernel
theorem d108_136 : decode (am_code 108) 136 = .ok (.putfield 42, 3) := by decide +kernel
theorem d108_139 : decode (am_code 108) 139 = .ok (.aload_n 0, 1) := by decide +kernel
theorem d108_140 : decode (am_code 108) 140 = .ok (.ldc 41, 2) := by decide +kernel
theorem d108_142 : decode (am_code 108) 142 = .ok (.newarray .int, 2) := by decide +kernel
theorem d108_144 : decode (am_code 108) 144 = .ok (.putfield 45, 3) := by decide +kernel
theorem d108_147 : decode (am_code 108) 147 = .ok (.aload_n 0, 1) := by decide +kernel
theorem d108_148 : decode (am_code 108) 148 = .ok (.bipush 21, 2) := by decide +kernel
theorem d108_150 : decode (am_code 108) 150 = .ok (.newarray .int, 2) := by decide +kernel
theorem d108_152 : decode (am_code 108) 152 = .ok (.putfield 48, 3) := by decide +kernel
theorem d108_155 : decode (am_code 108) 155 = .ok (.aload_n 0, 1) := by decide +kernel
theorem d108_156 : decode (am_code 108) 156 = .ok (.bipush 22, 2) := by decide +kernel
theorem d108_158 : decode (am_code 108) 158 = .ok (.newarray .int, 2) := by decide +kernel
theorem d108_160 : decode (am_code 108) 160 = .ok (.putfield 51, 3) := by decide +kernel
theorem d108_163 : decode (am_code 108) 163 = .ok (.aload_n 0, 1) := by decide +kernel
theorem d108_164 : decode (am_code 108) 164 = .ok (.sipush 400, 3) := by decide +kernel
theorem d108_167 : decode (am_code 108) 167 = .ok (.newarray .int, 2) := by decide +kernel
theorem d108_169 : decode (am_code 108) 169 = .ok (.putfield 54, 3) := by decide +kernel
theorem d108_172 : decode (am_code 108) 172 = .ok (.aload_n 0, 1) := by decide +kernel
theorem d108_173 : decode (am_code 108) 173 = .ok (.sipush 400, 3) := by decide +kernel
theorem d108_176 : decode (am_code 108) 176 = .ok (.newarray .int, 2) := by decide +kernel
theorem d108_178 : decode (am_code 108) 178 = .ok (.putfield 57, 3) := by decide +kernel
theorem d108_181 : decode (am_code 108) 181 = .ok (.aload_n 0, 1) := by decide +kernel
theorem d108_182 : decode (am_code 108) 182 = .ok (.sipush 400, 3) := by decide +kernel
theorem d108_185 : decode (am_code 108) 185 = .ok (.newarray .int, 2) := by decide +kernel
theorem d108_187 : decode (am_code 108) 187 = .ok (.putfield 60, 3) := by decide +kernel
theorem d108_190 : decode (am_code 108) 190 = .ok (.aload_n 0, 1) := by decide +kernel
theorem d108_191 : decode (am_code 108) 191 = .ok (.sipush 400, 3) := by decide +kernel
theorem d108_194 : decode (am_code 108) 194 = .ok (.newarray .boolean, 2) := by decide +kernel
theorem d108_196 : decode (am_code 108) 196 = .ok (.putfield 63, 3) := by decide +kernel
theorem d108_199 : decode (am_code 108) 199 = .ok (.return_, 1) := by decide +kernel
theorem f108_7 : am_find am_ftL (am_mc 108) 7 = some (7, 1) := by decide +kernel
theorem f108_13 : am_find am_ftL (am_mc 108) 13 = some (7, 2) := by decide +kernel
theorem f108_16 : am_find am_ftL (am_mc 108) 16 = some (7, 3) := by decide +kernel
theorem f108_19 : am_find am_ftL (am_mc 108) 19 = some (7, 4) := by decide +kernel
theorem f108_22 : am_find am_ftL (am_mc 108) 22 = some (7, 5) := by decide +kernel
theorem f108_25 : am_find am_ftL (am_mc 108) 25 = some (7, 6) := by decide +kernel
theorem f108_28 : am_find am_ftL (am_mc 108) 28 = some (7, 7) := by decide +kernel
theorem f108_31 : am_find am_ftL (am_mc 108) 31 = some (7, 8) := by decide +kernel
theorem f108_34 : am_find am_ftL (am_mc 108) 34 = some (7, 10) := by decide +kernel
theorem f108_38 : am_find am_ftL (am_mc 108) 38 = some (7, 13) := by decide +kernel
theorem f108_42 : am_find am_ftL (am_mc 108) 42 = some (7, 15) := by decide +kernel
theorem f108_45 : am_find am_ftL (am_mc 108) 45 = some (7, 16) := by decide +kernel
theorem f108_48 : am_find am_ftL (am_mc 108) 48 = some (7, 17) := by decide +kernel
theorem f108_51 : am_find am_ftL (am_mc 108) 51 = some (7, 20) := by decide +kernel
theorem f108_54 : am_find am_ftL (am_mc 108) 54 = some (7, 21) := by decide +kernel
theorem f108_57 : am_find am_ftL (am_mc 108) 57 = some (7, 22) := by decide +kernel
theorem f108_60 : am_find am_ftL (am_mc 108) 60 = some (7, 23) := by decide +kernel
theorem f108_63 : am_find am_ftL (am_mc 108) 63 = some (7, 25) := by decide +kernel
theorem c108_1 : am_find am_ctL (am_mc 108) 1 = some (4, 0) := by decide +kernel
theorem l108 : am_maxL 108 = 1 := by decide +kernel
theorem t108 : am_ret 108 = none := by decide +kernel
/-! ThirdSheetsModel.in(III)Z is 109 -/
theorem d109_0 : decode (am_code 109) 0 = .ok (.iload_n 0, 1) := by decide +kernel
theorem d109_1 : decode (am_code 109) 1 = .ok (.iload_n 1, 1) := by decide +kernel
theorem d109_2 : decode (am_code 109) 2 = .ok (.if_icmp .lt 12, 3) := by decide +kernel
theorem d109_5 : decode (am_code 109) 5 = .ok (.iload_n 0, 1) := by decide +kernel
theorem d109_6 : decode (am_code 109) 6 = .ok (.iload_n 2, 1) := by decide +kernel
theorem d109_7 : decode (am_code 109) 7 = .ok (.if_icmp .gt 7, 3) := by decide +kernel
theorem d109_10 : decode (am_code 109) 10 = .ok (.iconst 1, 1) := by decide +kernel
theorem d109_11 : decode (am_code 109) 11 = .ok (.goto 4, 3) := by decide +kernel
theorem d109_14 : decode (am_code 109) 14 = .ok (.iconst 0, 1) := by decide +kernel
theorem d109_15 : decode (am_code 109) 15 = .ok (.ireturn, 1) := by decide +kernel
theorem l109 : am_maxL 109 = 3 := by decide +kernel
theorem t109 : am_ret 109 = (some .boolean) := by decide +kernel
/-! ThirdSheetsModel.isPiece(I)Z is 110 -/
theorem d110_0 : decode (am_code 110) 0 = .ok (.iload_n 1, 1) := by decide +kernel
theorem d110_1 : decode (am_code 110) 1 = .ok (.iconst 0, 1) := by decide +kernel
theorem d110_2 : decode (am_code 110) 2 = .ok (.aload_n 0, 1) := by decide +kernel
theorem d110_3 : decode (am_code 110) 3 = .ok (.getfield 67, 3) := by decide +kernel
theorem d110_6 : decode (am_code 110) 6 = .ok (.iconst 1, 1) := by decide +kernel
theorem d110_7 : decode (am_code 110) 7 = .ok (.isub, 1) := by decide +kernel
theorem d110_8 : decode (am_code 110) 8 = .ok (.invokestatic 71, 3) := by decide +kernel
theorem d110_11 : decode (am_code 110) 11 = .ok (.ireturn, 1) := by decide +kernel
theorem f110_67 : am_find am_ftL (am_mc 110) 67 = some (7, 0) := by decide +kernel
theorem c110_71 : am_find am_ctL (am_mc 110) 71 = some (1, 109) ∧ am_na 109 = 3 ∧ am_fr 109 + 1 ≤ am_fr 110 ∧ 8 + (am_maxL 109 + 11) + am_lo 109 ≤ am_lo 110 := by decide +kernel
theorem l110 : am_maxL 110 = 2 := by decide +kernel
theorem t110 : am_ret 110 = (some .boolean) := by decide +kernel
/-! ThirdSheetsModel.isSide(II)Z is 111 -/
theorem d111_0 : decode (am_code 111) 0 = .ok (.aload_n 0, 1) := by decide +kernel
theorem d111_1 : decode (am_code 111) 1 = .ok (.iload_n 1, 1) := by decide +kernel
theorem d111_2 : decode (am_code 111) 2 = .ok (.invokevirtual 75, 3) := by decide +kernel
theorem d111_5 : decode (am_code 111) 5 = .ok (.ifCond .eq 16, 3) := by decide +kernel
theorem d111_8 : decode (am_code 111) 8 = .ok (.iload_n 2, 1) := by decide +kernel
theorem d111_9 : decode (am_code 111) 9 = .ok (.iconst 0, 1) := by decide +kernel
theorem d111_10 : decode (am_code 111) 10 = .ok (.iconst 3, 1) := by decide +kernel
theorem d111_11 : decode (am_code 111) 11 = .ok (.invokestatic 71, 3) := by decide +kernel
theorem d111_14 : decode (am_code 111) 14 = .ok (.ifCond .eq 7, 3) := by decide +kernel
theorem d111_17 : decode (am_code 111) 17 = .ok (.iconst 1, 1) := by decide +kernel
theorem d111_18 : decode (am_code 111) 18 = .ok (.goto 4, 3) := by decide +kernel
theorem d111_21 : decode (am_code 111) 21 = .ok (.iconst 0, 1) := by decide +kernel
theorem d111_22 : decode (am_code 111) 22 = .ok (.ireturn, 1) := by decide +kernel
theorem c111_75 : am_find am_ctL (am_mc 111) 75 = some (0, 110) ∧ am_na 110 = 1 ∧ am_fr 110 + 1 ≤ am_fr 111 ∧ 8 + (am_maxL 110 + 11) + am_lo 110 ≤ am_lo 111 := by decide +kernel
theorem c111_71 : am_find am_ctL (am_mc 111) 71 = some (1, 109) ∧ am_na 109 = 3 ∧ am_fr 109 + 1 ≤ am_fr 111 ∧ 8 + (am_maxL 109 + 11) + am_lo 109 ≤ am_lo 111 := by decide +kernel
theorem l111 : am_maxL 111 = 3 := by decide +kernel
theorem t111 : am_ret 111 = (some .boolean) := by decide +kernel
/-! ThirdSheetsModel.edgeOf(II)I is 112 -/
theorem d112_0 : decode (am_code 112) 0 = .ok (.iconst 0, 1) := by decide +kernel
theorem d112_1 : decode (am_code 112) 1 = .ok (.istore_n 3, 1) := by decide +kernel
theorem d112_2 : decode (am_code 112) 2 = .ok (.aload_n 0, 1) := by decide +kernel
theorem d112_3 : decode (am_code 112) 3 = .ok (.getfield 19, 3) := by decide +kernel
theorem d112_6 : decode (am_code 112) 6 = .ok (.iload_n 3, 1) := by decide +kernel
theorem d112_7 : decode (am_code 112) 7 = .ok (.iaload, 1) := by decide +kernel
theorem d112_8 : decode (am_code 112) 8 = .ok (.iload_n 1, 1) := by decide +kernel
theorem d112_9 : decode (am_code 112) 9 = .ok (.if_icmp .ne 13, 3) := by decide +kernel
theorem d112_12 : decode (am_code 112) 12 = .ok (.aload_n 0, 1) := by decide +kernel
theorem d112_13 : decode (am_code 112) 13 = .ok (.getfield 22, 3) := by decide +kernel
theorem d112_16 : decode (am_code 112) 16 = .ok (.iload_n 3, 1) := by decide +kernel
theorem d112_17 : decode (am_code 112) 17 = .ok (.iaload, 1) := by decide +kernel
theorem d112_18 : decode (am_code 112) 18 = .ok (.iload_n 2, 1) := by decide +kernel
theorem d112_19 : decode (am_code 112) 19 = .ok (.if_icmp .eq 29, 3) := by decide +kernel
theorem d112_22 : decode (am_code 112) 22 = .ok (.aload_n 0, 1) := by decide +kernel
theorem d112_23 : decode (am_code 112) 23 = .ok (.getfield 19, 3) := by decide +kernel
theorem d112_26 : decode (am_code 112) 26 = .ok (.iload_n 3, 1) := by decide +kernel
theorem d112_27 : decode (am_code 112) 27 = .ok (.iaload, 1) := by decide +kernel
theorem d112_28 : decode (am_code 112) 28 = .ok (.iload_n 2, 1) := by decide +kernel
theorem d112_29 : decode (am_code 112) 29 = .ok (.if_icmp .ne 13, 3) := by decide +kernel
theorem d112_32 : decode (am_code 112) 32 = .ok (.aload_n 0, 1) := by decide +kernel
theorem d112_33 : decode (am_code 112) 33 = .ok (.getfield 22, 3) := by decide +kernel
theorem d112_36 : decode (am_code 112) 36 = .ok (.iload_n 3, 1) := by decide +kernel
theorem d112_37 : decode (am_code 112) 37 = .ok (.iaload, 1) := by decide +kernel
theorem d112_38 : decode (am_code 112) 38 = .ok (.iload_n 1, 1) := by decide +kernel
theorem d112_39 : decode (am_code 112) 39 = .ok (.if_icmp .eq 9, 3) := by decide +kernel
theorem d112_42 : decode (am_code 112) 42 = .ok (.iinc 3 1, 3) := by decide +kernel
theorem d112_45 : decode (am_code 112) 45 = .ok (.goto (-43), 3) := by decide +kernel
theorem d112_48 : decode (am_code 112) 48 = .ok (.iload_n 3, 1) := by decide +kernel
theorem d112_49 : decode (am_code 112) 49 = .ok (.ireturn, 1) := by decide +kernel
theorem f112_19 : am_find am_ftL (am_mc 112) 19 = some (7, 4) := by decide +kernel
theorem f112_22 : am_find am_ftL (am_mc 112) 22 = some (7, 5) := by decide +kernel
theorem l112 : am_maxL 112 = 4 := by decide +kernel
theorem t112 : am_ret 112 = (some .int) := by decide +kernel
/-! ThirdSheetsModel.endOf(III)I is 113 -/
theorem d113_0 : decode (am_code 113) 0 = .ok (.bipush 12, 2) := by decide +kernel
theorem d113_2 : decode (am_code 113) 2 = .ok (.iload_n 1, 1) := by decide +kernel
theorem d113_3 : decode (am_code 113) 3 = .ok (.imul, 1) := by decide +kernel
theorem d113_4 : decode (am_code 113) 4 = .ok (.iconst 2, 1) := by decide +kernel
theorem d113_5 : decode (am_code 113) 5 = .ok (.aload_n 0, 1) := by decide +kernel
theorem d113_6 : decode (am_code 113) 6 = .ok (.iload_n 2, 1) := by decide +kernel
theorem d113_7 : decode (am_code 113) 7 = .ok (.iload_n 3, 1) := by decide +kernel
theorem d113_8 : decode (am_code 113) 8 = .ok (.invokevirtual 79, 3) := by decide +kernel
theorem d113_11 : decode (am_code 113) 11 = .ok (.imul, 1) := by decide +kernel
theorem d113_12 : decode (am_code 113) 12 = .ok (.iadd, 1) := by decide +kernel
theorem d113_13 : decode (am_code 113) 13 = .ok (.iload_n 2, 1) := by decide +kernel
theorem d113_14 : decode (am_code 113) 14 = .ok (.iload_n 3, 1) := by decide +kernel
theorem d113_15 : decode (am_code 113) 15 = .ok (.if_icmp .ge 7, 3) := by decide +kernel
theorem d113_18 : decode (am_code 113) 18 = .ok (.iconst 0, 1) := by decide +kernel
theorem d113_19 : decode (am_code 113) 19 = .ok (.goto 4, 3) := by decide +kernel
theorem d113_22 : decode (am_code 113) 22 = .ok (.iconst 1, 1) := by decide +kernel
theorem d113_23 : decode (am_code 113) 23 = .ok (.iadd, 1) := by decide +kernel
theorem d113_24 : decode (am_code 113) 24 = .ok (.ireturn, 1) := by decide +kernel
theorem c113_79 : am_find am_ctL (am_mc 113) 79 = some (0, 112) ∧ am_na 112 = 2 ∧ am_fr 112 + 1 ≤ am_fr 113 ∧ 8 + (am_maxL 112 + 11) + am_lo 112 ≤ am_lo 113 := by decide +kernel
theorem l113 : am_maxL 113 = 4 := by decide +kernel
theorem t113 : am_ret 113 = (some .int) := by decide +kernel
/-! ThirdSheetsModel.lesser(II)I is 114 -/
theorem d114_0 : decode (am_code 114) 0 = .ok (.iload_n 0, 1) := by decide +kernel
theorem d114_1 : decode (am_code 114) 1 = .ok (.iload_n 1, 1) := by decide +kernel
theorem d114_2 : decode (am_code 114) 2 = .ok (.if_icmp .ge 7, 3) := by decide +kernel
theorem d114_5 : decode (am_code 114) 5 = .ok (.iload_n 0, 1) := by decide +kernel
theorem d114_6 : decode (am_code 114) 6 = .ok (.goto 4, 3) := by decide +kernel
theorem d114_9 : decode (am_code 114) 9 = .ok (.iload_n 1, 1) := by decide +kernel
theorem d114_10 : decode (am_code 114) 10 = .ok (.ireturn, 1) := by decide +kernel
theorem l114 : am_maxL 114 = 2 := by decide +kernel
theorem t114 : am_ret 114 = (some .int) := by decide +kernel
