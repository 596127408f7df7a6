/-! ThirdSheetsModel.join([III)V is 115 -/
theorem d115_0 : decode (am_code 115) 0 = .ok (.aload_n 1, 1) := by decide +kernel
theorem d115_1 : decode (am_code 115) 1 = .ok (.iload_n 2, 1) := by decide +kernel
theorem d115_2 : decode (am_code 115) 2 = .ok (.iaload, 1) := by decide +kernel
theorem d115_3 : decode (am_code 115) 3 = .ok (.aload_n 1, 1) := by decide +kernel
theorem d115_4 : decode (am_code 115) 4 = .ok (.iload_n 3, 1) := by decide +kernel
theorem d115_5 : decode (am_code 115) 5 = .ok (.iaload, 1) := by decide +kernel
theorem d115_6 : decode (am_code 115) 6 = .ok (.invokestatic 83, 3) := by decide +kernel
theorem d115_9 : decode (am_code 115) 9 = .ok (.istore 4, 2) := by decide +kernel
theorem d115_11 : decode (am_code 115) 11 = .ok (.aload_n 0, 1) := by decide +kernel
theorem d115_12 : decode (am_code 115) 12 = .ok (.aload_n 0, 1) := by decide +kernel
theorem d115_13 : decode (am_code 115) 13 = .ok (.getfield 86, 3) := by decide +kernel
theorem d115_16 : decode (am_code 115) 16 = .ok (.ifCond .ne 19, 3) := by decide +kernel
theorem d115_19 : decode (am_code 115) 19 = .ok (.aload_n 1, 1) := by decide +kernel
theorem d115_20 : decode (am_code 115) 20 = .ok (.iload_n 2, 1) := by decide +kernel
theorem d115_21 : decode (am_code 115) 21 = .ok (.iaload, 1) := by decide +kernel
theorem d115_22 : decode (am_code 115) 22 = .ok (.iload 4, 2) := by decide +kernel
theorem d115_24 : decode (am_code 115) 24 = .ok (.if_icmp .ne 11, 3) := by decide +kernel
theorem d115_27 : decode (am_code 115) 27 = .ok (.aload_n 1, 1) := by decide +kernel
theorem d115_28 : decode (am_code 115) 28 = .ok (.iload_n 3, 1) := by decide +kernel
theorem d115_29 : decode (am_code 115) 29 = .ok (.iaload, 1) := by decide +kernel
theorem d115_30 : decode (am_code 115) 30 = .ok (.iload 4, 2) := by decide +kernel
theorem d115_32 : decode (am_code 115) 32 = .ok (.if_icmp .eq 7, 3) := by decide +kernel
theorem d115_35 : decode (am_code 115) 35 = .ok (.iconst 1, 1) := by decide +kernel
theorem d115_36 : decode (am_code 115) 36 = .ok (.goto 4, 3) := by decide +kernel
theorem d115_39 : decode (am_code 115) 39 = .ok (.iconst 0, 1) := by decide +kernel
theorem d115_40 : decode (am_code 115) 40 = .ok (.putfield 86, 3) := by decide +kernel
theorem d115_43 : decode (am_code 115) 43 = .ok (.aload_n 1, 1) := by decide +kernel
theorem d115_44 : decode (am_code 115) 44 = .ok (.iload_n 2, 1) := by decide +kernel
theorem d115_45 : decode (am_code 115) 45 = .ok (.iload 4, 2) := by decide +kernel
theorem d115_47 : decode (am_code 115) 47 = .ok (.iastore, 1) := by decide +kernel
theorem d115_48 : decode (am_code 115) 48 = .ok (.aload_n 1, 1) := by decide +kernel
theorem d115_49 : decode (am_code 115) 49 = .ok (.iload_n 3, 1) := by decide +kernel
theorem d115_50 : decode (am_code 115) 50 = .ok (.iload 4, 2) := by decide +kernel
theorem d115_52 : decode (am_code 115) 52 = .ok (.iastore, 1) := by decide +kernel
theorem d115_53 : decode (am_code 115) 53 = .ok (.return_, 1) := by decide +kernel
theorem f115_86 : am_find am_ftL (am_mc 115) 86 = some (7, 9) := by decide +kernel
theorem c115_83 : am_find am_ctL (am_mc 115) 83 = some (1, 114) ∧ am_na 114 = 2 ∧ am_fr 114 + 1 ≤ am_fr 115 ∧ 8 + (am_maxL 114 + 11) + am_lo 114 ≤ am_lo 115 := by decide +kernel
theorem l115 : am_maxL 115 = 5 := by decide +kernel
theorem t115 : am_ret 115 = none := by decide +kernel
/-! ThirdSheetsModel.label()V is 116 -/
theorem d116_0 : decode (am_code 116) 0 = .ok (.iconst 0, 1) := by decide +kernel
theorem d116_1 : decode (am_code 116) 1 = .ok (.istore_n 1, 1) := by decide +kernel
theorem d116_2 : decode (am_code 116) 2 = .ok (.iload_n 1, 1) := by decide +kernel
theorem d116_3 : decode (am_code 116) 3 = .ok (.bipush 36, 2) := by decide +kernel
theorem d116_5 : decode (am_code 116) 5 = .ok (.if_icmp .ge 16, 3) := by decide +kernel
theorem d116_8 : decode (am_code 116) 8 = .ok (.aload_n 0, 1) := by decide +kernel
theorem d116_9 : decode (am_code 116) 9 = .ok (.getfield 25, 3) := by decide +kernel
theorem d116_12 : decode (am_code 116) 12 = .ok (.iload_n 1, 1) := by decide +kernel
theorem d116_13 : decode (am_code 116) 13 = .ok (.iload_n 1, 1) := by decide +kernel
theorem d116_14 : decode (am_code 116) 14 = .ok (.iastore, 1) := by decide +kernel
theorem d116_15 : decode (am_code 116) 15 = .ok (.iinc 1 1, 3) := by decide +kernel
theorem d116_18 : decode (am_code 116) 18 = .ok (.goto (-16), 3) := by decide +kernel
theorem d116_21 : decode (am_code 116) 21 = .ok (.iconst 0, 1) := by decide +kernel
theorem d116_22 : decode (am_code 116) 22 = .ok (.istore_n 1, 1) := by decide +kernel
theorem d116_23 : decode (am_code 116) 23 = .ok (.iload_n 1, 1) := by decide +kernel
theorem d116_24 : decode (am_code 116) 24 = .ok (.bipush 12, 2) := by decide +kernel
theorem d116_26 : decode (am_code 116) 26 = .ok (.if_icmp .ge 16, 3) := by decide +kernel
theorem d116_29 : decode (am_code 116) 29 = .ok (.aload_n 0, 1) := by decide +kernel
theorem d116_30 : decode (am_code 116) 30 = .ok (.getfield 28, 3) := by decide +kernel
theorem d116_33 : decode (am_code 116) 33 = .ok (.iload_n 1, 1) := by decide +kernel
theorem d116_34 : decode (am_code 116) 34 = .ok (.iload_n 1, 1) := by decide +kernel
theorem d116_35 : decode (am_code 116) 35 = .ok (.iastore, 1) := by decide +kernel
theorem d116_36 : decode (am_code 116) 36 = .ok (.iinc 1 1, 3) := by decide +kernel
theorem d116_39 : decode (am_code 116) 39 = .ok (.goto (-16), 3) := by decide +kernel
theorem d116_42 : decode (am_code 116) 42 = .ok (.iconst 0, 1) := by decide +kernel
theorem d116_43 : decode (am_code 116) 43 = .ok (.istore_n 1, 1) := by decide +kernel
theorem d116_44 : decode (am_code 116) 44 = .ok (.iload_n 1, 1) := by decide +kernel
theorem d116_45 : decode (am_code 116) 45 = .ok (.iconst 3, 1) := by decide +kernel
theorem d116_46 : decode (am_code 116) 46 = .ok (.if_icmp .ge 16, 3) := by decide +kernel
theorem d116_49 : decode (am_code 116) 49 = .ok (.aload_n 0, 1) := by decide +kernel
theorem d116_50 : decode (am_code 116) 50 = .ok (.getfield 31, 3) := by decide +kernel
theorem d116_53 : decode (am_code 116) 53 = .ok (.iload_n 1, 1) := by decide +kernel
theorem d116_54 : decode (am_code 116) 54 = .ok (.iload_n 1, 1) := by decide +kernel
theorem d116_55 : decode (am_code 116) 55 = .ok (.iastore, 1) := by decide +kernel
theorem d116_56 : decode (am_code 116) 56 = .ok (.iinc 1 1, 3) := by decide +kernel
theorem d116_59 : decode (am_code 116) 59 = .ok (.goto (-15), 3) := by decide +kernel
theorem d116_62 : decode (am_code 116) 62 = .ok (.aload_n 0, 1) := by decide +kernel
theorem d116_63 : decode (am_code 116) 63 = .ok (.iconst 1, 1) := by decide +kernel
theorem d116_64 : decode (am_code 116) 64 = .ok (.putfield 86, 3) := by decide +kernel
theorem d116_67 : decode (am_code 116) 67 = .ok (.aload_n 0, 1) := by decide +kernel
theorem d116_68 : decode (am_code 116) 68 = .ok (.getfield 86, 3) := by decide +kernel
theorem d116_71 : decode (am_code 116) 71 = .ok (.ifCond .eq 44, 3) := by decide +kernel
theorem d116_74 : decode (am_code 116) 74 = .ok (.aload_n 0, 1) := by decide +kernel
theorem d116_75 : decode (am_code 116) 75 = .ok (.iconst 0, 1) := by decide +kernel
theorem d116_76 : decode (am_code 116) 76 = .ok (.putfield 86, 3) := by decide +kernel
theorem d116_79 : decode (am_code 116) 79 = .ok (.iconst 0, 1) := by decide +kernel
theorem d116_80 : decode (am_code 116) 80 = .ok (.istore_n 1, 1) := by decide +kernel
theorem d116_81 : decode (am_code 116) 81 = .ok (.iload_n 1, 1) := by decide +kernel
theorem d116_82 : decode (am_code 116) 82 = .ok (.iconst 4, 1) := by decide +kernel
theorem d116_83 : decode (am_code 116) 83 = .ok (.aload_n 0, 1) := by decide +kernel
theorem d116_84 : decode (am_code 116) 84 = .ok (.getfield 67, 3) := by decide +kernel
theorem d116_87 : decode (am_code 116) 87 = .ok (.imul, 1) := by decide +kernel
theorem d116_88 : decode (am_code 116) 88 = .ok (.if_icmp .ge 24, 3) := by decide +kernel
theorem d116_91 : decode (am_code 116) 91 = .ok (.aload_n 0, 1) := by decide +kernel
theorem d116_92 : decode (am_code 116) 92 = .ok (.getfield 7, 3) := by decide +kernel
theorem d116_95 : decode (am_code 116) 95 = .ok (.iload_n 1, 1) := by decide +kernel
theorem d116_96 : decode (am_code 116) 96 = .ok (.iaload, 1) := by decide +kernel
theorem d116_97 : decode (am_code 116) 97 = .ok (.iconst (-1), 1) := by decide +kernel
theorem d116_98 : decode (am_code 116) 98 = .ok (.if_icmp .eq 8, 3) := by decide +kernel
theorem d116_101 : decode (am_code 116) 101 = .ok (.aload_n 0, 1) := by decide +kernel
theorem d116_102 : decode (am_code 116) 102 = .ok (.iload_n 1, 1) := by decide +kernel
theorem d116_103 : decode (am_code 116) 103 = .ok (.invokevirtual 90, 3) := by decide +kernel
theorem d116_106 : decode (am_code 116) 106 = .ok (.iinc 1 1, 3) := by decide +kernel
theorem d116_109 : decode (am_code 116) 109 = .ok (.goto (-28), 3) := by decide +kernel
theorem d116_112 : decode (am_code 116) 112 = .ok (.goto (-45), 3) := by decide +kernel
theorem d116_115 : decode (am_code 116) 115 = .ok (.return_, 1) := by decide +kernel
theorem f116_25 : am_find am_ftL (am_mc 116) 25 = some (7, 6) := by decide +kernel
theorem f116_28 : am_find am_ftL (am_mc 116) 28 = some (7, 7) := by decide +kernel
theorem f116_31 : am_find am_ftL (am_mc 116) 31 = some (7, 8) := by decide +kernel
theorem f116_86 : am_find am_ftL (am_mc 116) 86 = some (7, 9) := by decide +kernel
theorem f116_67 : am_find am_ftL (am_mc 116) 67 = some (7, 0) := by decide +kernel
theorem f116_7 : am_find am_ftL (am_mc 116) 7 = some (7, 1) := by decide +kernel
theorem c116_90 : am_find am_ctL (am_mc 116) 90 = some (0, 117) ∧ am_na 117 = 1 ∧ am_fr 117 + 1 ≤ am_fr 116 ∧ 8 + (am_maxL 117 + 11) + am_lo 117 ≤ am_lo 116 := by decide +kernel
theorem l116 : am_maxL 116 = 2 := by decide +kernel
theorem t116 : am_ret 116 = none := by decide +kernel
/-! ThirdSheetsModel.joinSide(I)V is 117 -/
theorem d117_0 : decode (am_code 117) 0 = .ok (.iload_n 1, 1) := by decide +kernel
theorem d117_1 : decode (am_code 117) 1 = .ok (.iconst 4, 1) := by decide +kernel
theorem d117_2 : decode (am_code 117) 2 = .ok (.idiv, 1) := by decide +kernel
theorem d117_3 : decode (am_code 117) 3 = .ok (.istore_n 2, 1) := by decide +kernel
theorem d117_4 : decode (am_code 117) 4 = .ok (.aload_n 0, 1) := by decide +kernel
theorem d117_5 : decode (am_code 117) 5 = .ok (.getfield 7, 3) := by decide +kernel
theorem d117_8 : decode (am_code 117) 8 = .ok (.iload_n 1, 1) := by decide +kernel
theorem d117_9 : decode (am_code 117) 9 = .ok (.iaload, 1) := by decide +kernel
theorem d117_10 : decode (am_code 117) 10 = .ok (.iconst 4, 1) := by decide +kernel
theorem d117_11 : decode (am_code 117) 11 = .ok (.idiv, 1) := by decide +kernel
theorem d117_12 : decode (am_code 117) 12 = .ok (.istore_n 3, 1) := by decide +kernel
theorem d117_13 : decode (am_code 117) 13 = .ok (.aload_n 0, 1) := by decide +kernel
theorem d117_14 : decode (am_code 117) 14 = .ok (.aload_n 0, 1) := by decide +kernel
theorem d117_15 : decode (am_code 117) 15 = .ok (.getfield 31, 3) := by decide +kernel
theorem d117_18 : decode (am_code 117) 18 = .ok (.iload_n 2, 1) := by decide +kernel
theorem d117_19 : decode (am_code 117) 19 = .ok (.iload_n 3, 1) := by decide +kernel
theorem d117_20 : decode (am_code 117) 20 = .ok (.invokevirtual 94, 3) := by decide +kernel
theorem d117_23 : decode (am_code 117) 23 = .ok (.iconst 0, 1) := by decide +kernel
theorem d117_24 : decode (am_code 117) 24 = .ok (.istore 4, 2) := by decide +kernel
theorem d117_26 : decode (am_code 117) 26 = .ok (.iload 4, 2) := by decide +kernel
theorem d117_28 : decode (am_code 117) 28 = .ok (.iconst 4, 1) := by decide +kernel
theorem d117_29 : decode (am_code 117) 29 = .ok (.if_icmp .ge 123, 3) := by decide +kernel
theorem d117_32 : decode (am_code 117) 32 = .ok (.iload 4, 2) := by decide +kernel
theorem d117_34 : decode (am_code 117) 34 = .ok (.iload_n 1, 1) := by decide +kernel
theorem d117_35 : decode (am_code 117) 35 = .ok (.iconst 4, 1) := by decide +kernel
theorem d117_36 : decode (am_code 117) 36 = .ok (.irem, 1) := by decide +kernel
theorem d117_37 : decode (am_code 117) 37 = .ok (.if_icmp .ne 6, 3) := by decide +kernel
theorem d117_40 : decode (am_code 117) 40 = .ok (.goto 106, 3) := by decide +kernel
theorem d117_43 : decode (am_code 117) 43 = .ok (.aload_n 0, 1) := by decide +kernel
theorem d117_44 : decode (am_code 117) 44 = .ok (.aload_n 0, 1) := by decide +kernel
theorem d117_45 : decode (am_code 117) 45 = .ok (.getfield 28, 3) := by decide +kernel
theorem d117_48 : decode (am_code 117) 48 = .ok (.iconst 4, 1) := by decide +kernel
theorem d117_49 : decode (am_code 117) 49 = .ok (.iload_n 2, 1) := by decide +kernel
theorem d117_50 : decode (am_code 117) 50 = .ok (.imul, 1) := by decide +kernel
theorem d117_51 : decode (am_code 117) 51 = .ok (.iload 4, 2) := by decide +kernel
theorem d117_53 : decode (am_code 117) 53 = .ok (.iadd, 1) := by decide +kernel
theorem d117_54 : decode (am_code 117) 54 = .ok (.iconst 4, 1) := by decide +kernel
theorem d117_55 : decode (am_code 117) 55 = .ok (.iload_n 3, 1) := by decide +kernel
theorem d117_56 : decode (am_code 117) 56 = .ok (.imul, 1) := by decide +kernel
theorem d117_57 : decode (am_code 117) 57 = .ok (.aload_n 0, 1) := by decide +kernel
theorem d117_58 : decode (am_code 117) 58 = .ok (.getfield 13, 3) := by decide +kernel
theorem d117_61 : decode (am_code 117) 61 = .ok (.iconst 4, 1) := by decide +kernel
theorem d117_62 : decode (am_code 117) 62 = .ok (.iload_n 1, 1) := by decide +kernel
theorem d117_63 : decode (am_code 117) 63 = .ok (.imul, 1) := by decide +kernel
theorem d117_64 : decode (am_code 117) 64 = .ok (.iload 4, 2) := by decide +kernel
theorem d117_66 : decode (am_code 117) 66 = .ok (.iadd, 1) := by decide +kernel
theorem d117_67 : decode (am_code 117) 67 = .ok (.iaload, 1) := by decide +kernel
theorem d117_68 : decode (am_code 117) 68 = .ok (.iadd, 1) := by decide +kernel
theorem d117_69 : decode (am_code 117) 69 = .ok (.invokevirtual 94, 3) := by decide +kernel
theorem d117_72 : decode (am_code 117) 72 = .ok (.iconst 0, 1) := by decide +kernel
theorem d117_73 : decode (am_code 117) 73 = .ok (.istore 5, 2) := by decide +kernel
theorem d117_75 : decode (am_code 117) 75 = .ok (.iload 5, 2) := by decide +kernel
theorem d117_77 : decode (am_code 117) 77 = .ok (.iconst 4, 1) := by decide +kernel
theorem d117_78 : decode (am_code 117) 78 = .ok (.if_icmp .ge 68, 3) := by decide +kernel
theorem d117_81 : decode (am_code 117) 81 = .ok (.iload 5, 2) := by decide +kernel
theorem d117_83 : decode (am_code 117) 83 = .ok (.iload 4, 2) := by decide +kernel
theorem d117_85 : decode (am_code 117) 85 = .ok (.if_icmp .eq 55, 3) := by decide +kernel
theorem d117_88 : decode (am_code 117) 88 = .ok (.iload 5, 2) := by decide +kernel
theorem d117_90 : decode (am_code 117) 90 = .ok (.iload_n 1, 1) := by decide +kernel
theorem d117_91 : decode (am_code 117) 91 = .ok (.iconst 4, 1) := by decide +kernel
theorem d117_92 : decode (am_code 117) 92 = .ok (.irem, 1) := by decide +kernel
theorem d117_93 : decode (am_code 117) 93 = .ok (.if_icmp .eq 47, 3) := by decide +kernel
theorem d117_96 : decode (am_code 117) 96 = .ok (.aload_n 0, 1) := by decide +kernel
theorem d117_97 : decode (am_code 117) 97 = .ok (.aload_n 0, 1) := by decide +kernel
theorem d117_98 : decode (am_code 117) 98 = .ok (.getfield 25, 3) := by decide +kernel
theorem d117_101 : decode (am_code 117) 101 = .ok (.aload_n 0, 1) := by decide +kernel
theorem d117_102 : decode (am_code 117) 102 = .ok (.iload_n 2, 1) := by decide +kernel
theorem d117_103 : decode (am_code 117) 103 = .ok (.iload 4, 2) := by decide +kernel
theorem d117_105 : decode (am_code 117) 105 = .ok (.iload 5, 2) := by decide +kernel
theorem d117_107 : decode (am_code 117) 107 = .ok (.invokevirtual 98, 3) := by decide +kernel
theorem d117_110 : decode (am_code 117) 110 = .ok (.aload_n 0, 1) := by decide +kernel
theorem d117_111 : decode (am_code 117) 111 = .ok (.iload_n 3, 1) := by decide +kernel
theorem d117_112 : decode (am_code 117) 112 = .ok (.aload_n 0, 1) := by decide +kernel
theorem d117_113 : decode (am_code 117) 113 = .ok (.getfield 13, 3) := by decide +kernel
theorem d117_116 : decode (am_code 117) 116 = .ok (.iconst 4, 1) := by decide +kernel
theorem d117_117 : decode (am_code 117) 117 = .ok (.iload_n 1, 1) := by decide +kernel
theorem d117_118 : decode (am_code 117) 118 = .ok (.imul, 1) := by decide +kernel
theorem d117_119 : decode (am_code 117) 119 = .ok (.iload 4, 2) := by decide +kernel
theorem d117_121 : decode (am_code 117) 121 = .ok (.iadd, 1) := by decide +kernel
theorem d117_122 : decode (am_code 117) 122 = .ok (.iaload, 1) := by decide +kernel
theorem d117_123 : decode (am_code 117) 123 = .ok (.aload_n 0, 1) := by decide +kernel
theorem d117_124 : decode (am_code 117) 124 = .ok (.getfield 13, 3) := by decide +kernel
theorem d117_127 : decode (am_code 117) 127 = .ok (.iconst 4, 1) := by decide +kernel
theorem d117_128 : decode (am_code 117) 128 = .ok (.iload_n 1, 1) := by decide +kernel
theorem d117_129 : decode (am_code 117) 129 = .ok (.imul, 1) := by decide +kernel
theorem d117_130 : decode (am_code 117) 130 = .ok (.iload 5, 2) := by decide +kernel
theorem d117_132 : decode (am_code 117) 132 = .ok (.iadd, 1) := by decide +kernel
theorem d117_133 : decode (am_code 117) 133 = .ok (.iaload, 1) := by decide +kernel
theorem d117_134 : decode (am_code 117) 134 = .ok (.invokevirtual 98, 3) := by decide +kernel
theorem d117_137 : decode (am_code 117) 137 = .ok (.invokevirtual 94, 3) := by decide +kernel
theorem d117_140 : decode (am_code 117) 140 = .ok (.iinc 5 1, 3) := by decide +kernel
theorem d117_143 : decode (am_code 117) 143 = .ok (.goto (-68), 3) := by decide +kernel
theorem d117_146 : decode (am_code 117) 146 = .ok (.iinc 4 1, 3) := by decide +kernel
theorem d117_149 : decode (am_code 117) 149 = .ok (.goto (-123), 3) := by decide +kernel
theorem d117_152 : decode (am_code 117) 152 = .ok (.return_, 1) := by decide +kernel
theorem f117_7 : am_find am_ftL (am_mc 117) 7 = some (7, 1) := by decide +kernel
theorem f117_31 : am_find am_ftL (am_mc 117) 31 = some (7, 8) := by decide +kernel
theorem f117_28 : am_find am_ftL (am_mc 117) 28 = some (7, 7) := by decide +kernel
theorem f117_13 : am_find am_ftL (am_mc 117) 13 = some (7, 2) := by decide +kernel
theorem f117_25 : am_find am_ftL (am_mc 117) 25 = some (7, 6) := by decide +kernel
theorem c117_94 : am_find am_ctL (am_mc 117) 94 = some (0, 115) ∧ am_na 115 = 3 ∧ am_fr 115 + 1 ≤ am_fr 117 ∧ 8 + (am_maxL 115 + 11) + am_lo 115 ≤ am_lo 117 := by decide +kernel
theorem c117_98 : am_find am_ctL (am_mc 117) 98 = some (0, 113) ∧ am_na 113 = 3 ∧ am_fr 113 + 1 ≤ am_fr 117 ∧ 8 + (am_maxL 113 + 11) + am_lo 113 ≤ am_lo 117 := by decide +kernel
theorem l117 : am_maxL 117 = 6 := by decide +kernel
theorem t117 : am_ret 117 = none := by decide +kernel
/-! ThirdSheetsModel.edgeLabel(II)I is 118 -/
theorem d118_0 : decode (am_code 118) 0 = .ok (.aload_n 0, 1) := by decide +kernel
theorem d118_1 : decode (am_code 118) 1 = .ok (.getfield 25, 3) := by decide +kernel
theorem d118_4 : decode (am_code 118) 4 = .ok (.bipush 12, 2) := by decide +kernel
theorem d118_6 : decode (am_code 118) 6 = .ok (.iload_n 1, 1) := by decide +kernel
theorem d118_7 : decode (am_code 118) 7 = .ok (.imul, 1) := by decide +kernel
theorem d118_8 : decode (am_code 118) 8 = .ok (.iconst 2, 1) := by decide +kernel
theorem d118_9 : decode (am_code 118) 9 = .ok (.iload_n 2, 1) := by decide +kernel
theorem d118_10 : decode (am_code 118) 10 = .ok (.imul, 1) := by decide +kernel
theorem d118_11 : decode (am_code 118) 11 = .ok (.iadd, 1) := by decide +kernel
theorem d118_12 : decode (am_code 118) 12 = .ok (.iaload, 1) := by decide +kernel
theorem d118_13 : decode (am_code 118) 13 = .ok (.aload_n 0, 1) := by decide +kernel
theorem d118_14 : decode (am_code 118) 14 = .ok (.getfield 25, 3) := by decide +kernel
theorem d118_17 : decode (am_code 118) 17 = .ok (.bipush 12, 2) := by decide +kernel
theorem d118_19 : decode (am_code 118) 19 = .ok (.iload_n 1, 1) := by decide +kernel
theorem d118_20 : decode (am_code 118) 20 = .ok (.imul, 1) := by decide +kernel
theorem d118_21 : decode (am_code 118) 21 = .ok (.iconst 2, 1) := by decide +kernel
theorem d118_22 : decode (am_code 118) 22 = .ok (.iload_n 2, 1) := by decide +kernel
theorem d118_23 : decode (am_code 118) 23 = .ok (.imul, 1) := by decide +kernel
theorem d118_24 : decode (am_code 118) 24 = .ok (.iadd, 1) := by decide +kernel
theorem d118_25 : decode (am_code 118) 25 = .ok (.iconst 1, 1) := by decide +kernel
theorem d118_26 : decode (am_code 118) 26 = .ok (.iadd, 1) := by decide +kernel
theorem d118_27 : decode (am_code 118) 27 = .ok (.iaload, 1) := by decide +kernel
theorem d118_28 : decode (am_code 118) 28 = .ok (.invokestatic 83, 3) := by decide +kernel
theorem d118_31 : decode (am_code 118) 31 = .ok (.iconst 2, 1) := by decide +kernel
theorem d118_32 : decode (am_code 118) 32 = .ok (.idiv, 1) := by decide +kernel
theorem d118_33 : decode (am_code 118) 33 = .ok (.ireturn, 1) := by decide +kernel
theorem f118_25 : am_find am_ftL (am_mc 118) 25 = some (7, 6) := by decide +kernel
theorem c118_83 : am_find am_ctL (am_mc 118) 83 = some (1, 114) ∧ am_na 114 = 2 ∧ am_fr 114 + 1 ≤ am_fr 118 ∧ 8 + (am_maxL 114 + 11) + am_lo 114 ≤ am_lo 118 := by decide +kernel
theorem l118 : am_maxL 118 = 3 := by decide +kernel
theorem t118 : am_ret 118 = (some .int) := by decide +kernel
/-! ThirdSheetsModel.isFirstEdge(I)Z is 119 -/
theorem d119_0 : decode (am_code 119) 0 = .ok (.aload_n 0, 1) := by decide +kernel
theorem d119_1 : decode (am_code 119) 1 = .ok (.iload_n 1, 1) := by decide +kernel
theorem d119_2 : decode (am_code 119) 2 = .ok (.bipush 6, 2) := by decide +kernel
theorem d119_4 : decode (am_code 119) 4 = .ok (.idiv, 1) := by decide +kernel
theorem d119_5 : decode (am_code 119) 5 = .ok (.iload_n 1, 1) := by decide +kernel
theorem d119_6 : decode (am_code 119) 6 = .ok (.bipush 6, 2) := by decide +kernel
theorem d119_8 : decode (am_code 119) 8 = .ok (.irem, 1) := by decide +kernel
theorem d119_9 : decode (am_code 119) 9 = .ok (.invokevirtual 102, 3) := by decide +kernel
theorem d119_12 : decode (am_code 119) 12 = .ok (.iload_n 1, 1) := by decide +kernel
theorem d119_13 : decode (am_code 119) 13 = .ok (.if_icmp .ne 7, 3) := by decide +kernel
theorem d119_16 : decode (am_code 119) 16 = .ok (.iconst 1, 1) := by decide +kernel
theorem d119_17 : decode (am_code 119) 17 = .ok (.goto 4, 3) := by decide +kernel
theorem d119_20 : decode (am_code 119) 20 = .ok (.iconst 0, 1) := by decide +kernel
theorem d119_21 : decode (am_code 119) 21 = .ok (.ireturn, 1) := by decide +kernel
theorem c119_102 : am_find am_ctL (am_mc 119) 102 = some (0, 118) ∧ am_na 118 = 2 ∧ am_fr 118 + 1 ≤ am_fr 119 ∧ 8 + (am_maxL 118 + 11) + am_lo 118 ≤ am_lo 119 := by decide +kernel
theorem l119 : am_maxL 119 = 2 := by decide +kernel
theorem t119 : am_ret 119 = (some .boolean) := by decide +kernel
/-! ThirdSheetsModel.edgeClasses()I is 120 -/
theorem d120_0 : decode (am_code 120) 0 = .ok (.iconst 0, 1) := by decide +kernel
theorem d120_1 : decode (am_code 120) 1 = .ok (.istore_n 1, 1) := by decide +kernel
theorem d120_2 : decode (am_code 120) 2 = .ok (.iconst 0, 1) := by decide +kernel
theorem d120_3 : decode (am_code 120) 3 = .ok (.istore_n 2, 1) := by decide +kernel
theorem d120_4 : decode (am_code 120) 4 = .ok (.iload_n 2, 1) := by decide +kernel
theorem d120_5 : decode (am_code 120) 5 = .ok (.bipush 6, 2) := by decide +kernel
theorem d120_7 : decode (am_code 120) 7 = .ok (.aload_n 0, 1) := by decide +kernel
theorem d120_8 : decode (am_code 120) 8 = .ok (.getfield 67, 3) := by decide +kernel
theorem d120_11 : decode (am_code 120) 11 = .ok (.imul, 1) := by decide +kernel
theorem d120_12 : decode (am_code 120) 12 = .ok (.if_icmp .ge 25, 3) := by decide +kernel
theorem d120_15 : decode (am_code 120) 15 = .ok (.iload_n 1, 1) := by decide +kernel
theorem d120_16 : decode (am_code 120) 16 = .ok (.aload_n 0, 1) := by decide +kernel
theorem d120_17 : decode (am_code 120) 17 = .ok (.iload_n 2, 1) := by decide +kernel
theorem d120_18 : decode (am_code 120) 18 = .ok (.invokevirtual 105, 3) := by decide +kernel
theorem d120_21 : decode (am_code 120) 21 = .ok (.ifCond .eq 7, 3) := by decide +kernel
theorem d120_24 : decode (am_code 120) 24 = .ok (.iconst 1, 1) := by decide +kernel
theorem d120_25 : decode (am_code 120) 25 = .ok (.goto 4, 3) := by decide +kernel
theorem d120_28 : decode (am_code 120) 28 = .ok (.iconst 0, 1) := by decide +kernel
theorem d120_29 : decode (am_code 120) 29 = .ok (.iadd, 1) := by decide +kernel
theorem d120_30 : decode (am_code 120) 30 = .ok (.istore_n 1, 1) := by decide +kernel
theorem d120_31 : decode (am_code 120) 31 = .ok (.iinc 2 1, 3) := by decide +kernel
theorem d120_34 : decode (am_code 120) 34 = .ok (.goto (-30), 3) := by decide +kernel
theorem d120_37 : decode (am_code 120) 37 = .ok (.iload_n 1, 1) := by decide +kernel
theorem d120_38 : decode (am_code 120) 38 = .ok (.ireturn, 1) := by decide +kernel
theorem f120_67 : am_find am_ftL (am_mc 120) 67 = some (7, 0) := by decide +kernel
theorem c120_105 : am_find am_ctL (am_mc 120) 105 = some (0, 119) ∧ am_na 119 = 1 ∧ am_fr 119 + 1 ≤ am_fr 120 ∧ 8 + (am_maxL 119 + 11) + am_lo 119 ≤ am_lo 120 := by decide +kernel
theorem l120 : am_maxL 120 = 3 := by decide +kernel
theorem t120 : am_ret 120 = (some .int) := by decide +kernel
/-! ThirdSheetsModel.cornerClasses()I is 121 -/
theorem d121_0 : decode (am_code 121) 0 = .ok (.iconst 0, 1) := by decide +kernel
theorem d121_1 : decode (am_code 121) 1 = .ok (.istore_n 1, 1) := by decide +kernel
theorem d121_2 : decode (am_code 121) 2 = .ok (.iconst 0, 1) := by decide +kernel
theorem d121_3 : decode (am_code 121) 3 = .ok (.istore_n 2, 1) := by decide +kernel
theorem d121_4 : decode (am_code 121) 4 = .ok (.iload_n 2, 1) := by decide +kernel
theorem d121_5 : decode (am_code 121) 5 = .ok (.iconst 4, 1) := by decide +kernel
theorem d121_6 : decode (am_code 121) 6 = .ok (.aload_n 0, 1) := by decide +kernel
theorem d121_7 : decode (am_code 121) 7 = .ok (.getfield 67, 3) := by decide +kernel
theorem d121_10 : decode (am_code 121) 10 = .ok (.imul, 1) := by decide +kernel
theorem d121_11 : decode (am_code 121) 11 = .ok (.if_icmp .ge 27, 3) := by decide +kernel
theorem d121_14 : decode (am_code 121) 14 = .ok (.iload_n 1, 1) := by decide +kernel
theorem d121_15 : decode (am_code 121) 15 = .ok (.aload_n 0, 1) := by decide +kernel
theorem d121_16 : decode (am_code 121) 16 = .ok (.getfield 28, 3) := by decide +kernel
theorem d121_19 : decode (am_code 121) 19 = .ok (.iload_n 2, 1) := by decide +kernel
theorem d121_20 : decode (am_code 121) 20 = .ok (.iaload, 1) := by decide +kernel
theorem d121_21 : decode (am_code 121) 21 = .ok (.iload_n 2, 1) := by decide +kernel
theorem d121_22 : decode (am_code 121) 22 = .ok (.if_icmp .ne 7, 3) := by decide +kernel
theorem d121_25 : decode (am_code 121) 25 = .ok (.iconst 1, 1) := by decide +kernel
theorem d121_26 : decode (am_code 121) 26 = .ok (.goto 4, 3) := by decide +kernel
theorem d121_29 : decode (am_code 121) 29 = .ok (.iconst 0, 1) := by decide +kernel
theorem d121_30 : decode (am_code 121) 30 = .ok (.iadd, 1) := by decide +kernel
theorem d121_31 : decode (am_code 121) 31 = .ok (.istore_n 1, 1) := by decide +kernel
theorem d121_32 : decode (am_code 121) 32 = .ok (.iinc 2 1, 3) := by decide +kernel
theorem d121_35 : decode (am_code 121) 35 = .ok (.goto (-31), 3) := by decide +kernel
theorem d121_38 : decode (am_code 121) 38 = .ok (.iload_n 1, 1) := by decide +kernel
theorem d121_39 : decode (am_code 121) 39 = .ok (.ireturn, 1) := by decide +kernel
theorem f121_67 : am_find am_ftL (am_mc 121) 67 = some (7, 0) := by decide +kernel
theorem f121_28 : am_find am_ftL (am_mc 121) 28 = some (7, 7) := by decide +kernel
theorem l121 : am_maxL 121 = 3 := by decide +kernel
theorem t121 : am_ret 121 = (some .int) := by decide +kernel
/-! ThirdSheetsModel.edgeOfClass(I)I is 122 -/
theorem d122_0 : decode (am_code 122) 0 = .ok (.iload_n 1, 1) := by decide +kernel
theorem d122_1 : decode (am_code 122) 1 = .ok (.istore_n 2, 1) := by decide +kernel
theorem d122_2 : decode (am_code 122) 2 = .ok (.iconst 0, 1) := by decide +kernel
theorem d122_3 : decode (am_code 122) 3 = .ok (.istore_n 3, 1) := by decide +kernel
theorem d122_4 : decode (am_code 122) 4 = .ok (.iload_n 3, 1) := by decide +kernel
theorem d122_5 : decode (am_code 122) 5 = .ok (.bipush 6, 2) := by decide +kernel
theorem d122_7 : decode (am_code 122) 7 = .ok (.aload_n 0, 1) := by decide +kernel
theorem d122_8 : decode (am_code 122) 8 = .ok (.getfield 67, 3) := by decide +kernel
theorem d122_11 : decode (am_code 122) 11 = .ok (.imul, 1) := by decide +kernel
theorem d122_12 : decode (am_code 122) 12 = .ok (.if_icmp .ge 30, 3) := by decide +kernel
theorem d122_15 : decode (am_code 122) 15 = .ok (.iload_n 1, 1) := by decide +kernel
theorem d122_16 : decode (am_code 122) 16 = .ok (.ifCond .lt 26, 3) := by decide +kernel
theorem d122_19 : decode (am_code 122) 19 = .ok (.aload_n 0, 1) := by decide +kernel
theorem d122_20 : decode (am_code 122) 20 = .ok (.iload_n 3, 1) := by decide +kernel
theorem d122_21 : decode (am_code 122) 21 = .ok (.invokevirtual 105, 3) := by decide +kernel
theorem d122_24 : decode (am_code 122) 24 = .ok (.ifCond .eq 12, 3) := by decide +kernel
theorem d122_27 : decode (am_code 122) 27 = .ok (.iload_n 2, 1) := by decide +kernel
theorem d122_28 : decode (am_code 122) 28 = .ok (.ifCond .ne 5, 3) := by decide +kernel
theorem d122_31 : decode (am_code 122) 31 = .ok (.iload_n 3, 1) := by decide +kernel
theorem d122_32 : decode (am_code 122) 32 = .ok (.ireturn, 1) := by decide +kernel
theorem d122_33 : decode (am_code 122) 33 = .ok (.iinc 2 (-1), 3) := by decide +kernel
theorem d122_36 : decode (am_code 122) 36 = .ok (.iinc 3 1, 3) := by decide +kernel
theorem d122_39 : decode (am_code 122) 39 = .ok (.goto (-35), 3) := by decide +kernel
theorem d122_42 : decode (am_code 122) 42 = .ok (.iconst (-1), 1) := by decide +kernel
theorem d122_43 : decode (am_code 122) 43 = .ok (.ireturn, 1) := by decide +kernel
theorem f122_67 : am_find am_ftL (am_mc 122) 67 = some (7, 0) := by decide +kernel
theorem c122_105 : am_find am_ctL (am_mc 122) 105 = some (0, 119) ∧ am_na 119 = 1 ∧ am_fr 119 + 1 ≤ am_fr 122 ∧ 8 + (am_maxL 119 + 11) + am_lo 119 ≤ am_lo 122 := by decide +kernel
theorem l122 : am_maxL 122 = 4 := by decide +kernel
theorem t122 : am_ret 122 = (some .int) := by decide +kernel
/-! ThirdSheetsModel.cornerOfClass(I)I is 123 -/
theorem d123_0 : decode (am_code 123) 0 = .ok (.iload_n 1, 1) := by decide +kernel
theorem d123_1 : decode (am_code 123) 1 = .ok (.istore_n 2, 1) := by decide +kernel
theorem d123_2 : decode (am_code 123) 2 = .ok (.iconst 0, 1) := by decide +kernel
theorem d123_3 : decode (am_code 123) 3 = .ok (.istore_n 3, 1) := by decide +kernel
theorem d123_4 : decode (am_code 123) 4 = .ok (.iload_n 3, 1) := by decide +kernel
theorem d123_5 : decode (am_code 123) 5 = .ok (.iconst 4, 1) := by decide +kernel
theorem d123_6 : decode (am_code 123) 6 = .ok (.aload_n 0, 1) := by decide +kernel
theorem d123_7 : decode (am_code 123) 7 = .ok (.getfield 67, 3) := by decide +kernel
theorem d123_10 : decode (am_code 123) 10 = .ok (.imul, 1) := by decide +kernel
theorem d123_11 : decode (am_code 123) 11 = .ok (.if_icmp .ge 32, 3) := by decide +kernel
theorem d123_14 : decode (am_code 123) 14 = .ok (.iload_n 1, 1) := by decide +kernel
theorem d123_15 : decode (am_code 123) 15 = .ok (.ifCond .lt 28, 3) := by decide +kernel
theorem d123_18 : decode (am_code 123) 18 = .ok (.aload_n 0, 1) := by decide +kernel
theorem d123_19 : decode (am_code 123) 19 = .ok (.getfield 28, 3) := by decide +kernel
theorem d123_22 : decode (am_code 123) 22 = .ok (.iload_n 3, 1) := by decide +kernel
theorem d123_23 : decode (am_code 123) 23 = .ok (.iaload, 1) := by decide +kernel
theorem d123_24 : decode (am_code 123) 24 = .ok (.iload_n 3, 1) := by decide +kernel
theorem d123_25 : decode (am_code 123) 25 = .ok (.if_icmp .ne 12, 3) := by decide +kernel
theorem d123_28 : decode (am_code 123) 28 = .ok (.iload_n 2, 1) := by decide +kernel
theorem d123_29 : decode (am_code 123) 29 = .ok (.ifCond .ne 5, 3) := by decide +kernel
theorem d123_32 : decode (am_code 123) 32 = .ok (.iload_n 3, 1) := by decide +kernel
theorem d123_33 : decode (am_code 123) 33 = .ok (.ireturn, 1) := by decide +kernel
theorem d123_34 : decode (am_code 123) 34 = .ok (.iinc 2 (-1), 3) := by decide +kernel
theorem d123_37 : decode (am_code 123) 37 = .ok (.iinc 3 1, 3) := by decide +kernel
theorem d123_40 : decode (am_code 123) 40 = .ok (.goto (-36), 3) := by decide +kernel
theorem d123_43 : decode (am_code 123) 43 = .ok (.iconst (-1), 1) := by decide +kernel
theorem d123_44 : decode (am_code 123) 44 = .ok (.ireturn, 1) := by decide +kernel
theorem f123_67 : am_find am_ftL (am_mc 123) 67 = some (7, 0) := by decide +kernel
theorem f123_28 : am_find am_ftL (am_mc 123) 28 = some (7, 7) := by decide +kernel
theorem l123 : am_maxL 123 = 4 := by decide +kernel
theorem t123 : am_ret 123 = (some .int) := by decide +kernel
/-! ThirdSheetsModel.isBent(I)Z is 124 -/
theorem d124_0 : decode (am_code 124) 0 = .ok (.aload_n 0, 1) := by decide +kernel
theorem d124_1 : decode (am_code 124) 1 = .ok (.getfield 25, 3) := by decide +kernel
theorem d124_4 : decode (am_code 124) 4 = .ok (.iconst 2, 1) := by decide +kernel
theorem d124_5 : decode (am_code 124) 5 = .ok (.iload_n 1, 1) := by decide +kernel
theorem d124_6 : decode (am_code 124) 6 = .ok (.imul, 1) := by decide +kernel
theorem d124_7 : decode (am_code 124) 7 = .ok (.iaload, 1) := by decide +kernel
theorem d124_8 : decode (am_code 124) 8 = .ok (.aload_n 0, 1) := by decide +kernel
theorem d124_9 : decode (am_code 124) 9 = .ok (.getfield 25, 3) := by decide +kernel
theorem d124_12 : decode (am_code 124) 12 = .ok (.iconst 2, 1) := by decide +kernel
theorem d124_13 : decode (am_code 124) 13 = .ok (.iload_n 1, 1) := by decide +kernel
theorem d124_14 : decode (am_code 124) 14 = .ok (.imul, 1) := by decide +kernel
theorem d124_15 : decode (am_code 124) 15 = .ok (.iconst 1, 1) := by decide +kernel
theorem d124_16 : decode (am_code 124) 16 = .ok (.iadd, 1) := by decide +kernel
theorem d124_17 : decode (am_code 124) 17 = .ok (.iaload, 1) := by decide +kernel
theorem d124_18 : decode (am_code 124) 18 = .ok (.if_icmp .ne 7, 3) := by decide +kernel
theorem d124_21 : decode (am_code 124) 21 = .ok (.iconst 1, 1) := by decide +kernel
theorem d124_22 : decode (am_code 124) 22 = .ok (.goto 4, 3) := by decide +kernel
theorem d124_25 : decode (am_code 124) 25 = .ok (.iconst 0, 1) := by decide +kernel
theorem d124_26 : decode (am_code 124) 26 = .ok (.ireturn, 1) := by decide +kernel
theorem f124_25 : am_find am_ftL (am_mc 124) 25 = some (7, 6) := by decide +kernel
theorem l124 : am_maxL 124 = 2 := by decide +kernel
theorem t124 : am_ret 124 = (some .boolean) := by decide +kernel
/-! ThirdSheetsModel.anyBent()Z is 125 -/
theorem d125_0 : decode (am_code 125) 0 = .ok (.iconst 0, 1) := by decide +kernel
theorem d125_1 : decode (am_code 125) 1 = .ok (.istore_n 1, 1) := by decide +kernel
theorem d125_2 : decode (am_code 125) 2 = .ok (.iconst 0, 1) := by decide +kernel
theorem d125_3 : decode (am_code 125) 3 = .ok (.istore_n 2, 1) := by decide +kernel
theorem d125_4 : decode (am_code 125) 4 = .ok (.iload_n 2, 1) := by decide +kernel
theorem d125_5 : decode (am_code 125) 5 = .ok (.bipush 6, 2) := by decide +kernel
theorem d125_7 : decode (am_code 125) 7 = .ok (.aload_n 0, 1) := by decide +kernel
theorem d125_8 : decode (am_code 125) 8 = .ok (.getfield 67, 3) := by decide +kernel
theorem d125_11 : decode (am_code 125) 11 = .ok (.imul, 1) := by decide +kernel
theorem d125_12 : decode (am_code 125) 12 = .ok (.if_icmp .ge 27, 3) := by decide +kernel
theorem d125_15 : decode (am_code 125) 15 = .ok (.iload_n 1, 1) := by decide +kernel
theorem d125_16 : decode (am_code 125) 16 = .ok (.ifCond .ne 11, 3) := by decide +kernel
theorem d125_19 : decode (am_code 125) 19 = .ok (.aload_n 0, 1) := by decide +kernel
theorem d125_20 : decode (am_code 125) 20 = .ok (.iload_n 2, 1) := by decide +kernel
theorem d125_21 : decode (am_code 125) 21 = .ok (.invokevirtual 108, 3) := by decide +kernel
theorem d125_24 : decode (am_code 125) 24 = .ok (.ifCond .eq 7, 3) := by decide +kernel
theorem d125_27 : decode (am_code 125) 27 = .ok (.iconst 1, 1) := by decide +kernel
theorem d125_28 : decode (am_code 125) 28 = .ok (.goto 4, 3) := by decide +kernel
theorem d125_31 : decode (am_code 125) 31 = .ok (.iconst 0, 1) := by decide +kernel
theorem d125_32 : decode (am_code 125) 32 = .ok (.istore_n 1, 1) := by decide +kernel
theorem d125_33 : decode (am_code 125) 33 = .ok (.iinc 2 1, 3) := by decide +kernel
theorem d125_36 : decode (am_code 125) 36 = .ok (.goto (-32), 3) := by decide +kernel
theorem d125_39 : decode (am_code 125) 39 = .ok (.iload_n 1, 1) := by decide +kernel
theorem d125_40 : decode (am_code 125) 40 = .ok (.ireturn, 1) := by decide +kernel
theorem f125_67 : am_find am_ftL (am_mc 125) 67 = some (7, 0) := by decide +kernel
theorem c125_108 : am_find am_ctL (am_mc 125) 108 = some (0, 124) ∧ am_na 124 = 1 ∧ am_fr 124 + 1 ≤ am_fr 125 ∧ 8 + (am_maxL 124 + 11) + am_lo 124 ≤ am_lo 125 := by decide +kernel
theorem l125 : am_maxL 125 = 3 := by decide +kernel
theorem t125 : am_ret 125 = (some .boolean) := by decide +kernel
/-! ThirdSheetsModel.piece()I is 126 -/
theorem d126_0 : decode (am_code 126) 0 = .ok (.aload_n 0, 1) := by decide +kernel
theorem d126_1 : decode (am_code 126) 1 = .ok (.getfield 67, 3) := by decide +kernel
theorem d126_4 : decode (am_code 126) 4 = .ok (.iconst 3, 1) := by decide +kernel
theorem d126_5 : decode (am_code 126) 5 = .ok (.if_icmp .ne 6, 3) := by decide +kernel
theorem d126_8 : decode (am_code 126) 8 = .ok (.bipush (-4), 2) := by decide +kernel
theorem d126_10 : decode (am_code 126) 10 = .ok (.ireturn, 1) := by decide +kernel
theorem d126_11 : decode (am_code 126) 11 = .ok (.iconst 0, 1) := by decide +kernel
theorem d126_12 : decode (am_code 126) 12 = .ok (.istore_n 1, 1) := by decide +kernel
theorem d126_13 : decode (am_code 126) 13 = .ok (.iload_n 1, 1) := by decide +kernel
theorem d126_14 : decode (am_code 126) 14 = .ok (.iconst 4, 1) := by decide +kernel
theorem d126_15 : decode (am_code 126) 15 = .ok (.if_icmp .ge 23, 3) := by decide +kernel
theorem d126_18 : decode (am_code 126) 18 = .ok (.aload_n 0, 1) := by decide +kernel
theorem d126_19 : decode (am_code 126) 19 = .ok (.getfield 7, 3) := by decide +kernel
theorem d126_22 : decode (am_code 126) 22 = .ok (.iconst 4, 1) := by decide +kernel
theorem d126_23 : decode (am_code 126) 23 = .ok (.aload_n 0, 1) := by decide +kernel
theorem d126_24 : decode (am_code 126) 24 = .ok (.getfield 67, 3) := by decide +kernel
theorem d126_27 : decode (am_code 126) 27 = .ok (.imul, 1) := by decide +kernel
theorem d126_28 : decode (am_code 126) 28 = .ok (.iload_n 1, 1) := by decide +kernel
theorem d126_29 : decode (am_code 126) 29 = .ok (.iadd, 1) := by decide +kernel
theorem d126_30 : decode (am_code 126) 30 = .ok (.iconst (-1), 1) := by decide +kernel
theorem d126_31 : decode (am_code 126) 31 = .ok (.iastore, 1) := by decide +kernel
theorem d126_32 : decode (am_code 126) 32 = .ok (.iinc 1 1, 3) := by decide +kernel
theorem d126_35 : decode (am_code 126) 35 = .ok (.goto (-22), 3) := by decide +kernel
theorem d126_38 : decode (am_code 126) 38 = .ok (.aload_n 0, 1) := by decide +kernel
theorem d126_39 : decode (am_code 126) 39 = .ok (.dup, 1) := by decide +kernel
theorem d126_40 : decode (am_code 126) 40 = .ok (.getfield 67, 3) := by decide +kernel
theorem d126_43 : decode (am_code 126) 43 = .ok (.iconst 1, 1) := by decide +kernel
theorem d126_44 : decode (am_code 126) 44 = .ok (.iadd, 1) := by decide +kernel
theorem d126_45 : decode (am_code 126) 45 = .ok (.putfield 67, 3) := by decide +kernel
theorem d126_48 : decode (am_code 126) 48 = .ok (.aload_n 0, 1) := by decide +kernel
theorem d126_49 : decode (am_code 126) 49 = .ok (.invokevirtual 111, 3) := by decide +kernel
theorem d126_52 : decode (am_code 126) 52 = .ok (.aload_n 0, 1) := by decide +kernel
theorem d126_53 : decode (am_code 126) 53 = .ok (.getfield 67, 3) := by decide +kernel
theorem d126_56 : decode (am_code 126) 56 = .ok (.iconst 1, 1) := by decide +kernel
theorem d126_57 : decode (am_code 126) 57 = .ok (.isub, 1) := by decide +kernel
theorem d126_58 : decode (am_code 126) 58 = .ok (.ireturn, 1) := by decide +kernel
theorem f126_67 : am_find am_ftL (am_mc 126) 67 = some (7, 0) := by decide +kernel
theorem f126_7 : am_find am_ftL (am_mc 126) 7 = some (7, 1) := by decide +kernel
theorem c126_111 : am_find am_ctL (am_mc 126) 111 = some (0, 127) ∧ am_na 127 = 0 ∧ am_fr 127 + 1 ≤ am_fr 126 ∧ 8 + (am_maxL 127 + 11) + am_lo 127 ≤ am_lo 126 := by decide +kernel
theorem l126 : am_maxL 126 = 2 := by decide +kernel
theorem t126 : am_ret 126 = (some .int) := by decide +kernel
/-! ThirdSheetsModel.empty()V is 127 -/
theorem d127_0 : decode (am_code 127) 0 = .ok (.iconst 0, 1) := by decide +kernel
theorem d127_1 : decode (am_code 127) 1 = .ok (.istore_n 1, 1) := by decide +kernel
theorem d127_2 : decode (am_code 127) 2 = .ok (.iload_n 1, 1) := by decide +kernel
theorem d127_3 : decode (am_code 127) 3 = .ok (.bipush 21, 2) := by decide +kernel
theorem d127_5 : decode (am_code 127) 5 = .ok (.if_icmp .ge 16, 3) := by decide +kernel
theorem d127_8 : decode (am_code 127) 8 = .ok (.aload_n 0, 1) := by decide +kernel
theorem d127_9 : decode (am_code 127) 9 = .ok (.getfield 16, 3) := by decide +kernel
theorem d127_12 : decode (am_code 127) 12 = .ok (.iload_n 1, 1) := by decide +kernel
theorem d127_13 : decode (am_code 127) 13 = .ok (.iconst 0, 1) := by decide +kernel
theorem d127_14 : decode (am_code 127) 14 = .ok (.iastore, 1) := by decide +kernel
theorem d127_15 : decode (am_code 127) 15 = .ok (.iinc 1 1, 3) := by decide +kernel
theorem d127_18 : decode (am_code 127) 18 = .ok (.goto (-16), 3) := by decide +kernel
theorem d127_21 : decode (am_code 127) 21 = .ok (.return_, 1) := by decide +kernel
theorem f127_16 : am_find am_ftL (am_mc 127) 16 = some (7, 3) := by decide +kernel
theorem l127 : am_maxL 127 = 2 := by decide +kernel
theorem t127 : am_ret 127 = none := by decide +kernel
/-! ThirdSheetsModel.glue(IIIII)I is 128 -/
theorem d128_0 : decode (am_code 128) 0 = .ok (.aload_n 0, 1) := by decide +kernel
theorem d128_1 : decode (am_code 128) 1 = .ok (.iload_n 1, 1) := by decide +kernel
theorem d128_2 : decode (am_code 128) 2 = .ok (.iload_n 2, 1) := by decide +kernel
theorem d128_3 : decode (am_code 128) 3 = .ok (.invokevirtual 114, 3) := by decide +kernel
theorem d128_6 : decode (am_code 128) 6 = .ok (.ifCond .eq 24, 3) := by decide +kernel
theorem d128_9 : decode (am_code 128) 9 = .ok (.aload_n 0, 1) := by decide +kernel
theorem d128_10 : decode (am_code 128) 10 = .ok (.iload_n 3, 1) := by decide +kernel
theorem d128_11 : decode (am_code 128) 11 = .ok (.iload 4, 2) := by decide +kernel
theorem d128_13 : decode (am_code 128) 13 = .ok (.invokevirtual 114, 3) := by decide +kernel
theorem d128_16 : decode (am_code 128) 16 = .ok (.ifCond .eq 14, 3) := by decide +kernel
theorem d128_19 : decode (am_code 128) 19 = .ok (.iload 5, 2) := by decide +kernel
theorem d128_21 : decode (am_code 128) 21 = .ok (.iconst 0, 1) := by decide +kernel
theorem d128_22 : decode (am_code 128) 22 = .ok (.bipush 63, 2) := by decide +kernel
theorem d128_24 : decode (am_code 128) 24 = .ok (.invokestatic 71, 3) := by decide +kernel
theorem d128_27 : decode (am_code 128) 27 = .ok (.ifCond .ne 6, 3) := by decide +kernel
theorem d128_30 : decode (am_code 128) 30 = .ok (.bipush (-2), 2) := by decide +kernel
theorem d128_32 : decode (am_code 128) 32 = .ok (.ireturn, 1) := by decide +kernel
theorem d128_33 : decode (am_code 128) 33 = .ok (.iload 5, 2) := by decide +kernel
theorem d128_35 : decode (am_code 128) 35 = .ok (.iconst 4, 1) := by decide +kernel
theorem d128_36 : decode (am_code 128) 36 = .ok (.irem, 1) := by decide +kernel
theorem d128_37 : decode (am_code 128) 37 = .ok (.istore 6, 2) := by decide +kernel
theorem d128_39 : decode (am_code 128) 39 = .ok (.iload 5, 2) := by decide +kernel
theorem d128_41 : decode (am_code 128) 41 = .ok (.iconst 4, 1) := by decide +kernel
theorem d128_42 : decode (am_code 128) 42 = .ok (.idiv, 1) := by decide +kernel
theorem d128_43 : decode (am_code 128) 43 = .ok (.iconst 4, 1) := by decide +kernel
theorem d128_44 : decode (am_code 128) 44 = .ok (.irem, 1) := by decide +kernel
theorem d128_45 : decode (am_code 128) 45 = .ok (.istore 7, 2) := by decide +kernel
theorem d128_47 : decode (am_code 128) 47 = .ok (.iload 5, 2) := by decide +kernel
theorem d128_49 : decode (am_code 128) 49 = .ok (.bipush 16, 2) := by decide +kernel
theorem d128_51 : decode (am_code 128) 51 = .ok (.idiv, 1) := by decide +kernel
theorem d128_52 : decode (am_code 128) 52 = .ok (.istore 8, 2) := by decide +kernel
theorem d128_54 : decode (am_code 128) 54 = .ok (.iload 6, 2) := by decide +kernel
theorem d128_56 : decode (am_code 128) 56 = .ok (.iload 7, 2) := by decide +kernel
theorem d128_58 : decode (am_code 128) 58 = .ok (.if_icmp .eq 49, 3) := by decide +kernel
theorem d128_61 : decode (am_code 128) 61 = .ok (.iload 6, 2) := by decide +kernel
theorem d128_63 : decode (am_code 128) 63 = .ok (.iload 8, 2) := by decide +kernel
theorem d128_65 : decode (am_code 128) 65 = .ok (.if_icmp .eq 42, 3) := by decide +kernel
theorem d128_68 : decode (am_code 128) 68 = .ok (.iload 7, 2) := by decide +kernel
theorem d128_70 : decode (am_code 128) 70 = .ok (.iload 8, 2) := by decide +kernel
theorem d128_72 : decode (am_code 128) 72 = .ok (.if_icmp .eq 35, 3) := by decide +kernel
theorem d128_75 : decode (am_code 128) 75 = .ok (.iload 6, 2) := by decide +kernel
theorem d128_77 : decode (am_code 128) 77 = .ok (.iload 4, 2) := by decide +kernel
theorem d128_79 : decode (am_code 128) 79 = .ok (.if_icmp .eq 28, 3) := by decide +kernel
theorem d128_82 : decode (am_code 128) 82 = .ok (.iload 7, 2) := by decide +kernel
theorem d128_84 : decode (am_code 128) 84 = .ok (.iload 4, 2) := by decide +kernel
theorem d128_86 : decode (am_code 128) 86 = .ok (.if_icmp .eq 21, 3) := by decide +kernel
theorem d128_89 : decode (am_code 128) 89 = .ok (.iload 8, 2) := by decide +kernel
theorem d128_91 : decode (am_code 128) 91 = .ok (.iload 4, 2) := by decide +kernel
theorem d128_93 : decode (am_code 128) 93 = .ok (.if_icmp .eq 14, 3) := by decide +kernel
theorem d128_96 : decode (am_code 128) 96 = .ok (.iload_n 1, 1) := by decide +kernel
theorem d128_97 : decode (am_code 128) 97 = .ok (.iload_n 3, 1) := by decide +kernel
theorem d128_98 : decode (am_code 128) 98 = .ok (.if_icmp .ne 12, 3) := by decide +kernel
theorem d128_101 : decode (am_code 128) 101 = .ok (.iload_n 2, 1) := by decide +kernel
theorem d128_102 : decode (am_code 128) 102 = .ok (.iload 4, 2) := by decide +kernel
theorem d128_104 : decode (am_code 128) 104 = .ok (.if_icmp .ne 6, 3) := by decide +kernel
theorem d128_107 : decode (am_code 128) 107 = .ok (.bipush (-2), 2) := by decide +kernel
theorem d128_109 : decode (am_code 128) 109 = .ok (.ireturn, 1) := by decide +kernel
theorem d128_110 : decode (am_code 128) 110 = .ok (.iconst 4, 1) := by decide +kernel
theorem d128_111 : decode (am_code 128) 111 = .ok (.iload_n 1, 1) := by decide +kernel
theorem d128_112 : decode (am_code 128) 112 = .ok (.imul, 1) := by decide +kernel
theorem d128_113 : decode (am_code 128) 113 = .ok (.iload_n 2, 1) := by decide +kernel
theorem d128_114 : decode (am_code 128) 114 = .ok (.iadd, 1) := by decide +kernel
theorem d128_115 : decode (am_code 128) 115 = .ok (.istore 9, 2) := by decide +kernel
theorem d128_117 : decode (am_code 128) 117 = .ok (.iconst 4, 1) := by decide +kernel
theorem d128_118 : decode (am_code 128) 118 = .ok (.iload_n 3, 1) := by decide +kernel
theorem d128_119 : decode (am_code 128) 119 = .ok (.imul, 1) := by decide +kernel
theorem d128_120 : decode (am_code 128) 120 = .ok (.iload 4, 2) := by decide +kernel
theorem d128_122 : decode (am_code 128) 122 = .ok (.iadd, 1) := by decide +kernel
theorem d128_123 : decode (am_code 128) 123 = .ok (.istore 10, 2) := by decide +kernel
theorem d128_125 : decode (am_code 128) 125 = .ok (.aload_n 0, 1) := by decide +kernel
theorem d128_126 : decode (am_code 128) 126 = .ok (.getfield 7, 3) := by decide +kernel
theorem d128_129 : decode (am_code 128) 129 = .ok (.iload 9, 2) := by decide +kernel
theorem d128_131 : decode (am_code 128) 131 = .ok (.iaload, 1) := by decide +kernel
theorem d128_132 : decode (am_code 128) 132 = .ok (.iconst (-1), 1) := by decide +kernel
theorem d128_133 : decode (am_code 128) 133 = .ok (.if_icmp .ne 14, 3) := by decide +kernel
theorem d128_136 : decode (am_code 128) 136 = .ok (.aload_n 0, 1) := by decide +kernel
theorem d128_137 : decode (am_code 128) 137 = .ok (.getfield 7, 3) := by decide +kernel
theorem d128_140 : decode (am_code 128) 140 = .ok (.iload 10, 2) := by decide +kernel
theorem d128_142 : decode (am_code 128) 142 = .ok (.iaload, 1) := by decide +kernel
theorem d128_143 : decode (am_code 128) 143 = .ok (.iconst (-1), 1) := by decide +kernel
theorem d128_144 : decode (am_code 128) 144 = .ok (.if_icmp .eq 6, 3) := by decide +kernel
theorem d128_147 : decode (am_code 128) 147 = .ok (.bipush (-3), 2) := by decide +kernel
theorem d128_149 : decode (am_code 128) 149 = .ok (.ireturn, 1) := by decide +kernel
theorem d128_150 : decode (am_code 128) 150 = .ok (.aload_n 0, 1) := by decide +kernel
theorem d128_151 : decode (am_code 128) 151 = .ok (.getfield 7, 3) := by decide +kernel
theorem d128_154 : decode (am_code 128) 154 = .ok (.iload 9, 2) := by decide +kernel
theorem d128_156 : decode (am_code 128) 156 = .ok (.iload 10, 2) := by decide +kernel
theorem d128_158 : decode (am_code 128) 158 = .ok (.iastore, 1) := by decide +kernel
theorem d128_159 : decode (am_code 128) 159 = .ok (.aload_n 0, 1) := by decide +kernel
theorem d128_160 : decode (am_code 128) 160 = .ok (.getfield 7, 3) := by decide +kernel
theorem d128_163 : decode (am_code 128) 163 = .ok (.iload 10, 2) := by decide +kernel
theorem d128_165 : decode (am_code 128) 165 = .ok (.iload 9, 2) := by decide +kernel
theorem d128_167 : decode (am_code 128) 167 = .ok (.iastore, 1) := by decide +kernel
theorem d128_168 : decode (am_code 128) 168 = .ok (.iconst 0, 1) := by decide +kernel
theorem d128_169 : decode (am_code 128) 169 = .ok (.istore 11, 2) := by decide +kernel
theorem d128_171 : decode (am_code 128) 171 = .ok (.iconst 0, 1) := by decide +kernel
theorem d128_172 : decode (am_code 128) 172 = .ok (.istore 12, 2) := by decide +kernel
theorem d128_174 : decode (am_code 128) 174 = .ok (.iload 12, 2) := by decide +kernel
theorem d128_176 : decode (am_code 128) 176 = .ok (.iconst 4, 1) := by decide +kernel
theorem d128_177 : decode (am_code 128) 177 = .ok (.if_icmp .ge 75, 3) := by decide +kernel
theorem d128_180 : decode (am_code 128) 180 = .ok (.iload 4, 2) := by decide +kernel
theorem d128_182 : decode (am_code 128) 182 = .ok (.istore 13, 2) := by decide +kernel
theorem d128_184 : decode (am_code 128) 184 = .ok (.iload 12, 2) := by decide +kernel
theorem d128_186 : decode (am_code 128) 186 = .ok (.iload_n 2, 1) := by decide +kernel
theorem d128_187 : decode (am_code 128) 187 = .ok (.if_icmp .eq 31, 3) := by decide +kernel
theorem d128_190 : decode (am_code 128) 190 = .ok (.iload 11, 2) := by decide +kernel
theorem d128_192 : decode (am_code 128) 192 = .ok (.ifCond .ne 8, 3) := by decide +kernel
theorem d128_195 : decode (am_code 128) 195 = .ok (.iload 6, 2) := by decide +kernel
theorem d128_197 : decode (am_code 128) 197 = .ok (.goto 16, 3) := by decide +kernel
theorem d128_200 : decode (am_code 128) 200 = .ok (.iload 11, 2) := by decide +kernel
theorem d128_202 : decode (am_code 128) 202 = .ok (.iconst 1, 1) := by decide +kernel
theorem d128_203 : decode (am_code 128) 203 = .ok (.if_icmp .ne 8, 3) := by decide +kernel
theorem d128_206 : decode (am_code 128) 206 = .ok (.iload 7, 2) := by decide +kernel
theorem d128_208 : decode (am_code 128) 208 = .ok (.goto 5, 3) := by decide +kernel
theorem d128_211 : decode (am_code 128) 211 = .ok (.iload 8, 2) := by decide +kernel
theorem d128_213 : decode (am_code 128) 213 = .ok (.istore 13, 2) := by decide +kernel
theorem d128_215 : decode (am_code 128) 215 = .ok (.iinc 11 1, 3) := by decide +kernel
theorem d128_218 : decode (am_code 128) 218 = .ok (.aload_n 0, 1) := by decide +kernel
theorem d128_219 : decode (am_code 128) 219 = .ok (.getfield 13, 3) := by decide +kernel
theorem d128_222 : decode (am_code 128) 222 = .ok (.iconst 4, 1) := by decide +kernel
theorem d128_223 : decode (am_code 128) 223 = .ok (.iload 9, 2) := by decide +kernel
theorem d128_225 : decode (am_code 128) 225 = .ok (.imul, 1) := by decide +kernel
theorem d128_226 : decode (am_code 128) 226 = .ok (.iload 12, 2) := by decide +kernel
theorem d128_228 : decode (am_code 128) 228 = .ok (.iadd, 1) := by decide +kernel
theorem d128_229 : decode (am_code 128) 229 = .ok (.iload 13, 2) := by decide +kernel
theorem d128_231 : decode (am_code 128) 231 = .ok (.iastore, 1) := by decide +kernel
theorem d128_232 : decode (am_code 128) 232 = .ok (.aload_n 0, 1) := by decide +kernel
theorem d128_233 : decode (am_code 128) 233 = .ok (.getfield 13, 3) := by decide +kernel
theorem d128_236 : decode (am_code 128) 236 = .ok (.iconst 4, 1) := by decide +kernel
theorem d128_237 : decode (am_code 128) 237 = .ok (.iload 10, 2) := by decide +kernel
theorem d128_239 : decode (am_code 128) 239 = .ok (.imul, 1) := by decide +kernel
theorem d128_240 : decode (am_code 128) 240 = .ok (.iload 13, 2) := by decide +kernel
theorem d128_242 : decode (am_code 128) 242 = .ok (.iadd, 1) := by decide +kernel
theorem d128_243 : decode (am_code 128) 243 = .ok (.iload 12, 2) := by decide +kernel
theorem d128_245 : decode (am_code 128) 245 = .ok (.iastore, 1) := by decide +kernel
theorem d128_246 : decode (am_code 128) 246 = .ok (.iinc 12 1, 3) := by decide +kernel
theorem d128_249 : decode (am_code 128) 249 = .ok (.goto (-75), 3) := by decide +kernel
theorem d128_252 : decode (am_code 128) 252 = .ok (.iconst 1, 1) := by decide +kernel
theorem d128_253 : decode (am_code 128) 253 = .ok (.ireturn, 1) := by decide +kernel
theorem f128_7 : am_find am_ftL (am_mc 128) 7 = some (7, 1) := by decide +kernel
theorem f128_13 : am_find am_ftL (am_mc 128) 13 = some (7, 2) := by decide +kernel
theorem c128_114 : am_find am_ctL (am_mc 128) 114 = some (0, 111) ∧ am_na 111 = 2 ∧ am_fr 111 + 1 ≤ am_fr 128 ∧ 8 + (am_maxL 111 + 11) + am_lo 111 ≤ am_lo 128 := by decide +kernel
theorem c128_71 : am_find am_ctL (am_mc 128) 71 = some (1, 109) ∧ am_na 109 = 3 ∧ am_fr 109 + 1 ≤ am_fr 128 ∧ 8 + (am_maxL 109 + 11) + am_lo 109 ≤ am_lo 128 := by decide +kernel
theorem l128 : am_maxL 128 = 14 := by decide +kernel
theorem t128 : am_ret 128 = (some .int) := by decide +kernel
/-! ThirdSheetsModel.open(II)I is 129 -/
theorem d129_0 : decode (am_code 129) 0 = .ok (.aload_n 0, 1) := by decide +kernel
theorem d129_1 : decode (am_code 129) 1 = .ok (.iload_n 1, 1) := by decide +kernel
theorem d129_2 : decode (am_code 129) 2 = .ok (.iload_n 2, 1) := by decide +kernel
theorem d129_3 : decode (am_code 129) 3 = .ok (.invokevirtual 114, 3) := by decide +kernel
theorem d129_6 : decode (am_code 129) 6 = .ok (.ifCond .ne 6, 3) := by decide +kernel
theorem d129_9 : decode (am_code 129) 9 = .ok (.bipush (-2), 2) := by decide +kernel
theorem d129_11 : decode (am_code 129) 11 = .ok (.ireturn, 1) := by decide +kernel
theorem d129_12 : decode (am_code 129) 12 = .ok (.iconst 4, 1) := by decide +kernel
theorem d129_13 : decode (am_code 129) 13 = .ok (.iload_n 1, 1) := by decide +kernel
theorem d129_14 : decode (am_code 129) 14 = .ok (.imul, 1) := by decide +kernel
theorem d129_15 : decode (am_code 129) 15 = .ok (.iload_n 2, 1) := by decide +kernel
theorem d129_16 : decode (am_code 129) 16 = .ok (.iadd, 1) := by decide +kernel
theorem d129_17 : decode (am_code 129) 17 = .ok (.istore_n 3, 1) := by decide +kernel
theorem d129_18 : decode (am_code 129) 18 = .ok (.aload_n 0, 1) := by decide +kernel
theorem d129_19 : decode (am_code 129) 19 = .ok (.getfield 7, 3) := by decide +kernel
theorem d129_22 : decode (am_code 129) 22 = .ok (.iload_n 3, 1) := by decide +kernel
theorem d129_23 : decode (am_code 129) 23 = .ok (.iaload, 1) := by decide +kernel
theorem d129_24 : decode (am_code 129) 24 = .ok (.iconst (-1), 1) := by decide +kernel
theorem d129_25 : decode (am_code 129) 25 = .ok (.if_icmp .ne 6, 3) := by decide +kernel
theorem d129_28 : decode (am_code 129) 28 = .ok (.bipush (-3), 2) := by decide +kernel
theorem d129_30 : decode (am_code 129) 30 = .ok (.ireturn, 1) := by decide +kernel
theorem d129_31 : decode (am_code 129) 31 = .ok (.aload_n 0, 1) := by decide +kernel
theorem d129_32 : decode (am_code 129) 32 = .ok (.getfield 7, 3) := by decide +kernel
theorem d129_35 : decode (am_code 129) 35 = .ok (.aload_n 0, 1) := by decide +kernel
theorem d129_36 : decode (am_code 129) 36 = .ok (.getfield 7, 3) := by decide +kernel
theorem d129_39 : decode (am_code 129) 39 = .ok (.iload_n 3, 1) := by decide +kernel
theorem d129_40 : decode (am_code 129) 40 = .ok (.iaload, 1) := by decide +kernel
theorem d129_41 : decode (am_code 129) 41 = .ok (.iconst (-1), 1) := by decide +kernel
theorem d129_42 : decode (am_code 129) 42 = .ok (.iastore, 1) := by decide +kernel
theorem d129_43 : decode (am_code 129) 43 = .ok (.aload_n 0, 1) := by decide +kernel
theorem d129_44 : decode (am_code 129) 44 = .ok (.getfield 7, 3) := by decide +kernel
theorem d129_47 : decode (am_code 129) 47 = .ok (.iload_n 3, 1) := by decide +kernel
theorem d129_48 : decode (am_code 129) 48 = .ok (.iconst (-1), 1) := by decide +kernel
theorem d129_49 : decode (am_code 129) 49 = .ok (.iastore, 1) := by decide +kernel
theorem d129_50 : decode (am_code 129) 50 = .ok (.iconst 1, 1) := by decide +kernel
theorem d129_51 : decode (am_code 129) 51 = .ok (.ireturn, 1) := by decide +kernel
theorem f129_7 : am_find am_ftL (am_mc 129) 7 = some (7, 1) := by decide +kernel
theorem c129_114 : am_find am_ctL (am_mc 129) 114 = some (0, 111) ∧ am_na 111 = 2 ∧ am_fr 111 + 1 ≤ am_fr 129 ∧ 8 + (am_maxL 111 + 11) + am_lo 111 ≤ am_lo 129 := by decide +kernel
theorem l129 : am_maxL 129 = 4 := by decide +kernel
theorem t129 : am_ret 129 = (some .int) := by decide +kernel
/-! ThirdSheetsModel.clear()I is 130 -/
theorem d130_0 : decode (am_code 130) 0 = .ok (.aload_n 0, 1) := by decide +kernel
theorem d130_1 : decode (am_code 130) 1 = .ok (.getfield 67, 3) := by decide +kernel
theorem d130_4 : decode (am_code 130) 4 = .ok (.istore_n 1, 1) := by decide +kernel
theorem d130_5 : decode (am_code 130) 5 = .ok (.aload_n 0, 1) := by decide +kernel
theorem d130_6 : decode (am_code 130) 6 = .ok (.iconst 0, 1) := by decide +kernel
theorem d130_7 : decode (am_code 130) 7 = .ok (.putfield 67, 3) := by decide +kernel
theorem d130_10 : decode (am_code 130) 10 = .ok (.aload_n 0, 1) := by decide +kernel
theorem d130_11 : decode (am_code 130) 11 = .ok (.invokevirtual 111, 3) := by decide +kernel
theorem d130_14 : decode (am_code 130) 14 = .ok (.iload_n 1, 1) := by decide +kernel
theorem d130_15 : decode (am_code 130) 15 = .ok (.ireturn, 1) := by decide +kernel
theorem f130_67 : am_find am_ftL (am_mc 130) 67 = some (7, 0) := by decide +kernel
theorem c130_111 : am_find am_ctL (am_mc 130) 111 = some (0, 127) ∧ am_na 127 = 0 ∧ am_fr 127 + 1 ≤ am_fr 130 ∧ 8 + (am_maxL 127 + 11) + am_lo 127 ≤ am_lo 130 := by decide +kernel
theorem l130 : am_maxL 130 = 2 := by decide +kernel
theorem t130 : am_ret 130 = (some .int) := by decide +kernel
/-! ThirdSheetsModel.across(III)I is 131 -/
theorem d131_0 : decode (am_code 131) 0 = .ok (.aload_n 0, 1) := by decide +kernel
theorem d131_1 : decode (am_code 131) 1 = .ok (.iload_n 1, 1) := by decide +kernel
theorem d131_2 : decode (am_code 131) 2 = .ok (.iload_n 2, 1) := by decide +kernel
theorem d131_3 : decode (am_code 131) 3 = .ok (.invokevirtual 114, 3) := by decide +kernel
theorem d131_6 : decode (am_code 131) 6 = .ok (.ifCond .eq 12, 3) := by decide +kernel
theorem d131_9 : decode (am_code 131) 9 = .ok (.iload_n 3, 1) := by decide +kernel
theorem d131_10 : decode (am_code 131) 10 = .ok (.iconst 0, 1) := by decide +kernel
theorem d131_11 : decode (am_code 131) 11 = .ok (.iconst 1, 1) := by decide +kernel
theorem d131_12 : decode (am_code 131) 12 = .ok (.invokestatic 71, 3) := by decide +kernel
theorem d131_15 : decode (am_code 131) 15 = .ok (.ifCond .ne 6, 3) := by decide +kernel
theorem d131_18 : decode (am_code 131) 18 = .ok (.bipush (-2), 2) := by decide +kernel
theorem d131_20 : decode (am_code 131) 20 = .ok (.ireturn, 1) := by decide +kernel
theorem d131_21 : decode (am_code 131) 21 = .ok (.aload_n 0, 1) := by decide +kernel
theorem d131_22 : decode (am_code 131) 22 = .ok (.getfield 7, 3) := by decide +kernel
theorem d131_25 : decode (am_code 131) 25 = .ok (.iconst 4, 1) := by decide +kernel
theorem d131_26 : decode (am_code 131) 26 = .ok (.iload_n 1, 1) := by decide +kernel
theorem d131_27 : decode (am_code 131) 27 = .ok (.imul, 1) := by decide +kernel
theorem d131_28 : decode (am_code 131) 28 = .ok (.iload_n 2, 1) := by decide +kernel
theorem d131_29 : decode (am_code 131) 29 = .ok (.iadd, 1) := by decide +kernel
theorem d131_30 : decode (am_code 131) 30 = .ok (.iaload, 1) := by decide +kernel
theorem d131_31 : decode (am_code 131) 31 = .ok (.istore 4, 2) := by decide +kernel
theorem d131_33 : decode (am_code 131) 33 = .ok (.iload 4, 2) := by decide +kernel
theorem d131_35 : decode (am_code 131) 35 = .ok (.iconst (-1), 1) := by decide +kernel
theorem d131_36 : decode (am_code 131) 36 = .ok (.if_icmp .ne 7, 3) := by decide +kernel
theorem d131_39 : decode (am_code 131) 39 = .ok (.iconst (-1), 1) := by decide +kernel
theorem d131_40 : decode (am_code 131) 40 = .ok (.goto 18, 3) := by decide +kernel
theorem d131_43 : decode (am_code 131) 43 = .ok (.iload_n 3, 1) := by decide +kernel
theorem d131_44 : decode (am_code 131) 44 = .ok (.ifCond .ne 10, 3) := by decide +kernel
theorem d131_47 : decode (am_code 131) 47 = .ok (.iload 4, 2) := by decide +kernel
theorem d131_49 : decode (am_code 131) 49 = .ok (.iconst 4, 1) := by decide +kernel
theorem d131_50 : decode (am_code 131) 50 = .ok (.idiv, 1) := by decide +kernel
theorem d131_51 : decode (am_code 131) 51 = .ok (.goto 7, 3) := by decide +kernel
theorem d131_54 : decode (am_code 131) 54 = .ok (.iload 4, 2) := by decide +kernel
theorem d131_56 : decode (am_code 131) 56 = .ok (.iconst 4, 1) := by decide +kernel
theorem d131_57 : decode (am_code 131) 57 = .ok (.irem, 1) := by decide +kernel
theorem d131_58 : decode (am_code 131) 58 = .ok (.ireturn, 1) := by decide +kernel
theorem f131_7 : am_find am_ftL (am_mc 131) 7 = some (7, 1) := by decide +kernel
theorem c131_114 : am_find am_ctL (am_mc 131) 114 = some (0, 111) ∧ am_na 111 = 2 ∧ am_fr 111 + 1 ≤ am_fr 131 ∧ 8 + (am_maxL 111 + 11) + am_lo 111 ≤ am_lo 131 := by decide +kernel
theorem c131_71 : am_find am_ctL (am_mc 131) 71 = some (1, 109) ∧ am_na 109 = 3 ∧ am_fr 109 + 1 ≤ am_fr 131 ∧ 8 + (am_maxL 109 + 11) + am_lo 109 ≤ am_lo 131 := by decide +kernel
theorem l131 : am_maxL 131 = 5 := by decide +kernel
theorem t131 : am_ret 131 = (some .int) := by decide +kernel
/-! ThirdSheetsModel.classOf(III)I is 132 -/
theorem d132_0 : decode (am_code 132) 0 = .ok (.iload_n 1, 1) := by decide +kernel
theorem d132_1 : decode (am_code 132) 1 = .ok (.iconst 0, 1) := by decide +kernel
theorem d132_2 : decode (am_code 132) 2 = .ok (.iconst 1, 1) := by decide +kernel
theorem d132_3 : decode (am_code 132) 3 = .ok (.invokestatic 71, 3) := by decide +kernel
theorem d132_6 : decode (am_code 132) 6 = .ok (.ifCond .eq 28, 3) := by decide +kernel
theorem d132_9 : decode (am_code 132) 9 = .ok (.aload_n 0, 1) := by decide +kernel
theorem d132_10 : decode (am_code 132) 10 = .ok (.iload_n 2, 1) := by decide +kernel
theorem d132_11 : decode (am_code 132) 11 = .ok (.invokevirtual 75, 3) := by decide +kernel
theorem d132_14 : decode (am_code 132) 14 = .ok (.ifCond .eq 20, 3) := by decide +kernel
theorem d132_17 : decode (am_code 132) 17 = .ok (.iload_n 3, 1) := by decide +kernel
theorem d132_18 : decode (am_code 132) 18 = .ok (.iconst 0, 1) := by decide +kernel
theorem d132_19 : decode (am_code 132) 19 = .ok (.iload_n 1, 1) := by decide +kernel
theorem d132_20 : decode (am_code 132) 20 = .ok (.ifCond .ne 7, 3) := by decide +kernel
theorem d132_23 : decode (am_code 132) 23 = .ok (.iconst 3, 1) := by decide +kernel
theorem d132_24 : decode (am_code 132) 24 = .ok (.goto 4, 3) := by decide +kernel
theorem d132_27 : decode (am_code 132) 27 = .ok (.iconst 5, 1) := by decide +kernel
theorem d132_28 : decode (am_code 132) 28 = .ok (.invokestatic 71, 3) := by decide +kernel
theorem d132_31 : decode (am_code 132) 31 = .ok (.ifCond .ne 6, 3) := by decide +kernel
theorem d132_34 : decode (am_code 132) 34 = .ok (.bipush (-2), 2) := by decide +kernel
theorem d132_36 : decode (am_code 132) 36 = .ok (.ireturn, 1) := by decide +kernel
theorem d132_37 : decode (am_code 132) 37 = .ok (.aload_n 0, 1) := by decide +kernel
theorem d132_38 : decode (am_code 132) 38 = .ok (.invokevirtual 118, 3) := by decide +kernel
theorem d132_41 : decode (am_code 132) 41 = .ok (.iconst 0, 1) := by decide +kernel
theorem d132_42 : decode (am_code 132) 42 = .ok (.istore 4, 2) := by decide +kernel
theorem d132_44 : decode (am_code 132) 44 = .ok (.iload_n 1, 1) := by decide +kernel
theorem d132_45 : decode (am_code 132) 45 = .ok (.ifCond .ne 52, 3) := by decide +kernel
theorem d132_48 : decode (am_code 132) 48 = .ok (.iconst 0, 1) := by decide +kernel
theorem d132_49 : decode (am_code 132) 49 = .ok (.istore 5, 2) := by decide +kernel
theorem d132_51 : decode (am_code 132) 51 = .ok (.iload 5, 2) := by decide +kernel
theorem d132_53 : decode (am_code 132) 53 = .ok (.aload_n 0, 1) := by decide +kernel
theorem d132_54 : decode (am_code 132) 54 = .ok (.getfield 28, 3) := by decide +kernel
theorem d132_57 : decode (am_code 132) 57 = .ok (.iconst 4, 1) := by decide +kernel
theorem d132_58 : decode (am_code 132) 58 = .ok (.iload_n 2, 1) := by decide +kernel
theorem d132_59 : decode (am_code 132) 59 = .ok (.imul, 1) := by decide +kernel
theorem d132_60 : decode (am_code 132) 60 = .ok (.iload_n 3, 1) := by decide +kernel
theorem d132_61 : decode (am_code 132) 61 = .ok (.iadd, 1) := by decide +kernel
theorem d132_62 : decode (am_code 132) 62 = .ok (.iaload, 1) := by decide +kernel
theorem d132_63 : decode (am_code 132) 63 = .ok (.if_icmp .ge 31, 3) := by decide +kernel
theorem d132_66 : decode (am_code 132) 66 = .ok (.iload 4, 2) := by decide +kernel
theorem d132_68 : decode (am_code 132) 68 = .ok (.aload_n 0, 1) := by decide +kernel
theorem d132_69 : decode (am_code 132) 69 = .ok (.getfield 28, 3) := by decide +kernel
theorem d132_72 : decode (am_code 132) 72 = .ok (.iload 5, 2) := by decide +kernel
theorem d132_74 : decode (am_code 132) 74 = .ok (.iaload, 1) := by decide +kernel
theorem d132_75 : decode (am_code 132) 75 = .ok (.iload 5, 2) := by decide +kernel
theorem d132_77 : decode (am_code 132) 77 = .ok (.if_icmp .ne 7, 3) := by decide +kernel
theorem d132_80 : decode (am_code 132) 80 = .ok (.iconst 1, 1) := by decide +kernel
theorem d132_81 : decode (am_code 132) 81 = .ok (.goto 4, 3) := by decide +kernel
theorem d132_84 : decode (am_code 132) 84 = .ok (.iconst 0, 1) := by decide +kernel
theorem d132_85 : decode (am_code 132) 85 = .ok (.iadd, 1) := by decide +kernel
theorem d132_86 : decode (am_code 132) 86 = .ok (.istore 4, 2) := by decide +kernel
theorem d132_88 : decode (am_code 132) 88 = .ok (.iinc 5 1, 3) := by decide +kernel
theorem d132_91 : decode (am_code 132) 91 = .ok (.goto (-40), 3) := by decide +kernel
theorem d132_94 : decode (am_code 132) 94 = .ok (.iload 4, 2) := by decide +kernel
theorem d132_96 : decode (am_code 132) 96 = .ok (.ireturn, 1) := by decide +kernel
theorem d132_97 : decode (am_code 132) 97 = .ok (.iconst 0, 1) := by decide +kernel
theorem d132_98 : decode (am_code 132) 98 = .ok (.istore 5, 2) := by decide +kernel
theorem d132_100 : decode (am_code 132) 100 = .ok (.iload 5, 2) := by decide +kernel
theorem d132_102 : decode (am_code 132) 102 = .ok (.aload_n 0, 1) := by decide +kernel
theorem d132_103 : decode (am_code 132) 103 = .ok (.iload_n 2, 1) := by decide +kernel
theorem d132_104 : decode (am_code 132) 104 = .ok (.iload_n 3, 1) := by decide +kernel
theorem d132_105 : decode (am_code 132) 105 = .ok (.invokevirtual 102, 3) := by decide +kernel
theorem d132_108 : decode (am_code 132) 108 = .ok (.if_icmp .ge 28, 3) := by decide +kernel
theorem d132_111 : decode (am_code 132) 111 = .ok (.iload 4, 2) := by decide +kernel
theorem d132_113 : decode (am_code 132) 113 = .ok (.aload_n 0, 1) := by decide +kernel
theorem d132_114 : decode (am_code 132) 114 = .ok (.iload 5, 2) := by decide +kernel
theorem d132_116 : decode (am_code 132) 116 = .ok (.invokevirtual 105, 3) := by decide +kernel
theorem d132_119 : decode (am_code 132) 119 = .ok (.ifCond .eq 7, 3) := by decide +kernel
theorem d132_122 : decode (am_code 132) 122 = .ok (.iconst 1, 1) := by decide +kernel
theorem d132_123 : decode (am_code 132) 123 = .ok (.goto 4, 3) := by decide +kernel
theorem d132_126 : decode (am_code 132) 126 = .ok (.iconst 0, 1) := by decide +kernel
theorem d132_127 : decode (am_code 132) 127 = .ok (.iadd, 1) := by decide +kernel
theorem d132_128 : decode (am_code 132) 128 = .ok (.istore 4, 2) := by decide +kernel
theorem d132_130 : decode (am_code 132) 130 = .ok (.iinc 5 1, 3) := by decide +kernel
theorem d132_133 : decode (am_code 132) 133 = .ok (.goto (-33), 3) := by decide +kernel
theorem d132_136 : decode (am_code 132) 136 = .ok (.iload 4, 2) := by decide +kernel
theorem d132_138 : decode (am_code 132) 138 = .ok (.ireturn, 1) := by decide +kernel
theorem f132_28 : am_find am_ftL (am_mc 132) 28 = some (7, 7) := by decide +kernel
theorem c132_71 : am_find am_ctL (am_mc 132) 71 = some (1, 109) ∧ am_na 109 = 3 ∧ am_fr 109 + 1 ≤ am_fr 132 ∧ 8 + (am_maxL 109 + 11) + am_lo 109 ≤ am_lo 132 := by decide +kernel
theorem c132_75 : am_find am_ctL (am_mc 132) 75 = some (0, 110) ∧ am_na 110 = 1 ∧ am_fr 110 + 1 ≤ am_fr 132 ∧ 8 + (am_maxL 110 + 11) + am_lo 110 ≤ am_lo 132 := by decide +kernel
theorem c132_118 : am_find am_ctL (am_mc 132) 118 = some (0, 116) ∧ am_na 116 = 0 ∧ am_fr 116 + 1 ≤ am_fr 132 ∧ 8 + (am_maxL 116 + 11) + am_lo 116 ≤ am_lo 132 := by decide +kernel
theorem c132_102 : am_find am_ctL (am_mc 132) 102 = some (0, 118) ∧ am_na 118 = 2 ∧ am_fr 118 + 1 ≤ am_fr 132 ∧ 8 + (am_maxL 118 + 11) + am_lo 118 ≤ am_lo 132 := by decide +kernel
theorem c132_105 : am_find am_ctL (am_mc 132) 105 = some (0, 119) ∧ am_na 119 = 1 ∧ am_fr 119 + 1 ≤ am_fr 132 ∧ 8 + (am_maxL 119 + 11) + am_lo 119 ≤ am_lo 132 := by decide +kernel
theorem l132 : am_maxL 132 = 6 := by decide +kernel
theorem t132 : am_ret 132 = (some .int) := by decide +kernel
/-! ThirdSheetsModel.bent(I)I is 133 -/
theorem d133_0 : decode (am_code 133) 0 = .ok (.aload_n 0, 1) := by decide +kernel
theorem d133_1 : decode (am_code 133) 1 = .ok (.invokevirtual 118, 3) := by decide +kernel
theorem d133_4 : decode (am_code 133) 4 = .ok (.aload_n 0, 1) := by decide +kernel
theorem d133_5 : decode (am_code 133) 5 = .ok (.iload_n 1, 1) := by decide +kernel
theorem d133_6 : decode (am_code 133) 6 = .ok (.invokevirtual 121, 3) := by decide +kernel
theorem d133_9 : decode (am_code 133) 9 = .ok (.istore_n 2, 1) := by decide +kernel
theorem d133_10 : decode (am_code 133) 10 = .ok (.iload_n 2, 1) := by decide +kernel
theorem d133_11 : decode (am_code 133) 11 = .ok (.iconst (-1), 1) := by decide +kernel
theorem d133_12 : decode (am_code 133) 12 = .ok (.if_icmp .ne 8, 3) := by decide +kernel
theorem d133_15 : decode (am_code 133) 15 = .ok (.bipush (-2), 2) := by decide +kernel
theorem d133_17 : decode (am_code 133) 17 = .ok (.goto 16, 3) := by decide +kernel
theorem d133_20 : decode (am_code 133) 20 = .ok (.aload_n 0, 1) := by decide +kernel
theorem d133_21 : decode (am_code 133) 21 = .ok (.iload_n 2, 1) := by decide +kernel
theorem d133_22 : decode (am_code 133) 22 = .ok (.invokevirtual 108, 3) := by decide +kernel
theorem d133_25 : decode (am_code 133) 25 = .ok (.ifCond .eq 7, 3) := by decide +kernel
theorem d133_28 : decode (am_code 133) 28 = .ok (.iconst 1, 1) := by decide +kernel
theorem d133_29 : decode (am_code 133) 29 = .ok (.goto 4, 3) := by decide +kernel
theorem d133_32 : decode (am_code 133) 32 = .ok (.iconst 0, 1) := by decide +kernel
theorem d133_33 : decode (am_code 133) 33 = .ok (.ireturn, 1) := by decide +kernel
theorem c133_118 : am_find am_ctL (am_mc 133) 118 = some (0, 116) ∧ am_na 116 = 0 ∧ am_fr 116 + 1 ≤ am_fr 133 ∧ 8 + (am_maxL 116 + 11) + am_lo 116 ≤ am_lo 133 := by decide +kernel
theorem c133_121 : am_find am_ctL (am_mc 133) 121 = some (0, 122) ∧ am_na 122 = 1 ∧ am_fr 122 + 1 ≤ am_fr 133 ∧ 8 + (am_maxL 122 + 11) + am_lo 122 ≤ am_lo 133 := by decide +kernel
theorem c133_108 : am_find am_ctL (am_mc 133) 108 = some (0, 124) ∧ am_na 124 = 1 ∧ am_fr 124 + 1 ≤ am_fr 133 ∧ 8 + (am_maxL 124 + 11) + am_lo 124 ≤ am_lo 133 := by decide +kernel
theorem l133 : am_maxL 133 = 3 := by decide +kernel
theorem t133 : am_ret 133 = (some .int) := by decide +kernel
/-! ThirdSheetsModel.linkOf(I)I is 134 -/
theorem d134_0 : decode (am_code 134) 0 = .ok (.iconst 0, 1) := by decide +kernel
theorem d134_1 : decode (am_code 134) 1 = .ok (.istore_n 2, 1) := by decide +kernel
theorem d134_2 : decode (am_code 134) 2 = .ok (.iconst 0, 1) := by decide +kernel
theorem d134_3 : decode (am_code 134) 3 = .ok (.istore_n 3, 1) := by decide +kernel
theorem d134_4 : decode (am_code 134) 4 = .ok (.iconst 0, 1) := by decide +kernel
theorem d134_5 : decode (am_code 134) 5 = .ok (.istore 4, 2) := by decide +kernel
theorem d134_7 : decode (am_code 134) 7 = .ok (.iconst 0, 1) := by decide +kernel
theorem d134_8 : decode (am_code 134) 8 = .ok (.istore 5, 2) := by decide +kernel
theorem d134_10 : decode (am_code 134) 10 = .ok (.iload 5, 2) := by decide +kernel
theorem d134_12 : decode (am_code 134) 12 = .ok (.iconst 4, 1) := by decide +kernel
theorem d134_13 : decode (am_code 134) 13 = .ok (.aload_n 0, 1) := by decide +kernel
theorem d134_14 : decode (am_code 134) 14 = .ok (.getfield 67, 3) := by decide +kernel
theorem d134_17 : decode (am_code 134) 17 = .ok (.imul, 1) := by decide +kernel
theorem d134_18 : decode (am_code 134) 18 = .ok (.if_icmp .ge 130, 3) := by decide +kernel
theorem d134_21 : decode (am_code 134) 21 = .ok (.aload_n 0, 1) := by decide +kernel
theorem d134_22 : decode (am_code 134) 22 = .ok (.getfield 28, 3) := by decide +kernel
theorem d134_25 : decode (am_code 134) 25 = .ok (.iload 5, 2) := by decide +kernel
theorem d134_27 : decode (am_code 134) 27 = .ok (.iaload, 1) := by decide +kernel
theorem d134_28 : decode (am_code 134) 28 = .ok (.iload_n 1, 1) := by decide +kernel
theorem d134_29 : decode (am_code 134) 29 = .ok (.if_icmp .eq 6, 3) := by decide +kernel
theorem d134_32 : decode (am_code 134) 32 = .ok (.goto 110, 3) := by decide +kernel
theorem d134_35 : decode (am_code 134) 35 = .ok (.iinc 4 1, 3) := by decide +kernel
theorem d134_38 : decode (am_code 134) 38 = .ok (.iload 5, 2) := by decide +kernel
theorem d134_40 : decode (am_code 134) 40 = .ok (.iconst 4, 1) := by decide +kernel
theorem d134_41 : decode (am_code 134) 41 = .ok (.idiv, 1) := by decide +kernel
theorem d134_42 : decode (am_code 134) 42 = .ok (.istore 6, 2) := by decide +kernel
theorem d134_44 : decode (am_code 134) 44 = .ok (.iconst 0, 1) := by decide +kernel
theorem d134_45 : decode (am_code 134) 45 = .ok (.istore 7, 2) := by decide +kernel
theorem d134_47 : decode (am_code 134) 47 = .ok (.iload 7, 2) := by decide +kernel
theorem d134_49 : decode (am_code 134) 49 = .ok (.iconst 4, 1) := by decide +kernel
theorem d134_50 : decode (am_code 134) 50 = .ok (.if_icmp .ge 92, 3) := by decide +kernel
theorem d134_53 : decode (am_code 134) 53 = .ok (.iload 7, 2) := by decide +kernel
theorem d134_55 : decode (am_code 134) 55 = .ok (.iload 5, 2) := by decide +kernel
theorem d134_57 : decode (am_code 134) 57 = .ok (.iconst 4, 1) := by decide +kernel
theorem d134_58 : decode (am_code 134) 58 = .ok (.irem, 1) := by decide +kernel
theorem d134_59 : decode (am_code 134) 59 = .ok (.if_icmp .eq 77, 3) := by decide +kernel
theorem d134_62 : decode (am_code 134) 62 = .ok (.aload_n 0, 1) := by decide +kernel
theorem d134_63 : decode (am_code 134) 63 = .ok (.iload 6, 2) := by decide +kernel
theorem d134_65 : decode (am_code 134) 65 = .ok (.iload 5, 2) := by decide +kernel
theorem d134_67 : decode (am_code 134) 67 = .ok (.iconst 4, 1) := by decide +kernel
theorem d134_68 : decode (am_code 134) 68 = .ok (.irem, 1) := by decide +kernel
theorem d134_69 : decode (am_code 134) 69 = .ok (.iload 7, 2) := by decide +kernel
theorem d134_71 : decode (am_code 134) 71 = .ok (.invokevirtual 98, 3) := by decide +kernel
theorem d134_74 : decode (am_code 134) 74 = .ok (.istore 8, 2) := by decide +kernel
theorem d134_76 : decode (am_code 134) 76 = .ok (.iload_n 2, 1) := by decide +kernel
theorem d134_77 : decode (am_code 134) 77 = .ok (.aload_n 0, 1) := by decide +kernel
theorem d134_78 : decode (am_code 134) 78 = .ok (.getfield 25, 3) := by decide +kernel
theorem d134_81 : decode (am_code 134) 81 = .ok (.iload 8, 2) := by decide +kernel
theorem d134_83 : decode (am_code 134) 83 = .ok (.iaload, 1) := by decide +kernel
theorem d134_84 : decode (am_code 134) 84 = .ok (.iload 8, 2) := by decide +kernel
theorem d134_86 : decode (am_code 134) 86 = .ok (.if_icmp .ne 7, 3) := by decide +kernel
theorem d134_89 : decode (am_code 134) 89 = .ok (.iconst 1, 1) := by decide +kernel
theorem d134_90 : decode (am_code 134) 90 = .ok (.goto 4, 3) := by decide +kernel
theorem d134_93 : decode (am_code 134) 93 = .ok (.iconst 0, 1) := by decide +kernel
theorem d134_94 : decode (am_code 134) 94 = .ok (.iadd, 1) := by decide +kernel
theorem d134_95 : decode (am_code 134) 95 = .ok (.istore_n 2, 1) := by decide +kernel
theorem d134_96 : decode (am_code 134) 96 = .ok (.iconst 4, 1) := by decide +kernel
theorem d134_97 : decode (am_code 134) 97 = .ok (.iload 6, 2) := by decide +kernel
theorem d134_99 : decode (am_code 134) 99 = .ok (.imul, 1) := by decide +kernel
theorem d134_100 : decode (am_code 134) 100 = .ok (.iload 7, 2) := by decide +kernel
theorem d134_102 : decode (am_code 134) 102 = .ok (.iadd, 1) := by decide +kernel
theorem d134_103 : decode (am_code 134) 103 = .ok (.istore 9, 2) := by decide +kernel
theorem d134_105 : decode (am_code 134) 105 = .ok (.iload_n 3, 1) := by decide +kernel
theorem d134_106 : decode (am_code 134) 106 = .ok (.aload_n 0, 1) := by decide +kernel
theorem d134_107 : decode (am_code 134) 107 = .ok (.getfield 7, 3) := by decide +kernel
theorem d134_110 : decode (am_code 134) 110 = .ok (.iload 9, 2) := by decide +kernel
theorem d134_112 : decode (am_code 134) 112 = .ok (.iaload, 1) := by decide +kernel
theorem d134_113 : decode (am_code 134) 113 = .ok (.iconst (-1), 1) := by decide +kernel
theorem d134_114 : decode (am_code 134) 114 = .ok (.if_icmp .eq 15, 3) := by decide +kernel
theorem d134_117 : decode (am_code 134) 117 = .ok (.iload 9, 2) := by decide +kernel
theorem d134_119 : decode (am_code 134) 119 = .ok (.aload_n 0, 1) := by decide +kernel
theorem d134_120 : decode (am_code 134) 120 = .ok (.getfield 7, 3) := by decide +kernel
theorem d134_123 : decode (am_code 134) 123 = .ok (.iload 9, 2) := by decide +kernel
theorem d134_125 : decode (am_code 134) 125 = .ok (.iaload, 1) := by decide +kernel
theorem d134_126 : decode (am_code 134) 126 = .ok (.if_icmp .ge 7, 3) := by decide +kernel
theorem d134_129 : decode (am_code 134) 129 = .ok (.iconst 1, 1) := by decide +kernel
theorem d134_130 : decode (am_code 134) 130 = .ok (.goto 4, 3) := by decide +kernel
theorem d134_133 : decode (am_code 134) 133 = .ok (.iconst 0, 1) := by decide +kernel
theorem d134_134 : decode (am_code 134) 134 = .ok (.iadd, 1) := by decide +kernel
theorem d134_135 : decode (am_code 134) 135 = .ok (.istore_n 3, 1) := by decide +kernel
theorem d134_136 : decode (am_code 134) 136 = .ok (.iinc 7 1, 3) := by decide +kernel
theorem d134_139 : decode (am_code 134) 139 = .ok (.goto (-92), 3) := by decide +kernel
theorem d134_142 : decode (am_code 134) 142 = .ok (.iinc 5 1, 3) := by decide +kernel
theorem d134_145 : decode (am_code 134) 145 = .ok (.goto (-135), 3) := by decide +kernel
theorem d134_148 : decode (am_code 134) 148 = .ok (.iload_n 2, 1) := by decide +kernel
theorem d134_149 : decode (am_code 134) 149 = .ok (.iload_n 3, 1) := by decide +kernel
theorem d134_150 : decode (am_code 134) 150 = .ok (.isub, 1) := by decide +kernel
theorem d134_151 : decode (am_code 134) 151 = .ok (.iload 4, 2) := by decide +kernel
theorem d134_153 : decode (am_code 134) 153 = .ok (.iadd, 1) := by decide +kernel
theorem d134_154 : decode (am_code 134) 154 = .ok (.ireturn, 1) := by decide +kernel
theorem f134_67 : am_find am_ftL (am_mc 134) 67 = some (7, 0) := by decide +kernel
theorem f134_28 : am_find am_ftL (am_mc 134) 28 = some (7, 7) := by decide +kernel
theorem f134_25 : am_find am_ftL (am_mc 134) 25 = some (7, 6) := by decide +kernel
theorem f134_7 : am_find am_ftL (am_mc 134) 7 = some (7, 1) := by decide +kernel
theorem c134_98 : am_find am_ctL (am_mc 134) 98 = some (0, 113) ∧ am_na 113 = 3 ∧ am_fr 113 + 1 ≤ am_fr 134 ∧ 8 + (am_maxL 113 + 11) + am_lo 113 ≤ am_lo 134 := by decide +kernel
theorem l134 : am_maxL 134 = 10 := by decide +kernel
theorem t134 : am_ret 134 = (some .int) := by decide +kernel
