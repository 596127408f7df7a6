/-! ThirdSheets$Parts.cutAt([IIII)I is 38 -/
theorem d38_0 : decode (am_code 38) 0 = .ok (.bipush 7, 2) := by decide +kernel
theorem d38_2 : decode (am_code 38) 2 = .ok (.iload_n 2, 1) := by decide +kernel
theorem d38_3 : decode (am_code 38) 3 = .ok (.iconst 4, 1) := by decide +kernel
theorem d38_4 : decode (am_code 38) 4 = .ok (.idiv, 1) := by decide +kernel
theorem d38_5 : decode (am_code 38) 5 = .ok (.imul, 1) := by decide +kernel
theorem d38_6 : decode (am_code 38) 6 = .ok (.istore 5, 2) := by decide +kernel
theorem d38_8 : decode (am_code 38) 8 = .ok (.aload_n 1, 1) := by decide +kernel
theorem d38_9 : decode (am_code 38) 9 = .ok (.iload 5, 2) := by decide +kernel
theorem d38_11 : decode (am_code 38) 11 = .ok (.iload_n 3, 1) := by decide +kernel
theorem d38_12 : decode (am_code 38) 12 = .ok (.iadd, 1) := by decide +kernel
theorem d38_13 : decode (am_code 38) 13 = .ok (.iaload, 1) := by decide +kernel
theorem d38_14 : decode (am_code 38) 14 = .ok (.istore 6, 2) := by decide +kernel
theorem d38_16 : decode (am_code 38) 16 = .ok (.iload 4, 2) := by decide +kernel
theorem d38_18 : decode (am_code 38) 18 = .ok (.iload 6, 2) := by decide +kernel
theorem d38_20 : decode (am_code 38) 20 = .ok (.if_icmp .ge 16, 3) := by decide +kernel
theorem d38_23 : decode (am_code 38) 23 = .ok (.aload_n 0, 1) := by decide +kernel
theorem d38_24 : decode (am_code 38) 24 = .ok (.getfield 20, 3) := by decide +kernel
theorem d38_27 : decode (am_code 38) 27 = .ok (.iload 5, 2) := by decide +kernel
theorem d38_29 : decode (am_code 38) 29 = .ok (.iload_n 3, 1) := by decide +kernel
theorem d38_30 : decode (am_code 38) 30 = .ok (.iadd, 1) := by decide +kernel
theorem d38_31 : decode (am_code 38) 31 = .ok (.iaload, 1) := by decide +kernel
theorem d38_32 : decode (am_code 38) 32 = .ok (.iload 4, 2) := by decide +kernel
theorem d38_34 : decode (am_code 38) 34 = .ok (.iadd, 1) := by decide +kernel
theorem d38_35 : decode (am_code 38) 35 = .ok (.ireturn, 1) := by decide +kernel
theorem d38_36 : decode (am_code 38) 36 = .ok (.iload 5, 2) := by decide +kernel
theorem d38_38 : decode (am_code 38) 38 = .ok (.iconst 4, 1) := by decide +kernel
theorem d38_39 : decode (am_code 38) 39 = .ok (.iadd, 1) := by decide +kernel
theorem d38_40 : decode (am_code 38) 40 = .ok (.getstatic 92, 3) := by decide +kernel
theorem d38_43 : decode (am_code 38) 43 = .ok (.iconst 4, 1) := by decide +kernel
theorem d38_44 : decode (am_code 38) 44 = .ok (.iload_n 3, 1) := by decide +kernel
theorem d38_45 : decode (am_code 38) 45 = .ok (.imul, 1) := by decide +kernel
theorem d38_46 : decode (am_code 38) 46 = .ok (.iload_n 2, 1) := by decide +kernel
theorem d38_47 : decode (am_code 38) 47 = .ok (.iconst 4, 1) := by decide +kernel
theorem d38_48 : decode (am_code 38) 48 = .ok (.irem, 1) := by decide +kernel
theorem d38_49 : decode (am_code 38) 49 = .ok (.iadd, 1) := by decide +kernel
theorem d38_50 : decode (am_code 38) 50 = .ok (.iaload, 1) := by decide +kernel
theorem d38_51 : decode (am_code 38) 51 = .ok (.iadd, 1) := by decide +kernel
theorem d38_52 : decode (am_code 38) 52 = .ok (.istore 7, 2) := by decide +kernel
theorem d38_54 : decode (am_code 38) 54 = .ok (.iload 4, 2) := by decide +kernel
theorem d38_56 : decode (am_code 38) 56 = .ok (.iload 6, 2) := by decide +kernel
theorem d38_58 : decode (am_code 38) 58 = .ok (.isub, 1) := by decide +kernel
theorem d38_59 : decode (am_code 38) 59 = .ok (.istore 8, 2) := by decide +kernel
theorem d38_61 : decode (am_code 38) 61 = .ok (.aload_n 0, 1) := by decide +kernel
theorem d38_62 : decode (am_code 38) 62 = .ok (.getfield 20, 3) := by decide +kernel
theorem d38_65 : decode (am_code 38) 65 = .ok (.iload 7, 2) := by decide +kernel
theorem d38_67 : decode (am_code 38) 67 = .ok (.iaload, 1) := by decide +kernel
theorem d38_68 : decode (am_code 38) 68 = .ok (.iload_n 2, 1) := by decide +kernel
theorem d38_69 : decode (am_code 38) 69 = .ok (.iload_n 3, 1) := by decide +kernel
theorem d38_70 : decode (am_code 38) 70 = .ok (.invokestatic 95, 3) := by decide +kernel
theorem d38_73 : decode (am_code 38) 73 = .ok (.ifCond .eq 8, 3) := by decide +kernel
theorem d38_76 : decode (am_code 38) 76 = .ok (.iload 8, 2) := by decide +kernel
theorem d38_78 : decode (am_code 38) 78 = .ok (.goto 12, 3) := by decide +kernel
theorem d38_81 : decode (am_code 38) 81 = .ok (.aload_n 1, 1) := by decide +kernel
theorem d38_82 : decode (am_code 38) 82 = .ok (.iload 7, 2) := by decide +kernel
theorem d38_84 : decode (am_code 38) 84 = .ok (.iaload, 1) := by decide +kernel
theorem d38_85 : decode (am_code 38) 85 = .ok (.iconst 1, 1) := by decide +kernel
theorem d38_86 : decode (am_code 38) 86 = .ok (.isub, 1) := by decide +kernel
theorem d38_87 : decode (am_code 38) 87 = .ok (.iload 8, 2) := by decide +kernel
theorem d38_89 : decode (am_code 38) 89 = .ok (.isub, 1) := by decide +kernel
theorem d38_90 : decode (am_code 38) 90 = .ok (.iadd, 1) := by decide +kernel
theorem d38_91 : decode (am_code 38) 91 = .ok (.ireturn, 1) := by decide +kernel
theorem f38_20 : am_find am_ftL (am_mc 38) 20 = some (3, 1) := by decide +kernel
theorem g38_92 : am_find am_gtL (am_mc 38) 92 = some (4, 1) := by decide +kernel
theorem c38_95 : am_find am_ctL (am_mc 38) 95 = some (1, 40) ∧ am_na 40 = 2 ∧ am_fr 40 + 1 ≤ am_fr 38 ∧ 8 + (am_maxL 40 + 11) + am_lo 40 ≤ am_lo 38 := by decide +kernel
theorem l38 : am_maxL 38 = 9 := by decide +kernel
theorem t38 : am_ret 38 = (some .int) := by decide +kernel
/-! ThirdSheets$Parts.looksAway([IIII)Z is 39 -/
theorem d39_0 : decode (am_code 39) 0 = .ok (.iload_n 3, 1) := by decide +kernel
theorem d39_1 : decode (am_code 39) 1 = .ok (.aload_n 0, 1) := by decide +kernel
theorem d39_2 : decode (am_code 39) 2 = .ok (.bipush 7, 2) := by decide +kernel
theorem d39_4 : decode (am_code 39) 4 = .ok (.iload_n 1, 1) := by decide +kernel
theorem d39_5 : decode (am_code 39) 5 = .ok (.iconst 4, 1) := by decide +kernel
theorem d39_6 : decode (am_code 39) 6 = .ok (.idiv, 1) := by decide +kernel
theorem d39_7 : decode (am_code 39) 7 = .ok (.imul, 1) := by decide +kernel
theorem d39_8 : decode (am_code 39) 8 = .ok (.iload_n 2, 1) := by decide +kernel
theorem d39_9 : decode (am_code 39) 9 = .ok (.iadd, 1) := by decide +kernel
theorem d39_10 : decode (am_code 39) 10 = .ok (.iaload, 1) := by decide +kernel
theorem d39_11 : decode (am_code 39) 11 = .ok (.if_icmp .lt 15, 3) := by decide +kernel
theorem d39_14 : decode (am_code 39) 14 = .ok (.iload_n 1, 1) := by decide +kernel
theorem d39_15 : decode (am_code 39) 15 = .ok (.iload_n 2, 1) := by decide +kernel
theorem d39_16 : decode (am_code 39) 16 = .ok (.invokestatic 95, 3) := by decide +kernel
theorem d39_19 : decode (am_code 39) 19 = .ok (.ifCond .ne 7, 3) := by decide +kernel
theorem d39_22 : decode (am_code 39) 22 = .ok (.iconst 1, 1) := by decide +kernel
theorem d39_23 : decode (am_code 39) 23 = .ok (.goto 4, 3) := by decide +kernel
theorem d39_26 : decode (am_code 39) 26 = .ok (.iconst 0, 1) := by decide +kernel
theorem d39_27 : decode (am_code 39) 27 = .ok (.ireturn, 1) := by decide +kernel
theorem c39_95 : am_find am_ctL (am_mc 39) 95 = some (1, 40) ∧ am_na 40 = 2 ∧ am_fr 40 + 1 ≤ am_fr 39 ∧ 8 + (am_maxL 40 + 11) + am_lo 40 ≤ am_lo 39 := by decide +kernel
theorem l39 : am_maxL 39 = 4 := by decide +kernel
theorem t39 : am_ret 39 = (some .boolean) := by decide +kernel
/-! ThirdSheets$Parts.isNear(II)Z is 40 -/
theorem d40_0 : decode (am_code 40) 0 = .ok (.iload_n 1, 1) := by decide +kernel
theorem d40_1 : decode (am_code 40) 1 = .ok (.ifCond .eq 9, 3) := by decide +kernel
theorem d40_4 : decode (am_code 40) 4 = .ok (.iload_n 0, 1) := by decide +kernel
theorem d40_5 : decode (am_code 40) 5 = .ok (.iconst 4, 1) := by decide +kernel
theorem d40_6 : decode (am_code 40) 6 = .ok (.irem, 1) := by decide +kernel
theorem d40_7 : decode (am_code 40) 7 = .ok (.ifCond .ne 7, 3) := by decide +kernel
theorem d40_10 : decode (am_code 40) 10 = .ok (.iconst 1, 1) := by decide +kernel
theorem d40_11 : decode (am_code 40) 11 = .ok (.goto 4, 3) := by decide +kernel
theorem d40_14 : decode (am_code 40) 14 = .ok (.iconst 0, 1) := by decide +kernel
theorem d40_15 : decode (am_code 40) 15 = .ok (.ireturn, 1) := by decide +kernel
theorem l40 : am_maxL 40 = 2 := by decide +kernel
theorem t40 : am_ret 40 = (some .boolean) := by decide +kernel
/-! ThirdSheets$Parts.countCuts(I)V is 41 -/
theorem d41_0 : decode (am_code 41) 0 = .ok (.iconst 0, 1) := by decide +kernel
theorem d41_1 : decode (am_code 41) 1 = .ok (.istore_n 2, 1) := by decide +kernel
theorem d41_2 : decode (am_code 41) 2 = .ok (.iload_n 2, 1) := by decide +kernel
theorem d41_3 : decode (am_code 41) 3 = .ok (.aload_n 0, 1) := by decide +kernel
theorem d41_4 : decode (am_code 41) 4 = .ok (.getfield 14, 3) := by decide +kernel
theorem d41_7 : decode (am_code 41) 7 = .ok (.getfield 99, 3) := by decide +kernel
theorem d41_10 : decode (am_code 41) 10 = .ok (.if_icmp .ge 16, 3) := by decide +kernel
theorem d41_13 : decode (am_code 41) 13 = .ok (.aload_n 0, 1) := by decide +kernel
theorem d41_14 : decode (am_code 41) 14 = .ok (.getfield 24, 3) := by decide +kernel
theorem d41_17 : decode (am_code 41) 17 = .ok (.iload_n 2, 1) := by decide +kernel
theorem d41_18 : decode (am_code 41) 18 = .ok (.iconst 0, 1) := by decide +kernel
theorem d41_19 : decode (am_code 41) 19 = .ok (.iastore, 1) := by decide +kernel
theorem d41_20 : decode (am_code 41) 20 = .ok (.iinc 2 1, 3) := by decide +kernel
theorem d41_23 : decode (am_code 41) 23 = .ok (.goto (-21), 3) := by decide +kernel
theorem d41_26 : decode (am_code 41) 26 = .ok (.iconst 0, 1) := by decide +kernel
theorem d41_27 : decode (am_code 41) 27 = .ok (.istore_n 2, 1) := by decide +kernel
theorem d41_28 : decode (am_code 41) 28 = .ok (.iload_n 2, 1) := by decide +kernel
theorem d41_29 : decode (am_code 41) 29 = .ok (.iload_n 1, 1) := by decide +kernel
theorem d41_30 : decode (am_code 41) 30 = .ok (.if_icmp .ge 27, 3) := by decide +kernel
theorem d41_33 : decode (am_code 41) 33 = .ok (.aload_n 0, 1) := by decide +kernel
theorem d41_34 : decode (am_code 41) 34 = .ok (.getfield 24, 3) := by decide +kernel
theorem d41_37 : decode (am_code 41) 37 = .ok (.aload_n 0, 1) := by decide +kernel
theorem d41_38 : decode (am_code 41) 38 = .ok (.getfield 14, 3) := by decide +kernel
theorem d41_41 : decode (am_code 41) 41 = .ok (.getfield 102, 3) := by decide +kernel
theorem d41_44 : decode (am_code 41) 44 = .ok (.iload_n 2, 1) := by decide +kernel
theorem d41_45 : decode (am_code 41) 45 = .ok (.iaload, 1) := by decide +kernel
theorem d41_46 : decode (am_code 41) 46 = .ok (.dup2, 1) := by decide +kernel
theorem d41_47 : decode (am_code 41) 47 = .ok (.iaload, 1) := by decide +kernel
theorem d41_48 : decode (am_code 41) 48 = .ok (.iconst 1, 1) := by decide +kernel
theorem d41_49 : decode (am_code 41) 49 = .ok (.iadd, 1) := by decide +kernel
theorem d41_50 : decode (am_code 41) 50 = .ok (.iastore, 1) := by decide +kernel
theorem d41_51 : decode (am_code 41) 51 = .ok (.iinc 2 1, 3) := by decide +kernel
theorem d41_54 : decode (am_code 41) 54 = .ok (.goto (-26), 3) := by decide +kernel
theorem d41_57 : decode (am_code 41) 57 = .ok (.iconst 0, 1) := by decide +kernel
theorem d41_58 : decode (am_code 41) 58 = .ok (.istore_n 2, 1) := by decide +kernel
theorem d41_59 : decode (am_code 41) 59 = .ok (.iload_n 2, 1) := by decide +kernel
theorem d41_60 : decode (am_code 41) 60 = .ok (.aload_n 0, 1) := by decide +kernel
theorem d41_61 : decode (am_code 41) 61 = .ok (.getfield 14, 3) := by decide +kernel
theorem d41_64 : decode (am_code 41) 64 = .ok (.getfield 99, 3) := by decide +kernel
theorem d41_67 : decode (am_code 41) 67 = .ok (.if_icmp .ge 21, 3) := by decide +kernel
theorem d41_70 : decode (am_code 41) 70 = .ok (.aload_n 0, 1) := by decide +kernel
theorem d41_71 : decode (am_code 41) 71 = .ok (.getfield 27, 3) := by decide +kernel
theorem d41_74 : decode (am_code 41) 74 = .ok (.iload_n 2, 1) := by decide +kernel
theorem d41_75 : decode (am_code 41) 75 = .ok (.aload_n 0, 1) := by decide +kernel
theorem d41_76 : decode (am_code 41) 76 = .ok (.getfield 24, 3) := by decide +kernel
theorem d41_79 : decode (am_code 41) 79 = .ok (.iload_n 2, 1) := by decide +kernel
theorem d41_80 : decode (am_code 41) 80 = .ok (.iaload, 1) := by decide +kernel
theorem d41_81 : decode (am_code 41) 81 = .ok (.iastore, 1) := by decide +kernel
theorem d41_82 : decode (am_code 41) 82 = .ok (.iinc 2 1, 3) := by decide +kernel
theorem d41_85 : decode (am_code 41) 85 = .ok (.goto (-26), 3) := by decide +kernel
theorem d41_88 : decode (am_code 41) 88 = .ok (.return_, 1) := by decide +kernel
theorem f41_14 : am_find am_ftL (am_mc 41) 14 = some (3, 0) := by decide +kernel
theorem f41_99 : am_find am_ftL (am_mc 41) 99 = some (0, 6) := by decide +kernel
theorem f41_24 : am_find am_ftL (am_mc 41) 24 = some (3, 2) := by decide +kernel
theorem f41_102 : am_find am_ftL (am_mc 41) 102 = some (0, 3) := by decide +kernel
theorem f41_27 : am_find am_ftL (am_mc 41) 27 = some (3, 3) := by decide +kernel
theorem l41 : am_maxL 41 = 3 := by decide +kernel
theorem t41 : am_ret 41 = none := by decide +kernel
/-! ThirdSheets$Parts.countArcs(LThirdSheets$Space;[I)V is 42 -/
theorem d42_0 : decode (am_code 42) 0 = .ok (.iconst 0, 1) := by decide +kernel
theorem d42_1 : decode (am_code 42) 1 = .ok (.istore_n 3, 1) := by decide +kernel
theorem d42_2 : decode (am_code 42) 2 = .ok (.iload_n 3, 1) := by decide +kernel
theorem d42_3 : decode (am_code 42) 3 = .ok (.iconst 4, 1) := by decide +kernel
theorem d42_4 : decode (am_code 42) 4 = .ok (.aload_n 1, 1) := by decide +kernel
theorem d42_5 : decode (am_code 42) 5 = .ok (.getfield 37, 3) := by decide +kernel
theorem d42_8 : decode (am_code 42) 8 = .ok (.imul, 1) := by decide +kernel
theorem d42_9 : decode (am_code 42) 9 = .ok (.if_icmp .ge 116, 3) := by decide +kernel
theorem d42_12 : decode (am_code 42) 12 = .ok (.aload_n 1, 1) := by decide +kernel
theorem d42_13 : decode (am_code 42) 13 = .ok (.iload_n 3, 1) := by decide +kernel
theorem d42_14 : decode (am_code 42) 14 = .ok (.invokevirtual 105, 3) := by decide +kernel
theorem d42_17 : decode (am_code 42) 17 = .ok (.ifCond .eq 11, 3) := by decide +kernel
theorem d42_20 : decode (am_code 42) 20 = .ok (.aload_n 1, 1) := by decide +kernel
theorem d42_21 : decode (am_code 42) 21 = .ok (.iload_n 3, 1) := by decide +kernel
theorem d42_22 : decode (am_code 42) 22 = .ok (.invokevirtual 43, 3) := by decide +kernel
theorem d42_25 : decode (am_code 42) 25 = .ok (.ifCond .eq 7, 3) := by decide +kernel
theorem d42_28 : decode (am_code 42) 28 = .ok (.iconst 1, 1) := by decide +kernel
theorem d42_29 : decode (am_code 42) 29 = .ok (.goto 4, 3) := by decide +kernel
theorem d42_32 : decode (am_code 42) 32 = .ok (.iconst 0, 1) := by decide +kernel
theorem d42_33 : decode (am_code 42) 33 = .ok (.istore 4, 2) := by decide +kernel
theorem d42_35 : decode (am_code 42) 35 = .ok (.iconst 0, 1) := by decide +kernel
theorem d42_36 : decode (am_code 42) 36 = .ok (.istore 5, 2) := by decide +kernel
theorem d42_38 : decode (am_code 42) 38 = .ok (.iload 5, 2) := by decide +kernel
theorem d42_40 : decode (am_code 42) 40 = .ok (.iconst 4, 1) := by decide +kernel
theorem d42_41 : decode (am_code 42) 41 = .ok (.if_icmp .ge 78, 3) := by decide +kernel
theorem d42_44 : decode (am_code 42) 44 = .ok (.iload 4, 2) := by decide +kernel
theorem d42_46 : decode (am_code 42) 46 = .ok (.ifCond .eq 73, 3) := by decide +kernel
theorem d42_49 : decode (am_code 42) 49 = .ok (.iload 5, 2) := by decide +kernel
theorem d42_51 : decode (am_code 42) 51 = .ok (.iload_n 3, 1) := by decide +kernel
theorem d42_52 : decode (am_code 42) 52 = .ok (.iconst 4, 1) := by decide +kernel
theorem d42_53 : decode (am_code 42) 53 = .ok (.irem, 1) := by decide +kernel
theorem d42_54 : decode (am_code 42) 54 = .ok (.if_icmp .ne 7, 3) := by decide +kernel
theorem d42_57 : decode (am_code 42) 57 = .ok (.iconst 0, 1) := by decide +kernel
theorem d42_58 : decode (am_code 42) 58 = .ok (.goto 10, 3) := by decide +kernel
theorem d42_61 : decode (am_code 42) 61 = .ok (.aload_n 2, 1) := by decide +kernel
theorem d42_62 : decode (am_code 42) 62 = .ok (.iload_n 3, 1) := by decide +kernel
theorem d42_63 : decode (am_code 42) 63 = .ok (.iload 5, 2) := by decide +kernel
theorem d42_65 : decode (am_code 42) 65 = .ok (.invokestatic 76, 3) := by decide +kernel
theorem d42_68 : decode (am_code 42) 68 = .ok (.istore 6, 2) := by decide +kernel
theorem d42_70 : decode (am_code 42) 70 = .ok (.iconst 0, 1) := by decide +kernel
theorem d42_71 : decode (am_code 42) 71 = .ok (.istore 7, 2) := by decide +kernel
theorem d42_73 : decode (am_code 42) 73 = .ok (.iload 7, 2) := by decide +kernel
theorem d42_75 : decode (am_code 42) 75 = .ok (.iload 6, 2) := by decide +kernel
theorem d42_77 : decode (am_code 42) 77 = .ok (.if_icmp .ge 36, 3) := by decide +kernel
theorem d42_80 : decode (am_code 42) 80 = .ok (.aload_n 0, 1) := by decide +kernel
theorem d42_81 : decode (am_code 42) 81 = .ok (.getfield 27, 3) := by decide +kernel
theorem d42_84 : decode (am_code 42) 84 = .ok (.aload_n 0, 1) := by decide +kernel
theorem d42_85 : decode (am_code 42) 85 = .ok (.getfield 14, 3) := by decide +kernel
theorem d42_88 : decode (am_code 42) 88 = .ok (.getfield 102, 3) := by decide +kernel
theorem d42_91 : decode (am_code 42) 91 = .ok (.aload_n 0, 1) := by decide +kernel
theorem d42_92 : decode (am_code 42) 92 = .ok (.aload_n 2, 1) := by decide +kernel
theorem d42_93 : decode (am_code 42) 93 = .ok (.iload_n 3, 1) := by decide +kernel
theorem d42_94 : decode (am_code 42) 94 = .ok (.iload 5, 2) := by decide +kernel
theorem d42_96 : decode (am_code 42) 96 = .ok (.iload 7, 2) := by decide +kernel
theorem d42_98 : decode (am_code 42) 98 = .ok (.invokevirtual 84, 3) := by decide +kernel
theorem d42_101 : decode (am_code 42) 101 = .ok (.iaload, 1) := by decide +kernel
theorem d42_102 : decode (am_code 42) 102 = .ok (.dup2, 1) := by decide +kernel
theorem d42_103 : decode (am_code 42) 103 = .ok (.iaload, 1) := by decide +kernel
theorem d42_104 : decode (am_code 42) 104 = .ok (.iconst 1, 1) := by decide +kernel
theorem d42_105 : decode (am_code 42) 105 = .ok (.isub, 1) := by decide +kernel
theorem d42_106 : decode (am_code 42) 106 = .ok (.iastore, 1) := by decide +kernel
theorem d42_107 : decode (am_code 42) 107 = .ok (.iinc 7 1, 3) := by decide +kernel
theorem d42_110 : decode (am_code 42) 110 = .ok (.goto (-37), 3) := by decide +kernel
theorem d42_113 : decode (am_code 42) 113 = .ok (.iinc 5 1, 3) := by decide +kernel
theorem d42_116 : decode (am_code 42) 116 = .ok (.goto (-78), 3) := by decide +kernel
theorem d42_119 : decode (am_code 42) 119 = .ok (.iinc 3 1, 3) := by decide +kernel
theorem d42_122 : decode (am_code 42) 122 = .ok (.goto (-120), 3) := by decide +kernel
theorem d42_125 : decode (am_code 42) 125 = .ok (.return_, 1) := by decide +kernel
theorem f42_37 : am_find am_ftL (am_mc 42) 37 = some (5, 0) := by decide +kernel
theorem f42_27 : am_find am_ftL (am_mc 42) 27 = some (3, 3) := by decide +kernel
theorem f42_14 : am_find am_ftL (am_mc 42) 14 = some (3, 0) := by decide +kernel
theorem f42_102 : am_find am_ftL (am_mc 42) 102 = some (0, 3) := by decide +kernel
theorem c42_105 : am_find am_ctL (am_mc 42) 105 = some (0, 60) ∧ am_na 60 = 1 ∧ am_fr 60 + 1 ≤ am_fr 42 ∧ 8 + (am_maxL 60 + 11) + am_lo 60 ≤ am_lo 42 := by decide +kernel
theorem c42_43 : am_find am_ctL (am_mc 42) 43 = some (0, 64) ∧ am_na 64 = 1 ∧ am_fr 64 + 1 ≤ am_fr 42 ∧ 8 + (am_maxL 64 + 11) + am_lo 64 ≤ am_lo 42 := by decide +kernel
theorem c42_76 : am_find am_ctL (am_mc 42) 76 = some (3, 106) ∧ am_na 106 = 3 ∧ am_fr 106 + 1 ≤ am_fr 42 ∧ 8 + (am_maxL 106 + 11) + am_lo 106 ≤ am_lo 42 := by decide +kernel
theorem c42_84 : am_find am_ctL (am_mc 42) 84 = some (0, 38) ∧ am_na 38 = 4 ∧ am_fr 38 + 1 ≤ am_fr 42 ∧ 8 + (am_maxL 38 + 11) + am_lo 38 ≤ am_lo 42 := by decide +kernel
theorem l42 : am_maxL 42 = 8 := by decide +kernel
theorem t42 : am_ret 42 = none := by decide +kernel
/-! ThirdSheets$Parts.countPoints(LThirdSheets$Space;[I)V is 43 -/
theorem d43_0 : decode (am_code 43) 0 = .ok (.iconst 0, 1) := by decide +kernel
theorem d43_1 : decode (am_code 43) 1 = .ok (.istore_n 3, 1) := by decide +kernel
theorem d43_2 : decode (am_code 43) 2 = .ok (.iload_n 3, 1) := by decide +kernel
theorem d43_3 : decode (am_code 43) 3 = .ok (.aload_n 1, 1) := by decide +kernel
theorem d43_4 : decode (am_code 43) 4 = .ok (.getfield 108, 3) := by decide +kernel
theorem d43_7 : decode (am_code 43) 7 = .ok (.getfield 99, 3) := by decide +kernel
theorem d43_10 : decode (am_code 43) 10 = .ok (.if_icmp .ge 115, 3) := by decide +kernel
theorem d43_13 : decode (am_code 43) 13 = .ok (.aload_n 1, 1) := by decide +kernel
theorem d43_14 : decode (am_code 43) 14 = .ok (.getfield 108, 3) := by decide +kernel
theorem d43_17 : decode (am_code 43) 17 = .ok (.getfield 111, 3) := by decide +kernel
theorem d43_20 : decode (am_code 43) 20 = .ok (.iload_n 3, 1) := by decide +kernel
theorem d43_21 : decode (am_code 43) 21 = .ok (.iaload, 1) := by decide +kernel
theorem d43_22 : decode (am_code 43) 22 = .ok (.istore 4, 2) := by decide +kernel
theorem d43_24 : decode (am_code 43) 24 = .ok (.iconst 0, 1) := by decide +kernel
theorem d43_25 : decode (am_code 43) 25 = .ok (.istore 5, 2) := by decide +kernel
theorem d43_27 : decode (am_code 43) 27 = .ok (.iload 5, 2) := by decide +kernel
theorem d43_29 : decode (am_code 43) 29 = .ok (.bipush 7, 2) := by decide +kernel
theorem d43_31 : decode (am_code 43) 31 = .ok (.if_icmp .ge 88, 3) := by decide +kernel
theorem d43_34 : decode (am_code 43) 34 = .ok (.bipush 7, 2) := by decide +kernel
theorem d43_36 : decode (am_code 43) 36 = .ok (.iload 4, 2) := by decide +kernel
theorem d43_38 : decode (am_code 43) 38 = .ok (.bipush 6, 2) := by decide +kernel
theorem d43_40 : decode (am_code 43) 40 = .ok (.idiv, 1) := by decide +kernel
theorem d43_41 : decode (am_code 43) 41 = .ok (.imul, 1) := by decide +kernel
theorem d43_42 : decode (am_code 43) 42 = .ok (.iload 5, 2) := by decide +kernel
theorem d43_44 : decode (am_code 43) 44 = .ok (.iadd, 1) := by decide +kernel
theorem d43_45 : decode (am_code 43) 45 = .ok (.istore 6, 2) := by decide +kernel
theorem d43_47 : decode (am_code 43) 47 = .ok (.iload 5, 2) := by decide +kernel
theorem d43_49 : decode (am_code 43) 49 = .ok (.iload 4, 2) := by decide +kernel
theorem d43_51 : decode (am_code 43) 51 = .ok (.bipush 6, 2) := by decide +kernel
theorem d43_53 : decode (am_code 43) 53 = .ok (.irem, 1) := by decide +kernel
theorem d43_54 : decode (am_code 43) 54 = .ok (.invokestatic 114, 3) := by decide +kernel
theorem d43_57 : decode (am_code 43) 57 = .ok (.ifCond .eq 10, 3) := by decide +kernel
theorem d43_60 : decode (am_code 43) 60 = .ok (.aload_n 2, 1) := by decide +kernel
theorem d43_61 : decode (am_code 43) 61 = .ok (.iload 6, 2) := by decide +kernel
theorem d43_63 : decode (am_code 43) 63 = .ok (.iaload, 1) := by decide +kernel
theorem d43_64 : decode (am_code 43) 64 = .ok (.goto 4, 3) := by decide +kernel
theorem d43_67 : decode (am_code 43) 67 = .ok (.iconst 0, 1) := by decide +kernel
theorem d43_68 : decode (am_code 43) 68 = .ok (.istore 7, 2) := by decide +kernel
theorem d43_70 : decode (am_code 43) 70 = .ok (.iconst 0, 1) := by decide +kernel
theorem d43_71 : decode (am_code 43) 71 = .ok (.istore 8, 2) := by decide +kernel
theorem d43_73 : decode (am_code 43) 73 = .ok (.iload 8, 2) := by decide +kernel
theorem d43_75 : decode (am_code 43) 75 = .ok (.iload 7, 2) := by decide +kernel
theorem d43_77 : decode (am_code 43) 77 = .ok (.if_icmp .ge 36, 3) := by decide +kernel
theorem d43_80 : decode (am_code 43) 80 = .ok (.aload_n 0, 1) := by decide +kernel
theorem d43_81 : decode (am_code 43) 81 = .ok (.getfield 27, 3) := by decide +kernel
theorem d43_84 : decode (am_code 43) 84 = .ok (.aload_n 0, 1) := by decide +kernel
theorem d43_85 : decode (am_code 43) 85 = .ok (.getfield 14, 3) := by decide +kernel
theorem d43_88 : decode (am_code 43) 88 = .ok (.getfield 102, 3) := by decide +kernel
theorem d43_91 : decode (am_code 43) 91 = .ok (.aload_n 0, 1) := by decide +kernel
theorem d43_92 : decode (am_code 43) 92 = .ok (.getfield 20, 3) := by decide +kernel
theorem d43_95 : decode (am_code 43) 95 = .ok (.iload 6, 2) := by decide +kernel
theorem d43_97 : decode (am_code 43) 97 = .ok (.iaload, 1) := by decide +kernel
theorem d43_98 : decode (am_code 43) 98 = .ok (.iload 8, 2) := by decide +kernel
theorem d43_100 : decode (am_code 43) 100 = .ok (.iadd, 1) := by decide +kernel
theorem d43_101 : decode (am_code 43) 101 = .ok (.iaload, 1) := by decide +kernel
theorem d43_102 : decode (am_code 43) 102 = .ok (.dup2, 1) := by decide +kernel
theorem d43_103 : decode (am_code 43) 103 = .ok (.iaload, 1) := by decide +kernel
theorem d43_104 : decode (am_code 43) 104 = .ok (.iconst 1, 1) := by decide +kernel
theorem d43_105 : decode (am_code 43) 105 = .ok (.iadd, 1) := by decide +kernel
theorem d43_106 : decode (am_code 43) 106 = .ok (.iastore, 1) := by decide +kernel
theorem d43_107 : decode (am_code 43) 107 = .ok (.iinc 8 1, 3) := by decide +kernel
theorem d43_110 : decode (am_code 43) 110 = .ok (.goto (-37), 3) := by decide +kernel
theorem d43_113 : decode (am_code 43) 113 = .ok (.iinc 5 1, 3) := by decide +kernel
theorem d43_116 : decode (am_code 43) 116 = .ok (.goto (-89), 3) := by decide +kernel
theorem d43_119 : decode (am_code 43) 119 = .ok (.iinc 3 1, 3) := by decide +kernel
theorem d43_122 : decode (am_code 43) 122 = .ok (.goto (-120), 3) := by decide +kernel
theorem d43_125 : decode (am_code 43) 125 = .ok (.return_, 1) := by decide +kernel
theorem f43_108 : am_find am_ftL (am_mc 43) 108 = some (5, 5) := by decide +kernel
theorem f43_99 : am_find am_ftL (am_mc 43) 99 = some (0, 6) := by decide +kernel
theorem f43_111 : am_find am_ftL (am_mc 43) 111 = some (0, 4) := by decide +kernel
theorem f43_27 : am_find am_ftL (am_mc 43) 27 = some (3, 3) := by decide +kernel
theorem f43_14 : am_find am_ftL (am_mc 43) 14 = some (3, 0) := by decide +kernel
theorem f43_102 : am_find am_ftL (am_mc 43) 102 = some (0, 3) := by decide +kernel
theorem f43_20 : am_find am_ftL (am_mc 43) 20 = some (3, 1) := by decide +kernel
theorem c43_114 : am_find am_ctL (am_mc 43) 114 = some (3, 107) ∧ am_na 107 = 2 ∧ am_fr 107 + 1 ≤ am_fr 43 ∧ 8 + (am_maxL 107 + 11) + am_lo 107 ≤ am_lo 43 := by decide +kernel
theorem l43 : am_maxL 43 = 9 := by decide +kernel
theorem t43 : am_ret 43 = none := by decide +kernel
/-! ThirdSheets$Sheet.<init>()V is 44 -/
theorem d44_0 : decode (am_code 44) 0 = .ok (.aload_n 0, 1) := by decide +kernel
theorem d44_1 : decode (am_code 44) 1 = .ok (.invokespecial 3, 3) := by decide +kernel
theorem d44_4 : decode (am_code 44) 4 = .ok (.aload_n 0, 1) := by decide +kernel
theorem d44_5 : decode (am_code 44) 5 = .ok (.bipush 21, 2) := by decide +kernel
theorem d44_7 : decode (am_code 44) 7 = .ok (.newarray .int, 2) := by decide +kernel
theorem d44_9 : decode (am_code 44) 9 = .ok (.putfield 9, 3) := by decide +kernel
theorem d44_12 : decode (am_code 44) 12 = .ok (.return_, 1) := by decide +kernel
theorem f44_9 : am_find am_ftL (am_mc 44) 9 = some (4, 0) := by decide +kernel
theorem c44_3 : am_find am_ctL (am_mc 44) 3 = some (4, 0) := by decide +kernel
theorem l44 : am_maxL 44 = 1 := by decide +kernel
theorem t44 : am_ret 44 = none := by decide +kernel
/-! ThirdSheets$Sheet.wipe()V is 45 -/
theorem d45_0 : decode (am_code 45) 0 = .ok (.aload_n 0, 1) := by decide +kernel
theorem d45_1 : decode (am_code 45) 1 = .ok (.getfield 9, 3) := by decide +kernel
theorem d45_4 : decode (am_code 45) 4 = .ok (.iconst 0, 1) := by decide +kernel
theorem d45_5 : decode (am_code 45) 5 = .ok (.invokestatic 15, 3) := by decide +kernel
theorem d45_8 : decode (am_code 45) 8 = .ok (.return_, 1) := by decide +kernel
theorem f45_9 : am_find am_ftL (am_mc 45) 9 = some (4, 0) := by decide +kernel
theorem c45_15 : am_find am_ctL (am_mc 45) 15 = some (1, 180) ∧ am_na 180 = 2 ∧ am_fr 180 + 1 ≤ am_fr 45 ∧ 8 + (am_maxL 180 + 11) + am_lo 180 ≤ am_lo 45 := by decide +kernel
theorem l45 : am_maxL 45 = 1 := by decide +kernel
theorem t45 : am_ret 45 = none := by decide +kernel
/-! ThirdSheets$Sheet.notZero()I is 46 -/
theorem d46_0 : decode (am_code 46) 0 = .ok (.iconst 0, 1) := by decide +kernel
theorem d46_1 : decode (am_code 46) 1 = .ok (.istore_n 1, 1) := by decide +kernel
theorem d46_2 : decode (am_code 46) 2 = .ok (.aload_n 0, 1) := by decide +kernel
theorem d46_3 : decode (am_code 46) 3 = .ok (.getfield 9, 3) := by decide +kernel
theorem d46_6 : decode (am_code 46) 6 = .ok (.astore_n 2, 1) := by decide +kernel
theorem d46_7 : decode (am_code 46) 7 = .ok (.aload_n 2, 1) := by decide +kernel
theorem d46_8 : decode (am_code 46) 8 = .ok (.arraylength, 1) := by decide +kernel
theorem d46_9 : decode (am_code 46) 9 = .ok (.istore_n 3, 1) := by decide +kernel
theorem d46_10 : decode (am_code 46) 10 = .ok (.iconst 0, 1) := by decide +kernel
theorem d46_11 : decode (am_code 46) 11 = .ok (.istore 4, 2) := by decide +kernel
theorem d46_13 : decode (am_code 46) 13 = .ok (.iload 4, 2) := by decide +kernel
theorem d46_15 : decode (am_code 46) 15 = .ok (.iload_n 3, 1) := by decide +kernel
theorem d46_16 : decode (am_code 46) 16 = .ok (.if_icmp .ge 23, 3) := by decide +kernel
theorem d46_19 : decode (am_code 46) 19 = .ok (.aload_n 2, 1) := by decide +kernel
theorem d46_20 : decode (am_code 46) 20 = .ok (.iload 4, 2) := by decide +kernel
theorem d46_22 : decode (am_code 46) 22 = .ok (.iaload, 1) := by decide +kernel
theorem d46_23 : decode (am_code 46) 23 = .ok (.istore 5, 2) := by decide +kernel
theorem d46_25 : decode (am_code 46) 25 = .ok (.iload 5, 2) := by decide +kernel
theorem d46_27 : decode (am_code 46) 27 = .ok (.ifCond .eq 6, 3) := by decide +kernel
theorem d46_30 : decode (am_code 46) 30 = .ok (.iinc 1 1, 3) := by decide +kernel
theorem d46_33 : decode (am_code 46) 33 = .ok (.iinc 4 1, 3) := by decide +kernel
theorem d46_36 : decode (am_code 46) 36 = .ok (.goto (-23), 3) := by decide +kernel
theorem d46_39 : decode (am_code 46) 39 = .ok (.iload_n 1, 1) := by decide +kernel
theorem d46_40 : decode (am_code 46) 40 = .ok (.ireturn, 1) := by decide +kernel
theorem f46_9 : am_find am_ftL (am_mc 46) 9 = some (4, 0) := by decide +kernel
theorem l46 : am_maxL 46 = 6 := by decide +kernel
theorem t46 : am_ret 46 = (some .int) := by decide +kernel
/-! ThirdSheets$Sheet.cutCount()I is 47 -/
theorem d47_0 : decode (am_code 47) 0 = .ok (.iconst 0, 1) := by decide +kernel
theorem d47_1 : decode (am_code 47) 1 = .ok (.istore_n 1, 1) := by decide +kernel
theorem d47_2 : decode (am_code 47) 2 = .ok (.aload_n 0, 1) := by decide +kernel
theorem d47_3 : decode (am_code 47) 3 = .ok (.getfield 9, 3) := by decide +kernel
theorem d47_6 : decode (am_code 47) 6 = .ok (.astore_n 2, 1) := by decide +kernel
theorem d47_7 : decode (am_code 47) 7 = .ok (.aload_n 2, 1) := by decide +kernel
theorem d47_8 : decode (am_code 47) 8 = .ok (.arraylength, 1) := by decide +kernel
theorem d47_9 : decode (am_code 47) 9 = .ok (.istore_n 3, 1) := by decide +kernel
theorem d47_10 : decode (am_code 47) 10 = .ok (.iconst 0, 1) := by decide +kernel
theorem d47_11 : decode (am_code 47) 11 = .ok (.istore 4, 2) := by decide +kernel
theorem d47_13 : decode (am_code 47) 13 = .ok (.iload 4, 2) := by decide +kernel
theorem d47_15 : decode (am_code 47) 15 = .ok (.iload_n 3, 1) := by decide +kernel
theorem d47_16 : decode (am_code 47) 16 = .ok (.if_icmp .ge 20, 3) := by decide +kernel
theorem d47_19 : decode (am_code 47) 19 = .ok (.aload_n 2, 1) := by decide +kernel
theorem d47_20 : decode (am_code 47) 20 = .ok (.iload 4, 2) := by decide +kernel
theorem d47_22 : decode (am_code 47) 22 = .ok (.iaload, 1) := by decide +kernel
theorem d47_23 : decode (am_code 47) 23 = .ok (.istore 5, 2) := by decide +kernel
theorem d47_25 : decode (am_code 47) 25 = .ok (.iload_n 1, 1) := by decide +kernel
theorem d47_26 : decode (am_code 47) 26 = .ok (.iload 5, 2) := by decide +kernel
theorem d47_28 : decode (am_code 47) 28 = .ok (.iadd, 1) := by decide +kernel
theorem d47_29 : decode (am_code 47) 29 = .ok (.istore_n 1, 1) := by decide +kernel
theorem d47_30 : decode (am_code 47) 30 = .ok (.iinc 4 1, 3) := by decide +kernel
theorem d47_33 : decode (am_code 47) 33 = .ok (.goto (-20), 3) := by decide +kernel
theorem d47_36 : decode (am_code 47) 36 = .ok (.iload_n 1, 1) := by decide +kernel
theorem d47_37 : decode (am_code 47) 37 = .ok (.ireturn, 1) := by decide +kernel
theorem f47_9 : am_find am_ftL (am_mc 47) 9 = some (4, 0) := by decide +kernel
theorem l47 : am_maxL 47 = 6 := by decide +kernel
theorem t47 : am_ret 47 = (some .int) := by decide +kernel
/-! ThirdSheets$Sheet.hasRoomFor([II)Z is 48 -/
theorem d48_0 : decode (am_code 48) 0 = .ok (.iconst 0, 1) := by decide +kernel
theorem d48_1 : decode (am_code 48) 1 = .ok (.istore_n 3, 1) := by decide +kernel
theorem d48_2 : decode (am_code 48) 2 = .ok (.iload_n 3, 1) := by decide +kernel
theorem d48_3 : decode (am_code 48) 3 = .ok (.aload_n 0, 1) := by decide +kernel
theorem d48_4 : decode (am_code 48) 4 = .ok (.getfield 9, 3) := by decide +kernel
theorem d48_7 : decode (am_code 48) 7 = .ok (.arraylength, 1) := by decide +kernel
theorem d48_8 : decode (am_code 48) 8 = .ok (.if_icmp .ge 39, 3) := by decide +kernel
theorem d48_11 : decode (am_code 48) 11 = .ok (.iload_n 3, 1) := by decide +kernel
theorem d48_12 : decode (am_code 48) 12 = .ok (.aload_n 1, 1) := by decide +kernel
theorem d48_13 : decode (am_code 48) 13 = .ok (.arraylength, 1) := by decide +kernel
theorem d48_14 : decode (am_code 48) 14 = .ok (.if_icmp .ge 33, 3) := by decide +kernel
theorem d48_17 : decode (am_code 48) 17 = .ok (.aload_n 0, 1) := by decide +kernel
theorem d48_18 : decode (am_code 48) 18 = .ok (.getfield 9, 3) := by decide +kernel
theorem d48_21 : decode (am_code 48) 21 = .ok (.iload_n 3, 1) := by decide +kernel
theorem d48_22 : decode (am_code 48) 22 = .ok (.iaload, 1) := by decide +kernel
theorem d48_23 : decode (am_code 48) 23 = .ok (.i2l, 1) := by decide +kernel
theorem d48_24 : decode (am_code 48) 24 = .ok (.iload_n 2, 1) := by decide +kernel
theorem d48_25 : decode (am_code 48) 25 = .ok (.i2l, 1) := by decide +kernel
theorem d48_26 : decode (am_code 48) 26 = .ok (.aload_n 1, 1) := by decide +kernel
theorem d48_27 : decode (am_code 48) 27 = .ok (.iload_n 3, 1) := by decide +kernel
theorem d48_28 : decode (am_code 48) 28 = .ok (.iaload, 1) := by decide +kernel
theorem d48_29 : decode (am_code 48) 29 = .ok (.i2l, 1) := by decide +kernel
theorem d48_30 : decode (am_code 48) 30 = .ok (.lmul, 1) := by decide +kernel
theorem d48_31 : decode (am_code 48) 31 = .ok (.ladd, 1) := by decide +kernel
theorem d48_32 : decode (am_code 48) 32 = .ok (.ldc2_w 21, 3) := by decide +kernel
theorem d48_35 : decode (am_code 48) 35 = .ok (.lcmp, 1) := by decide +kernel
theorem d48_36 : decode (am_code 48) 36 = .ok (.ifCond .le 5, 3) := by decide +kernel
theorem d48_39 : decode (am_code 48) 39 = .ok (.iconst 0, 1) := by decide +kernel
theorem d48_40 : decode (am_code 48) 40 = .ok (.ireturn, 1) := by decide +kernel
theorem d48_41 : decode (am_code 48) 41 = .ok (.iinc 3 1, 3) := by decide +kernel
theorem d48_44 : decode (am_code 48) 44 = .ok (.goto (-42), 3) := by decide +kernel
theorem d48_47 : decode (am_code 48) 47 = .ok (.iconst 1, 1) := by decide +kernel
theorem d48_48 : decode (am_code 48) 48 = .ok (.ireturn, 1) := by decide +kernel
theorem f48_9 : am_find am_ftL (am_mc 48) 9 = some (4, 0) := by decide +kernel
theorem l48 : am_maxL 48 = 4 := by decide +kernel
theorem t48 : am_ret 48 = (some .boolean) := by decide +kernel
/-! ThirdSheets$Sheet.raise([II)V is 49 -/
theorem d49_0 : decode (am_code 49) 0 = .ok (.iconst 0, 1) := by decide +kernel
theorem d49_1 : decode (am_code 49) 1 = .ok (.istore_n 3, 1) := by decide +kernel
theorem d49_2 : decode (am_code 49) 2 = .ok (.iload_n 3, 1) := by decide +kernel
theorem d49_3 : decode (am_code 49) 3 = .ok (.aload_n 0, 1) := by decide +kernel
theorem d49_4 : decode (am_code 49) 4 = .ok (.getfield 9, 3) := by decide +kernel
theorem d49_7 : decode (am_code 49) 7 = .ok (.arraylength, 1) := by decide +kernel
theorem d49_8 : decode (am_code 49) 8 = .ok (.if_icmp .ge 29, 3) := by decide +kernel
theorem d49_11 : decode (am_code 49) 11 = .ok (.iload_n 3, 1) := by decide +kernel
theorem d49_12 : decode (am_code 49) 12 = .ok (.aload_n 1, 1) := by decide +kernel
theorem d49_13 : decode (am_code 49) 13 = .ok (.arraylength, 1) := by decide +kernel
theorem d49_14 : decode (am_code 49) 14 = .ok (.if_icmp .ge 23, 3) := by decide +kernel
theorem d49_17 : decode (am_code 49) 17 = .ok (.aload_n 0, 1) := by decide +kernel
theorem d49_18 : decode (am_code 49) 18 = .ok (.getfield 9, 3) := by decide +kernel
theorem d49_21 : decode (am_code 49) 21 = .ok (.iload_n 3, 1) := by decide +kernel
theorem d49_22 : decode (am_code 49) 22 = .ok (.dup2, 1) := by decide +kernel
theorem d49_23 : decode (am_code 49) 23 = .ok (.iaload, 1) := by decide +kernel
theorem d49_24 : decode (am_code 49) 24 = .ok (.iload_n 2, 1) := by decide +kernel
theorem d49_25 : decode (am_code 49) 25 = .ok (.aload_n 1, 1) := by decide +kernel
theorem d49_26 : decode (am_code 49) 26 = .ok (.iload_n 3, 1) := by decide +kernel
theorem d49_27 : decode (am_code 49) 27 = .ok (.iaload, 1) := by decide +kernel
theorem d49_28 : decode (am_code 49) 28 = .ok (.imul, 1) := by decide +kernel
theorem d49_29 : decode (am_code 49) 29 = .ok (.iadd, 1) := by decide +kernel
theorem d49_30 : decode (am_code 49) 30 = .ok (.iastore, 1) := by decide +kernel
theorem d49_31 : decode (am_code 49) 31 = .ok (.iinc 3 1, 3) := by decide +kernel
theorem d49_34 : decode (am_code 49) 34 = .ok (.goto (-32), 3) := by decide +kernel
theorem d49_37 : decode (am_code 49) 37 = .ok (.return_, 1) := by decide +kernel
theorem f49_9 : am_find am_ftL (am_mc 49) 9 = some (4, 0) := by decide +kernel
theorem l49 : am_maxL 49 = 4 := by decide +kernel
theorem t49 : am_ret 49 = none := by decide +kernel
/-! ThirdSheets$Sheet.isLegal(LThirdSheets$Space;)Z is 50 -/
theorem d50_0 : decode (am_code 50) 0 = .ok (.aload_n 0, 1) := by decide +kernel
theorem d50_1 : decode (am_code 50) 1 = .ok (.aload_n 1, 1) := by decide +kernel
theorem d50_2 : decode (am_code 50) 2 = .ok (.invokevirtual 23, 3) := by decide +kernel
theorem d50_5 : decode (am_code 50) 5 = .ok (.ifCond .eq 14, 3) := by decide +kernel
theorem d50_8 : decode (am_code 50) 8 = .ok (.aload_n 0, 1) := by decide +kernel
theorem d50_9 : decode (am_code 50) 9 = .ok (.invokevirtual 27, 3) := by decide +kernel
theorem d50_12 : decode (am_code 50) 12 = .ok (.ifCond .ne 7, 3) := by decide +kernel
theorem d50_15 : decode (am_code 50) 15 = .ok (.iconst 1, 1) := by decide +kernel
theorem d50_16 : decode (am_code 50) 16 = .ok (.goto 4, 3) := by decide +kernel
theorem d50_19 : decode (am_code 50) 19 = .ok (.iconst 0, 1) := by decide +kernel
theorem d50_20 : decode (am_code 50) 20 = .ok (.ireturn, 1) := by decide +kernel
theorem c50_23 : am_find am_ctL (am_mc 50) 23 = some (0, 51) ∧ am_na 51 = 1 ∧ am_fr 51 + 1 ≤ am_fr 50 ∧ 8 + (am_maxL 51 + 11) + am_lo 51 ≤ am_lo 50 := by decide +kernel
theorem c50_27 : am_find am_ctL (am_mc 50) 27 = some (0, 53) ∧ am_na 53 = 0 ∧ am_fr 53 + 1 ≤ am_fr 50 ∧ 8 + (am_maxL 53 + 11) + am_lo 53 ≤ am_lo 50 := by decide +kernel
theorem l50 : am_maxL 50 = 2 := by decide +kernel
theorem t50 : am_ret 50 = (some .boolean) := by decide +kernel
/-! ThirdSheets$Sheet.fits(LThirdSheets$Space;)Z is 51 -/
theorem d51_0 : decode (am_code 51) 0 = .ok (.iconst 0, 1) := by decide +kernel
theorem d51_1 : decode (am_code 51) 1 = .ok (.istore_n 2, 1) := by decide +kernel
theorem d51_2 : decode (am_code 51) 2 = .ok (.iload_n 2, 1) := by decide +kernel
theorem d51_3 : decode (am_code 51) 3 = .ok (.iconst 4, 1) := by decide +kernel
theorem d51_4 : decode (am_code 51) 4 = .ok (.aload_n 1, 1) := by decide +kernel
theorem d51_5 : decode (am_code 51) 5 = .ok (.getfield 31, 3) := by decide +kernel
theorem d51_8 : decode (am_code 51) 8 = .ok (.imul, 1) := by decide +kernel
theorem d51_9 : decode (am_code 51) 9 = .ok (.if_icmp .ge 28, 3) := by decide +kernel
theorem d51_12 : decode (am_code 51) 12 = .ok (.aload_n 1, 1) := by decide +kernel
theorem d51_13 : decode (am_code 51) 13 = .ok (.iload_n 2, 1) := by decide +kernel
theorem d51_14 : decode (am_code 51) 14 = .ok (.invokevirtual 37, 3) := by decide +kernel
theorem d51_17 : decode (am_code 51) 17 = .ok (.ifCond .eq 14, 3) := by decide +kernel
theorem d51_20 : decode (am_code 51) 20 = .ok (.aload_n 0, 1) := by decide +kernel
theorem d51_21 : decode (am_code 51) 21 = .ok (.aload_n 1, 1) := by decide +kernel
theorem d51_22 : decode (am_code 51) 22 = .ok (.iload_n 2, 1) := by decide +kernel
theorem d51_23 : decode (am_code 51) 23 = .ok (.invokevirtual 41, 3) := by decide +kernel
theorem d51_26 : decode (am_code 51) 26 = .ok (.ifCond .ne 5, 3) := by decide +kernel
theorem d51_29 : decode (am_code 51) 29 = .ok (.iconst 0, 1) := by decide +kernel
theorem d51_30 : decode (am_code 51) 30 = .ok (.ireturn, 1) := by decide +kernel
theorem d51_31 : decode (am_code 51) 31 = .ok (.iinc 2 1, 3) := by decide +kernel
theorem d51_34 : decode (am_code 51) 34 = .ok (.goto (-32), 3) := by decide +kernel
theorem d51_37 : decode (am_code 51) 37 = .ok (.iconst 1, 1) := by decide +kernel
theorem d51_38 : decode (am_code 51) 38 = .ok (.ireturn, 1) := by decide +kernel
theorem f51_31 : am_find am_ftL (am_mc 51) 31 = some (5, 0) := by decide +kernel
theorem c51_37 : am_find am_ctL (am_mc 51) 37 = some (0, 64) ∧ am_na 64 = 1 ∧ am_fr 64 + 1 ≤ am_fr 51 ∧ 8 + (am_maxL 64 + 11) + am_lo 64 ≤ am_lo 51 := by decide +kernel
theorem c51_41 : am_find am_ctL (am_mc 51) 41 = some (0, 52) ∧ am_na 52 = 2 ∧ am_fr 52 + 1 ≤ am_fr 51 ∧ 8 + (am_maxL 52 + 11) + am_lo 52 ≤ am_lo 51 := by decide +kernel
theorem l51 : am_maxL 51 = 3 := by decide +kernel
theorem t51 : am_ret 51 = (some .boolean) := by decide +kernel
/-! ThirdSheets$Sheet.fitsAt(LThirdSheets$Space;I)Z is 52 -/
theorem d52_0 : decode (am_code 52) 0 = .ok (.iconst 0, 1) := by decide +kernel
theorem d52_1 : decode (am_code 52) 1 = .ok (.istore_n 3, 1) := by decide +kernel
theorem d52_2 : decode (am_code 52) 2 = .ok (.iload_n 3, 1) := by decide +kernel
theorem d52_3 : decode (am_code 52) 3 = .ok (.iconst 4, 1) := by decide +kernel
theorem d52_4 : decode (am_code 52) 4 = .ok (.if_icmp .ge 57, 3) := by decide +kernel
theorem d52_7 : decode (am_code 52) 7 = .ok (.iload_n 3, 1) := by decide +kernel
theorem d52_8 : decode (am_code 52) 8 = .ok (.iload_n 2, 1) := by decide +kernel
theorem d52_9 : decode (am_code 52) 9 = .ok (.iconst 4, 1) := by decide +kernel
theorem d52_10 : decode (am_code 52) 10 = .ok (.irem, 1) := by decide +kernel
theorem d52_11 : decode (am_code 52) 11 = .ok (.if_icmp .eq 44, 3) := by decide +kernel
theorem d52_14 : decode (am_code 52) 14 = .ok (.aload_n 0, 1) := by decide +kernel
theorem d52_15 : decode (am_code 52) 15 = .ok (.getfield 9, 3) := by decide +kernel
theorem d52_18 : decode (am_code 52) 18 = .ok (.aload_n 1, 1) := by decide +kernel
theorem d52_19 : decode (am_code 52) 19 = .ok (.getfield 45, 3) := by decide +kernel
theorem d52_22 : decode (am_code 52) 22 = .ok (.iload_n 2, 1) := by decide +kernel
theorem d52_23 : decode (am_code 52) 23 = .ok (.iaload, 1) := by decide +kernel
theorem d52_24 : decode (am_code 52) 24 = .ok (.aload_n 1, 1) := by decide +kernel
theorem d52_25 : decode (am_code 52) 25 = .ok (.getfield 48, 3) := by decide +kernel
theorem d52_28 : decode (am_code 52) 28 = .ok (.iconst 4, 1) := by decide +kernel
theorem d52_29 : decode (am_code 52) 29 = .ok (.iload_n 2, 1) := by decide +kernel
theorem d52_30 : decode (am_code 52) 30 = .ok (.imul, 1) := by decide +kernel
theorem d52_31 : decode (am_code 52) 31 = .ok (.iload_n 3, 1) := by decide +kernel
theorem d52_32 : decode (am_code 52) 32 = .ok (.iadd, 1) := by decide +kernel
theorem d52_33 : decode (am_code 52) 33 = .ok (.iaload, 1) := by decide +kernel
theorem d52_34 : decode (am_code 52) 34 = .ok (.invokestatic 51, 3) := by decide +kernel
theorem d52_37 : decode (am_code 52) 37 = .ok (.istore 4, 2) := by decide +kernel
theorem d52_39 : decode (am_code 52) 39 = .ok (.aload_n 0, 1) := by decide +kernel
theorem d52_40 : decode (am_code 52) 40 = .ok (.getfield 9, 3) := by decide +kernel
theorem d52_43 : decode (am_code 52) 43 = .ok (.iload_n 2, 1) := by decide +kernel
theorem d52_44 : decode (am_code 52) 44 = .ok (.iload_n 3, 1) := by decide +kernel
theorem d52_45 : decode (am_code 52) 45 = .ok (.invokestatic 51, 3) := by decide +kernel
theorem d52_48 : decode (am_code 52) 48 = .ok (.iload 4, 2) := by decide +kernel
theorem d52_50 : decode (am_code 52) 50 = .ok (.if_icmp .eq 5, 3) := by decide +kernel
theorem d52_53 : decode (am_code 52) 53 = .ok (.iconst 0, 1) := by decide +kernel
theorem d52_54 : decode (am_code 52) 54 = .ok (.ireturn, 1) := by decide +kernel
theorem d52_55 : decode (am_code 52) 55 = .ok (.iinc 3 1, 3) := by decide +kernel
theorem d52_58 : decode (am_code 52) 58 = .ok (.goto (-56), 3) := by decide +kernel
theorem d52_61 : decode (am_code 52) 61 = .ok (.iconst 1, 1) := by decide +kernel
theorem d52_62 : decode (am_code 52) 62 = .ok (.ireturn, 1) := by decide +kernel
theorem f52_9 : am_find am_ftL (am_mc 52) 9 = some (4, 0) := by decide +kernel
theorem f52_45 : am_find am_ftL (am_mc 52) 45 = some (5, 2) := by decide +kernel
theorem f52_48 : am_find am_ftL (am_mc 52) 48 = some (5, 3) := by decide +kernel
theorem c52_51 : am_find am_ctL (am_mc 52) 51 = some (3, 106) ∧ am_na 106 = 3 ∧ am_fr 106 + 1 ≤ am_fr 52 ∧ 8 + (am_maxL 106 + 11) + am_lo 106 ≤ am_lo 52 := by decide +kernel
theorem l52 : am_maxL 52 = 5 := by decide +kernel
theorem t52 : am_ret 52 = (some .boolean) := by decide +kernel
/-! ThirdSheets$Sheet.mixesFours()Z is 53 -/
theorem d53_0 : decode (am_code 53) 0 = .ok (.iconst 0, 1) := by decide +kernel
theorem d53_1 : decode (am_code 53) 1 = .ok (.istore_n 1, 1) := by decide +kernel
theorem d53_2 : decode (am_code 53) 2 = .ok (.iload_n 1, 1) := by decide +kernel
theorem d53_3 : decode (am_code 53) 3 = .ok (.iconst 3, 1) := by decide +kernel
theorem d53_4 : decode (am_code 53) 4 = .ok (.if_icmp .ge 49, 3) := by decide +kernel
theorem d53_7 : decode (am_code 53) 7 = .ok (.iconst 0, 1) := by decide +kernel
theorem d53_8 : decode (am_code 53) 8 = .ok (.istore_n 2, 1) := by decide +kernel
theorem d53_9 : decode (am_code 53) 9 = .ok (.iconst 4, 1) := by decide +kernel
theorem d53_10 : decode (am_code 53) 10 = .ok (.istore_n 3, 1) := by decide +kernel
theorem d53_11 : decode (am_code 53) 11 = .ok (.iload_n 3, 1) := by decide +kernel
theorem d53_12 : decode (am_code 53) 12 = .ok (.bipush 7, 2) := by decide +kernel
theorem d53_14 : decode (am_code 53) 14 = .ok (.if_icmp .ge 26, 3) := by decide +kernel
theorem d53_17 : decode (am_code 53) 17 = .ok (.aload_n 0, 1) := by decide +kernel
theorem d53_18 : decode (am_code 53) 18 = .ok (.getfield 9, 3) := by decide +kernel
theorem d53_21 : decode (am_code 53) 21 = .ok (.bipush 7, 2) := by decide +kernel
theorem d53_23 : decode (am_code 53) 23 = .ok (.iload_n 1, 1) := by decide +kernel
theorem d53_24 : decode (am_code 53) 24 = .ok (.imul, 1) := by decide +kernel
theorem d53_25 : decode (am_code 53) 25 = .ok (.iload_n 3, 1) := by decide +kernel
theorem d53_26 : decode (am_code 53) 26 = .ok (.iadd, 1) := by decide +kernel
theorem d53_27 : decode (am_code 53) 27 = .ok (.iaload, 1) := by decide +kernel
theorem d53_28 : decode (am_code 53) 28 = .ok (.ifCond .eq 6, 3) := by decide +kernel
theorem d53_31 : decode (am_code 53) 31 = .ok (.iinc 2 1, 3) := by decide +kernel
theorem d53_34 : decode (am_code 53) 34 = .ok (.iinc 3 1, 3) := by decide +kernel
theorem d53_37 : decode (am_code 53) 37 = .ok (.goto (-26), 3) := by decide +kernel
theorem d53_40 : decode (am_code 53) 40 = .ok (.iload_n 2, 1) := by decide +kernel
theorem d53_41 : decode (am_code 53) 41 = .ok (.iconst 1, 1) := by decide +kernel
theorem d53_42 : decode (am_code 53) 42 = .ok (.if_icmp .le 5, 3) := by decide +kernel
theorem d53_45 : decode (am_code 53) 45 = .ok (.iconst 1, 1) := by decide +kernel
theorem d53_46 : decode (am_code 53) 46 = .ok (.ireturn, 1) := by decide +kernel
theorem d53_47 : decode (am_code 53) 47 = .ok (.iinc 1 1, 3) := by decide +kernel
theorem d53_50 : decode (am_code 53) 50 = .ok (.goto (-48), 3) := by decide +kernel
theorem d53_53 : decode (am_code 53) 53 = .ok (.iconst 0, 1) := by decide +kernel
theorem d53_54 : decode (am_code 53) 54 = .ok (.ireturn, 1) := by decide +kernel
theorem f53_9 : am_find am_ftL (am_mc 53) 9 = some (4, 0) := by decide +kernel
theorem l53 : am_maxL 53 = 4 := by decide +kernel
theorem t53 : am_ret 53 = (some .boolean) := by decide +kernel
/-! ThirdSheets$Sheet.eulerNumber(LThirdSheets$Space;)I is 54 -/
theorem d54_0 : decode (am_code 54) 0 = .ok (.aload_n 0, 1) := by decide +kernel
theorem d54_1 : decode (am_code 54) 1 = .ok (.aload_n 1, 1) := by decide +kernel
theorem d54_2 : decode (am_code 54) 2 = .ok (.invokevirtual 55, 3) := by decide +kernel
theorem d54_5 : decode (am_code 54) 5 = .ok (.aload_n 0, 1) := by decide +kernel
theorem d54_6 : decode (am_code 54) 6 = .ok (.aload_n 1, 1) := by decide +kernel
theorem d54_7 : decode (am_code 54) 7 = .ok (.invokevirtual 59, 3) := by decide +kernel
theorem d54_10 : decode (am_code 54) 10 = .ok (.isub, 1) := by decide +kernel
theorem d54_11 : decode (am_code 54) 11 = .ok (.aload_n 0, 1) := by decide +kernel
theorem d54_12 : decode (am_code 54) 12 = .ok (.invokevirtual 62, 3) := by decide +kernel
theorem d54_15 : decode (am_code 54) 15 = .ok (.iadd, 1) := by decide +kernel
theorem d54_16 : decode (am_code 54) 16 = .ok (.ireturn, 1) := by decide +kernel
theorem c54_55 : am_find am_ctL (am_mc 54) 55 = some (0, 55) ∧ am_na 55 = 1 ∧ am_fr 55 + 1 ≤ am_fr 54 ∧ 8 + (am_maxL 55 + 11) + am_lo 55 ≤ am_lo 54 := by decide +kernel
theorem c54_59 : am_find am_ctL (am_mc 54) 59 = some (0, 56) ∧ am_na 56 = 1 ∧ am_fr 56 + 1 ≤ am_fr 54 ∧ 8 + (am_maxL 56 + 11) + am_lo 56 ≤ am_lo 54 := by decide +kernel
theorem c54_62 : am_find am_ctL (am_mc 54) 62 = some (0, 47) ∧ am_na 47 = 0 ∧ am_fr 47 + 1 ≤ am_fr 54 ∧ 8 + (am_maxL 47 + 11) + am_lo 47 ≤ am_lo 54 := by decide +kernel
theorem l54 : am_maxL 54 = 2 := by decide +kernel
theorem t54 : am_ret 54 = (some .int) := by decide +kernel
/-! ThirdSheets$Sheet.points(LThirdSheets$Space;)I is 55 -/
theorem d55_0 : decode (am_code 55) 0 = .ok (.iconst 0, 1) := by decide +kernel
theorem d55_1 : decode (am_code 55) 1 = .ok (.istore_n 2, 1) := by decide +kernel
theorem d55_2 : decode (am_code 55) 2 = .ok (.iconst 0, 1) := by decide +kernel
theorem d55_3 : decode (am_code 55) 3 = .ok (.istore_n 3, 1) := by decide +kernel
theorem d55_4 : decode (am_code 55) 4 = .ok (.iload_n 3, 1) := by decide +kernel
theorem d55_5 : decode (am_code 55) 5 = .ok (.aload_n 1, 1) := by decide +kernel
theorem d55_6 : decode (am_code 55) 6 = .ok (.getfield 66, 3) := by decide +kernel
theorem d55_9 : decode (am_code 55) 9 = .ok (.getfield 70, 3) := by decide +kernel
theorem d55_12 : decode (am_code 55) 12 = .ok (.if_icmp .ge 68, 3) := by decide +kernel
theorem d55_15 : decode (am_code 55) 15 = .ok (.aload_n 1, 1) := by decide +kernel
theorem d55_16 : decode (am_code 55) 16 = .ok (.getfield 66, 3) := by decide +kernel
theorem d55_19 : decode (am_code 55) 19 = .ok (.getfield 75, 3) := by decide +kernel
theorem d55_22 : decode (am_code 55) 22 = .ok (.iload_n 3, 1) := by decide +kernel
theorem d55_23 : decode (am_code 55) 23 = .ok (.iaload, 1) := by decide +kernel
theorem d55_24 : decode (am_code 55) 24 = .ok (.istore 4, 2) := by decide +kernel
theorem d55_26 : decode (am_code 55) 26 = .ok (.iconst 0, 1) := by decide +kernel
theorem d55_27 : decode (am_code 55) 27 = .ok (.istore 5, 2) := by decide +kernel
theorem d55_29 : decode (am_code 55) 29 = .ok (.iload 5, 2) := by decide +kernel
theorem d55_31 : decode (am_code 55) 31 = .ok (.bipush 7, 2) := by decide +kernel
theorem d55_33 : decode (am_code 55) 33 = .ok (.if_icmp .ge 41, 3) := by decide +kernel
theorem d55_36 : decode (am_code 55) 36 = .ok (.iload 5, 2) := by decide +kernel
theorem d55_38 : decode (am_code 55) 38 = .ok (.iload 4, 2) := by decide +kernel
theorem d55_40 : decode (am_code 55) 40 = .ok (.bipush 6, 2) := by decide +kernel
theorem d55_42 : decode (am_code 55) 42 = .ok (.irem, 1) := by decide +kernel
theorem d55_43 : decode (am_code 55) 43 = .ok (.invokestatic 78, 3) := by decide +kernel
theorem d55_46 : decode (am_code 55) 46 = .ok (.ifCond .eq 22, 3) := by decide +kernel
theorem d55_49 : decode (am_code 55) 49 = .ok (.iload_n 2, 1) := by decide +kernel
theorem d55_50 : decode (am_code 55) 50 = .ok (.aload_n 0, 1) := by decide +kernel
theorem d55_51 : decode (am_code 55) 51 = .ok (.getfield 9, 3) := by decide +kernel
theorem d55_54 : decode (am_code 55) 54 = .ok (.bipush 7, 2) := by decide +kernel
theorem d55_56 : decode (am_code 55) 56 = .ok (.iload 4, 2) := by decide +kernel
theorem d55_58 : decode (am_code 55) 58 = .ok (.bipush 6, 2) := by decide +kernel
theorem d55_60 : decode (am_code 55) 60 = .ok (.idiv, 1) := by decide +kernel
theorem d55_61 : decode (am_code 55) 61 = .ok (.imul, 1) := by decide +kernel
theorem d55_62 : decode (am_code 55) 62 = .ok (.iload 5, 2) := by decide +kernel
theorem d55_64 : decode (am_code 55) 64 = .ok (.iadd, 1) := by decide +kernel
theorem d55_65 : decode (am_code 55) 65 = .ok (.iaload, 1) := by decide +kernel
theorem d55_66 : decode (am_code 55) 66 = .ok (.iadd, 1) := by decide +kernel
theorem d55_67 : decode (am_code 55) 67 = .ok (.istore_n 2, 1) := by decide +kernel
theorem d55_68 : decode (am_code 55) 68 = .ok (.iinc 5 1, 3) := by decide +kernel
theorem d55_71 : decode (am_code 55) 71 = .ok (.goto (-42), 3) := by decide +kernel
theorem d55_74 : decode (am_code 55) 74 = .ok (.iinc 3 1, 3) := by decide +kernel
theorem d55_77 : decode (am_code 55) 77 = .ok (.goto (-73), 3) := by decide +kernel
theorem d55_80 : decode (am_code 55) 80 = .ok (.iload_n 2, 1) := by decide +kernel
theorem d55_81 : decode (am_code 55) 81 = .ok (.ireturn, 1) := by decide +kernel
theorem f55_66 : am_find am_ftL (am_mc 55) 66 = some (5, 5) := by decide +kernel
theorem f55_70 : am_find am_ftL (am_mc 55) 70 = some (0, 6) := by decide +kernel
theorem f55_75 : am_find am_ftL (am_mc 55) 75 = some (0, 4) := by decide +kernel
theorem f55_9 : am_find am_ftL (am_mc 55) 9 = some (4, 0) := by decide +kernel
theorem c55_78 : am_find am_ctL (am_mc 55) 78 = some (3, 107) ∧ am_na 107 = 2 ∧ am_fr 107 + 1 ≤ am_fr 55 ∧ 8 + (am_maxL 107 + 11) + am_lo 107 ≤ am_lo 55 := by decide +kernel
theorem l55 : am_maxL 55 = 6 := by decide +kernel
theorem t55 : am_ret 55 = (some .int) := by decide +kernel
/-! ThirdSheets$Sheet.arcs(LThirdSheets$Space;)I is 56 -/
theorem d56_0 : decode (am_code 56) 0 = .ok (.iconst 0, 1) := by decide +kernel
theorem d56_1 : decode (am_code 56) 1 = .ok (.istore_n 2, 1) := by decide +kernel
theorem d56_2 : decode (am_code 56) 2 = .ok (.iconst 0, 1) := by decide +kernel
theorem d56_3 : decode (am_code 56) 3 = .ok (.istore_n 3, 1) := by decide +kernel
theorem d56_4 : decode (am_code 56) 4 = .ok (.iload_n 3, 1) := by decide +kernel
theorem d56_5 : decode (am_code 56) 5 = .ok (.iconst 4, 1) := by decide +kernel
theorem d56_6 : decode (am_code 56) 6 = .ok (.aload_n 1, 1) := by decide +kernel
theorem d56_7 : decode (am_code 56) 7 = .ok (.getfield 31, 3) := by decide +kernel
theorem d56_10 : decode (am_code 56) 10 = .ok (.imul, 1) := by decide +kernel
theorem d56_11 : decode (am_code 56) 11 = .ok (.if_icmp .ge 73, 3) := by decide +kernel
theorem d56_14 : decode (am_code 56) 14 = .ok (.aload_n 1, 1) := by decide +kernel
theorem d56_15 : decode (am_code 56) 15 = .ok (.iload_n 3, 1) := by decide +kernel
theorem d56_16 : decode (am_code 56) 16 = .ok (.invokevirtual 82, 3) := by decide +kernel
theorem d56_19 : decode (am_code 56) 19 = .ok (.ifCond .eq 11, 3) := by decide +kernel
theorem d56_22 : decode (am_code 56) 22 = .ok (.aload_n 1, 1) := by decide +kernel
theorem d56_23 : decode (am_code 56) 23 = .ok (.iload_n 3, 1) := by decide +kernel
theorem d56_24 : decode (am_code 56) 24 = .ok (.invokevirtual 37, 3) := by decide +kernel
theorem d56_27 : decode (am_code 56) 27 = .ok (.ifCond .eq 7, 3) := by decide +kernel
theorem d56_30 : decode (am_code 56) 30 = .ok (.iconst 1, 1) := by decide +kernel
theorem d56_31 : decode (am_code 56) 31 = .ok (.goto 4, 3) := by decide +kernel
theorem d56_34 : decode (am_code 56) 34 = .ok (.iconst 0, 1) := by decide +kernel
theorem d56_35 : decode (am_code 56) 35 = .ok (.istore 4, 2) := by decide +kernel
theorem d56_37 : decode (am_code 56) 37 = .ok (.iconst 0, 1) := by decide +kernel
theorem d56_38 : decode (am_code 56) 38 = .ok (.istore 5, 2) := by decide +kernel
theorem d56_40 : decode (am_code 56) 40 = .ok (.iload 5, 2) := by decide +kernel
theorem d56_42 : decode (am_code 56) 42 = .ok (.iconst 4, 1) := by decide +kernel
theorem d56_43 : decode (am_code 56) 43 = .ok (.if_icmp .ge 35, 3) := by decide +kernel
theorem d56_46 : decode (am_code 56) 46 = .ok (.iload 4, 2) := by decide +kernel
theorem d56_48 : decode (am_code 56) 48 = .ok (.ifCond .eq 30, 3) := by decide +kernel
theorem d56_51 : decode (am_code 56) 51 = .ok (.iload 5, 2) := by decide +kernel
theorem d56_53 : decode (am_code 56) 53 = .ok (.iload_n 3, 1) := by decide +kernel
theorem d56_54 : decode (am_code 56) 54 = .ok (.iconst 4, 1) := by decide +kernel
theorem d56_55 : decode (am_code 56) 55 = .ok (.irem, 1) := by decide +kernel
theorem d56_56 : decode (am_code 56) 56 = .ok (.if_icmp .eq 16, 3) := by decide +kernel
theorem d56_59 : decode (am_code 56) 59 = .ok (.iload_n 2, 1) := by decide +kernel
theorem d56_60 : decode (am_code 56) 60 = .ok (.aload_n 0, 1) := by decide +kernel
theorem d56_61 : decode (am_code 56) 61 = .ok (.getfield 9, 3) := by decide +kernel
theorem d56_64 : decode (am_code 56) 64 = .ok (.iload_n 3, 1) := by decide +kernel
theorem d56_65 : decode (am_code 56) 65 = .ok (.iload 5, 2) := by decide +kernel
theorem d56_67 : decode (am_code 56) 67 = .ok (.invokestatic 51, 3) := by decide +kernel
theorem d56_70 : decode (am_code 56) 70 = .ok (.iadd, 1) := by decide +kernel
theorem d56_71 : decode (am_code 56) 71 = .ok (.istore_n 2, 1) := by decide +kernel
theorem d56_72 : decode (am_code 56) 72 = .ok (.iinc 5 1, 3) := by decide +kernel
theorem d56_75 : decode (am_code 56) 75 = .ok (.goto (-35), 3) := by decide +kernel
theorem d56_78 : decode (am_code 56) 78 = .ok (.iinc 3 1, 3) := by decide +kernel
theorem d56_81 : decode (am_code 56) 81 = .ok (.goto (-77), 3) := by decide +kernel
theorem d56_84 : decode (am_code 56) 84 = .ok (.iload_n 2, 1) := by decide +kernel
theorem d56_85 : decode (am_code 56) 85 = .ok (.ireturn, 1) := by decide +kernel
theorem f56_31 : am_find am_ftL (am_mc 56) 31 = some (5, 0) := by decide +kernel
theorem f56_9 : am_find am_ftL (am_mc 56) 9 = some (4, 0) := by decide +kernel
theorem c56_82 : am_find am_ctL (am_mc 56) 82 = some (0, 60) ∧ am_na 60 = 1 ∧ am_fr 60 + 1 ≤ am_fr 56 ∧ 8 + (am_maxL 60 + 11) + am_lo 60 ≤ am_lo 56 := by decide +kernel
theorem c56_37 : am_find am_ctL (am_mc 56) 37 = some (0, 64) ∧ am_na 64 = 1 ∧ am_fr 64 + 1 ≤ am_fr 56 ∧ 8 + (am_maxL 64 + 11) + am_lo 64 ≤ am_lo 56 := by decide +kernel
theorem c56_51 : am_find am_ctL (am_mc 56) 51 = some (3, 106) ∧ am_na 106 = 3 ∧ am_fr 106 + 1 ≤ am_fr 56 ∧ 8 + (am_maxL 106 + 11) + am_lo 106 ≤ am_lo 56 := by decide +kernel
theorem l56 : am_maxL 56 = 6 := by decide +kernel
theorem t56 : am_ret 56 = (some .int) := by decide +kernel
/-! ThirdSheets$Space.<init>()V is 57 -/
theorem d57_0 : decode (am_code 57) 0 = .ok (.aload_n 0, 1) := by decide +kernel
theorem d57_1 : decode (am_code 57) 1 = .ok (.invokespecial 3, 3) := by decide +kernel
theorem d57_4 : decode (am_code 57) 4 = .ok (.aload_n 0, 1) := by decide +kernel
theorem d57_5 : decode (am_code 57) 5 = .ok (.bipush 12, 2) := by decide +kernel
theorem d57_7 : decode (am_code 57) 7 = .ok (.newarray .int, 2) := by decide +kernel
theorem d57_9 : decode (am_code 57) 9 = .ok (.putfield 9, 3) := by decide +kernel
theorem d57_12 : decode (am_code 57) 12 = .ok (.aload_n 0, 1) := by decide +kernel
theorem d57_13 : decode (am_code 57) 13 = .ok (.bipush 48, 2) := by decide +kernel
theorem d57_15 : decode (am_code 57) 15 = .ok (.newarray .int, 2) := by decide +kernel
theorem d57_17 : decode (am_code 57) 17 = .ok (.putfield 15, 3) := by decide +kernel
theorem d57_20 : decode (am_code 57) 20 = .ok (.aload_n 0, 1) := by decide +kernel
theorem d57_21 : decode (am_code 57) 21 = .ok (.new 18, 3) := by decide +kernel
theorem d57_24 : decode (am_code 57) 24 = .ok (.dup, 1) := by decide +kernel
theorem d57_25 : decode (am_code 57) 25 = .ok (.bipush 12, 2) := by decide +kernel
theorem d57_27 : decode (am_code 57) 27 = .ok (.invokespecial 20, 3) := by decide +kernel
theorem d57_30 : decode (am_code 57) 30 = .ok (.putfield 23, 3) := by decide +kernel
theorem d57_33 : decode (am_code 57) 33 = .ok (.aload_n 0, 1) := by decide +kernel
theorem d57_34 : decode (am_code 57) 34 = .ok (.new 18, 3) := by decide +kernel
theorem d57_37 : decode (am_code 57) 37 = .ok (.dup, 1) := by decide +kernel
theorem d57_38 : decode (am_code 57) 38 = .ok (.bipush 18, 2) := by decide +kernel
theorem d57_40 : decode (am_code 57) 40 = .ok (.invokespecial 20, 3) := by decide +kernel
theorem d57_43 : decode (am_code 57) 43 = .ok (.putfield 27, 3) := by decide +kernel
theorem d57_46 : decode (am_code 57) 46 = .ok (.aload_n 0, 1) := by decide +kernel
theorem d57_47 : decode (am_code 57) 47 = .ok (.new 18, 3) := by decide +kernel
theorem d57_50 : decode (am_code 57) 50 = .ok (.dup, 1) := by decide +kernel
theorem d57_51 : decode (am_code 57) 51 = .ok (.iconst 3, 1) := by decide +kernel
theorem d57_52 : decode (am_code 57) 52 = .ok (.invokespecial 20, 3) := by decide +kernel
theorem d57_55 : decode (am_code 57) 55 = .ok (.putfield 30, 3) := by decide +kernel
theorem d57_58 : decode (am_code 57) 58 = .ok (.aload_n 0, 1) := by decide +kernel
theorem d57_59 : decode (am_code 57) 59 = .ok (.getfield 9, 3) := by decide +kernel
theorem d57_62 : decode (am_code 57) 62 = .ok (.iconst (-1), 1) := by decide +kernel
theorem d57_63 : decode (am_code 57) 63 = .ok (.invokestatic 33, 3) := by decide +kernel
theorem d57_66 : decode (am_code 57) 66 = .ok (.return_, 1) := by decide +kernel
theorem f57_9 : am_find am_ftL (am_mc 57) 9 = some (5, 2) := by decide +kernel
theorem f57_15 : am_find am_ftL (am_mc 57) 15 = some (5, 3) := by decide +kernel
theorem f57_23 : am_find am_ftL (am_mc 57) 23 = some (5, 4) := by decide +kernel
theorem f57_27 : am_find am_ftL (am_mc 57) 27 = some (5, 5) := by decide +kernel
theorem f57_30 : am_find am_ftL (am_mc 57) 30 = some (5, 6) := by decide +kernel
theorem c57_3 : am_find am_ctL (am_mc 57) 3 = some (4, 0) := by decide +kernel
theorem c57_20 : am_find am_ctL (am_mc 57) 20 = some (2, 0) ∧ am_na 0 = 1 ∧ am_fr 0 + 1 ≤ am_fr 57 ∧ 8 + (am_maxL 0 + 11) + am_lo 0 ≤ am_lo 57 := by decide +kernel
theorem c57_33 : am_find am_ctL (am_mc 57) 33 = some (1, 180) ∧ am_na 180 = 2 ∧ am_fr 180 + 1 ≤ am_fr 57 ∧ 8 + (am_maxL 180 + 11) + am_lo 180 ≤ am_lo 57 := by decide +kernel
theorem l57 : am_maxL 57 = 1 := by decide +kernel
theorem t57 : am_ret 57 = none := by decide +kernel
/-! ThirdSheets$Space.grow()V is 58 -/
theorem d58_0 : decode (am_code 58) 0 = .ok (.aload_n 0, 1) := by decide +kernel
theorem d58_1 : decode (am_code 58) 1 = .ok (.getfield 39, 3) := by decide +kernel
theorem d58_4 : decode (am_code 58) 4 = .ok (.iconst 3, 1) := by decide +kernel
theorem d58_5 : decode (am_code 58) 5 = .ok (.if_icmp .ge 13, 3) := by decide +kernel
theorem d58_8 : decode (am_code 58) 8 = .ok (.aload_n 0, 1) := by decide +kernel
theorem d58_9 : decode (am_code 58) 9 = .ok (.dup, 1) := by decide +kernel
theorem d58_10 : decode (am_code 58) 10 = .ok (.getfield 39, 3) := by decide +kernel
theorem d58_13 : decode (am_code 58) 13 = .ok (.iconst 1, 1) := by decide +kernel
theorem d58_14 : decode (am_code 58) 14 = .ok (.iadd, 1) := by decide +kernel
theorem d58_15 : decode (am_code 58) 15 = .ok (.putfield 39, 3) := by decide +kernel
theorem d58_18 : decode (am_code 58) 18 = .ok (.return_, 1) := by decide +kernel
theorem f58_39 : am_find am_ftL (am_mc 58) 39 = some (5, 0) := by decide +kernel
theorem l58 : am_maxL 58 = 1 := by decide +kernel
theorem t58 : am_ret 58 = none := by decide +kernel
/-! ThirdSheets$Space.empty()V is 59 -/
theorem d59_0 : decode (am_code 59) 0 = .ok (.aload_n 0, 1) := by decide +kernel
theorem d59_1 : decode (am_code 59) 1 = .ok (.iconst 0, 1) := by decide +kernel
theorem d59_2 : decode (am_code 59) 2 = .ok (.putfield 39, 3) := by decide +kernel
theorem d59_5 : decode (am_code 59) 5 = .ok (.aload_n 0, 1) := by decide +kernel
theorem d59_6 : decode (am_code 59) 6 = .ok (.iconst 0, 1) := by decide +kernel
theorem d59_7 : decode (am_code 59) 7 = .ok (.putfield 43, 3) := by decide +kernel
theorem d59_10 : decode (am_code 59) 10 = .ok (.aload_n 0, 1) := by decide +kernel
theorem d59_11 : decode (am_code 59) 11 = .ok (.getfield 9, 3) := by decide +kernel
theorem d59_14 : decode (am_code 59) 14 = .ok (.iconst (-1), 1) := by decide +kernel
theorem d59_15 : decode (am_code 59) 15 = .ok (.invokestatic 33, 3) := by decide +kernel
theorem d59_18 : decode (am_code 59) 18 = .ok (.return_, 1) := by decide +kernel
theorem f59_39 : am_find am_ftL (am_mc 59) 39 = some (5, 0) := by decide +kernel
theorem f59_43 : am_find am_ftL (am_mc 59) 43 = some (5, 1) := by decide +kernel
theorem f59_9 : am_find am_ftL (am_mc 59) 9 = some (5, 2) := by decide +kernel
theorem c59_33 : am_find am_ctL (am_mc 59) 33 = some (1, 180) ∧ am_na 180 = 2 ∧ am_fr 180 + 1 ≤ am_fr 59 ∧ 8 + (am_maxL 180 + 11) + am_lo 180 ≤ am_lo 59 := by decide +kernel
theorem l59 : am_maxL 59 = 1 := by decide +kernel
theorem t59 : am_ret 59 = none := by decide +kernel
/-! ThirdSheets$Space.isGlued(I)Z is 60 -/
theorem d60_0 : decode (am_code 60) 0 = .ok (.aload_n 0, 1) := by decide +kernel
theorem d60_1 : decode (am_code 60) 1 = .ok (.getfield 9, 3) := by decide +kernel
theorem d60_4 : decode (am_code 60) 4 = .ok (.iload_n 1, 1) := by decide +kernel
theorem d60_5 : decode (am_code 60) 5 = .ok (.iaload, 1) := by decide +kernel
theorem d60_6 : decode (am_code 60) 6 = .ok (.iconst (-1), 1) := by decide +kernel
theorem d60_7 : decode (am_code 60) 7 = .ok (.if_icmp .eq 7, 3) := by decide +kernel
theorem d60_10 : decode (am_code 60) 10 = .ok (.iconst 1, 1) := by decide +kernel
theorem d60_11 : decode (am_code 60) 11 = .ok (.goto 4, 3) := by decide +kernel
theorem d60_14 : decode (am_code 60) 14 = .ok (.iconst 0, 1) := by decide +kernel
theorem d60_15 : decode (am_code 60) 15 = .ok (.ireturn, 1) := by decide +kernel
theorem f60_9 : am_find am_ftL (am_mc 60) 9 = some (5, 2) := by decide +kernel
theorem l60 : am_maxL 60 = 2 := by decide +kernel
theorem t60 : am_ret 60 = (some .boolean) := by decide +kernel
/-! ThirdSheets$Space.fasten(III)V is 61 -/
theorem d61_0 : decode (am_code 61) 0 = .ok (.aload_n 0, 1) := by decide +kernel
theorem d61_1 : decode (am_code 61) 1 = .ok (.getfield 9, 3) := by decide +kernel
theorem d61_4 : decode (am_code 61) 4 = .ok (.iload_n 1, 1) := by decide +kernel
theorem d61_5 : decode (am_code 61) 5 = .ok (.iload_n 2, 1) := by decide +kernel
theorem d61_6 : decode (am_code 61) 6 = .ok (.iastore, 1) := by decide +kernel
theorem d61_7 : decode (am_code 61) 7 = .ok (.aload_n 0, 1) := by decide +kernel
theorem d61_8 : decode (am_code 61) 8 = .ok (.getfield 9, 3) := by decide +kernel
theorem d61_11 : decode (am_code 61) 11 = .ok (.iload_n 2, 1) := by decide +kernel
theorem d61_12 : decode (am_code 61) 12 = .ok (.iload_n 1, 1) := by decide +kernel
theorem d61_13 : decode (am_code 61) 13 = .ok (.iastore, 1) := by decide +kernel
theorem d61_14 : decode (am_code 61) 14 = .ok (.aload_n 0, 1) := by decide +kernel
theorem d61_15 : decode (am_code 61) 15 = .ok (.dup, 1) := by decide +kernel
theorem d61_16 : decode (am_code 61) 16 = .ok (.getfield 43, 3) := by decide +kernel
theorem d61_19 : decode (am_code 61) 19 = .ok (.iconst 1, 1) := by decide +kernel
theorem d61_20 : decode (am_code 61) 20 = .ok (.iadd, 1) := by decide +kernel
theorem d61_21 : decode (am_code 61) 21 = .ok (.putfield 43, 3) := by decide +kernel
theorem d61_24 : decode (am_code 61) 24 = .ok (.aload_n 0, 1) := by decide +kernel
theorem d61_25 : decode (am_code 61) 25 = .ok (.iload_n 1, 1) := by decide +kernel
theorem d61_26 : decode (am_code 61) 26 = .ok (.iload_n 1, 1) := by decide +kernel
theorem d61_27 : decode (am_code 61) 27 = .ok (.iconst 4, 1) := by decide +kernel
theorem d61_28 : decode (am_code 61) 28 = .ok (.irem, 1) := by decide +kernel
theorem d61_29 : decode (am_code 61) 29 = .ok (.iload_n 2, 1) := by decide +kernel
theorem d61_30 : decode (am_code 61) 30 = .ok (.iload_n 2, 1) := by decide +kernel
theorem d61_31 : decode (am_code 61) 31 = .ok (.iconst 4, 1) := by decide +kernel
theorem d61_32 : decode (am_code 61) 32 = .ok (.irem, 1) := by decide +kernel
theorem d61_33 : decode (am_code 61) 33 = .ok (.invokevirtual 46, 3) := by decide +kernel
theorem d61_36 : decode (am_code 61) 36 = .ok (.iload_n 3, 1) := by decide +kernel
theorem d61_37 : decode (am_code 61) 37 = .ok (.istore 4, 2) := by decide +kernel
theorem d61_39 : decode (am_code 61) 39 = .ok (.iconst 0, 1) := by decide +kernel
theorem d61_40 : decode (am_code 61) 40 = .ok (.istore 5, 2) := by decide +kernel
theorem d61_42 : decode (am_code 61) 42 = .ok (.iload 5, 2) := by decide +kernel
theorem d61_44 : decode (am_code 61) 44 = .ok (.iconst 4, 1) := by decide +kernel
theorem d61_45 : decode (am_code 61) 45 = .ok (.if_icmp .ge 35, 3) := by decide +kernel
theorem d61_48 : decode (am_code 61) 48 = .ok (.iload 5, 2) := by decide +kernel
theorem d61_50 : decode (am_code 61) 50 = .ok (.iload_n 1, 1) := by decide +kernel
theorem d61_51 : decode (am_code 61) 51 = .ok (.iconst 4, 1) := by decide +kernel
theorem d61_52 : decode (am_code 61) 52 = .ok (.irem, 1) := by decide +kernel
theorem d61_53 : decode (am_code 61) 53 = .ok (.if_icmp .eq 21, 3) := by decide +kernel
theorem d61_56 : decode (am_code 61) 56 = .ok (.aload_n 0, 1) := by decide +kernel
theorem d61_57 : decode (am_code 61) 57 = .ok (.iload_n 1, 1) := by decide +kernel
theorem d61_58 : decode (am_code 61) 58 = .ok (.iload 5, 2) := by decide +kernel
theorem d61_60 : decode (am_code 61) 60 = .ok (.iload_n 2, 1) := by decide +kernel
theorem d61_61 : decode (am_code 61) 61 = .ok (.iload 4, 2) := by decide +kernel
theorem d61_63 : decode (am_code 61) 63 = .ok (.iconst 3, 1) := by decide +kernel
theorem d61_64 : decode (am_code 61) 64 = .ok (.iand, 1) := by decide +kernel
theorem d61_65 : decode (am_code 61) 65 = .ok (.invokevirtual 46, 3) := by decide +kernel
theorem d61_68 : decode (am_code 61) 68 = .ok (.iload 4, 2) := by decide +kernel
theorem d61_70 : decode (am_code 61) 70 = .ok (.iconst 2, 1) := by decide +kernel
theorem d61_71 : decode (am_code 61) 71 = .ok (.ishr, 1) := by decide +kernel
theorem d61_72 : decode (am_code 61) 72 = .ok (.istore 4, 2) := by decide +kernel
theorem d61_74 : decode (am_code 61) 74 = .ok (.iinc 5 1, 3) := by decide +kernel
theorem d61_77 : decode (am_code 61) 77 = .ok (.goto (-35), 3) := by decide +kernel
theorem d61_80 : decode (am_code 61) 80 = .ok (.return_, 1) := by decide +kernel
theorem f61_9 : am_find am_ftL (am_mc 61) 9 = some (5, 2) := by decide +kernel
theorem f61_43 : am_find am_ftL (am_mc 61) 43 = some (5, 1) := by decide +kernel
theorem c61_46 : am_find am_ctL (am_mc 61) 46 = some (0, 62) ∧ am_na 62 = 4 ∧ am_fr 62 + 1 ≤ am_fr 61 ∧ 8 + (am_maxL 62 + 11) + am_lo 62 ≤ am_lo 61 := by decide +kernel
theorem l61 : am_maxL 61 = 6 := by decide +kernel
theorem t61 : am_ret 61 = none := by decide +kernel
/-! ThirdSheets$Space.tell(IIII)V is 62 -/
theorem d62_0 : decode (am_code 62) 0 = .ok (.aload_n 0, 1) := by decide +kernel
theorem d62_1 : decode (am_code 62) 1 = .ok (.getfield 15, 3) := by decide +kernel
theorem d62_4 : decode (am_code 62) 4 = .ok (.iconst 4, 1) := by decide +kernel
theorem d62_5 : decode (am_code 62) 5 = .ok (.iload_n 1, 1) := by decide +kernel
theorem d62_6 : decode (am_code 62) 6 = .ok (.imul, 1) := by decide +kernel
theorem d62_7 : decode (am_code 62) 7 = .ok (.iload_n 2, 1) := by decide +kernel
theorem d62_8 : decode (am_code 62) 8 = .ok (.iadd, 1) := by decide +kernel
theorem d62_9 : decode (am_code 62) 9 = .ok (.iload 4, 2) := by decide +kernel
theorem d62_11 : decode (am_code 62) 11 = .ok (.iastore, 1) := by decide +kernel
theorem d62_12 : decode (am_code 62) 12 = .ok (.aload_n 0, 1) := by decide +kernel
theorem d62_13 : decode (am_code 62) 13 = .ok (.getfield 15, 3) := by decide +kernel
theorem d62_16 : decode (am_code 62) 16 = .ok (.iconst 4, 1) := by decide +kernel
theorem d62_17 : decode (am_code 62) 17 = .ok (.iload_n 3, 1) := by decide +kernel
theorem d62_18 : decode (am_code 62) 18 = .ok (.imul, 1) := by decide +kernel
theorem d62_19 : decode (am_code 62) 19 = .ok (.iload 4, 2) := by decide +kernel
theorem d62_21 : decode (am_code 62) 21 = .ok (.iadd, 1) := by decide +kernel
theorem d62_22 : decode (am_code 62) 22 = .ok (.iload_n 2, 1) := by decide +kernel
theorem d62_23 : decode (am_code 62) 23 = .ok (.iastore, 1) := by decide +kernel
theorem d62_24 : decode (am_code 62) 24 = .ok (.return_, 1) := by decide +kernel
theorem f62_15 : am_find am_ftL (am_mc 62) 15 = some (5, 3) := by decide +kernel
theorem l62 : am_maxL 62 = 5 := by decide +kernel
theorem t62 : am_ret 62 = none := by decide +kernel
/-! ThirdSheets$Space.loosen(I)V is 63 -/
theorem d63_0 : decode (am_code 63) 0 = .ok (.aload_n 0, 1) := by decide +kernel
theorem d63_1 : decode (am_code 63) 1 = .ok (.getfield 9, 3) := by decide +kernel
theorem d63_4 : decode (am_code 63) 4 = .ok (.iload_n 1, 1) := by decide +kernel
theorem d63_5 : decode (am_code 63) 5 = .ok (.iaload, 1) := by decide +kernel
theorem d63_6 : decode (am_code 63) 6 = .ok (.istore_n 2, 1) := by decide +kernel
theorem d63_7 : decode (am_code 63) 7 = .ok (.iload_n 2, 1) := by decide +kernel
theorem d63_8 : decode (am_code 63) 8 = .ok (.iconst (-1), 1) := by decide +kernel
theorem d63_9 : decode (am_code 63) 9 = .ok (.if_icmp .eq 27, 3) := by decide +kernel
theorem d63_12 : decode (am_code 63) 12 = .ok (.aload_n 0, 1) := by decide +kernel
theorem d63_13 : decode (am_code 63) 13 = .ok (.getfield 9, 3) := by decide +kernel
theorem d63_16 : decode (am_code 63) 16 = .ok (.iload_n 1, 1) := by decide +kernel
theorem d63_17 : decode (am_code 63) 17 = .ok (.iconst (-1), 1) := by decide +kernel
theorem d63_18 : decode (am_code 63) 18 = .ok (.iastore, 1) := by decide +kernel
theorem d63_19 : decode (am_code 63) 19 = .ok (.aload_n 0, 1) := by decide +kernel
theorem d63_20 : decode (am_code 63) 20 = .ok (.getfield 9, 3) := by decide +kernel
theorem d63_23 : decode (am_code 63) 23 = .ok (.iload_n 2, 1) := by decide +kernel
theorem d63_24 : decode (am_code 63) 24 = .ok (.iconst (-1), 1) := by decide +kernel
theorem d63_25 : decode (am_code 63) 25 = .ok (.iastore, 1) := by decide +kernel
theorem d63_26 : decode (am_code 63) 26 = .ok (.aload_n 0, 1) := by decide +kernel
theorem d63_27 : decode (am_code 63) 27 = .ok (.dup, 1) := by decide +kernel
theorem d63_28 : decode (am_code 63) 28 = .ok (.getfield 43, 3) := by decide +kernel
theorem d63_31 : decode (am_code 63) 31 = .ok (.iconst 1, 1) := by decide +kernel
theorem d63_32 : decode (am_code 63) 32 = .ok (.isub, 1) := by decide +kernel
theorem d63_33 : decode (am_code 63) 33 = .ok (.putfield 43, 3) := by decide +kernel
theorem d63_36 : decode (am_code 63) 36 = .ok (.return_, 1) := by decide +kernel
theorem f63_9 : am_find am_ftL (am_mc 63) 9 = some (5, 2) := by decide +kernel
theorem f63_43 : am_find am_ftL (am_mc 63) 43 = some (5, 1) := by decide +kernel
theorem l63 : am_maxL 63 = 3 := by decide +kernel
theorem t63 : am_ret 63 = none := by decide +kernel
