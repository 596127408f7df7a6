/-! ThirdSheets$Space.isLesser(I)Z is 64 -/
theorem d64_0 : decode (am_code 64) 0 = .ok (.aload_n 0, 1) := by decide +kernel
theorem d64_1 : decode (am_code 64) 1 = .ok (.getfield 9, 3) := by decide +kernel
theorem d64_4 : decode (am_code 64) 4 = .ok (.iload_n 1, 1) := by decide +kernel
theorem d64_5 : decode (am_code 64) 5 = .ok (.iaload, 1) := by decide +kernel
theorem d64_6 : decode (am_code 64) 6 = .ok (.iload_n 1, 1) := by decide +kernel
theorem d64_7 : decode (am_code 64) 7 = .ok (.if_icmp .le 7, 3) := by decide +kernel
theorem d64_10 : decode (am_code 64) 10 = .ok (.iconst 1, 1) := by decide +kernel
theorem d64_11 : decode (am_code 64) 11 = .ok (.goto 4, 3) := by decide +kernel
theorem d64_14 : decode (am_code 64) 14 = .ok (.iconst 0, 1) := by decide +kernel
theorem d64_15 : decode (am_code 64) 15 = .ok (.ireturn, 1) := by decide +kernel
theorem f64_9 : am_find am_ftL (am_mc 64) 9 = some (5, 2) := by decide +kernel
theorem l64 : am_maxL 64 = 2 := by decide +kernel
theorem t64 : am_ret 64 = (some .boolean) := by decide +kernel
/-! ThirdSheets$Space.sortOut()V is 65 -/
theorem d65_0 : decode (am_code 65) 0 = .ok (.aload_n 0, 1) := by decide +kernel
theorem d65_1 : decode (am_code 65) 1 = .ok (.getfield 23, 3) := by decide +kernel
theorem d65_4 : decode (am_code 65) 4 = .ok (.iconst 4, 1) := by decide +kernel
theorem d65_5 : decode (am_code 65) 5 = .ok (.aload_n 0, 1) := by decide +kernel
theorem d65_6 : decode (am_code 65) 6 = .ok (.getfield 39, 3) := by decide +kernel
theorem d65_9 : decode (am_code 65) 9 = .ok (.imul, 1) := by decide +kernel
theorem d65_10 : decode (am_code 65) 10 = .ok (.invokevirtual 50, 3) := by decide +kernel
theorem d65_13 : decode (am_code 65) 13 = .ok (.aload_n 0, 1) := by decide +kernel
theorem d65_14 : decode (am_code 65) 14 = .ok (.getfield 27, 3) := by decide +kernel
theorem d65_17 : decode (am_code 65) 17 = .ok (.bipush 6, 2) := by decide +kernel
theorem d65_19 : decode (am_code 65) 19 = .ok (.aload_n 0, 1) := by decide +kernel
theorem d65_20 : decode (am_code 65) 20 = .ok (.getfield 39, 3) := by decide +kernel
theorem d65_23 : decode (am_code 65) 23 = .ok (.imul, 1) := by decide +kernel
theorem d65_24 : decode (am_code 65) 24 = .ok (.invokevirtual 50, 3) := by decide +kernel
theorem d65_27 : decode (am_code 65) 27 = .ok (.aload_n 0, 1) := by decide +kernel
theorem d65_28 : decode (am_code 65) 28 = .ok (.getfield 30, 3) := by decide +kernel
theorem d65_31 : decode (am_code 65) 31 = .ok (.aload_n 0, 1) := by decide +kernel
theorem d65_32 : decode (am_code 65) 32 = .ok (.getfield 39, 3) := by decide +kernel
theorem d65_35 : decode (am_code 65) 35 = .ok (.invokevirtual 50, 3) := by decide +kernel
theorem d65_38 : decode (am_code 65) 38 = .ok (.iconst 0, 1) := by decide +kernel
theorem d65_39 : decode (am_code 65) 39 = .ok (.istore_n 1, 1) := by decide +kernel
theorem d65_40 : decode (am_code 65) 40 = .ok (.iload_n 1, 1) := by decide +kernel
theorem d65_41 : decode (am_code 65) 41 = .ok (.iconst 4, 1) := by decide +kernel
theorem d65_42 : decode (am_code 65) 42 = .ok (.aload_n 0, 1) := by decide +kernel
theorem d65_43 : decode (am_code 65) 43 = .ok (.getfield 39, 3) := by decide +kernel
theorem d65_46 : decode (am_code 65) 46 = .ok (.imul, 1) := by decide +kernel
theorem d65_47 : decode (am_code 65) 47 = .ok (.if_icmp .ge 50, 3) := by decide +kernel
theorem d65_50 : decode (am_code 65) 50 = .ok (.aload_n 0, 1) := by decide +kernel
theorem d65_51 : decode (am_code 65) 51 = .ok (.iload_n 1, 1) := by decide +kernel
theorem d65_52 : decode (am_code 65) 52 = .ok (.invokevirtual 53, 3) := by decide +kernel
theorem d65_55 : decode (am_code 65) 55 = .ok (.ifCond .eq 36, 3) := by decide +kernel
theorem d65_58 : decode (am_code 65) 58 = .ok (.aload_n 0, 1) := by decide +kernel
theorem d65_59 : decode (am_code 65) 59 = .ok (.iload_n 1, 1) := by decide +kernel
theorem d65_60 : decode (am_code 65) 60 = .ok (.invokevirtual 57, 3) := by decide +kernel
theorem d65_63 : decode (am_code 65) 63 = .ok (.aload_n 0, 1) := by decide +kernel
theorem d65_64 : decode (am_code 65) 64 = .ok (.iload_n 1, 1) := by decide +kernel
theorem d65_65 : decode (am_code 65) 65 = .ok (.invokevirtual 60, 3) := by decide +kernel
theorem d65_68 : decode (am_code 65) 68 = .ok (.aload_n 0, 1) := by decide +kernel
theorem d65_69 : decode (am_code 65) 69 = .ok (.getfield 30, 3) := by decide +kernel
theorem d65_72 : decode (am_code 65) 72 = .ok (.iload_n 1, 1) := by decide +kernel
theorem d65_73 : decode (am_code 65) 73 = .ok (.iconst 4, 1) := by decide +kernel
theorem d65_74 : decode (am_code 65) 74 = .ok (.idiv, 1) := by decide +kernel
theorem d65_75 : decode (am_code 65) 75 = .ok (.aload_n 0, 1) := by decide +kernel
theorem d65_76 : decode (am_code 65) 76 = .ok (.getfield 9, 3) := by decide +kernel
theorem d65_79 : decode (am_code 65) 79 = .ok (.iload_n 1, 1) := by decide +kernel
theorem d65_80 : decode (am_code 65) 80 = .ok (.iaload, 1) := by decide +kernel
theorem d65_81 : decode (am_code 65) 81 = .ok (.iconst 4, 1) := by decide +kernel
theorem d65_82 : decode (am_code 65) 82 = .ok (.idiv, 1) := by decide +kernel
theorem d65_83 : decode (am_code 65) 83 = .ok (.aload_n 0, 1) := by decide +kernel
theorem d65_84 : decode (am_code 65) 84 = .ok (.iload_n 1, 1) := by decide +kernel
theorem d65_85 : decode (am_code 65) 85 = .ok (.invokevirtual 63, 3) := by decide +kernel
theorem d65_88 : decode (am_code 65) 88 = .ok (.invokevirtual 66, 3) := by decide +kernel
theorem d65_91 : decode (am_code 65) 91 = .ok (.iinc 1 1, 3) := by decide +kernel
theorem d65_94 : decode (am_code 65) 94 = .ok (.goto (-54), 3) := by decide +kernel
theorem d65_97 : decode (am_code 65) 97 = .ok (.aload_n 0, 1) := by decide +kernel
theorem d65_98 : decode (am_code 65) 98 = .ok (.getfield 23, 3) := by decide +kernel
theorem d65_101 : decode (am_code 65) 101 = .ok (.invokevirtual 70, 3) := by decide +kernel
theorem d65_104 : decode (am_code 65) 104 = .ok (.aload_n 0, 1) := by decide +kernel
theorem d65_105 : decode (am_code 65) 105 = .ok (.getfield 27, 3) := by decide +kernel
theorem d65_108 : decode (am_code 65) 108 = .ok (.invokevirtual 70, 3) := by decide +kernel
theorem d65_111 : decode (am_code 65) 111 = .ok (.aload_n 0, 1) := by decide +kernel
theorem d65_112 : decode (am_code 65) 112 = .ok (.getfield 30, 3) := by decide +kernel
theorem d65_115 : decode (am_code 65) 115 = .ok (.invokevirtual 70, 3) := by decide +kernel
theorem d65_118 : decode (am_code 65) 118 = .ok (.return_, 1) := by decide +kernel
theorem f65_23 : am_find am_ftL (am_mc 65) 23 = some (5, 4) := by decide +kernel
theorem f65_39 : am_find am_ftL (am_mc 65) 39 = some (5, 0) := by decide +kernel
theorem f65_27 : am_find am_ftL (am_mc 65) 27 = some (5, 5) := by decide +kernel
theorem f65_30 : am_find am_ftL (am_mc 65) 30 = some (5, 6) := by decide +kernel
theorem f65_9 : am_find am_ftL (am_mc 65) 9 = some (5, 2) := by decide +kernel
theorem c65_50 : am_find am_ctL (am_mc 65) 50 = some (0, 1) ∧ am_na 1 = 1 ∧ am_fr 1 + 1 ≤ am_fr 65 ∧ 8 + (am_maxL 1 + 11) + am_lo 1 ≤ am_lo 65 := by decide +kernel
theorem c65_53 : am_find am_ctL (am_mc 65) 53 = some (0, 64) ∧ am_na 64 = 1 ∧ am_fr 64 + 1 ≤ am_fr 65 ∧ 8 + (am_maxL 64 + 11) + am_lo 64 ≤ am_lo 65 := by decide +kernel
theorem c65_57 : am_find am_ctL (am_mc 65) 57 = some (0, 66) ∧ am_na 66 = 1 ∧ am_fr 66 + 1 ≤ am_fr 65 ∧ 8 + (am_maxL 66 + 11) + am_lo 66 ≤ am_lo 65 := by decide +kernel
theorem c65_60 : am_find am_ctL (am_mc 65) 60 = some (0, 67) ∧ am_na 67 = 1 ∧ am_fr 67 + 1 ≤ am_fr 65 ∧ 8 + (am_maxL 67 + 11) + am_lo 67 ≤ am_lo 65 := by decide +kernel
theorem c65_63 : am_find am_ctL (am_mc 65) 63 = some (0, 68) ∧ am_na 68 = 1 ∧ am_fr 68 + 1 ≤ am_fr 65 ∧ 8 + (am_maxL 68 + 11) + am_lo 68 ≤ am_lo 65 := by decide +kernel
theorem c65_66 : am_find am_ctL (am_mc 65) 66 = some (0, 3) ∧ am_na 3 = 3 ∧ am_fr 3 + 1 ≤ am_fr 65 ∧ 8 + (am_maxL 3 + 11) + am_lo 3 ≤ am_lo 65 := by decide +kernel
theorem c65_70 : am_find am_ctL (am_mc 65) 70 = some (0, 4) ∧ am_na 4 = 0 ∧ am_fr 4 + 1 ≤ am_fr 65 ∧ 8 + (am_maxL 4 + 11) + am_lo 4 ≤ am_lo 65 := by decide +kernel
theorem l65 : am_maxL 65 = 2 := by decide +kernel
theorem t65 : am_ret 65 = none := by decide +kernel
/-! ThirdSheets$Space.joinCorners(I)V is 66 -/
theorem d66_0 : decode (am_code 66) 0 = .ok (.iconst 4, 1) := by decide +kernel
theorem d66_1 : decode (am_code 66) 1 = .ok (.iload_n 1, 1) := by decide +kernel
theorem d66_2 : decode (am_code 66) 2 = .ok (.iconst 4, 1) := by decide +kernel
theorem d66_3 : decode (am_code 66) 3 = .ok (.idiv, 1) := by decide +kernel
theorem d66_4 : decode (am_code 66) 4 = .ok (.imul, 1) := by decide +kernel
theorem d66_5 : decode (am_code 66) 5 = .ok (.istore_n 2, 1) := by decide +kernel
theorem d66_6 : decode (am_code 66) 6 = .ok (.iconst 4, 1) := by decide +kernel
theorem d66_7 : decode (am_code 66) 7 = .ok (.aload_n 0, 1) := by decide +kernel
theorem d66_8 : decode (am_code 66) 8 = .ok (.getfield 9, 3) := by decide +kernel
theorem d66_11 : decode (am_code 66) 11 = .ok (.iload_n 1, 1) := by decide +kernel
theorem d66_12 : decode (am_code 66) 12 = .ok (.iaload, 1) := by decide +kernel
theorem d66_13 : decode (am_code 66) 13 = .ok (.iconst 4, 1) := by decide +kernel
theorem d66_14 : decode (am_code 66) 14 = .ok (.idiv, 1) := by decide +kernel
theorem d66_15 : decode (am_code 66) 15 = .ok (.imul, 1) := by decide +kernel
theorem d66_16 : decode (am_code 66) 16 = .ok (.istore_n 3, 1) := by decide +kernel
theorem d66_17 : decode (am_code 66) 17 = .ok (.iconst 0, 1) := by decide +kernel
theorem d66_18 : decode (am_code 66) 18 = .ok (.istore 4, 2) := by decide +kernel
theorem d66_20 : decode (am_code 66) 20 = .ok (.iload 4, 2) := by decide +kernel
theorem d66_22 : decode (am_code 66) 22 = .ok (.iconst 4, 1) := by decide +kernel
theorem d66_23 : decode (am_code 66) 23 = .ok (.if_icmp .ge 42, 3) := by decide +kernel
theorem d66_26 : decode (am_code 66) 26 = .ok (.iload 4, 2) := by decide +kernel
theorem d66_28 : decode (am_code 66) 28 = .ok (.iload_n 1, 1) := by decide +kernel
theorem d66_29 : decode (am_code 66) 29 = .ok (.iconst 4, 1) := by decide +kernel
theorem d66_30 : decode (am_code 66) 30 = .ok (.irem, 1) := by decide +kernel
theorem d66_31 : decode (am_code 66) 31 = .ok (.if_icmp .eq 28, 3) := by decide +kernel
theorem d66_34 : decode (am_code 66) 34 = .ok (.aload_n 0, 1) := by decide +kernel
theorem d66_35 : decode (am_code 66) 35 = .ok (.getfield 23, 3) := by decide +kernel
theorem d66_38 : decode (am_code 66) 38 = .ok (.iload_n 2, 1) := by decide +kernel
theorem d66_39 : decode (am_code 66) 39 = .ok (.iload 4, 2) := by decide +kernel
theorem d66_41 : decode (am_code 66) 41 = .ok (.iadd, 1) := by decide +kernel
theorem d66_42 : decode (am_code 66) 42 = .ok (.iload_n 3, 1) := by decide +kernel
theorem d66_43 : decode (am_code 66) 43 = .ok (.aload_n 0, 1) := by decide +kernel
theorem d66_44 : decode (am_code 66) 44 = .ok (.getfield 15, 3) := by decide +kernel
theorem d66_47 : decode (am_code 66) 47 = .ok (.iconst 4, 1) := by decide +kernel
theorem d66_48 : decode (am_code 66) 48 = .ok (.iload_n 1, 1) := by decide +kernel
theorem d66_49 : decode (am_code 66) 49 = .ok (.imul, 1) := by decide +kernel
theorem d66_50 : decode (am_code 66) 50 = .ok (.iload 4, 2) := by decide +kernel
theorem d66_52 : decode (am_code 66) 52 = .ok (.iadd, 1) := by decide +kernel
theorem d66_53 : decode (am_code 66) 53 = .ok (.iaload, 1) := by decide +kernel
theorem d66_54 : decode (am_code 66) 54 = .ok (.iadd, 1) := by decide +kernel
theorem d66_55 : decode (am_code 66) 55 = .ok (.iconst 0, 1) := by decide +kernel
theorem d66_56 : decode (am_code 66) 56 = .ok (.invokevirtual 66, 3) := by decide +kernel
theorem d66_59 : decode (am_code 66) 59 = .ok (.iinc 4 1, 3) := by decide +kernel
theorem d66_62 : decode (am_code 66) 62 = .ok (.goto (-42), 3) := by decide +kernel
theorem d66_65 : decode (am_code 66) 65 = .ok (.return_, 1) := by decide +kernel
theorem f66_9 : am_find am_ftL (am_mc 66) 9 = some (5, 2) := by decide +kernel
theorem f66_23 : am_find am_ftL (am_mc 66) 23 = some (5, 4) := by decide +kernel
theorem f66_15 : am_find am_ftL (am_mc 66) 15 = some (5, 3) := by decide +kernel
theorem c66_66 : am_find am_ctL (am_mc 66) 66 = some (0, 3) ∧ am_na 3 = 3 ∧ am_fr 3 + 1 ≤ am_fr 66 ∧ 8 + (am_maxL 3 + 11) + am_lo 3 ≤ am_lo 66 := by decide +kernel
theorem l66 : am_maxL 66 = 5 := by decide +kernel
theorem t66 : am_ret 66 = none := by decide +kernel
/-! ThirdSheets$Space.joinEdges(I)V is 67 -/
theorem d67_0 : decode (am_code 67) 0 = .ok (.bipush 6, 2) := by decide +kernel
theorem d67_2 : decode (am_code 67) 2 = .ok (.iload_n 1, 1) := by decide +kernel
theorem d67_3 : decode (am_code 67) 3 = .ok (.iconst 4, 1) := by decide +kernel
theorem d67_4 : decode (am_code 67) 4 = .ok (.idiv, 1) := by decide +kernel
theorem d67_5 : decode (am_code 67) 5 = .ok (.imul, 1) := by decide +kernel
theorem d67_6 : decode (am_code 67) 6 = .ok (.istore_n 2, 1) := by decide +kernel
theorem d67_7 : decode (am_code 67) 7 = .ok (.bipush 6, 2) := by decide +kernel
theorem d67_9 : decode (am_code 67) 9 = .ok (.aload_n 0, 1) := by decide +kernel
theorem d67_10 : decode (am_code 67) 10 = .ok (.getfield 9, 3) := by decide +kernel
theorem d67_13 : decode (am_code 67) 13 = .ok (.iload_n 1, 1) := by decide +kernel
theorem d67_14 : decode (am_code 67) 14 = .ok (.iaload, 1) := by decide +kernel
theorem d67_15 : decode (am_code 67) 15 = .ok (.iconst 4, 1) := by decide +kernel
theorem d67_16 : decode (am_code 67) 16 = .ok (.idiv, 1) := by decide +kernel
theorem d67_17 : decode (am_code 67) 17 = .ok (.imul, 1) := by decide +kernel
theorem d67_18 : decode (am_code 67) 18 = .ok (.istore_n 3, 1) := by decide +kernel
theorem d67_19 : decode (am_code 67) 19 = .ok (.iconst 0, 1) := by decide +kernel
theorem d67_20 : decode (am_code 67) 20 = .ok (.istore 4, 2) := by decide +kernel
theorem d67_22 : decode (am_code 67) 22 = .ok (.iload 4, 2) := by decide +kernel
theorem d67_24 : decode (am_code 67) 24 = .ok (.bipush 6, 2) := by decide +kernel
theorem d67_26 : decode (am_code 67) 26 = .ok (.if_icmp .ge 103, 3) := by decide +kernel
theorem d67_29 : decode (am_code 67) 29 = .ok (.getstatic 73, 3) := by decide +kernel
theorem d67_32 : decode (am_code 67) 32 = .ok (.iload 4, 2) := by decide +kernel
theorem d67_34 : decode (am_code 67) 34 = .ok (.iaload, 1) := by decide +kernel
theorem d67_35 : decode (am_code 67) 35 = .ok (.iload_n 1, 1) := by decide +kernel
theorem d67_36 : decode (am_code 67) 36 = .ok (.iconst 4, 1) := by decide +kernel
theorem d67_37 : decode (am_code 67) 37 = .ok (.irem, 1) := by decide +kernel
theorem d67_38 : decode (am_code 67) 38 = .ok (.if_icmp .eq 85, 3) := by decide +kernel
theorem d67_41 : decode (am_code 67) 41 = .ok (.getstatic 76, 3) := by decide +kernel
theorem d67_44 : decode (am_code 67) 44 = .ok (.iload 4, 2) := by decide +kernel
theorem d67_46 : decode (am_code 67) 46 = .ok (.iaload, 1) := by decide +kernel
theorem d67_47 : decode (am_code 67) 47 = .ok (.iload_n 1, 1) := by decide +kernel
theorem d67_48 : decode (am_code 67) 48 = .ok (.iconst 4, 1) := by decide +kernel
theorem d67_49 : decode (am_code 67) 49 = .ok (.irem, 1) := by decide +kernel
theorem d67_50 : decode (am_code 67) 50 = .ok (.if_icmp .eq 73, 3) := by decide +kernel
theorem d67_53 : decode (am_code 67) 53 = .ok (.aload_n 0, 1) := by decide +kernel
theorem d67_54 : decode (am_code 67) 54 = .ok (.getfield 15, 3) := by decide +kernel
theorem d67_57 : decode (am_code 67) 57 = .ok (.iconst 4, 1) := by decide +kernel
theorem d67_58 : decode (am_code 67) 58 = .ok (.iload_n 1, 1) := by decide +kernel
theorem d67_59 : decode (am_code 67) 59 = .ok (.imul, 1) := by decide +kernel
theorem d67_60 : decode (am_code 67) 60 = .ok (.getstatic 73, 3) := by decide +kernel
theorem d67_63 : decode (am_code 67) 63 = .ok (.iload 4, 2) := by decide +kernel
theorem d67_65 : decode (am_code 67) 65 = .ok (.iaload, 1) := by decide +kernel
theorem d67_66 : decode (am_code 67) 66 = .ok (.iadd, 1) := by decide +kernel
theorem d67_67 : decode (am_code 67) 67 = .ok (.iaload, 1) := by decide +kernel
theorem d67_68 : decode (am_code 67) 68 = .ok (.istore 5, 2) := by decide +kernel
theorem d67_70 : decode (am_code 67) 70 = .ok (.aload_n 0, 1) := by decide +kernel
theorem d67_71 : decode (am_code 67) 71 = .ok (.getfield 15, 3) := by decide +kernel
theorem d67_74 : decode (am_code 67) 74 = .ok (.iconst 4, 1) := by decide +kernel
theorem d67_75 : decode (am_code 67) 75 = .ok (.iload_n 1, 1) := by decide +kernel
theorem d67_76 : decode (am_code 67) 76 = .ok (.imul, 1) := by decide +kernel
theorem d67_77 : decode (am_code 67) 77 = .ok (.getstatic 76, 3) := by decide +kernel
theorem d67_80 : decode (am_code 67) 80 = .ok (.iload 4, 2) := by decide +kernel
theorem d67_82 : decode (am_code 67) 82 = .ok (.iaload, 1) := by decide +kernel
theorem d67_83 : decode (am_code 67) 83 = .ok (.iadd, 1) := by decide +kernel
theorem d67_84 : decode (am_code 67) 84 = .ok (.iaload, 1) := by decide +kernel
theorem d67_85 : decode (am_code 67) 85 = .ok (.istore 6, 2) := by decide +kernel
theorem d67_87 : decode (am_code 67) 87 = .ok (.aload_n 0, 1) := by decide +kernel
theorem d67_88 : decode (am_code 67) 88 = .ok (.getfield 27, 3) := by decide +kernel
theorem d67_91 : decode (am_code 67) 91 = .ok (.iload_n 2, 1) := by decide +kernel
theorem d67_92 : decode (am_code 67) 92 = .ok (.iload 4, 2) := by decide +kernel
theorem d67_94 : decode (am_code 67) 94 = .ok (.iadd, 1) := by decide +kernel
theorem d67_95 : decode (am_code 67) 95 = .ok (.iload_n 3, 1) := by decide +kernel
theorem d67_96 : decode (am_code 67) 96 = .ok (.getstatic 79, 3) := by decide +kernel
theorem d67_99 : decode (am_code 67) 99 = .ok (.iconst 4, 1) := by decide +kernel
theorem d67_100 : decode (am_code 67) 100 = .ok (.iload 5, 2) := by decide +kernel
theorem d67_102 : decode (am_code 67) 102 = .ok (.imul, 1) := by decide +kernel
theorem d67_103 : decode (am_code 67) 103 = .ok (.iload 6, 2) := by decide +kernel
theorem d67_105 : decode (am_code 67) 105 = .ok (.iadd, 1) := by decide +kernel
theorem d67_106 : decode (am_code 67) 106 = .ok (.iaload, 1) := by decide +kernel
theorem d67_107 : decode (am_code 67) 107 = .ok (.iadd, 1) := by decide +kernel
theorem d67_108 : decode (am_code 67) 108 = .ok (.iload 5, 2) := by decide +kernel
theorem d67_110 : decode (am_code 67) 110 = .ok (.iload 6, 2) := by decide +kernel
theorem d67_112 : decode (am_code 67) 112 = .ok (.if_icmp .le 7, 3) := by decide +kernel
theorem d67_115 : decode (am_code 67) 115 = .ok (.iconst 1, 1) := by decide +kernel
theorem d67_116 : decode (am_code 67) 116 = .ok (.goto 4, 3) := by decide +kernel
theorem d67_119 : decode (am_code 67) 119 = .ok (.iconst 0, 1) := by decide +kernel
theorem d67_120 : decode (am_code 67) 120 = .ok (.invokevirtual 66, 3) := by decide +kernel
theorem d67_123 : decode (am_code 67) 123 = .ok (.iinc 4 1, 3) := by decide +kernel
theorem d67_126 : decode (am_code 67) 126 = .ok (.goto (-104), 3) := by decide +kernel
theorem d67_129 : decode (am_code 67) 129 = .ok (.return_, 1) := by decide +kernel
theorem f67_9 : am_find am_ftL (am_mc 67) 9 = some (5, 2) := by decide +kernel
theorem g67_73 : am_find am_gtL (am_mc 67) 73 = some (1, 1) := by decide +kernel
theorem g67_76 : am_find am_gtL (am_mc 67) 76 = some (2, 1) := by decide +kernel
theorem f67_15 : am_find am_ftL (am_mc 67) 15 = some (5, 3) := by decide +kernel
theorem f67_27 : am_find am_ftL (am_mc 67) 27 = some (5, 5) := by decide +kernel
theorem g67_79 : am_find am_gtL (am_mc 67) 79 = some (3, 1) := by decide +kernel
theorem c67_66 : am_find am_ctL (am_mc 67) 66 = some (0, 3) ∧ am_na 3 = 3 ∧ am_fr 3 + 1 ≤ am_fr 67 ∧ 8 + (am_maxL 3 + 11) + am_lo 3 ≤ am_lo 67 := by decide +kernel
theorem l67 : am_maxL 67 = 7 := by decide +kernel
theorem t67 : am_ret 67 = none := by decide +kernel
/-! ThirdSheets$Space.isEvenChange(I)Z is 68 -/
theorem d68_0 : decode (am_code 68) 0 = .ok (.iconst 0, 1) := by decide +kernel
theorem d68_1 : decode (am_code 68) 1 = .ok (.istore_n 2, 1) := by decide +kernel
theorem d68_2 : decode (am_code 68) 2 = .ok (.iconst 0, 1) := by decide +kernel
theorem d68_3 : decode (am_code 68) 3 = .ok (.istore_n 3, 1) := by decide +kernel
theorem d68_4 : decode (am_code 68) 4 = .ok (.iload_n 3, 1) := by decide +kernel
theorem d68_5 : decode (am_code 68) 5 = .ok (.bipush 6, 2) := by decide +kernel
theorem d68_7 : decode (am_code 68) 7 = .ok (.if_icmp .ge 43, 3) := by decide +kernel
theorem d68_10 : decode (am_code 68) 10 = .ok (.aload_n 0, 1) := by decide +kernel
theorem d68_11 : decode (am_code 68) 11 = .ok (.getfield 15, 3) := by decide +kernel
theorem d68_14 : decode (am_code 68) 14 = .ok (.iconst 4, 1) := by decide +kernel
theorem d68_15 : decode (am_code 68) 15 = .ok (.iload_n 1, 1) := by decide +kernel
theorem d68_16 : decode (am_code 68) 16 = .ok (.imul, 1) := by decide +kernel
theorem d68_17 : decode (am_code 68) 17 = .ok (.getstatic 73, 3) := by decide +kernel
theorem d68_20 : decode (am_code 68) 20 = .ok (.iload_n 3, 1) := by decide +kernel
theorem d68_21 : decode (am_code 68) 21 = .ok (.iaload, 1) := by decide +kernel
theorem d68_22 : decode (am_code 68) 22 = .ok (.iadd, 1) := by decide +kernel
theorem d68_23 : decode (am_code 68) 23 = .ok (.iaload, 1) := by decide +kernel
theorem d68_24 : decode (am_code 68) 24 = .ok (.aload_n 0, 1) := by decide +kernel
theorem d68_25 : decode (am_code 68) 25 = .ok (.getfield 15, 3) := by decide +kernel
theorem d68_28 : decode (am_code 68) 28 = .ok (.iconst 4, 1) := by decide +kernel
theorem d68_29 : decode (am_code 68) 29 = .ok (.iload_n 1, 1) := by decide +kernel
theorem d68_30 : decode (am_code 68) 30 = .ok (.imul, 1) := by decide +kernel
theorem d68_31 : decode (am_code 68) 31 = .ok (.getstatic 76, 3) := by decide +kernel
theorem d68_34 : decode (am_code 68) 34 = .ok (.iload_n 3, 1) := by decide +kernel
theorem d68_35 : decode (am_code 68) 35 = .ok (.iaload, 1) := by decide +kernel
theorem d68_36 : decode (am_code 68) 36 = .ok (.iadd, 1) := by decide +kernel
theorem d68_37 : decode (am_code 68) 37 = .ok (.iaload, 1) := by decide +kernel
theorem d68_38 : decode (am_code 68) 38 = .ok (.if_icmp .le 6, 3) := by decide +kernel
theorem d68_41 : decode (am_code 68) 41 = .ok (.iinc 2 1, 3) := by decide +kernel
theorem d68_44 : decode (am_code 68) 44 = .ok (.iinc 3 1, 3) := by decide +kernel
theorem d68_47 : decode (am_code 68) 47 = .ok (.goto (-43), 3) := by decide +kernel
theorem d68_50 : decode (am_code 68) 50 = .ok (.iload_n 2, 1) := by decide +kernel
theorem d68_51 : decode (am_code 68) 51 = .ok (.iconst 2, 1) := by decide +kernel
theorem d68_52 : decode (am_code 68) 52 = .ok (.irem, 1) := by decide +kernel
theorem d68_53 : decode (am_code 68) 53 = .ok (.ifCond .ne 7, 3) := by decide +kernel
theorem d68_56 : decode (am_code 68) 56 = .ok (.iconst 1, 1) := by decide +kernel
theorem d68_57 : decode (am_code 68) 57 = .ok (.goto 4, 3) := by decide +kernel
theorem d68_60 : decode (am_code 68) 60 = .ok (.iconst 0, 1) := by decide +kernel
theorem d68_61 : decode (am_code 68) 61 = .ok (.ireturn, 1) := by decide +kernel
theorem f68_15 : am_find am_ftL (am_mc 68) 15 = some (5, 3) := by decide +kernel
theorem g68_73 : am_find am_gtL (am_mc 68) 73 = some (1, 1) := by decide +kernel
theorem g68_76 : am_find am_gtL (am_mc 68) 76 = some (2, 1) := by decide +kernel
theorem l68 : am_maxL 68 = 4 := by decide +kernel
theorem t68 : am_ret 68 = (some .boolean) := by decide +kernel
/-! ThirdSheets$Space.sideCount()I is 69 -/
theorem d69_0 : decode (am_code 69) 0 = .ok (.iconst 4, 1) := by decide +kernel
theorem d69_1 : decode (am_code 69) 1 = .ok (.aload_n 0, 1) := by decide +kernel
theorem d69_2 : decode (am_code 69) 2 = .ok (.getfield 39, 3) := by decide +kernel
theorem d69_5 : decode (am_code 69) 5 = .ok (.imul, 1) := by decide +kernel
theorem d69_6 : decode (am_code 69) 6 = .ok (.aload_n 0, 1) := by decide +kernel
theorem d69_7 : decode (am_code 69) 7 = .ok (.getfield 43, 3) := by decide +kernel
theorem d69_10 : decode (am_code 69) 10 = .ok (.isub, 1) := by decide +kernel
theorem d69_11 : decode (am_code 69) 11 = .ok (.ireturn, 1) := by decide +kernel
theorem f69_39 : am_find am_ftL (am_mc 69) 39 = some (5, 0) := by decide +kernel
theorem f69_43 : am_find am_ftL (am_mc 69) 43 = some (5, 1) := by decide +kernel
theorem l69 : am_maxL 69 = 1 := by decide +kernel
theorem t69 : am_ret 69 = (some .int) := by decide +kernel
/-! ThirdSheets$Space.openCount()I is 70 -/
theorem d70_0 : decode (am_code 70) 0 = .ok (.iconst 4, 1) := by decide +kernel
theorem d70_1 : decode (am_code 70) 1 = .ok (.aload_n 0, 1) := by decide +kernel
theorem d70_2 : decode (am_code 70) 2 = .ok (.getfield 39, 3) := by decide +kernel
theorem d70_5 : decode (am_code 70) 5 = .ok (.imul, 1) := by decide +kernel
theorem d70_6 : decode (am_code 70) 6 = .ok (.iconst 2, 1) := by decide +kernel
theorem d70_7 : decode (am_code 70) 7 = .ok (.aload_n 0, 1) := by decide +kernel
theorem d70_8 : decode (am_code 70) 8 = .ok (.getfield 43, 3) := by decide +kernel
theorem d70_11 : decode (am_code 70) 11 = .ok (.imul, 1) := by decide +kernel
theorem d70_12 : decode (am_code 70) 12 = .ok (.isub, 1) := by decide +kernel
theorem d70_13 : decode (am_code 70) 13 = .ok (.ireturn, 1) := by decide +kernel
theorem f70_39 : am_find am_ftL (am_mc 70) 39 = some (5, 0) := by decide +kernel
theorem f70_43 : am_find am_ftL (am_mc 70) 43 = some (5, 1) := by decide +kernel
theorem l70 : am_maxL 70 = 1 := by decide +kernel
theorem t70 : am_ret 70 = (some .int) := by decide +kernel
/-! ThirdSheets$Space.eulerNumber()I is 71 -/
theorem d71_0 : decode (am_code 71) 0 = .ok (.aload_n 0, 1) := by decide +kernel
theorem d71_1 : decode (am_code 71) 1 = .ok (.getfield 23, 3) := by decide +kernel
theorem d71_4 : decode (am_code 71) 4 = .ok (.getfield 82, 3) := by decide +kernel
theorem d71_7 : decode (am_code 71) 7 = .ok (.aload_n 0, 1) := by decide +kernel
theorem d71_8 : decode (am_code 71) 8 = .ok (.getfield 27, 3) := by decide +kernel
theorem d71_11 : decode (am_code 71) 11 = .ok (.getfield 82, 3) := by decide +kernel
theorem d71_14 : decode (am_code 71) 14 = .ok (.isub, 1) := by decide +kernel
theorem d71_15 : decode (am_code 71) 15 = .ok (.aload_n 0, 1) := by decide +kernel
theorem d71_16 : decode (am_code 71) 16 = .ok (.invokevirtual 85, 3) := by decide +kernel
theorem d71_19 : decode (am_code 71) 19 = .ok (.iadd, 1) := by decide +kernel
theorem d71_20 : decode (am_code 71) 20 = .ok (.aload_n 0, 1) := by decide +kernel
theorem d71_21 : decode (am_code 71) 21 = .ok (.getfield 39, 3) := by decide +kernel
theorem d71_24 : decode (am_code 71) 24 = .ok (.isub, 1) := by decide +kernel
theorem d71_25 : decode (am_code 71) 25 = .ok (.ireturn, 1) := by decide +kernel
theorem f71_23 : am_find am_ftL (am_mc 71) 23 = some (5, 4) := by decide +kernel
theorem f71_82 : am_find am_ftL (am_mc 71) 82 = some (0, 6) := by decide +kernel
theorem f71_27 : am_find am_ftL (am_mc 71) 27 = some (5, 5) := by decide +kernel
theorem f71_39 : am_find am_ftL (am_mc 71) 39 = some (5, 0) := by decide +kernel
theorem c71_85 : am_find am_ctL (am_mc 71) 85 = some (0, 69) ∧ am_na 69 = 0 ∧ am_fr 69 + 1 ≤ am_fr 71 ∧ 8 + (am_maxL 69 + 11) + am_lo 69 ≤ am_lo 71 := by decide +kernel
theorem l71 : am_maxL 71 = 1 := by decide +kernel
theorem t71 : am_ret 71 = (some .int) := by decide +kernel
/-! ThirdSheets$Space.isEven()Z is 72 -/
theorem d72_0 : decode (am_code 72) 0 = .ok (.aload_n 0, 1) := by decide +kernel
theorem d72_1 : decode (am_code 72) 1 = .ok (.getfield 30, 3) := by decide +kernel
theorem d72_4 : decode (am_code 72) 4 = .ok (.invokevirtual 89, 3) := by decide +kernel
theorem d72_7 : decode (am_code 72) 7 = .ok (.ifCond .ne 7, 3) := by decide +kernel
theorem d72_10 : decode (am_code 72) 10 = .ok (.iconst 1, 1) := by decide +kernel
theorem d72_11 : decode (am_code 72) 11 = .ok (.goto 4, 3) := by decide +kernel
theorem d72_14 : decode (am_code 72) 14 = .ok (.iconst 0, 1) := by decide +kernel
theorem d72_15 : decode (am_code 72) 15 = .ok (.ireturn, 1) := by decide +kernel
theorem f72_30 : am_find am_ftL (am_mc 72) 30 = some (5, 6) := by decide +kernel
theorem c72_89 : am_find am_ctL (am_mc 72) 89 = some (0, 6) ∧ am_na 6 = 0 ∧ am_fr 6 + 1 ≤ am_fr 72 ∧ 8 + (am_maxL 6 + 11) + am_lo 6 ≤ am_lo 72 := by decide +kernel
theorem l72 : am_maxL 72 = 1 := by decide +kernel
theorem t72 : am_ret 72 = (some .boolean) := by decide +kernel
/-! ThirdSheets$Space.isWhole()Z is 73 -/
theorem d73_0 : decode (am_code 73) 0 = .ok (.aload_n 0, 1) := by decide +kernel
theorem d73_1 : decode (am_code 73) 1 = .ok (.getfield 39, 3) := by decide +kernel
theorem d73_4 : decode (am_code 73) 4 = .ok (.ifCond .eq 20, 3) := by decide +kernel
theorem d73_7 : decode (am_code 73) 7 = .ok (.aload_n 0, 1) := by decide +kernel
theorem d73_8 : decode (am_code 73) 8 = .ok (.invokevirtual 93, 3) := by decide +kernel
theorem d73_11 : decode (am_code 73) 11 = .ok (.ifCond .ne 13, 3) := by decide +kernel
theorem d73_14 : decode (am_code 73) 14 = .ok (.aload_n 0, 1) := by decide +kernel
theorem d73_15 : decode (am_code 73) 15 = .ok (.getfield 27, 3) := by decide +kernel
theorem d73_18 : decode (am_code 73) 18 = .ok (.invokevirtual 89, 3) := by decide +kernel
theorem d73_21 : decode (am_code 73) 21 = .ok (.ifCond .eq 5, 3) := by decide +kernel
theorem d73_24 : decode (am_code 73) 24 = .ok (.iconst 0, 1) := by decide +kernel
theorem d73_25 : decode (am_code 73) 25 = .ok (.ireturn, 1) := by decide +kernel
theorem d73_26 : decode (am_code 73) 26 = .ok (.iconst 0, 1) := by decide +kernel
theorem d73_27 : decode (am_code 73) 27 = .ok (.istore_n 1, 1) := by decide +kernel
theorem d73_28 : decode (am_code 73) 28 = .ok (.iload_n 1, 1) := by decide +kernel
theorem d73_29 : decode (am_code 73) 29 = .ok (.aload_n 0, 1) := by decide +kernel
theorem d73_30 : decode (am_code 73) 30 = .ok (.getfield 23, 3) := by decide +kernel
theorem d73_33 : decode (am_code 73) 33 = .ok (.getfield 82, 3) := by decide +kernel
theorem d73_36 : decode (am_code 73) 36 = .ok (.if_icmp .ge 20, 3) := by decide +kernel
theorem d73_39 : decode (am_code 73) 39 = .ok (.aload_n 0, 1) := by decide +kernel
theorem d73_40 : decode (am_code 73) 40 = .ok (.iload_n 1, 1) := by decide +kernel
theorem d73_41 : decode (am_code 73) 41 = .ok (.invokevirtual 96, 3) := by decide +kernel
theorem d73_44 : decode (am_code 73) 44 = .ok (.iconst 2, 1) := by decide +kernel
theorem d73_45 : decode (am_code 73) 45 = .ok (.if_icmp .eq 5, 3) := by decide +kernel
theorem d73_48 : decode (am_code 73) 48 = .ok (.iconst 0, 1) := by decide +kernel
theorem d73_49 : decode (am_code 73) 49 = .ok (.ireturn, 1) := by decide +kernel
theorem d73_50 : decode (am_code 73) 50 = .ok (.iinc 1 1, 3) := by decide +kernel
theorem d73_53 : decode (am_code 73) 53 = .ok (.goto (-25), 3) := by decide +kernel
theorem d73_56 : decode (am_code 73) 56 = .ok (.iconst 1, 1) := by decide +kernel
theorem d73_57 : decode (am_code 73) 57 = .ok (.ireturn, 1) := by decide +kernel
theorem f73_39 : am_find am_ftL (am_mc 73) 39 = some (5, 0) := by decide +kernel
theorem f73_27 : am_find am_ftL (am_mc 73) 27 = some (5, 5) := by decide +kernel
theorem f73_23 : am_find am_ftL (am_mc 73) 23 = some (5, 4) := by decide +kernel
theorem f73_82 : am_find am_ftL (am_mc 73) 82 = some (0, 6) := by decide +kernel
theorem c73_93 : am_find am_ctL (am_mc 73) 93 = some (0, 70) ∧ am_na 70 = 0 ∧ am_fr 70 + 1 ≤ am_fr 73 ∧ 8 + (am_maxL 70 + 11) + am_lo 70 ≤ am_lo 73 := by decide +kernel
theorem c73_89 : am_find am_ctL (am_mc 73) 89 = some (0, 6) ∧ am_na 6 = 0 ∧ am_fr 6 + 1 ≤ am_fr 73 ∧ 8 + (am_maxL 6 + 11) + am_lo 6 ≤ am_lo 73 := by decide +kernel
theorem c73_96 : am_find am_ctL (am_mc 73) 96 = some (0, 74) ∧ am_na 74 = 1 ∧ am_fr 74 + 1 ≤ am_fr 73 ∧ 8 + (am_maxL 74 + 11) + am_lo 74 ≤ am_lo 73 := by decide +kernel
theorem l73 : am_maxL 73 = 2 := by decide +kernel
theorem t73 : am_ret 73 = (some .boolean) := by decide +kernel
/-! ThirdSheets$Space.linkOf(I)I is 74 -/
theorem d74_0 : decode (am_code 74) 0 = .ok (.aload_n 0, 1) := by decide +kernel
theorem d74_1 : decode (am_code 74) 1 = .ok (.iload_n 1, 1) := by decide +kernel
theorem d74_2 : decode (am_code 74) 2 = .ok (.invokevirtual 100, 3) := by decide +kernel
theorem d74_5 : decode (am_code 74) 5 = .ok (.aload_n 0, 1) := by decide +kernel
theorem d74_6 : decode (am_code 74) 6 = .ok (.iload_n 1, 1) := by decide +kernel
theorem d74_7 : decode (am_code 74) 7 = .ok (.invokevirtual 103, 3) := by decide +kernel
theorem d74_10 : decode (am_code 74) 10 = .ok (.isub, 1) := by decide +kernel
theorem d74_11 : decode (am_code 74) 11 = .ok (.aload_n 0, 1) := by decide +kernel
theorem d74_12 : decode (am_code 74) 12 = .ok (.iload_n 1, 1) := by decide +kernel
theorem d74_13 : decode (am_code 74) 13 = .ok (.invokevirtual 106, 3) := by decide +kernel
theorem d74_16 : decode (am_code 74) 16 = .ok (.iadd, 1) := by decide +kernel
theorem d74_17 : decode (am_code 74) 17 = .ok (.ireturn, 1) := by decide +kernel
theorem c74_100 : am_find am_ctL (am_mc 74) 100 = some (0, 75) ∧ am_na 75 = 1 ∧ am_fr 75 + 1 ≤ am_fr 74 ∧ 8 + (am_maxL 75 + 11) + am_lo 75 ≤ am_lo 74 := by decide +kernel
theorem c74_103 : am_find am_ctL (am_mc 74) 103 = some (0, 76) ∧ am_na 76 = 1 ∧ am_fr 76 + 1 ≤ am_fr 74 ∧ 8 + (am_maxL 76 + 11) + am_lo 76 ≤ am_lo 74 := by decide +kernel
theorem c74_106 : am_find am_ctL (am_mc 74) 106 = some (0, 77) ∧ am_na 77 = 1 ∧ am_fr 77 + 1 ≤ am_fr 74 ∧ 8 + (am_maxL 77 + 11) + am_lo 77 ≤ am_lo 74 := by decide +kernel
theorem l74 : am_maxL 74 = 2 := by decide +kernel
theorem t74 : am_ret 74 = (some .int) := by decide +kernel
/-! ThirdSheets$Space.endsAt(I)I is 75 -/
theorem d75_0 : decode (am_code 75) 0 = .ok (.iconst 0, 1) := by decide +kernel
theorem d75_1 : decode (am_code 75) 1 = .ok (.istore_n 2, 1) := by decide +kernel
theorem d75_2 : decode (am_code 75) 2 = .ok (.iconst 0, 1) := by decide +kernel
theorem d75_3 : decode (am_code 75) 3 = .ok (.istore_n 3, 1) := by decide +kernel
theorem d75_4 : decode (am_code 75) 4 = .ok (.iload_n 3, 1) := by decide +kernel
theorem d75_5 : decode (am_code 75) 5 = .ok (.aload_n 0, 1) := by decide +kernel
theorem d75_6 : decode (am_code 75) 6 = .ok (.getfield 27, 3) := by decide +kernel
theorem d75_9 : decode (am_code 75) 9 = .ok (.getfield 82, 3) := by decide +kernel
theorem d75_12 : decode (am_code 75) 12 = .ok (.if_icmp .ge 94, 3) := by decide +kernel
theorem d75_15 : decode (am_code 75) 15 = .ok (.aload_n 0, 1) := by decide +kernel
theorem d75_16 : decode (am_code 75) 16 = .ok (.getfield 27, 3) := by decide +kernel
theorem d75_19 : decode (am_code 75) 19 = .ok (.getfield 109, 3) := by decide +kernel
theorem d75_22 : decode (am_code 75) 22 = .ok (.iload_n 3, 1) := by decide +kernel
theorem d75_23 : decode (am_code 75) 23 = .ok (.iaload, 1) := by decide +kernel
theorem d75_24 : decode (am_code 75) 24 = .ok (.istore 4, 2) := by decide +kernel
theorem d75_26 : decode (am_code 75) 26 = .ok (.iconst 4, 1) := by decide +kernel
theorem d75_27 : decode (am_code 75) 27 = .ok (.iload 4, 2) := by decide +kernel
theorem d75_29 : decode (am_code 75) 29 = .ok (.bipush 6, 2) := by decide +kernel
theorem d75_31 : decode (am_code 75) 31 = .ok (.idiv, 1) := by decide +kernel
theorem d75_32 : decode (am_code 75) 32 = .ok (.imul, 1) := by decide +kernel
theorem d75_33 : decode (am_code 75) 33 = .ok (.istore 5, 2) := by decide +kernel
theorem d75_35 : decode (am_code 75) 35 = .ok (.aload_n 0, 1) := by decide +kernel
theorem d75_36 : decode (am_code 75) 36 = .ok (.getfield 23, 3) := by decide +kernel
theorem d75_39 : decode (am_code 75) 39 = .ok (.getfield 112, 3) := by decide +kernel
theorem d75_42 : decode (am_code 75) 42 = .ok (.iload 5, 2) := by decide +kernel
theorem d75_44 : decode (am_code 75) 44 = .ok (.getstatic 73, 3) := by decide +kernel
theorem d75_47 : decode (am_code 75) 47 = .ok (.iload 4, 2) := by decide +kernel
theorem d75_49 : decode (am_code 75) 49 = .ok (.bipush 6, 2) := by decide +kernel
theorem d75_51 : decode (am_code 75) 51 = .ok (.irem, 1) := by decide +kernel
theorem d75_52 : decode (am_code 75) 52 = .ok (.iaload, 1) := by decide +kernel
theorem d75_53 : decode (am_code 75) 53 = .ok (.iadd, 1) := by decide +kernel
theorem d75_54 : decode (am_code 75) 54 = .ok (.iaload, 1) := by decide +kernel
theorem d75_55 : decode (am_code 75) 55 = .ok (.iload_n 1, 1) := by decide +kernel
theorem d75_56 : decode (am_code 75) 56 = .ok (.if_icmp .ne 6, 3) := by decide +kernel
theorem d75_59 : decode (am_code 75) 59 = .ok (.iinc 2 1, 3) := by decide +kernel
theorem d75_62 : decode (am_code 75) 62 = .ok (.aload_n 0, 1) := by decide +kernel
theorem d75_63 : decode (am_code 75) 63 = .ok (.getfield 27, 3) := by decide +kernel
theorem d75_66 : decode (am_code 75) 66 = .ok (.iload_n 3, 1) := by decide +kernel
theorem d75_67 : decode (am_code 75) 67 = .ok (.invokevirtual 115, 3) := by decide +kernel
theorem d75_70 : decode (am_code 75) 70 = .ok (.ifCond .ne 30, 3) := by decide +kernel
theorem d75_73 : decode (am_code 75) 73 = .ok (.aload_n 0, 1) := by decide +kernel
theorem d75_74 : decode (am_code 75) 74 = .ok (.getfield 23, 3) := by decide +kernel
theorem d75_77 : decode (am_code 75) 77 = .ok (.getfield 112, 3) := by decide +kernel
theorem d75_80 : decode (am_code 75) 80 = .ok (.iload 5, 2) := by decide +kernel
theorem d75_82 : decode (am_code 75) 82 = .ok (.getstatic 76, 3) := by decide +kernel
theorem d75_85 : decode (am_code 75) 85 = .ok (.iload 4, 2) := by decide +kernel
theorem d75_87 : decode (am_code 75) 87 = .ok (.bipush 6, 2) := by decide +kernel
theorem d75_89 : decode (am_code 75) 89 = .ok (.irem, 1) := by decide +kernel
theorem d75_90 : decode (am_code 75) 90 = .ok (.iaload, 1) := by decide +kernel
theorem d75_91 : decode (am_code 75) 91 = .ok (.iadd, 1) := by decide +kernel
theorem d75_92 : decode (am_code 75) 92 = .ok (.iaload, 1) := by decide +kernel
theorem d75_93 : decode (am_code 75) 93 = .ok (.iload_n 1, 1) := by decide +kernel
theorem d75_94 : decode (am_code 75) 94 = .ok (.if_icmp .ne 6, 3) := by decide +kernel
theorem d75_97 : decode (am_code 75) 97 = .ok (.iinc 2 1, 3) := by decide +kernel
theorem d75_100 : decode (am_code 75) 100 = .ok (.iinc 3 1, 3) := by decide +kernel
theorem d75_103 : decode (am_code 75) 103 = .ok (.goto (-99), 3) := by decide +kernel
theorem d75_106 : decode (am_code 75) 106 = .ok (.iload_n 2, 1) := by decide +kernel
theorem d75_107 : decode (am_code 75) 107 = .ok (.ireturn, 1) := by decide +kernel
theorem f75_27 : am_find am_ftL (am_mc 75) 27 = some (5, 5) := by decide +kernel
theorem f75_82 : am_find am_ftL (am_mc 75) 82 = some (0, 6) := by decide +kernel
theorem f75_109 : am_find am_ftL (am_mc 75) 109 = some (0, 4) := by decide +kernel
theorem f75_23 : am_find am_ftL (am_mc 75) 23 = some (5, 4) := by decide +kernel
theorem f75_112 : am_find am_ftL (am_mc 75) 112 = some (0, 3) := by decide +kernel
theorem g75_73 : am_find am_gtL (am_mc 75) 73 = some (1, 1) := by decide +kernel
theorem g75_76 : am_find am_gtL (am_mc 75) 76 = some (2, 1) := by decide +kernel
theorem c75_115 : am_find am_ctL (am_mc 75) 115 = some (0, 5) ∧ am_na 5 = 1 ∧ am_fr 5 + 1 ≤ am_fr 75 ∧ 8 + (am_maxL 5 + 11) + am_lo 5 ≤ am_lo 75 := by decide +kernel
theorem l75 : am_maxL 75 = 6 := by decide +kernel
theorem t75 : am_ret 75 = (some .int) := by decide +kernel
/-! ThirdSheets$Space.sidesAt(I)I is 76 -/
theorem d76_0 : decode (am_code 76) 0 = .ok (.iconst 0, 1) := by decide +kernel
theorem d76_1 : decode (am_code 76) 1 = .ok (.istore_n 2, 1) := by decide +kernel
theorem d76_2 : decode (am_code 76) 2 = .ok (.iconst 0, 1) := by decide +kernel
theorem d76_3 : decode (am_code 76) 3 = .ok (.istore_n 3, 1) := by decide +kernel
theorem d76_4 : decode (am_code 76) 4 = .ok (.iload_n 3, 1) := by decide +kernel
theorem d76_5 : decode (am_code 76) 5 = .ok (.iconst 4, 1) := by decide +kernel
theorem d76_6 : decode (am_code 76) 6 = .ok (.aload_n 0, 1) := by decide +kernel
theorem d76_7 : decode (am_code 76) 7 = .ok (.getfield 39, 3) := by decide +kernel
theorem d76_10 : decode (am_code 76) 10 = .ok (.imul, 1) := by decide +kernel
theorem d76_11 : decode (am_code 76) 11 = .ok (.if_icmp .ge 83, 3) := by decide +kernel
theorem d76_14 : decode (am_code 76) 14 = .ok (.aload_n 0, 1) := by decide +kernel
theorem d76_15 : decode (am_code 76) 15 = .ok (.iload_n 3, 1) := by decide +kernel
theorem d76_16 : decode (am_code 76) 16 = .ok (.invokevirtual 118, 3) := by decide +kernel
theorem d76_19 : decode (am_code 76) 19 = .ok (.ifCond .eq 11, 3) := by decide +kernel
theorem d76_22 : decode (am_code 76) 22 = .ok (.aload_n 0, 1) := by decide +kernel
theorem d76_23 : decode (am_code 76) 23 = .ok (.iload_n 3, 1) := by decide +kernel
theorem d76_24 : decode (am_code 76) 24 = .ok (.invokevirtual 53, 3) := by decide +kernel
theorem d76_27 : decode (am_code 76) 27 = .ok (.ifCond .eq 7, 3) := by decide +kernel
theorem d76_30 : decode (am_code 76) 30 = .ok (.iconst 1, 1) := by decide +kernel
theorem d76_31 : decode (am_code 76) 31 = .ok (.goto 4, 3) := by decide +kernel
theorem d76_34 : decode (am_code 76) 34 = .ok (.iconst 0, 1) := by decide +kernel
theorem d76_35 : decode (am_code 76) 35 = .ok (.istore 4, 2) := by decide +kernel
theorem d76_37 : decode (am_code 76) 37 = .ok (.iconst 0, 1) := by decide +kernel
theorem d76_38 : decode (am_code 76) 38 = .ok (.istore 5, 2) := by decide +kernel
theorem d76_40 : decode (am_code 76) 40 = .ok (.iload 5, 2) := by decide +kernel
theorem d76_42 : decode (am_code 76) 42 = .ok (.iconst 4, 1) := by decide +kernel
theorem d76_43 : decode (am_code 76) 43 = .ok (.if_icmp .ge 45, 3) := by decide +kernel
theorem d76_46 : decode (am_code 76) 46 = .ok (.iload 4, 2) := by decide +kernel
theorem d76_48 : decode (am_code 76) 48 = .ok (.ifCond .eq 40, 3) := by decide +kernel
theorem d76_51 : decode (am_code 76) 51 = .ok (.iload 5, 2) := by decide +kernel
theorem d76_53 : decode (am_code 76) 53 = .ok (.iload_n 3, 1) := by decide +kernel
theorem d76_54 : decode (am_code 76) 54 = .ok (.iconst 4, 1) := by decide +kernel
theorem d76_55 : decode (am_code 76) 55 = .ok (.irem, 1) := by decide +kernel
theorem d76_56 : decode (am_code 76) 56 = .ok (.if_icmp .eq 26, 3) := by decide +kernel
theorem d76_59 : decode (am_code 76) 59 = .ok (.aload_n 0, 1) := by decide +kernel
theorem d76_60 : decode (am_code 76) 60 = .ok (.getfield 23, 3) := by decide +kernel
theorem d76_63 : decode (am_code 76) 63 = .ok (.getfield 112, 3) := by decide +kernel
theorem d76_66 : decode (am_code 76) 66 = .ok (.iconst 4, 1) := by decide +kernel
theorem d76_67 : decode (am_code 76) 67 = .ok (.iload_n 3, 1) := by decide +kernel
theorem d76_68 : decode (am_code 76) 68 = .ok (.iconst 4, 1) := by decide +kernel
theorem d76_69 : decode (am_code 76) 69 = .ok (.idiv, 1) := by decide +kernel
theorem d76_70 : decode (am_code 76) 70 = .ok (.imul, 1) := by decide +kernel
theorem d76_71 : decode (am_code 76) 71 = .ok (.iload 5, 2) := by decide +kernel
theorem d76_73 : decode (am_code 76) 73 = .ok (.iadd, 1) := by decide +kernel
theorem d76_74 : decode (am_code 76) 74 = .ok (.iaload, 1) := by decide +kernel
theorem d76_75 : decode (am_code 76) 75 = .ok (.iload_n 1, 1) := by decide +kernel
theorem d76_76 : decode (am_code 76) 76 = .ok (.if_icmp .ne 6, 3) := by decide +kernel
theorem d76_79 : decode (am_code 76) 79 = .ok (.iinc 2 1, 3) := by decide +kernel
theorem d76_82 : decode (am_code 76) 82 = .ok (.iinc 5 1, 3) := by decide +kernel
theorem d76_85 : decode (am_code 76) 85 = .ok (.goto (-45), 3) := by decide +kernel
theorem d76_88 : decode (am_code 76) 88 = .ok (.iinc 3 1, 3) := by decide +kernel
theorem d76_91 : decode (am_code 76) 91 = .ok (.goto (-87), 3) := by decide +kernel
theorem d76_94 : decode (am_code 76) 94 = .ok (.iload_n 2, 1) := by decide +kernel
theorem d76_95 : decode (am_code 76) 95 = .ok (.ireturn, 1) := by decide +kernel
theorem f76_39 : am_find am_ftL (am_mc 76) 39 = some (5, 0) := by decide +kernel
theorem f76_23 : am_find am_ftL (am_mc 76) 23 = some (5, 4) := by decide +kernel
theorem f76_112 : am_find am_ftL (am_mc 76) 112 = some (0, 3) := by decide +kernel
theorem c76_118 : am_find am_ctL (am_mc 76) 118 = some (0, 60) ∧ am_na 60 = 1 ∧ am_fr 60 + 1 ≤ am_fr 76 ∧ 8 + (am_maxL 60 + 11) + am_lo 60 ≤ am_lo 76 := by decide +kernel
theorem c76_53 : am_find am_ctL (am_mc 76) 53 = some (0, 64) ∧ am_na 64 = 1 ∧ am_fr 64 + 1 ≤ am_fr 76 ∧ 8 + (am_maxL 64 + 11) + am_lo 64 ≤ am_lo 76 := by decide +kernel
theorem l76 : am_maxL 76 = 6 := by decide +kernel
theorem t76 : am_ret 76 = (some .int) := by decide +kernel
/-! ThirdSheets$Space.cornersOf(I)I is 77 -/
theorem d77_0 : decode (am_code 77) 0 = .ok (.iconst 0, 1) := by decide +kernel
theorem d77_1 : decode (am_code 77) 1 = .ok (.istore_n 2, 1) := by decide +kernel
theorem d77_2 : decode (am_code 77) 2 = .ok (.iconst 0, 1) := by decide +kernel
theorem d77_3 : decode (am_code 77) 3 = .ok (.istore_n 3, 1) := by decide +kernel
theorem d77_4 : decode (am_code 77) 4 = .ok (.iload_n 3, 1) := by decide +kernel
theorem d77_5 : decode (am_code 77) 5 = .ok (.iconst 4, 1) := by decide +kernel
theorem d77_6 : decode (am_code 77) 6 = .ok (.aload_n 0, 1) := by decide +kernel
theorem d77_7 : decode (am_code 77) 7 = .ok (.getfield 39, 3) := by decide +kernel
theorem d77_10 : decode (am_code 77) 10 = .ok (.imul, 1) := by decide +kernel
theorem d77_11 : decode (am_code 77) 11 = .ok (.if_icmp .ge 25, 3) := by decide +kernel
theorem d77_14 : decode (am_code 77) 14 = .ok (.aload_n 0, 1) := by decide +kernel
theorem d77_15 : decode (am_code 77) 15 = .ok (.getfield 23, 3) := by decide +kernel
theorem d77_18 : decode (am_code 77) 18 = .ok (.getfield 112, 3) := by decide +kernel
theorem d77_21 : decode (am_code 77) 21 = .ok (.iload_n 3, 1) := by decide +kernel
theorem d77_22 : decode (am_code 77) 22 = .ok (.iaload, 1) := by decide +kernel
theorem d77_23 : decode (am_code 77) 23 = .ok (.iload_n 1, 1) := by decide +kernel
theorem d77_24 : decode (am_code 77) 24 = .ok (.if_icmp .ne 6, 3) := by decide +kernel
theorem d77_27 : decode (am_code 77) 27 = .ok (.iinc 2 1, 3) := by decide +kernel
theorem d77_30 : decode (am_code 77) 30 = .ok (.iinc 3 1, 3) := by decide +kernel
theorem d77_33 : decode (am_code 77) 33 = .ok (.goto (-29), 3) := by decide +kernel
theorem d77_36 : decode (am_code 77) 36 = .ok (.iload_n 2, 1) := by decide +kernel
theorem d77_37 : decode (am_code 77) 37 = .ok (.ireturn, 1) := by decide +kernel
theorem f77_39 : am_find am_ftL (am_mc 77) 39 = some (5, 0) := by decide +kernel
theorem f77_23 : am_find am_ftL (am_mc 77) 23 = some (5, 4) := by decide +kernel
theorem f77_112 : am_find am_ftL (am_mc 77) 112 = some (0, 3) := by decide +kernel
theorem l77 : am_maxL 77 = 4 := by decide +kernel
theorem t77 : am_ret 77 = (some .int) := by decide +kernel
/-! ThirdSheets.<init>()V is 78 -/
theorem d78_0 : decode (am_code 78) 0 = .ok (.aload_n 0, 1) := by decide +kernel
theorem d78_1 : decode (am_code 78) 1 = .ok (.invokespecial 1, 3) := by decide +kernel
theorem d78_4 : decode (am_code 78) 4 = .ok (.aload_n 0, 1) := by decide +kernel
theorem d78_5 : decode (am_code 78) 5 = .ok (.new 7, 3) := by decide +kernel
theorem d78_8 : decode (am_code 78) 8 = .ok (.dup, 1) := by decide +kernel
theorem d78_9 : decode (am_code 78) 9 = .ok (.invokespecial 9, 3) := by decide +kernel
theorem d78_12 : decode (am_code 78) 12 = .ok (.putfield 10, 3) := by decide +kernel
theorem d78_15 : decode (am_code 78) 15 = .ok (.aload_n 0, 1) := by decide +kernel
theorem d78_16 : decode (am_code 78) 16 = .ok (.new 16, 3) := by decide +kernel
theorem d78_19 : decode (am_code 78) 19 = .ok (.dup, 1) := by decide +kernel
theorem d78_20 : decode (am_code 78) 20 = .ok (.invokespecial 18, 3) := by decide +kernel
theorem d78_23 : decode (am_code 78) 23 = .ok (.putfield 19, 3) := by decide +kernel
theorem d78_26 : decode (am_code 78) 26 = .ok (.aload_n 0, 1) := by decide +kernel
theorem d78_27 : decode (am_code 78) 27 = .ok (.new 23, 3) := by decide +kernel
theorem d78_30 : decode (am_code 78) 30 = .ok (.dup, 1) := by decide +kernel
theorem d78_31 : decode (am_code 78) 31 = .ok (.invokespecial 25, 3) := by decide +kernel
theorem d78_34 : decode (am_code 78) 34 = .ok (.putfield 26, 3) := by decide +kernel
theorem d78_37 : decode (am_code 78) 37 = .ok (.aload_n 0, 1) := by decide +kernel
theorem d78_38 : decode (am_code 78) 38 = .ok (.new 30, 3) := by decide +kernel
theorem d78_41 : decode (am_code 78) 41 = .ok (.dup, 1) := by decide +kernel
theorem d78_42 : decode (am_code 78) 42 = .ok (.invokespecial 32, 3) := by decide +kernel
theorem d78_45 : decode (am_code 78) 45 = .ok (.putfield 33, 3) := by decide +kernel
theorem d78_48 : decode (am_code 78) 48 = .ok (.aload_n 0, 1) := by decide +kernel
theorem d78_49 : decode (am_code 78) 49 = .ok (.new 37, 3) := by decide +kernel
theorem d78_52 : decode (am_code 78) 52 = .ok (.dup, 1) := by decide +kernel
theorem d78_53 : decode (am_code 78) 53 = .ok (.invokespecial 39, 3) := by decide +kernel
theorem d78_56 : decode (am_code 78) 56 = .ok (.putfield 40, 3) := by decide +kernel
theorem d78_59 : decode (am_code 78) 59 = .ok (.aload_n 0, 1) := by decide +kernel
theorem d78_60 : decode (am_code 78) 60 = .ok (.iconst 1, 1) := by decide +kernel
theorem d78_61 : decode (am_code 78) 61 = .ok (.putfield 44, 3) := by decide +kernel
theorem d78_64 : decode (am_code 78) 64 = .ok (.aload_n 0, 1) := by decide +kernel
theorem d78_65 : decode (am_code 78) 65 = .ok (.iconst 1, 1) := by decide +kernel
theorem d78_66 : decode (am_code 78) 66 = .ok (.putfield 48, 3) := by decide +kernel
theorem d78_69 : decode (am_code 78) 69 = .ok (.return_, 1) := by decide +kernel
theorem f78_10 : am_find am_ftL (am_mc 78) 10 = some (6, 0) := by decide +kernel
theorem f78_19 : am_find am_ftL (am_mc 78) 19 = some (6, 1) := by decide +kernel
theorem f78_26 : am_find am_ftL (am_mc 78) 26 = some (6, 2) := by decide +kernel
theorem f78_33 : am_find am_ftL (am_mc 78) 33 = some (6, 3) := by decide +kernel
theorem f78_40 : am_find am_ftL (am_mc 78) 40 = some (6, 4) := by decide +kernel
theorem f78_44 : am_find am_ftL (am_mc 78) 44 = some (6, 5) := by decide +kernel
theorem f78_48 : am_find am_ftL (am_mc 78) 48 = some (6, 6) := by decide +kernel
theorem c78_1 : am_find am_ctL (am_mc 78) 1 = some (4, 0) := by decide +kernel
theorem c78_9 : am_find am_ctL (am_mc 78) 9 = some (2, 57) ∧ am_na 57 = 0 ∧ am_fr 57 + 1 ≤ am_fr 78 ∧ 8 + (am_maxL 57 + 11) + am_lo 57 ≤ am_lo 78 := by decide +kernel
theorem c78_18 : am_find am_ctL (am_mc 78) 18 = some (2, 20) ∧ am_na 20 = 0 ∧ am_fr 20 + 1 ≤ am_fr 78 ∧ 8 + (am_maxL 20 + 11) + am_lo 20 ≤ am_lo 78 := by decide +kernel
theorem c78_25 : am_find am_ctL (am_mc 78) 25 = some (2, 7) ∧ am_na 7 = 0 ∧ am_fr 7 + 1 ≤ am_fr 78 ∧ 8 + (am_maxL 7 + 11) + am_lo 7 ≤ am_lo 78 := by decide +kernel
theorem c78_32 : am_find am_ctL (am_mc 78) 32 = some (2, 44) ∧ am_na 44 = 0 ∧ am_fr 44 + 1 ≤ am_fr 78 ∧ 8 + (am_maxL 44 + 11) + am_lo 44 ≤ am_lo 78 := by decide +kernel
theorem c78_39 : am_find am_ctL (am_mc 78) 39 = some (2, 34) ∧ am_na 34 = 0 ∧ am_fr 34 + 1 ≤ am_fr 78 ∧ 8 + (am_maxL 34 + 11) + am_lo 34 ≤ am_lo 78 := by decide +kernel
theorem l78 : am_maxL 78 = 1 := by decide +kernel
theorem t78 : am_ret 78 = none := by decide +kernel
/-! ThirdSheets.piece()I is 79 -/
theorem d79_0 : decode (am_code 79) 0 = .ok (.aload_n 0, 1) := by decide +kernel
theorem d79_1 : decode (am_code 79) 1 = .ok (.getfield 10, 3) := by decide +kernel
theorem d79_4 : decode (am_code 79) 4 = .ok (.getfield 51, 3) := by decide +kernel
theorem d79_7 : decode (am_code 79) 7 = .ok (.iconst 3, 1) := by decide +kernel
theorem d79_8 : decode (am_code 79) 8 = .ok (.if_icmp .lt 6, 3) := by decide +kernel
theorem d79_11 : decode (am_code 79) 11 = .ok (.bipush (-4), 2) := by decide +kernel
theorem d79_13 : decode (am_code 79) 13 = .ok (.ireturn, 1) := by decide +kernel
theorem d79_14 : decode (am_code 79) 14 = .ok (.aload_n 0, 1) := by decide +kernel
theorem d79_15 : decode (am_code 79) 15 = .ok (.getfield 10, 3) := by decide +kernel
theorem d79_18 : decode (am_code 79) 18 = .ok (.invokevirtual 55, 3) := by decide +kernel
theorem d79_21 : decode (am_code 79) 21 = .ok (.aload_n 0, 1) := by decide +kernel
theorem d79_22 : decode (am_code 79) 22 = .ok (.getfield 33, 3) := by decide +kernel
theorem d79_25 : decode (am_code 79) 25 = .ok (.invokevirtual 58, 3) := by decide +kernel
theorem d79_28 : decode (am_code 79) 28 = .ok (.aload_n 0, 1) := by decide +kernel
theorem d79_29 : decode (am_code 79) 29 = .ok (.invokevirtual 61, 3) := by decide +kernel
theorem d79_32 : decode (am_code 79) 32 = .ok (.aload_n 0, 1) := by decide +kernel
theorem d79_33 : decode (am_code 79) 33 = .ok (.getfield 10, 3) := by decide +kernel
theorem d79_36 : decode (am_code 79) 36 = .ok (.getfield 51, 3) := by decide +kernel
theorem d79_39 : decode (am_code 79) 39 = .ok (.iconst 1, 1) := by decide +kernel
theorem d79_40 : decode (am_code 79) 40 = .ok (.isub, 1) := by decide +kernel
theorem d79_41 : decode (am_code 79) 41 = .ok (.ireturn, 1) := by decide +kernel
theorem f79_10 : am_find am_ftL (am_mc 79) 10 = some (6, 0) := by decide +kernel
theorem f79_51 : am_find am_ftL (am_mc 79) 51 = some (5, 0) := by decide +kernel
theorem f79_33 : am_find am_ftL (am_mc 79) 33 = some (6, 3) := by decide +kernel
theorem c79_55 : am_find am_ctL (am_mc 79) 55 = some (0, 58) ∧ am_na 58 = 0 ∧ am_fr 58 + 1 ≤ am_fr 79 ∧ 8 + (am_maxL 58 + 11) + am_lo 58 ≤ am_lo 79 := by decide +kernel
theorem c79_58 : am_find am_ctL (am_mc 79) 58 = some (0, 45) ∧ am_na 45 = 0 ∧ am_fr 45 + 1 ≤ am_fr 79 ∧ 8 + (am_maxL 45 + 11) + am_lo 45 ≤ am_lo 79 := by decide +kernel
theorem c79_61 : am_find am_ctL (am_mc 79) 61 = some (0, 103) ∧ am_na 103 = 0 ∧ am_fr 103 + 1 ≤ am_fr 79 ∧ 8 + (am_maxL 103 + 11) + am_lo 103 ≤ am_lo 79 := by decide +kernel
theorem l79 : am_maxL 79 = 1 := by decide +kernel
theorem t79 : am_ret 79 = (some .int) := by decide +kernel
/-! ThirdSheets.glue(IIIII)I is 80 -/
theorem d80_0 : decode (am_code 80) 0 = .ok (.aload_n 0, 1) := by decide +kernel
theorem d80_1 : decode (am_code 80) 1 = .ok (.iload_n 1, 1) := by decide +kernel
theorem d80_2 : decode (am_code 80) 2 = .ok (.iload_n 2, 1) := by decide +kernel
theorem d80_3 : decode (am_code 80) 3 = .ok (.invokevirtual 64, 3) := by decide +kernel
theorem d80_6 : decode (am_code 80) 6 = .ok (.ifCond .eq 34, 3) := by decide +kernel
theorem d80_9 : decode (am_code 80) 9 = .ok (.aload_n 0, 1) := by decide +kernel
theorem d80_10 : decode (am_code 80) 10 = .ok (.iload_n 3, 1) := by decide +kernel
theorem d80_11 : decode (am_code 80) 11 = .ok (.iload 4, 2) := by decide +kernel
theorem d80_13 : decode (am_code 80) 13 = .ok (.invokevirtual 64, 3) := by decide +kernel
theorem d80_16 : decode (am_code 80) 16 = .ok (.ifCond .eq 24, 3) := by decide +kernel
theorem d80_19 : decode (am_code 80) 19 = .ok (.iload_n 1, 1) := by decide +kernel
theorem d80_20 : decode (am_code 80) 20 = .ok (.iload_n 3, 1) := by decide +kernel
theorem d80_21 : decode (am_code 80) 21 = .ok (.if_icmp .ne 9, 3) := by decide +kernel
theorem d80_24 : decode (am_code 80) 24 = .ok (.iload_n 2, 1) := by decide +kernel
theorem d80_25 : decode (am_code 80) 25 = .ok (.iload 4, 2) := by decide +kernel
theorem d80_27 : decode (am_code 80) 27 = .ok (.if_icmp .eq 13, 3) := by decide +kernel
theorem d80_30 : decode (am_code 80) 30 = .ok (.iload 5, 2) := by decide +kernel
theorem d80_32 : decode (am_code 80) 32 = .ok (.iload 4, 2) := by decide +kernel
theorem d80_34 : decode (am_code 80) 34 = .ok (.invokestatic 68, 3) := by decide +kernel
theorem d80_37 : decode (am_code 80) 37 = .ok (.ifCond .ne 6, 3) := by decide +kernel
theorem d80_40 : decode (am_code 80) 40 = .ok (.bipush (-2), 2) := by decide +kernel
theorem d80_42 : decode (am_code 80) 42 = .ok (.ireturn, 1) := by decide +kernel
theorem d80_43 : decode (am_code 80) 43 = .ok (.iconst 4, 1) := by decide +kernel
theorem d80_44 : decode (am_code 80) 44 = .ok (.iload_n 1, 1) := by decide +kernel
theorem d80_45 : decode (am_code 80) 45 = .ok (.imul, 1) := by decide +kernel
theorem d80_46 : decode (am_code 80) 46 = .ok (.iload_n 2, 1) := by decide +kernel
theorem d80_47 : decode (am_code 80) 47 = .ok (.iadd, 1) := by decide +kernel
theorem d80_48 : decode (am_code 80) 48 = .ok (.istore 6, 2) := by decide +kernel
theorem d80_50 : decode (am_code 80) 50 = .ok (.iconst 4, 1) := by decide +kernel
theorem d80_51 : decode (am_code 80) 51 = .ok (.iload_n 3, 1) := by decide +kernel
theorem d80_52 : decode (am_code 80) 52 = .ok (.imul, 1) := by decide +kernel
theorem d80_53 : decode (am_code 80) 53 = .ok (.iload 4, 2) := by decide +kernel
theorem d80_55 : decode (am_code 80) 55 = .ok (.iadd, 1) := by decide +kernel
theorem d80_56 : decode (am_code 80) 56 = .ok (.istore 7, 2) := by decide +kernel
theorem d80_58 : decode (am_code 80) 58 = .ok (.aload_n 0, 1) := by decide +kernel
theorem d80_59 : decode (am_code 80) 59 = .ok (.getfield 10, 3) := by decide +kernel
theorem d80_62 : decode (am_code 80) 62 = .ok (.iload 6, 2) := by decide +kernel
theorem d80_64 : decode (am_code 80) 64 = .ok (.invokevirtual 71, 3) := by decide +kernel
theorem d80_67 : decode (am_code 80) 67 = .ok (.ifCond .ne 15, 3) := by decide +kernel
theorem d80_70 : decode (am_code 80) 70 = .ok (.aload_n 0, 1) := by decide +kernel
theorem d80_71 : decode (am_code 80) 71 = .ok (.getfield 10, 3) := by decide +kernel
theorem d80_74 : decode (am_code 80) 74 = .ok (.iload 7, 2) := by decide +kernel
theorem d80_76 : decode (am_code 80) 76 = .ok (.invokevirtual 71, 3) := by decide +kernel
theorem d80_79 : decode (am_code 80) 79 = .ok (.ifCond .eq 6, 3) := by decide +kernel
theorem d80_82 : decode (am_code 80) 82 = .ok (.bipush (-3), 2) := by decide +kernel
theorem d80_84 : decode (am_code 80) 84 = .ok (.ireturn, 1) := by decide +kernel
theorem d80_85 : decode (am_code 80) 85 = .ok (.aload_n 0, 1) := by decide +kernel
theorem d80_86 : decode (am_code 80) 86 = .ok (.getfield 10, 3) := by decide +kernel
theorem d80_89 : decode (am_code 80) 89 = .ok (.iload 6, 2) := by decide +kernel
theorem d80_91 : decode (am_code 80) 91 = .ok (.iload 7, 2) := by decide +kernel
theorem d80_93 : decode (am_code 80) 93 = .ok (.iload 5, 2) := by decide +kernel
theorem d80_95 : decode (am_code 80) 95 = .ok (.invokevirtual 75, 3) := by decide +kernel
theorem d80_98 : decode (am_code 80) 98 = .ok (.aload_n 0, 1) := by decide +kernel
theorem d80_99 : decode (am_code 80) 99 = .ok (.invokevirtual 61, 3) := by decide +kernel
theorem d80_102 : decode (am_code 80) 102 = .ok (.iconst 1, 1) := by decide +kernel
theorem d80_103 : decode (am_code 80) 103 = .ok (.ireturn, 1) := by decide +kernel
theorem f80_10 : am_find am_ftL (am_mc 80) 10 = some (6, 0) := by decide +kernel
theorem c80_64 : am_find am_ctL (am_mc 80) 64 = some (0, 99) ∧ am_na 99 = 2 ∧ am_fr 99 + 1 ≤ am_fr 80 ∧ 8 + (am_maxL 99 + 11) + am_lo 99 ≤ am_lo 80 := by decide +kernel
theorem c80_68 : am_find am_ctL (am_mc 80) 68 = some (1, 102) ∧ am_na 102 = 2 ∧ am_fr 102 + 1 ≤ am_fr 80 ∧ 8 + (am_maxL 102 + 11) + am_lo 102 ≤ am_lo 80 := by decide +kernel
theorem c80_71 : am_find am_ctL (am_mc 80) 71 = some (0, 60) ∧ am_na 60 = 1 ∧ am_fr 60 + 1 ≤ am_fr 80 ∧ 8 + (am_maxL 60 + 11) + am_lo 60 ≤ am_lo 80 := by decide +kernel
theorem c80_75 : am_find am_ctL (am_mc 80) 75 = some (0, 61) ∧ am_na 61 = 3 ∧ am_fr 61 + 1 ≤ am_fr 80 ∧ 8 + (am_maxL 61 + 11) + am_lo 61 ≤ am_lo 80 := by decide +kernel
theorem c80_61 : am_find am_ctL (am_mc 80) 61 = some (0, 103) ∧ am_na 103 = 0 ∧ am_fr 103 + 1 ≤ am_fr 80 ∧ 8 + (am_maxL 103 + 11) + am_lo 103 ≤ am_lo 80 := by decide +kernel
theorem l80 : am_maxL 80 = 8 := by decide +kernel
theorem t80 : am_ret 80 = (some .int) := by decide +kernel
/-! ThirdSheets.open(II)I is 81 -/
theorem d81_0 : decode (am_code 81) 0 = .ok (.aload_n 0, 1) := by decide +kernel
theorem d81_1 : decode (am_code 81) 1 = .ok (.iload_n 1, 1) := by decide +kernel
theorem d81_2 : decode (am_code 81) 2 = .ok (.iload_n 2, 1) := by decide +kernel
theorem d81_3 : decode (am_code 81) 3 = .ok (.invokevirtual 64, 3) := by decide +kernel
theorem d81_6 : decode (am_code 81) 6 = .ok (.ifCond .ne 6, 3) := by decide +kernel
theorem d81_9 : decode (am_code 81) 9 = .ok (.bipush (-2), 2) := by decide +kernel
theorem d81_11 : decode (am_code 81) 11 = .ok (.ireturn, 1) := by decide +kernel
theorem d81_12 : decode (am_code 81) 12 = .ok (.iconst 4, 1) := by decide +kernel
theorem d81_13 : decode (am_code 81) 13 = .ok (.iload_n 1, 1) := by decide +kernel
theorem d81_14 : decode (am_code 81) 14 = .ok (.imul, 1) := by decide +kernel
theorem d81_15 : decode (am_code 81) 15 = .ok (.iload_n 2, 1) := by decide +kernel
theorem d81_16 : decode (am_code 81) 16 = .ok (.iadd, 1) := by decide +kernel
theorem d81_17 : decode (am_code 81) 17 = .ok (.istore_n 3, 1) := by decide +kernel
theorem d81_18 : decode (am_code 81) 18 = .ok (.aload_n 0, 1) := by decide +kernel
theorem d81_19 : decode (am_code 81) 19 = .ok (.getfield 10, 3) := by decide +kernel
theorem d81_22 : decode (am_code 81) 22 = .ok (.iload_n 3, 1) := by decide +kernel
theorem d81_23 : decode (am_code 81) 23 = .ok (.invokevirtual 71, 3) := by decide +kernel
theorem d81_26 : decode (am_code 81) 26 = .ok (.ifCond .ne 6, 3) := by decide +kernel
theorem d81_29 : decode (am_code 81) 29 = .ok (.bipush (-3), 2) := by decide +kernel
theorem d81_31 : decode (am_code 81) 31 = .ok (.ireturn, 1) := by decide +kernel
theorem d81_32 : decode (am_code 81) 32 = .ok (.aload_n 0, 1) := by decide +kernel
theorem d81_33 : decode (am_code 81) 33 = .ok (.getfield 10, 3) := by decide +kernel
theorem d81_36 : decode (am_code 81) 36 = .ok (.iload_n 3, 1) := by decide +kernel
theorem d81_37 : decode (am_code 81) 37 = .ok (.invokevirtual 79, 3) := by decide +kernel
theorem d81_40 : decode (am_code 81) 40 = .ok (.aload_n 0, 1) := by decide +kernel
theorem d81_41 : decode (am_code 81) 41 = .ok (.invokevirtual 61, 3) := by decide +kernel
theorem d81_44 : decode (am_code 81) 44 = .ok (.iconst 1, 1) := by decide +kernel
theorem d81_45 : decode (am_code 81) 45 = .ok (.ireturn, 1) := by decide +kernel
theorem f81_10 : am_find am_ftL (am_mc 81) 10 = some (6, 0) := by decide +kernel
theorem c81_64 : am_find am_ctL (am_mc 81) 64 = some (0, 99) ∧ am_na 99 = 2 ∧ am_fr 99 + 1 ≤ am_fr 81 ∧ 8 + (am_maxL 99 + 11) + am_lo 99 ≤ am_lo 81 := by decide +kernel
theorem c81_71 : am_find am_ctL (am_mc 81) 71 = some (0, 60) ∧ am_na 60 = 1 ∧ am_fr 60 + 1 ≤ am_fr 81 ∧ 8 + (am_maxL 60 + 11) + am_lo 60 ≤ am_lo 81 := by decide +kernel
theorem c81_79 : am_find am_ctL (am_mc 81) 79 = some (0, 63) ∧ am_na 63 = 1 ∧ am_fr 63 + 1 ≤ am_fr 81 ∧ 8 + (am_maxL 63 + 11) + am_lo 63 ≤ am_lo 81 := by decide +kernel
theorem c81_61 : am_find am_ctL (am_mc 81) 61 = some (0, 103) ∧ am_na 103 = 0 ∧ am_fr 103 + 1 ≤ am_fr 81 ∧ 8 + (am_maxL 103 + 11) + am_lo 103 ≤ am_lo 81 := by decide +kernel
theorem l81 : am_maxL 81 = 4 := by decide +kernel
theorem t81 : am_ret 81 = (some .int) := by decide +kernel
/-! ThirdSheets.clear()I is 82 -/
theorem d82_0 : decode (am_code 82) 0 = .ok (.aload_n 0, 1) := by decide +kernel
theorem d82_1 : decode (am_code 82) 1 = .ok (.getfield 10, 3) := by decide +kernel
theorem d82_4 : decode (am_code 82) 4 = .ok (.getfield 51, 3) := by decide +kernel
theorem d82_7 : decode (am_code 82) 7 = .ok (.istore_n 1, 1) := by decide +kernel
theorem d82_8 : decode (am_code 82) 8 = .ok (.aload_n 0, 1) := by decide +kernel
theorem d82_9 : decode (am_code 82) 9 = .ok (.getfield 10, 3) := by decide +kernel
theorem d82_12 : decode (am_code 82) 12 = .ok (.invokevirtual 83, 3) := by decide +kernel
theorem d82_15 : decode (am_code 82) 15 = .ok (.aload_n 0, 1) := by decide +kernel
theorem d82_16 : decode (am_code 82) 16 = .ok (.getfield 33, 3) := by decide +kernel
theorem d82_19 : decode (am_code 82) 19 = .ok (.invokevirtual 58, 3) := by decide +kernel
theorem d82_22 : decode (am_code 82) 22 = .ok (.aload_n 0, 1) := by decide +kernel
theorem d82_23 : decode (am_code 82) 23 = .ok (.invokevirtual 61, 3) := by decide +kernel
theorem d82_26 : decode (am_code 82) 26 = .ok (.iload_n 1, 1) := by decide +kernel
theorem d82_27 : decode (am_code 82) 27 = .ok (.ireturn, 1) := by decide +kernel
theorem f82_10 : am_find am_ftL (am_mc 82) 10 = some (6, 0) := by decide +kernel
theorem f82_51 : am_find am_ftL (am_mc 82) 51 = some (5, 0) := by decide +kernel
theorem f82_33 : am_find am_ftL (am_mc 82) 33 = some (6, 3) := by decide +kernel
theorem c82_83 : am_find am_ctL (am_mc 82) 83 = some (0, 59) ∧ am_na 59 = 0 ∧ am_fr 59 + 1 ≤ am_fr 82 ∧ 8 + (am_maxL 59 + 11) + am_lo 59 ≤ am_lo 82 := by decide +kernel
theorem c82_58 : am_find am_ctL (am_mc 82) 58 = some (0, 45) ∧ am_na 45 = 0 ∧ am_fr 45 + 1 ≤ am_fr 82 ∧ 8 + (am_maxL 45 + 11) + am_lo 45 ≤ am_lo 82 := by decide +kernel
theorem c82_61 : am_find am_ctL (am_mc 82) 61 = some (0, 103) ∧ am_na 103 = 0 ∧ am_fr 103 + 1 ≤ am_fr 82 ∧ 8 + (am_maxL 103 + 11) + am_lo 103 ≤ am_lo 82 := by decide +kernel
theorem l82 : am_maxL 82 = 2 := by decide +kernel
theorem t82 : am_ret 82 = (some .int) := by decide +kernel
/-! ThirdSheets.across(III)I is 83 -/
theorem d83_0 : decode (am_code 83) 0 = .ok (.aload_n 0, 1) := by decide +kernel
theorem d83_1 : decode (am_code 83) 1 = .ok (.iload_n 1, 1) := by decide +kernel
theorem d83_2 : decode (am_code 83) 2 = .ok (.iload_n 2, 1) := by decide +kernel
theorem d83_3 : decode (am_code 83) 3 = .ok (.invokevirtual 64, 3) := by decide +kernel
theorem d83_6 : decode (am_code 83) 6 = .ok (.ifCond .eq 12, 3) := by decide +kernel
theorem d83_9 : decode (am_code 83) 9 = .ok (.iload_n 3, 1) := by decide +kernel
theorem d83_10 : decode (am_code 83) 10 = .ok (.ifCond .lt 8, 3) := by decide +kernel
theorem d83_13 : decode (am_code 83) 13 = .ok (.iload_n 3, 1) := by decide +kernel
theorem d83_14 : decode (am_code 83) 14 = .ok (.iconst 1, 1) := by decide +kernel
theorem d83_15 : decode (am_code 83) 15 = .ok (.if_icmp .le 6, 3) := by decide +kernel
theorem d83_18 : decode (am_code 83) 18 = .ok (.bipush (-2), 2) := by decide +kernel
theorem d83_20 : decode (am_code 83) 20 = .ok (.ireturn, 1) := by decide +kernel
theorem d83_21 : decode (am_code 83) 21 = .ok (.iconst 4, 1) := by decide +kernel
theorem d83_22 : decode (am_code 83) 22 = .ok (.iload_n 1, 1) := by decide +kernel
theorem d83_23 : decode (am_code 83) 23 = .ok (.imul, 1) := by decide +kernel
theorem d83_24 : decode (am_code 83) 24 = .ok (.iload_n 2, 1) := by decide +kernel
theorem d83_25 : decode (am_code 83) 25 = .ok (.iadd, 1) := by decide +kernel
theorem d83_26 : decode (am_code 83) 26 = .ok (.istore 4, 2) := by decide +kernel
theorem d83_28 : decode (am_code 83) 28 = .ok (.aload_n 0, 1) := by decide +kernel
theorem d83_29 : decode (am_code 83) 29 = .ok (.getfield 10, 3) := by decide +kernel
theorem d83_32 : decode (am_code 83) 32 = .ok (.iload 4, 2) := by decide +kernel
theorem d83_34 : decode (am_code 83) 34 = .ok (.invokevirtual 71, 3) := by decide +kernel
theorem d83_37 : decode (am_code 83) 37 = .ok (.ifCond .ne 5, 3) := by decide +kernel
theorem d83_40 : decode (am_code 83) 40 = .ok (.iconst (-1), 1) := by decide +kernel
theorem d83_41 : decode (am_code 83) 41 = .ok (.ireturn, 1) := by decide +kernel
theorem d83_42 : decode (am_code 83) 42 = .ok (.aload_n 0, 1) := by decide +kernel
theorem d83_43 : decode (am_code 83) 43 = .ok (.getfield 10, 3) := by decide +kernel
theorem d83_46 : decode (am_code 83) 46 = .ok (.getfield 86, 3) := by decide +kernel
theorem d83_49 : decode (am_code 83) 49 = .ok (.iload 4, 2) := by decide +kernel
theorem d83_51 : decode (am_code 83) 51 = .ok (.iaload, 1) := by decide +kernel
theorem d83_52 : decode (am_code 83) 52 = .ok (.istore 5, 2) := by decide +kernel
theorem d83_54 : decode (am_code 83) 54 = .ok (.iload_n 3, 1) := by decide +kernel
theorem d83_55 : decode (am_code 83) 55 = .ok (.ifCond .ne 10, 3) := by decide +kernel
theorem d83_58 : decode (am_code 83) 58 = .ok (.iload 5, 2) := by decide +kernel
theorem d83_60 : decode (am_code 83) 60 = .ok (.iconst 4, 1) := by decide +kernel
theorem d83_61 : decode (am_code 83) 61 = .ok (.idiv, 1) := by decide +kernel
theorem d83_62 : decode (am_code 83) 62 = .ok (.goto 7, 3) := by decide +kernel
theorem d83_65 : decode (am_code 83) 65 = .ok (.iload 5, 2) := by decide +kernel
theorem d83_67 : decode (am_code 83) 67 = .ok (.iconst 4, 1) := by decide +kernel
theorem d83_68 : decode (am_code 83) 68 = .ok (.irem, 1) := by decide +kernel
theorem d83_69 : decode (am_code 83) 69 = .ok (.ireturn, 1) := by decide +kernel
theorem f83_10 : am_find am_ftL (am_mc 83) 10 = some (6, 0) := by decide +kernel
theorem f83_86 : am_find am_ftL (am_mc 83) 86 = some (5, 2) := by decide +kernel
theorem c83_64 : am_find am_ctL (am_mc 83) 64 = some (0, 99) ∧ am_na 99 = 2 ∧ am_fr 99 + 1 ≤ am_fr 83 ∧ 8 + (am_maxL 99 + 11) + am_lo 99 ≤ am_lo 83 := by decide +kernel
theorem c83_71 : am_find am_ctL (am_mc 83) 71 = some (0, 60) ∧ am_na 60 = 1 ∧ am_fr 60 + 1 ≤ am_fr 83 ∧ 8 + (am_maxL 60 + 11) + am_lo 60 ≤ am_lo 83 := by decide +kernel
theorem l83 : am_maxL 83 = 6 := by decide +kernel
theorem t83 : am_ret 83 = (some .int) := by decide +kernel
/-! ThirdSheets.classOf(III)I is 84 -/
theorem d84_0 : decode (am_code 84) 0 = .ok (.iload_n 1, 1) := by decide +kernel
theorem d84_1 : decode (am_code 84) 1 = .ok (.ifCond .lt 20, 3) := by decide +kernel
theorem d84_4 : decode (am_code 84) 4 = .ok (.iload_n 1, 1) := by decide +kernel
theorem d84_5 : decode (am_code 84) 5 = .ok (.iconst 1, 1) := by decide +kernel
theorem d84_6 : decode (am_code 84) 6 = .ok (.if_icmp .gt 15, 3) := by decide +kernel
theorem d84_9 : decode (am_code 84) 9 = .ok (.aload_n 0, 1) := by decide +kernel
theorem d84_10 : decode (am_code 84) 10 = .ok (.iload_n 2, 1) := by decide +kernel
theorem d84_11 : decode (am_code 84) 11 = .ok (.invokevirtual 90, 3) := by decide +kernel
theorem d84_14 : decode (am_code 84) 14 = .ok (.ifCond .eq 7, 3) := by decide +kernel
theorem d84_17 : decode (am_code 84) 17 = .ok (.iload_n 3, 1) := by decide +kernel
theorem d84_18 : decode (am_code 84) 18 = .ok (.ifCond .ge 6, 3) := by decide +kernel
theorem d84_21 : decode (am_code 84) 21 = .ok (.bipush (-2), 2) := by decide +kernel
theorem d84_23 : decode (am_code 84) 23 = .ok (.ireturn, 1) := by decide +kernel
theorem d84_24 : decode (am_code 84) 24 = .ok (.iload_n 1, 1) := by decide +kernel
theorem d84_25 : decode (am_code 84) 25 = .ok (.ifCond .ne 30, 3) := by decide +kernel
theorem d84_28 : decode (am_code 84) 28 = .ok (.iload_n 3, 1) := by decide +kernel
theorem d84_29 : decode (am_code 84) 29 = .ok (.iconst 4, 1) := by decide +kernel
theorem d84_30 : decode (am_code 84) 30 = .ok (.if_icmp .ge 22, 3) := by decide +kernel
theorem d84_33 : decode (am_code 84) 33 = .ok (.aload_n 0, 1) := by decide +kernel
theorem d84_34 : decode (am_code 84) 34 = .ok (.getfield 10, 3) := by decide +kernel
theorem d84_37 : decode (am_code 84) 37 = .ok (.getfield 93, 3) := by decide +kernel
theorem d84_40 : decode (am_code 84) 40 = .ok (.getfield 97, 3) := by decide +kernel
theorem d84_43 : decode (am_code 84) 43 = .ok (.iconst 4, 1) := by decide +kernel
theorem d84_44 : decode (am_code 84) 44 = .ok (.iload_n 2, 1) := by decide +kernel
theorem d84_45 : decode (am_code 84) 45 = .ok (.imul, 1) := by decide +kernel
theorem d84_46 : decode (am_code 84) 46 = .ok (.iload_n 3, 1) := by decide +kernel
theorem d84_47 : decode (am_code 84) 47 = .ok (.iadd, 1) := by decide +kernel
theorem d84_48 : decode (am_code 84) 48 = .ok (.iaload, 1) := by decide +kernel
theorem d84_49 : decode (am_code 84) 49 = .ok (.goto 5, 3) := by decide +kernel
theorem d84_52 : decode (am_code 84) 52 = .ok (.bipush (-2), 2) := by decide +kernel
theorem d84_54 : decode (am_code 84) 54 = .ok (.ireturn, 1) := by decide +kernel
theorem d84_55 : decode (am_code 84) 55 = .ok (.iload_n 3, 1) := by decide +kernel
theorem d84_56 : decode (am_code 84) 56 = .ok (.bipush 6, 2) := by decide +kernel
theorem d84_58 : decode (am_code 84) 58 = .ok (.if_icmp .ge 23, 3) := by decide +kernel
theorem d84_61 : decode (am_code 84) 61 = .ok (.aload_n 0, 1) := by decide +kernel
theorem d84_62 : decode (am_code 84) 62 = .ok (.getfield 10, 3) := by decide +kernel
theorem d84_65 : decode (am_code 84) 65 = .ok (.getfield 102, 3) := by decide +kernel
theorem d84_68 : decode (am_code 84) 68 = .ok (.getfield 97, 3) := by decide +kernel
theorem d84_71 : decode (am_code 84) 71 = .ok (.bipush 6, 2) := by decide +kernel
theorem d84_73 : decode (am_code 84) 73 = .ok (.iload_n 2, 1) := by decide +kernel
theorem d84_74 : decode (am_code 84) 74 = .ok (.imul, 1) := by decide +kernel
theorem d84_75 : decode (am_code 84) 75 = .ok (.iload_n 3, 1) := by decide +kernel
theorem d84_76 : decode (am_code 84) 76 = .ok (.iadd, 1) := by decide +kernel
theorem d84_77 : decode (am_code 84) 77 = .ok (.iaload, 1) := by decide +kernel
theorem d84_78 : decode (am_code 84) 78 = .ok (.goto 5, 3) := by decide +kernel
theorem d84_81 : decode (am_code 84) 81 = .ok (.bipush (-2), 2) := by decide +kernel
theorem d84_83 : decode (am_code 84) 83 = .ok (.ireturn, 1) := by decide +kernel
theorem f84_10 : am_find am_ftL (am_mc 84) 10 = some (6, 0) := by decide +kernel
theorem f84_93 : am_find am_ftL (am_mc 84) 93 = some (5, 4) := by decide +kernel
theorem f84_97 : am_find am_ftL (am_mc 84) 97 = some (0, 3) := by decide +kernel
theorem f84_102 : am_find am_ftL (am_mc 84) 102 = some (5, 5) := by decide +kernel
theorem c84_90 : am_find am_ctL (am_mc 84) 90 = some (0, 98) ∧ am_na 98 = 1 ∧ am_fr 98 + 1 ≤ am_fr 84 ∧ 8 + (am_maxL 98 + 11) + am_lo 98 ≤ am_lo 84 := by decide +kernel
theorem l84 : am_maxL 84 = 4 := by decide +kernel
theorem t84 : am_ret 84 = (some .int) := by decide +kernel
/-! ThirdSheets.bent(I)I is 85 -/
theorem d85_0 : decode (am_code 85) 0 = .ok (.iload_n 1, 1) := by decide +kernel
theorem d85_1 : decode (am_code 85) 1 = .ok (.ifCond .lt 17, 3) := by decide +kernel
theorem d85_4 : decode (am_code 85) 4 = .ok (.iload_n 1, 1) := by decide +kernel
theorem d85_5 : decode (am_code 85) 5 = .ok (.aload_n 0, 1) := by decide +kernel
theorem d85_6 : decode (am_code 85) 6 = .ok (.getfield 10, 3) := by decide +kernel
theorem d85_9 : decode (am_code 85) 9 = .ok (.getfield 102, 3) := by decide +kernel
theorem d85_12 : decode (am_code 85) 12 = .ok (.getfield 105, 3) := by decide +kernel
theorem d85_15 : decode (am_code 85) 15 = .ok (.if_icmp .lt 6, 3) := by decide +kernel
theorem d85_18 : decode (am_code 85) 18 = .ok (.bipush (-2), 2) := by decide +kernel
theorem d85_20 : decode (am_code 85) 20 = .ok (.ireturn, 1) := by decide +kernel
theorem d85_21 : decode (am_code 85) 21 = .ok (.aload_n 0, 1) := by decide +kernel
theorem d85_22 : decode (am_code 85) 22 = .ok (.getfield 10, 3) := by decide +kernel
theorem d85_25 : decode (am_code 85) 25 = .ok (.getfield 102, 3) := by decide +kernel
theorem d85_28 : decode (am_code 85) 28 = .ok (.iload_n 1, 1) := by decide +kernel
theorem d85_29 : decode (am_code 85) 29 = .ok (.invokevirtual 108, 3) := by decide +kernel
theorem d85_32 : decode (am_code 85) 32 = .ok (.ifCond .eq 7, 3) := by decide +kernel
theorem d85_35 : decode (am_code 85) 35 = .ok (.iconst 1, 1) := by decide +kernel
theorem d85_36 : decode (am_code 85) 36 = .ok (.goto 4, 3) := by decide +kernel
theorem d85_39 : decode (am_code 85) 39 = .ok (.iconst 0, 1) := by decide +kernel
theorem d85_40 : decode (am_code 85) 40 = .ok (.ireturn, 1) := by decide +kernel
theorem f85_10 : am_find am_ftL (am_mc 85) 10 = some (6, 0) := by decide +kernel
theorem f85_102 : am_find am_ftL (am_mc 85) 102 = some (5, 5) := by decide +kernel
theorem f85_105 : am_find am_ftL (am_mc 85) 105 = some (0, 6) := by decide +kernel
theorem c85_108 : am_find am_ctL (am_mc 85) 108 = some (0, 5) ∧ am_na 5 = 1 ∧ am_fr 5 + 1 ≤ am_fr 85 ∧ 8 + (am_maxL 5 + 11) + am_lo 5 ≤ am_lo 85 := by decide +kernel
theorem l85 : am_maxL 85 = 2 := by decide +kernel
theorem t85 : am_ret 85 = (some .int) := by decide +kernel
/-! ThirdSheets.link(I)I is 86 -/
theorem d86_0 : decode (am_code 86) 0 = .ok (.iload_n 1, 1) := by decide +kernel
theorem d86_1 : decode (am_code 86) 1 = .ok (.ifCond .lt 17, 3) := by decide +kernel
theorem d86_4 : decode (am_code 86) 4 = .ok (.iload_n 1, 1) := by decide +kernel
theorem d86_5 : decode (am_code 86) 5 = .ok (.aload_n 0, 1) := by decide +kernel
theorem d86_6 : decode (am_code 86) 6 = .ok (.getfield 10, 3) := by decide +kernel
theorem d86_9 : decode (am_code 86) 9 = .ok (.getfield 93, 3) := by decide +kernel
theorem d86_12 : decode (am_code 86) 12 = .ok (.getfield 105, 3) := by decide +kernel
theorem d86_15 : decode (am_code 86) 15 = .ok (.if_icmp .lt 6, 3) := by decide +kernel
theorem d86_18 : decode (am_code 86) 18 = .ok (.ldc 111, 2) := by decide +kernel
theorem d86_20 : decode (am_code 86) 20 = .ok (.ireturn, 1) := by decide +kernel
theorem d86_21 : decode (am_code 86) 21 = .ok (.aload_n 0, 1) := by decide +kernel
theorem d86_22 : decode (am_code 86) 22 = .ok (.getfield 10, 3) := by decide +kernel
theorem d86_25 : decode (am_code 86) 25 = .ok (.iload_n 1, 1) := by decide +kernel
theorem d86_26 : decode (am_code 86) 26 = .ok (.invokevirtual 112, 3) := by decide +kernel
theorem d86_29 : decode (am_code 86) 29 = .ok (.ireturn, 1) := by decide +kernel
theorem f86_10 : am_find am_ftL (am_mc 86) 10 = some (6, 0) := by decide +kernel
theorem f86_93 : am_find am_ftL (am_mc 86) 93 = some (5, 4) := by decide +kernel
theorem f86_105 : am_find am_ftL (am_mc 86) 105 = some (0, 6) := by decide +kernel
theorem c86_112 : am_find am_ctL (am_mc 86) 112 = some (0, 74) ∧ am_na 74 = 1 ∧ am_fr 74 + 1 ≤ am_fr 86 ∧ 8 + (am_maxL 74 + 11) + am_lo 74 ≤ am_lo 86 := by decide +kernel
theorem l86 : am_maxL 86 = 2 := by decide +kernel
theorem t86 : am_ret 86 = (some .int) := by decide +kernel
