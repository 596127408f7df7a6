/-! ThirdSheets$Loops.build(LThirdSheets$Space;)V is 21 -/
theorem d21_0 : decode (am_code 21) 0 = .ok (.aload_n 0, 1) := by decide +kernel
theorem d21_1 : decode (am_code 21) 1 = .ok (.aload_n 1, 1) := by decide +kernel
theorem d21_2 : decode (am_code 21) 2 = .ok (.invokevirtual 20, 3) := by decide +kernel
theorem d21_5 : decode (am_code 21) 5 = .ok (.aload_n 0, 1) := by decide +kernel
theorem d21_6 : decode (am_code 21) 6 = .ok (.iconst 0, 1) := by decide +kernel
theorem d21_7 : decode (am_code 21) 7 = .ok (.putfield 24, 3) := by decide +kernel
theorem d21_10 : decode (am_code 21) 10 = .ok (.iconst 0, 1) := by decide +kernel
theorem d21_11 : decode (am_code 21) 11 = .ok (.istore_n 2, 1) := by decide +kernel
theorem d21_12 : decode (am_code 21) 12 = .ok (.iload_n 2, 1) := by decide +kernel
theorem d21_13 : decode (am_code 21) 13 = .ok (.aload_n 1, 1) := by decide +kernel
theorem d21_14 : decode (am_code 21) 14 = .ok (.getfield 28, 3) := by decide +kernel
theorem d21_17 : decode (am_code 21) 17 = .ok (.getfield 34, 3) := by decide +kernel
theorem d21_20 : decode (am_code 21) 20 = .ok (.if_icmp .ge 36, 3) := by decide +kernel
theorem d21_23 : decode (am_code 21) 23 = .ok (.aload_n 0, 1) := by decide +kernel
theorem d21_24 : decode (am_code 21) 24 = .ok (.aload_n 1, 1) := by decide +kernel
theorem d21_25 : decode (am_code 21) 25 = .ok (.aload_n 1, 1) := by decide +kernel
theorem d21_26 : decode (am_code 21) 26 = .ok (.getfield 28, 3) := by decide +kernel
theorem d21_29 : decode (am_code 21) 29 = .ok (.getfield 39, 3) := by decide +kernel
theorem d21_32 : decode (am_code 21) 32 = .ok (.iload_n 2, 1) := by decide +kernel
theorem d21_33 : decode (am_code 21) 33 = .ok (.iaload, 1) := by decide +kernel
theorem d21_34 : decode (am_code 21) 34 = .ok (.invokevirtual 42, 3) := by decide +kernel
theorem d21_37 : decode (am_code 21) 37 = .ok (.ifCond .eq 13, 3) := by decide +kernel
theorem d21_40 : decode (am_code 21) 40 = .ok (.aload_n 0, 1) := by decide +kernel
theorem d21_41 : decode (am_code 21) 41 = .ok (.dup, 1) := by decide +kernel
theorem d21_42 : decode (am_code 21) 42 = .ok (.getfield 24, 3) := by decide +kernel
theorem d21_45 : decode (am_code 21) 45 = .ok (.iconst 1, 1) := by decide +kernel
theorem d21_46 : decode (am_code 21) 46 = .ok (.iadd, 1) := by decide +kernel
theorem d21_47 : decode (am_code 21) 47 = .ok (.putfield 24, 3) := by decide +kernel
theorem d21_50 : decode (am_code 21) 50 = .ok (.iinc 2 1, 3) := by decide +kernel
theorem d21_53 : decode (am_code 21) 53 = .ok (.goto (-41), 3) := by decide +kernel
theorem d21_56 : decode (am_code 21) 56 = .ok (.aload_n 0, 1) := by decide +kernel
theorem d21_57 : decode (am_code 21) 57 = .ok (.iconst 0, 1) := by decide +kernel
theorem d21_58 : decode (am_code 21) 58 = .ok (.putfield 46, 3) := by decide +kernel
theorem d21_61 : decode (am_code 21) 61 = .ok (.aload_n 0, 1) := by decide +kernel
theorem d21_62 : decode (am_code 21) 62 = .ok (.getfield 24, 3) := by decide +kernel
theorem d21_65 : decode (am_code 21) 65 = .ok (.aload_n 0, 1) := by decide +kernel
theorem d21_66 : decode (am_code 21) 66 = .ok (.getfield 49, 3) := by decide +kernel
theorem d21_69 : decode (am_code 21) 69 = .ok (.invokestatic 52, 3) := by decide +kernel
theorem d21_72 : decode (am_code 21) 72 = .ok (.istore_n 2, 1) := by decide +kernel
theorem d21_73 : decode (am_code 21) 73 = .ok (.aload_n 0, 1) := by decide +kernel
theorem d21_74 : decode (am_code 21) 74 = .ok (.getfield 46, 3) := by decide +kernel
theorem d21_77 : decode (am_code 21) 77 = .ok (.iload_n 2, 1) := by decide +kernel
theorem d21_78 : decode (am_code 21) 78 = .ok (.if_icmp .ge 27, 3) := by decide +kernel
theorem d21_81 : decode (am_code 21) 81 = .ok (.aload_n 0, 1) := by decide +kernel
theorem d21_82 : decode (am_code 21) 82 = .ok (.aload_n 0, 1) := by decide +kernel
theorem d21_83 : decode (am_code 21) 83 = .ok (.getfield 46, 3) := by decide +kernel
theorem d21_86 : decode (am_code 21) 86 = .ok (.invokevirtual 58, 3) := by decide +kernel
theorem d21_89 : decode (am_code 21) 89 = .ok (.ifCond .eq 16, 3) := by decide +kernel
theorem d21_92 : decode (am_code 21) 92 = .ok (.aload_n 0, 1) := by decide +kernel
theorem d21_93 : decode (am_code 21) 93 = .ok (.dup, 1) := by decide +kernel
theorem d21_94 : decode (am_code 21) 94 = .ok (.getfield 46, 3) := by decide +kernel
theorem d21_97 : decode (am_code 21) 97 = .ok (.iconst 1, 1) := by decide +kernel
theorem d21_98 : decode (am_code 21) 98 = .ok (.iadd, 1) := by decide +kernel
theorem d21_99 : decode (am_code 21) 99 = .ok (.putfield 46, 3) := by decide +kernel
theorem d21_102 : decode (am_code 21) 102 = .ok (.goto (-29), 3) := by decide +kernel
theorem d21_105 : decode (am_code 21) 105 = .ok (.return_, 1) := by decide +kernel
theorem f21_24 : am_find am_ftL (am_mc 21) 24 = some (2, 2) := by decide +kernel
theorem f21_28 : am_find am_ftL (am_mc 21) 28 = some (5, 5) := by decide +kernel
theorem f21_34 : am_find am_ftL (am_mc 21) 34 = some (0, 6) := by decide +kernel
theorem f21_39 : am_find am_ftL (am_mc 21) 39 = some (0, 4) := by decide +kernel
theorem f21_46 : am_find am_ftL (am_mc 21) 46 = some (2, 4) := by decide +kernel
theorem f21_49 : am_find am_ftL (am_mc 21) 49 = some (2, 3) := by decide +kernel
theorem c21_20 : am_find am_ctL (am_mc 21) 20 = some (0, 23) ∧ am_na 23 = 1 ∧ am_fr 23 + 1 ≤ am_fr 21 ∧ 8 + (am_maxL 23 + 11) + am_lo 23 ≤ am_lo 21 := by decide +kernel
theorem c21_42 : am_find am_ctL (am_mc 21) 42 = some (0, 24) ∧ am_na 24 = 2 ∧ am_fr 24 + 1 ≤ am_fr 21 ∧ 8 + (am_maxL 24 + 11) + am_lo 24 ≤ am_lo 21 := by decide +kernel
theorem c21_52 : am_find am_ctL (am_mc 21) 52 = some (6, 0) := by decide +kernel
theorem c21_58 : am_find am_ctL (am_mc 21) 58 = some (0, 25) ∧ am_na 25 = 1 ∧ am_fr 25 + 1 ≤ am_fr 21 ∧ 8 + (am_maxL 25 + 11) + am_lo 25 ≤ am_lo 21 := by decide +kernel
theorem l21 : am_maxL 21 = 3 := by decide +kernel
theorem t21 : am_ret 21 = none := by decide +kernel
/-! ThirdSheets$Loops.aboveOne(I)I is 22 -/
theorem d22_0 : decode (am_code 22) 0 = .ok (.iconst 0, 1) := by decide +kernel
theorem d22_1 : decode (am_code 22) 1 = .ok (.istore_n 2, 1) := by decide +kernel
theorem d22_2 : decode (am_code 22) 2 = .ok (.iconst 0, 1) := by decide +kernel
theorem d22_3 : decode (am_code 22) 3 = .ok (.istore_n 3, 1) := by decide +kernel
theorem d22_4 : decode (am_code 22) 4 = .ok (.iload_n 3, 1) := by decide +kernel
theorem d22_5 : decode (am_code 22) 5 = .ok (.aload_n 0, 1) := by decide +kernel
theorem d22_6 : decode (am_code 22) 6 = .ok (.getfield 46, 3) := by decide +kernel
theorem d22_9 : decode (am_code 22) 9 = .ok (.if_icmp .ge 40, 3) := by decide +kernel
theorem d22_12 : decode (am_code 22) 12 = .ok (.aload_n 0, 1) := by decide +kernel
theorem d22_13 : decode (am_code 22) 13 = .ok (.getfield 13, 3) := by decide +kernel
theorem d22_16 : decode (am_code 22) 16 = .ok (.iload_n 3, 1) := by decide +kernel
theorem d22_17 : decode (am_code 22) 17 = .ok (.aaload, 1) := by decide +kernel
theorem d22_18 : decode (am_code 22) 18 = .ok (.iload_n 3, 1) := by decide +kernel
theorem d22_19 : decode (am_code 22) 19 = .ok (.laload, 1) := by decide +kernel
theorem d22_20 : decode (am_code 22) 20 = .ok (.lconst 1, 1) := by decide +kernel
theorem d22_21 : decode (am_code 22) 21 = .ok (.lcmp, 1) := by decide +kernel
theorem d22_22 : decode (am_code 22) 22 = .ok (.ifCond .le 21, 3) := by decide +kernel
theorem d22_25 : decode (am_code 22) 25 = .ok (.iinc 2 1, 3) := by decide +kernel
theorem d22_28 : decode (am_code 22) 28 = .ok (.iload_n 2, 1) := by decide +kernel
theorem d22_29 : decode (am_code 22) 29 = .ok (.iload_n 1, 1) := by decide +kernel
theorem d22_30 : decode (am_code 22) 30 = .ok (.if_icmp .ne 13, 3) := by decide +kernel
theorem d22_33 : decode (am_code 22) 33 = .ok (.aload_n 0, 1) := by decide +kernel
theorem d22_34 : decode (am_code 22) 34 = .ok (.getfield 13, 3) := by decide +kernel
theorem d22_37 : decode (am_code 22) 37 = .ok (.iload_n 3, 1) := by decide +kernel
theorem d22_38 : decode (am_code 22) 38 = .ok (.aaload, 1) := by decide +kernel
theorem d22_39 : decode (am_code 22) 39 = .ok (.iload_n 3, 1) := by decide +kernel
theorem d22_40 : decode (am_code 22) 40 = .ok (.laload, 1) := by decide +kernel
theorem d22_41 : decode (am_code 22) 41 = .ok (.l2i, 1) := by decide +kernel
theorem d22_42 : decode (am_code 22) 42 = .ok (.ireturn, 1) := by decide +kernel
theorem d22_43 : decode (am_code 22) 43 = .ok (.iinc 3 1, 3) := by decide +kernel
theorem d22_46 : decode (am_code 22) 46 = .ok (.goto (-42), 3) := by decide +kernel
theorem d22_49 : decode (am_code 22) 49 = .ok (.iconst (-1), 1) := by decide +kernel
theorem d22_50 : decode (am_code 22) 50 = .ok (.ireturn, 1) := by decide +kernel
theorem f22_46 : am_find am_ftL (am_mc 22) 46 = some (2, 4) := by decide +kernel
theorem f22_13 : am_find am_ftL (am_mc 22) 13 = some (2, 0) := by decide +kernel
theorem l22 : am_maxL 22 = 4 := by decide +kernel
theorem t22 : am_ret 22 = (some .int) := by decide +kernel
/-! ThirdSheets$Loops.numberPairs(LThirdSheets$Space;)V is 23 -/
theorem d23_0 : decode (am_code 23) 0 = .ok (.aload_n 0, 1) := by decide +kernel
theorem d23_1 : decode (am_code 23) 1 = .ok (.iconst 0, 1) := by decide +kernel
theorem d23_2 : decode (am_code 23) 2 = .ok (.putfield 49, 3) := by decide +kernel
theorem d23_5 : decode (am_code 23) 5 = .ok (.iconst 0, 1) := by decide +kernel
theorem d23_6 : decode (am_code 23) 6 = .ok (.istore_n 2, 1) := by decide +kernel
theorem d23_7 : decode (am_code 23) 7 = .ok (.iload_n 2, 1) := by decide +kernel
theorem d23_8 : decode (am_code 23) 8 = .ok (.iconst 4, 1) := by decide +kernel
theorem d23_9 : decode (am_code 23) 9 = .ok (.aload_n 1, 1) := by decide +kernel
theorem d23_10 : decode (am_code 23) 10 = .ok (.getfield 62, 3) := by decide +kernel
theorem d23_13 : decode (am_code 23) 13 = .ok (.imul, 1) := by decide +kernel
theorem d23_14 : decode (am_code 23) 14 = .ok (.if_icmp .ge 52, 3) := by decide +kernel
theorem d23_17 : decode (am_code 23) 17 = .ok (.aload_n 1, 1) := by decide +kernel
theorem d23_18 : decode (am_code 23) 18 = .ok (.iload_n 2, 1) := by decide +kernel
theorem d23_19 : decode (am_code 23) 19 = .ok (.invokevirtual 65, 3) := by decide +kernel
theorem d23_22 : decode (am_code 23) 22 = .ok (.ifCond .eq 38, 3) := by decide +kernel
theorem d23_25 : decode (am_code 23) 25 = .ok (.aload_n 0, 1) := by decide +kernel
theorem d23_26 : decode (am_code 23) 26 = .ok (.getfield 16, 3) := by decide +kernel
theorem d23_29 : decode (am_code 23) 29 = .ok (.iload_n 2, 1) := by decide +kernel
theorem d23_30 : decode (am_code 23) 30 = .ok (.aload_n 0, 1) := by decide +kernel
theorem d23_31 : decode (am_code 23) 31 = .ok (.getfield 49, 3) := by decide +kernel
theorem d23_34 : decode (am_code 23) 34 = .ok (.iastore, 1) := by decide +kernel
theorem d23_35 : decode (am_code 23) 35 = .ok (.aload_n 0, 1) := by decide +kernel
theorem d23_36 : decode (am_code 23) 36 = .ok (.getfield 16, 3) := by decide +kernel
theorem d23_39 : decode (am_code 23) 39 = .ok (.aload_n 1, 1) := by decide +kernel
theorem d23_40 : decode (am_code 23) 40 = .ok (.getfield 68, 3) := by decide +kernel
theorem d23_43 : decode (am_code 23) 43 = .ok (.iload_n 2, 1) := by decide +kernel
theorem d23_44 : decode (am_code 23) 44 = .ok (.iaload, 1) := by decide +kernel
theorem d23_45 : decode (am_code 23) 45 = .ok (.aload_n 0, 1) := by decide +kernel
theorem d23_46 : decode (am_code 23) 46 = .ok (.getfield 49, 3) := by decide +kernel
theorem d23_49 : decode (am_code 23) 49 = .ok (.iastore, 1) := by decide +kernel
theorem d23_50 : decode (am_code 23) 50 = .ok (.aload_n 0, 1) := by decide +kernel
theorem d23_51 : decode (am_code 23) 51 = .ok (.dup, 1) := by decide +kernel
theorem d23_52 : decode (am_code 23) 52 = .ok (.getfield 49, 3) := by decide +kernel
theorem d23_55 : decode (am_code 23) 55 = .ok (.iconst 1, 1) := by decide +kernel
theorem d23_56 : decode (am_code 23) 56 = .ok (.iadd, 1) := by decide +kernel
theorem d23_57 : decode (am_code 23) 57 = .ok (.putfield 49, 3) := by decide +kernel
theorem d23_60 : decode (am_code 23) 60 = .ok (.iinc 2 1, 3) := by decide +kernel
theorem d23_63 : decode (am_code 23) 63 = .ok (.goto (-56), 3) := by decide +kernel
theorem d23_66 : decode (am_code 23) 66 = .ok (.return_, 1) := by decide +kernel
theorem f23_49 : am_find am_ftL (am_mc 23) 49 = some (2, 3) := by decide +kernel
theorem f23_62 : am_find am_ftL (am_mc 23) 62 = some (5, 0) := by decide +kernel
theorem f23_16 : am_find am_ftL (am_mc 23) 16 = some (2, 1) := by decide +kernel
theorem f23_68 : am_find am_ftL (am_mc 23) 68 = some (5, 2) := by decide +kernel
theorem c23_65 : am_find am_ctL (am_mc 23) 65 = some (0, 64) ∧ am_na 64 = 1 ∧ am_fr 64 + 1 ≤ am_fr 23 ∧ 8 + (am_maxL 64 + 11) + am_lo 64 ≤ am_lo 23 := by decide +kernel
theorem l23 : am_maxL 23 = 3 := by decide +kernel
theorem t23 : am_ret 23 = none := by decide +kernel
/-! ThirdSheets$Loops.goAround(LThirdSheets$Space;I)Z is 24 -/
theorem d24_0 : decode (am_code 24) 0 = .ok (.aload_n 0, 1) := by decide +kernel
theorem d24_1 : decode (am_code 24) 1 = .ok (.getfield 13, 3) := by decide +kernel
theorem d24_4 : decode (am_code 24) 4 = .ok (.aload_n 0, 1) := by decide +kernel
theorem d24_5 : decode (am_code 24) 5 = .ok (.getfield 24, 3) := by decide +kernel
theorem d24_8 : decode (am_code 24) 8 = .ok (.aaload, 1) := by decide +kernel
theorem d24_9 : decode (am_code 24) 9 = .ok (.astore_n 3, 1) := by decide +kernel
theorem d24_10 : decode (am_code 24) 10 = .ok (.aload_n 3, 1) := by decide +kernel
theorem d24_11 : decode (am_code 24) 11 = .ok (.lconst 0, 1) := by decide +kernel
theorem d24_12 : decode (am_code 24) 12 = .ok (.invokestatic 71, 3) := by decide +kernel
theorem d24_15 : decode (am_code 24) 15 = .ok (.iconst 4, 1) := by decide +kernel
theorem d24_16 : decode (am_code 24) 16 = .ok (.iload_n 2, 1) := by decide +kernel
theorem d24_17 : decode (am_code 24) 17 = .ok (.bipush 6, 2) := by decide +kernel
theorem d24_19 : decode (am_code 24) 19 = .ok (.idiv, 1) := by decide +kernel
theorem d24_20 : decode (am_code 24) 20 = .ok (.imul, 1) := by decide +kernel
theorem d24_21 : decode (am_code 24) 21 = .ok (.getstatic 77, 3) := by decide +kernel
theorem d24_24 : decode (am_code 24) 24 = .ok (.iconst 5, 1) := by decide +kernel
theorem d24_25 : decode (am_code 24) 25 = .ok (.iload_n 2, 1) := by decide +kernel
theorem d24_26 : decode (am_code 24) 26 = .ok (.bipush 6, 2) := by decide +kernel
theorem d24_28 : decode (am_code 24) 28 = .ok (.irem, 1) := by decide +kernel
theorem d24_29 : decode (am_code 24) 29 = .ok (.isub, 1) := by decide +kernel
theorem d24_30 : decode (am_code 24) 30 = .ok (.iaload, 1) := by decide +kernel
theorem d24_31 : decode (am_code 24) 31 = .ok (.iadd, 1) := by decide +kernel
theorem d24_32 : decode (am_code 24) 32 = .ok (.istore 4, 2) := by decide +kernel
theorem d24_34 : decode (am_code 24) 34 = .ok (.iload 4, 2) := by decide +kernel
theorem d24_36 : decode (am_code 24) 36 = .ok (.istore 5, 2) := by decide +kernel
theorem d24_38 : decode (am_code 24) 38 = .ok (.getstatic 77, 3) := by decide +kernel
theorem d24_41 : decode (am_code 24) 41 = .ok (.iload_n 2, 1) := by decide +kernel
theorem d24_42 : decode (am_code 24) 42 = .ok (.bipush 6, 2) := by decide +kernel
theorem d24_44 : decode (am_code 24) 44 = .ok (.irem, 1) := by decide +kernel
theorem d24_45 : decode (am_code 24) 45 = .ok (.iaload, 1) := by decide +kernel
theorem d24_46 : decode (am_code 24) 46 = .ok (.istore 6, 2) := by decide +kernel
theorem d24_48 : decode (am_code 24) 48 = .ok (.getstatic 80, 3) := by decide +kernel
theorem d24_51 : decode (am_code 24) 51 = .ok (.iload_n 2, 1) := by decide +kernel
theorem d24_52 : decode (am_code 24) 52 = .ok (.bipush 6, 2) := by decide +kernel
theorem d24_54 : decode (am_code 24) 54 = .ok (.irem, 1) := by decide +kernel
theorem d24_55 : decode (am_code 24) 55 = .ok (.iaload, 1) := by decide +kernel
theorem d24_56 : decode (am_code 24) 56 = .ok (.istore 7, 2) := by decide +kernel
theorem d24_58 : decode (am_code 24) 58 = .ok (.iconst 0, 1) := by decide +kernel
theorem d24_59 : decode (am_code 24) 59 = .ok (.istore 8, 2) := by decide +kernel
theorem d24_61 : decode (am_code 24) 61 = .ok (.iload 8, 2) := by decide +kernel
theorem d24_63 : decode (am_code 24) 63 = .ok (.bipush 18, 2) := by decide +kernel
theorem d24_65 : decode (am_code 24) 65 = .ok (.if_icmp .ge 153, 3) := by decide +kernel
theorem d24_68 : decode (am_code 24) 68 = .ok (.aload_n 1, 1) := by decide +kernel
theorem d24_69 : decode (am_code 24) 69 = .ok (.iload 5, 2) := by decide +kernel
theorem d24_71 : decode (am_code 24) 71 = .ok (.invokevirtual 83, 3) := by decide +kernel
theorem d24_74 : decode (am_code 24) 74 = .ok (.ifCond .ne 5, 3) := by decide +kernel
theorem d24_77 : decode (am_code 24) 77 = .ok (.iconst 0, 1) := by decide +kernel
theorem d24_78 : decode (am_code 24) 78 = .ok (.ireturn, 1) := by decide +kernel
theorem d24_79 : decode (am_code 24) 79 = .ok (.aload_n 3, 1) := by decide +kernel
theorem d24_80 : decode (am_code 24) 80 = .ok (.aload_n 0, 1) := by decide +kernel
theorem d24_81 : decode (am_code 24) 81 = .ok (.getfield 16, 3) := by decide +kernel
theorem d24_84 : decode (am_code 24) 84 = .ok (.iload 5, 2) := by decide +kernel
theorem d24_86 : decode (am_code 24) 86 = .ok (.iaload, 1) := by decide +kernel
theorem d24_87 : decode (am_code 24) 87 = .ok (.dup2, 1) := by decide +kernel
theorem d24_88 : decode (am_code 24) 88 = .ok (.laload, 1) := by decide +kernel
theorem d24_89 : decode (am_code 24) 89 = .ok (.aload_n 1, 1) := by decide +kernel
theorem d24_90 : decode (am_code 24) 90 = .ok (.iload 5, 2) := by decide +kernel
theorem d24_92 : decode (am_code 24) 92 = .ok (.invokevirtual 65, 3) := by decide +kernel
theorem d24_95 : decode (am_code 24) 95 = .ok (.ifCond .eq 7, 3) := by decide +kernel
theorem d24_98 : decode (am_code 24) 98 = .ok (.lconst 1, 1) := by decide +kernel
theorem d24_99 : decode (am_code 24) 99 = .ok (.goto 6, 3) := by decide +kernel
theorem d24_102 : decode (am_code 24) 102 = .ok (.ldc2_w 86, 3) := by decide +kernel
theorem d24_105 : decode (am_code 24) 105 = .ok (.ladd, 1) := by decide +kernel
theorem d24_106 : decode (am_code 24) 106 = .ok (.lastore, 1) := by decide +kernel
theorem d24_107 : decode (am_code 24) 107 = .ok (.aload_n 1, 1) := by decide +kernel
theorem d24_108 : decode (am_code 24) 108 = .ok (.getfield 88, 3) := by decide +kernel
theorem d24_111 : decode (am_code 24) 111 = .ok (.iconst 4, 1) := by decide +kernel
theorem d24_112 : decode (am_code 24) 112 = .ok (.iload 5, 2) := by decide +kernel
theorem d24_114 : decode (am_code 24) 114 = .ok (.imul, 1) := by decide +kernel
theorem d24_115 : decode (am_code 24) 115 = .ok (.iload 6, 2) := by decide +kernel
theorem d24_117 : decode (am_code 24) 117 = .ok (.iadd, 1) := by decide +kernel
theorem d24_118 : decode (am_code 24) 118 = .ok (.iaload, 1) := by decide +kernel
theorem d24_119 : decode (am_code 24) 119 = .ok (.istore 9, 2) := by decide +kernel
theorem d24_121 : decode (am_code 24) 121 = .ok (.aload_n 1, 1) := by decide +kernel
theorem d24_122 : decode (am_code 24) 122 = .ok (.getfield 88, 3) := by decide +kernel
theorem d24_125 : decode (am_code 24) 125 = .ok (.iconst 4, 1) := by decide +kernel
theorem d24_126 : decode (am_code 24) 126 = .ok (.iload 5, 2) := by decide +kernel
theorem d24_128 : decode (am_code 24) 128 = .ok (.imul, 1) := by decide +kernel
theorem d24_129 : decode (am_code 24) 129 = .ok (.iload 7, 2) := by decide +kernel
theorem d24_131 : decode (am_code 24) 131 = .ok (.iadd, 1) := by decide +kernel
theorem d24_132 : decode (am_code 24) 132 = .ok (.iaload, 1) := by decide +kernel
theorem d24_133 : decode (am_code 24) 133 = .ok (.istore 10, 2) := by decide +kernel
theorem d24_135 : decode (am_code 24) 135 = .ok (.aload_n 1, 1) := by decide +kernel
theorem d24_136 : decode (am_code 24) 136 = .ok (.getfield 68, 3) := by decide +kernel
theorem d24_139 : decode (am_code 24) 139 = .ok (.iload 5, 2) := by decide +kernel
theorem d24_141 : decode (am_code 24) 141 = .ok (.iaload, 1) := by decide +kernel
theorem d24_142 : decode (am_code 24) 142 = .ok (.istore 11, 2) := by decide +kernel
theorem d24_144 : decode (am_code 24) 144 = .ok (.iload 9, 2) := by decide +kernel
theorem d24_146 : decode (am_code 24) 146 = .ok (.istore 6, 2) := by decide +kernel
theorem d24_148 : decode (am_code 24) 148 = .ok (.iload 10, 2) := by decide +kernel
theorem d24_150 : decode (am_code 24) 150 = .ok (.istore 7, 2) := by decide +kernel
theorem d24_152 : decode (am_code 24) 152 = .ok (.iload 11, 2) := by decide +kernel
theorem d24_154 : decode (am_code 24) 154 = .ok (.iload 11, 2) := by decide +kernel
theorem d24_156 : decode (am_code 24) 156 = .ok (.iconst 4, 1) := by decide +kernel
theorem d24_157 : decode (am_code 24) 157 = .ok (.irem, 1) := by decide +kernel
theorem d24_158 : decode (am_code 24) 158 = .ok (.isub, 1) := by decide +kernel
theorem d24_159 : decode (am_code 24) 159 = .ok (.bipush 6, 2) := by decide +kernel
theorem d24_161 : decode (am_code 24) 161 = .ok (.iadd, 1) := by decide +kernel
theorem d24_162 : decode (am_code 24) 162 = .ok (.iload 6, 2) := by decide +kernel
theorem d24_164 : decode (am_code 24) 164 = .ok (.isub, 1) := by decide +kernel
theorem d24_165 : decode (am_code 24) 165 = .ok (.iload 7, 2) := by decide +kernel
theorem d24_167 : decode (am_code 24) 167 = .ok (.isub, 1) := by decide +kernel
theorem d24_168 : decode (am_code 24) 168 = .ok (.iload 11, 2) := by decide +kernel
theorem d24_170 : decode (am_code 24) 170 = .ok (.iconst 4, 1) := by decide +kernel
theorem d24_171 : decode (am_code 24) 171 = .ok (.irem, 1) := by decide +kernel
theorem d24_172 : decode (am_code 24) 172 = .ok (.isub, 1) := by decide +kernel
theorem d24_173 : decode (am_code 24) 173 = .ok (.istore 5, 2) := by decide +kernel
theorem d24_175 : decode (am_code 24) 175 = .ok (.bipush 6, 2) := by decide +kernel
theorem d24_177 : decode (am_code 24) 177 = .ok (.iload 5, 2) := by decide +kernel
theorem d24_179 : decode (am_code 24) 179 = .ok (.iconst 4, 1) := by decide +kernel
theorem d24_180 : decode (am_code 24) 180 = .ok (.idiv, 1) := by decide +kernel
theorem d24_181 : decode (am_code 24) 181 = .ok (.imul, 1) := by decide +kernel
theorem d24_182 : decode (am_code 24) 182 = .ok (.getstatic 91, 3) := by decide +kernel
theorem d24_185 : decode (am_code 24) 185 = .ok (.iconst 4, 1) := by decide +kernel
theorem d24_186 : decode (am_code 24) 186 = .ok (.iload 6, 2) := by decide +kernel
theorem d24_188 : decode (am_code 24) 188 = .ok (.imul, 1) := by decide +kernel
theorem d24_189 : decode (am_code 24) 189 = .ok (.iload 7, 2) := by decide +kernel
theorem d24_191 : decode (am_code 24) 191 = .ok (.iadd, 1) := by decide +kernel
theorem d24_192 : decode (am_code 24) 192 = .ok (.iaload, 1) := by decide +kernel
theorem d24_193 : decode (am_code 24) 193 = .ok (.iadd, 1) := by decide +kernel
theorem d24_194 : decode (am_code 24) 194 = .ok (.istore 12, 2) := by decide +kernel
theorem d24_196 : decode (am_code 24) 196 = .ok (.iload 5, 2) := by decide +kernel
theorem d24_198 : decode (am_code 24) 198 = .ok (.iload 4, 2) := by decide +kernel
theorem d24_200 : decode (am_code 24) 200 = .ok (.if_icmp .ne 12, 3) := by decide +kernel
theorem d24_203 : decode (am_code 24) 203 = .ok (.iload 12, 2) := by decide +kernel
theorem d24_205 : decode (am_code 24) 205 = .ok (.iload_n 2, 1) := by decide +kernel
theorem d24_206 : decode (am_code 24) 206 = .ok (.if_icmp .ne 6, 3) := by decide +kernel
theorem d24_209 : decode (am_code 24) 209 = .ok (.goto 9, 3) := by decide +kernel
theorem d24_212 : decode (am_code 24) 212 = .ok (.iinc 8 1, 3) := by decide +kernel
theorem d24_215 : decode (am_code 24) 215 = .ok (.goto (-154), 3) := by decide +kernel
theorem d24_218 : decode (am_code 24) 218 = .ok (.iconst 1, 1) := by decide +kernel
theorem d24_219 : decode (am_code 24) 219 = .ok (.ireturn, 1) := by decide +kernel
theorem f24_13 : am_find am_ftL (am_mc 24) 13 = some (2, 0) := by decide +kernel
theorem f24_24 : am_find am_ftL (am_mc 24) 24 = some (2, 2) := by decide +kernel
theorem g24_77 : am_find am_gtL (am_mc 24) 77 = some (1, 1) := by decide +kernel
theorem g24_80 : am_find am_gtL (am_mc 24) 80 = some (2, 1) := by decide +kernel
theorem f24_16 : am_find am_ftL (am_mc 24) 16 = some (2, 1) := by decide +kernel
theorem f24_88 : am_find am_ftL (am_mc 24) 88 = some (5, 3) := by decide +kernel
theorem f24_68 : am_find am_ftL (am_mc 24) 68 = some (5, 2) := by decide +kernel
theorem g24_91 : am_find am_gtL (am_mc 24) 91 = some (3, 1) := by decide +kernel
theorem c24_71 : am_find am_ctL (am_mc 24) 71 = some (1, 179) ∧ am_na 179 = 2 ∧ am_fr 179 + 1 ≤ am_fr 24 ∧ 8 + (am_maxL 179 + 11) + am_lo 179 ≤ am_lo 24 := by decide +kernel
theorem c24_83 : am_find am_ctL (am_mc 24) 83 = some (0, 60) ∧ am_na 60 = 1 ∧ am_fr 60 + 1 ≤ am_fr 24 ∧ 8 + (am_maxL 60 + 11) + am_lo 60 ≤ am_lo 24 := by decide +kernel
theorem c24_65 : am_find am_ctL (am_mc 24) 65 = some (0, 64) ∧ am_na 64 = 1 ∧ am_fr 64 + 1 ≤ am_fr 24 ∧ 8 + (am_maxL 64 + 11) + am_lo 64 ≤ am_lo 24 := by decide +kernel
theorem l24 : am_maxL 24 = 13 := by decide +kernel
theorem t24 : am_ret 24 = (some .boolean) := by decide +kernel
/-! ThirdSheets$Loops.makeDiagonal(I)Z is 25 -/
theorem d25_0 : decode (am_code 25) 0 = .ok (.iconst 0, 1) := by decide +kernel
theorem d25_1 : decode (am_code 25) 1 = .ok (.istore_n 2, 1) := by decide +kernel
theorem d25_2 : decode (am_code 25) 2 = .ok (.iload_n 2, 1) := by decide +kernel
theorem d25_3 : decode (am_code 25) 3 = .ok (.ldc 94, 2) := by decide +kernel
theorem d25_5 : decode (am_code 25) 5 = .ok (.if_icmp .ge 46, 3) := by decide +kernel
theorem d25_8 : decode (am_code 25) 8 = .ok (.aload_n 0, 1) := by decide +kernel
theorem d25_9 : decode (am_code 25) 9 = .ok (.iload_n 1, 1) := by decide +kernel
theorem d25_10 : decode (am_code 25) 10 = .ok (.invokevirtual 95, 3) := by decide +kernel
theorem d25_13 : decode (am_code 25) 13 = .ok (.ifCond .ne 5, 3) := by decide +kernel
theorem d25_16 : decode (am_code 25) 16 = .ok (.iconst 0, 1) := by decide +kernel
theorem d25_17 : decode (am_code 25) 17 = .ok (.ireturn, 1) := by decide +kernel
theorem d25_18 : decode (am_code 25) 18 = .ok (.aload_n 0, 1) := by decide +kernel
theorem d25_19 : decode (am_code 25) 19 = .ok (.iload_n 1, 1) := by decide +kernel
theorem d25_20 : decode (am_code 25) 20 = .ok (.invokevirtual 98, 3) := by decide +kernel
theorem d25_23 : decode (am_code 25) 23 = .ok (.ifCond .eq 22, 3) := by decide +kernel
theorem d25_26 : decode (am_code 25) 26 = .ok (.aload_n 0, 1) := by decide +kernel
theorem d25_27 : decode (am_code 25) 27 = .ok (.iload_n 1, 1) := by decide +kernel
theorem d25_28 : decode (am_code 25) 28 = .ok (.invokevirtual 101, 3) := by decide +kernel
theorem d25_31 : decode (am_code 25) 31 = .ok (.ifCond .eq 14, 3) := by decide +kernel
theorem d25_34 : decode (am_code 25) 34 = .ok (.aload_n 0, 1) := by decide +kernel
theorem d25_35 : decode (am_code 25) 35 = .ok (.iload_n 1, 1) := by decide +kernel
theorem d25_36 : decode (am_code 25) 36 = .ok (.invokevirtual 104, 3) := by decide +kernel
theorem d25_39 : decode (am_code 25) 39 = .ok (.ifCond .eq 6, 3) := by decide +kernel
theorem d25_42 : decode (am_code 25) 42 = .ok (.goto 9, 3) := by decide +kernel
theorem d25_45 : decode (am_code 25) 45 = .ok (.iinc 2 1, 3) := by decide +kernel
theorem d25_48 : decode (am_code 25) 48 = .ok (.goto (-46), 3) := by decide +kernel
theorem d25_51 : decode (am_code 25) 51 = .ok (.iconst 1, 1) := by decide +kernel
theorem d25_52 : decode (am_code 25) 52 = .ok (.ireturn, 1) := by decide +kernel
theorem c25_95 : am_find am_ctL (am_mc 25) 95 = some (0, 26) ∧ am_na 26 = 1 ∧ am_fr 26 + 1 ≤ am_fr 25 ∧ 8 + (am_maxL 26 + 11) + am_lo 26 ≤ am_lo 25 := by decide +kernel
theorem c25_98 : am_find am_ctL (am_mc 25) 98 = some (0, 29) ∧ am_na 29 = 1 ∧ am_fr 29 + 1 ≤ am_fr 25 ∧ 8 + (am_maxL 29 + 11) + am_lo 29 ≤ am_lo 25 := by decide +kernel
theorem c25_101 : am_find am_ctL (am_mc 25) 101 = some (0, 30) ∧ am_na 30 = 1 ∧ am_fr 30 + 1 ≤ am_fr 25 ∧ 8 + (am_maxL 30 + 11) + am_lo 30 ≤ am_lo 25 := by decide +kernel
theorem c25_104 : am_find am_ctL (am_mc 25) 104 = some (0, 32) ∧ am_na 32 = 1 ∧ am_fr 32 + 1 ≤ am_fr 25 ∧ 8 + (am_maxL 32 + 11) + am_lo 32 ≤ am_lo 25 := by decide +kernel
theorem l25 : am_maxL 25 = 3 := by decide +kernel
theorem t25 : am_ret 25 = (some .boolean) := by decide +kernel
/-! ThirdSheets$Loops.bringSmallest(I)Z is 26 -/
theorem d26_0 : decode (am_code 26) 0 = .ok (.iconst (-1), 1) := by decide +kernel
theorem d26_1 : decode (am_code 26) 1 = .ok (.istore_n 2, 1) := by decide +kernel
theorem d26_2 : decode (am_code 26) 2 = .ok (.iconst (-1), 1) := by decide +kernel
theorem d26_3 : decode (am_code 26) 3 = .ok (.istore_n 3, 1) := by decide +kernel
theorem d26_4 : decode (am_code 26) 4 = .ok (.lconst 0, 1) := by decide +kernel
theorem d26_5 : decode (am_code 26) 5 = .ok (.lstore 4, 2) := by decide +kernel
theorem d26_7 : decode (am_code 26) 7 = .ok (.iload_n 1, 1) := by decide +kernel
theorem d26_8 : decode (am_code 26) 8 = .ok (.istore 6, 2) := by decide +kernel
theorem d26_10 : decode (am_code 26) 10 = .ok (.iload 6, 2) := by decide +kernel
theorem d26_12 : decode (am_code 26) 12 = .ok (.aload_n 0, 1) := by decide +kernel
theorem d26_13 : decode (am_code 26) 13 = .ok (.getfield 24, 3) := by decide +kernel
theorem d26_16 : decode (am_code 26) 16 = .ok (.if_icmp .ge 74, 3) := by decide +kernel
theorem d26_19 : decode (am_code 26) 19 = .ok (.iload_n 1, 1) := by decide +kernel
theorem d26_20 : decode (am_code 26) 20 = .ok (.istore 7, 2) := by decide +kernel
theorem d26_22 : decode (am_code 26) 22 = .ok (.iload 7, 2) := by decide +kernel
theorem d26_24 : decode (am_code 26) 24 = .ok (.aload_n 0, 1) := by decide +kernel
theorem d26_25 : decode (am_code 26) 25 = .ok (.getfield 49, 3) := by decide +kernel
theorem d26_28 : decode (am_code 26) 28 = .ok (.if_icmp .ge 56, 3) := by decide +kernel
theorem d26_31 : decode (am_code 26) 31 = .ok (.aload_n 0, 1) := by decide +kernel
theorem d26_32 : decode (am_code 26) 32 = .ok (.getfield 13, 3) := by decide +kernel
theorem d26_35 : decode (am_code 26) 35 = .ok (.iload 6, 2) := by decide +kernel
theorem d26_37 : decode (am_code 26) 37 = .ok (.aaload, 1) := by decide +kernel
theorem d26_38 : decode (am_code 26) 38 = .ok (.iload 7, 2) := by decide +kernel
theorem d26_40 : decode (am_code 26) 40 = .ok (.laload, 1) := by decide +kernel
theorem d26_41 : decode (am_code 26) 41 = .ok (.invokestatic 107, 3) := by decide +kernel
theorem d26_44 : decode (am_code 26) 44 = .ok (.lstore 8, 2) := by decide +kernel
theorem d26_46 : decode (am_code 26) 46 = .ok (.lload 8, 2) := by decide +kernel
theorem d26_48 : decode (am_code 26) 48 = .ok (.lconst 0, 1) := by decide +kernel
theorem d26_49 : decode (am_code 26) 49 = .ok (.lcmp, 1) := by decide +kernel
theorem d26_50 : decode (am_code 26) 50 = .ok (.ifCond .eq 28, 3) := by decide +kernel
theorem d26_53 : decode (am_code 26) 53 = .ok (.lload 4, 2) := by decide +kernel
theorem d26_55 : decode (am_code 26) 55 = .ok (.lconst 0, 1) := by decide +kernel
theorem d26_56 : decode (am_code 26) 56 = .ok (.lcmp, 1) := by decide +kernel
theorem d26_57 : decode (am_code 26) 57 = .ok (.ifCond .eq 11, 3) := by decide +kernel
theorem d26_60 : decode (am_code 26) 60 = .ok (.lload 8, 2) := by decide +kernel
theorem d26_62 : decode (am_code 26) 62 = .ok (.lload 4, 2) := by decide +kernel
theorem d26_64 : decode (am_code 26) 64 = .ok (.lcmp, 1) := by decide +kernel
theorem d26_65 : decode (am_code 26) 65 = .ok (.ifCond .ge 13, 3) := by decide +kernel
theorem d26_68 : decode (am_code 26) 68 = .ok (.lload 8, 2) := by decide +kernel
theorem d26_70 : decode (am_code 26) 70 = .ok (.lstore 4, 2) := by decide +kernel
theorem d26_72 : decode (am_code 26) 72 = .ok (.iload 6, 2) := by decide +kernel
theorem d26_74 : decode (am_code 26) 74 = .ok (.istore_n 2, 1) := by decide +kernel
theorem d26_75 : decode (am_code 26) 75 = .ok (.iload 7, 2) := by decide +kernel
theorem d26_77 : decode (am_code 26) 77 = .ok (.istore_n 3, 1) := by decide +kernel
theorem d26_78 : decode (am_code 26) 78 = .ok (.iinc 7 1, 3) := by decide +kernel
theorem d26_81 : decode (am_code 26) 81 = .ok (.goto (-59), 3) := by decide +kernel
theorem d26_84 : decode (am_code 26) 84 = .ok (.iinc 6 1, 3) := by decide +kernel
theorem d26_87 : decode (am_code 26) 87 = .ok (.goto (-77), 3) := by decide +kernel
theorem d26_90 : decode (am_code 26) 90 = .ok (.lload 4, 2) := by decide +kernel
theorem d26_92 : decode (am_code 26) 92 = .ok (.lconst 0, 1) := by decide +kernel
theorem d26_93 : decode (am_code 26) 93 = .ok (.lcmp, 1) := by decide +kernel
theorem d26_94 : decode (am_code 26) 94 = .ok (.ifCond .ne 5, 3) := by decide +kernel
theorem d26_97 : decode (am_code 26) 97 = .ok (.iconst 0, 1) := by decide +kernel
theorem d26_98 : decode (am_code 26) 98 = .ok (.ireturn, 1) := by decide +kernel
theorem d26_99 : decode (am_code 26) 99 = .ok (.aload_n 0, 1) := by decide +kernel
theorem d26_100 : decode (am_code 26) 100 = .ok (.iload_n 1, 1) := by decide +kernel
theorem d26_101 : decode (am_code 26) 101 = .ok (.iload_n 2, 1) := by decide +kernel
theorem d26_102 : decode (am_code 26) 102 = .ok (.invokevirtual 111, 3) := by decide +kernel
theorem d26_105 : decode (am_code 26) 105 = .ok (.aload_n 0, 1) := by decide +kernel
theorem d26_106 : decode (am_code 26) 106 = .ok (.iload_n 1, 1) := by decide +kernel
theorem d26_107 : decode (am_code 26) 107 = .ok (.iload_n 3, 1) := by decide +kernel
theorem d26_108 : decode (am_code 26) 108 = .ok (.invokevirtual 115, 3) := by decide +kernel
theorem d26_111 : decode (am_code 26) 111 = .ok (.aload_n 0, 1) := by decide +kernel
theorem d26_112 : decode (am_code 26) 112 = .ok (.getfield 13, 3) := by decide +kernel
theorem d26_115 : decode (am_code 26) 115 = .ok (.iload_n 1, 1) := by decide +kernel
theorem d26_116 : decode (am_code 26) 116 = .ok (.aaload, 1) := by decide +kernel
theorem d26_117 : decode (am_code 26) 117 = .ok (.iload_n 1, 1) := by decide +kernel
theorem d26_118 : decode (am_code 26) 118 = .ok (.laload, 1) := by decide +kernel
theorem d26_119 : decode (am_code 26) 119 = .ok (.lconst 0, 1) := by decide +kernel
theorem d26_120 : decode (am_code 26) 120 = .ok (.lcmp, 1) := by decide +kernel
theorem d26_121 : decode (am_code 26) 121 = .ok (.ifCond .ge 40, 3) := by decide +kernel
theorem d26_124 : decode (am_code 26) 124 = .ok (.iload_n 1, 1) := by decide +kernel
theorem d26_125 : decode (am_code 26) 125 = .ok (.istore 6, 2) := by decide +kernel
theorem d26_127 : decode (am_code 26) 127 = .ok (.iload 6, 2) := by decide +kernel
theorem d26_129 : decode (am_code 26) 129 = .ok (.aload_n 0, 1) := by decide +kernel
theorem d26_130 : decode (am_code 26) 130 = .ok (.getfield 49, 3) := by decide +kernel
theorem d26_133 : decode (am_code 26) 133 = .ok (.if_icmp .ge 28, 3) := by decide +kernel
theorem d26_136 : decode (am_code 26) 136 = .ok (.aload_n 0, 1) := by decide +kernel
theorem d26_137 : decode (am_code 26) 137 = .ok (.getfield 13, 3) := by decide +kernel
theorem d26_140 : decode (am_code 26) 140 = .ok (.iload_n 1, 1) := by decide +kernel
theorem d26_141 : decode (am_code 26) 141 = .ok (.aaload, 1) := by decide +kernel
theorem d26_142 : decode (am_code 26) 142 = .ok (.iload 6, 2) := by decide +kernel
theorem d26_144 : decode (am_code 26) 144 = .ok (.aload_n 0, 1) := by decide +kernel
theorem d26_145 : decode (am_code 26) 145 = .ok (.getfield 13, 3) := by decide +kernel
theorem d26_148 : decode (am_code 26) 148 = .ok (.iload_n 1, 1) := by decide +kernel
theorem d26_149 : decode (am_code 26) 149 = .ok (.aaload, 1) := by decide +kernel
theorem d26_150 : decode (am_code 26) 150 = .ok (.iload 6, 2) := by decide +kernel
theorem d26_152 : decode (am_code 26) 152 = .ok (.laload, 1) := by decide +kernel
theorem d26_153 : decode (am_code 26) 153 = .ok (.lneg, 1) := by decide +kernel
theorem d26_154 : decode (am_code 26) 154 = .ok (.lastore, 1) := by decide +kernel
theorem d26_155 : decode (am_code 26) 155 = .ok (.iinc 6 1, 3) := by decide +kernel
theorem d26_158 : decode (am_code 26) 158 = .ok (.goto (-31), 3) := by decide +kernel
theorem d26_161 : decode (am_code 26) 161 = .ok (.iconst 1, 1) := by decide +kernel
theorem d26_162 : decode (am_code 26) 162 = .ok (.ireturn, 1) := by decide +kernel
theorem f26_24 : am_find am_ftL (am_mc 26) 24 = some (2, 2) := by decide +kernel
theorem f26_49 : am_find am_ftL (am_mc 26) 49 = some (2, 3) := by decide +kernel
theorem f26_13 : am_find am_ftL (am_mc 26) 13 = some (2, 0) := by decide +kernel
theorem c26_107 : am_find am_ctL (am_mc 26) 107 = some (8, 0) := by decide +kernel
theorem c26_111 : am_find am_ctL (am_mc 26) 111 = some (0, 27) ∧ am_na 27 = 2 ∧ am_fr 27 + 1 ≤ am_fr 26 ∧ 8 + (am_maxL 27 + 11) + am_lo 27 ≤ am_lo 26 := by decide +kernel
theorem c26_115 : am_find am_ctL (am_mc 26) 115 = some (0, 28) ∧ am_na 28 = 2 ∧ am_fr 28 + 1 ≤ am_fr 26 ∧ 8 + (am_maxL 28 + 11) + am_lo 28 ≤ am_lo 26 := by decide +kernel
theorem l26 : am_maxL 26 = 10 := by decide +kernel
theorem t26 : am_ret 26 = (some .boolean) := by decide +kernel
/-! ThirdSheets$Loops.swapRows(II)V is 27 -/
theorem d27_0 : decode (am_code 27) 0 = .ok (.aload_n 0, 1) := by decide +kernel
theorem d27_1 : decode (am_code 27) 1 = .ok (.getfield 13, 3) := by decide +kernel
theorem d27_4 : decode (am_code 27) 4 = .ok (.iload_n 1, 1) := by decide +kernel
theorem d27_5 : decode (am_code 27) 5 = .ok (.aaload, 1) := by decide +kernel
theorem d27_6 : decode (am_code 27) 6 = .ok (.astore_n 3, 1) := by decide +kernel
theorem d27_7 : decode (am_code 27) 7 = .ok (.aload_n 0, 1) := by decide +kernel
theorem d27_8 : decode (am_code 27) 8 = .ok (.getfield 13, 3) := by decide +kernel
theorem d27_11 : decode (am_code 27) 11 = .ok (.iload_n 1, 1) := by decide +kernel
theorem d27_12 : decode (am_code 27) 12 = .ok (.aload_n 0, 1) := by decide +kernel
theorem d27_13 : decode (am_code 27) 13 = .ok (.getfield 13, 3) := by decide +kernel
theorem d27_16 : decode (am_code 27) 16 = .ok (.iload_n 2, 1) := by decide +kernel
theorem d27_17 : decode (am_code 27) 17 = .ok (.aaload, 1) := by decide +kernel
theorem d27_18 : decode (am_code 27) 18 = .ok (.aastore, 1) := by decide +kernel
theorem d27_19 : decode (am_code 27) 19 = .ok (.aload_n 0, 1) := by decide +kernel
theorem d27_20 : decode (am_code 27) 20 = .ok (.getfield 13, 3) := by decide +kernel
theorem d27_23 : decode (am_code 27) 23 = .ok (.iload_n 2, 1) := by decide +kernel
theorem d27_24 : decode (am_code 27) 24 = .ok (.aload_n 3, 1) := by decide +kernel
theorem d27_25 : decode (am_code 27) 25 = .ok (.aastore, 1) := by decide +kernel
theorem d27_26 : decode (am_code 27) 26 = .ok (.return_, 1) := by decide +kernel
theorem f27_13 : am_find am_ftL (am_mc 27) 13 = some (2, 0) := by decide +kernel
theorem l27 : am_maxL 27 = 4 := by decide +kernel
theorem t27 : am_ret 27 = none := by decide +kernel
/-! ThirdSheets$Loops.swapColumns(II)V is 28 -/
theorem d28_0 : decode (am_code 28) 0 = .ok (.iconst 0, 1) := by decide +kernel
theorem d28_1 : decode (am_code 28) 1 = .ok (.istore_n 3, 1) := by decide +kernel
theorem d28_2 : decode (am_code 28) 2 = .ok (.iload_n 3, 1) := by decide +kernel
theorem d28_3 : decode (am_code 28) 3 = .ok (.aload_n 0, 1) := by decide +kernel
theorem d28_4 : decode (am_code 28) 4 = .ok (.getfield 24, 3) := by decide +kernel
theorem d28_7 : decode (am_code 28) 7 = .ok (.if_icmp .ge 45, 3) := by decide +kernel
theorem d28_10 : decode (am_code 28) 10 = .ok (.aload_n 0, 1) := by decide +kernel
theorem d28_11 : decode (am_code 28) 11 = .ok (.getfield 13, 3) := by decide +kernel
theorem d28_14 : decode (am_code 28) 14 = .ok (.iload_n 3, 1) := by decide +kernel
theorem d28_15 : decode (am_code 28) 15 = .ok (.aaload, 1) := by decide +kernel
theorem d28_16 : decode (am_code 28) 16 = .ok (.iload_n 1, 1) := by decide +kernel
theorem d28_17 : decode (am_code 28) 17 = .ok (.laload, 1) := by decide +kernel
theorem d28_18 : decode (am_code 28) 18 = .ok (.lstore 4, 2) := by decide +kernel
theorem d28_20 : decode (am_code 28) 20 = .ok (.aload_n 0, 1) := by decide +kernel
theorem d28_21 : decode (am_code 28) 21 = .ok (.getfield 13, 3) := by decide +kernel
theorem d28_24 : decode (am_code 28) 24 = .ok (.iload_n 3, 1) := by decide +kernel
theorem d28_25 : decode (am_code 28) 25 = .ok (.aaload, 1) := by decide +kernel
theorem d28_26 : decode (am_code 28) 26 = .ok (.iload_n 1, 1) := by decide +kernel
theorem d28_27 : decode (am_code 28) 27 = .ok (.aload_n 0, 1) := by decide +kernel
theorem d28_28 : decode (am_code 28) 28 = .ok (.getfield 13, 3) := by decide +kernel
theorem d28_31 : decode (am_code 28) 31 = .ok (.iload_n 3, 1) := by decide +kernel
theorem d28_32 : decode (am_code 28) 32 = .ok (.aaload, 1) := by decide +kernel
theorem d28_33 : decode (am_code 28) 33 = .ok (.iload_n 2, 1) := by decide +kernel
theorem d28_34 : decode (am_code 28) 34 = .ok (.laload, 1) := by decide +kernel
theorem d28_35 : decode (am_code 28) 35 = .ok (.lastore, 1) := by decide +kernel
theorem d28_36 : decode (am_code 28) 36 = .ok (.aload_n 0, 1) := by decide +kernel
theorem d28_37 : decode (am_code 28) 37 = .ok (.getfield 13, 3) := by decide +kernel
theorem d28_40 : decode (am_code 28) 40 = .ok (.iload_n 3, 1) := by decide +kernel
theorem d28_41 : decode (am_code 28) 41 = .ok (.aaload, 1) := by decide +kernel
theorem d28_42 : decode (am_code 28) 42 = .ok (.iload_n 2, 1) := by decide +kernel
theorem d28_43 : decode (am_code 28) 43 = .ok (.lload 4, 2) := by decide +kernel
theorem d28_45 : decode (am_code 28) 45 = .ok (.lastore, 1) := by decide +kernel
theorem d28_46 : decode (am_code 28) 46 = .ok (.iinc 3 1, 3) := by decide +kernel
theorem d28_49 : decode (am_code 28) 49 = .ok (.goto (-47), 3) := by decide +kernel
theorem d28_52 : decode (am_code 28) 52 = .ok (.return_, 1) := by decide +kernel
theorem f28_24 : am_find am_ftL (am_mc 28) 24 = some (2, 2) := by decide +kernel
theorem f28_13 : am_find am_ftL (am_mc 28) 13 = some (2, 0) := by decide +kernel
theorem l28 : am_maxL 28 = 6 := by decide +kernel
theorem t28 : am_ret 28 = none := by decide +kernel
/-! ThirdSheets$Loops.reduceRows(I)Z is 29 -/
theorem d29_0 : decode (am_code 29) 0 = .ok (.iconst 1, 1) := by decide +kernel
theorem d29_1 : decode (am_code 29) 1 = .ok (.istore_n 2, 1) := by decide +kernel
theorem d29_2 : decode (am_code 29) 2 = .ok (.iload_n 1, 1) := by decide +kernel
theorem d29_3 : decode (am_code 29) 3 = .ok (.iconst 1, 1) := by decide +kernel
theorem d29_4 : decode (am_code 29) 4 = .ok (.iadd, 1) := by decide +kernel
theorem d29_5 : decode (am_code 29) 5 = .ok (.istore_n 3, 1) := by decide +kernel
theorem d29_6 : decode (am_code 29) 6 = .ok (.iload_n 3, 1) := by decide +kernel
theorem d29_7 : decode (am_code 29) 7 = .ok (.aload_n 0, 1) := by decide +kernel
theorem d29_8 : decode (am_code 29) 8 = .ok (.getfield 24, 3) := by decide +kernel
theorem d29_11 : decode (am_code 29) 11 = .ok (.if_icmp .ge 87, 3) := by decide +kernel
theorem d29_14 : decode (am_code 29) 14 = .ok (.aload_n 0, 1) := by decide +kernel
theorem d29_15 : decode (am_code 29) 15 = .ok (.getfield 13, 3) := by decide +kernel
theorem d29_18 : decode (am_code 29) 18 = .ok (.iload_n 3, 1) := by decide +kernel
theorem d29_19 : decode (am_code 29) 19 = .ok (.aaload, 1) := by decide +kernel
theorem d29_20 : decode (am_code 29) 20 = .ok (.iload_n 1, 1) := by decide +kernel
theorem d29_21 : decode (am_code 29) 21 = .ok (.laload, 1) := by decide +kernel
theorem d29_22 : decode (am_code 29) 22 = .ok (.aload_n 0, 1) := by decide +kernel
theorem d29_23 : decode (am_code 29) 23 = .ok (.getfield 13, 3) := by decide +kernel
theorem d29_26 : decode (am_code 29) 26 = .ok (.iload_n 1, 1) := by decide +kernel
theorem d29_27 : decode (am_code 29) 27 = .ok (.aaload, 1) := by decide +kernel
theorem d29_28 : decode (am_code 29) 28 = .ok (.iload_n 1, 1) := by decide +kernel
theorem d29_29 : decode (am_code 29) 29 = .ok (.laload, 1) := by decide +kernel
theorem d29_30 : decode (am_code 29) 30 = .ok (.invokestatic 118, 3) := by decide +kernel
theorem d29_33 : decode (am_code 29) 33 = .ok (.lstore 4, 2) := by decide +kernel
theorem d29_35 : decode (am_code 29) 35 = .ok (.iload_n 1, 1) := by decide +kernel
theorem d29_36 : decode (am_code 29) 36 = .ok (.istore 6, 2) := by decide +kernel
theorem d29_38 : decode (am_code 29) 38 = .ok (.iload 6, 2) := by decide +kernel
theorem d29_40 : decode (am_code 29) 40 = .ok (.aload_n 0, 1) := by decide +kernel
theorem d29_41 : decode (am_code 29) 41 = .ok (.getfield 49, 3) := by decide +kernel
theorem d29_44 : decode (am_code 29) 44 = .ok (.if_icmp .ge 33, 3) := by decide +kernel
theorem d29_47 : decode (am_code 29) 47 = .ok (.aload_n 0, 1) := by decide +kernel
theorem d29_48 : decode (am_code 29) 48 = .ok (.getfield 13, 3) := by decide +kernel
theorem d29_51 : decode (am_code 29) 51 = .ok (.iload_n 3, 1) := by decide +kernel
theorem d29_52 : decode (am_code 29) 52 = .ok (.aaload, 1) := by decide +kernel
theorem d29_53 : decode (am_code 29) 53 = .ok (.iload 6, 2) := by decide +kernel
theorem d29_55 : decode (am_code 29) 55 = .ok (.dup2, 1) := by decide +kernel
theorem d29_56 : decode (am_code 29) 56 = .ok (.laload, 1) := by decide +kernel
theorem d29_57 : decode (am_code 29) 57 = .ok (.lload 4, 2) := by decide +kernel
theorem d29_59 : decode (am_code 29) 59 = .ok (.aload_n 0, 1) := by decide +kernel
theorem d29_60 : decode (am_code 29) 60 = .ok (.getfield 13, 3) := by decide +kernel
theorem d29_63 : decode (am_code 29) 63 = .ok (.iload_n 1, 1) := by decide +kernel
theorem d29_64 : decode (am_code 29) 64 = .ok (.aaload, 1) := by decide +kernel
theorem d29_65 : decode (am_code 29) 65 = .ok (.iload 6, 2) := by decide +kernel
theorem d29_67 : decode (am_code 29) 67 = .ok (.laload, 1) := by decide +kernel
theorem d29_68 : decode (am_code 29) 68 = .ok (.lmul, 1) := by decide +kernel
theorem d29_69 : decode (am_code 29) 69 = .ok (.lsub, 1) := by decide +kernel
theorem d29_70 : decode (am_code 29) 70 = .ok (.lastore, 1) := by decide +kernel
theorem d29_71 : decode (am_code 29) 71 = .ok (.iinc 6 1, 3) := by decide +kernel
theorem d29_74 : decode (am_code 29) 74 = .ok (.goto (-36), 3) := by decide +kernel
theorem d29_77 : decode (am_code 29) 77 = .ok (.aload_n 0, 1) := by decide +kernel
theorem d29_78 : decode (am_code 29) 78 = .ok (.getfield 13, 3) := by decide +kernel
theorem d29_81 : decode (am_code 29) 81 = .ok (.iload_n 3, 1) := by decide +kernel
theorem d29_82 : decode (am_code 29) 82 = .ok (.aaload, 1) := by decide +kernel
theorem d29_83 : decode (am_code 29) 83 = .ok (.iload_n 1, 1) := by decide +kernel
theorem d29_84 : decode (am_code 29) 84 = .ok (.laload, 1) := by decide +kernel
theorem d29_85 : decode (am_code 29) 85 = .ok (.lconst 0, 1) := by decide +kernel
theorem d29_86 : decode (am_code 29) 86 = .ok (.lcmp, 1) := by decide +kernel
theorem d29_87 : decode (am_code 29) 87 = .ok (.ifCond .eq 5, 3) := by decide +kernel
theorem d29_90 : decode (am_code 29) 90 = .ok (.iconst 0, 1) := by decide +kernel
theorem d29_91 : decode (am_code 29) 91 = .ok (.istore_n 2, 1) := by decide +kernel
theorem d29_92 : decode (am_code 29) 92 = .ok (.iinc 3 1, 3) := by decide +kernel
theorem d29_95 : decode (am_code 29) 95 = .ok (.goto (-89), 3) := by decide +kernel
theorem d29_98 : decode (am_code 29) 98 = .ok (.iload_n 2, 1) := by decide +kernel
theorem d29_99 : decode (am_code 29) 99 = .ok (.ireturn, 1) := by decide +kernel
theorem f29_24 : am_find am_ftL (am_mc 29) 24 = some (2, 2) := by decide +kernel
theorem f29_13 : am_find am_ftL (am_mc 29) 13 = some (2, 0) := by decide +kernel
theorem f29_49 : am_find am_ftL (am_mc 29) 49 = some (2, 3) := by decide +kernel
theorem c29_118 : am_find am_ctL (am_mc 29) 118 = some (1, 31) ∧ am_na 31 = 2 ∧ am_fr 31 + 1 ≤ am_fr 29 ∧ 8 + (am_maxL 31 + 11) + am_lo 31 ≤ am_lo 29 := by decide +kernel
theorem l29 : am_maxL 29 = 7 := by decide +kernel
theorem t29 : am_ret 29 = (some .boolean) := by decide +kernel
/-! ThirdSheets$Loops.reduceColumns(I)Z is 30 -/
theorem d30_0 : decode (am_code 30) 0 = .ok (.iconst 1, 1) := by decide +kernel
theorem d30_1 : decode (am_code 30) 1 = .ok (.istore_n 2, 1) := by decide +kernel
theorem d30_2 : decode (am_code 30) 2 = .ok (.iload_n 1, 1) := by decide +kernel
theorem d30_3 : decode (am_code 30) 3 = .ok (.iconst 1, 1) := by decide +kernel
theorem d30_4 : decode (am_code 30) 4 = .ok (.iadd, 1) := by decide +kernel
theorem d30_5 : decode (am_code 30) 5 = .ok (.istore_n 3, 1) := by decide +kernel
theorem d30_6 : decode (am_code 30) 6 = .ok (.iload_n 3, 1) := by decide +kernel
theorem d30_7 : decode (am_code 30) 7 = .ok (.aload_n 0, 1) := by decide +kernel
theorem d30_8 : decode (am_code 30) 8 = .ok (.getfield 49, 3) := by decide +kernel
theorem d30_11 : decode (am_code 30) 11 = .ok (.if_icmp .ge 87, 3) := by decide +kernel
theorem d30_14 : decode (am_code 30) 14 = .ok (.aload_n 0, 1) := by decide +kernel
theorem d30_15 : decode (am_code 30) 15 = .ok (.getfield 13, 3) := by decide +kernel
theorem d30_18 : decode (am_code 30) 18 = .ok (.iload_n 1, 1) := by decide +kernel
theorem d30_19 : decode (am_code 30) 19 = .ok (.aaload, 1) := by decide +kernel
theorem d30_20 : decode (am_code 30) 20 = .ok (.iload_n 3, 1) := by decide +kernel
theorem d30_21 : decode (am_code 30) 21 = .ok (.laload, 1) := by decide +kernel
theorem d30_22 : decode (am_code 30) 22 = .ok (.aload_n 0, 1) := by decide +kernel
theorem d30_23 : decode (am_code 30) 23 = .ok (.getfield 13, 3) := by decide +kernel
theorem d30_26 : decode (am_code 30) 26 = .ok (.iload_n 1, 1) := by decide +kernel
theorem d30_27 : decode (am_code 30) 27 = .ok (.aaload, 1) := by decide +kernel
theorem d30_28 : decode (am_code 30) 28 = .ok (.iload_n 1, 1) := by decide +kernel
theorem d30_29 : decode (am_code 30) 29 = .ok (.laload, 1) := by decide +kernel
theorem d30_30 : decode (am_code 30) 30 = .ok (.invokestatic 118, 3) := by decide +kernel
theorem d30_33 : decode (am_code 30) 33 = .ok (.lstore 4, 2) := by decide +kernel
theorem d30_35 : decode (am_code 30) 35 = .ok (.iload_n 1, 1) := by decide +kernel
theorem d30_36 : decode (am_code 30) 36 = .ok (.istore 6, 2) := by decide +kernel
theorem d30_38 : decode (am_code 30) 38 = .ok (.iload 6, 2) := by decide +kernel
theorem d30_40 : decode (am_code 30) 40 = .ok (.aload_n 0, 1) := by decide +kernel
theorem d30_41 : decode (am_code 30) 41 = .ok (.getfield 24, 3) := by decide +kernel
theorem d30_44 : decode (am_code 30) 44 = .ok (.if_icmp .ge 33, 3) := by decide +kernel
theorem d30_47 : decode (am_code 30) 47 = .ok (.aload_n 0, 1) := by decide +kernel
theorem d30_48 : decode (am_code 30) 48 = .ok (.getfield 13, 3) := by decide +kernel
theorem d30_51 : decode (am_code 30) 51 = .ok (.iload 6, 2) := by decide +kernel
theorem d30_53 : decode (am_code 30) 53 = .ok (.aaload, 1) := by decide +kernel
theorem d30_54 : decode (am_code 30) 54 = .ok (.iload_n 3, 1) := by decide +kernel
theorem d30_55 : decode (am_code 30) 55 = .ok (.dup2, 1) := by decide +kernel
theorem d30_56 : decode (am_code 30) 56 = .ok (.laload, 1) := by decide +kernel
theorem d30_57 : decode (am_code 30) 57 = .ok (.lload 4, 2) := by decide +kernel
theorem d30_59 : decode (am_code 30) 59 = .ok (.aload_n 0, 1) := by decide +kernel
theorem d30_60 : decode (am_code 30) 60 = .ok (.getfield 13, 3) := by decide +kernel
theorem d30_63 : decode (am_code 30) 63 = .ok (.iload 6, 2) := by decide +kernel
theorem d30_65 : decode (am_code 30) 65 = .ok (.aaload, 1) := by decide +kernel
theorem d30_66 : decode (am_code 30) 66 = .ok (.iload_n 1, 1) := by decide +kernel
theorem d30_67 : decode (am_code 30) 67 = .ok (.laload, 1) := by decide +kernel
theorem d30_68 : decode (am_code 30) 68 = .ok (.lmul, 1) := by decide +kernel
theorem d30_69 : decode (am_code 30) 69 = .ok (.lsub, 1) := by decide +kernel
theorem d30_70 : decode (am_code 30) 70 = .ok (.lastore, 1) := by decide +kernel
theorem d30_71 : decode (am_code 30) 71 = .ok (.iinc 6 1, 3) := by decide +kernel
theorem d30_74 : decode (am_code 30) 74 = .ok (.goto (-36), 3) := by decide +kernel
theorem d30_77 : decode (am_code 30) 77 = .ok (.aload_n 0, 1) := by decide +kernel
theorem d30_78 : decode (am_code 30) 78 = .ok (.getfield 13, 3) := by decide +kernel
theorem d30_81 : decode (am_code 30) 81 = .ok (.iload_n 1, 1) := by decide +kernel
theorem d30_82 : decode (am_code 30) 82 = .ok (.aaload, 1) := by decide +kernel
theorem d30_83 : decode (am_code 30) 83 = .ok (.iload_n 3, 1) := by decide +kernel
theorem d30_84 : decode (am_code 30) 84 = .ok (.laload, 1) := by decide +kernel
theorem d30_85 : decode (am_code 30) 85 = .ok (.lconst 0, 1) := by decide +kernel
theorem d30_86 : decode (am_code 30) 86 = .ok (.lcmp, 1) := by decide +kernel
theorem d30_87 : decode (am_code 30) 87 = .ok (.ifCond .eq 5, 3) := by decide +kernel
theorem d30_90 : decode (am_code 30) 90 = .ok (.iconst 0, 1) := by decide +kernel
theorem d30_91 : decode (am_code 30) 91 = .ok (.istore_n 2, 1) := by decide +kernel
theorem d30_92 : decode (am_code 30) 92 = .ok (.iinc 3 1, 3) := by decide +kernel
theorem d30_95 : decode (am_code 30) 95 = .ok (.goto (-89), 3) := by decide +kernel
theorem d30_98 : decode (am_code 30) 98 = .ok (.iload_n 2, 1) := by decide +kernel
theorem d30_99 : decode (am_code 30) 99 = .ok (.ireturn, 1) := by decide +kernel
theorem f30_49 : am_find am_ftL (am_mc 30) 49 = some (2, 3) := by decide +kernel
theorem f30_13 : am_find am_ftL (am_mc 30) 13 = some (2, 0) := by decide +kernel
theorem f30_24 : am_find am_ftL (am_mc 30) 24 = some (2, 2) := by decide +kernel
theorem c30_118 : am_find am_ctL (am_mc 30) 118 = some (1, 31) ∧ am_na 31 = 2 ∧ am_fr 31 + 1 ≤ am_fr 30 ∧ 8 + (am_maxL 31 + 11) + am_lo 31 ≤ am_lo 30 := by decide +kernel
theorem l30 : am_maxL 30 = 7 := by decide +kernel
theorem t30 : am_ret 30 = (some .boolean) := by decide +kernel
/-! ThirdSheets$Loops.timesOf(JJ)J is 31 -/
theorem d31_0 : decode (am_code 31) 0 = .ok (.lload_n 2, 1) := by decide +kernel
theorem d31_1 : decode (am_code 31) 1 = .ok (.lconst 0, 1) := by decide +kernel
theorem d31_2 : decode (am_code 31) 2 = .ok (.lcmp, 1) := by decide +kernel
theorem d31_3 : decode (am_code 31) 3 = .ok (.ifCond .ne 7, 3) := by decide +kernel
theorem d31_6 : decode (am_code 31) 6 = .ok (.lconst 0, 1) := by decide +kernel
theorem d31_7 : decode (am_code 31) 7 = .ok (.goto 6, 3) := by decide +kernel
theorem d31_10 : decode (am_code 31) 10 = .ok (.lload_n 0, 1) := by decide +kernel
theorem d31_11 : decode (am_code 31) 11 = .ok (.lload_n 2, 1) := by decide +kernel
theorem d31_12 : decode (am_code 31) 12 = .ok (.ldiv, 1) := by decide +kernel
theorem d31_13 : decode (am_code 31) 13 = .ok (.lreturn, 1) := by decide +kernel
theorem l31 : am_maxL 31 = 4 := by decide +kernel
theorem t31 : am_ret 31 = (some .long) := by decide +kernel
/-! ThirdSheets$Loops.dividesRest(I)Z is 32 -/
theorem d32_0 : decode (am_code 32) 0 = .ok (.aload_n 0, 1) := by decide +kernel
theorem d32_1 : decode (am_code 32) 1 = .ok (.getfield 13, 3) := by decide +kernel
theorem d32_4 : decode (am_code 32) 4 = .ok (.iload_n 1, 1) := by decide +kernel
theorem d32_5 : decode (am_code 32) 5 = .ok (.aaload, 1) := by decide +kernel
theorem d32_6 : decode (am_code 32) 6 = .ok (.iload_n 1, 1) := by decide +kernel
theorem d32_7 : decode (am_code 32) 7 = .ok (.laload, 1) := by decide +kernel
theorem d32_8 : decode (am_code 32) 8 = .ok (.lstore_n 2, 1) := by decide +kernel
theorem d32_9 : decode (am_code 32) 9 = .ok (.iload_n 1, 1) := by decide +kernel
theorem d32_10 : decode (am_code 32) 10 = .ok (.iconst 1, 1) := by decide +kernel
theorem d32_11 : decode (am_code 32) 11 = .ok (.iadd, 1) := by decide +kernel
theorem d32_12 : decode (am_code 32) 12 = .ok (.istore 4, 2) := by decide +kernel
theorem d32_14 : decode (am_code 32) 14 = .ok (.iload 4, 2) := by decide +kernel
theorem d32_16 : decode (am_code 32) 16 = .ok (.aload_n 0, 1) := by decide +kernel
theorem d32_17 : decode (am_code 32) 17 = .ok (.getfield 24, 3) := by decide +kernel
theorem d32_20 : decode (am_code 32) 20 = .ok (.if_icmp .ge 68, 3) := by decide +kernel
theorem d32_23 : decode (am_code 32) 23 = .ok (.iload_n 1, 1) := by decide +kernel
theorem d32_24 : decode (am_code 32) 24 = .ok (.iconst 1, 1) := by decide +kernel
theorem d32_25 : decode (am_code 32) 25 = .ok (.iadd, 1) := by decide +kernel
theorem d32_26 : decode (am_code 32) 26 = .ok (.istore 5, 2) := by decide +kernel
theorem d32_28 : decode (am_code 32) 28 = .ok (.iload 5, 2) := by decide +kernel
theorem d32_30 : decode (am_code 32) 30 = .ok (.aload_n 0, 1) := by decide +kernel
theorem d32_31 : decode (am_code 32) 31 = .ok (.getfield 49, 3) := by decide +kernel
theorem d32_34 : decode (am_code 32) 34 = .ok (.if_icmp .ge 48, 3) := by decide +kernel
theorem d32_37 : decode (am_code 32) 37 = .ok (.aload_n 0, 1) := by decide +kernel
theorem d32_38 : decode (am_code 32) 38 = .ok (.getfield 13, 3) := by decide +kernel
theorem d32_41 : decode (am_code 32) 41 = .ok (.iload 4, 2) := by decide +kernel
theorem d32_43 : decode (am_code 32) 43 = .ok (.aaload, 1) := by decide +kernel
theorem d32_44 : decode (am_code 32) 44 = .ok (.iload 5, 2) := by decide +kernel
theorem d32_46 : decode (am_code 32) 46 = .ok (.laload, 1) := by decide +kernel
theorem d32_47 : decode (am_code 32) 47 = .ok (.aload_n 0, 1) := by decide +kernel
theorem d32_48 : decode (am_code 32) 48 = .ok (.getfield 13, 3) := by decide +kernel
theorem d32_51 : decode (am_code 32) 51 = .ok (.iload 4, 2) := by decide +kernel
theorem d32_53 : decode (am_code 32) 53 = .ok (.aaload, 1) := by decide +kernel
theorem d32_54 : decode (am_code 32) 54 = .ok (.iload 5, 2) := by decide +kernel
theorem d32_56 : decode (am_code 32) 56 = .ok (.laload, 1) := by decide +kernel
theorem d32_57 : decode (am_code 32) 57 = .ok (.lload_n 2, 1) := by decide +kernel
theorem d32_58 : decode (am_code 32) 58 = .ok (.invokestatic 118, 3) := by decide +kernel
theorem d32_61 : decode (am_code 32) 61 = .ok (.lload_n 2, 1) := by decide +kernel
theorem d32_62 : decode (am_code 32) 62 = .ok (.lmul, 1) := by decide +kernel
theorem d32_63 : decode (am_code 32) 63 = .ok (.lcmp, 1) := by decide +kernel
theorem d32_64 : decode (am_code 32) 64 = .ok (.ifCond .eq 12, 3) := by decide +kernel
theorem d32_67 : decode (am_code 32) 67 = .ok (.aload_n 0, 1) := by decide +kernel
theorem d32_68 : decode (am_code 32) 68 = .ok (.iload_n 1, 1) := by decide +kernel
theorem d32_69 : decode (am_code 32) 69 = .ok (.iload 4, 2) := by decide +kernel
theorem d32_71 : decode (am_code 32) 71 = .ok (.invokevirtual 122, 3) := by decide +kernel
theorem d32_74 : decode (am_code 32) 74 = .ok (.iconst 0, 1) := by decide +kernel
theorem d32_75 : decode (am_code 32) 75 = .ok (.ireturn, 1) := by decide +kernel
theorem d32_76 : decode (am_code 32) 76 = .ok (.iinc 5 1, 3) := by decide +kernel
theorem d32_79 : decode (am_code 32) 79 = .ok (.goto (-51), 3) := by decide +kernel
theorem d32_82 : decode (am_code 32) 82 = .ok (.iinc 4 1, 3) := by decide +kernel
theorem d32_85 : decode (am_code 32) 85 = .ok (.goto (-71), 3) := by decide +kernel
theorem d32_88 : decode (am_code 32) 88 = .ok (.iconst 1, 1) := by decide +kernel
theorem d32_89 : decode (am_code 32) 89 = .ok (.ireturn, 1) := by decide +kernel
theorem f32_13 : am_find am_ftL (am_mc 32) 13 = some (2, 0) := by decide +kernel
theorem f32_24 : am_find am_ftL (am_mc 32) 24 = some (2, 2) := by decide +kernel
theorem f32_49 : am_find am_ftL (am_mc 32) 49 = some (2, 3) := by decide +kernel
theorem c32_118 : am_find am_ctL (am_mc 32) 118 = some (1, 31) ∧ am_na 31 = 2 ∧ am_fr 31 + 1 ≤ am_fr 32 ∧ 8 + (am_maxL 31 + 11) + am_lo 31 ≤ am_lo 32 := by decide +kernel
theorem c32_122 : am_find am_ctL (am_mc 32) 122 = some (0, 33) ∧ am_na 33 = 2 ∧ am_fr 33 + 1 ≤ am_fr 32 ∧ 8 + (am_maxL 33 + 11) + am_lo 33 ≤ am_lo 32 := by decide +kernel
theorem l32 : am_maxL 32 = 6 := by decide +kernel
theorem t32 : am_ret 32 = (some .boolean) := by decide +kernel
/-! ThirdSheets$Loops.addRow(II)V is 33 -/
theorem d33_0 : decode (am_code 33) 0 = .ok (.iconst 0, 1) := by decide +kernel
theorem d33_1 : decode (am_code 33) 1 = .ok (.istore_n 3, 1) := by decide +kernel
theorem d33_2 : decode (am_code 33) 2 = .ok (.iload_n 3, 1) := by decide +kernel
theorem d33_3 : decode (am_code 33) 3 = .ok (.aload_n 0, 1) := by decide +kernel
theorem d33_4 : decode (am_code 33) 4 = .ok (.getfield 49, 3) := by decide +kernel
theorem d33_7 : decode (am_code 33) 7 = .ok (.if_icmp .ge 28, 3) := by decide +kernel
theorem d33_10 : decode (am_code 33) 10 = .ok (.aload_n 0, 1) := by decide +kernel
theorem d33_11 : decode (am_code 33) 11 = .ok (.getfield 13, 3) := by decide +kernel
theorem d33_14 : decode (am_code 33) 14 = .ok (.iload_n 1, 1) := by decide +kernel
theorem d33_15 : decode (am_code 33) 15 = .ok (.aaload, 1) := by decide +kernel
theorem d33_16 : decode (am_code 33) 16 = .ok (.iload_n 3, 1) := by decide +kernel
theorem d33_17 : decode (am_code 33) 17 = .ok (.dup2, 1) := by decide +kernel
theorem d33_18 : decode (am_code 33) 18 = .ok (.laload, 1) := by decide +kernel
theorem d33_19 : decode (am_code 33) 19 = .ok (.aload_n 0, 1) := by decide +kernel
theorem d33_20 : decode (am_code 33) 20 = .ok (.getfield 13, 3) := by decide +kernel
theorem d33_23 : decode (am_code 33) 23 = .ok (.iload_n 2, 1) := by decide +kernel
theorem d33_24 : decode (am_code 33) 24 = .ok (.aaload, 1) := by decide +kernel
theorem d33_25 : decode (am_code 33) 25 = .ok (.iload_n 3, 1) := by decide +kernel
theorem d33_26 : decode (am_code 33) 26 = .ok (.laload, 1) := by decide +kernel
theorem d33_27 : decode (am_code 33) 27 = .ok (.ladd, 1) := by decide +kernel
theorem d33_28 : decode (am_code 33) 28 = .ok (.lastore, 1) := by decide +kernel
theorem d33_29 : decode (am_code 33) 29 = .ok (.iinc 3 1, 3) := by decide +kernel
theorem d33_32 : decode (am_code 33) 32 = .ok (.goto (-30), 3) := by decide +kernel
theorem d33_35 : decode (am_code 33) 35 = .ok (.return_, 1) := by decide +kernel
theorem f33_49 : am_find am_ftL (am_mc 33) 49 = some (2, 3) := by decide +kernel
theorem f33_13 : am_find am_ftL (am_mc 33) 13 = some (2, 0) := by decide +kernel
theorem l33 : am_maxL 33 = 4 := by decide +kernel
theorem t33 : am_ret 33 = none := by decide +kernel
/-! ThirdSheets$Parts.<init>()V is 34 -/
theorem d34_0 : decode (am_code 34) 0 = .ok (.aload_n 0, 1) := by decide +kernel
theorem d34_1 : decode (am_code 34) 1 = .ok (.invokespecial 3, 3) := by decide +kernel
theorem d34_4 : decode (am_code 34) 4 = .ok (.aload_n 0, 1) := by decide +kernel
theorem d34_5 : decode (am_code 34) 5 = .ok (.new 9, 3) := by decide +kernel
theorem d34_8 : decode (am_code 34) 8 = .ok (.dup, 1) := by decide +kernel
theorem d34_9 : decode (am_code 34) 9 = .ok (.sipush 400, 3) := by decide +kernel
theorem d34_12 : decode (am_code 34) 12 = .ok (.invokespecial 11, 3) := by decide +kernel
theorem d34_15 : decode (am_code 34) 15 = .ok (.putfield 14, 3) := by decide +kernel
theorem d34_18 : decode (am_code 34) 18 = .ok (.aload_n 0, 1) := by decide +kernel
theorem d34_19 : decode (am_code 34) 19 = .ok (.bipush 21, 2) := by decide +kernel
theorem d34_21 : decode (am_code 34) 21 = .ok (.newarray .int, 2) := by decide +kernel
theorem d34_23 : decode (am_code 34) 23 = .ok (.putfield 20, 3) := by decide +kernel
theorem d34_26 : decode (am_code 34) 26 = .ok (.aload_n 0, 1) := by decide +kernel
theorem d34_27 : decode (am_code 34) 27 = .ok (.sipush 400, 3) := by decide +kernel
theorem d34_30 : decode (am_code 34) 30 = .ok (.newarray .int, 2) := by decide +kernel
theorem d34_32 : decode (am_code 34) 32 = .ok (.putfield 24, 3) := by decide +kernel
theorem d34_35 : decode (am_code 34) 35 = .ok (.aload_n 0, 1) := by decide +kernel
theorem d34_36 : decode (am_code 34) 36 = .ok (.sipush 400, 3) := by decide +kernel
theorem d34_39 : decode (am_code 34) 39 = .ok (.newarray .int, 2) := by decide +kernel
theorem d34_41 : decode (am_code 34) 41 = .ok (.putfield 27, 3) := by decide +kernel
theorem d34_44 : decode (am_code 34) 44 = .ok (.return_, 1) := by decide +kernel
theorem f34_14 : am_find am_ftL (am_mc 34) 14 = some (3, 0) := by decide +kernel
theorem f34_20 : am_find am_ftL (am_mc 34) 20 = some (3, 1) := by decide +kernel
theorem f34_24 : am_find am_ftL (am_mc 34) 24 = some (3, 2) := by decide +kernel
theorem f34_27 : am_find am_ftL (am_mc 34) 27 = some (3, 3) := by decide +kernel
theorem c34_3 : am_find am_ctL (am_mc 34) 3 = some (4, 0) := by decide +kernel
theorem c34_11 : am_find am_ctL (am_mc 34) 11 = some (2, 0) ∧ am_na 0 = 1 ∧ am_fr 0 + 1 ≤ am_fr 34 ∧ 8 + (am_maxL 0 + 11) + am_lo 0 ≤ am_lo 34 := by decide +kernel
theorem l34 : am_maxL 34 = 1 := by decide +kernel
theorem t34 : am_ret 34 = none := by decide +kernel
/-! ThirdSheets$Parts.build(LThirdSheets$Space;[I)V is 35 -/
theorem d35_0 : decode (am_code 35) 0 = .ok (.aload_n 0, 1) := by decide +kernel
theorem d35_1 : decode (am_code 35) 1 = .ok (.aload_n 2, 1) := by decide +kernel
theorem d35_2 : decode (am_code 35) 2 = .ok (.invokevirtual 30, 3) := by decide +kernel
theorem d35_5 : decode (am_code 35) 5 = .ok (.istore_n 3, 1) := by decide +kernel
theorem d35_6 : decode (am_code 35) 6 = .ok (.aload_n 0, 1) := by decide +kernel
theorem d35_7 : decode (am_code 35) 7 = .ok (.getfield 14, 3) := by decide +kernel
theorem d35_10 : decode (am_code 35) 10 = .ok (.iload_n 3, 1) := by decide +kernel
theorem d35_11 : decode (am_code 35) 11 = .ok (.invokevirtual 34, 3) := by decide +kernel
theorem d35_14 : decode (am_code 35) 14 = .ok (.iconst 0, 1) := by decide +kernel
theorem d35_15 : decode (am_code 35) 15 = .ok (.istore 4, 2) := by decide +kernel
theorem d35_17 : decode (am_code 35) 17 = .ok (.iload 4, 2) := by decide +kernel
theorem d35_19 : decode (am_code 35) 19 = .ok (.iconst 4, 1) := by decide +kernel
theorem d35_20 : decode (am_code 35) 20 = .ok (.aload_n 1, 1) := by decide +kernel
theorem d35_21 : decode (am_code 35) 21 = .ok (.getfield 37, 3) := by decide +kernel
theorem d35_24 : decode (am_code 35) 24 = .ok (.imul, 1) := by decide +kernel
theorem d35_25 : decode (am_code 35) 25 = .ok (.if_icmp .ge 26, 3) := by decide +kernel
theorem d35_28 : decode (am_code 35) 28 = .ok (.aload_n 1, 1) := by decide +kernel
theorem d35_29 : decode (am_code 35) 29 = .ok (.iload 4, 2) := by decide +kernel
theorem d35_31 : decode (am_code 35) 31 = .ok (.invokevirtual 43, 3) := by decide +kernel
theorem d35_34 : decode (am_code 35) 34 = .ok (.ifCond .eq 11, 3) := by decide +kernel
theorem d35_37 : decode (am_code 35) 37 = .ok (.aload_n 0, 1) := by decide +kernel
theorem d35_38 : decode (am_code 35) 38 = .ok (.aload_n 1, 1) := by decide +kernel
theorem d35_39 : decode (am_code 35) 39 = .ok (.aload_n 2, 1) := by decide +kernel
theorem d35_40 : decode (am_code 35) 40 = .ok (.iload 4, 2) := by decide +kernel
theorem d35_42 : decode (am_code 35) 42 = .ok (.invokevirtual 47, 3) := by decide +kernel
theorem d35_45 : decode (am_code 35) 45 = .ok (.iinc 4 1, 3) := by decide +kernel
theorem d35_48 : decode (am_code 35) 48 = .ok (.goto (-31), 3) := by decide +kernel
theorem d35_51 : decode (am_code 35) 51 = .ok (.aload_n 0, 1) := by decide +kernel
theorem d35_52 : decode (am_code 35) 52 = .ok (.getfield 14, 3) := by decide +kernel
theorem d35_55 : decode (am_code 35) 55 = .ok (.invokevirtual 51, 3) := by decide +kernel
theorem d35_58 : decode (am_code 35) 58 = .ok (.aload_n 0, 1) := by decide +kernel
theorem d35_59 : decode (am_code 35) 59 = .ok (.iload_n 3, 1) := by decide +kernel
theorem d35_60 : decode (am_code 35) 60 = .ok (.invokevirtual 54, 3) := by decide +kernel
theorem d35_63 : decode (am_code 35) 63 = .ok (.aload_n 0, 1) := by decide +kernel
theorem d35_64 : decode (am_code 35) 64 = .ok (.aload_n 1, 1) := by decide +kernel
theorem d35_65 : decode (am_code 35) 65 = .ok (.aload_n 2, 1) := by decide +kernel
theorem d35_66 : decode (am_code 35) 66 = .ok (.invokevirtual 57, 3) := by decide +kernel
theorem d35_69 : decode (am_code 35) 69 = .ok (.aload_n 0, 1) := by decide +kernel
theorem d35_70 : decode (am_code 35) 70 = .ok (.aload_n 1, 1) := by decide +kernel
theorem d35_71 : decode (am_code 35) 71 = .ok (.aload_n 2, 1) := by decide +kernel
theorem d35_72 : decode (am_code 35) 72 = .ok (.invokevirtual 61, 3) := by decide +kernel
theorem d35_75 : decode (am_code 35) 75 = .ok (.return_, 1) := by decide +kernel
theorem f35_14 : am_find am_ftL (am_mc 35) 14 = some (3, 0) := by decide +kernel
theorem f35_37 : am_find am_ftL (am_mc 35) 37 = some (5, 0) := by decide +kernel
theorem c35_30 : am_find am_ctL (am_mc 35) 30 = some (0, 36) ∧ am_na 36 = 1 ∧ am_fr 36 + 1 ≤ am_fr 35 ∧ 8 + (am_maxL 36 + 11) + am_lo 36 ≤ am_lo 35 := by decide +kernel
theorem c35_34 : am_find am_ctL (am_mc 35) 34 = some (0, 1) ∧ am_na 1 = 1 ∧ am_fr 1 + 1 ≤ am_fr 35 ∧ 8 + (am_maxL 1 + 11) + am_lo 1 ≤ am_lo 35 := by decide +kernel
theorem c35_43 : am_find am_ctL (am_mc 35) 43 = some (0, 64) ∧ am_na 64 = 1 ∧ am_fr 64 + 1 ≤ am_fr 35 ∧ 8 + (am_maxL 64 + 11) + am_lo 64 ≤ am_lo 35 := by decide +kernel
theorem c35_47 : am_find am_ctL (am_mc 35) 47 = some (0, 37) ∧ am_na 37 = 3 ∧ am_fr 37 + 1 ≤ am_fr 35 ∧ 8 + (am_maxL 37 + 11) + am_lo 37 ≤ am_lo 35 := by decide +kernel
theorem c35_51 : am_find am_ctL (am_mc 35) 51 = some (0, 4) ∧ am_na 4 = 0 ∧ am_fr 4 + 1 ≤ am_fr 35 ∧ 8 + (am_maxL 4 + 11) + am_lo 4 ≤ am_lo 35 := by decide +kernel
theorem c35_54 : am_find am_ctL (am_mc 35) 54 = some (0, 41) ∧ am_na 41 = 1 ∧ am_fr 41 + 1 ≤ am_fr 35 ∧ 8 + (am_maxL 41 + 11) + am_lo 41 ≤ am_lo 35 := by decide +kernel
theorem c35_57 : am_find am_ctL (am_mc 35) 57 = some (0, 42) ∧ am_na 42 = 2 ∧ am_fr 42 + 1 ≤ am_fr 35 ∧ 8 + (am_maxL 42 + 11) + am_lo 42 ≤ am_lo 35 := by decide +kernel
theorem c35_61 : am_find am_ctL (am_mc 35) 61 = some (0, 43) ∧ am_na 43 = 2 ∧ am_fr 43 + 1 ≤ am_fr 35 ∧ 8 + (am_maxL 43 + 11) + am_lo 43 ≤ am_lo 35 := by decide +kernel
theorem l35 : am_maxL 35 = 5 := by decide +kernel
theorem t35 : am_ret 35 = none := by decide +kernel
/-! ThirdSheets$Parts.numberCuts([I)I is 36 -/
theorem d36_0 : decode (am_code 36) 0 = .ok (.iconst 0, 1) := by decide +kernel
theorem d36_1 : decode (am_code 36) 1 = .ok (.istore_n 2, 1) := by decide +kernel
theorem d36_2 : decode (am_code 36) 2 = .ok (.iconst 0, 1) := by decide +kernel
theorem d36_3 : decode (am_code 36) 3 = .ok (.istore_n 3, 1) := by decide +kernel
theorem d36_4 : decode (am_code 36) 4 = .ok (.iload_n 3, 1) := by decide +kernel
theorem d36_5 : decode (am_code 36) 5 = .ok (.aload_n 0, 1) := by decide +kernel
theorem d36_6 : decode (am_code 36) 6 = .ok (.getfield 20, 3) := by decide +kernel
theorem d36_9 : decode (am_code 36) 9 = .ok (.arraylength, 1) := by decide +kernel
theorem d36_10 : decode (am_code 36) 10 = .ok (.if_icmp .ge 22, 3) := by decide +kernel
theorem d36_13 : decode (am_code 36) 13 = .ok (.aload_n 0, 1) := by decide +kernel
theorem d36_14 : decode (am_code 36) 14 = .ok (.getfield 20, 3) := by decide +kernel
theorem d36_17 : decode (am_code 36) 17 = .ok (.iload_n 3, 1) := by decide +kernel
theorem d36_18 : decode (am_code 36) 18 = .ok (.iload_n 2, 1) := by decide +kernel
theorem d36_19 : decode (am_code 36) 19 = .ok (.iastore, 1) := by decide +kernel
theorem d36_20 : decode (am_code 36) 20 = .ok (.iload_n 2, 1) := by decide +kernel
theorem d36_21 : decode (am_code 36) 21 = .ok (.aload_n 1, 1) := by decide +kernel
theorem d36_22 : decode (am_code 36) 22 = .ok (.iload_n 3, 1) := by decide +kernel
theorem d36_23 : decode (am_code 36) 23 = .ok (.iaload, 1) := by decide +kernel
theorem d36_24 : decode (am_code 36) 24 = .ok (.iadd, 1) := by decide +kernel
theorem d36_25 : decode (am_code 36) 25 = .ok (.istore_n 2, 1) := by decide +kernel
theorem d36_26 : decode (am_code 36) 26 = .ok (.iinc 3 1, 3) := by decide +kernel
theorem d36_29 : decode (am_code 36) 29 = .ok (.goto (-25), 3) := by decide +kernel
theorem d36_32 : decode (am_code 36) 32 = .ok (.iload_n 2, 1) := by decide +kernel
theorem d36_33 : decode (am_code 36) 33 = .ok (.sipush 400, 3) := by decide +kernel
theorem d36_36 : decode (am_code 36) 36 = .ok (.invokestatic 64, 3) := by decide +kernel
theorem d36_39 : decode (am_code 36) 39 = .ok (.ireturn, 1) := by decide +kernel
theorem f36_20 : am_find am_ftL (am_mc 36) 20 = some (3, 1) := by decide +kernel
theorem c36_64 : am_find am_ctL (am_mc 36) 64 = some (6, 0) := by decide +kernel
theorem l36 : am_maxL 36 = 4 := by decide +kernel
theorem t36 : am_ret 36 = (some .int) := by decide +kernel
/-! ThirdSheets$Parts.joinAcross(LThirdSheets$Space;[II)V is 37 -/
theorem d37_0 : decode (am_code 37) 0 = .ok (.aload_n 1, 1) := by decide +kernel
theorem d37_1 : decode (am_code 37) 1 = .ok (.getfield 70, 3) := by decide +kernel
theorem d37_4 : decode (am_code 37) 4 = .ok (.iload_n 3, 1) := by decide +kernel
theorem d37_5 : decode (am_code 37) 5 = .ok (.iaload, 1) := by decide +kernel
theorem d37_6 : decode (am_code 37) 6 = .ok (.istore 4, 2) := by decide +kernel
theorem d37_8 : decode (am_code 37) 8 = .ok (.iconst 0, 1) := by decide +kernel
theorem d37_9 : decode (am_code 37) 9 = .ok (.istore 5, 2) := by decide +kernel
theorem d37_11 : decode (am_code 37) 11 = .ok (.iload 5, 2) := by decide +kernel
theorem d37_13 : decode (am_code 37) 13 = .ok (.iconst 4, 1) := by decide +kernel
theorem d37_14 : decode (am_code 37) 14 = .ok (.if_icmp .ge 118, 3) := by decide +kernel
theorem d37_17 : decode (am_code 37) 17 = .ok (.aload_n 1, 1) := by decide +kernel
theorem d37_18 : decode (am_code 37) 18 = .ok (.getfield 73, 3) := by decide +kernel
theorem d37_21 : decode (am_code 37) 21 = .ok (.iconst 4, 1) := by decide +kernel
theorem d37_22 : decode (am_code 37) 22 = .ok (.iload_n 3, 1) := by decide +kernel
theorem d37_23 : decode (am_code 37) 23 = .ok (.imul, 1) := by decide +kernel
theorem d37_24 : decode (am_code 37) 24 = .ok (.iload 5, 2) := by decide +kernel
theorem d37_26 : decode (am_code 37) 26 = .ok (.iadd, 1) := by decide +kernel
theorem d37_27 : decode (am_code 37) 27 = .ok (.iaload, 1) := by decide +kernel
theorem d37_28 : decode (am_code 37) 28 = .ok (.istore 6, 2) := by decide +kernel
theorem d37_30 : decode (am_code 37) 30 = .ok (.iload 5, 2) := by decide +kernel
theorem d37_32 : decode (am_code 37) 32 = .ok (.iload_n 3, 1) := by decide +kernel
theorem d37_33 : decode (am_code 37) 33 = .ok (.iconst 4, 1) := by decide +kernel
theorem d37_34 : decode (am_code 37) 34 = .ok (.irem, 1) := by decide +kernel
theorem d37_35 : decode (am_code 37) 35 = .ok (.if_icmp .ne 7, 3) := by decide +kernel
theorem d37_38 : decode (am_code 37) 38 = .ok (.iconst 0, 1) := by decide +kernel
theorem d37_39 : decode (am_code 37) 39 = .ok (.goto 10, 3) := by decide +kernel
theorem d37_42 : decode (am_code 37) 42 = .ok (.aload_n 2, 1) := by decide +kernel
theorem d37_43 : decode (am_code 37) 43 = .ok (.iload_n 3, 1) := by decide +kernel
theorem d37_44 : decode (am_code 37) 44 = .ok (.iload 5, 2) := by decide +kernel
theorem d37_46 : decode (am_code 37) 46 = .ok (.invokestatic 76, 3) := by decide +kernel
theorem d37_49 : decode (am_code 37) 49 = .ok (.istore 7, 2) := by decide +kernel
theorem d37_51 : decode (am_code 37) 51 = .ok (.iconst 0, 1) := by decide +kernel
theorem d37_52 : decode (am_code 37) 52 = .ok (.istore 8, 2) := by decide +kernel
theorem d37_54 : decode (am_code 37) 54 = .ok (.iload 8, 2) := by decide +kernel
theorem d37_56 : decode (am_code 37) 56 = .ok (.iload 7, 2) := by decide +kernel
theorem d37_58 : decode (am_code 37) 58 = .ok (.if_icmp .ge 68, 3) := by decide +kernel
theorem d37_61 : decode (am_code 37) 61 = .ok (.aload_n 2, 1) := by decide +kernel
theorem d37_62 : decode (am_code 37) 62 = .ok (.iload_n 3, 1) := by decide +kernel
theorem d37_63 : decode (am_code 37) 63 = .ok (.iload 5, 2) := by decide +kernel
theorem d37_65 : decode (am_code 37) 65 = .ok (.iload 8, 2) := by decide +kernel
theorem d37_67 : decode (am_code 37) 67 = .ok (.invokestatic 80, 3) := by decide +kernel
theorem d37_70 : decode (am_code 37) 70 = .ok (.aload_n 2, 1) := by decide +kernel
theorem d37_71 : decode (am_code 37) 71 = .ok (.iload 4, 2) := by decide +kernel
theorem d37_73 : decode (am_code 37) 73 = .ok (.iload 6, 2) := by decide +kernel
theorem d37_75 : decode (am_code 37) 75 = .ok (.iload 8, 2) := by decide +kernel
theorem d37_77 : decode (am_code 37) 77 = .ok (.invokestatic 80, 3) := by decide +kernel
theorem d37_80 : decode (am_code 37) 80 = .ok (.if_icmp .eq 7, 3) := by decide +kernel
theorem d37_83 : decode (am_code 37) 83 = .ok (.iconst 1, 1) := by decide +kernel
theorem d37_84 : decode (am_code 37) 84 = .ok (.goto 4, 3) := by decide +kernel
theorem d37_87 : decode (am_code 37) 87 = .ok (.iconst 0, 1) := by decide +kernel
theorem d37_88 : decode (am_code 37) 88 = .ok (.istore 9, 2) := by decide +kernel
theorem d37_90 : decode (am_code 37) 90 = .ok (.aload_n 0, 1) := by decide +kernel
theorem d37_91 : decode (am_code 37) 91 = .ok (.getfield 14, 3) := by decide +kernel
theorem d37_94 : decode (am_code 37) 94 = .ok (.aload_n 0, 1) := by decide +kernel
theorem d37_95 : decode (am_code 37) 95 = .ok (.aload_n 2, 1) := by decide +kernel
theorem d37_96 : decode (am_code 37) 96 = .ok (.iload_n 3, 1) := by decide +kernel
theorem d37_97 : decode (am_code 37) 97 = .ok (.iload 5, 2) := by decide +kernel
theorem d37_99 : decode (am_code 37) 99 = .ok (.iload 8, 2) := by decide +kernel
theorem d37_101 : decode (am_code 37) 101 = .ok (.invokevirtual 84, 3) := by decide +kernel
theorem d37_104 : decode (am_code 37) 104 = .ok (.aload_n 0, 1) := by decide +kernel
theorem d37_105 : decode (am_code 37) 105 = .ok (.aload_n 2, 1) := by decide +kernel
theorem d37_106 : decode (am_code 37) 106 = .ok (.iload 4, 2) := by decide +kernel
theorem d37_108 : decode (am_code 37) 108 = .ok (.iload 6, 2) := by decide +kernel
theorem d37_110 : decode (am_code 37) 110 = .ok (.iload 8, 2) := by decide +kernel
theorem d37_112 : decode (am_code 37) 112 = .ok (.invokevirtual 84, 3) := by decide +kernel
theorem d37_115 : decode (am_code 37) 115 = .ok (.iload 9, 2) := by decide +kernel
theorem d37_117 : decode (am_code 37) 117 = .ok (.invokevirtual 88, 3) := by decide +kernel
theorem d37_120 : decode (am_code 37) 120 = .ok (.iinc 8 1, 3) := by decide +kernel
theorem d37_123 : decode (am_code 37) 123 = .ok (.goto (-69), 3) := by decide +kernel
theorem d37_126 : decode (am_code 37) 126 = .ok (.iinc 5 1, 3) := by decide +kernel
theorem d37_129 : decode (am_code 37) 129 = .ok (.goto (-118), 3) := by decide +kernel
theorem d37_132 : decode (am_code 37) 132 = .ok (.return_, 1) := by decide +kernel
theorem f37_70 : am_find am_ftL (am_mc 37) 70 = some (5, 2) := by decide +kernel
theorem f37_73 : am_find am_ftL (am_mc 37) 73 = some (5, 3) := by decide +kernel
theorem f37_14 : am_find am_ftL (am_mc 37) 14 = some (3, 0) := by decide +kernel
theorem c37_76 : am_find am_ctL (am_mc 37) 76 = some (3, 106) ∧ am_na 106 = 3 ∧ am_fr 106 + 1 ≤ am_fr 37 ∧ 8 + (am_maxL 106 + 11) + am_lo 106 ≤ am_lo 37 := by decide +kernel
theorem c37_80 : am_find am_ctL (am_mc 37) 80 = some (1, 39) ∧ am_na 39 = 4 ∧ am_fr 39 + 1 ≤ am_fr 37 ∧ 8 + (am_maxL 39 + 11) + am_lo 39 ≤ am_lo 37 := by decide +kernel
theorem c37_84 : am_find am_ctL (am_mc 37) 84 = some (0, 38) ∧ am_na 38 = 4 ∧ am_fr 38 + 1 ≤ am_fr 37 ∧ 8 + (am_maxL 38 + 11) + am_lo 38 ≤ am_lo 37 := by decide +kernel
theorem c37_88 : am_find am_ctL (am_mc 37) 88 = some (0, 3) ∧ am_na 3 = 3 ∧ am_fr 3 + 1 ≤ am_fr 37 ∧ 8 + (am_maxL 3 + 11) + am_lo 3 ≤ am_lo 37 := by decide +kernel
theorem l37 : am_maxL 37 = 10 := by decide +kernel
theorem t37 : am_ret 37 = none := by decide +kernel
