/-! ThirdSheets$Groups.<init>(I)V is 0 -/
theorem d0_0 : decode (am_code 0) 0 = .ok (.aload_n 0, 1) := by decide +kernel
theorem d0_1 : decode (am_code 0) 1 = .ok (.invokespecial 1, 3) := by decide +kernel
theorem d0_4 : decode (am_code 0) 4 = .ok (.aload_n 0, 1) := by decide +kernel
theorem d0_5 : decode (am_code 0) 5 = .ok (.iload_n 1, 1) := by decide +kernel
theorem d0_6 : decode (am_code 0) 6 = .ok (.newarray .int, 2) := by decide +kernel
theorem d0_8 : decode (am_code 0) 8 = .ok (.putfield 7, 3) := by decide +kernel
theorem d0_11 : decode (am_code 0) 11 = .ok (.aload_n 0, 1) := by decide +kernel
theorem d0_12 : decode (am_code 0) 12 = .ok (.iload_n 1, 1) := by decide +kernel
theorem d0_13 : decode (am_code 0) 13 = .ok (.newarray .int, 2) := by decide +kernel
theorem d0_15 : decode (am_code 0) 15 = .ok (.putfield 13, 3) := by decide +kernel
theorem d0_18 : decode (am_code 0) 18 = .ok (.aload_n 0, 1) := by decide +kernel
theorem d0_19 : decode (am_code 0) 19 = .ok (.iload_n 1, 1) := by decide +kernel
theorem d0_20 : decode (am_code 0) 20 = .ok (.newarray .boolean, 2) := by decide +kernel
theorem d0_22 : decode (am_code 0) 22 = .ok (.putfield 16, 3) := by decide +kernel
theorem d0_25 : decode (am_code 0) 25 = .ok (.aload_n 0, 1) := by decide +kernel
theorem d0_26 : decode (am_code 0) 26 = .ok (.iload_n 1, 1) := by decide +kernel
theorem d0_27 : decode (am_code 0) 27 = .ok (.newarray .int, 2) := by decide +kernel
theorem d0_29 : decode (am_code 0) 29 = .ok (.putfield 20, 3) := by decide +kernel
theorem d0_32 : decode (am_code 0) 32 = .ok (.aload_n 0, 1) := by decide +kernel
theorem d0_33 : decode (am_code 0) 33 = .ok (.iload_n 1, 1) := by decide +kernel
theorem d0_34 : decode (am_code 0) 34 = .ok (.newarray .int, 2) := by decide +kernel
theorem d0_36 : decode (am_code 0) 36 = .ok (.putfield 23, 3) := by decide +kernel
theorem d0_39 : decode (am_code 0) 39 = .ok (.return_, 1) := by decide +kernel
theorem f0_7 : am_find am_ftL (am_mc 0) 7 = some (0, 0) := by decide +kernel
theorem f0_13 : am_find am_ftL (am_mc 0) 13 = some (0, 1) := by decide +kernel
theorem f0_16 : am_find am_ftL (am_mc 0) 16 = some (0, 2) := by decide +kernel
theorem f0_20 : am_find am_ftL (am_mc 0) 20 = some (0, 3) := by decide +kernel
theorem f0_23 : am_find am_ftL (am_mc 0) 23 = some (0, 4) := by decide +kernel
theorem c0_1 : am_find am_ctL (am_mc 0) 1 = some (4, 0) := by decide +kernel
theorem l0 : am_maxL 0 = 2 := by decide +kernel
theorem t0 : am_ret 0 = none := by decide +kernel
/-! ThirdSheets$Groups.start(I)V is 1 -/
theorem d1_0 : decode (am_code 1) 0 = .ok (.aload_n 0, 1) := by decide +kernel
theorem d1_1 : decode (am_code 1) 1 = .ok (.iload_n 1, 1) := by decide +kernel
theorem d1_2 : decode (am_code 1) 2 = .ok (.aload_n 0, 1) := by decide +kernel
theorem d1_3 : decode (am_code 1) 3 = .ok (.getfield 7, 3) := by decide +kernel
theorem d1_6 : decode (am_code 1) 6 = .ok (.arraylength, 1) := by decide +kernel
theorem d1_7 : decode (am_code 1) 7 = .ok (.invokestatic 26, 3) := by decide +kernel
theorem d1_10 : decode (am_code 1) 10 = .ok (.putfield 32, 3) := by decide +kernel
theorem d1_13 : decode (am_code 1) 13 = .ok (.iconst 0, 1) := by decide +kernel
theorem d1_14 : decode (am_code 1) 14 = .ok (.istore_n 2, 1) := by decide +kernel
theorem d1_15 : decode (am_code 1) 15 = .ok (.iload_n 2, 1) := by decide +kernel
theorem d1_16 : decode (am_code 1) 16 = .ok (.aload_n 0, 1) := by decide +kernel
theorem d1_17 : decode (am_code 1) 17 = .ok (.getfield 32, 3) := by decide +kernel
theorem d1_20 : decode (am_code 1) 20 = .ok (.if_icmp .ge 30, 3) := by decide +kernel
theorem d1_23 : decode (am_code 1) 23 = .ok (.aload_n 0, 1) := by decide +kernel
theorem d1_24 : decode (am_code 1) 24 = .ok (.getfield 7, 3) := by decide +kernel
theorem d1_27 : decode (am_code 1) 27 = .ok (.iload_n 2, 1) := by decide +kernel
theorem d1_28 : decode (am_code 1) 28 = .ok (.iload_n 2, 1) := by decide +kernel
theorem d1_29 : decode (am_code 1) 29 = .ok (.iastore, 1) := by decide +kernel
theorem d1_30 : decode (am_code 1) 30 = .ok (.aload_n 0, 1) := by decide +kernel
theorem d1_31 : decode (am_code 1) 31 = .ok (.getfield 13, 3) := by decide +kernel
theorem d1_34 : decode (am_code 1) 34 = .ok (.iload_n 2, 1) := by decide +kernel
theorem d1_35 : decode (am_code 1) 35 = .ok (.iconst 0, 1) := by decide +kernel
theorem d1_36 : decode (am_code 1) 36 = .ok (.iastore, 1) := by decide +kernel
theorem d1_37 : decode (am_code 1) 37 = .ok (.aload_n 0, 1) := by decide +kernel
theorem d1_38 : decode (am_code 1) 38 = .ok (.getfield 16, 3) := by decide +kernel
theorem d1_41 : decode (am_code 1) 41 = .ok (.iload_n 2, 1) := by decide +kernel
theorem d1_42 : decode (am_code 1) 42 = .ok (.iconst 0, 1) := by decide +kernel
theorem d1_43 : decode (am_code 1) 43 = .ok (.bastore, 1) := by decide +kernel
theorem d1_44 : decode (am_code 1) 44 = .ok (.iinc 2 1, 3) := by decide +kernel
theorem d1_47 : decode (am_code 1) 47 = .ok (.goto (-32), 3) := by decide +kernel
theorem d1_50 : decode (am_code 1) 50 = .ok (.return_, 1) := by decide +kernel
theorem f1_7 : am_find am_ftL (am_mc 1) 7 = some (0, 0) := by decide +kernel
theorem f1_32 : am_find am_ftL (am_mc 1) 32 = some (0, 5) := by decide +kernel
theorem f1_13 : am_find am_ftL (am_mc 1) 13 = some (0, 1) := by decide +kernel
theorem f1_16 : am_find am_ftL (am_mc 1) 16 = some (0, 2) := by decide +kernel
theorem c1_26 : am_find am_ctL (am_mc 1) 26 = some (6, 0) := by decide +kernel
theorem l1 : am_maxL 1 = 3 := by decide +kernel
theorem t1 : am_ret 1 = none := by decide +kernel
/-! ThirdSheets$Groups.rootOf(I)I is 2 -/
theorem d2_0 : decode (am_code 2) 0 = .ok (.iload_n 1, 1) := by decide +kernel
theorem d2_1 : decode (am_code 2) 1 = .ok (.istore_n 2, 1) := by decide +kernel
theorem d2_2 : decode (am_code 2) 2 = .ok (.iconst 0, 1) := by decide +kernel
theorem d2_3 : decode (am_code 2) 3 = .ok (.istore_n 3, 1) := by decide +kernel
theorem d2_4 : decode (am_code 2) 4 = .ok (.iconst 0, 1) := by decide +kernel
theorem d2_5 : decode (am_code 2) 5 = .ok (.istore 4, 2) := by decide +kernel
theorem d2_7 : decode (am_code 2) 7 = .ok (.iload 4, 2) := by decide +kernel
theorem d2_9 : decode (am_code 2) 9 = .ok (.aload_n 0, 1) := by decide +kernel
theorem d2_10 : decode (am_code 2) 10 = .ok (.getfield 32, 3) := by decide +kernel
theorem d2_13 : decode (am_code 2) 13 = .ok (.if_icmp .ge 35, 3) := by decide +kernel
theorem d2_16 : decode (am_code 2) 16 = .ok (.aload_n 0, 1) := by decide +kernel
theorem d2_17 : decode (am_code 2) 17 = .ok (.getfield 7, 3) := by decide +kernel
theorem d2_20 : decode (am_code 2) 20 = .ok (.iload_n 2, 1) := by decide +kernel
theorem d2_21 : decode (am_code 2) 21 = .ok (.iaload, 1) := by decide +kernel
theorem d2_22 : decode (am_code 2) 22 = .ok (.iload_n 2, 1) := by decide +kernel
theorem d2_23 : decode (am_code 2) 23 = .ok (.if_icmp .eq 25, 3) := by decide +kernel
theorem d2_26 : decode (am_code 2) 26 = .ok (.iload_n 3, 1) := by decide +kernel
theorem d2_27 : decode (am_code 2) 27 = .ok (.aload_n 0, 1) := by decide +kernel
theorem d2_28 : decode (am_code 2) 28 = .ok (.getfield 13, 3) := by decide +kernel
theorem d2_31 : decode (am_code 2) 31 = .ok (.iload_n 2, 1) := by decide +kernel
theorem d2_32 : decode (am_code 2) 32 = .ok (.iaload, 1) := by decide +kernel
theorem d2_33 : decode (am_code 2) 33 = .ok (.ixor, 1) := by decide +kernel
theorem d2_34 : decode (am_code 2) 34 = .ok (.istore_n 3, 1) := by decide +kernel
theorem d2_35 : decode (am_code 2) 35 = .ok (.aload_n 0, 1) := by decide +kernel
theorem d2_36 : decode (am_code 2) 36 = .ok (.getfield 7, 3) := by decide +kernel
theorem d2_39 : decode (am_code 2) 39 = .ok (.iload_n 2, 1) := by decide +kernel
theorem d2_40 : decode (am_code 2) 40 = .ok (.iaload, 1) := by decide +kernel
theorem d2_41 : decode (am_code 2) 41 = .ok (.istore_n 2, 1) := by decide +kernel
theorem d2_42 : decode (am_code 2) 42 = .ok (.iinc 4 1, 3) := by decide +kernel
theorem d2_45 : decode (am_code 2) 45 = .ok (.goto (-38), 3) := by decide +kernel
theorem d2_48 : decode (am_code 2) 48 = .ok (.aload_n 0, 1) := by decide +kernel
theorem d2_49 : decode (am_code 2) 49 = .ok (.getfield 7, 3) := by decide +kernel
theorem d2_52 : decode (am_code 2) 52 = .ok (.iload_n 1, 1) := by decide +kernel
theorem d2_53 : decode (am_code 2) 53 = .ok (.iload_n 2, 1) := by decide +kernel
theorem d2_54 : decode (am_code 2) 54 = .ok (.iastore, 1) := by decide +kernel
theorem d2_55 : decode (am_code 2) 55 = .ok (.aload_n 0, 1) := by decide +kernel
theorem d2_56 : decode (am_code 2) 56 = .ok (.getfield 13, 3) := by decide +kernel
theorem d2_59 : decode (am_code 2) 59 = .ok (.iload_n 1, 1) := by decide +kernel
theorem d2_60 : decode (am_code 2) 60 = .ok (.iload_n 3, 1) := by decide +kernel
theorem d2_61 : decode (am_code 2) 61 = .ok (.iastore, 1) := by decide +kernel
theorem d2_62 : decode (am_code 2) 62 = .ok (.iload_n 2, 1) := by decide +kernel
theorem d2_63 : decode (am_code 2) 63 = .ok (.ireturn, 1) := by decide +kernel
theorem f2_32 : am_find am_ftL (am_mc 2) 32 = some (0, 5) := by decide +kernel
theorem f2_7 : am_find am_ftL (am_mc 2) 7 = some (0, 0) := by decide +kernel
theorem f2_13 : am_find am_ftL (am_mc 2) 13 = some (0, 1) := by decide +kernel
theorem l2 : am_maxL 2 = 5 := by decide +kernel
theorem t2 : am_ret 2 = (some .int) := by decide +kernel
/-! ThirdSheets$Groups.join(IIZ)V is 3 -/
theorem d3_0 : decode (am_code 3) 0 = .ok (.aload_n 0, 1) := by decide +kernel
theorem d3_1 : decode (am_code 3) 1 = .ok (.iload_n 1, 1) := by decide +kernel
theorem d3_2 : decode (am_code 3) 2 = .ok (.invokevirtual 36, 3) := by decide +kernel
theorem d3_5 : decode (am_code 3) 5 = .ok (.istore 4, 2) := by decide +kernel
theorem d3_7 : decode (am_code 3) 7 = .ok (.aload_n 0, 1) := by decide +kernel
theorem d3_8 : decode (am_code 3) 8 = .ok (.iload_n 2, 1) := by decide +kernel
theorem d3_9 : decode (am_code 3) 9 = .ok (.invokevirtual 36, 3) := by decide +kernel
theorem d3_12 : decode (am_code 3) 12 = .ok (.istore 5, 2) := by decide +kernel
theorem d3_14 : decode (am_code 3) 14 = .ok (.aload_n 0, 1) := by decide +kernel
theorem d3_15 : decode (am_code 3) 15 = .ok (.getfield 13, 3) := by decide +kernel
theorem d3_18 : decode (am_code 3) 18 = .ok (.iload_n 1, 1) := by decide +kernel
theorem d3_19 : decode (am_code 3) 19 = .ok (.iaload, 1) := by decide +kernel
theorem d3_20 : decode (am_code 3) 20 = .ok (.aload_n 0, 1) := by decide +kernel
theorem d3_21 : decode (am_code 3) 21 = .ok (.getfield 13, 3) := by decide +kernel
theorem d3_24 : decode (am_code 3) 24 = .ok (.iload_n 2, 1) := by decide +kernel
theorem d3_25 : decode (am_code 3) 25 = .ok (.iaload, 1) := by decide +kernel
theorem d3_26 : decode (am_code 3) 26 = .ok (.ixor, 1) := by decide +kernel
theorem d3_27 : decode (am_code 3) 27 = .ok (.iload_n 3, 1) := by decide +kernel
theorem d3_28 : decode (am_code 3) 28 = .ok (.ifCond .eq 7, 3) := by decide +kernel
theorem d3_31 : decode (am_code 3) 31 = .ok (.iconst 1, 1) := by decide +kernel
theorem d3_32 : decode (am_code 3) 32 = .ok (.goto 4, 3) := by decide +kernel
theorem d3_35 : decode (am_code 3) 35 = .ok (.iconst 0, 1) := by decide +kernel
theorem d3_36 : decode (am_code 3) 36 = .ok (.ixor, 1) := by decide +kernel
theorem d3_37 : decode (am_code 3) 37 = .ok (.istore 6, 2) := by decide +kernel
theorem d3_39 : decode (am_code 3) 39 = .ok (.iload 4, 2) := by decide +kernel
theorem d3_41 : decode (am_code 3) 41 = .ok (.iload 5, 2) := by decide +kernel
theorem d3_43 : decode (am_code 3) 43 = .ok (.if_icmp .ne 18, 3) := by decide +kernel
theorem d3_46 : decode (am_code 3) 46 = .ok (.iload 6, 2) := by decide +kernel
theorem d3_48 : decode (am_code 3) 48 = .ok (.iconst 1, 1) := by decide +kernel
theorem d3_49 : decode (am_code 3) 49 = .ok (.if_icmp .ne 11, 3) := by decide +kernel
theorem d3_52 : decode (am_code 3) 52 = .ok (.aload_n 0, 1) := by decide +kernel
theorem d3_53 : decode (am_code 3) 53 = .ok (.getfield 16, 3) := by decide +kernel
theorem d3_56 : decode (am_code 3) 56 = .ok (.iload 4, 2) := by decide +kernel
theorem d3_58 : decode (am_code 3) 58 = .ok (.iconst 1, 1) := by decide +kernel
theorem d3_59 : decode (am_code 3) 59 = .ok (.bastore, 1) := by decide +kernel
theorem d3_60 : decode (am_code 3) 60 = .ok (.return_, 1) := by decide +kernel
theorem d3_61 : decode (am_code 3) 61 = .ok (.iload 4, 2) := by decide +kernel
theorem d3_63 : decode (am_code 3) 63 = .ok (.iload 5, 2) := by decide +kernel
theorem d3_65 : decode (am_code 3) 65 = .ok (.invokestatic 26, 3) := by decide +kernel
theorem d3_68 : decode (am_code 3) 68 = .ok (.istore 7, 2) := by decide +kernel
theorem d3_70 : decode (am_code 3) 70 = .ok (.iload 4, 2) := by decide +kernel
theorem d3_72 : decode (am_code 3) 72 = .ok (.iload 5, 2) := by decide +kernel
theorem d3_74 : decode (am_code 3) 74 = .ok (.invokestatic 40, 3) := by decide +kernel
theorem d3_77 : decode (am_code 3) 77 = .ok (.istore 8, 2) := by decide +kernel
theorem d3_79 : decode (am_code 3) 79 = .ok (.aload_n 0, 1) := by decide +kernel
theorem d3_80 : decode (am_code 3) 80 = .ok (.getfield 7, 3) := by decide +kernel
theorem d3_83 : decode (am_code 3) 83 = .ok (.iload 8, 2) := by decide +kernel
theorem d3_85 : decode (am_code 3) 85 = .ok (.iload 7, 2) := by decide +kernel
theorem d3_87 : decode (am_code 3) 87 = .ok (.iastore, 1) := by decide +kernel
theorem d3_88 : decode (am_code 3) 88 = .ok (.aload_n 0, 1) := by decide +kernel
theorem d3_89 : decode (am_code 3) 89 = .ok (.getfield 13, 3) := by decide +kernel
theorem d3_92 : decode (am_code 3) 92 = .ok (.iload 8, 2) := by decide +kernel
theorem d3_94 : decode (am_code 3) 94 = .ok (.iload 6, 2) := by decide +kernel
theorem d3_96 : decode (am_code 3) 96 = .ok (.iastore, 1) := by decide +kernel
theorem d3_97 : decode (am_code 3) 97 = .ok (.aload_n 0, 1) := by decide +kernel
theorem d3_98 : decode (am_code 3) 98 = .ok (.getfield 16, 3) := by decide +kernel
theorem d3_101 : decode (am_code 3) 101 = .ok (.iload 8, 2) := by decide +kernel
theorem d3_103 : decode (am_code 3) 103 = .ok (.baload, 1) := by decide +kernel
theorem d3_104 : decode (am_code 3) 104 = .ok (.ifCond .eq 11, 3) := by decide +kernel
theorem d3_107 : decode (am_code 3) 107 = .ok (.aload_n 0, 1) := by decide +kernel
theorem d3_108 : decode (am_code 3) 108 = .ok (.getfield 16, 3) := by decide +kernel
theorem d3_111 : decode (am_code 3) 111 = .ok (.iload 7, 2) := by decide +kernel
theorem d3_113 : decode (am_code 3) 113 = .ok (.iconst 1, 1) := by decide +kernel
theorem d3_114 : decode (am_code 3) 114 = .ok (.bastore, 1) := by decide +kernel
theorem d3_115 : decode (am_code 3) 115 = .ok (.return_, 1) := by decide +kernel
theorem f3_13 : am_find am_ftL (am_mc 3) 13 = some (0, 1) := by decide +kernel
theorem f3_16 : am_find am_ftL (am_mc 3) 16 = some (0, 2) := by decide +kernel
theorem f3_7 : am_find am_ftL (am_mc 3) 7 = some (0, 0) := by decide +kernel
theorem c3_36 : am_find am_ctL (am_mc 3) 36 = some (0, 2) ∧ am_na 2 = 1 ∧ am_fr 2 + 1 ≤ am_fr 3 ∧ 8 + (am_maxL 2 + 11) + am_lo 2 ≤ am_lo 3 := by decide +kernel
theorem c3_26 : am_find am_ctL (am_mc 3) 26 = some (6, 0) := by decide +kernel
theorem c3_40 : am_find am_ctL (am_mc 3) 40 = some (7, 0) := by decide +kernel
theorem l3 : am_maxL 3 = 9 := by decide +kernel
theorem t3 : am_ret 3 = none := by decide +kernel
/-! ThirdSheets$Groups.settle()V is 4 -/
theorem d4_0 : decode (am_code 4) 0 = .ok (.aload_n 0, 1) := by decide +kernel
theorem d4_1 : decode (am_code 4) 1 = .ok (.iconst 0, 1) := by decide +kernel
theorem d4_2 : decode (am_code 4) 2 = .ok (.putfield 43, 3) := by decide +kernel
theorem d4_5 : decode (am_code 4) 5 = .ok (.iconst 0, 1) := by decide +kernel
theorem d4_6 : decode (am_code 4) 6 = .ok (.istore_n 1, 1) := by decide +kernel
theorem d4_7 : decode (am_code 4) 7 = .ok (.iload_n 1, 1) := by decide +kernel
theorem d4_8 : decode (am_code 4) 8 = .ok (.aload_n 0, 1) := by decide +kernel
theorem d4_9 : decode (am_code 4) 9 = .ok (.getfield 32, 3) := by decide +kernel
theorem d4_12 : decode (am_code 4) 12 = .ok (.if_icmp .ge 65, 3) := by decide +kernel
theorem d4_15 : decode (am_code 4) 15 = .ok (.aload_n 0, 1) := by decide +kernel
theorem d4_16 : decode (am_code 4) 16 = .ok (.iload_n 1, 1) := by decide +kernel
theorem d4_17 : decode (am_code 4) 17 = .ok (.invokevirtual 36, 3) := by decide +kernel
theorem d4_20 : decode (am_code 4) 20 = .ok (.istore_n 2, 1) := by decide +kernel
theorem d4_21 : decode (am_code 4) 21 = .ok (.iload_n 2, 1) := by decide +kernel
theorem d4_22 : decode (am_code 4) 22 = .ok (.iload_n 1, 1) := by decide +kernel
theorem d4_23 : decode (am_code 4) 23 = .ok (.if_icmp .ne 36, 3) := by decide +kernel
theorem d4_26 : decode (am_code 4) 26 = .ok (.aload_n 0, 1) := by decide +kernel
theorem d4_27 : decode (am_code 4) 27 = .ok (.getfield 23, 3) := by decide +kernel
theorem d4_30 : decode (am_code 4) 30 = .ok (.aload_n 0, 1) := by decide +kernel
theorem d4_31 : decode (am_code 4) 31 = .ok (.getfield 43, 3) := by decide +kernel
theorem d4_34 : decode (am_code 4) 34 = .ok (.iload_n 1, 1) := by decide +kernel
theorem d4_35 : decode (am_code 4) 35 = .ok (.iastore, 1) := by decide +kernel
theorem d4_36 : decode (am_code 4) 36 = .ok (.aload_n 0, 1) := by decide +kernel
theorem d4_37 : decode (am_code 4) 37 = .ok (.getfield 20, 3) := by decide +kernel
theorem d4_40 : decode (am_code 4) 40 = .ok (.iload_n 1, 1) := by decide +kernel
theorem d4_41 : decode (am_code 4) 41 = .ok (.aload_n 0, 1) := by decide +kernel
theorem d4_42 : decode (am_code 4) 42 = .ok (.getfield 43, 3) := by decide +kernel
theorem d4_45 : decode (am_code 4) 45 = .ok (.iastore, 1) := by decide +kernel
theorem d4_46 : decode (am_code 4) 46 = .ok (.aload_n 0, 1) := by decide +kernel
theorem d4_47 : decode (am_code 4) 47 = .ok (.dup, 1) := by decide +kernel
theorem d4_48 : decode (am_code 4) 48 = .ok (.getfield 43, 3) := by decide +kernel
theorem d4_51 : decode (am_code 4) 51 = .ok (.iconst 1, 1) := by decide +kernel
theorem d4_52 : decode (am_code 4) 52 = .ok (.iadd, 1) := by decide +kernel
theorem d4_53 : decode (am_code 4) 53 = .ok (.putfield 43, 3) := by decide +kernel
theorem d4_56 : decode (am_code 4) 56 = .ok (.goto 15, 3) := by decide +kernel
theorem d4_59 : decode (am_code 4) 59 = .ok (.aload_n 0, 1) := by decide +kernel
theorem d4_60 : decode (am_code 4) 60 = .ok (.getfield 20, 3) := by decide +kernel
theorem d4_63 : decode (am_code 4) 63 = .ok (.iload_n 1, 1) := by decide +kernel
theorem d4_64 : decode (am_code 4) 64 = .ok (.aload_n 0, 1) := by decide +kernel
theorem d4_65 : decode (am_code 4) 65 = .ok (.getfield 20, 3) := by decide +kernel
theorem d4_68 : decode (am_code 4) 68 = .ok (.iload_n 2, 1) := by decide +kernel
theorem d4_69 : decode (am_code 4) 69 = .ok (.iaload, 1) := by decide +kernel
theorem d4_70 : decode (am_code 4) 70 = .ok (.iastore, 1) := by decide +kernel
theorem d4_71 : decode (am_code 4) 71 = .ok (.iinc 1 1, 3) := by decide +kernel
theorem d4_74 : decode (am_code 4) 74 = .ok (.goto (-67), 3) := by decide +kernel
theorem d4_77 : decode (am_code 4) 77 = .ok (.return_, 1) := by decide +kernel
theorem f4_43 : am_find am_ftL (am_mc 4) 43 = some (0, 6) := by decide +kernel
theorem f4_32 : am_find am_ftL (am_mc 4) 32 = some (0, 5) := by decide +kernel
theorem f4_23 : am_find am_ftL (am_mc 4) 23 = some (0, 4) := by decide +kernel
theorem f4_20 : am_find am_ftL (am_mc 4) 20 = some (0, 3) := by decide +kernel
theorem c4_36 : am_find am_ctL (am_mc 4) 36 = some (0, 2) ∧ am_na 2 = 1 ∧ am_fr 2 + 1 ≤ am_fr 4 ∧ 8 + (am_maxL 2 + 11) + am_lo 2 ≤ am_lo 4 := by decide +kernel
theorem l4 : am_maxL 4 = 3 := by decide +kernel
theorem t4 : am_ret 4 = none := by decide +kernel
/-! ThirdSheets$Groups.clashes(I)Z is 5 -/
theorem d5_0 : decode (am_code 5) 0 = .ok (.aload_n 0, 1) := by decide +kernel
theorem d5_1 : decode (am_code 5) 1 = .ok (.getfield 16, 3) := by decide +kernel
theorem d5_4 : decode (am_code 5) 4 = .ok (.aload_n 0, 1) := by decide +kernel
theorem d5_5 : decode (am_code 5) 5 = .ok (.getfield 23, 3) := by decide +kernel
theorem d5_8 : decode (am_code 5) 8 = .ok (.iload_n 1, 1) := by decide +kernel
theorem d5_9 : decode (am_code 5) 9 = .ok (.iaload, 1) := by decide +kernel
theorem d5_10 : decode (am_code 5) 10 = .ok (.baload, 1) := by decide +kernel
theorem d5_11 : decode (am_code 5) 11 = .ok (.ireturn, 1) := by decide +kernel
theorem f5_16 : am_find am_ftL (am_mc 5) 16 = some (0, 2) := by decide +kernel
theorem f5_23 : am_find am_ftL (am_mc 5) 23 = some (0, 4) := by decide +kernel
theorem l5 : am_maxL 5 = 2 := by decide +kernel
theorem t5 : am_ret 5 = (some .boolean) := by decide +kernel
/-! ThirdSheets$Groups.anyClashes()Z is 6 -/
theorem d6_0 : decode (am_code 6) 0 = .ok (.iconst 0, 1) := by decide +kernel
theorem d6_1 : decode (am_code 6) 1 = .ok (.istore_n 1, 1) := by decide +kernel
theorem d6_2 : decode (am_code 6) 2 = .ok (.iload_n 1, 1) := by decide +kernel
theorem d6_3 : decode (am_code 6) 3 = .ok (.aload_n 0, 1) := by decide +kernel
theorem d6_4 : decode (am_code 6) 4 = .ok (.getfield 43, 3) := by decide +kernel
theorem d6_7 : decode (am_code 6) 7 = .ok (.if_icmp .ge 19, 3) := by decide +kernel
theorem d6_10 : decode (am_code 6) 10 = .ok (.aload_n 0, 1) := by decide +kernel
theorem d6_11 : decode (am_code 6) 11 = .ok (.iload_n 1, 1) := by decide +kernel
theorem d6_12 : decode (am_code 6) 12 = .ok (.invokevirtual 46, 3) := by decide +kernel
theorem d6_15 : decode (am_code 6) 15 = .ok (.ifCond .eq 5, 3) := by decide +kernel
theorem d6_18 : decode (am_code 6) 18 = .ok (.iconst 1, 1) := by decide +kernel
theorem d6_19 : decode (am_code 6) 19 = .ok (.ireturn, 1) := by decide +kernel
theorem d6_20 : decode (am_code 6) 20 = .ok (.iinc 1 1, 3) := by decide +kernel
theorem d6_23 : decode (am_code 6) 23 = .ok (.goto (-21), 3) := by decide +kernel
theorem d6_26 : decode (am_code 6) 26 = .ok (.iconst 0, 1) := by decide +kernel
theorem d6_27 : decode (am_code 6) 27 = .ok (.ireturn, 1) := by decide +kernel
theorem f6_43 : am_find am_ftL (am_mc 6) 43 = some (0, 6) := by decide +kernel
theorem c6_46 : am_find am_ctL (am_mc 6) 46 = some (0, 5) ∧ am_na 5 = 1 ∧ am_fr 5 + 1 ≤ am_fr 6 ∧ 8 + (am_maxL 5 + 11) + am_lo 5 ≤ am_lo 6 := by decide +kernel
theorem l6 : am_maxL 6 = 2 := by decide +kernel
theorem t6 : am_ret 6 = (some .boolean) := by decide +kernel
/-! ThirdSheets$LeastSheets.<init>()V is 7 -/
theorem d7_0 : decode (am_code 7) 0 = .ok (.aload_n 0, 1) := by decide +kernel
theorem d7_1 : decode (am_code 7) 1 = .ok (.invokespecial 3, 3) := by decide +kernel
theorem d7_4 : decode (am_code 7) 4 = .ok (.aload_n 0, 1) := by decide +kernel
theorem d7_5 : decode (am_code 7) 5 = .ok (.bipush 64, 2) := by decide +kernel
theorem d7_7 : decode (am_code 7) 7 = .ok (.bipush 21, 2) := by decide +kernel
theorem d7_9 : decode (am_code 7) 9 = .ok (.multianewarray 11 2, 4) := by decide +kernel
theorem d7_13 : decode (am_code 7) 13 = .ok (.putfield 13, 3) := by decide +kernel
theorem d7_16 : decode (am_code 7) 16 = .ok (.aload_n 0, 1) := by decide +kernel
theorem d7_17 : decode (am_code 7) 17 = .ok (.bipush 64, 2) := by decide +kernel
theorem d7_19 : decode (am_code 7) 19 = .ok (.newarray .int, 2) := by decide +kernel
theorem d7_21 : decode (am_code 7) 21 = .ok (.putfield 16, 3) := by decide +kernel
theorem d7_24 : decode (am_code 7) 24 = .ok (.aload_n 0, 1) := by decide +kernel
theorem d7_25 : decode (am_code 7) 25 = .ok (.bipush 64, 2) := by decide +kernel
theorem d7_27 : decode (am_code 7) 27 = .ok (.newarray .int, 2) := by decide +kernel
theorem d7_29 : decode (am_code 7) 29 = .ok (.putfield 20, 3) := by decide +kernel
theorem d7_32 : decode (am_code 7) 32 = .ok (.aload_n 0, 1) := by decide +kernel
theorem d7_33 : decode (am_code 7) 33 = .ok (.bipush 64, 2) := by decide +kernel
theorem d7_35 : decode (am_code 7) 35 = .ok (.bipush 21, 2) := by decide +kernel
theorem d7_37 : decode (am_code 7) 37 = .ok (.multianewarray 11 2, 4) := by decide +kernel
theorem d7_41 : decode (am_code 7) 41 = .ok (.putfield 23, 3) := by decide +kernel
theorem d7_44 : decode (am_code 7) 44 = .ok (.aload_n 0, 1) := by decide +kernel
theorem d7_45 : decode (am_code 7) 45 = .ok (.bipush 64, 2) := by decide +kernel
theorem d7_47 : decode (am_code 7) 47 = .ok (.newarray .int, 2) := by decide +kernel
theorem d7_49 : decode (am_code 7) 49 = .ok (.putfield 26, 3) := by decide +kernel
theorem d7_52 : decode (am_code 7) 52 = .ok (.return_, 1) := by decide +kernel
theorem f7_13 : am_find am_ftL (am_mc 7) 13 = some (1, 2) := by decide +kernel
theorem f7_16 : am_find am_ftL (am_mc 7) 16 = some (1, 3) := by decide +kernel
theorem f7_20 : am_find am_ftL (am_mc 7) 20 = some (1, 4) := by decide +kernel
theorem f7_23 : am_find am_ftL (am_mc 7) 23 = some (1, 6) := by decide +kernel
theorem f7_26 : am_find am_ftL (am_mc 7) 26 = some (1, 7) := by decide +kernel
theorem c7_3 : am_find am_ctL (am_mc 7) 3 = some (4, 0) := by decide +kernel
theorem l7 : am_maxL 7 = 1 := by decide +kernel
theorem t7 : am_ret 7 = none := by decide +kernel
/-! ThirdSheets$LeastSheets.build(LThirdSheets$Space;)V is 8 -/
theorem d8_0 : decode (am_code 8) 0 = .ok (.aload_n 0, 1) := by decide +kernel
theorem d8_1 : decode (am_code 8) 1 = .ok (.bipush 7, 2) := by decide +kernel
theorem d8_3 : decode (am_code 8) 3 = .ok (.aload_n 1, 1) := by decide +kernel
theorem d8_4 : decode (am_code 8) 4 = .ok (.getfield 29, 3) := by decide +kernel
theorem d8_7 : decode (am_code 8) 7 = .ok (.imul, 1) := by decide +kernel
theorem d8_8 : decode (am_code 8) 8 = .ok (.invokevirtual 35, 3) := by decide +kernel
theorem d8_11 : decode (am_code 8) 11 = .ok (.iconst 0, 1) := by decide +kernel
theorem d8_12 : decode (am_code 8) 12 = .ok (.istore_n 2, 1) := by decide +kernel
theorem d8_13 : decode (am_code 8) 13 = .ok (.iload_n 2, 1) := by decide +kernel
theorem d8_14 : decode (am_code 8) 14 = .ok (.iconst 4, 1) := by decide +kernel
theorem d8_15 : decode (am_code 8) 15 = .ok (.aload_n 1, 1) := by decide +kernel
theorem d8_16 : decode (am_code 8) 16 = .ok (.getfield 29, 3) := by decide +kernel
theorem d8_19 : decode (am_code 8) 19 = .ok (.imul, 1) := by decide +kernel
theorem d8_20 : decode (am_code 8) 20 = .ok (.if_icmp .ge 63, 3) := by decide +kernel
theorem d8_23 : decode (am_code 8) 23 = .ok (.iconst 0, 1) := by decide +kernel
theorem d8_24 : decode (am_code 8) 24 = .ok (.istore_n 3, 1) := by decide +kernel
theorem d8_25 : decode (am_code 8) 25 = .ok (.iload_n 3, 1) := by decide +kernel
theorem d8_26 : decode (am_code 8) 26 = .ok (.iconst 4, 1) := by decide +kernel
theorem d8_27 : decode (am_code 8) 27 = .ok (.if_icmp .ge 50, 3) := by decide +kernel
theorem d8_30 : decode (am_code 8) 30 = .ok (.aload_n 1, 1) := by decide +kernel
theorem d8_31 : decode (am_code 8) 31 = .ok (.iload_n 2, 1) := by decide +kernel
theorem d8_32 : decode (am_code 8) 32 = .ok (.invokevirtual 39, 3) := by decide +kernel
theorem d8_35 : decode (am_code 8) 35 = .ok (.ifCond .eq 42, 3) := by decide +kernel
theorem d8_38 : decode (am_code 8) 38 = .ok (.iload_n 3, 1) := by decide +kernel
theorem d8_39 : decode (am_code 8) 39 = .ok (.iload_n 2, 1) := by decide +kernel
theorem d8_40 : decode (am_code 8) 40 = .ok (.iconst 4, 1) := by decide +kernel
theorem d8_41 : decode (am_code 8) 41 = .ok (.irem, 1) := by decide +kernel
theorem d8_42 : decode (am_code 8) 42 = .ok (.if_icmp .eq 29, 3) := by decide +kernel
theorem d8_45 : decode (am_code 8) 45 = .ok (.aload_n 0, 1) := by decide +kernel
theorem d8_46 : decode (am_code 8) 46 = .ok (.iload_n 2, 1) := by decide +kernel
theorem d8_47 : decode (am_code 8) 47 = .ok (.iload_n 3, 1) := by decide +kernel
theorem d8_48 : decode (am_code 8) 48 = .ok (.aload_n 1, 1) := by decide +kernel
theorem d8_49 : decode (am_code 8) 49 = .ok (.getfield 43, 3) := by decide +kernel
theorem d8_52 : decode (am_code 8) 52 = .ok (.iload_n 2, 1) := by decide +kernel
theorem d8_53 : decode (am_code 8) 53 = .ok (.iaload, 1) := by decide +kernel
theorem d8_54 : decode (am_code 8) 54 = .ok (.aload_n 1, 1) := by decide +kernel
theorem d8_55 : decode (am_code 8) 55 = .ok (.getfield 46, 3) := by decide +kernel
theorem d8_58 : decode (am_code 8) 58 = .ok (.iconst 4, 1) := by decide +kernel
theorem d8_59 : decode (am_code 8) 59 = .ok (.iload_n 2, 1) := by decide +kernel
theorem d8_60 : decode (am_code 8) 60 = .ok (.imul, 1) := by decide +kernel
theorem d8_61 : decode (am_code 8) 61 = .ok (.iload_n 3, 1) := by decide +kernel
theorem d8_62 : decode (am_code 8) 62 = .ok (.iadd, 1) := by decide +kernel
theorem d8_63 : decode (am_code 8) 63 = .ok (.iaload, 1) := by decide +kernel
theorem d8_64 : decode (am_code 8) 64 = .ok (.invokevirtual 49, 3) := by decide +kernel
theorem d8_67 : decode (am_code 8) 67 = .ok (.aload_n 0, 1) := by decide +kernel
theorem d8_68 : decode (am_code 8) 68 = .ok (.invokevirtual 53, 3) := by decide +kernel
theorem d8_71 : decode (am_code 8) 71 = .ok (.iinc 3 1, 3) := by decide +kernel
theorem d8_74 : decode (am_code 8) 74 = .ok (.goto (-49), 3) := by decide +kernel
theorem d8_77 : decode (am_code 8) 77 = .ok (.iinc 2 1, 3) := by decide +kernel
theorem d8_80 : decode (am_code 8) 80 = .ok (.goto (-67), 3) := by decide +kernel
theorem d8_83 : decode (am_code 8) 83 = .ok (.aload_n 0, 1) := by decide +kernel
theorem d8_84 : decode (am_code 8) 84 = .ok (.invokevirtual 56, 3) := by decide +kernel
theorem d8_87 : decode (am_code 8) 87 = .ok (.return_, 1) := by decide +kernel
theorem f8_29 : am_find am_ftL (am_mc 8) 29 = some (5, 0) := by decide +kernel
theorem f8_43 : am_find am_ftL (am_mc 8) 43 = some (5, 2) := by decide +kernel
theorem f8_46 : am_find am_ftL (am_mc 8) 46 = some (5, 3) := by decide +kernel
theorem c8_35 : am_find am_ctL (am_mc 8) 35 = some (0, 9) ∧ am_na 9 = 1 ∧ am_fr 9 + 1 ≤ am_fr 8 ∧ 8 + (am_maxL 9 + 11) + am_lo 9 ≤ am_lo 8 := by decide +kernel
theorem c8_39 : am_find am_ctL (am_mc 8) 39 = some (0, 64) ∧ am_na 64 = 1 ∧ am_fr 64 + 1 ≤ am_fr 8 ∧ 8 + (am_maxL 64 + 11) + am_lo 64 ≤ am_lo 8 := by decide +kernel
theorem c8_49 : am_find am_ctL (am_mc 8) 49 = some (0, 10) ∧ am_na 10 = 4 ∧ am_fr 10 + 1 ≤ am_fr 8 ∧ 8 + (am_maxL 10 + 11) + am_lo 10 ≤ am_lo 8 := by decide +kernel
theorem c8_53 : am_find am_ctL (am_mc 8) 53 = some (0, 11) ∧ am_na 11 = 0 ∧ am_fr 11 + 1 ≤ am_fr 8 ∧ 8 + (am_maxL 11 + 11) + am_lo 11 ≤ am_lo 8 := by decide +kernel
theorem c8_56 : am_find am_ctL (am_mc 8) 56 = some (0, 18) ∧ am_na 18 = 0 ∧ am_fr 18 + 1 ≤ am_fr 8 ∧ 8 + (am_maxL 18 + 11) + am_lo 18 ≤ am_lo 8 := by decide +kernel
theorem l8 : am_maxL 8 = 4 := by decide +kernel
theorem t8 : am_ret 8 = none := by decide +kernel
/-! ThirdSheets$LeastSheets.startWithSingleCuts(I)V is 9 -/
theorem d9_0 : decode (am_code 9) 0 = .ok (.aload_n 0, 1) := by decide +kernel
theorem d9_1 : decode (am_code 9) 1 = .ok (.iload_n 1, 1) := by decide +kernel
theorem d9_2 : decode (am_code 9) 2 = .ok (.putfield 59, 3) := by decide +kernel
theorem d9_5 : decode (am_code 9) 5 = .ok (.aload_n 0, 1) := by decide +kernel
theorem d9_6 : decode (am_code 9) 6 = .ok (.iload_n 1, 1) := by decide +kernel
theorem d9_7 : decode (am_code 9) 7 = .ok (.putfield 62, 3) := by decide +kernel
theorem d9_10 : decode (am_code 9) 10 = .ok (.iconst 0, 1) := by decide +kernel
theorem d9_11 : decode (am_code 9) 11 = .ok (.istore_n 2, 1) := by decide +kernel
theorem d9_12 : decode (am_code 9) 12 = .ok (.iload_n 2, 1) := by decide +kernel
theorem d9_13 : decode (am_code 9) 13 = .ok (.iload_n 1, 1) := by decide +kernel
theorem d9_14 : decode (am_code 9) 14 = .ok (.if_icmp .ge 37, 3) := by decide +kernel
theorem d9_17 : decode (am_code 9) 17 = .ok (.aload_n 0, 1) := by decide +kernel
theorem d9_18 : decode (am_code 9) 18 = .ok (.getfield 13, 3) := by decide +kernel
theorem d9_21 : decode (am_code 9) 21 = .ok (.iload_n 2, 1) := by decide +kernel
theorem d9_22 : decode (am_code 9) 22 = .ok (.aaload, 1) := by decide +kernel
theorem d9_23 : decode (am_code 9) 23 = .ok (.iconst 0, 1) := by decide +kernel
theorem d9_24 : decode (am_code 9) 24 = .ok (.invokestatic 65, 3) := by decide +kernel
theorem d9_27 : decode (am_code 9) 27 = .ok (.aload_n 0, 1) := by decide +kernel
theorem d9_28 : decode (am_code 9) 28 = .ok (.getfield 13, 3) := by decide +kernel
theorem d9_31 : decode (am_code 9) 31 = .ok (.iload_n 2, 1) := by decide +kernel
theorem d9_32 : decode (am_code 9) 32 = .ok (.aaload, 1) := by decide +kernel
theorem d9_33 : decode (am_code 9) 33 = .ok (.iload_n 2, 1) := by decide +kernel
theorem d9_34 : decode (am_code 9) 34 = .ok (.iconst 1, 1) := by decide +kernel
theorem d9_35 : decode (am_code 9) 35 = .ok (.iastore, 1) := by decide +kernel
theorem d9_36 : decode (am_code 9) 36 = .ok (.aload_n 0, 1) := by decide +kernel
theorem d9_37 : decode (am_code 9) 37 = .ok (.getfield 16, 3) := by decide +kernel
theorem d9_40 : decode (am_code 9) 40 = .ok (.iload_n 2, 1) := by decide +kernel
theorem d9_41 : decode (am_code 9) 41 = .ok (.iconst 1, 1) := by decide +kernel
theorem d9_42 : decode (am_code 9) 42 = .ok (.iload_n 2, 1) := by decide +kernel
theorem d9_43 : decode (am_code 9) 43 = .ok (.ishl, 1) := by decide +kernel
theorem d9_44 : decode (am_code 9) 44 = .ok (.iastore, 1) := by decide +kernel
theorem d9_45 : decode (am_code 9) 45 = .ok (.iinc 2 1, 3) := by decide +kernel
theorem d9_48 : decode (am_code 9) 48 = .ok (.goto (-36), 3) := by decide +kernel
theorem d9_51 : decode (am_code 9) 51 = .ok (.return_, 1) := by decide +kernel
theorem f9_59 : am_find am_ftL (am_mc 9) 59 = some (1, 0) := by decide +kernel
theorem f9_62 : am_find am_ftL (am_mc 9) 62 = some (1, 1) := by decide +kernel
theorem f9_13 : am_find am_ftL (am_mc 9) 13 = some (1, 2) := by decide +kernel
theorem f9_16 : am_find am_ftL (am_mc 9) 16 = some (1, 3) := by decide +kernel
theorem c9_65 : am_find am_ctL (am_mc 9) 65 = some (1, 180) ∧ am_na 180 = 2 ∧ am_fr 180 + 1 ≤ am_fr 9 ∧ 8 + (am_maxL 180 + 11) + am_lo 180 ≤ am_lo 9 := by decide +kernel
theorem l9 : am_maxL 9 = 3 := by decide +kernel
theorem t9 : am_ret 9 = none := by decide +kernel
/-! ThirdSheets$LeastSheets.weigh(IIII)V is 10 -/
theorem d10_0 : decode (am_code 10) 0 = .ok (.iconst 0, 1) := by decide +kernel
theorem d10_1 : decode (am_code 10) 1 = .ok (.istore 5, 2) := by decide +kernel
theorem d10_3 : decode (am_code 10) 3 = .ok (.iload 5, 2) := by decide +kernel
theorem d10_5 : decode (am_code 10) 5 = .ok (.aload_n 0, 1) := by decide +kernel
theorem d10_6 : decode (am_code 10) 6 = .ok (.getfield 62, 3) := by decide +kernel
theorem d10_9 : decode (am_code 10) 9 = .ok (.if_icmp .ge 42, 3) := by decide +kernel
theorem d10_12 : decode (am_code 10) 12 = .ok (.aload_n 0, 1) := by decide +kernel
theorem d10_13 : decode (am_code 10) 13 = .ok (.getfield 20, 3) := by decide +kernel
theorem d10_16 : decode (am_code 10) 16 = .ok (.iload 5, 2) := by decide +kernel
theorem d10_18 : decode (am_code 10) 18 = .ok (.aload_n 0, 1) := by decide +kernel
theorem d10_19 : decode (am_code 10) 19 = .ok (.getfield 13, 3) := by decide +kernel
theorem d10_22 : decode (am_code 10) 22 = .ok (.iload 5, 2) := by decide +kernel
theorem d10_24 : decode (am_code 10) 24 = .ok (.aaload, 1) := by decide +kernel
theorem d10_25 : decode (am_code 10) 25 = .ok (.iload_n 1, 1) := by decide +kernel
theorem d10_26 : decode (am_code 10) 26 = .ok (.iload_n 2, 1) := by decide +kernel
theorem d10_27 : decode (am_code 10) 27 = .ok (.invokestatic 71, 3) := by decide +kernel
theorem d10_30 : decode (am_code 10) 30 = .ok (.aload_n 0, 1) := by decide +kernel
theorem d10_31 : decode (am_code 10) 31 = .ok (.getfield 13, 3) := by decide +kernel
theorem d10_34 : decode (am_code 10) 34 = .ok (.iload 5, 2) := by decide +kernel
theorem d10_36 : decode (am_code 10) 36 = .ok (.aaload, 1) := by decide +kernel
theorem d10_37 : decode (am_code 10) 37 = .ok (.iload_n 3, 1) := by decide +kernel
theorem d10_38 : decode (am_code 10) 38 = .ok (.iload 4, 2) := by decide +kernel
theorem d10_40 : decode (am_code 10) 40 = .ok (.invokestatic 71, 3) := by decide +kernel
theorem d10_43 : decode (am_code 10) 43 = .ok (.isub, 1) := by decide +kernel
theorem d10_44 : decode (am_code 10) 44 = .ok (.iastore, 1) := by decide +kernel
theorem d10_45 : decode (am_code 10) 45 = .ok (.iinc 5 1, 3) := by decide +kernel
theorem d10_48 : decode (am_code 10) 48 = .ok (.goto (-45), 3) := by decide +kernel
theorem d10_51 : decode (am_code 10) 51 = .ok (.return_, 1) := by decide +kernel
theorem f10_62 : am_find am_ftL (am_mc 10) 62 = some (1, 1) := by decide +kernel
theorem f10_20 : am_find am_ftL (am_mc 10) 20 = some (1, 4) := by decide +kernel
theorem f10_13 : am_find am_ftL (am_mc 10) 13 = some (1, 2) := by decide +kernel
theorem c10_71 : am_find am_ctL (am_mc 10) 71 = some (3, 106) ∧ am_na 106 = 3 ∧ am_fr 106 + 1 ≤ am_fr 10 ∧ 8 + (am_maxL 106 + 11) + am_lo 106 ≤ am_lo 10 := by decide +kernel
theorem l10 : am_maxL 10 = 6 := by decide +kernel
theorem t10 : am_ret 10 = none := by decide +kernel
/-! ThirdSheets$LeastSheets.fitAcross()V is 11 -/
theorem d11_0 : decode (am_code 11) 0 = .ok (.aload_n 0, 1) := by decide +kernel
theorem d11_1 : decode (am_code 11) 1 = .ok (.iconst 0, 1) := by decide +kernel
theorem d11_2 : decode (am_code 11) 2 = .ok (.putfield 75, 3) := by decide +kernel
theorem d11_5 : decode (am_code 11) 5 = .ok (.iconst 0, 1) := by decide +kernel
theorem d11_6 : decode (am_code 11) 6 = .ok (.istore_n 1, 1) := by decide +kernel
theorem d11_7 : decode (am_code 11) 7 = .ok (.iload_n 1, 1) := by decide +kernel
theorem d11_8 : decode (am_code 11) 8 = .ok (.aload_n 0, 1) := by decide +kernel
theorem d11_9 : decode (am_code 11) 9 = .ok (.getfield 62, 3) := by decide +kernel
theorem d11_12 : decode (am_code 11) 12 = .ok (.if_icmp .ge 72, 3) := by decide +kernel
theorem d11_15 : decode (am_code 11) 15 = .ok (.aload_n 0, 1) := by decide +kernel
theorem d11_16 : decode (am_code 11) 16 = .ok (.getfield 20, 3) := by decide +kernel
theorem d11_19 : decode (am_code 11) 19 = .ok (.iload_n 1, 1) := by decide +kernel
theorem d11_20 : decode (am_code 11) 20 = .ok (.iaload, 1) := by decide +kernel
theorem d11_21 : decode (am_code 11) 21 = .ok (.ifCond .ne 8, 3) := by decide +kernel
theorem d11_24 : decode (am_code 11) 24 = .ok (.aload_n 0, 1) := by decide +kernel
theorem d11_25 : decode (am_code 11) 25 = .ok (.iload_n 1, 1) := by decide +kernel
theorem d11_26 : decode (am_code 11) 26 = .ok (.invokevirtual 78, 3) := by decide +kernel
theorem d11_29 : decode (am_code 11) 29 = .ok (.iconst 0, 1) := by decide +kernel
theorem d11_30 : decode (am_code 11) 30 = .ok (.istore_n 2, 1) := by decide +kernel
theorem d11_31 : decode (am_code 11) 31 = .ok (.iload_n 2, 1) := by decide +kernel
theorem d11_32 : decode (am_code 11) 32 = .ok (.aload_n 0, 1) := by decide +kernel
theorem d11_33 : decode (am_code 11) 33 = .ok (.getfield 62, 3) := by decide +kernel
theorem d11_36 : decode (am_code 11) 36 = .ok (.if_icmp .ge 42, 3) := by decide +kernel
theorem d11_39 : decode (am_code 11) 39 = .ok (.aload_n 0, 1) := by decide +kernel
theorem d11_40 : decode (am_code 11) 40 = .ok (.getfield 20, 3) := by decide +kernel
theorem d11_43 : decode (am_code 11) 43 = .ok (.iload_n 1, 1) := by decide +kernel
theorem d11_44 : decode (am_code 11) 44 = .ok (.iaload, 1) := by decide +kernel
theorem d11_45 : decode (am_code 11) 45 = .ok (.ifCond .le 33, 3) := by decide +kernel
theorem d11_48 : decode (am_code 11) 48 = .ok (.aload_n 0, 1) := by decide +kernel
theorem d11_49 : decode (am_code 11) 49 = .ok (.getfield 20, 3) := by decide +kernel
theorem d11_52 : decode (am_code 11) 52 = .ok (.iload_n 2, 1) := by decide +kernel
theorem d11_53 : decode (am_code 11) 53 = .ok (.iaload, 1) := by decide +kernel
theorem d11_54 : decode (am_code 11) 54 = .ok (.ifCond .ge 18, 3) := by decide +kernel
theorem d11_57 : decode (am_code 11) 57 = .ok (.aload_n 0, 1) := by decide +kernel
theorem d11_58 : decode (am_code 11) 58 = .ok (.iload_n 1, 1) := by decide +kernel
theorem d11_59 : decode (am_code 11) 59 = .ok (.iload_n 2, 1) := by decide +kernel
theorem d11_60 : decode (am_code 11) 60 = .ok (.invokevirtual 81, 3) := by decide +kernel
theorem d11_63 : decode (am_code 11) 63 = .ok (.ifCond .eq 9, 3) := by decide +kernel
theorem d11_66 : decode (am_code 11) 66 = .ok (.aload_n 0, 1) := by decide +kernel
theorem d11_67 : decode (am_code 11) 67 = .ok (.iload_n 1, 1) := by decide +kernel
theorem d11_68 : decode (am_code 11) 68 = .ok (.iload_n 2, 1) := by decide +kernel
theorem d11_69 : decode (am_code 11) 69 = .ok (.invokevirtual 85, 3) := by decide +kernel
theorem d11_72 : decode (am_code 11) 72 = .ok (.iinc 2 1, 3) := by decide +kernel
theorem d11_75 : decode (am_code 11) 75 = .ok (.goto (-44), 3) := by decide +kernel
theorem d11_78 : decode (am_code 11) 78 = .ok (.iinc 1 1, 3) := by decide +kernel
theorem d11_81 : decode (am_code 11) 81 = .ok (.goto (-74), 3) := by decide +kernel
theorem d11_84 : decode (am_code 11) 84 = .ok (.aload_n 0, 1) := by decide +kernel
theorem d11_85 : decode (am_code 11) 85 = .ok (.invokevirtual 89, 3) := by decide +kernel
theorem d11_88 : decode (am_code 11) 88 = .ok (.return_, 1) := by decide +kernel
theorem f11_75 : am_find am_ftL (am_mc 11) 75 = some (1, 5) := by decide +kernel
theorem f11_62 : am_find am_ftL (am_mc 11) 62 = some (1, 1) := by decide +kernel
theorem f11_20 : am_find am_ftL (am_mc 11) 20 = some (1, 4) := by decide +kernel
theorem c11_78 : am_find am_ctL (am_mc 11) 78 = some (0, 12) ∧ am_na 12 = 1 ∧ am_fr 12 + 1 ≤ am_fr 11 ∧ 8 + (am_maxL 12 + 11) + am_lo 12 ≤ am_lo 11 := by decide +kernel
theorem c11_81 : am_find am_ctL (am_mc 11) 81 = some (0, 13) ∧ am_na 13 = 2 ∧ am_fr 13 + 1 ≤ am_fr 11 ∧ 8 + (am_maxL 13 + 11) + am_lo 13 ≤ am_lo 11 := by decide +kernel
theorem c11_85 : am_find am_ctL (am_mc 11) 85 = some (0, 15) ∧ am_na 15 = 2 ∧ am_fr 15 + 1 ≤ am_fr 11 ∧ 8 + (am_maxL 15 + 11) + am_lo 15 ≤ am_lo 11 := by decide +kernel
theorem c11_89 : am_find am_ctL (am_mc 11) 89 = some (0, 17) ∧ am_na 17 = 0 ∧ am_fr 17 + 1 ≤ am_fr 11 ∧ 8 + (am_maxL 17 + 11) + am_lo 17 ≤ am_lo 11 := by decide +kernel
theorem l11 : am_maxL 11 = 3 := by decide +kernel
theorem t11 : am_ret 11 = none := by decide +kernel
/-! ThirdSheets$LeastSheets.keep(I)V is 12 -/
theorem d12_0 : decode (am_code 12) 0 = .ok (.aload_n 0, 1) := by decide +kernel
theorem d12_1 : decode (am_code 12) 1 = .ok (.getfield 75, 3) := by decide +kernel
theorem d12_4 : decode (am_code 12) 4 = .ok (.bipush 64, 2) := by decide +kernel
theorem d12_6 : decode (am_code 12) 6 = .ok (.if_icmp .ge 55, 3) := by decide +kernel
theorem d12_9 : decode (am_code 12) 9 = .ok (.aload_n 0, 1) := by decide +kernel
theorem d12_10 : decode (am_code 12) 10 = .ok (.getfield 13, 3) := by decide +kernel
theorem d12_13 : decode (am_code 12) 13 = .ok (.iload_n 1, 1) := by decide +kernel
theorem d12_14 : decode (am_code 12) 14 = .ok (.aaload, 1) := by decide +kernel
theorem d12_15 : decode (am_code 12) 15 = .ok (.iconst 0, 1) := by decide +kernel
theorem d12_16 : decode (am_code 12) 16 = .ok (.aload_n 0, 1) := by decide +kernel
theorem d12_17 : decode (am_code 12) 17 = .ok (.getfield 23, 3) := by decide +kernel
theorem d12_20 : decode (am_code 12) 20 = .ok (.aload_n 0, 1) := by decide +kernel
theorem d12_21 : decode (am_code 12) 21 = .ok (.getfield 75, 3) := by decide +kernel
theorem d12_24 : decode (am_code 12) 24 = .ok (.aaload, 1) := by decide +kernel
theorem d12_25 : decode (am_code 12) 25 = .ok (.iconst 0, 1) := by decide +kernel
theorem d12_26 : decode (am_code 12) 26 = .ok (.aload_n 0, 1) := by decide +kernel
theorem d12_27 : decode (am_code 12) 27 = .ok (.getfield 13, 3) := by decide +kernel
theorem d12_30 : decode (am_code 12) 30 = .ok (.iload_n 1, 1) := by decide +kernel
theorem d12_31 : decode (am_code 12) 31 = .ok (.aaload, 1) := by decide +kernel
theorem d12_32 : decode (am_code 12) 32 = .ok (.arraylength, 1) := by decide +kernel
theorem d12_33 : decode (am_code 12) 33 = .ok (.invokestatic 92, 3) := by decide +kernel
theorem d12_36 : decode (am_code 12) 36 = .ok (.aload_n 0, 1) := by decide +kernel
theorem d12_37 : decode (am_code 12) 37 = .ok (.getfield 26, 3) := by decide +kernel
theorem d12_40 : decode (am_code 12) 40 = .ok (.aload_n 0, 1) := by decide +kernel
theorem d12_41 : decode (am_code 12) 41 = .ok (.getfield 75, 3) := by decide +kernel
theorem d12_44 : decode (am_code 12) 44 = .ok (.aload_n 0, 1) := by decide +kernel
theorem d12_45 : decode (am_code 12) 45 = .ok (.getfield 16, 3) := by decide +kernel
theorem d12_48 : decode (am_code 12) 48 = .ok (.iload_n 1, 1) := by decide +kernel
theorem d12_49 : decode (am_code 12) 49 = .ok (.iaload, 1) := by decide +kernel
theorem d12_50 : decode (am_code 12) 50 = .ok (.iastore, 1) := by decide +kernel
theorem d12_51 : decode (am_code 12) 51 = .ok (.aload_n 0, 1) := by decide +kernel
theorem d12_52 : decode (am_code 12) 52 = .ok (.dup, 1) := by decide +kernel
theorem d12_53 : decode (am_code 12) 53 = .ok (.getfield 75, 3) := by decide +kernel
theorem d12_56 : decode (am_code 12) 56 = .ok (.iconst 1, 1) := by decide +kernel
theorem d12_57 : decode (am_code 12) 57 = .ok (.iadd, 1) := by decide +kernel
theorem d12_58 : decode (am_code 12) 58 = .ok (.putfield 75, 3) := by decide +kernel
theorem d12_61 : decode (am_code 12) 61 = .ok (.return_, 1) := by decide +kernel
theorem f12_75 : am_find am_ftL (am_mc 12) 75 = some (1, 5) := by decide +kernel
theorem f12_13 : am_find am_ftL (am_mc 12) 13 = some (1, 2) := by decide +kernel
theorem f12_23 : am_find am_ftL (am_mc 12) 23 = some (1, 6) := by decide +kernel
theorem f12_26 : am_find am_ftL (am_mc 12) 26 = some (1, 7) := by decide +kernel
theorem f12_16 : am_find am_ftL (am_mc 12) 16 = some (1, 3) := by decide +kernel
theorem c12_92 : am_find am_ctL (am_mc 12) 92 = some (5, 0) := by decide +kernel
theorem l12 : am_maxL 12 = 2 := by decide +kernel
theorem t12 : am_ret 12 = none := by decide +kernel
/-! ThirdSheets$LeastSheets.areNeighbours(II)Z is 13 -/
theorem d13_0 : decode (am_code 13) 0 = .ok (.aload_n 0, 1) := by decide +kernel
theorem d13_1 : decode (am_code 13) 1 = .ok (.getfield 16, 3) := by decide +kernel
theorem d13_4 : decode (am_code 13) 4 = .ok (.iload_n 1, 1) := by decide +kernel
theorem d13_5 : decode (am_code 13) 5 = .ok (.iaload, 1) := by decide +kernel
theorem d13_6 : decode (am_code 13) 6 = .ok (.aload_n 0, 1) := by decide +kernel
theorem d13_7 : decode (am_code 13) 7 = .ok (.getfield 16, 3) := by decide +kernel
theorem d13_10 : decode (am_code 13) 10 = .ok (.iload_n 2, 1) := by decide +kernel
theorem d13_11 : decode (am_code 13) 11 = .ok (.iaload, 1) := by decide +kernel
theorem d13_12 : decode (am_code 13) 12 = .ok (.ior, 1) := by decide +kernel
theorem d13_13 : decode (am_code 13) 13 = .ok (.istore_n 3, 1) := by decide +kernel
theorem d13_14 : decode (am_code 13) 14 = .ok (.iload_n 3, 1) := by decide +kernel
theorem d13_15 : decode (am_code 13) 15 = .ok (.invokestatic 98, 3) := by decide +kernel
theorem d13_18 : decode (am_code 13) 18 = .ok (.ifCond .eq 5, 3) := by decide +kernel
theorem d13_21 : decode (am_code 13) 21 = .ok (.iconst 0, 1) := by decide +kernel
theorem d13_22 : decode (am_code 13) 22 = .ok (.ireturn, 1) := by decide +kernel
theorem d13_23 : decode (am_code 13) 23 = .ok (.iconst 0, 1) := by decide +kernel
theorem d13_24 : decode (am_code 13) 24 = .ok (.istore 4, 2) := by decide +kernel
theorem d13_26 : decode (am_code 13) 26 = .ok (.iload 4, 2) := by decide +kernel
theorem d13_28 : decode (am_code 13) 28 = .ok (.aload_n 0, 1) := by decide +kernel
theorem d13_29 : decode (am_code 13) 29 = .ok (.getfield 62, 3) := by decide +kernel
theorem d13_32 : decode (am_code 13) 32 = .ok (.if_icmp .ge 37, 3) := by decide +kernel
theorem d13_35 : decode (am_code 13) 35 = .ok (.iload 4, 2) := by decide +kernel
theorem d13_37 : decode (am_code 13) 37 = .ok (.iload_n 1, 1) := by decide +kernel
theorem d13_38 : decode (am_code 13) 38 = .ok (.if_icmp .eq 25, 3) := by decide +kernel
theorem d13_41 : decode (am_code 13) 41 = .ok (.iload 4, 2) := by decide +kernel
theorem d13_43 : decode (am_code 13) 43 = .ok (.iload_n 2, 1) := by decide +kernel
theorem d13_44 : decode (am_code 13) 44 = .ok (.if_icmp .eq 19, 3) := by decide +kernel
theorem d13_47 : decode (am_code 13) 47 = .ok (.aload_n 0, 1) := by decide +kernel
theorem d13_48 : decode (am_code 13) 48 = .ok (.getfield 16, 3) := by decide +kernel
theorem d13_51 : decode (am_code 13) 51 = .ok (.iload 4, 2) := by decide +kernel
theorem d13_53 : decode (am_code 13) 53 = .ok (.iaload, 1) := by decide +kernel
theorem d13_54 : decode (am_code 13) 54 = .ok (.iload_n 3, 1) := by decide +kernel
theorem d13_55 : decode (am_code 13) 55 = .ok (.iconst (-1), 1) := by decide +kernel
theorem d13_56 : decode (am_code 13) 56 = .ok (.ixor, 1) := by decide +kernel
theorem d13_57 : decode (am_code 13) 57 = .ok (.iand, 1) := by decide +kernel
theorem d13_58 : decode (am_code 13) 58 = .ok (.ifCond .ne 5, 3) := by decide +kernel
theorem d13_61 : decode (am_code 13) 61 = .ok (.iconst 0, 1) := by decide +kernel
theorem d13_62 : decode (am_code 13) 62 = .ok (.ireturn, 1) := by decide +kernel
theorem d13_63 : decode (am_code 13) 63 = .ok (.iinc 4 1, 3) := by decide +kernel
theorem d13_66 : decode (am_code 13) 66 = .ok (.goto (-40), 3) := by decide +kernel
theorem d13_69 : decode (am_code 13) 69 = .ok (.iconst 1, 1) := by decide +kernel
theorem d13_70 : decode (am_code 13) 70 = .ok (.ireturn, 1) := by decide +kernel
theorem f13_16 : am_find am_ftL (am_mc 13) 16 = some (1, 3) := by decide +kernel
theorem f13_62 : am_find am_ftL (am_mc 13) 62 = some (1, 1) := by decide +kernel
theorem c13_98 : am_find am_ctL (am_mc 13) 98 = some (1, 14) ∧ am_na 14 = 1 ∧ am_fr 14 + 1 ≤ am_fr 13 ∧ 8 + (am_maxL 14 + 11) + am_lo 14 ≤ am_lo 13 := by decide +kernel
theorem l13 : am_maxL 13 = 5 := by decide +kernel
theorem t13 : am_ret 13 = (some .boolean) := by decide +kernel
/-! ThirdSheets$LeastSheets.mixesFours(I)Z is 14 -/
theorem d14_0 : decode (am_code 14) 0 = .ok (.iconst 0, 1) := by decide +kernel
theorem d14_1 : decode (am_code 14) 1 = .ok (.istore_n 1, 1) := by decide +kernel
theorem d14_2 : decode (am_code 14) 2 = .ok (.iload_n 1, 1) := by decide +kernel
theorem d14_3 : decode (am_code 14) 3 = .ok (.iconst 3, 1) := by decide +kernel
theorem d14_4 : decode (am_code 14) 4 = .ok (.if_icmp .ge 31, 3) := by decide +kernel
theorem d14_7 : decode (am_code 14) 7 = .ok (.iload_n 0, 1) := by decide +kernel
theorem d14_8 : decode (am_code 14) 8 = .ok (.bipush 7, 2) := by decide +kernel
theorem d14_10 : decode (am_code 14) 10 = .ok (.iload_n 1, 1) := by decide +kernel
theorem d14_11 : decode (am_code 14) 11 = .ok (.imul, 1) := by decide +kernel
theorem d14_12 : decode (am_code 14) 12 = .ok (.iconst 4, 1) := by decide +kernel
theorem d14_13 : decode (am_code 14) 13 = .ok (.iadd, 1) := by decide +kernel
theorem d14_14 : decode (am_code 14) 14 = .ok (.ishr, 1) := by decide +kernel
theorem d14_15 : decode (am_code 14) 15 = .ok (.bipush 7, 2) := by decide +kernel
theorem d14_17 : decode (am_code 14) 17 = .ok (.iand, 1) := by decide +kernel
theorem d14_18 : decode (am_code 14) 18 = .ok (.istore_n 2, 1) := by decide +kernel
theorem d14_19 : decode (am_code 14) 19 = .ok (.iload_n 2, 1) := by decide +kernel
theorem d14_20 : decode (am_code 14) 20 = .ok (.iload_n 2, 1) := by decide +kernel
theorem d14_21 : decode (am_code 14) 21 = .ok (.iconst 1, 1) := by decide +kernel
theorem d14_22 : decode (am_code 14) 22 = .ok (.isub, 1) := by decide +kernel
theorem d14_23 : decode (am_code 14) 23 = .ok (.iand, 1) := by decide +kernel
theorem d14_24 : decode (am_code 14) 24 = .ok (.ifCond .eq 5, 3) := by decide +kernel
theorem d14_27 : decode (am_code 14) 27 = .ok (.iconst 1, 1) := by decide +kernel
theorem d14_28 : decode (am_code 14) 28 = .ok (.ireturn, 1) := by decide +kernel
theorem d14_29 : decode (am_code 14) 29 = .ok (.iinc 1 1, 3) := by decide +kernel
theorem d14_32 : decode (am_code 14) 32 = .ok (.goto (-30), 3) := by decide +kernel
theorem d14_35 : decode (am_code 14) 35 = .ok (.iconst 0, 1) := by decide +kernel
theorem d14_36 : decode (am_code 14) 36 = .ok (.ireturn, 1) := by decide +kernel
theorem l14 : am_maxL 14 = 3 := by decide +kernel
theorem t14 : am_ret 14 = (some .boolean) := by decide +kernel
/-! ThirdSheets$LeastSheets.mix(II)V is 15 -/
theorem d15_0 : decode (am_code 15) 0 = .ok (.aload_n 0, 1) := by decide +kernel
theorem d15_1 : decode (am_code 15) 1 = .ok (.getfield 75, 3) := by decide +kernel
theorem d15_4 : decode (am_code 15) 4 = .ok (.bipush 64, 2) := by decide +kernel
theorem d15_6 : decode (am_code 15) 6 = .ok (.if_icmp .lt 4, 3) := by decide +kernel
theorem d15_9 : decode (am_code 15) 9 = .ok (.return_, 1) := by decide +kernel
theorem d15_10 : decode (am_code 15) 10 = .ok (.aload_n 0, 1) := by decide +kernel
theorem d15_11 : decode (am_code 15) 11 = .ok (.getfield 23, 3) := by decide +kernel
theorem d15_14 : decode (am_code 15) 14 = .ok (.aload_n 0, 1) := by decide +kernel
theorem d15_15 : decode (am_code 15) 15 = .ok (.getfield 75, 3) := by decide +kernel
theorem d15_18 : decode (am_code 15) 18 = .ok (.aaload, 1) := by decide +kernel
theorem d15_19 : decode (am_code 15) 19 = .ok (.astore_n 3, 1) := by decide +kernel
theorem d15_20 : decode (am_code 15) 20 = .ok (.aload_n 3, 1) := by decide +kernel
theorem d15_21 : decode (am_code 15) 21 = .ok (.iconst 0, 1) := by decide +kernel
theorem d15_22 : decode (am_code 15) 22 = .ok (.invokestatic 65, 3) := by decide +kernel
theorem d15_25 : decode (am_code 15) 25 = .ok (.iconst 0, 1) := by decide +kernel
theorem d15_26 : decode (am_code 15) 26 = .ok (.istore 4, 2) := by decide +kernel
theorem d15_28 : decode (am_code 15) 28 = .ok (.iconst 0, 1) := by decide +kernel
theorem d15_29 : decode (am_code 15) 29 = .ok (.istore 5, 2) := by decide +kernel
theorem d15_31 : decode (am_code 15) 31 = .ok (.iload 5, 2) := by decide +kernel
theorem d15_33 : decode (am_code 15) 33 = .ok (.aload_n 0, 1) := by decide +kernel
theorem d15_34 : decode (am_code 15) 34 = .ok (.getfield 59, 3) := by decide +kernel
theorem d15_37 : decode (am_code 15) 37 = .ok (.if_icmp .ge 57, 3) := by decide +kernel
theorem d15_40 : decode (am_code 15) 40 = .ok (.aload_n 3, 1) := by decide +kernel
theorem d15_41 : decode (am_code 15) 41 = .ok (.iload 5, 2) := by decide +kernel
theorem d15_43 : decode (am_code 15) 43 = .ok (.aload_n 0, 1) := by decide +kernel
theorem d15_44 : decode (am_code 15) 44 = .ok (.getfield 20, 3) := by decide +kernel
theorem d15_47 : decode (am_code 15) 47 = .ok (.iload_n 1, 1) := by decide +kernel
theorem d15_48 : decode (am_code 15) 48 = .ok (.iaload, 1) := by decide +kernel
theorem d15_49 : decode (am_code 15) 49 = .ok (.aload_n 0, 1) := by decide +kernel
theorem d15_50 : decode (am_code 15) 50 = .ok (.getfield 13, 3) := by decide +kernel
theorem d15_53 : decode (am_code 15) 53 = .ok (.iload_n 2, 1) := by decide +kernel
theorem d15_54 : decode (am_code 15) 54 = .ok (.aaload, 1) := by decide +kernel
theorem d15_55 : decode (am_code 15) 55 = .ok (.iload 5, 2) := by decide +kernel
theorem d15_57 : decode (am_code 15) 57 = .ok (.iaload, 1) := by decide +kernel
theorem d15_58 : decode (am_code 15) 58 = .ok (.imul, 1) := by decide +kernel
theorem d15_59 : decode (am_code 15) 59 = .ok (.aload_n 0, 1) := by decide +kernel
theorem d15_60 : decode (am_code 15) 60 = .ok (.getfield 20, 3) := by decide +kernel
theorem d15_63 : decode (am_code 15) 63 = .ok (.iload_n 2, 1) := by decide +kernel
theorem d15_64 : decode (am_code 15) 64 = .ok (.iaload, 1) := by decide +kernel
theorem d15_65 : decode (am_code 15) 65 = .ok (.aload_n 0, 1) := by decide +kernel
theorem d15_66 : decode (am_code 15) 66 = .ok (.getfield 13, 3) := by decide +kernel
theorem d15_69 : decode (am_code 15) 69 = .ok (.iload_n 1, 1) := by decide +kernel
theorem d15_70 : decode (am_code 15) 70 = .ok (.aaload, 1) := by decide +kernel
theorem d15_71 : decode (am_code 15) 71 = .ok (.iload 5, 2) := by decide +kernel
theorem d15_73 : decode (am_code 15) 73 = .ok (.iaload, 1) := by decide +kernel
theorem d15_74 : decode (am_code 15) 74 = .ok (.imul, 1) := by decide +kernel
theorem d15_75 : decode (am_code 15) 75 = .ok (.isub, 1) := by decide +kernel
theorem d15_76 : decode (am_code 15) 76 = .ok (.iastore, 1) := by decide +kernel
theorem d15_77 : decode (am_code 15) 77 = .ok (.iload 4, 2) := by decide +kernel
theorem d15_79 : decode (am_code 15) 79 = .ok (.aload_n 3, 1) := by decide +kernel
theorem d15_80 : decode (am_code 15) 80 = .ok (.iload 5, 2) := by decide +kernel
theorem d15_82 : decode (am_code 15) 82 = .ok (.iaload, 1) := by decide +kernel
theorem d15_83 : decode (am_code 15) 83 = .ok (.invokestatic 101, 3) := by decide +kernel
theorem d15_86 : decode (am_code 15) 86 = .ok (.istore 4, 2) := by decide +kernel
theorem d15_88 : decode (am_code 15) 88 = .ok (.iinc 5 1, 3) := by decide +kernel
theorem d15_91 : decode (am_code 15) 91 = .ok (.goto (-60), 3) := by decide +kernel
theorem d15_94 : decode (am_code 15) 94 = .ok (.iconst 0, 1) := by decide +kernel
theorem d15_95 : decode (am_code 15) 95 = .ok (.istore 5, 2) := by decide +kernel
theorem d15_97 : decode (am_code 15) 97 = .ok (.iload 5, 2) := by decide +kernel
theorem d15_99 : decode (am_code 15) 99 = .ok (.aload_n 0, 1) := by decide +kernel
theorem d15_100 : decode (am_code 15) 100 = .ok (.getfield 59, 3) := by decide +kernel
theorem d15_103 : decode (am_code 15) 103 = .ok (.if_icmp .ge 24, 3) := by decide +kernel
theorem d15_106 : decode (am_code 15) 106 = .ok (.iload 4, 2) := by decide +kernel
theorem d15_108 : decode (am_code 15) 108 = .ok (.iconst 1, 1) := by decide +kernel
theorem d15_109 : decode (am_code 15) 109 = .ok (.if_icmp .le 18, 3) := by decide +kernel
theorem d15_112 : decode (am_code 15) 112 = .ok (.aload_n 3, 1) := by decide +kernel
theorem d15_113 : decode (am_code 15) 113 = .ok (.iload 5, 2) := by decide +kernel
theorem d15_115 : decode (am_code 15) 115 = .ok (.dup2, 1) := by decide +kernel
theorem d15_116 : decode (am_code 15) 116 = .ok (.iaload, 1) := by decide +kernel
theorem d15_117 : decode (am_code 15) 117 = .ok (.iload 4, 2) := by decide +kernel
theorem d15_119 : decode (am_code 15) 119 = .ok (.idiv, 1) := by decide +kernel
theorem d15_120 : decode (am_code 15) 120 = .ok (.iastore, 1) := by decide +kernel
theorem d15_121 : decode (am_code 15) 121 = .ok (.iinc 5 1, 3) := by decide +kernel
theorem d15_124 : decode (am_code 15) 124 = .ok (.goto (-27), 3) := by decide +kernel
theorem d15_127 : decode (am_code 15) 127 = .ok (.aload_n 0, 1) := by decide +kernel
theorem d15_128 : decode (am_code 15) 128 = .ok (.getfield 26, 3) := by decide +kernel
theorem d15_131 : decode (am_code 15) 131 = .ok (.aload_n 0, 1) := by decide +kernel
theorem d15_132 : decode (am_code 15) 132 = .ok (.getfield 75, 3) := by decide +kernel
theorem d15_135 : decode (am_code 15) 135 = .ok (.aload_n 0, 1) := by decide +kernel
theorem d15_136 : decode (am_code 15) 136 = .ok (.getfield 16, 3) := by decide +kernel
theorem d15_139 : decode (am_code 15) 139 = .ok (.iload_n 1, 1) := by decide +kernel
theorem d15_140 : decode (am_code 15) 140 = .ok (.iaload, 1) := by decide +kernel
theorem d15_141 : decode (am_code 15) 141 = .ok (.aload_n 0, 1) := by decide +kernel
theorem d15_142 : decode (am_code 15) 142 = .ok (.getfield 16, 3) := by decide +kernel
theorem d15_145 : decode (am_code 15) 145 = .ok (.iload_n 2, 1) := by decide +kernel
theorem d15_146 : decode (am_code 15) 146 = .ok (.iaload, 1) := by decide +kernel
theorem d15_147 : decode (am_code 15) 147 = .ok (.ior, 1) := by decide +kernel
theorem d15_148 : decode (am_code 15) 148 = .ok (.iastore, 1) := by decide +kernel
theorem d15_149 : decode (am_code 15) 149 = .ok (.aload_n 0, 1) := by decide +kernel
theorem d15_150 : decode (am_code 15) 150 = .ok (.dup, 1) := by decide +kernel
theorem d15_151 : decode (am_code 15) 151 = .ok (.getfield 75, 3) := by decide +kernel
theorem d15_154 : decode (am_code 15) 154 = .ok (.iconst 1, 1) := by decide +kernel
theorem d15_155 : decode (am_code 15) 155 = .ok (.iadd, 1) := by decide +kernel
theorem d15_156 : decode (am_code 15) 156 = .ok (.putfield 75, 3) := by decide +kernel
theorem d15_159 : decode (am_code 15) 159 = .ok (.return_, 1) := by decide +kernel
theorem f15_75 : am_find am_ftL (am_mc 15) 75 = some (1, 5) := by decide +kernel
theorem f15_23 : am_find am_ftL (am_mc 15) 23 = some (1, 6) := by decide +kernel
theorem f15_59 : am_find am_ftL (am_mc 15) 59 = some (1, 0) := by decide +kernel
theorem f15_20 : am_find am_ftL (am_mc 15) 20 = some (1, 4) := by decide +kernel
theorem f15_13 : am_find am_ftL (am_mc 15) 13 = some (1, 2) := by decide +kernel
theorem f15_26 : am_find am_ftL (am_mc 15) 26 = some (1, 7) := by decide +kernel
theorem f15_16 : am_find am_ftL (am_mc 15) 16 = some (1, 3) := by decide +kernel
theorem c15_65 : am_find am_ctL (am_mc 15) 65 = some (1, 180) ∧ am_na 180 = 2 ∧ am_fr 180 + 1 ≤ am_fr 15 ∧ 8 + (am_maxL 180 + 11) + am_lo 180 ≤ am_lo 15 := by decide +kernel
theorem c15_101 : am_find am_ctL (am_mc 15) 101 = some (1, 16) ∧ am_na 16 = 2 ∧ am_fr 16 + 1 ≤ am_fr 15 ∧ 8 + (am_maxL 16 + 11) + am_lo 16 ≤ am_lo 15 := by decide +kernel
theorem l15 : am_maxL 15 = 6 := by decide +kernel
theorem t15 : am_ret 15 = none := by decide +kernel
/-! ThirdSheets$LeastSheets.commonDivisor(II)I is 16 -/
theorem d16_0 : decode (am_code 16) 0 = .ok (.iload_n 0, 1) := by decide +kernel
theorem d16_1 : decode (am_code 16) 1 = .ok (.istore_n 2, 1) := by decide +kernel
theorem d16_2 : decode (am_code 16) 2 = .ok (.iload_n 1, 1) := by decide +kernel
theorem d16_3 : decode (am_code 16) 3 = .ok (.istore_n 3, 1) := by decide +kernel
theorem d16_4 : decode (am_code 16) 4 = .ok (.iconst 0, 1) := by decide +kernel
theorem d16_5 : decode (am_code 16) 5 = .ok (.istore 4, 2) := by decide +kernel
theorem d16_7 : decode (am_code 16) 7 = .ok (.iload 4, 2) := by decide +kernel
theorem d16_9 : decode (am_code 16) 9 = .ok (.bipush 64, 2) := by decide +kernel
theorem d16_11 : decode (am_code 16) 11 = .ok (.if_icmp .ge 23, 3) := by decide +kernel
theorem d16_14 : decode (am_code 16) 14 = .ok (.iload_n 3, 1) := by decide +kernel
theorem d16_15 : decode (am_code 16) 15 = .ok (.ifCond .eq 19, 3) := by decide +kernel
theorem d16_18 : decode (am_code 16) 18 = .ok (.iload_n 2, 1) := by decide +kernel
theorem d16_19 : decode (am_code 16) 19 = .ok (.iload_n 3, 1) := by decide +kernel
theorem d16_20 : decode (am_code 16) 20 = .ok (.irem, 1) := by decide +kernel
theorem d16_21 : decode (am_code 16) 21 = .ok (.istore 5, 2) := by decide +kernel
theorem d16_23 : decode (am_code 16) 23 = .ok (.iload_n 3, 1) := by decide +kernel
theorem d16_24 : decode (am_code 16) 24 = .ok (.istore_n 2, 1) := by decide +kernel
theorem d16_25 : decode (am_code 16) 25 = .ok (.iload 5, 2) := by decide +kernel
theorem d16_27 : decode (am_code 16) 27 = .ok (.istore_n 3, 1) := by decide +kernel
theorem d16_28 : decode (am_code 16) 28 = .ok (.iinc 4 1, 3) := by decide +kernel
theorem d16_31 : decode (am_code 16) 31 = .ok (.goto (-24), 3) := by decide +kernel
theorem d16_34 : decode (am_code 16) 34 = .ok (.iload_n 2, 1) := by decide +kernel
theorem d16_35 : decode (am_code 16) 35 = .ok (.ireturn, 1) := by decide +kernel
theorem l16 : am_maxL 16 = 6 := by decide +kernel
theorem t16 : am_ret 16 = (some .int) := by decide +kernel
/-! ThirdSheets$LeastSheets.swapLists()V is 17 -/
theorem d17_0 : decode (am_code 17) 0 = .ok (.aload_n 0, 1) := by decide +kernel
theorem d17_1 : decode (am_code 17) 1 = .ok (.getfield 13, 3) := by decide +kernel
theorem d17_4 : decode (am_code 17) 4 = .ok (.astore_n 1, 1) := by decide +kernel
theorem d17_5 : decode (am_code 17) 5 = .ok (.aload_n 0, 1) := by decide +kernel
theorem d17_6 : decode (am_code 17) 6 = .ok (.getfield 16, 3) := by decide +kernel
theorem d17_9 : decode (am_code 17) 9 = .ok (.astore_n 2, 1) := by decide +kernel
theorem d17_10 : decode (am_code 17) 10 = .ok (.aload_n 0, 1) := by decide +kernel
theorem d17_11 : decode (am_code 17) 11 = .ok (.aload_n 0, 1) := by decide +kernel
theorem d17_12 : decode (am_code 17) 12 = .ok (.getfield 23, 3) := by decide +kernel
theorem d17_15 : decode (am_code 17) 15 = .ok (.putfield 13, 3) := by decide +kernel
theorem d17_18 : decode (am_code 17) 18 = .ok (.aload_n 0, 1) := by decide +kernel
theorem d17_19 : decode (am_code 17) 19 = .ok (.aload_n 0, 1) := by decide +kernel
theorem d17_20 : decode (am_code 17) 20 = .ok (.getfield 26, 3) := by decide +kernel
theorem d17_23 : decode (am_code 17) 23 = .ok (.putfield 16, 3) := by decide +kernel
theorem d17_26 : decode (am_code 17) 26 = .ok (.aload_n 0, 1) := by decide +kernel
theorem d17_27 : decode (am_code 17) 27 = .ok (.aload_n 0, 1) := by decide +kernel
theorem d17_28 : decode (am_code 17) 28 = .ok (.getfield 75, 3) := by decide +kernel
theorem d17_31 : decode (am_code 17) 31 = .ok (.putfield 62, 3) := by decide +kernel
theorem d17_34 : decode (am_code 17) 34 = .ok (.aload_n 0, 1) := by decide +kernel
theorem d17_35 : decode (am_code 17) 35 = .ok (.aload_n 1, 1) := by decide +kernel
theorem d17_36 : decode (am_code 17) 36 = .ok (.putfield 23, 3) := by decide +kernel
theorem d17_39 : decode (am_code 17) 39 = .ok (.aload_n 0, 1) := by decide +kernel
theorem d17_40 : decode (am_code 17) 40 = .ok (.aload_n 2, 1) := by decide +kernel
theorem d17_41 : decode (am_code 17) 41 = .ok (.putfield 26, 3) := by decide +kernel
theorem d17_44 : decode (am_code 17) 44 = .ok (.return_, 1) := by decide +kernel
theorem f17_13 : am_find am_ftL (am_mc 17) 13 = some (1, 2) := by decide +kernel
theorem f17_16 : am_find am_ftL (am_mc 17) 16 = some (1, 3) := by decide +kernel
theorem f17_23 : am_find am_ftL (am_mc 17) 23 = some (1, 6) := by decide +kernel
theorem f17_26 : am_find am_ftL (am_mc 17) 26 = some (1, 7) := by decide +kernel
theorem f17_75 : am_find am_ftL (am_mc 17) 75 = some (1, 5) := by decide +kernel
theorem f17_62 : am_find am_ftL (am_mc 17) 62 = some (1, 1) := by decide +kernel
theorem l17 : am_maxL 17 = 3 := by decide +kernel
theorem t17 : am_ret 17 = none := by decide +kernel
/-! ThirdSheets$LeastSheets.sortRows()V is 18 -/
theorem d18_0 : decode (am_code 18) 0 = .ok (.iconst 1, 1) := by decide +kernel
theorem d18_1 : decode (am_code 18) 1 = .ok (.istore_n 1, 1) := by decide +kernel
theorem d18_2 : decode (am_code 18) 2 = .ok (.iload_n 1, 1) := by decide +kernel
theorem d18_3 : decode (am_code 18) 3 = .ok (.aload_n 0, 1) := by decide +kernel
theorem d18_4 : decode (am_code 18) 4 = .ok (.getfield 62, 3) := by decide +kernel
theorem d18_7 : decode (am_code 18) 7 = .ok (.if_icmp .ge 65, 3) := by decide +kernel
theorem d18_10 : decode (am_code 18) 10 = .ok (.aload_n 0, 1) := by decide +kernel
theorem d18_11 : decode (am_code 18) 11 = .ok (.getfield 13, 3) := by decide +kernel
theorem d18_14 : decode (am_code 18) 14 = .ok (.iload_n 1, 1) := by decide +kernel
theorem d18_15 : decode (am_code 18) 15 = .ok (.aaload, 1) := by decide +kernel
theorem d18_16 : decode (am_code 18) 16 = .ok (.astore_n 2, 1) := by decide +kernel
theorem d18_17 : decode (am_code 18) 17 = .ok (.iload_n 1, 1) := by decide +kernel
theorem d18_18 : decode (am_code 18) 18 = .ok (.istore_n 3, 1) := by decide +kernel
theorem d18_19 : decode (am_code 18) 19 = .ok (.iload_n 3, 1) := by decide +kernel
theorem d18_20 : decode (am_code 18) 20 = .ok (.ifCond .le 39, 3) := by decide +kernel
theorem d18_23 : decode (am_code 18) 23 = .ok (.aload_n 0, 1) := by decide +kernel
theorem d18_24 : decode (am_code 18) 24 = .ok (.aload_n 2, 1) := by decide +kernel
theorem d18_25 : decode (am_code 18) 25 = .ok (.aload_n 0, 1) := by decide +kernel
theorem d18_26 : decode (am_code 18) 26 = .ok (.getfield 13, 3) := by decide +kernel
theorem d18_29 : decode (am_code 18) 29 = .ok (.iload_n 3, 1) := by decide +kernel
theorem d18_30 : decode (am_code 18) 30 = .ok (.iconst 1, 1) := by decide +kernel
theorem d18_31 : decode (am_code 18) 31 = .ok (.isub, 1) := by decide +kernel
theorem d18_32 : decode (am_code 18) 32 = .ok (.aaload, 1) := by decide +kernel
theorem d18_33 : decode (am_code 18) 33 = .ok (.invokevirtual 105, 3) := by decide +kernel
theorem d18_36 : decode (am_code 18) 36 = .ok (.ifCond .eq 23, 3) := by decide +kernel
theorem d18_39 : decode (am_code 18) 39 = .ok (.aload_n 0, 1) := by decide +kernel
theorem d18_40 : decode (am_code 18) 40 = .ok (.getfield 13, 3) := by decide +kernel
theorem d18_43 : decode (am_code 18) 43 = .ok (.iload_n 3, 1) := by decide +kernel
theorem d18_44 : decode (am_code 18) 44 = .ok (.aload_n 0, 1) := by decide +kernel
theorem d18_45 : decode (am_code 18) 45 = .ok (.getfield 13, 3) := by decide +kernel
theorem d18_48 : decode (am_code 18) 48 = .ok (.iload_n 3, 1) := by decide +kernel
theorem d18_49 : decode (am_code 18) 49 = .ok (.iconst 1, 1) := by decide +kernel
theorem d18_50 : decode (am_code 18) 50 = .ok (.isub, 1) := by decide +kernel
theorem d18_51 : decode (am_code 18) 51 = .ok (.aaload, 1) := by decide +kernel
theorem d18_52 : decode (am_code 18) 52 = .ok (.aastore, 1) := by decide +kernel
theorem d18_53 : decode (am_code 18) 53 = .ok (.iinc 3 (-1), 3) := by decide +kernel
theorem d18_56 : decode (am_code 18) 56 = .ok (.goto (-37), 3) := by decide +kernel
theorem d18_59 : decode (am_code 18) 59 = .ok (.aload_n 0, 1) := by decide +kernel
theorem d18_60 : decode (am_code 18) 60 = .ok (.getfield 13, 3) := by decide +kernel
theorem d18_63 : decode (am_code 18) 63 = .ok (.iload_n 3, 1) := by decide +kernel
theorem d18_64 : decode (am_code 18) 64 = .ok (.aload_n 2, 1) := by decide +kernel
theorem d18_65 : decode (am_code 18) 65 = .ok (.aastore, 1) := by decide +kernel
theorem d18_66 : decode (am_code 18) 66 = .ok (.iinc 1 1, 3) := by decide +kernel
theorem d18_69 : decode (am_code 18) 69 = .ok (.goto (-67), 3) := by decide +kernel
theorem d18_72 : decode (am_code 18) 72 = .ok (.return_, 1) := by decide +kernel
theorem f18_62 : am_find am_ftL (am_mc 18) 62 = some (1, 1) := by decide +kernel
theorem f18_13 : am_find am_ftL (am_mc 18) 13 = some (1, 2) := by decide +kernel
theorem c18_105 : am_find am_ctL (am_mc 18) 105 = some (0, 19) ∧ am_na 19 = 2 ∧ am_fr 19 + 1 ≤ am_fr 18 ∧ 8 + (am_maxL 19 + 11) + am_lo 19 ≤ am_lo 18 := by decide +kernel
theorem l18 : am_maxL 18 = 4 := by decide +kernel
theorem t18 : am_ret 18 = none := by decide +kernel
/-! ThirdSheets$LeastSheets.comesBefore([I[I)Z is 19 -/
theorem d19_0 : decode (am_code 19) 0 = .ok (.iconst 0, 1) := by decide +kernel
theorem d19_1 : decode (am_code 19) 1 = .ok (.istore_n 3, 1) := by decide +kernel
theorem d19_2 : decode (am_code 19) 2 = .ok (.iload_n 3, 1) := by decide +kernel
theorem d19_3 : decode (am_code 19) 3 = .ok (.aload_n 0, 1) := by decide +kernel
theorem d19_4 : decode (am_code 19) 4 = .ok (.getfield 59, 3) := by decide +kernel
theorem d19_7 : decode (am_code 19) 7 = .ok (.if_icmp .ge 33, 3) := by decide +kernel
theorem d19_10 : decode (am_code 19) 10 = .ok (.aload_n 1, 1) := by decide +kernel
theorem d19_11 : decode (am_code 19) 11 = .ok (.iload_n 3, 1) := by decide +kernel
theorem d19_12 : decode (am_code 19) 12 = .ok (.iaload, 1) := by decide +kernel
theorem d19_13 : decode (am_code 19) 13 = .ok (.aload_n 2, 1) := by decide +kernel
theorem d19_14 : decode (am_code 19) 14 = .ok (.iload_n 3, 1) := by decide +kernel
theorem d19_15 : decode (am_code 19) 15 = .ok (.iaload, 1) := by decide +kernel
theorem d19_16 : decode (am_code 19) 16 = .ok (.if_icmp .eq 18, 3) := by decide +kernel
theorem d19_19 : decode (am_code 19) 19 = .ok (.aload_n 1, 1) := by decide +kernel
theorem d19_20 : decode (am_code 19) 20 = .ok (.iload_n 3, 1) := by decide +kernel
theorem d19_21 : decode (am_code 19) 21 = .ok (.iaload, 1) := by decide +kernel
theorem d19_22 : decode (am_code 19) 22 = .ok (.aload_n 2, 1) := by decide +kernel
theorem d19_23 : decode (am_code 19) 23 = .ok (.iload_n 3, 1) := by decide +kernel
theorem d19_24 : decode (am_code 19) 24 = .ok (.iaload, 1) := by decide +kernel
theorem d19_25 : decode (am_code 19) 25 = .ok (.if_icmp .ge 7, 3) := by decide +kernel
theorem d19_28 : decode (am_code 19) 28 = .ok (.iconst 1, 1) := by decide +kernel
theorem d19_29 : decode (am_code 19) 29 = .ok (.goto 4, 3) := by decide +kernel
theorem d19_32 : decode (am_code 19) 32 = .ok (.iconst 0, 1) := by decide +kernel
theorem d19_33 : decode (am_code 19) 33 = .ok (.ireturn, 1) := by decide +kernel
theorem d19_34 : decode (am_code 19) 34 = .ok (.iinc 3 1, 3) := by decide +kernel
theorem d19_37 : decode (am_code 19) 37 = .ok (.goto (-35), 3) := by decide +kernel
theorem d19_40 : decode (am_code 19) 40 = .ok (.iconst 0, 1) := by decide +kernel
theorem d19_41 : decode (am_code 19) 41 = .ok (.ireturn, 1) := by decide +kernel
theorem f19_59 : am_find am_ftL (am_mc 19) 59 = some (1, 0) := by decide +kernel
theorem l19 : am_maxL 19 = 4 := by decide +kernel
theorem t19 : am_ret 19 = (some .boolean) := by decide +kernel
/-! ThirdSheets$Loops.<init>()V is 20 -/
theorem d20_0 : decode (am_code 20) 0 = .ok (.aload_n 0, 1) := by decide +kernel
theorem d20_1 : decode (am_code 20) 1 = .ok (.invokespecial 3, 3) := by decide +kernel
theorem d20_4 : decode (am_code 20) 4 = .ok (.aload_n 0, 1) := by decide +kernel
theorem d20_5 : decode (am_code 20) 5 = .ok (.bipush 18, 2) := by decide +kernel
theorem d20_7 : decode (am_code 20) 7 = .ok (.bipush 6, 2) := by decide +kernel
theorem d20_9 : decode (am_code 20) 9 = .ok (.multianewarray 11 2, 4) := by decide +kernel
theorem d20_13 : decode (am_code 20) 13 = .ok (.putfield 13, 3) := by decide +kernel
theorem d20_16 : decode (am_code 20) 16 = .ok (.aload_n 0, 1) := by decide +kernel
theorem d20_17 : decode (am_code 20) 17 = .ok (.bipush 12, 2) := by decide +kernel
theorem d20_19 : decode (am_code 20) 19 = .ok (.newarray .int, 2) := by decide +kernel
theorem d20_21 : decode (am_code 20) 21 = .ok (.putfield 16, 3) := by decide +kernel
theorem d20_24 : decode (am_code 20) 24 = .ok (.return_, 1) := by decide +kernel
theorem f20_13 : am_find am_ftL (am_mc 20) 13 = some (2, 0) := by decide +kernel
theorem f20_16 : am_find am_ftL (am_mc 20) 16 = some (2, 1) := by decide +kernel
theorem c20_3 : am_find am_ctL (am_mc 20) 3 = some (4, 0) := by decide +kernel
theorem l20 : am_maxL 20 = 1 := by decide +kernel
theorem t20 : am_ret 20 = none := by decide +kernel
