/-! ThirdSheetsModel.link(I)I is 135 -/
theorem d135_0 : decode (am_code 135) 0 = .ok (.aload_n 0, 1) := by decide +kernel
theorem d135_1 : decode (am_code 135) 1 = .ok (.invokevirtual 118, 3) := by decide +kernel
theorem d135_4 : decode (am_code 135) 4 = .ok (.aload_n 0, 1) := by decide +kernel
theorem d135_5 : decode (am_code 135) 5 = .ok (.iload_n 1, 1) := by decide +kernel
theorem d135_6 : decode (am_code 135) 6 = .ok (.invokevirtual 125, 3) := by decide +kernel
theorem d135_9 : decode (am_code 135) 9 = .ok (.istore_n 2, 1) := by decide +kernel
theorem d135_10 : decode (am_code 135) 10 = .ok (.iload_n 2, 1) := by decide +kernel
theorem d135_11 : decode (am_code 135) 11 = .ok (.iconst (-1), 1) := by decide +kernel
theorem d135_12 : decode (am_code 135) 12 = .ok (.if_icmp .ne 8, 3) := by decide +kernel
theorem d135_15 : decode (am_code 135) 15 = .ok (.ldc 128, 2) := by decide +kernel
theorem d135_17 : decode (am_code 135) 17 = .ok (.goto 8, 3) := by decide +kernel
theorem d135_20 : decode (am_code 135) 20 = .ok (.aload_n 0, 1) := by decide +kernel
theorem d135_21 : decode (am_code 135) 21 = .ok (.iload_n 2, 1) := by decide +kernel
theorem d135_22 : decode (am_code 135) 22 = .ok (.invokevirtual 129, 3) := by decide +kernel
theorem d135_25 : decode (am_code 135) 25 = .ok (.ireturn, 1) := by decide +kernel
theorem c135_118 : am_find am_ctL (am_mc 135) 118 = some (0, 116) ∧ am_na 116 = 0 ∧ am_fr 116 + 1 ≤ am_fr 135 ∧ 8 + (am_maxL 116 + 11) + am_lo 116 ≤ am_lo 135 := by decide +kernel
theorem c135_125 : am_find am_ctL (am_mc 135) 125 = some (0, 123) ∧ am_na 123 = 1 ∧ am_fr 123 + 1 ≤ am_fr 135 ∧ 8 + (am_maxL 123 + 11) + am_lo 123 ≤ am_lo 135 := by decide +kernel
theorem c135_129 : am_find am_ctL (am_mc 135) 129 = some (0, 134) ∧ am_na 134 = 1 ∧ am_fr 134 + 1 ≤ am_fr 135 ∧ 8 + (am_maxL 134 + 11) + am_lo 134 ≤ am_lo 135 := by decide +kernel
theorem l135 : am_maxL 135 = 3 := by decide +kernel
theorem t135 : am_ret 135 = (some .int) := by decide +kernel
/-! ThirdSheetsModel.sides(Z)I is 136 -/
theorem d136_0 : decode (am_code 136) 0 = .ok (.iconst 0, 1) := by decide +kernel
theorem d136_1 : decode (am_code 136) 1 = .ok (.istore_n 2, 1) := by decide +kernel
theorem d136_2 : decode (am_code 136) 2 = .ok (.iconst 0, 1) := by decide +kernel
theorem d136_3 : decode (am_code 136) 3 = .ok (.istore_n 3, 1) := by decide +kernel
theorem d136_4 : decode (am_code 136) 4 = .ok (.iload_n 3, 1) := by decide +kernel
theorem d136_5 : decode (am_code 136) 5 = .ok (.iconst 4, 1) := by decide +kernel
theorem d136_6 : decode (am_code 136) 6 = .ok (.aload_n 0, 1) := by decide +kernel
theorem d136_7 : decode (am_code 136) 7 = .ok (.getfield 67, 3) := by decide +kernel
theorem d136_10 : decode (am_code 136) 10 = .ok (.imul, 1) := by decide +kernel
theorem d136_11 : decode (am_code 136) 11 = .ok (.if_icmp .ge 41, 3) := by decide +kernel
theorem d136_14 : decode (am_code 136) 14 = .ok (.iload_n 2, 1) := by decide +kernel
theorem d136_15 : decode (am_code 136) 15 = .ok (.aload_n 0, 1) := by decide +kernel
theorem d136_16 : decode (am_code 136) 16 = .ok (.getfield 7, 3) := by decide +kernel
theorem d136_19 : decode (am_code 136) 19 = .ok (.iload_n 3, 1) := by decide +kernel
theorem d136_20 : decode (am_code 136) 20 = .ok (.iaload, 1) := by decide +kernel
theorem d136_21 : decode (am_code 136) 21 = .ok (.iconst (-1), 1) := by decide +kernel
theorem d136_22 : decode (am_code 136) 22 = .ok (.if_icmp .eq 17, 3) := by decide +kernel
theorem d136_25 : decode (am_code 136) 25 = .ok (.iload_n 1, 1) := by decide +kernel
theorem d136_26 : decode (am_code 136) 26 = .ok (.ifCond .ne 17, 3) := by decide +kernel
theorem d136_29 : decode (am_code 136) 29 = .ok (.iload_n 3, 1) := by decide +kernel
theorem d136_30 : decode (am_code 136) 30 = .ok (.aload_n 0, 1) := by decide +kernel
theorem d136_31 : decode (am_code 136) 31 = .ok (.getfield 7, 3) := by decide +kernel
theorem d136_34 : decode (am_code 136) 34 = .ok (.iload_n 3, 1) := by decide +kernel
theorem d136_35 : decode (am_code 136) 35 = .ok (.iaload, 1) := by decide +kernel
theorem d136_36 : decode (am_code 136) 36 = .ok (.if_icmp .ge 7, 3) := by decide +kernel
theorem d136_39 : decode (am_code 136) 39 = .ok (.iconst 1, 1) := by decide +kernel
theorem d136_40 : decode (am_code 136) 40 = .ok (.goto 4, 3) := by decide +kernel
theorem d136_43 : decode (am_code 136) 43 = .ok (.iconst 0, 1) := by decide +kernel
theorem d136_44 : decode (am_code 136) 44 = .ok (.iadd, 1) := by decide +kernel
theorem d136_45 : decode (am_code 136) 45 = .ok (.istore_n 2, 1) := by decide +kernel
theorem d136_46 : decode (am_code 136) 46 = .ok (.iinc 3 1, 3) := by decide +kernel
theorem d136_49 : decode (am_code 136) 49 = .ok (.goto (-45), 3) := by decide +kernel
theorem d136_52 : decode (am_code 136) 52 = .ok (.iload_n 2, 1) := by decide +kernel
theorem d136_53 : decode (am_code 136) 53 = .ok (.ireturn, 1) := by decide +kernel
theorem f136_67 : am_find am_ftL (am_mc 136) 67 = some (7, 0) := by decide +kernel
theorem f136_7 : am_find am_ftL (am_mc 136) 7 = some (7, 1) := by decide +kernel
theorem l136 : am_maxL 136 = 4 := by decide +kernel
theorem t136 : am_ret 136 = (some .int) := by decide +kernel
/-! ThirdSheetsModel.isWhole()Z is 137 -/
theorem d137_0 : decode (am_code 137) 0 = .ok (.aload_n 0, 1) := by decide +kernel
theorem d137_1 : decode (am_code 137) 1 = .ok (.getfield 67, 3) := by decide +kernel
theorem d137_4 : decode (am_code 137) 4 = .ok (.ifCond .le 22, 3) := by decide +kernel
theorem d137_7 : decode (am_code 137) 7 = .ok (.aload_n 0, 1) := by decide +kernel
theorem d137_8 : decode (am_code 137) 8 = .ok (.iconst 1, 1) := by decide +kernel
theorem d137_9 : decode (am_code 137) 9 = .ok (.invokevirtual 132, 3) := by decide +kernel
theorem d137_12 : decode (am_code 137) 12 = .ok (.ifCond .ne 14, 3) := by decide +kernel
theorem d137_15 : decode (am_code 137) 15 = .ok (.aload_n 0, 1) := by decide +kernel
theorem d137_16 : decode (am_code 137) 16 = .ok (.invokevirtual 136, 3) := by decide +kernel
theorem d137_19 : decode (am_code 137) 19 = .ok (.ifCond .ne 7, 3) := by decide +kernel
theorem d137_22 : decode (am_code 137) 22 = .ok (.iconst 1, 1) := by decide +kernel
theorem d137_23 : decode (am_code 137) 23 = .ok (.goto 4, 3) := by decide +kernel
theorem d137_26 : decode (am_code 137) 26 = .ok (.iconst 0, 1) := by decide +kernel
theorem d137_27 : decode (am_code 137) 27 = .ok (.istore_n 1, 1) := by decide +kernel
theorem d137_28 : decode (am_code 137) 28 = .ok (.iconst 0, 1) := by decide +kernel
theorem d137_29 : decode (am_code 137) 29 = .ok (.istore_n 2, 1) := by decide +kernel
theorem d137_30 : decode (am_code 137) 30 = .ok (.iload_n 2, 1) := by decide +kernel
theorem d137_31 : decode (am_code 137) 31 = .ok (.iconst 4, 1) := by decide +kernel
theorem d137_32 : decode (am_code 137) 32 = .ok (.aload_n 0, 1) := by decide +kernel
theorem d137_33 : decode (am_code 137) 33 = .ok (.getfield 67, 3) := by decide +kernel
theorem d137_36 : decode (am_code 137) 36 = .ok (.imul, 1) := by decide +kernel
theorem d137_37 : decode (am_code 137) 37 = .ok (.if_icmp .ge 38, 3) := by decide +kernel
theorem d137_40 : decode (am_code 137) 40 = .ok (.iload_n 1, 1) := by decide +kernel
theorem d137_41 : decode (am_code 137) 41 = .ok (.ifCond .eq 26, 3) := by decide +kernel
theorem d137_44 : decode (am_code 137) 44 = .ok (.aload_n 0, 1) := by decide +kernel
theorem d137_45 : decode (am_code 137) 45 = .ok (.getfield 28, 3) := by decide +kernel
theorem d137_48 : decode (am_code 137) 48 = .ok (.iload_n 2, 1) := by decide +kernel
theorem d137_49 : decode (am_code 137) 49 = .ok (.iaload, 1) := by decide +kernel
theorem d137_50 : decode (am_code 137) 50 = .ok (.iload_n 2, 1) := by decide +kernel
theorem d137_51 : decode (am_code 137) 51 = .ok (.if_icmp .ne 12, 3) := by decide +kernel
theorem d137_54 : decode (am_code 137) 54 = .ok (.aload_n 0, 1) := by decide +kernel
theorem d137_55 : decode (am_code 137) 55 = .ok (.iload_n 2, 1) := by decide +kernel
theorem d137_56 : decode (am_code 137) 56 = .ok (.invokevirtual 129, 3) := by decide +kernel
theorem d137_59 : decode (am_code 137) 59 = .ok (.iconst 2, 1) := by decide +kernel
theorem d137_60 : decode (am_code 137) 60 = .ok (.if_icmp .ne 7, 3) := by decide +kernel
theorem d137_63 : decode (am_code 137) 63 = .ok (.iconst 1, 1) := by decide +kernel
theorem d137_64 : decode (am_code 137) 64 = .ok (.goto 4, 3) := by decide +kernel
theorem d137_67 : decode (am_code 137) 67 = .ok (.iconst 0, 1) := by decide +kernel
theorem d137_68 : decode (am_code 137) 68 = .ok (.istore_n 1, 1) := by decide +kernel
theorem d137_69 : decode (am_code 137) 69 = .ok (.iinc 2 1, 3) := by decide +kernel
theorem d137_72 : decode (am_code 137) 72 = .ok (.goto (-42), 3) := by decide +kernel
theorem d137_75 : decode (am_code 137) 75 = .ok (.iload_n 1, 1) := by decide +kernel
theorem d137_76 : decode (am_code 137) 76 = .ok (.ireturn, 1) := by decide +kernel
theorem f137_67 : am_find am_ftL (am_mc 137) 67 = some (7, 0) := by decide +kernel
theorem f137_28 : am_find am_ftL (am_mc 137) 28 = some (7, 7) := by decide +kernel
theorem c137_132 : am_find am_ctL (am_mc 137) 132 = some (0, 136) ∧ am_na 136 = 1 ∧ am_fr 136 + 1 ≤ am_fr 137 ∧ 8 + (am_maxL 136 + 11) + am_lo 136 ≤ am_lo 137 := by decide +kernel
theorem c137_136 : am_find am_ctL (am_mc 137) 136 = some (0, 125) ∧ am_na 125 = 0 ∧ am_fr 125 + 1 ≤ am_fr 137 ∧ 8 + (am_maxL 125 + 11) + am_lo 125 ≤ am_lo 137 := by decide +kernel
theorem c137_129 : am_find am_ctL (am_mc 137) 129 = some (0, 134) ∧ am_na 134 = 1 ∧ am_fr 134 + 1 ≤ am_fr 137 ∧ 8 + (am_maxL 134 + 11) + am_lo 134 ≤ am_lo 137 := by decide +kernel
theorem l137 : am_maxL 137 = 3 := by decide +kernel
theorem t137 : am_ret 137 = (some .boolean) := by decide +kernel
/-! ThirdSheetsModel.isEvenChange(I)Z is 138 -/
theorem d138_0 : decode (am_code 138) 0 = .ok (.iconst 0, 1) := by decide +kernel
theorem d138_1 : decode (am_code 138) 1 = .ok (.istore_n 2, 1) := by decide +kernel
theorem d138_2 : decode (am_code 138) 2 = .ok (.iconst 0, 1) := by decide +kernel
theorem d138_3 : decode (am_code 138) 3 = .ok (.istore_n 3, 1) := by decide +kernel
theorem d138_4 : decode (am_code 138) 4 = .ok (.iload_n 3, 1) := by decide +kernel
theorem d138_5 : decode (am_code 138) 5 = .ok (.iconst 4, 1) := by decide +kernel
theorem d138_6 : decode (am_code 138) 6 = .ok (.if_icmp .ge 58, 3) := by decide +kernel
theorem d138_9 : decode (am_code 138) 9 = .ok (.iload_n 3, 1) := by decide +kernel
theorem d138_10 : decode (am_code 138) 10 = .ok (.iconst 1, 1) := by decide +kernel
theorem d138_11 : decode (am_code 138) 11 = .ok (.iadd, 1) := by decide +kernel
theorem d138_12 : decode (am_code 138) 12 = .ok (.istore 4, 2) := by decide +kernel
theorem d138_14 : decode (am_code 138) 14 = .ok (.iload 4, 2) := by decide +kernel
theorem d138_16 : decode (am_code 138) 16 = .ok (.iconst 4, 1) := by decide +kernel
theorem d138_17 : decode (am_code 138) 17 = .ok (.if_icmp .ge 41, 3) := by decide +kernel
theorem d138_20 : decode (am_code 138) 20 = .ok (.iload_n 2, 1) := by decide +kernel
theorem d138_21 : decode (am_code 138) 21 = .ok (.aload_n 0, 1) := by decide +kernel
theorem d138_22 : decode (am_code 138) 22 = .ok (.getfield 13, 3) := by decide +kernel
theorem d138_25 : decode (am_code 138) 25 = .ok (.iconst 4, 1) := by decide +kernel
theorem d138_26 : decode (am_code 138) 26 = .ok (.iload_n 1, 1) := by decide +kernel
theorem d138_27 : decode (am_code 138) 27 = .ok (.imul, 1) := by decide +kernel
theorem d138_28 : decode (am_code 138) 28 = .ok (.iload_n 3, 1) := by decide +kernel
theorem d138_29 : decode (am_code 138) 29 = .ok (.iadd, 1) := by decide +kernel
theorem d138_30 : decode (am_code 138) 30 = .ok (.iaload, 1) := by decide +kernel
theorem d138_31 : decode (am_code 138) 31 = .ok (.aload_n 0, 1) := by decide +kernel
theorem d138_32 : decode (am_code 138) 32 = .ok (.getfield 13, 3) := by decide +kernel
theorem d138_35 : decode (am_code 138) 35 = .ok (.iconst 4, 1) := by decide +kernel
theorem d138_36 : decode (am_code 138) 36 = .ok (.iload_n 1, 1) := by decide +kernel
theorem d138_37 : decode (am_code 138) 37 = .ok (.imul, 1) := by decide +kernel
theorem d138_38 : decode (am_code 138) 38 = .ok (.iload 4, 2) := by decide +kernel
theorem d138_40 : decode (am_code 138) 40 = .ok (.iadd, 1) := by decide +kernel
theorem d138_41 : decode (am_code 138) 41 = .ok (.iaload, 1) := by decide +kernel
theorem d138_42 : decode (am_code 138) 42 = .ok (.if_icmp .le 7, 3) := by decide +kernel
theorem d138_45 : decode (am_code 138) 45 = .ok (.iconst 1, 1) := by decide +kernel
theorem d138_46 : decode (am_code 138) 46 = .ok (.goto 4, 3) := by decide +kernel
theorem d138_49 : decode (am_code 138) 49 = .ok (.iconst 0, 1) := by decide +kernel
theorem d138_50 : decode (am_code 138) 50 = .ok (.iadd, 1) := by decide +kernel
theorem d138_51 : decode (am_code 138) 51 = .ok (.istore_n 2, 1) := by decide +kernel
theorem d138_52 : decode (am_code 138) 52 = .ok (.iinc 4 1, 3) := by decide +kernel
theorem d138_55 : decode (am_code 138) 55 = .ok (.goto (-41), 3) := by decide +kernel
theorem d138_58 : decode (am_code 138) 58 = .ok (.iinc 3 1, 3) := by decide +kernel
theorem d138_61 : decode (am_code 138) 61 = .ok (.goto (-57), 3) := by decide +kernel
theorem d138_64 : decode (am_code 138) 64 = .ok (.iload_n 2, 1) := by decide +kernel
theorem d138_65 : decode (am_code 138) 65 = .ok (.iconst 2, 1) := by decide +kernel
theorem d138_66 : decode (am_code 138) 66 = .ok (.irem, 1) := by decide +kernel
theorem d138_67 : decode (am_code 138) 67 = .ok (.ifCond .ne 7, 3) := by decide +kernel
theorem d138_70 : decode (am_code 138) 70 = .ok (.iconst 1, 1) := by decide +kernel
theorem d138_71 : decode (am_code 138) 71 = .ok (.goto 4, 3) := by decide +kernel
theorem d138_74 : decode (am_code 138) 74 = .ok (.iconst 0, 1) := by decide +kernel
theorem d138_75 : decode (am_code 138) 75 = .ok (.ireturn, 1) := by decide +kernel
theorem f138_13 : am_find am_ftL (am_mc 138) 13 = some (7, 2) := by decide +kernel
theorem l138 : am_maxL 138 = 5 := by decide +kernel
theorem t138 : am_ret 138 = (some .boolean) := by decide +kernel
/-! ThirdSheetsModel.isEven()Z is 139 -/
theorem d139_0 : decode (am_code 139) 0 = .ok (.iconst 0, 1) := by decide +kernel
theorem d139_1 : decode (am_code 139) 1 = .ok (.istore_n 1, 1) := by decide +kernel
theorem d139_2 : decode (am_code 139) 2 = .ok (.iload_n 1, 1) := by decide +kernel
theorem d139_3 : decode (am_code 139) 3 = .ok (.bipush 8, 2) := by decide +kernel
theorem d139_5 : decode (am_code 139) 5 = .ok (.if_icmp .ge 94, 3) := by decide +kernel
theorem d139_8 : decode (am_code 139) 8 = .ok (.iconst 1, 1) := by decide +kernel
theorem d139_9 : decode (am_code 139) 9 = .ok (.istore_n 2, 1) := by decide +kernel
theorem d139_10 : decode (am_code 139) 10 = .ok (.iconst 0, 1) := by decide +kernel
theorem d139_11 : decode (am_code 139) 11 = .ok (.istore_n 3, 1) := by decide +kernel
theorem d139_12 : decode (am_code 139) 12 = .ok (.iload_n 3, 1) := by decide +kernel
theorem d139_13 : decode (am_code 139) 13 = .ok (.iconst 4, 1) := by decide +kernel
theorem d139_14 : decode (am_code 139) 14 = .ok (.aload_n 0, 1) := by decide +kernel
theorem d139_15 : decode (am_code 139) 15 = .ok (.getfield 67, 3) := by decide +kernel
theorem d139_18 : decode (am_code 139) 18 = .ok (.imul, 1) := by decide +kernel
theorem d139_19 : decode (am_code 139) 19 = .ok (.if_icmp .ge 68, 3) := by decide +kernel
theorem d139_22 : decode (am_code 139) 22 = .ok (.aload_n 0, 1) := by decide +kernel
theorem d139_23 : decode (am_code 139) 23 = .ok (.getfield 7, 3) := by decide +kernel
theorem d139_26 : decode (am_code 139) 26 = .ok (.iload_n 3, 1) := by decide +kernel
theorem d139_27 : decode (am_code 139) 27 = .ok (.iaload, 1) := by decide +kernel
theorem d139_28 : decode (am_code 139) 28 = .ok (.iconst (-1), 1) := by decide +kernel
theorem d139_29 : decode (am_code 139) 29 = .ok (.if_icmp .eq 52, 3) := by decide +kernel
theorem d139_32 : decode (am_code 139) 32 = .ok (.iload_n 1, 1) := by decide +kernel
theorem d139_33 : decode (am_code 139) 33 = .ok (.iload_n 3, 1) := by decide +kernel
theorem d139_34 : decode (am_code 139) 34 = .ok (.iconst 4, 1) := by decide +kernel
theorem d139_35 : decode (am_code 139) 35 = .ok (.idiv, 1) := by decide +kernel
theorem d139_36 : decode (am_code 139) 36 = .ok (.ishr, 1) := by decide +kernel
theorem d139_37 : decode (am_code 139) 37 = .ok (.iconst 1, 1) := by decide +kernel
theorem d139_38 : decode (am_code 139) 38 = .ok (.iand, 1) := by decide +kernel
theorem d139_39 : decode (am_code 139) 39 = .ok (.iload_n 1, 1) := by decide +kernel
theorem d139_40 : decode (am_code 139) 40 = .ok (.aload_n 0, 1) := by decide +kernel
theorem d139_41 : decode (am_code 139) 41 = .ok (.getfield 7, 3) := by decide +kernel
theorem d139_44 : decode (am_code 139) 44 = .ok (.iload_n 3, 1) := by decide +kernel
theorem d139_45 : decode (am_code 139) 45 = .ok (.iaload, 1) := by decide +kernel
theorem d139_46 : decode (am_code 139) 46 = .ok (.iconst 4, 1) := by decide +kernel
theorem d139_47 : decode (am_code 139) 47 = .ok (.idiv, 1) := by decide +kernel
theorem d139_48 : decode (am_code 139) 48 = .ok (.ishr, 1) := by decide +kernel
theorem d139_49 : decode (am_code 139) 49 = .ok (.iconst 1, 1) := by decide +kernel
theorem d139_50 : decode (am_code 139) 50 = .ok (.iand, 1) := by decide +kernel
theorem d139_51 : decode (am_code 139) 51 = .ok (.if_icmp .eq 7, 3) := by decide +kernel
theorem d139_54 : decode (am_code 139) 54 = .ok (.iconst 1, 1) := by decide +kernel
theorem d139_55 : decode (am_code 139) 55 = .ok (.goto 4, 3) := by decide +kernel
theorem d139_58 : decode (am_code 139) 58 = .ok (.iconst 0, 1) := by decide +kernel
theorem d139_59 : decode (am_code 139) 59 = .ok (.istore 4, 2) := by decide +kernel
theorem d139_61 : decode (am_code 139) 61 = .ok (.iload_n 2, 1) := by decide +kernel
theorem d139_62 : decode (am_code 139) 62 = .ok (.ifCond .eq 17, 3) := by decide +kernel
theorem d139_65 : decode (am_code 139) 65 = .ok (.iload 4, 2) := by decide +kernel
theorem d139_67 : decode (am_code 139) 67 = .ok (.aload_n 0, 1) := by decide +kernel
theorem d139_68 : decode (am_code 139) 68 = .ok (.iload_n 3, 1) := by decide +kernel
theorem d139_69 : decode (am_code 139) 69 = .ok (.invokevirtual 140, 3) := by decide +kernel
theorem d139_72 : decode (am_code 139) 72 = .ok (.if_icmp .ne 7, 3) := by decide +kernel
theorem d139_75 : decode (am_code 139) 75 = .ok (.iconst 1, 1) := by decide +kernel
theorem d139_76 : decode (am_code 139) 76 = .ok (.goto 4, 3) := by decide +kernel
theorem d139_79 : decode (am_code 139) 79 = .ok (.iconst 0, 1) := by decide +kernel
theorem d139_80 : decode (am_code 139) 80 = .ok (.istore_n 2, 1) := by decide +kernel
theorem d139_81 : decode (am_code 139) 81 = .ok (.iinc 3 1, 3) := by decide +kernel
theorem d139_84 : decode (am_code 139) 84 = .ok (.goto (-72), 3) := by decide +kernel
theorem d139_87 : decode (am_code 139) 87 = .ok (.iload_n 2, 1) := by decide +kernel
theorem d139_88 : decode (am_code 139) 88 = .ok (.ifCond .eq 5, 3) := by decide +kernel
theorem d139_91 : decode (am_code 139) 91 = .ok (.iconst 1, 1) := by decide +kernel
theorem d139_92 : decode (am_code 139) 92 = .ok (.ireturn, 1) := by decide +kernel
theorem d139_93 : decode (am_code 139) 93 = .ok (.iinc 1 1, 3) := by decide +kernel
theorem d139_96 : decode (am_code 139) 96 = .ok (.goto (-94), 3) := by decide +kernel
theorem d139_99 : decode (am_code 139) 99 = .ok (.iconst 0, 1) := by decide +kernel
theorem d139_100 : decode (am_code 139) 100 = .ok (.ireturn, 1) := by decide +kernel
theorem f139_67 : am_find am_ftL (am_mc 139) 67 = some (7, 0) := by decide +kernel
theorem f139_7 : am_find am_ftL (am_mc 139) 7 = some (7, 1) := by decide +kernel
theorem c139_140 : am_find am_ctL (am_mc 139) 140 = some (0, 138) ∧ am_na 138 = 1 ∧ am_fr 138 + 1 ≤ am_fr 139 ∧ 8 + (am_maxL 138 + 11) + am_lo 138 ≤ am_lo 139 := by decide +kernel
theorem l139 : am_maxL 139 = 5 := by decide +kernel
theorem t139 : am_ret 139 = (some .boolean) := by decide +kernel
/-! ThirdSheetsModel.setMany()I is 140 -/
theorem d140_0 : decode (am_code 140) 0 = .ok (.iconst 0, 1) := by decide +kernel
theorem d140_1 : decode (am_code 140) 1 = .ok (.istore_n 1, 1) := by decide +kernel
theorem d140_2 : decode (am_code 140) 2 = .ok (.iconst 0, 1) := by decide +kernel
theorem d140_3 : decode (am_code 140) 3 = .ok (.istore_n 2, 1) := by decide +kernel
theorem d140_4 : decode (am_code 140) 4 = .ok (.iload_n 2, 1) := by decide +kernel
theorem d140_5 : decode (am_code 140) 5 = .ok (.aload_n 0, 1) := by decide +kernel
theorem d140_6 : decode (am_code 140) 6 = .ok (.getfield 67, 3) := by decide +kernel
theorem d140_9 : decode (am_code 140) 9 = .ok (.if_icmp .ge 27, 3) := by decide +kernel
theorem d140_12 : decode (am_code 140) 12 = .ok (.iload_n 1, 1) := by decide +kernel
theorem d140_13 : decode (am_code 140) 13 = .ok (.aload_n 0, 1) := by decide +kernel
theorem d140_14 : decode (am_code 140) 14 = .ok (.getfield 31, 3) := by decide +kernel
theorem d140_17 : decode (am_code 140) 17 = .ok (.iload_n 2, 1) := by decide +kernel
theorem d140_18 : decode (am_code 140) 18 = .ok (.iaload, 1) := by decide +kernel
theorem d140_19 : decode (am_code 140) 19 = .ok (.iload_n 2, 1) := by decide +kernel
theorem d140_20 : decode (am_code 140) 20 = .ok (.if_icmp .ne 7, 3) := by decide +kernel
theorem d140_23 : decode (am_code 140) 23 = .ok (.iconst 1, 1) := by decide +kernel
theorem d140_24 : decode (am_code 140) 24 = .ok (.goto 4, 3) := by decide +kernel
theorem d140_27 : decode (am_code 140) 27 = .ok (.iconst 0, 1) := by decide +kernel
theorem d140_28 : decode (am_code 140) 28 = .ok (.iadd, 1) := by decide +kernel
theorem d140_29 : decode (am_code 140) 29 = .ok (.istore_n 1, 1) := by decide +kernel
theorem d140_30 : decode (am_code 140) 30 = .ok (.iinc 2 1, 3) := by decide +kernel
theorem d140_33 : decode (am_code 140) 33 = .ok (.goto (-29), 3) := by decide +kernel
theorem d140_36 : decode (am_code 140) 36 = .ok (.iload_n 1, 1) := by decide +kernel
theorem d140_37 : decode (am_code 140) 37 = .ok (.ireturn, 1) := by decide +kernel
theorem f140_67 : am_find am_ftL (am_mc 140) 67 = some (7, 0) := by decide +kernel
theorem f140_31 : am_find am_ftL (am_mc 140) 31 = some (7, 8) := by decide +kernel
theorem l140 : am_maxL 140 = 3 := by decide +kernel
theorem t140 : am_ret 140 = (some .int) := by decide +kernel
/-! ThirdSheetsModel.count(I)I is 141 -/
theorem d141_0 : decode (am_code 141) 0 = .ok (.aload_n 0, 1) := by decide +kernel
theorem d141_1 : decode (am_code 141) 1 = .ok (.invokevirtual 118, 3) := by decide +kernel
theorem d141_4 : decode (am_code 141) 4 = .ok (.iload_n 1, 1) := by decide +kernel
theorem d141_5 : decode (am_code 141) 5 = .ok (.tableswitch 130 0 8 #[51, 56, 61, 66, 72, 78, 99, 112, 125], 51) := by decide +kernel
theorem d141_56 : decode (am_code 141) 56 = .ok (.aload_n 0, 1) := by decide +kernel
theorem d141_57 : decode (am_code 141) 57 = .ok (.getfield 67, 3) := by decide +kernel
theorem d141_60 : decode (am_code 141) 60 = .ok (.ireturn, 1) := by decide +kernel
theorem d141_61 : decode (am_code 141) 61 = .ok (.aload_n 0, 1) := by decide +kernel
theorem d141_62 : decode (am_code 141) 62 = .ok (.invokevirtual 143, 3) := by decide +kernel
theorem d141_65 : decode (am_code 141) 65 = .ok (.ireturn, 1) := by decide +kernel
theorem d141_66 : decode (am_code 141) 66 = .ok (.aload_n 0, 1) := by decide +kernel
theorem d141_67 : decode (am_code 141) 67 = .ok (.invokevirtual 147, 3) := by decide +kernel
theorem d141_70 : decode (am_code 141) 70 = .ok (.ireturn, 1) := by decide +kernel
theorem d141_71 : decode (am_code 141) 71 = .ok (.aload_n 0, 1) := by decide +kernel
theorem d141_72 : decode (am_code 141) 72 = .ok (.iconst 0, 1) := by decide +kernel
theorem d141_73 : decode (am_code 141) 73 = .ok (.invokevirtual 132, 3) := by decide +kernel
theorem d141_76 : decode (am_code 141) 76 = .ok (.ireturn, 1) := by decide +kernel
theorem d141_77 : decode (am_code 141) 77 = .ok (.aload_n 0, 1) := by decide +kernel
theorem d141_78 : decode (am_code 141) 78 = .ok (.iconst 1, 1) := by decide +kernel
theorem d141_79 : decode (am_code 141) 79 = .ok (.invokevirtual 132, 3) := by decide +kernel
theorem d141_82 : decode (am_code 141) 82 = .ok (.ireturn, 1) := by decide +kernel
theorem d141_83 : decode (am_code 141) 83 = .ok (.aload_n 0, 1) := by decide +kernel
theorem d141_84 : decode (am_code 141) 84 = .ok (.invokevirtual 143, 3) := by decide +kernel
theorem d141_87 : decode (am_code 141) 87 = .ok (.aload_n 0, 1) := by decide +kernel
theorem d141_88 : decode (am_code 141) 88 = .ok (.invokevirtual 147, 3) := by decide +kernel
theorem d141_91 : decode (am_code 141) 91 = .ok (.isub, 1) := by decide +kernel
theorem d141_92 : decode (am_code 141) 92 = .ok (.aload_n 0, 1) := by decide +kernel
theorem d141_93 : decode (am_code 141) 93 = .ok (.iconst 0, 1) := by decide +kernel
theorem d141_94 : decode (am_code 141) 94 = .ok (.invokevirtual 132, 3) := by decide +kernel
theorem d141_97 : decode (am_code 141) 97 = .ok (.iadd, 1) := by decide +kernel
theorem d141_98 : decode (am_code 141) 98 = .ok (.aload_n 0, 1) := by decide +kernel
theorem d141_99 : decode (am_code 141) 99 = .ok (.getfield 67, 3) := by decide +kernel
theorem d141_102 : decode (am_code 141) 102 = .ok (.isub, 1) := by decide +kernel
theorem d141_103 : decode (am_code 141) 103 = .ok (.ireturn, 1) := by decide +kernel
theorem d141_104 : decode (am_code 141) 104 = .ok (.aload_n 0, 1) := by decide +kernel
theorem d141_105 : decode (am_code 141) 105 = .ok (.invokevirtual 150, 3) := by decide +kernel
theorem d141_108 : decode (am_code 141) 108 = .ok (.ifCond .eq 7, 3) := by decide +kernel
theorem d141_111 : decode (am_code 141) 111 = .ok (.iconst 1, 1) := by decide +kernel
theorem d141_112 : decode (am_code 141) 112 = .ok (.goto 4, 3) := by decide +kernel
theorem d141_115 : decode (am_code 141) 115 = .ok (.iconst 0, 1) := by decide +kernel
theorem d141_116 : decode (am_code 141) 116 = .ok (.ireturn, 1) := by decide +kernel
theorem d141_117 : decode (am_code 141) 117 = .ok (.aload_n 0, 1) := by decide +kernel
theorem d141_118 : decode (am_code 141) 118 = .ok (.invokevirtual 153, 3) := by decide +kernel
theorem d141_121 : decode (am_code 141) 121 = .ok (.ifCond .eq 7, 3) := by decide +kernel
theorem d141_124 : decode (am_code 141) 124 = .ok (.iconst 1, 1) := by decide +kernel
theorem d141_125 : decode (am_code 141) 125 = .ok (.goto 4, 3) := by decide +kernel
theorem d141_128 : decode (am_code 141) 128 = .ok (.iconst 0, 1) := by decide +kernel
theorem d141_129 : decode (am_code 141) 129 = .ok (.ireturn, 1) := by decide +kernel
theorem d141_130 : decode (am_code 141) 130 = .ok (.aload_n 0, 1) := by decide +kernel
theorem d141_131 : decode (am_code 141) 131 = .ok (.invokevirtual 156, 3) := by decide +kernel
theorem d141_134 : decode (am_code 141) 134 = .ok (.ireturn, 1) := by decide +kernel
theorem d141_135 : decode (am_code 141) 135 = .ok (.ldc 128, 2) := by decide +kernel
theorem d141_137 : decode (am_code 141) 137 = .ok (.ireturn, 1) := by decide +kernel
theorem f141_67 : am_find am_ftL (am_mc 141) 67 = some (7, 0) := by decide +kernel
theorem c141_118 : am_find am_ctL (am_mc 141) 118 = some (0, 116) ∧ am_na 116 = 0 ∧ am_fr 116 + 1 ≤ am_fr 141 ∧ 8 + (am_maxL 116 + 11) + am_lo 116 ≤ am_lo 141 := by decide +kernel
theorem c141_143 : am_find am_ctL (am_mc 141) 143 = some (0, 121) ∧ am_na 121 = 0 ∧ am_fr 121 + 1 ≤ am_fr 141 ∧ 8 + (am_maxL 121 + 11) + am_lo 121 ≤ am_lo 141 := by decide +kernel
theorem c141_147 : am_find am_ctL (am_mc 141) 147 = some (0, 120) ∧ am_na 120 = 0 ∧ am_fr 120 + 1 ≤ am_fr 141 ∧ 8 + (am_maxL 120 + 11) + am_lo 120 ≤ am_lo 141 := by decide +kernel
theorem c141_132 : am_find am_ctL (am_mc 141) 132 = some (0, 136) ∧ am_na 136 = 1 ∧ am_fr 136 + 1 ≤ am_fr 141 ∧ 8 + (am_maxL 136 + 11) + am_lo 136 ≤ am_lo 141 := by decide +kernel
theorem c141_150 : am_find am_ctL (am_mc 141) 150 = some (0, 137) ∧ am_na 137 = 0 ∧ am_fr 137 + 1 ≤ am_fr 141 ∧ 8 + (am_maxL 137 + 11) + am_lo 137 ≤ am_lo 141 := by decide +kernel
theorem c141_153 : am_find am_ctL (am_mc 141) 153 = some (0, 139) ∧ am_na 139 = 0 ∧ am_fr 139 + 1 ≤ am_fr 141 ∧ 8 + (am_maxL 139 + 11) + am_lo 139 ≤ am_lo 141 := by decide +kernel
theorem c141_156 : am_find am_ctL (am_mc 141) 156 = some (0, 140) ∧ am_na 140 = 0 ∧ am_fr 140 + 1 ≤ am_fr 141 ∧ 8 + (am_maxL 140 + 11) + am_lo 140 ≤ am_lo 141 := by decide +kernel
theorem l141 : am_maxL 141 = 2 := by decide +kernel
theorem t141 : am_ret 141 = (some .int) := by decide +kernel
/-! ThirdSheetsModel.findPairs()V is 142 -/
theorem d142_0 : decode (am_code 142) 0 = .ok (.aload_n 0, 1) := by decide +kernel
theorem d142_1 : decode (am_code 142) 1 = .ok (.iconst 0, 1) := by decide +kernel
theorem d142_2 : decode (am_code 142) 2 = .ok (.putfield 159, 3) := by decide +kernel
theorem d142_5 : decode (am_code 142) 5 = .ok (.iconst 0, 1) := by decide +kernel
theorem d142_6 : decode (am_code 142) 6 = .ok (.istore_n 1, 1) := by decide +kernel
theorem d142_7 : decode (am_code 142) 7 = .ok (.iload_n 1, 1) := by decide +kernel
theorem d142_8 : decode (am_code 142) 8 = .ok (.iconst 4, 1) := by decide +kernel
theorem d142_9 : decode (am_code 142) 9 = .ok (.aload_n 0, 1) := by decide +kernel
theorem d142_10 : decode (am_code 142) 10 = .ok (.getfield 67, 3) := by decide +kernel
theorem d142_13 : decode (am_code 142) 13 = .ok (.imul, 1) := by decide +kernel
theorem d142_14 : decode (am_code 142) 14 = .ok (.if_icmp .ge 64, 3) := by decide +kernel
theorem d142_17 : decode (am_code 142) 17 = .ok (.aload_n 0, 1) := by decide +kernel
theorem d142_18 : decode (am_code 142) 18 = .ok (.getfield 7, 3) := by decide +kernel
theorem d142_21 : decode (am_code 142) 21 = .ok (.iload_n 1, 1) := by decide +kernel
theorem d142_22 : decode (am_code 142) 22 = .ok (.iaload, 1) := by decide +kernel
theorem d142_23 : decode (am_code 142) 23 = .ok (.iconst (-1), 1) := by decide +kernel
theorem d142_24 : decode (am_code 142) 24 = .ok (.if_icmp .eq 48, 3) := by decide +kernel
theorem d142_27 : decode (am_code 142) 27 = .ok (.iload_n 1, 1) := by decide +kernel
theorem d142_28 : decode (am_code 142) 28 = .ok (.aload_n 0, 1) := by decide +kernel
theorem d142_29 : decode (am_code 142) 29 = .ok (.getfield 7, 3) := by decide +kernel
theorem d142_32 : decode (am_code 142) 32 = .ok (.iload_n 1, 1) := by decide +kernel
theorem d142_33 : decode (am_code 142) 33 = .ok (.iaload, 1) := by decide +kernel
theorem d142_34 : decode (am_code 142) 34 = .ok (.if_icmp .ge 38, 3) := by decide +kernel
theorem d142_37 : decode (am_code 142) 37 = .ok (.aload_n 0, 1) := by decide +kernel
theorem d142_38 : decode (am_code 142) 38 = .ok (.getfield 38, 3) := by decide +kernel
theorem d142_41 : decode (am_code 142) 41 = .ok (.iload_n 1, 1) := by decide +kernel
theorem d142_42 : decode (am_code 142) 42 = .ok (.aload_n 0, 1) := by decide +kernel
theorem d142_43 : decode (am_code 142) 43 = .ok (.getfield 159, 3) := by decide +kernel
theorem d142_46 : decode (am_code 142) 46 = .ok (.iastore, 1) := by decide +kernel
theorem d142_47 : decode (am_code 142) 47 = .ok (.aload_n 0, 1) := by decide +kernel
theorem d142_48 : decode (am_code 142) 48 = .ok (.getfield 38, 3) := by decide +kernel
theorem d142_51 : decode (am_code 142) 51 = .ok (.aload_n 0, 1) := by decide +kernel
theorem d142_52 : decode (am_code 142) 52 = .ok (.getfield 7, 3) := by decide +kernel
theorem d142_55 : decode (am_code 142) 55 = .ok (.iload_n 1, 1) := by decide +kernel
theorem d142_56 : decode (am_code 142) 56 = .ok (.iaload, 1) := by decide +kernel
theorem d142_57 : decode (am_code 142) 57 = .ok (.aload_n 0, 1) := by decide +kernel
theorem d142_58 : decode (am_code 142) 58 = .ok (.getfield 159, 3) := by decide +kernel
theorem d142_61 : decode (am_code 142) 61 = .ok (.iastore, 1) := by decide +kernel
theorem d142_62 : decode (am_code 142) 62 = .ok (.aload_n 0, 1) := by decide +kernel
theorem d142_63 : decode (am_code 142) 63 = .ok (.dup, 1) := by decide +kernel
theorem d142_64 : decode (am_code 142) 64 = .ok (.getfield 159, 3) := by decide +kernel
theorem d142_67 : decode (am_code 142) 67 = .ok (.iconst 1, 1) := by decide +kernel
theorem d142_68 : decode (am_code 142) 68 = .ok (.iadd, 1) := by decide +kernel
theorem d142_69 : decode (am_code 142) 69 = .ok (.putfield 159, 3) := by decide +kernel
theorem d142_72 : decode (am_code 142) 72 = .ok (.iinc 1 1, 3) := by decide +kernel
theorem d142_75 : decode (am_code 142) 75 = .ok (.goto (-68), 3) := by decide +kernel
theorem d142_78 : decode (am_code 142) 78 = .ok (.return_, 1) := by decide +kernel
theorem f142_159 : am_find am_ftL (am_mc 142) 159 = some (7, 12) := by decide +kernel
theorem f142_67 : am_find am_ftL (am_mc 142) 67 = some (7, 0) := by decide +kernel
theorem f142_7 : am_find am_ftL (am_mc 142) 7 = some (7, 1) := by decide +kernel
theorem f142_38 : am_find am_ftL (am_mc 142) 38 = some (7, 13) := by decide +kernel
theorem l142 : am_maxL 142 = 2 := by decide +kernel
theorem t142 : am_ret 142 = none := by decide +kernel
/-! ThirdSheetsModel.goAround(I)Z is 143 -/
theorem d143_0 : decode (am_code 143) 0 = .ok (.iload_n 1, 1) := by decide +kernel
theorem d143_1 : decode (am_code 143) 1 = .ok (.bipush 6, 2) := by decide +kernel
theorem d143_3 : decode (am_code 143) 3 = .ok (.idiv, 1) := by decide +kernel
theorem d143_4 : decode (am_code 143) 4 = .ok (.istore_n 2, 1) := by decide +kernel
theorem d143_5 : decode (am_code 143) 5 = .ok (.aload_n 0, 1) := by decide +kernel
theorem d143_6 : decode (am_code 143) 6 = .ok (.getfield 19, 3) := by decide +kernel
theorem d143_9 : decode (am_code 143) 9 = .ok (.iload_n 1, 1) := by decide +kernel
theorem d143_10 : decode (am_code 143) 10 = .ok (.bipush 6, 2) := by decide +kernel
theorem d143_12 : decode (am_code 143) 12 = .ok (.irem, 1) := by decide +kernel
theorem d143_13 : decode (am_code 143) 13 = .ok (.iaload, 1) := by decide +kernel
theorem d143_14 : decode (am_code 143) 14 = .ok (.istore_n 3, 1) := by decide +kernel
theorem d143_15 : decode (am_code 143) 15 = .ok (.aload_n 0, 1) := by decide +kernel
theorem d143_16 : decode (am_code 143) 16 = .ok (.getfield 22, 3) := by decide +kernel
theorem d143_19 : decode (am_code 143) 19 = .ok (.iload_n 1, 1) := by decide +kernel
theorem d143_20 : decode (am_code 143) 20 = .ok (.bipush 6, 2) := by decide +kernel
theorem d143_22 : decode (am_code 143) 22 = .ok (.irem, 1) := by decide +kernel
theorem d143_23 : decode (am_code 143) 23 = .ok (.iaload, 1) := by decide +kernel
theorem d143_24 : decode (am_code 143) 24 = .ok (.istore 4, 2) := by decide +kernel
theorem d143_26 : decode (am_code 143) 26 = .ok (.iconst 0, 1) := by decide +kernel
theorem d143_27 : decode (am_code 143) 27 = .ok (.istore 5, 2) := by decide +kernel
theorem d143_29 : decode (am_code 143) 29 = .ok (.iload 5, 2) := by decide +kernel
theorem d143_31 : decode (am_code 143) 31 = .ok (.iload_n 3, 1) := by decide +kernel
theorem d143_32 : decode (am_code 143) 32 = .ok (.if_icmp .eq 10, 3) := by decide +kernel
theorem d143_35 : decode (am_code 143) 35 = .ok (.iload 5, 2) := by decide +kernel
theorem d143_37 : decode (am_code 143) 37 = .ok (.iload 4, 2) := by decide +kernel
theorem d143_39 : decode (am_code 143) 39 = .ok (.if_icmp .ne 9, 3) := by decide +kernel
theorem d143_42 : decode (am_code 143) 42 = .ok (.iinc 5 1, 3) := by decide +kernel
theorem d143_45 : decode (am_code 143) 45 = .ok (.goto (-16), 3) := by decide +kernel
theorem d143_48 : decode (am_code 143) 48 = .ok (.bipush 16, 2) := by decide +kernel
theorem d143_50 : decode (am_code 143) 50 = .ok (.iload_n 2, 1) := by decide +kernel
theorem d143_51 : decode (am_code 143) 51 = .ok (.imul, 1) := by decide +kernel
theorem d143_52 : decode (am_code 143) 52 = .ok (.iconst 4, 1) := by decide +kernel
theorem d143_53 : decode (am_code 143) 53 = .ok (.iload_n 3, 1) := by decide +kernel
theorem d143_54 : decode (am_code 143) 54 = .ok (.imul, 1) := by decide +kernel
theorem d143_55 : decode (am_code 143) 55 = .ok (.iadd, 1) := by decide +kernel
theorem d143_56 : decode (am_code 143) 56 = .ok (.iload 4, 2) := by decide +kernel
theorem d143_58 : decode (am_code 143) 58 = .ok (.iadd, 1) := by decide +kernel
theorem d143_59 : decode (am_code 143) 59 = .ok (.istore 6, 2) := by decide +kernel
theorem d143_61 : decode (am_code 143) 61 = .ok (.iload 5, 2) := by decide +kernel
theorem d143_63 : decode (am_code 143) 63 = .ok (.istore 7, 2) := by decide +kernel
theorem d143_65 : decode (am_code 143) 65 = .ok (.iconst 0, 1) := by decide +kernel
theorem d143_66 : decode (am_code 143) 66 = .ok (.istore 8, 2) := by decide +kernel
theorem d143_68 : decode (am_code 143) 68 = .ok (.iload 8, 2) := by decide +kernel
theorem d143_70 : decode (am_code 143) 70 = .ok (.aload_n 0, 1) := by decide +kernel
theorem d143_71 : decode (am_code 143) 71 = .ok (.getfield 159, 3) := by decide +kernel
theorem d143_74 : decode (am_code 143) 74 = .ok (.if_icmp .ge 25, 3) := by decide +kernel
theorem d143_77 : decode (am_code 143) 77 = .ok (.aload_n 0, 1) := by decide +kernel
theorem d143_78 : decode (am_code 143) 78 = .ok (.getfield 34, 3) := by decide +kernel
theorem d143_81 : decode (am_code 143) 81 = .ok (.bipush 6, 2) := by decide +kernel
theorem d143_83 : decode (am_code 143) 83 = .ok (.aload_n 0, 1) := by decide +kernel
theorem d143_84 : decode (am_code 143) 84 = .ok (.getfield 162, 3) := by decide +kernel
theorem d143_87 : decode (am_code 143) 87 = .ok (.imul, 1) := by decide +kernel
theorem d143_88 : decode (am_code 143) 88 = .ok (.iload 8, 2) := by decide +kernel
theorem d143_90 : decode (am_code 143) 90 = .ok (.iadd, 1) := by decide +kernel
theorem d143_91 : decode (am_code 143) 91 = .ok (.lconst 0, 1) := by decide +kernel
theorem d143_92 : decode (am_code 143) 92 = .ok (.lastore, 1) := by decide +kernel
theorem d143_93 : decode (am_code 143) 93 = .ok (.iinc 8 1, 3) := by decide +kernel
theorem d143_96 : decode (am_code 143) 96 = .ok (.goto (-28), 3) := by decide +kernel
theorem d143_99 : decode (am_code 143) 99 = .ok (.iconst 1, 1) := by decide +kernel
theorem d143_100 : decode (am_code 143) 100 = .ok (.istore 8, 2) := by decide +kernel
theorem d143_102 : decode (am_code 143) 102 = .ok (.iload 8, 2) := by decide +kernel
theorem d143_104 : decode (am_code 143) 104 = .ok (.ifCond .eq 171, 3) := by decide +kernel
theorem d143_107 : decode (am_code 143) 107 = .ok (.iconst 4, 1) := by decide +kernel
theorem d143_108 : decode (am_code 143) 108 = .ok (.iload_n 2, 1) := by decide +kernel
theorem d143_109 : decode (am_code 143) 109 = .ok (.imul, 1) := by decide +kernel
theorem d143_110 : decode (am_code 143) 110 = .ok (.iload 5, 2) := by decide +kernel
theorem d143_112 : decode (am_code 143) 112 = .ok (.iadd, 1) := by decide +kernel
theorem d143_113 : decode (am_code 143) 113 = .ok (.istore 9, 2) := by decide +kernel
theorem d143_115 : decode (am_code 143) 115 = .ok (.aload_n 0, 1) := by decide +kernel
theorem d143_116 : decode (am_code 143) 116 = .ok (.getfield 7, 3) := by decide +kernel
theorem d143_119 : decode (am_code 143) 119 = .ok (.iload 9, 2) := by decide +kernel
theorem d143_121 : decode (am_code 143) 121 = .ok (.iaload, 1) := by decide +kernel
theorem d143_122 : decode (am_code 143) 122 = .ok (.iconst (-1), 1) := by decide +kernel
theorem d143_123 : decode (am_code 143) 123 = .ok (.if_icmp .ne 5, 3) := by decide +kernel
theorem d143_126 : decode (am_code 143) 126 = .ok (.iconst 0, 1) := by decide +kernel
theorem d143_127 : decode (am_code 143) 127 = .ok (.ireturn, 1) := by decide +kernel
theorem d143_128 : decode (am_code 143) 128 = .ok (.aload_n 0, 1) := by decide +kernel
theorem d143_129 : decode (am_code 143) 129 = .ok (.getfield 34, 3) := by decide +kernel
theorem d143_132 : decode (am_code 143) 132 = .ok (.bipush 6, 2) := by decide +kernel
theorem d143_134 : decode (am_code 143) 134 = .ok (.aload_n 0, 1) := by decide +kernel
theorem d143_135 : decode (am_code 143) 135 = .ok (.getfield 162, 3) := by decide +kernel
theorem d143_138 : decode (am_code 143) 138 = .ok (.imul, 1) := by decide +kernel
theorem d143_139 : decode (am_code 143) 139 = .ok (.aload_n 0, 1) := by decide +kernel
theorem d143_140 : decode (am_code 143) 140 = .ok (.getfield 38, 3) := by decide +kernel
theorem d143_143 : decode (am_code 143) 143 = .ok (.iload 9, 2) := by decide +kernel
theorem d143_145 : decode (am_code 143) 145 = .ok (.iaload, 1) := by decide +kernel
theorem d143_146 : decode (am_code 143) 146 = .ok (.iadd, 1) := by decide +kernel
theorem d143_147 : decode (am_code 143) 147 = .ok (.dup2, 1) := by decide +kernel
theorem d143_148 : decode (am_code 143) 148 = .ok (.laload, 1) := by decide +kernel
theorem d143_149 : decode (am_code 143) 149 = .ok (.iload 9, 2) := by decide +kernel
theorem d143_151 : decode (am_code 143) 151 = .ok (.aload_n 0, 1) := by decide +kernel
theorem d143_152 : decode (am_code 143) 152 = .ok (.getfield 7, 3) := by decide +kernel
theorem d143_155 : decode (am_code 143) 155 = .ok (.iload 9, 2) := by decide +kernel
theorem d143_157 : decode (am_code 143) 157 = .ok (.iaload, 1) := by decide +kernel
theorem d143_158 : decode (am_code 143) 158 = .ok (.if_icmp .ge 7, 3) := by decide +kernel
theorem d143_161 : decode (am_code 143) 161 = .ok (.lconst 1, 1) := by decide +kernel
theorem d143_162 : decode (am_code 143) 162 = .ok (.goto 6, 3) := by decide +kernel
theorem d143_165 : decode (am_code 143) 165 = .ok (.ldc2_w 165, 3) := by decide +kernel
theorem d143_168 : decode (am_code 143) 168 = .ok (.ladd, 1) := by decide +kernel
theorem d143_169 : decode (am_code 143) 169 = .ok (.lastore, 1) := by decide +kernel
theorem d143_170 : decode (am_code 143) 170 = .ok (.aload_n 0, 1) := by decide +kernel
theorem d143_171 : decode (am_code 143) 171 = .ok (.getfield 7, 3) := by decide +kernel
theorem d143_174 : decode (am_code 143) 174 = .ok (.iload 9, 2) := by decide +kernel
theorem d143_176 : decode (am_code 143) 176 = .ok (.iaload, 1) := by decide +kernel
theorem d143_177 : decode (am_code 143) 177 = .ok (.iconst 4, 1) := by decide +kernel
theorem d143_178 : decode (am_code 143) 178 = .ok (.idiv, 1) := by decide +kernel
theorem d143_179 : decode (am_code 143) 179 = .ok (.istore 10, 2) := by decide +kernel
theorem d143_181 : decode (am_code 143) 181 = .ok (.aload_n 0, 1) := by decide +kernel
theorem d143_182 : decode (am_code 143) 182 = .ok (.getfield 7, 3) := by decide +kernel
theorem d143_185 : decode (am_code 143) 185 = .ok (.iload 9, 2) := by decide +kernel
theorem d143_187 : decode (am_code 143) 187 = .ok (.iaload, 1) := by decide +kernel
theorem d143_188 : decode (am_code 143) 188 = .ok (.iconst 4, 1) := by decide +kernel
theorem d143_189 : decode (am_code 143) 189 = .ok (.irem, 1) := by decide +kernel
theorem d143_190 : decode (am_code 143) 190 = .ok (.istore 11, 2) := by decide +kernel
theorem d143_192 : decode (am_code 143) 192 = .ok (.aload_n 0, 1) := by decide +kernel
theorem d143_193 : decode (am_code 143) 193 = .ok (.getfield 13, 3) := by decide +kernel
theorem d143_196 : decode (am_code 143) 196 = .ok (.iconst 4, 1) := by decide +kernel
theorem d143_197 : decode (am_code 143) 197 = .ok (.iload 9, 2) := by decide +kernel
theorem d143_199 : decode (am_code 143) 199 = .ok (.imul, 1) := by decide +kernel
theorem d143_200 : decode (am_code 143) 200 = .ok (.iload_n 3, 1) := by decide +kernel
theorem d143_201 : decode (am_code 143) 201 = .ok (.iadd, 1) := by decide +kernel
theorem d143_202 : decode (am_code 143) 202 = .ok (.iaload, 1) := by decide +kernel
theorem d143_203 : decode (am_code 143) 203 = .ok (.istore 12, 2) := by decide +kernel
theorem d143_205 : decode (am_code 143) 205 = .ok (.aload_n 0, 1) := by decide +kernel
theorem d143_206 : decode (am_code 143) 206 = .ok (.getfield 13, 3) := by decide +kernel
theorem d143_209 : decode (am_code 143) 209 = .ok (.iconst 4, 1) := by decide +kernel
theorem d143_210 : decode (am_code 143) 210 = .ok (.iload 9, 2) := by decide +kernel
theorem d143_212 : decode (am_code 143) 212 = .ok (.imul, 1) := by decide +kernel
theorem d143_213 : decode (am_code 143) 213 = .ok (.iload 4, 2) := by decide +kernel
theorem d143_215 : decode (am_code 143) 215 = .ok (.iadd, 1) := by decide +kernel
theorem d143_216 : decode (am_code 143) 216 = .ok (.iaload, 1) := by decide +kernel
theorem d143_217 : decode (am_code 143) 217 = .ok (.istore 13, 2) := by decide +kernel
theorem d143_219 : decode (am_code 143) 219 = .ok (.bipush 6, 2) := by decide +kernel
theorem d143_221 : decode (am_code 143) 221 = .ok (.iload 12, 2) := by decide +kernel
theorem d143_223 : decode (am_code 143) 223 = .ok (.isub, 1) := by decide +kernel
theorem d143_224 : decode (am_code 143) 224 = .ok (.iload 13, 2) := by decide +kernel
theorem d143_226 : decode (am_code 143) 226 = .ok (.isub, 1) := by decide +kernel
theorem d143_227 : decode (am_code 143) 227 = .ok (.iload 11, 2) := by decide +kernel
theorem d143_229 : decode (am_code 143) 229 = .ok (.isub, 1) := by decide +kernel
theorem d143_230 : decode (am_code 143) 230 = .ok (.istore 5, 2) := by decide +kernel
theorem d143_232 : decode (am_code 143) 232 = .ok (.iload 10, 2) := by decide +kernel
theorem d143_234 : decode (am_code 143) 234 = .ok (.istore_n 2, 1) := by decide +kernel
theorem d143_235 : decode (am_code 143) 235 = .ok (.iload 12, 2) := by decide +kernel
theorem d143_237 : decode (am_code 143) 237 = .ok (.istore_n 3, 1) := by decide +kernel
theorem d143_238 : decode (am_code 143) 238 = .ok (.iload 13, 2) := by decide +kernel
theorem d143_240 : decode (am_code 143) 240 = .ok (.istore 4, 2) := by decide +kernel
theorem d143_242 : decode (am_code 143) 242 = .ok (.bipush 16, 2) := by decide +kernel
theorem d143_244 : decode (am_code 143) 244 = .ok (.iload_n 2, 1) := by decide +kernel
theorem d143_245 : decode (am_code 143) 245 = .ok (.imul, 1) := by decide +kernel
theorem d143_246 : decode (am_code 143) 246 = .ok (.iconst 4, 1) := by decide +kernel
theorem d143_247 : decode (am_code 143) 247 = .ok (.iload_n 3, 1) := by decide +kernel
theorem d143_248 : decode (am_code 143) 248 = .ok (.imul, 1) := by decide +kernel
theorem d143_249 : decode (am_code 143) 249 = .ok (.iadd, 1) := by decide +kernel
theorem d143_250 : decode (am_code 143) 250 = .ok (.iload 4, 2) := by decide +kernel
theorem d143_252 : decode (am_code 143) 252 = .ok (.iadd, 1) := by decide +kernel
theorem d143_253 : decode (am_code 143) 253 = .ok (.iload 6, 2) := by decide +kernel
theorem d143_255 : decode (am_code 143) 255 = .ok (.if_icmp .ne 10, 3) := by decide +kernel
theorem d143_258 : decode (am_code 143) 258 = .ok (.iload 5, 2) := by decide +kernel
theorem d143_260 : decode (am_code 143) 260 = .ok (.iload 7, 2) := by decide +kernel
theorem d143_262 : decode (am_code 143) 262 = .ok (.if_icmp .eq 7, 3) := by decide +kernel
theorem d143_265 : decode (am_code 143) 265 = .ok (.iconst 1, 1) := by decide +kernel
theorem d143_266 : decode (am_code 143) 266 = .ok (.goto 4, 3) := by decide +kernel
theorem d143_269 : decode (am_code 143) 269 = .ok (.iconst 0, 1) := by decide +kernel
theorem d143_270 : decode (am_code 143) 270 = .ok (.istore 8, 2) := by decide +kernel
theorem d143_272 : decode (am_code 143) 272 = .ok (.goto (-170), 3) := by decide +kernel
theorem d143_275 : decode (am_code 143) 275 = .ok (.iconst 1, 1) := by decide +kernel
theorem d143_276 : decode (am_code 143) 276 = .ok (.ireturn, 1) := by decide +kernel
theorem f143_19 : am_find am_ftL (am_mc 143) 19 = some (7, 4) := by decide +kernel
theorem f143_22 : am_find am_ftL (am_mc 143) 22 = some (7, 5) := by decide +kernel
theorem f143_159 : am_find am_ftL (am_mc 143) 159 = some (7, 12) := by decide +kernel
theorem f143_34 : am_find am_ftL (am_mc 143) 34 = some (7, 10) := by decide +kernel
theorem f143_162 : am_find am_ftL (am_mc 143) 162 = some (7, 11) := by decide +kernel
theorem f143_7 : am_find am_ftL (am_mc 143) 7 = some (7, 1) := by decide +kernel
theorem f143_38 : am_find am_ftL (am_mc 143) 38 = some (7, 13) := by decide +kernel
theorem f143_13 : am_find am_ftL (am_mc 143) 13 = some (7, 2) := by decide +kernel
theorem l143 : am_maxL 143 = 14 := by decide +kernel
theorem t143 : am_ret 143 = (some .boolean) := by decide +kernel
/-! ThirdSheetsModel.layLoops()V is 144 -/
theorem d144_0 : decode (am_code 144) 0 = .ok (.aload_n 0, 1) := by decide +kernel
theorem d144_1 : decode (am_code 144) 1 = .ok (.invokevirtual 167, 3) := by decide +kernel
theorem d144_4 : decode (am_code 144) 4 = .ok (.aload_n 0, 1) := by decide +kernel
theorem d144_5 : decode (am_code 144) 5 = .ok (.iconst 0, 1) := by decide +kernel
theorem d144_6 : decode (am_code 144) 6 = .ok (.putfield 162, 3) := by decide +kernel
theorem d144_9 : decode (am_code 144) 9 = .ok (.iconst 0, 1) := by decide +kernel
theorem d144_10 : decode (am_code 144) 10 = .ok (.istore_n 1, 1) := by decide +kernel
theorem d144_11 : decode (am_code 144) 11 = .ok (.iload_n 1, 1) := by decide +kernel
theorem d144_12 : decode (am_code 144) 12 = .ok (.bipush 6, 2) := by decide +kernel
theorem d144_14 : decode (am_code 144) 14 = .ok (.aload_n 0, 1) := by decide +kernel
theorem d144_15 : decode (am_code 144) 15 = .ok (.getfield 67, 3) := by decide +kernel
theorem d144_18 : decode (am_code 144) 18 = .ok (.imul, 1) := by decide +kernel
theorem d144_19 : decode (am_code 144) 19 = .ok (.if_icmp .ge 35, 3) := by decide +kernel
theorem d144_22 : decode (am_code 144) 22 = .ok (.aload_n 0, 1) := by decide +kernel
theorem d144_23 : decode (am_code 144) 23 = .ok (.iload_n 1, 1) := by decide +kernel
theorem d144_24 : decode (am_code 144) 24 = .ok (.invokevirtual 105, 3) := by decide +kernel
theorem d144_27 : decode (am_code 144) 27 = .ok (.ifCond .eq 21, 3) := by decide +kernel
theorem d144_30 : decode (am_code 144) 30 = .ok (.aload_n 0, 1) := by decide +kernel
theorem d144_31 : decode (am_code 144) 31 = .ok (.iload_n 1, 1) := by decide +kernel
theorem d144_32 : decode (am_code 144) 32 = .ok (.invokevirtual 170, 3) := by decide +kernel
theorem d144_35 : decode (am_code 144) 35 = .ok (.ifCond .eq 13, 3) := by decide +kernel
theorem d144_38 : decode (am_code 144) 38 = .ok (.aload_n 0, 1) := by decide +kernel
theorem d144_39 : decode (am_code 144) 39 = .ok (.dup, 1) := by decide +kernel
theorem d144_40 : decode (am_code 144) 40 = .ok (.getfield 162, 3) := by decide +kernel
theorem d144_43 : decode (am_code 144) 43 = .ok (.iconst 1, 1) := by decide +kernel
theorem d144_44 : decode (am_code 144) 44 = .ok (.iadd, 1) := by decide +kernel
theorem d144_45 : decode (am_code 144) 45 = .ok (.putfield 162, 3) := by decide +kernel
theorem d144_48 : decode (am_code 144) 48 = .ok (.iinc 1 1, 3) := by decide +kernel
theorem d144_51 : decode (am_code 144) 51 = .ok (.goto (-40), 3) := by decide +kernel
theorem d144_54 : decode (am_code 144) 54 = .ok (.return_, 1) := by decide +kernel
theorem f144_162 : am_find am_ftL (am_mc 144) 162 = some (7, 11) := by decide +kernel
theorem f144_67 : am_find am_ftL (am_mc 144) 67 = some (7, 0) := by decide +kernel
theorem c144_167 : am_find am_ctL (am_mc 144) 167 = some (0, 142) ∧ am_na 142 = 0 ∧ am_fr 142 + 1 ≤ am_fr 144 ∧ 8 + (am_maxL 142 + 11) + am_lo 142 ≤ am_lo 144 := by decide +kernel
theorem c144_105 : am_find am_ctL (am_mc 144) 105 = some (0, 119) ∧ am_na 119 = 1 ∧ am_fr 119 + 1 ≤ am_fr 144 ∧ 8 + (am_maxL 119 + 11) + am_lo 119 ≤ am_lo 144 := by decide +kernel
theorem c144_170 : am_find am_ctL (am_mc 144) 170 = some (0, 143) ∧ am_na 143 = 1 ∧ am_fr 143 + 1 ≤ am_fr 144 ∧ 8 + (am_maxL 143 + 11) + am_lo 143 ≤ am_lo 144 := by decide +kernel
theorem l144 : am_maxL 144 = 2 := by decide +kernel
theorem t144 : am_ret 144 = none := by decide +kernel
/-! ThirdSheetsModel.cell(II)J is 145 -/
theorem d145_0 : decode (am_code 145) 0 = .ok (.aload_n 0, 1) := by decide +kernel
theorem d145_1 : decode (am_code 145) 1 = .ok (.getfield 34, 3) := by decide +kernel
theorem d145_4 : decode (am_code 145) 4 = .ok (.bipush 6, 2) := by decide +kernel
theorem d145_6 : decode (am_code 145) 6 = .ok (.iload_n 1, 1) := by decide +kernel
theorem d145_7 : decode (am_code 145) 7 = .ok (.imul, 1) := by decide +kernel
theorem d145_8 : decode (am_code 145) 8 = .ok (.iload_n 2, 1) := by decide +kernel
theorem d145_9 : decode (am_code 145) 9 = .ok (.iadd, 1) := by decide +kernel
theorem d145_10 : decode (am_code 145) 10 = .ok (.laload, 1) := by decide +kernel
theorem d145_11 : decode (am_code 145) 11 = .ok (.lreturn, 1) := by decide +kernel
theorem f145_34 : am_find am_ftL (am_mc 145) 34 = some (7, 10) := by decide +kernel
theorem l145 : am_maxL 145 = 3 := by decide +kernel
theorem t145 : am_ret 145 = (some .long) := by decide +kernel
/-! ThirdSheetsModel.bring(I)Z is 146 -/
theorem d146_0 : decode (am_code 146) 0 = .ok (.iconst (-1), 1) := by decide +kernel
theorem d146_1 : decode (am_code 146) 1 = .ok (.istore_n 2, 1) := by decide +kernel
theorem d146_2 : decode (am_code 146) 2 = .ok (.iconst (-1), 1) := by decide +kernel
theorem d146_3 : decode (am_code 146) 3 = .ok (.istore_n 3, 1) := by decide +kernel
theorem d146_4 : decode (am_code 146) 4 = .ok (.lconst 0, 1) := by decide +kernel
theorem d146_5 : decode (am_code 146) 5 = .ok (.lstore 4, 2) := by decide +kernel
theorem d146_7 : decode (am_code 146) 7 = .ok (.iload_n 1, 1) := by decide +kernel
theorem d146_8 : decode (am_code 146) 8 = .ok (.istore 6, 2) := by decide +kernel
theorem d146_10 : decode (am_code 146) 10 = .ok (.iload 6, 2) := by decide +kernel
theorem d146_12 : decode (am_code 146) 12 = .ok (.aload_n 0, 1) := by decide +kernel
theorem d146_13 : decode (am_code 146) 13 = .ok (.getfield 162, 3) := by decide +kernel
theorem d146_16 : decode (am_code 146) 16 = .ok (.if_icmp .ge 92, 3) := by decide +kernel
theorem d146_19 : decode (am_code 146) 19 = .ok (.iload_n 1, 1) := by decide +kernel
theorem d146_20 : decode (am_code 146) 20 = .ok (.istore 7, 2) := by decide +kernel
theorem d146_22 : decode (am_code 146) 22 = .ok (.iload 7, 2) := by decide +kernel
theorem d146_24 : decode (am_code 146) 24 = .ok (.aload_n 0, 1) := by decide +kernel
theorem d146_25 : decode (am_code 146) 25 = .ok (.getfield 159, 3) := by decide +kernel
theorem d146_28 : decode (am_code 146) 28 = .ok (.if_icmp .ge 74, 3) := by decide +kernel
theorem d146_31 : decode (am_code 146) 31 = .ok (.aload_n 0, 1) := by decide +kernel
theorem d146_32 : decode (am_code 146) 32 = .ok (.iload 6, 2) := by decide +kernel
theorem d146_34 : decode (am_code 146) 34 = .ok (.iload 7, 2) := by decide +kernel
theorem d146_36 : decode (am_code 146) 36 = .ok (.invokevirtual 173, 3) := by decide +kernel
theorem d146_39 : decode (am_code 146) 39 = .ok (.lconst 0, 1) := by decide +kernel
theorem d146_40 : decode (am_code 146) 40 = .ok (.lcmp, 1) := by decide +kernel
theorem d146_41 : decode (am_code 146) 41 = .ok (.ifCond .ge 15, 3) := by decide +kernel
theorem d146_44 : decode (am_code 146) 44 = .ok (.aload_n 0, 1) := by decide +kernel
theorem d146_45 : decode (am_code 146) 45 = .ok (.iload 6, 2) := by decide +kernel
theorem d146_47 : decode (am_code 146) 47 = .ok (.iload 7, 2) := by decide +kernel
theorem d146_49 : decode (am_code 146) 49 = .ok (.invokevirtual 173, 3) := by decide +kernel
theorem d146_52 : decode (am_code 146) 52 = .ok (.lneg, 1) := by decide +kernel
theorem d146_53 : decode (am_code 146) 53 = .ok (.goto 11, 3) := by decide +kernel
theorem d146_56 : decode (am_code 146) 56 = .ok (.aload_n 0, 1) := by decide +kernel
theorem d146_57 : decode (am_code 146) 57 = .ok (.iload 6, 2) := by decide +kernel
theorem d146_59 : decode (am_code 146) 59 = .ok (.iload 7, 2) := by decide +kernel
theorem d146_61 : decode (am_code 146) 61 = .ok (.invokevirtual 173, 3) := by decide +kernel
theorem d146_64 : decode (am_code 146) 64 = .ok (.lstore 8, 2) := by decide +kernel
theorem d146_66 : decode (am_code 146) 66 = .ok (.lload 8, 2) := by decide +kernel
theorem d146_68 : decode (am_code 146) 68 = .ok (.lconst 0, 1) := by decide +kernel
theorem d146_69 : decode (am_code 146) 69 = .ok (.lcmp, 1) := by decide +kernel
theorem d146_70 : decode (am_code 146) 70 = .ok (.ifCond .le 26, 3) := by decide +kernel
theorem d146_73 : decode (am_code 146) 73 = .ok (.iload_n 2, 1) := by decide +kernel
theorem d146_74 : decode (am_code 146) 74 = .ok (.iconst (-1), 1) := by decide +kernel
theorem d146_75 : decode (am_code 146) 75 = .ok (.if_icmp .eq 11, 3) := by decide +kernel
theorem d146_78 : decode (am_code 146) 78 = .ok (.lload 8, 2) := by decide +kernel
theorem d146_80 : decode (am_code 146) 80 = .ok (.lload 4, 2) := by decide +kernel
theorem d146_82 : decode (am_code 146) 82 = .ok (.lcmp, 1) := by decide +kernel
theorem d146_83 : decode (am_code 146) 83 = .ok (.ifCond .ge 13, 3) := by decide +kernel
theorem d146_86 : decode (am_code 146) 86 = .ok (.iload 6, 2) := by decide +kernel
theorem d146_88 : decode (am_code 146) 88 = .ok (.istore_n 2, 1) := by decide +kernel
theorem d146_89 : decode (am_code 146) 89 = .ok (.iload 7, 2) := by decide +kernel
theorem d146_91 : decode (am_code 146) 91 = .ok (.istore_n 3, 1) := by decide +kernel
theorem d146_92 : decode (am_code 146) 92 = .ok (.lload 8, 2) := by decide +kernel
theorem d146_94 : decode (am_code 146) 94 = .ok (.lstore 4, 2) := by decide +kernel
theorem d146_96 : decode (am_code 146) 96 = .ok (.iinc 7 1, 3) := by decide +kernel
theorem d146_99 : decode (am_code 146) 99 = .ok (.goto (-77), 3) := by decide +kernel
theorem d146_102 : decode (am_code 146) 102 = .ok (.iinc 6 1, 3) := by decide +kernel
theorem d146_105 : decode (am_code 146) 105 = .ok (.goto (-95), 3) := by decide +kernel
theorem d146_108 : decode (am_code 146) 108 = .ok (.iconst 0, 1) := by decide +kernel
theorem d146_109 : decode (am_code 146) 109 = .ok (.istore 6, 2) := by decide +kernel
theorem d146_111 : decode (am_code 146) 111 = .ok (.iload 6, 2) := by decide +kernel
theorem d146_113 : decode (am_code 146) 113 = .ok (.aload_n 0, 1) := by decide +kernel
theorem d146_114 : decode (am_code 146) 114 = .ok (.getfield 159, 3) := by decide +kernel
theorem d146_117 : decode (am_code 146) 117 = .ok (.if_icmp .ge 56, 3) := by decide +kernel
theorem d146_120 : decode (am_code 146) 120 = .ok (.iload_n 2, 1) := by decide +kernel
theorem d146_121 : decode (am_code 146) 121 = .ok (.iconst (-1), 1) := by decide +kernel
theorem d146_122 : decode (am_code 146) 122 = .ok (.if_icmp .eq 51, 3) := by decide +kernel
theorem d146_125 : decode (am_code 146) 125 = .ok (.aload_n 0, 1) := by decide +kernel
theorem d146_126 : decode (am_code 146) 126 = .ok (.iload_n 2, 1) := by decide +kernel
theorem d146_127 : decode (am_code 146) 127 = .ok (.iload 6, 2) := by decide +kernel
theorem d146_129 : decode (am_code 146) 129 = .ok (.invokevirtual 173, 3) := by decide +kernel
theorem d146_132 : decode (am_code 146) 132 = .ok (.lstore 7, 2) := by decide +kernel
theorem d146_134 : decode (am_code 146) 134 = .ok (.aload_n 0, 1) := by decide +kernel
theorem d146_135 : decode (am_code 146) 135 = .ok (.getfield 34, 3) := by decide +kernel
theorem d146_138 : decode (am_code 146) 138 = .ok (.bipush 6, 2) := by decide +kernel
theorem d146_140 : decode (am_code 146) 140 = .ok (.iload_n 2, 1) := by decide +kernel
theorem d146_141 : decode (am_code 146) 141 = .ok (.imul, 1) := by decide +kernel
theorem d146_142 : decode (am_code 146) 142 = .ok (.iload 6, 2) := by decide +kernel
theorem d146_144 : decode (am_code 146) 144 = .ok (.iadd, 1) := by decide +kernel
theorem d146_145 : decode (am_code 146) 145 = .ok (.aload_n 0, 1) := by decide +kernel
theorem d146_146 : decode (am_code 146) 146 = .ok (.iload_n 1, 1) := by decide +kernel
theorem d146_147 : decode (am_code 146) 147 = .ok (.iload 6, 2) := by decide +kernel
theorem d146_149 : decode (am_code 146) 149 = .ok (.invokevirtual 173, 3) := by decide +kernel
theorem d146_152 : decode (am_code 146) 152 = .ok (.lastore, 1) := by decide +kernel
theorem d146_153 : decode (am_code 146) 153 = .ok (.aload_n 0, 1) := by decide +kernel
theorem d146_154 : decode (am_code 146) 154 = .ok (.getfield 34, 3) := by decide +kernel
theorem d146_157 : decode (am_code 146) 157 = .ok (.bipush 6, 2) := by decide +kernel
theorem d146_159 : decode (am_code 146) 159 = .ok (.iload_n 1, 1) := by decide +kernel
theorem d146_160 : decode (am_code 146) 160 = .ok (.imul, 1) := by decide +kernel
theorem d146_161 : decode (am_code 146) 161 = .ok (.iload 6, 2) := by decide +kernel
theorem d146_163 : decode (am_code 146) 163 = .ok (.iadd, 1) := by decide +kernel
theorem d146_164 : decode (am_code 146) 164 = .ok (.lload 7, 2) := by decide +kernel
theorem d146_166 : decode (am_code 146) 166 = .ok (.lastore, 1) := by decide +kernel
theorem d146_167 : decode (am_code 146) 167 = .ok (.iinc 6 1, 3) := by decide +kernel
theorem d146_170 : decode (am_code 146) 170 = .ok (.goto (-59), 3) := by decide +kernel
theorem d146_173 : decode (am_code 146) 173 = .ok (.iconst 0, 1) := by decide +kernel
theorem d146_174 : decode (am_code 146) 174 = .ok (.istore 6, 2) := by decide +kernel
theorem d146_176 : decode (am_code 146) 176 = .ok (.iload 6, 2) := by decide +kernel
theorem d146_178 : decode (am_code 146) 178 = .ok (.aload_n 0, 1) := by decide +kernel
theorem d146_179 : decode (am_code 146) 179 = .ok (.getfield 162, 3) := by decide +kernel
theorem d146_182 : decode (am_code 146) 182 = .ok (.if_icmp .ge 56, 3) := by decide +kernel
theorem d146_185 : decode (am_code 146) 185 = .ok (.iload_n 2, 1) := by decide +kernel
theorem d146_186 : decode (am_code 146) 186 = .ok (.iconst (-1), 1) := by decide +kernel
theorem d146_187 : decode (am_code 146) 187 = .ok (.if_icmp .eq 51, 3) := by decide +kernel
theorem d146_190 : decode (am_code 146) 190 = .ok (.aload_n 0, 1) := by decide +kernel
theorem d146_191 : decode (am_code 146) 191 = .ok (.iload 6, 2) := by decide +kernel
theorem d146_193 : decode (am_code 146) 193 = .ok (.iload_n 3, 1) := by decide +kernel
theorem d146_194 : decode (am_code 146) 194 = .ok (.invokevirtual 173, 3) := by decide +kernel
theorem d146_197 : decode (am_code 146) 197 = .ok (.lstore 7, 2) := by decide +kernel
theorem d146_199 : decode (am_code 146) 199 = .ok (.aload_n 0, 1) := by decide +kernel
theorem d146_200 : decode (am_code 146) 200 = .ok (.getfield 34, 3) := by decide +kernel
theorem d146_203 : decode (am_code 146) 203 = .ok (.bipush 6, 2) := by decide +kernel
theorem d146_205 : decode (am_code 146) 205 = .ok (.iload 6, 2) := by decide +kernel
theorem d146_207 : decode (am_code 146) 207 = .ok (.imul, 1) := by decide +kernel
theorem d146_208 : decode (am_code 146) 208 = .ok (.iload_n 3, 1) := by decide +kernel
theorem d146_209 : decode (am_code 146) 209 = .ok (.iadd, 1) := by decide +kernel
theorem d146_210 : decode (am_code 146) 210 = .ok (.aload_n 0, 1) := by decide +kernel
theorem d146_211 : decode (am_code 146) 211 = .ok (.iload 6, 2) := by decide +kernel
theorem d146_213 : decode (am_code 146) 213 = .ok (.iload_n 1, 1) := by decide +kernel
theorem d146_214 : decode (am_code 146) 214 = .ok (.invokevirtual 173, 3) := by decide +kernel
theorem d146_217 : decode (am_code 146) 217 = .ok (.lastore, 1) := by decide +kernel
theorem d146_218 : decode (am_code 146) 218 = .ok (.aload_n 0, 1) := by decide +kernel
theorem d146_219 : decode (am_code 146) 219 = .ok (.getfield 34, 3) := by decide +kernel
theorem d146_222 : decode (am_code 146) 222 = .ok (.bipush 6, 2) := by decide +kernel
theorem d146_224 : decode (am_code 146) 224 = .ok (.iload 6, 2) := by decide +kernel
theorem d146_226 : decode (am_code 146) 226 = .ok (.imul, 1) := by decide +kernel
theorem d146_227 : decode (am_code 146) 227 = .ok (.iload_n 1, 1) := by decide +kernel
theorem d146_228 : decode (am_code 146) 228 = .ok (.iadd, 1) := by decide +kernel
theorem d146_229 : decode (am_code 146) 229 = .ok (.lload 7, 2) := by decide +kernel
theorem d146_231 : decode (am_code 146) 231 = .ok (.lastore, 1) := by decide +kernel
theorem d146_232 : decode (am_code 146) 232 = .ok (.iinc 6 1, 3) := by decide +kernel
theorem d146_235 : decode (am_code 146) 235 = .ok (.goto (-59), 3) := by decide +kernel
theorem d146_238 : decode (am_code 146) 238 = .ok (.iload_n 2, 1) := by decide +kernel
theorem d146_239 : decode (am_code 146) 239 = .ok (.iconst (-1), 1) := by decide +kernel
theorem d146_240 : decode (am_code 146) 240 = .ok (.if_icmp .eq 7, 3) := by decide +kernel
theorem d146_243 : decode (am_code 146) 243 = .ok (.iconst 1, 1) := by decide +kernel
theorem d146_244 : decode (am_code 146) 244 = .ok (.goto 4, 3) := by decide +kernel
theorem d146_247 : decode (am_code 146) 247 = .ok (.iconst 0, 1) := by decide +kernel
theorem d146_248 : decode (am_code 146) 248 = .ok (.ireturn, 1) := by decide +kernel
theorem f146_162 : am_find am_ftL (am_mc 146) 162 = some (7, 11) := by decide +kernel
theorem f146_159 : am_find am_ftL (am_mc 146) 159 = some (7, 12) := by decide +kernel
theorem f146_34 : am_find am_ftL (am_mc 146) 34 = some (7, 10) := by decide +kernel
theorem c146_173 : am_find am_ctL (am_mc 146) 173 = some (0, 145) ∧ am_na 145 = 2 ∧ am_fr 145 + 1 ≤ am_fr 146 ∧ 8 + (am_maxL 145 + 11) + am_lo 145 ≤ am_lo 146 := by decide +kernel
theorem l146 : am_maxL 146 = 10 := by decide +kernel
theorem t146 : am_ret 146 = (some .boolean) := by decide +kernel
/-! ThirdSheetsModel.reduce(I)Z is 147 -/
theorem d147_0 : decode (am_code 147) 0 = .ok (.iconst 1, 1) := by decide +kernel
theorem d147_1 : decode (am_code 147) 1 = .ok (.istore_n 2, 1) := by decide +kernel
theorem d147_2 : decode (am_code 147) 2 = .ok (.iload_n 1, 1) := by decide +kernel
theorem d147_3 : decode (am_code 147) 3 = .ok (.iconst 1, 1) := by decide +kernel
theorem d147_4 : decode (am_code 147) 4 = .ok (.iadd, 1) := by decide +kernel
theorem d147_5 : decode (am_code 147) 5 = .ok (.istore_n 3, 1) := by decide +kernel
theorem d147_6 : decode (am_code 147) 6 = .ok (.iload_n 3, 1) := by decide +kernel
theorem d147_7 : decode (am_code 147) 7 = .ok (.aload_n 0, 1) := by decide +kernel
theorem d147_8 : decode (am_code 147) 8 = .ok (.getfield 162, 3) := by decide +kernel
theorem d147_11 : decode (am_code 147) 11 = .ok (.if_icmp .ge 88, 3) := by decide +kernel
theorem d147_14 : decode (am_code 147) 14 = .ok (.aload_n 0, 1) := by decide +kernel
theorem d147_15 : decode (am_code 147) 15 = .ok (.iload_n 3, 1) := by decide +kernel
theorem d147_16 : decode (am_code 147) 16 = .ok (.iload_n 1, 1) := by decide +kernel
theorem d147_17 : decode (am_code 147) 17 = .ok (.invokevirtual 173, 3) := by decide +kernel
theorem d147_20 : decode (am_code 147) 20 = .ok (.aload_n 0, 1) := by decide +kernel
theorem d147_21 : decode (am_code 147) 21 = .ok (.iload_n 1, 1) := by decide +kernel
theorem d147_22 : decode (am_code 147) 22 = .ok (.iload_n 1, 1) := by decide +kernel
theorem d147_23 : decode (am_code 147) 23 = .ok (.invokevirtual 173, 3) := by decide +kernel
theorem d147_26 : decode (am_code 147) 26 = .ok (.ldiv, 1) := by decide +kernel
theorem d147_27 : decode (am_code 147) 27 = .ok (.lstore 4, 2) := by decide +kernel
theorem d147_29 : decode (am_code 147) 29 = .ok (.iload_n 1, 1) := by decide +kernel
theorem d147_30 : decode (am_code 147) 30 = .ok (.istore 6, 2) := by decide +kernel
theorem d147_32 : decode (am_code 147) 32 = .ok (.iload 6, 2) := by decide +kernel
theorem d147_34 : decode (am_code 147) 34 = .ok (.aload_n 0, 1) := by decide +kernel
theorem d147_35 : decode (am_code 147) 35 = .ok (.getfield 159, 3) := by decide +kernel
theorem d147_38 : decode (am_code 147) 38 = .ok (.if_icmp .ge 34, 3) := by decide +kernel
theorem d147_41 : decode (am_code 147) 41 = .ok (.aload_n 0, 1) := by decide +kernel
theorem d147_42 : decode (am_code 147) 42 = .ok (.getfield 34, 3) := by decide +kernel
theorem d147_45 : decode (am_code 147) 45 = .ok (.bipush 6, 2) := by decide +kernel
theorem d147_47 : decode (am_code 147) 47 = .ok (.iload_n 3, 1) := by decide +kernel
theorem d147_48 : decode (am_code 147) 48 = .ok (.imul, 1) := by decide +kernel
theorem d147_49 : decode (am_code 147) 49 = .ok (.iload 6, 2) := by decide +kernel
theorem d147_51 : decode (am_code 147) 51 = .ok (.iadd, 1) := by decide +kernel
theorem d147_52 : decode (am_code 147) 52 = .ok (.dup2, 1) := by decide +kernel
theorem d147_53 : decode (am_code 147) 53 = .ok (.laload, 1) := by decide +kernel
theorem d147_54 : decode (am_code 147) 54 = .ok (.lload 4, 2) := by decide +kernel
theorem d147_56 : decode (am_code 147) 56 = .ok (.aload_n 0, 1) := by decide +kernel
theorem d147_57 : decode (am_code 147) 57 = .ok (.iload_n 1, 1) := by decide +kernel
theorem d147_58 : decode (am_code 147) 58 = .ok (.iload 6, 2) := by decide +kernel
theorem d147_60 : decode (am_code 147) 60 = .ok (.invokevirtual 173, 3) := by decide +kernel
theorem d147_63 : decode (am_code 147) 63 = .ok (.lmul, 1) := by decide +kernel
theorem d147_64 : decode (am_code 147) 64 = .ok (.lsub, 1) := by decide +kernel
theorem d147_65 : decode (am_code 147) 65 = .ok (.lastore, 1) := by decide +kernel
theorem d147_66 : decode (am_code 147) 66 = .ok (.iinc 6 1, 3) := by decide +kernel
theorem d147_69 : decode (am_code 147) 69 = .ok (.goto (-37), 3) := by decide +kernel
theorem d147_72 : decode (am_code 147) 72 = .ok (.iload_n 2, 1) := by decide +kernel
theorem d147_73 : decode (am_code 147) 73 = .ok (.ifCond .eq 18, 3) := by decide +kernel
theorem d147_76 : decode (am_code 147) 76 = .ok (.aload_n 0, 1) := by decide +kernel
theorem d147_77 : decode (am_code 147) 77 = .ok (.iload_n 3, 1) := by decide +kernel
theorem d147_78 : decode (am_code 147) 78 = .ok (.iload_n 1, 1) := by decide +kernel
theorem d147_79 : decode (am_code 147) 79 = .ok (.invokevirtual 173, 3) := by decide +kernel
theorem d147_82 : decode (am_code 147) 82 = .ok (.lconst 0, 1) := by decide +kernel
theorem d147_83 : decode (am_code 147) 83 = .ok (.lcmp, 1) := by decide +kernel
theorem d147_84 : decode (am_code 147) 84 = .ok (.ifCond .ne 7, 3) := by decide +kernel
theorem d147_87 : decode (am_code 147) 87 = .ok (.iconst 1, 1) := by decide +kernel
theorem d147_88 : decode (am_code 147) 88 = .ok (.goto 4, 3) := by decide +kernel
theorem d147_91 : decode (am_code 147) 91 = .ok (.iconst 0, 1) := by decide +kernel
theorem d147_92 : decode (am_code 147) 92 = .ok (.istore_n 2, 1) := by decide +kernel
theorem d147_93 : decode (am_code 147) 93 = .ok (.iinc 3 1, 3) := by decide +kernel
theorem d147_96 : decode (am_code 147) 96 = .ok (.goto (-90), 3) := by decide +kernel
theorem d147_99 : decode (am_code 147) 99 = .ok (.iload_n 1, 1) := by decide +kernel
theorem d147_100 : decode (am_code 147) 100 = .ok (.iconst 1, 1) := by decide +kernel
theorem d147_101 : decode (am_code 147) 101 = .ok (.iadd, 1) := by decide +kernel
theorem d147_102 : decode (am_code 147) 102 = .ok (.istore_n 3, 1) := by decide +kernel
theorem d147_103 : decode (am_code 147) 103 = .ok (.iload_n 3, 1) := by decide +kernel
theorem d147_104 : decode (am_code 147) 104 = .ok (.aload_n 0, 1) := by decide +kernel
theorem d147_105 : decode (am_code 147) 105 = .ok (.getfield 159, 3) := by decide +kernel
theorem d147_108 : decode (am_code 147) 108 = .ok (.if_icmp .ge 88, 3) := by decide +kernel
theorem d147_111 : decode (am_code 147) 111 = .ok (.aload_n 0, 1) := by decide +kernel
theorem d147_112 : decode (am_code 147) 112 = .ok (.iload_n 1, 1) := by decide +kernel
theorem d147_113 : decode (am_code 147) 113 = .ok (.iload_n 3, 1) := by decide +kernel
theorem d147_114 : decode (am_code 147) 114 = .ok (.invokevirtual 173, 3) := by decide +kernel
theorem d147_117 : decode (am_code 147) 117 = .ok (.aload_n 0, 1) := by decide +kernel
theorem d147_118 : decode (am_code 147) 118 = .ok (.iload_n 1, 1) := by decide +kernel
theorem d147_119 : decode (am_code 147) 119 = .ok (.iload_n 1, 1) := by decide +kernel
theorem d147_120 : decode (am_code 147) 120 = .ok (.invokevirtual 173, 3) := by decide +kernel
theorem d147_123 : decode (am_code 147) 123 = .ok (.ldiv, 1) := by decide +kernel
theorem d147_124 : decode (am_code 147) 124 = .ok (.lstore 4, 2) := by decide +kernel
theorem d147_126 : decode (am_code 147) 126 = .ok (.iload_n 1, 1) := by decide +kernel
theorem d147_127 : decode (am_code 147) 127 = .ok (.istore 6, 2) := by decide +kernel
theorem d147_129 : decode (am_code 147) 129 = .ok (.iload 6, 2) := by decide +kernel
theorem d147_131 : decode (am_code 147) 131 = .ok (.aload_n 0, 1) := by decide +kernel
theorem d147_132 : decode (am_code 147) 132 = .ok (.getfield 162, 3) := by decide +kernel
theorem d147_135 : decode (am_code 147) 135 = .ok (.if_icmp .ge 34, 3) := by decide +kernel
theorem d147_138 : decode (am_code 147) 138 = .ok (.aload_n 0, 1) := by decide +kernel
theorem d147_139 : decode (am_code 147) 139 = .ok (.getfield 34, 3) := by decide +kernel
theorem d147_142 : decode (am_code 147) 142 = .ok (.bipush 6, 2) := by decide +kernel
theorem d147_144 : decode (am_code 147) 144 = .ok (.iload 6, 2) := by decide +kernel
theorem d147_146 : decode (am_code 147) 146 = .ok (.imul, 1) := by decide +kernel
theorem d147_147 : decode (am_code 147) 147 = .ok (.iload_n 3, 1) := by decide +kernel
theorem d147_148 : decode (am_code 147) 148 = .ok (.iadd, 1) := by decide +kernel
theorem d147_149 : decode (am_code 147) 149 = .ok (.dup2, 1) := by decide +kernel
theorem d147_150 : decode (am_code 147) 150 = .ok (.laload, 1) := by decide +kernel
theorem d147_151 : decode (am_code 147) 151 = .ok (.lload 4, 2) := by decide +kernel
theorem d147_153 : decode (am_code 147) 153 = .ok (.aload_n 0, 1) := by decide +kernel
theorem d147_154 : decode (am_code 147) 154 = .ok (.iload 6, 2) := by decide +kernel
theorem d147_156 : decode (am_code 147) 156 = .ok (.iload_n 1, 1) := by decide +kernel
theorem d147_157 : decode (am_code 147) 157 = .ok (.invokevirtual 173, 3) := by decide +kernel
theorem d147_160 : decode (am_code 147) 160 = .ok (.lmul, 1) := by decide +kernel
theorem d147_161 : decode (am_code 147) 161 = .ok (.lsub, 1) := by decide +kernel
theorem d147_162 : decode (am_code 147) 162 = .ok (.lastore, 1) := by decide +kernel
theorem d147_163 : decode (am_code 147) 163 = .ok (.iinc 6 1, 3) := by decide +kernel
theorem d147_166 : decode (am_code 147) 166 = .ok (.goto (-37), 3) := by decide +kernel
theorem d147_169 : decode (am_code 147) 169 = .ok (.iload_n 2, 1) := by decide +kernel
theorem d147_170 : decode (am_code 147) 170 = .ok (.ifCond .eq 18, 3) := by decide +kernel
theorem d147_173 : decode (am_code 147) 173 = .ok (.aload_n 0, 1) := by decide +kernel
theorem d147_174 : decode (am_code 147) 174 = .ok (.iload_n 1, 1) := by decide +kernel
theorem d147_175 : decode (am_code 147) 175 = .ok (.iload_n 3, 1) := by decide +kernel
theorem d147_176 : decode (am_code 147) 176 = .ok (.invokevirtual 173, 3) := by decide +kernel
theorem d147_179 : decode (am_code 147) 179 = .ok (.lconst 0, 1) := by decide +kernel
theorem d147_180 : decode (am_code 147) 180 = .ok (.lcmp, 1) := by decide +kernel
theorem d147_181 : decode (am_code 147) 181 = .ok (.ifCond .ne 7, 3) := by decide +kernel
theorem d147_184 : decode (am_code 147) 184 = .ok (.iconst 1, 1) := by decide +kernel
theorem d147_185 : decode (am_code 147) 185 = .ok (.goto 4, 3) := by decide +kernel
theorem d147_188 : decode (am_code 147) 188 = .ok (.iconst 0, 1) := by decide +kernel
theorem d147_189 : decode (am_code 147) 189 = .ok (.istore_n 2, 1) := by decide +kernel
theorem d147_190 : decode (am_code 147) 190 = .ok (.iinc 3 1, 3) := by decide +kernel
theorem d147_193 : decode (am_code 147) 193 = .ok (.goto (-90), 3) := by decide +kernel
theorem d147_196 : decode (am_code 147) 196 = .ok (.iload_n 1, 1) := by decide +kernel
theorem d147_197 : decode (am_code 147) 197 = .ok (.iconst 1, 1) := by decide +kernel
theorem d147_198 : decode (am_code 147) 198 = .ok (.iadd, 1) := by decide +kernel
theorem d147_199 : decode (am_code 147) 199 = .ok (.istore_n 3, 1) := by decide +kernel
theorem d147_200 : decode (am_code 147) 200 = .ok (.iload_n 3, 1) := by decide +kernel
theorem d147_201 : decode (am_code 147) 201 = .ok (.aload_n 0, 1) := by decide +kernel
theorem d147_202 : decode (am_code 147) 202 = .ok (.getfield 162, 3) := by decide +kernel
theorem d147_205 : decode (am_code 147) 205 = .ok (.if_icmp .ge 98, 3) := by decide +kernel
theorem d147_208 : decode (am_code 147) 208 = .ok (.iload_n 2, 1) := by decide +kernel
theorem d147_209 : decode (am_code 147) 209 = .ok (.ifCond .eq 94, 3) := by decide +kernel
theorem d147_212 : decode (am_code 147) 212 = .ok (.iload_n 1, 1) := by decide +kernel
theorem d147_213 : decode (am_code 147) 213 = .ok (.iconst 1, 1) := by decide +kernel
theorem d147_214 : decode (am_code 147) 214 = .ok (.iadd, 1) := by decide +kernel
theorem d147_215 : decode (am_code 147) 215 = .ok (.istore 4, 2) := by decide +kernel
theorem d147_217 : decode (am_code 147) 217 = .ok (.iload 4, 2) := by decide +kernel
theorem d147_219 : decode (am_code 147) 219 = .ok (.aload_n 0, 1) := by decide +kernel
theorem d147_220 : decode (am_code 147) 220 = .ok (.getfield 159, 3) := by decide +kernel
theorem d147_223 : decode (am_code 147) 223 = .ok (.if_icmp .ge 74, 3) := by decide +kernel
theorem d147_226 : decode (am_code 147) 226 = .ok (.iload_n 2, 1) := by decide +kernel
theorem d147_227 : decode (am_code 147) 227 = .ok (.ifCond .eq 70, 3) := by decide +kernel
theorem d147_230 : decode (am_code 147) 230 = .ok (.aload_n 0, 1) := by decide +kernel
theorem d147_231 : decode (am_code 147) 231 = .ok (.iload_n 3, 1) := by decide +kernel
theorem d147_232 : decode (am_code 147) 232 = .ok (.iload 4, 2) := by decide +kernel
theorem d147_234 : decode (am_code 147) 234 = .ok (.invokevirtual 173, 3) := by decide +kernel
theorem d147_237 : decode (am_code 147) 237 = .ok (.aload_n 0, 1) := by decide +kernel
theorem d147_238 : decode (am_code 147) 238 = .ok (.iload_n 1, 1) := by decide +kernel
theorem d147_239 : decode (am_code 147) 239 = .ok (.iload_n 1, 1) := by decide +kernel
theorem d147_240 : decode (am_code 147) 240 = .ok (.invokevirtual 173, 3) := by decide +kernel
theorem d147_243 : decode (am_code 147) 243 = .ok (.lrem, 1) := by decide +kernel
theorem d147_244 : decode (am_code 147) 244 = .ok (.lconst 0, 1) := by decide +kernel
theorem d147_245 : decode (am_code 147) 245 = .ok (.lcmp, 1) := by decide +kernel
theorem d147_246 : decode (am_code 147) 246 = .ok (.ifCond .eq 45, 3) := by decide +kernel
theorem d147_249 : decode (am_code 147) 249 = .ok (.iload_n 1, 1) := by decide +kernel
theorem d147_250 : decode (am_code 147) 250 = .ok (.istore 5, 2) := by decide +kernel
theorem d147_252 : decode (am_code 147) 252 = .ok (.iload 5, 2) := by decide +kernel
theorem d147_254 : decode (am_code 147) 254 = .ok (.aload_n 0, 1) := by decide +kernel
theorem d147_255 : decode (am_code 147) 255 = .ok (.getfield 159, 3) := by decide +kernel
theorem d147_258 : decode (am_code 147) 258 = .ok (.if_icmp .ge 31, 3) := by decide +kernel
theorem d147_261 : decode (am_code 147) 261 = .ok (.aload_n 0, 1) := by decide +kernel
theorem d147_262 : decode (am_code 147) 262 = .ok (.getfield 34, 3) := by decide +kernel
theorem d147_265 : decode (am_code 147) 265 = .ok (.bipush 6, 2) := by decide +kernel
theorem d147_267 : decode (am_code 147) 267 = .ok (.iload_n 1, 1) := by decide +kernel
theorem d147_268 : decode (am_code 147) 268 = .ok (.imul, 1) := by decide +kernel
theorem d147_269 : decode (am_code 147) 269 = .ok (.iload 5, 2) := by decide +kernel
theorem d147_271 : decode (am_code 147) 271 = .ok (.iadd, 1) := by decide +kernel
theorem d147_272 : decode (am_code 147) 272 = .ok (.dup2, 1) := by decide +kernel
theorem d147_273 : decode (am_code 147) 273 = .ok (.laload, 1) := by decide +kernel
theorem d147_274 : decode (am_code 147) 274 = .ok (.aload_n 0, 1) := by decide +kernel
theorem d147_275 : decode (am_code 147) 275 = .ok (.iload_n 3, 1) := by decide +kernel
theorem d147_276 : decode (am_code 147) 276 = .ok (.iload 5, 2) := by decide +kernel
theorem d147_278 : decode (am_code 147) 278 = .ok (.invokevirtual 173, 3) := by decide +kernel
theorem d147_281 : decode (am_code 147) 281 = .ok (.ladd, 1) := by decide +kernel
theorem d147_282 : decode (am_code 147) 282 = .ok (.lastore, 1) := by decide +kernel
theorem d147_283 : decode (am_code 147) 283 = .ok (.iinc 5 1, 3) := by decide +kernel
theorem d147_286 : decode (am_code 147) 286 = .ok (.goto (-34), 3) := by decide +kernel
theorem d147_289 : decode (am_code 147) 289 = .ok (.iconst 0, 1) := by decide +kernel
theorem d147_290 : decode (am_code 147) 290 = .ok (.istore_n 2, 1) := by decide +kernel
theorem d147_291 : decode (am_code 147) 291 = .ok (.iinc 4 1, 3) := by decide +kernel
theorem d147_294 : decode (am_code 147) 294 = .ok (.goto (-77), 3) := by decide +kernel
theorem d147_297 : decode (am_code 147) 297 = .ok (.iinc 3 1, 3) := by decide +kernel
theorem d147_300 : decode (am_code 147) 300 = .ok (.goto (-100), 3) := by decide +kernel
theorem d147_303 : decode (am_code 147) 303 = .ok (.iload_n 2, 1) := by decide +kernel
theorem d147_304 : decode (am_code 147) 304 = .ok (.ireturn, 1) := by decide +kernel
theorem f147_162 : am_find am_ftL (am_mc 147) 162 = some (7, 11) := by decide +kernel
theorem f147_159 : am_find am_ftL (am_mc 147) 159 = some (7, 12) := by decide +kernel
theorem f147_34 : am_find am_ftL (am_mc 147) 34 = some (7, 10) := by decide +kernel
theorem c147_173 : am_find am_ctL (am_mc 147) 173 = some (0, 145) ∧ am_na 145 = 2 ∧ am_fr 145 + 1 ≤ am_fr 147 ∧ 8 + (am_maxL 145 + 11) + am_lo 145 ≤ am_lo 147 := by decide +kernel
theorem l147 : am_maxL 147 = 7 := by decide +kernel
theorem t147 : am_ret 147 = (some .boolean) := by decide +kernel
