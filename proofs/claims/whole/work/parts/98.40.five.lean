/-! the search: all of level 5 -/
theorem good5 : GoodT 5 kT5 7921 := fun k hk => by
  by_cases h1 : k < 3621
  · by_cases h2 : k < 1985
    · by_cases h3 : k < 829
      · by_cases h4 : k < 387
        · by_cases h5 : k < 165
          · by_cases h6 : k < 76
            · by_cases h7 : k < 42
              · exact g5_0 k (by omega) (by omega)
              · exact g5_1 k (by omega) (by omega)
            · by_cases h7 : k < 131
              · exact g5_2 k (by omega) (by omega)
              · exact g5_3 k (by omega) (by omega)
          · by_cases h6 : k < 250
            · by_cases h7 : k < 217
              · exact g5_4 k (by omega) (by omega)
              · exact g5_5 k (by omega) (by omega)
            · by_cases h7 : k < 301
              · exact g5_6 k (by omega) (by omega)
              · by_cases h8 : k < 339
                · exact g5_7 k (by omega) (by omega)
                · exact g5_8 k (by omega) (by omega)
        · by_cases h5 : k < 562
          · by_cases h6 : k < 475
            · by_cases h7 : k < 434
              · exact g5_9 k (by omega) (by omega)
              · exact g5_10 k (by omega) (by omega)
            · by_cases h7 : k < 509
              · exact g5_11 k (by omega) (by omega)
              · exact g5_12 k (by omega) (by omega)
          · by_cases h6 : k < 647
            · by_cases h7 : k < 596
              · exact g5_13 k (by omega) (by omega)
              · exact g5_14 k (by omega) (by omega)
            · by_cases h7 : k < 724
              · exact g5_15 k (by omega) (by omega)
              · by_cases h8 : k < 776
                · exact g5_16 k (by omega) (by omega)
                · exact g5_17 k (by omega) (by omega)
      · by_cases h4 : k < 1535
        · by_cases h5 : k < 1024
          · by_cases h6 : k < 929
            · by_cases h7 : k < 856
              · exact g5_18 k (by omega) (by omega)
              · exact g5_19 k (by omega) (by omega)
            · by_cases h7 : k < 982
              · exact g5_20 k (by omega) (by omega)
              · exact g5_21 k (by omega) (by omega)
          · by_cases h6 : k < 1272
            · by_cases h7 : k < 1081
              · exact g5_22 k (by omega) (by omega)
              · exact g5_23 k (by omega) (by omega)
            · by_cases h7 : k < 1408
              · exact g5_24 k (by omega) (by omega)
              · by_cases h8 : k < 1506
                · exact g5_25 k (by omega) (by omega)
                · exact g5_26 k (by omega) (by omega)
        · by_cases h5 : k < 1713
          · by_cases h6 : k < 1634
            · by_cases h7 : k < 1578
              · exact g5_27 k (by omega) (by omega)
              · exact g5_28 k (by omega) (by omega)
            · by_cases h7 : k < 1666
              · exact g5_29 k (by omega) (by omega)
              · exact g5_30 k (by omega) (by omega)
          · by_cases h6 : k < 1892
            · by_cases h7 : k < 1806
              · exact g5_31 k (by omega) (by omega)
              · exact g5_32 k (by omega) (by omega)
            · by_cases h7 : k < 1932
              · exact g5_33 k (by omega) (by omega)
              · by_cases h8 : k < 1972
                · exact g5_34 k (by omega) (by omega)
                · exact g5_35 k (by omega) (by omega)
    · by_cases h3 : k < 2580
      · by_cases h4 : k < 2171
        · by_cases h5 : k < 2071
          · by_cases h6 : k < 2028
            · by_cases h7 : k < 2005
              · exact g5_36 k (by omega) (by omega)
              · exact g5_37 k (by omega) (by omega)
            · by_cases h7 : k < 2055
              · exact g5_38 k (by omega) (by omega)
              · exact g5_39 k (by omega) (by omega)
          · by_cases h6 : k < 2105
            · by_cases h7 : k < 2083
              · exact g5_40 k (by omega) (by omega)
              · exact g5_41 k (by omega) (by omega)
            · by_cases h7 : k < 2124
              · exact g5_42 k (by omega) (by omega)
              · by_cases h8 : k < 2136
                · exact g5_43 k (by omega) (by omega)
                · exact g5_44 k (by omega) (by omega)
        · by_cases h5 : k < 2356
          · by_cases h6 : k < 2256
            · by_cases h7 : k < 2224
              · exact g5_45 k (by omega) (by omega)
              · exact g5_46 k (by omega) (by omega)
            · by_cases h7 : k < 2305
              · exact g5_47 k (by omega) (by omega)
              · exact g5_48 k (by omega) (by omega)
          · by_cases h6 : k < 2441
            · by_cases h7 : k < 2386
              · exact g5_49 k (by omega) (by omega)
              · exact g5_50 k (by omega) (by omega)
            · by_cases h7 : k < 2472
              · exact g5_51 k (by omega) (by omega)
              · by_cases h8 : k < 2516
                · exact g5_52 k (by omega) (by omega)
                · exact g5_53 k (by omega) (by omega)
      · by_cases h4 : k < 3260
        · by_cases h5 : k < 2792
          · by_cases h6 : k < 2700
            · by_cases h7 : k < 2648
              · exact g5_54 k (by omega) (by omega)
              · exact g5_55 k (by omega) (by omega)
            · by_cases h7 : k < 2758
              · exact g5_56 k (by omega) (by omega)
              · exact g5_57 k (by omega) (by omega)
          · by_cases h6 : k < 3034
            · by_cases h7 : k < 2857
              · exact g5_58 k (by omega) (by omega)
              · exact g5_59 k (by omega) (by omega)
            · by_cases h7 : k < 3162
              · exact g5_60 k (by omega) (by omega)
              · by_cases h8 : k < 3218
                · exact g5_61 k (by omega) (by omega)
                · exact g5_62 k (by omega) (by omega)
        · by_cases h5 : k < 3506
          · by_cases h6 : k < 3337
            · by_cases h7 : k < 3300
              · exact g5_63 k (by omega) (by omega)
              · exact g5_64 k (by omega) (by omega)
            · by_cases h7 : k < 3446
              · exact g5_65 k (by omega) (by omega)
              · exact g5_66 k (by omega) (by omega)
          · by_cases h6 : k < 3566
            · by_cases h7 : k < 3538
              · exact g5_67 k (by omega) (by omega)
              · exact g5_68 k (by omega) (by omega)
            · by_cases h7 : k < 3591
              · exact g5_69 k (by omega) (by omega)
              · by_cases h8 : k < 3609
                · exact g5_70 k (by omega) (by omega)
                · exact g5_71 k (by omega) (by omega)
  · by_cases h2 : k < 5675
    · by_cases h3 : k < 4874
      · by_cases h4 : k < 3948
        · by_cases h5 : k < 3707
          · by_cases h6 : k < 3658
            · by_cases h7 : k < 3642
              · exact g5_72 k (by omega) (by omega)
              · exact g5_73 k (by omega) (by omega)
            · by_cases h7 : k < 3674
              · exact g5_74 k (by omega) (by omega)
              · exact g5_75 k (by omega) (by omega)
          · by_cases h6 : k < 3804
            · by_cases h7 : k < 3758
              · exact g5_76 k (by omega) (by omega)
              · exact g5_77 k (by omega) (by omega)
            · by_cases h7 : k < 3840
              · exact g5_78 k (by omega) (by omega)
              · by_cases h8 : k < 3894
                · exact g5_79 k (by omega) (by omega)
                · exact g5_80 k (by omega) (by omega)
        · by_cases h5 : k < 4224
          · by_cases h6 : k < 4094
            · by_cases h7 : k < 4040
              · exact g5_81 k (by omega) (by omega)
              · exact g5_82 k (by omega) (by omega)
            · by_cases h7 : k < 4170
              · exact g5_83 k (by omega) (by omega)
              · exact g5_84 k (by omega) (by omega)
          · by_cases h6 : k < 4527
            · by_cases h7 : k < 4313
              · exact g5_85 k (by omega) (by omega)
              · exact g5_86 k (by omega) (by omega)
            · by_cases h7 : k < 4722
              · exact g5_87 k (by omega) (by omega)
              · by_cases h8 : k < 4856
                · exact g5_88 k (by omega) (by omega)
                · exact g5_89 k (by omega) (by omega)
      · by_cases h4 : k < 5305
        · by_cases h5 : k < 5076
          · by_cases h6 : k < 4994
            · by_cases h7 : k < 4909
              · exact g5_90 k (by omega) (by omega)
              · exact g5_91 k (by omega) (by omega)
            · by_cases h7 : k < 5060
              · exact g5_92 k (by omega) (by omega)
              · exact g5_93 k (by omega) (by omega)
          · by_cases h6 : k < 5158
            · by_cases h7 : k < 5092
              · exact g5_94 k (by omega) (by omega)
              · exact g5_95 k (by omega) (by omega)
            · by_cases h7 : k < 5254
              · exact g5_96 k (by omega) (by omega)
              · by_cases h8 : k < 5276
                · exact g5_97 k (by omega) (by omega)
                · exact g5_98 k (by omega) (by omega)
        · by_cases h5 : k < 5407
          · by_cases h6 : k < 5341
            · by_cases h7 : k < 5321
              · exact g5_99 k (by omega) (by omega)
              · exact g5_100 k (by omega) (by omega)
            · by_cases h7 : k < 5359
              · exact g5_101 k (by omega) (by omega)
              · exact g5_102 k (by omega) (by omega)
          · by_cases h6 : k < 5484
            · by_cases h7 : k < 5452
              · exact g5_103 k (by omega) (by omega)
              · exact g5_104 k (by omega) (by omega)
            · by_cases h7 : k < 5551
              · exact g5_105 k (by omega) (by omega)
              · by_cases h8 : k < 5607
                · exact g5_106 k (by omega) (by omega)
                · exact g5_107 k (by omega) (by omega)
    · by_cases h3 : k < 6925
      · by_cases h4 : k < 6414
        · by_cases h5 : k < 6135
          · by_cases h6 : k < 5958
            · by_cases h7 : k < 5783
              · exact g5_108 k (by omega) (by omega)
              · exact g5_109 k (by omega) (by omega)
            · by_cases h7 : k < 6070
              · exact g5_110 k (by omega) (by omega)
              · exact g5_111 k (by omega) (by omega)
          · by_cases h6 : k < 6302
            · by_cases h7 : k < 6185
              · exact g5_112 k (by omega) (by omega)
              · exact g5_113 k (by omega) (by omega)
            · by_cases h7 : k < 6379
              · exact g5_114 k (by omega) (by omega)
              · by_cases h8 : k < 6394
                · exact g5_115 k (by omega) (by omega)
                · exact g5_116 k (by omega) (by omega)
        · by_cases h5 : k < 6524
          · by_cases h6 : k < 6447
            · by_cases h7 : k < 6427
              · exact g5_117 k (by omega) (by omega)
              · exact g5_118 k (by omega) (by omega)
            · by_cases h7 : k < 6465
              · exact g5_119 k (by omega) (by omega)
              · exact g5_120 k (by omega) (by omega)
          · by_cases h6 : k < 6741
            · by_cases h7 : k < 6640
              · exact g5_121 k (by omega) (by omega)
              · exact g5_122 k (by omega) (by omega)
            · by_cases h7 : k < 6829
              · exact g5_123 k (by omega) (by omega)
              · by_cases h8 : k < 6877
                · exact g5_124 k (by omega) (by omega)
                · exact g5_125 k (by omega) (by omega)
      · by_cases h4 : k < 7601
        · by_cases h5 : k < 7274
          · by_cases h6 : k < 7191
            · by_cases h7 : k < 7109
              · exact g5_126 k (by omega) (by omega)
              · exact g5_127 k (by omega) (by omega)
            · by_cases h7 : k < 7226
              · exact g5_128 k (by omega) (by omega)
              · exact g5_129 k (by omega) (by omega)
          · by_cases h6 : k < 7354
            · by_cases h7 : k < 7296
              · exact g5_130 k (by omega) (by omega)
              · exact g5_131 k (by omega) (by omega)
            · by_cases h7 : k < 7504
              · exact g5_132 k (by omega) (by omega)
              · by_cases h8 : k < 7580
                · exact g5_133 k (by omega) (by omega)
                · exact g5_134 k (by omega) (by omega)
        · by_cases h5 : k < 7785
          · by_cases h6 : k < 7636
            · by_cases h7 : k < 7620
              · exact g5_135 k (by omega) (by omega)
              · exact g5_136 k (by omega) (by omega)
            · by_cases h7 : k < 7719
              · exact g5_137 k (by omega) (by omega)
              · by_cases h8 : k < 7748
                · exact g5_138 k (by omega) (by omega)
                · exact g5_139 k (by omega) (by omega)
          · by_cases h6 : k < 7876
            · by_cases h7 : k < 7856
              · exact g5_140 k (by omega) (by omega)
              · exact g5_141 k (by omega) (by omega)
            · by_cases h7 : k < 7892
              · exact g5_142 k (by omega) (by omega)
              · by_cases h8 : k < 7920
                · exact g5_143 k (by omega) (by omega)
                · exact g5_144 k (by omega) (by omega)
