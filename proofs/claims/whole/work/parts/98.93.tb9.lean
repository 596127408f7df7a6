/-! holes: the table is good -/
theorem kb_all : ∀ j, j < 2990 → BlOK kTB kLB 2990 j := by
  intro j hj
  by_cases c20 : j < 20
  · exact kbn_0_b j (by omega) c20
  by_cases c40 : j < 40
  · exact kbn_1_b j (by omega) c40
  by_cases c60 : j < 60
  · exact kbn_2_b j (by omega) c60
  by_cases c80 : j < 80
  · exact kbn_3_b j (by omega) c80
  by_cases c100 : j < 100
  · exact kbn_4_b j (by omega) c100
  by_cases c120 : j < 120
  · exact kbn_5_b j (by omega) c120
  by_cases c140 : j < 140
  · exact kbn_6_b j (by omega) c140
  by_cases c160 : j < 160
  · exact kbn_7_b j (by omega) c160
  by_cases c180 : j < 180
  · exact kbn_8_b j (by omega) c180
  by_cases c200 : j < 200
  · exact kbn_9_b j (by omega) c200
  by_cases c220 : j < 220
  · exact kbn_10_b j (by omega) c220
  by_cases c240 : j < 240
  · exact kbn_11_b j (by omega) c240
  by_cases c241 : j < 241
  · exact kbn_12_b j (by omega) c241
  by_cases c301 : j < 301
  · exact kbu_0_b j (by omega) c301
  by_cases c361 : j < 361
  · exact kbu_1_b j (by omega) c361
  by_cases c421 : j < 421
  · exact kbu_2_b j (by omega) c421
  by_cases c481 : j < 481
  · exact kbu_3_b j (by omega) c481
  by_cases c541 : j < 541
  · exact kbu_4_b j (by omega) c541
  by_cases c601 : j < 601
  · exact kbu_5_b j (by omega) c601
  by_cases c661 : j < 661
  · exact kbu_6_b j (by omega) c661
  by_cases c721 : j < 721
  · exact kbu_7_b j (by omega) c721
  by_cases c781 : j < 781
  · exact kbu_8_b j (by omega) c781
  by_cases c841 : j < 841
  · exact kbu_9_b j (by omega) c841
  by_cases c901 : j < 901
  · exact kbu_10_b j (by omega) c901
  by_cases c961 : j < 961
  · exact kbu_11_b j (by omega) c961
  by_cases c1021 : j < 1021
  · exact kbu_12_b j (by omega) c1021
  by_cases c1081 : j < 1081
  · exact kbu_13_b j (by omega) c1081
  by_cases c1141 : j < 1141
  · exact kbu_14_b j (by omega) c1141
  by_cases c1201 : j < 1201
  · exact kbu_15_b j (by omega) c1201
  by_cases c1261 : j < 1261
  · exact kbu_16_b j (by omega) c1261
  by_cases c1321 : j < 1321
  · exact kbu_17_b j (by omega) c1321
  by_cases c1381 : j < 1381
  · exact kbu_18_b j (by omega) c1381
  by_cases c1441 : j < 1441
  · exact kbu_19_b j (by omega) c1441
  by_cases c1501 : j < 1501
  · exact kbu_20_b j (by omega) c1501
  by_cases c1561 : j < 1561
  · exact kbu_21_b j (by omega) c1561
  by_cases c1615 : j < 1615
  · exact kbu_22_b j (by omega) c1615
  by_cases c1675 : j < 1675
  · exact kbv_0_b j (by omega) c1675
  by_cases c1735 : j < 1735
  · exact kbv_1_b j (by omega) c1735
  by_cases c1795 : j < 1795
  · exact kbv_2_b j (by omega) c1795
  by_cases c1855 : j < 1855
  · exact kbv_3_b j (by omega) c1855
  by_cases c1915 : j < 1915
  · exact kbv_4_b j (by omega) c1915
  by_cases c1975 : j < 1975
  · exact kbv_5_b j (by omega) c1975
  by_cases c2035 : j < 2035
  · exact kbv_6_b j (by omega) c2035
  by_cases c2095 : j < 2095
  · exact kbv_7_b j (by omega) c2095
  by_cases c2155 : j < 2155
  · exact kbv_8_b j (by omega) c2155
  by_cases c2215 : j < 2215
  · exact kbv_9_b j (by omega) c2215
  by_cases c2275 : j < 2275
  · exact kbv_10_b j (by omega) c2275
  by_cases c2335 : j < 2335
  · exact kbv_11_b j (by omega) c2335
  by_cases c2395 : j < 2395
  · exact kbv_12_b j (by omega) c2395
  by_cases c2455 : j < 2455
  · exact kbv_13_b j (by omega) c2455
  by_cases c2515 : j < 2515
  · exact kbv_14_b j (by omega) c2515
  by_cases c2575 : j < 2575
  · exact kbv_15_b j (by omega) c2575
  by_cases c2635 : j < 2635
  · exact kbv_16_b j (by omega) c2635
  by_cases c2695 : j < 2695
  · exact kbv_17_b j (by omega) c2695
  by_cases c2755 : j < 2755
  · exact kbv_18_b j (by omega) c2755
  by_cases c2815 : j < 2815
  · exact kbv_19_b j (by omega) c2815
  by_cases c2875 : j < 2875
  · exact kbv_20_b j (by omega) c2875
  by_cases c2935 : j < 2935
  · exact kbv_21_b j (by omega) c2935
  exact kbv_22_b j (by omega) hj
theorem tab_ok : TabOK 2990 (TT kTB) (lbT kLB) (muT kLB) := fun k hk => kb_all k hk
