theorem dX3_keep_66 : decode cX3_keep 66 = .ok (.getfield 30, 3) := by decide +kernel
theorem dX3_keep_69 : decode cX3_keep 69 = .ok (.iconst 1, 1) := by decide +kernel
theorem dX3_keep_70 : decode cX3_keep 70 = .ok (.iadd, 1) := by decide +kernel
theorem dX3_keep_71 : decode cX3_keep 71 = .ok (.putfield 30, 3) := by decide +kernel
theorem dX3_keep_74 : decode cX3_keep 74 = .ok (.aload_n 0, 1) := by decide +kernel
theorem dX3_keep_75 : decode cX3_keep 75 = .ok (.getfield 30, 3) := by decide +kernel
theorem dX3_keep_78 : decode cX3_keep 78 = .ok (.ireturn, 1) := by decide +kernel
theorem dX3_changeHabit_0 : decode cX3_changeHabit 0 = .ok (.iload_n 1, 1) := by decide +kernel
theorem dX3_changeHabit_1 : decode cX3_changeHabit 1 = .ok (.bipush 6, 2) := by decide +kernel
theorem dX3_changeHabit_3 : decode cX3_changeHabit 3 = .ok (.imul, 1) := by decide +kernel
theorem dX3_changeHabit_4 : decode cX3_changeHabit 4 = .ok (.iload_n 2, 1) := by decide +kernel
theorem dX3_changeHabit_5 : decode cX3_changeHabit 5 = .ok (.iadd, 1) := by decide +kernel
theorem dX3_changeHabit_6 : decode cX3_changeHabit 6 = .ok (.istore 4, 2) := by decide +kernel
theorem dX3_changeHabit_8 : decode cX3_changeHabit 8 = .ok (.aload_n 0, 1) := by decide +kernel
theorem dX3_changeHabit_9 : decode cX3_changeHabit 9 = .ok (.getfield 27, 3) := by decide +kernel
theorem dX3_changeHabit_12 : decode cX3_changeHabit 12 = .ok (.iload 4, 2) := by decide +kernel
theorem dX3_changeHabit_14 : decode cX3_changeHabit 14 = .ok (.iaload, 1) := by decide +kernel
theorem dX3_changeHabit_15 : decode cX3_changeHabit 15 = .ok (.istore 5, 2) := by decide +kernel
theorem dX3_changeHabit_17 : decode cX3_changeHabit 17 = .ok (.aload_n 0, 1) := by decide +kernel
theorem dX3_changeHabit_18 : decode cX3_changeHabit 18 = .ok (.getfield 27, 3) := by decide +kernel
theorem dX3_changeHabit_21 : decode cX3_changeHabit 21 = .ok (.iload 4, 2) := by decide +kernel
theorem dX3_changeHabit_23 : decode cX3_changeHabit 23 = .ok (.iload_n 3, 1) := by decide +kernel
theorem dX3_changeHabit_24 : decode cX3_changeHabit 24 = .ok (.iastore, 1) := by decide +kernel
theorem dX3_changeHabit_25 : decode cX3_changeHabit 25 = .ok (.iload 5, 2) := by decide +kernel
theorem dX3_changeHabit_27 : decode cX3_changeHabit 27 = .ok (.ireturn, 1) := by decide +kernel
set_option maxRecDepth 20000 in
theorem ggX3_latest_X3_lastDayBefore : GoodIn wsX3_latest wsX3_lastDayBefore := goodIn_r _ [5, 6, 7, 8, 9, 10, 4, 11, 12, 13, 24, 25, 26, 27, 28, 29, 30] (by decide +kernel) (by decide +kernel)
set_option maxRecDepth 20000 in
theorem gX3_latest_X3_lastDayBefore : GoodIn wsX3_latest (wsV RX3 34 RX3 yX3_lastDayBefore wsX3_lastDayBefore) := goodIn_app (goodIn_of _ (by decide +kernel)) ggX3_latest_X3_lastDayBefore
set_option maxRecDepth 20000 in
theorem ggX3_latest_X3_meanOn : GoodIn wsX3_latest wsX3_meanOn := goodIn_r _ [17, 6, 7, 18, 19, 20, 8, 9, 10, 4, 11, 12, 13, 21, 22, 23, 24, 25, 26, 27, 28, 29, 30] (by decide +kernel) (by decide +kernel)
set_option maxRecDepth 20000 in
theorem gX3_latest_X3_meanOn : GoodIn wsX3_latest (wsV RX3 38 RX3 yX3_meanOn wsX3_meanOn) := goodIn_app (goodIn_of _ (by decide +kernel)) ggX3_latest_X3_meanOn
theorem dX3_latest_0 : decode cX3_latest 0 = .ok (.aload_n 0, 1) := by decide +kernel
theorem dX3_latest_1 : decode cX3_latest 1 = .ok (.iload_n 1, 1) := by decide +kernel
theorem dX3_latest_2 : decode cX3_latest 2 = .ok (.iload_n 2, 1) := by decide +kernel
theorem dX3_latest_3 : decode cX3_latest 3 = .ok (.aload_n 0, 1) := by decide +kernel
theorem dX3_latest_4 : decode cX3_latest 4 = .ok (.iload_n 1, 1) := by decide +kernel
theorem dX3_latest_5 : decode cX3_latest 5 = .ok (.iload_n 2, 1) := by decide +kernel
theorem dX3_latest_6 : decode cX3_latest 6 = .ok (.sipush 10001, 3) := by decide +kernel
theorem dX3_latest_9 : decode cX3_latest 9 = .ok (.invokevirtual 34, 3) := by decide +kernel
theorem dX3_latest_12 : decode cX3_latest 12 = .ok (.invokevirtual 38, 3) := by decide +kernel
theorem dX3_latest_15 : decode cX3_latest 15 = .ok (.ireturn, 1) := by decide +kernel
set_option maxRecDepth 20000 in
theorem ggX3_growth_X3_lastDayBefore : GoodIn wsX3_growth wsX3_lastDayBefore := goodIn_r _ [5, 6, 7, 8, 9, 10, 4, 11, 12, 13, 24, 25, 26, 27, 28, 29, 30] (by decide +kernel) (by decide +kernel)
set_option maxRecDepth 20000 in
theorem gX3_growth_X3_lastDayBefore : GoodIn wsX3_growth (wsV RX3 34 RX3 yX3_lastDayBefore wsX3_lastDayBefore) := goodIn_app (goodIn_of _ (by decide +kernel)) ggX3_growth_X3_lastDayBefore
set_option maxRecDepth 20000 in
theorem ggX3_growth_X3_meanOn : GoodIn wsX3_growth wsX3_meanOn := goodIn_r _ [17, 6, 7, 18, 19, 20, 8, 9, 10, 4, 11, 12, 13, 21, 22, 23, 24, 25, 26, 27, 28, 29, 30] (by decide +kernel) (by decide +kernel)
set_option maxRecDepth 20000 in
theorem gX3_growth_X3_meanOn : GoodIn wsX3_growth (wsV RX3 38 RX3 yX3_meanOn wsX3_meanOn) := goodIn_app (goodIn_of _ (by decide +kernel)) ggX3_growth_X3_meanOn
theorem dX3_growth_0 : decode cX3_growth 0 = .ok (.aload_n 0, 1) := by decide +kernel
theorem dX3_growth_1 : decode cX3_growth 1 = .ok (.iload_n 1, 1) := by decide +kernel
theorem dX3_growth_2 : decode cX3_growth 2 = .ok (.iload_n 2, 1) := by decide +kernel
theorem dX3_growth_3 : decode cX3_growth 3 = .ok (.sipush 10001, 3) := by decide +kernel
theorem dX3_growth_6 : decode cX3_growth 6 = .ok (.invokevirtual 34, 3) := by decide +kernel
theorem dX3_growth_9 : decode cX3_growth 9 = .ok (.istore_n 3, 1) := by decide +kernel
theorem dX3_growth_10 : decode cX3_growth 10 = .ok (.aload_n 0, 1) := by decide +kernel
theorem dX3_growth_11 : decode cX3_growth 11 = .ok (.iload_n 1, 1) := by decide +kernel
theorem dX3_growth_12 : decode cX3_growth 12 = .ok (.iload_n 2, 1) := by decide +kernel
theorem dX3_growth_13 : decode cX3_growth 13 = .ok (.iload_n 3, 1) := by decide +kernel
theorem dX3_growth_14 : decode cX3_growth 14 = .ok (.invokevirtual 34, 3) := by decide +kernel
theorem dX3_growth_17 : decode cX3_growth 17 = .ok (.istore 4, 2) := by decide +kernel
theorem dX3_growth_19 : decode cX3_growth 19 = .ok (.iload 4, 2) := by decide +kernel
theorem dX3_growth_21 : decode cX3_growth 21 = .ok (.iconst (-1), 1) := by decide +kernel
theorem dX3_growth_22 : decode cX3_growth 22 = .ok (.if_icmp .ne 5, 3) := by decide +kernel
theorem dX3_growth_25 : decode cX3_growth 25 = .ok (.iconst 0, 1) := by decide +kernel
theorem dX3_growth_26 : decode cX3_growth 26 = .ok (.ireturn, 1) := by decide +kernel
theorem dX3_growth_27 : decode cX3_growth 27 = .ok (.aload_n 0, 1) := by decide +kernel
theorem dX3_growth_28 : decode cX3_growth 28 = .ok (.iload_n 1, 1) := by decide +kernel
theorem dX3_growth_29 : decode cX3_growth 29 = .ok (.iload_n 2, 1) := by decide +kernel
theorem dX3_growth_30 : decode cX3_growth 30 = .ok (.iload_n 3, 1) := by decide +kernel
theorem dX3_growth_31 : decode cX3_growth 31 = .ok (.invokevirtual 38, 3) := by decide +kernel
theorem dX3_growth_34 : decode cX3_growth 34 = .ok (.aload_n 0, 1) := by decide +kernel
theorem dX3_growth_35 : decode cX3_growth 35 = .ok (.iload_n 1, 1) := by decide +kernel
theorem dX3_growth_36 : decode cX3_growth 36 = .ok (.iload_n 2, 1) := by decide +kernel
theorem dX3_growth_37 : decode cX3_growth 37 = .ok (.iload 4, 2) := by decide +kernel
theorem dX3_growth_39 : decode cX3_growth 39 = .ok (.invokevirtual 38, 3) := by decide +kernel
theorem dX3_growth_42 : decode cX3_growth 42 = .ok (.isub, 1) := by decide +kernel
theorem dX3_growth_43 : decode cX3_growth 43 = .ok (.ireturn, 1) := by decide +kernel
set_option maxRecDepth 20000 in
theorem ggX3_meanDifference_X3_isLikeTelling : GoodIn wsX3_meanDifference wsX3_isLikeTelling := goodIn_r _ [9, 3, 10, 11, 15, 16, 17, 18, 19, 20, 21] (by decide +kernel) (by decide +kernel)
set_option maxRecDepth 20000 in
theorem gX3_meanDifference_X3_isLikeTelling : GoodIn wsX3_meanDifference (wsV RX3 41 RX3 yX3_isLikeTelling wsX3_isLikeTelling) := goodIn_app (goodIn_of _ (by decide +kernel)) ggX3_meanDifference_X3_isLikeTelling
set_option maxRecDepth 20000 in
theorem ggX3_meanDifference_X5_divide : GoodIn wsX3_meanDifference wsX5_divide := goodIn_r _ [14] (by decide +kernel) (by decide +kernel)
set_option maxRecDepth 20000 in
theorem gX3_meanDifference_X5_divide_n45 : GoodIn wsX3_meanDifference (wsX5_divide) := ggX3_meanDifference_X5_divide
theorem dX3_meanDifference_0 : decode cX3_meanDifference 0 = .ok (.iconst 0, 1) := by decide +kernel
theorem dX3_meanDifference_1 : decode cX3_meanDifference 1 = .ok (.istore 4, 2) := by decide +kernel
theorem dX3_meanDifference_3 : decode cX3_meanDifference 3 = .ok (.iconst 0, 1) := by decide +kernel
theorem dX3_meanDifference_4 : decode cX3_meanDifference 4 = .ok (.istore 5, 2) := by decide +kernel
theorem dX3_meanDifference_6 : decode cX3_meanDifference 6 = .ok (.iconst 0, 1) := by decide +kernel
theorem dX3_meanDifference_7 : decode cX3_meanDifference 7 = .ok (.istore 6, 2) := by decide +kernel
theorem dX3_meanDifference_9 : decode cX3_meanDifference 9 = .ok (.iload 6, 2) := by decide +kernel
theorem dX3_meanDifference_11 : decode cX3_meanDifference 11 = .ok (.aload_n 0, 1) := by decide +kernel
theorem dX3_meanDifference_12 : decode cX3_meanDifference 12 = .ok (.getfield 30, 3) := by decide +kernel
theorem dX3_meanDifference_15 : decode cX3_meanDifference 15 = .ok (.if_icmp .ge 97, 3) := by decide +kernel
theorem dX3_meanDifference_18 : decode cX3_meanDifference 18 = .ok (.aload_n 0, 1) := by decide +kernel
theorem dX3_meanDifference_19 : decode cX3_meanDifference 19 = .ok (.getfield 9, 3) := by decide +kernel
theorem dX3_meanDifference_22 : decode cX3_meanDifference 22 = .ok (.iload 6, 2) := by decide +kernel
theorem dX3_meanDifference_24 : decode cX3_meanDifference 24 = .ok (.iaload, 1) := by decide +kernel
theorem dX3_meanDifference_25 : decode cX3_meanDifference 25 = .ok (.iload_n 2, 1) := by decide +kernel
theorem dX3_meanDifference_26 : decode cX3_meanDifference 26 = .ok (.if_icmp .ne 80, 3) := by decide +kernel
theorem dX3_meanDifference_29 : decode cX3_meanDifference 29 = .ok (.aload_n 0, 1) := by decide +kernel
theorem dX3_meanDifference_30 : decode cX3_meanDifference 30 = .ok (.getfield 18, 3) := by decide +kernel
theorem dX3_meanDifference_33 : decode cX3_meanDifference 33 = .ok (.iload 6, 2) := by decide +kernel
theorem dX3_meanDifference_35 : decode cX3_meanDifference 35 = .ok (.iaload, 1) := by decide +kernel
theorem dX3_meanDifference_36 : decode cX3_meanDifference 36 = .ok (.iload_n 1, 1) := by decide +kernel
theorem dX3_meanDifference_37 : decode cX3_meanDifference 37 = .ok (.if_icmp .eq 6, 3) := by decide +kernel
theorem dX3_meanDifference_40 : decode cX3_meanDifference 40 = .ok (.goto 66, 3) := by decide +kernel
theorem dX3_meanDifference_43 : decode cX3_meanDifference 43 = .ok (.iconst 0, 1) := by decide +kernel
theorem dX3_meanDifference_44 : decode cX3_meanDifference 44 = .ok (.istore 7, 2) := by decide +kernel
theorem dX3_meanDifference_46 : decode cX3_meanDifference 46 = .ok (.iload 7, 2) := by decide +kernel
theorem dX3_meanDifference_48 : decode cX3_meanDifference 48 = .ok (.aload_n 0, 1) := by decide +kernel
theorem dX3_meanDifference_49 : decode cX3_meanDifference 49 = .ok (.getfield 30, 3) := by decide +kernel
theorem dX3_meanDifference_52 : decode cX3_meanDifference 52 = .ok (.if_icmp .ge 54, 3) := by decide +kernel
theorem dX3_meanDifference_55 : decode cX3_meanDifference 55 = .ok (.aload_n 0, 1) := by decide +kernel
theorem dX3_meanDifference_56 : decode cX3_meanDifference 56 = .ok (.getfield 9, 3) := by decide +kernel
theorem dX3_meanDifference_59 : decode cX3_meanDifference 59 = .ok (.iload 7, 2) := by decide +kernel
theorem dX3_meanDifference_61 : decode cX3_meanDifference 61 = .ok (.iaload, 1) := by decide +kernel
theorem dX3_meanDifference_62 : decode cX3_meanDifference 62 = .ok (.iload_n 3, 1) := by decide +kernel
theorem dX3_meanDifference_63 : decode cX3_meanDifference 63 = .ok (.if_icmp .ne 37, 3) := by decide +kernel
theorem dX3_meanDifference_66 : decode cX3_meanDifference 66 = .ok (.aload_n 0, 1) := by decide +kernel
theorem dX3_meanDifference_67 : decode cX3_meanDifference 67 = .ok (.iload 6, 2) := by decide +kernel
theorem dX3_meanDifference_69 : decode cX3_meanDifference 69 = .ok (.iload 7, 2) := by decide +kernel
theorem dX3_meanDifference_71 : decode cX3_meanDifference 71 = .ok (.invokevirtual 41, 3) := by decide +kernel
theorem dX3_meanDifference_74 : decode cX3_meanDifference 74 = .ok (.ifCond .eq 26, 3) := by decide +kernel
theorem dX3_meanDifference_77 : decode cX3_meanDifference 77 = .ok (.iload 4, 2) := by decide +kernel
theorem dX3_meanDifference_79 : decode cX3_meanDifference 79 = .ok (.aload_n 0, 1) := by decide +kernel
theorem dX3_meanDifference_80 : decode cX3_meanDifference 80 = .ok (.getfield 24, 3) := by decide +kernel
theorem dX3_meanDifference_83 : decode cX3_meanDifference 83 = .ok (.iload 6, 2) := by decide +kernel
theorem dX3_meanDifference_85 : decode cX3_meanDifference 85 = .ok (.iaload, 1) := by decide +kernel
theorem dX3_meanDifference_86 : decode cX3_meanDifference 86 = .ok (.aload_n 0, 1) := by decide +kernel
theorem dX3_meanDifference_87 : decode cX3_meanDifference 87 = .ok (.getfield 24, 3) := by decide +kernel
theorem dX3_meanDifference_90 : decode cX3_meanDifference 90 = .ok (.iload 7, 2) := by decide +kernel
theorem dX3_meanDifference_92 : decode cX3_meanDifference 92 = .ok (.iaload, 1) := by decide +kernel
theorem dX3_meanDifference_93 : decode cX3_meanDifference 93 = .ok (.isub, 1) := by decide +kernel
theorem dX3_meanDifference_94 : decode cX3_meanDifference 94 = .ok (.iadd, 1) := by decide +kernel
theorem dX3_meanDifference_95 : decode cX3_meanDifference 95 = .ok (.istore 4, 2) := by decide +kernel
theorem dX3_meanDifference_97 : decode cX3_meanDifference 97 = .ok (.iinc 5 1, 3) := by decide +kernel
theorem dX3_meanDifference_100 : decode cX3_meanDifference 100 = .ok (.iinc 7 1, 3) := by decide +kernel
theorem dX3_meanDifference_103 : decode cX3_meanDifference 103 = .ok (.goto (-57), 3) := by decide +kernel
theorem dX3_meanDifference_106 : decode cX3_meanDifference 106 = .ok (.iinc 6 1, 3) := by decide +kernel
theorem dX3_meanDifference_109 : decode cX3_meanDifference 109 = .ok (.goto (-100), 3) := by decide +kernel
theorem dX3_meanDifference_112 : decode cX3_meanDifference 112 = .ok (.iload 5, 2) := by decide +kernel
theorem dX3_meanDifference_114 : decode cX3_meanDifference 114 = .ok (.ifCond .ne 9, 3) := by decide +kernel
theorem dX3_meanDifference_117 : decode cX3_meanDifference 117 = .ok (.sipush (-1001), 3) := by decide +kernel
theorem dX3_meanDifference_120 : decode cX3_meanDifference 120 = .ok (.goto 10, 3) := by decide +kernel
theorem dX3_meanDifference_123 : decode cX3_meanDifference 123 = .ok (.iload 4, 2) := by decide +kernel
theorem dX3_meanDifference_125 : decode cX3_meanDifference 125 = .ok (.iload 5, 2) := by decide +kernel
theorem dX3_meanDifference_127 : decode cX3_meanDifference 127 = .ok (.invokestatic 45, 3) := by decide +kernel
theorem dX3_meanDifference_130 : decode cX3_meanDifference 130 = .ok (.ireturn, 1) := by decide +kernel
set_option maxRecDepth 20000 in
theorem ggX3_mixMeasures_X3_latest : GoodIn wsX3_mixMeasures wsX3_latest := goodIn_r _ [5, 6, 7, 8, 4, 9, 10, 11, 12, 13, 14, 15, 16, 17, 18, 19, 20, 21, 22, 23, 24, 25, 26, 27, 31, 32, 33, 34, 35, 36, 37] (by decide +kernel) (by decide +kernel)
set_option maxRecDepth 20000 in
theorem gX3_mixMeasures_X3_latest : GoodIn wsX3_mixMeasures (wsV RX3 49 RX3 yX3_latest wsX3_latest) := goodIn_app (goodIn_of _ (by decide +kernel)) ggX3_mixMeasures_X3_latest
set_option maxRecDepth 20000 in
theorem ggX3_mixMeasures_X5_mix : GoodIn wsX3_mixMeasures wsX5_mix := goodIn_r _ [29, 30] (by decide +kernel) (by decide +kernel)
set_option maxRecDepth 20000 in
theorem gX3_mixMeasures_X5_mix_n52 : GoodIn wsX3_mixMeasures (wsX5_mix) := ggX3_mixMeasures_X5_mix
theorem dX3_mixMeasures_0 : decode cX3_mixMeasures 0 = .ok (.lload_n 1, 1) := by decide +kernel
theorem dX3_mixMeasures_1 : decode cX3_mixMeasures 1 = .ok (.lstore_n 3, 1) := by decide +kernel
theorem dX3_mixMeasures_2 : decode cX3_mixMeasures 2 = .ok (.iconst 0, 1) := by decide +kernel
theorem dX3_mixMeasures_3 : decode cX3_mixMeasures 3 = .ok (.istore 5, 2) := by decide +kernel
theorem dX3_mixMeasures_5 : decode cX3_mixMeasures 5 = .ok (.iload 5, 2) := by decide +kernel
theorem dX3_mixMeasures_7 : decode cX3_mixMeasures 7 = .ok (.bipush 6, 2) := by decide +kernel
theorem dX3_mixMeasures_9 : decode cX3_mixMeasures 9 = .ok (.if_icmp .ge 39, 3) := by decide +kernel
theorem dX3_mixMeasures_12 : decode cX3_mixMeasures 12 = .ok (.iconst 0, 1) := by decide +kernel
theorem dX3_mixMeasures_13 : decode cX3_mixMeasures 13 = .ok (.istore 6, 2) := by decide +kernel
theorem dX3_mixMeasures_15 : decode cX3_mixMeasures 15 = .ok (.iload 6, 2) := by decide +kernel
theorem dX3_mixMeasures_17 : decode cX3_mixMeasures 17 = .ok (.bipush 6, 2) := by decide +kernel
theorem dX3_mixMeasures_19 : decode cX3_mixMeasures 19 = .ok (.if_icmp .ge 23, 3) := by decide +kernel
theorem dX3_mixMeasures_22 : decode cX3_mixMeasures 22 = .ok (.lload_n 3, 1) := by decide +kernel
theorem dX3_mixMeasures_23 : decode cX3_mixMeasures 23 = .ok (.aload_n 0, 1) := by decide +kernel
theorem dX3_mixMeasures_24 : decode cX3_mixMeasures 24 = .ok (.iload 5, 2) := by decide +kernel
theorem dX3_mixMeasures_26 : decode cX3_mixMeasures 26 = .ok (.iload 6, 2) := by decide +kernel
theorem dX3_mixMeasures_28 : decode cX3_mixMeasures 28 = .ok (.invokevirtual 49, 3) := by decide +kernel
theorem dX3_mixMeasures_31 : decode cX3_mixMeasures 31 = .ok (.i2l, 1) := by decide +kernel
theorem dX3_mixMeasures_32 : decode cX3_mixMeasures 32 = .ok (.invokestatic 52, 3) := by decide +kernel
theorem dX3_mixMeasures_35 : decode cX3_mixMeasures 35 = .ok (.lstore_n 3, 1) := by decide +kernel
theorem dX3_mixMeasures_36 : decode cX3_mixMeasures 36 = .ok (.iinc 6 1, 3) := by decide +kernel
theorem dX3_mixMeasures_39 : decode cX3_mixMeasures 39 = .ok (.goto (-24), 3) := by decide +kernel
theorem dX3_mixMeasures_42 : decode cX3_mixMeasures 42 = .ok (.iinc 5 1, 3) := by decide +kernel
theorem dX3_mixMeasures_45 : decode cX3_mixMeasures 45 = .ok (.goto (-40), 3) := by decide +kernel
theorem dX3_mixMeasures_48 : decode cX3_mixMeasures 48 = .ok (.lload_n 3, 1) := by decide +kernel
theorem dX3_mixMeasures_49 : decode cX3_mixMeasures 49 = .ok (.lreturn, 1) := by decide +kernel
theorem dX3_isLikeTelling_0 : decode cX3_isLikeTelling 0 = .ok (.aload_n 0, 1) := by decide +kernel
theorem dX3_isLikeTelling_1 : decode cX3_isLikeTelling 1 = .ok (.getfield 18, 3) := by decide +kernel
theorem dX3_isLikeTelling_4 : decode cX3_isLikeTelling 4 = .ok (.iload_n 1, 1) := by decide +kernel
theorem dX3_isLikeTelling_5 : decode cX3_isLikeTelling 5 = .ok (.iaload, 1) := by decide +kernel
theorem dX3_isLikeTelling_6 : decode cX3_isLikeTelling 6 = .ok (.aload_n 0, 1) := by decide +kernel
theorem dX3_isLikeTelling_7 : decode cX3_isLikeTelling 7 = .ok (.getfield 18, 3) := by decide +kernel
theorem dX3_isLikeTelling_10 : decode cX3_isLikeTelling 10 = .ok (.iload_n 2, 1) := by decide +kernel
theorem dX3_isLikeTelling_11 : decode cX3_isLikeTelling 11 = .ok (.iaload, 1) := by decide +kernel
theorem dX3_isLikeTelling_12 : decode cX3_isLikeTelling 12 = .ok (.if_icmp .ne 37, 3) := by decide +kernel
theorem dX3_isLikeTelling_15 : decode cX3_isLikeTelling 15 = .ok (.aload_n 0, 1) := by decide +kernel
theorem dX3_isLikeTelling_16 : decode cX3_isLikeTelling 16 = .ok (.getfield 15, 3) := by decide +kernel
theorem dX3_isLikeTelling_19 : decode cX3_isLikeTelling 19 = .ok (.iload_n 1, 1) := by decide +kernel
theorem dX3_isLikeTelling_20 : decode cX3_isLikeTelling 20 = .ok (.iaload, 1) := by decide +kernel
theorem dX3_isLikeTelling_21 : decode cX3_isLikeTelling 21 = .ok (.aload_n 0, 1) := by decide +kernel
theorem dX3_isLikeTelling_22 : decode cX3_isLikeTelling 22 = .ok (.getfield 15, 3) := by decide +kernel
theorem dX3_isLikeTelling_25 : decode cX3_isLikeTelling 25 = .ok (.iload_n 2, 1) := by decide +kernel
theorem dX3_isLikeTelling_26 : decode cX3_isLikeTelling 26 = .ok (.iaload, 1) := by decide +kernel
theorem dX3_isLikeTelling_27 : decode cX3_isLikeTelling 27 = .ok (.if_icmp .ne 22, 3) := by decide +kernel
theorem dX3_isLikeTelling_30 : decode cX3_isLikeTelling 30 = .ok (.aload_n 0, 1) := by decide +kernel
theorem dX3_isLikeTelling_31 : decode cX3_isLikeTelling 31 = .ok (.getfield 21, 3) := by decide +kernel
theorem dX3_isLikeTelling_34 : decode cX3_isLikeTelling 34 = .ok (.iload_n 1, 1) := by decide +kernel
theorem dX3_isLikeTelling_35 : decode cX3_isLikeTelling 35 = .ok (.iaload, 1) := by decide +kernel
theorem dX3_isLikeTelling_36 : decode cX3_isLikeTelling 36 = .ok (.aload_n 0, 1) := by decide +kernel
theorem dX3_isLikeTelling_37 : decode cX3_isLikeTelling 37 = .ok (.getfield 21, 3) := by decide +kernel
theorem dX3_isLikeTelling_40 : decode cX3_isLikeTelling 40 = .ok (.iload_n 2, 1) := by decide +kernel
theorem dX3_isLikeTelling_41 : decode cX3_isLikeTelling 41 = .ok (.iaload, 1) := by decide +kernel
theorem dX3_isLikeTelling_42 : decode cX3_isLikeTelling 42 = .ok (.if_icmp .ne 7, 3) := by decide +kernel
theorem dX3_isLikeTelling_45 : decode cX3_isLikeTelling 45 = .ok (.iconst 1, 1) := by decide +kernel
theorem dX3_isLikeTelling_46 : decode cX3_isLikeTelling 46 = .ok (.goto 4, 3) := by decide +kernel
theorem dX3_isLikeTelling_49 : decode cX3_isLikeTelling 49 = .ok (.iconst 0, 1) := by decide +kernel
theorem dX3_isLikeTelling_50 : decode cX3_isLikeTelling 50 = .ok (.ireturn, 1) := by decide +kernel
theorem dX3_isOf_0 : decode cX3_isOf 0 = .ok (.aload_n 0, 1) := by decide +kernel
theorem dX3_isOf_1 : decode cX3_isOf 1 = .ok (.getfield 15, 3) := by decide +kernel
theorem dX3_isOf_4 : decode cX3_isOf 4 = .ok (.iload_n 1, 1) := by decide +kernel
theorem dX3_isOf_5 : decode cX3_isOf 5 = .ok (.iaload, 1) := by decide +kernel
theorem dX3_isOf_6 : decode cX3_isOf 6 = .ok (.iload_n 2, 1) := by decide +kernel
theorem dX3_isOf_7 : decode cX3_isOf 7 = .ok (.if_icmp .ne 17, 3) := by decide +kernel
theorem dX3_isOf_10 : decode cX3_isOf 10 = .ok (.aload_n 0, 1) := by decide +kernel
theorem dX3_isOf_11 : decode cX3_isOf 11 = .ok (.getfield 18, 3) := by decide +kernel
theorem dX3_isOf_14 : decode cX3_isOf 14 = .ok (.iload_n 1, 1) := by decide +kernel
theorem dX3_isOf_15 : decode cX3_isOf 15 = .ok (.iaload, 1) := by decide +kernel
theorem dX3_isOf_16 : decode cX3_isOf 16 = .ok (.iload_n 3, 1) := by decide +kernel
theorem dX3_isOf_17 : decode cX3_isOf 17 = .ok (.if_icmp .ne 7, 3) := by decide +kernel
theorem dX3_isOf_20 : decode cX3_isOf 20 = .ok (.iconst 1, 1) := by decide +kernel
theorem dX3_isOf_21 : decode cX3_isOf 21 = .ok (.goto 4, 3) := by decide +kernel
theorem dX3_isOf_24 : decode cX3_isOf 24 = .ok (.iconst 0, 1) := by decide +kernel
theorem dX3_isOf_25 : decode cX3_isOf 25 = .ok (.ireturn, 1) := by decide +kernel
set_option maxRecDepth 20000 in
theorem ggX3_lastDayBefore_X3_isOf : GoodIn wsX3_lastDayBefore wsX3_isOf := goodIn_r _ [7, 8, 9, 10, 11, 12, 13, 14, 15, 16] (by decide +kernel) (by decide +kernel)
set_option maxRecDepth 20000 in
theorem gX3_lastDayBefore_X3_isOf : GoodIn wsX3_lastDayBefore (wsV RX3 56 RX3 yX3_isOf wsX3_isOf) := goodIn_app (goodIn_of _ (by decide +kernel)) ggX3_lastDayBefore_X3_isOf
theorem dX3_lastDayBefore_0 : decode cX3_lastDayBefore 0 = .ok (.iconst (-1), 1) := by decide +kernel
theorem dX3_lastDayBefore_1 : decode cX3_lastDayBefore 1 = .ok (.istore 4, 2) := by decide +kernel
theorem dX3_lastDayBefore_3 : decode cX3_lastDayBefore 3 = .ok (.iconst 0, 1) := by decide +kernel
theorem dX3_lastDayBefore_4 : decode cX3_lastDayBefore 4 = .ok (.istore 5, 2) := by decide +kernel
theorem dX3_lastDayBefore_6 : decode cX3_lastDayBefore 6 = .ok (.iload 5, 2) := by decide +kernel
theorem dX3_lastDayBefore_8 : decode cX3_lastDayBefore 8 = .ok (.aload_n 0, 1) := by decide +kernel
theorem dX3_lastDayBefore_9 : decode cX3_lastDayBefore 9 = .ok (.getfield 30, 3) := by decide +kernel
theorem dX3_lastDayBefore_12 : decode cX3_lastDayBefore 12 = .ok (.if_icmp .ge 52, 3) := by decide +kernel
theorem dX3_lastDayBefore_15 : decode cX3_lastDayBefore 15 = .ok (.aload_n 0, 1) := by decide +kernel
theorem dX3_lastDayBefore_16 : decode cX3_lastDayBefore 16 = .ok (.iload 5, 2) := by decide +kernel
theorem dX3_lastDayBefore_18 : decode cX3_lastDayBefore 18 = .ok (.iload_n 1, 1) := by decide +kernel
theorem dX3_lastDayBefore_19 : decode cX3_lastDayBefore 19 = .ok (.iload_n 2, 1) := by decide +kernel
theorem dX3_lastDayBefore_20 : decode cX3_lastDayBefore 20 = .ok (.invokevirtual 56, 3) := by decide +kernel
theorem dX3_lastDayBefore_23 : decode cX3_lastDayBefore 23 = .ok (.ifCond .eq 35, 3) := by decide +kernel
theorem dX3_lastDayBefore_26 : decode cX3_lastDayBefore 26 = .ok (.aload_n 0, 1) := by decide +kernel
theorem dX3_lastDayBefore_27 : decode cX3_lastDayBefore 27 = .ok (.getfield 21, 3) := by decide +kernel
theorem dX3_lastDayBefore_30 : decode cX3_lastDayBefore 30 = .ok (.iload 5, 2) := by decide +kernel
theorem dX3_lastDayBefore_32 : decode cX3_lastDayBefore 32 = .ok (.iaload, 1) := by decide +kernel
theorem dX3_lastDayBefore_33 : decode cX3_lastDayBefore 33 = .ok (.iload_n 3, 1) := by decide +kernel
theorem dX3_lastDayBefore_34 : decode cX3_lastDayBefore 34 = .ok (.if_icmp .ge 24, 3) := by decide +kernel
theorem dX3_lastDayBefore_37 : decode cX3_lastDayBefore 37 = .ok (.aload_n 0, 1) := by decide +kernel
theorem dX3_lastDayBefore_38 : decode cX3_lastDayBefore 38 = .ok (.getfield 21, 3) := by decide +kernel
theorem dX3_lastDayBefore_41 : decode cX3_lastDayBefore 41 = .ok (.iload 5, 2) := by decide +kernel
theorem dX3_lastDayBefore_43 : decode cX3_lastDayBefore 43 = .ok (.iaload, 1) := by decide +kernel
theorem dX3_lastDayBefore_44 : decode cX3_lastDayBefore 44 = .ok (.iload 4, 2) := by decide +kernel
theorem dX3_lastDayBefore_46 : decode cX3_lastDayBefore 46 = .ok (.if_icmp .le 12, 3) := by decide +kernel
theorem dX3_lastDayBefore_49 : decode cX3_lastDayBefore 49 = .ok (.aload_n 0, 1) := by decide +kernel
theorem dX3_lastDayBefore_50 : decode cX3_lastDayBefore 50 = .ok (.getfield 21, 3) := by decide +kernel
theorem dX3_lastDayBefore_53 : decode cX3_lastDayBefore 53 = .ok (.iload 5, 2) := by decide +kernel
theorem dX3_lastDayBefore_55 : decode cX3_lastDayBefore 55 = .ok (.iaload, 1) := by decide +kernel
theorem dX3_lastDayBefore_56 : decode cX3_lastDayBefore 56 = .ok (.istore 4, 2) := by decide +kernel
theorem dX3_lastDayBefore_58 : decode cX3_lastDayBefore 58 = .ok (.iinc 5 1, 3) := by decide +kernel
theorem dX3_lastDayBefore_61 : decode cX3_lastDayBefore 61 = .ok (.goto (-55), 3) := by decide +kernel
theorem dX3_lastDayBefore_64 : decode cX3_lastDayBefore 64 = .ok (.iload 4, 2) := by decide +kernel
theorem dX3_lastDayBefore_66 : decode cX3_lastDayBefore 66 = .ok (.ireturn, 1) := by decide +kernel
set_option maxRecDepth 20000 in
theorem ggX3_meanOn_X3_isOf : GoodIn wsX3_meanOn wsX3_isOf := goodIn_r _ [10, 11, 12, 16, 17, 18, 19, 20, 21, 22] (by decide +kernel) (by decide +kernel)
set_option maxRecDepth 20000 in
theorem gX3_meanOn_X3_isOf : GoodIn wsX3_meanOn (wsV RX3 56 RX3 yX3_isOf wsX3_isOf) := goodIn_app (goodIn_of _ (by decide +kernel)) ggX3_meanOn_X3_isOf
set_option maxRecDepth 20000 in
theorem ggX3_meanOn_X5_divide : GoodIn wsX3_meanOn wsX5_divide := goodIn_r _ [15] (by decide +kernel) (by decide +kernel)
set_option maxRecDepth 20000 in
theorem gX3_meanOn_X5_divide_n45 : GoodIn wsX3_meanOn (wsX5_divide) := ggX3_meanOn_X5_divide
theorem dX3_meanOn_0 : decode cX3_meanOn 0 = .ok (.iconst 0, 1) := by decide +kernel
theorem dX3_meanOn_1 : decode cX3_meanOn 1 = .ok (.istore 4, 2) := by decide +kernel
theorem dX3_meanOn_3 : decode cX3_meanOn 3 = .ok (.iconst 0, 1) := by decide +kernel
theorem dX3_meanOn_4 : decode cX3_meanOn 4 = .ok (.istore 5, 2) := by decide +kernel
theorem dX3_meanOn_6 : decode cX3_meanOn 6 = .ok (.iconst 0, 1) := by decide +kernel
theorem dX3_meanOn_7 : decode cX3_meanOn 7 = .ok (.istore 6, 2) := by decide +kernel
theorem dX3_meanOn_9 : decode cX3_meanOn 9 = .ok (.iload 6, 2) := by decide +kernel
theorem dX3_meanOn_11 : decode cX3_meanOn 11 = .ok (.aload_n 0, 1) := by decide +kernel
theorem dX3_meanOn_12 : decode cX3_meanOn 12 = .ok (.getfield 30, 3) := by decide +kernel
theorem dX3_meanOn_15 : decode cX3_meanOn 15 = .ok (.if_icmp .ge 64, 3) := by decide +kernel
theorem dX3_meanOn_18 : decode cX3_meanOn 18 = .ok (.aload_n 0, 1) := by decide +kernel
theorem dX3_meanOn_19 : decode cX3_meanOn 19 = .ok (.iload 6, 2) := by decide +kernel
theorem dX3_meanOn_21 : decode cX3_meanOn 21 = .ok (.iload_n 1, 1) := by decide +kernel
theorem dX3_meanOn_22 : decode cX3_meanOn 22 = .ok (.iload_n 2, 1) := by decide +kernel
theorem dX3_meanOn_23 : decode cX3_meanOn 23 = .ok (.invokevirtual 56, 3) := by decide +kernel
theorem dX3_meanOn_26 : decode cX3_meanOn 26 = .ok (.ifCond .eq 47, 3) := by decide +kernel
theorem dX3_meanOn_29 : decode cX3_meanOn 29 = .ok (.aload_n 0, 1) := by decide +kernel
theorem dX3_meanOn_30 : decode cX3_meanOn 30 = .ok (.getfield 21, 3) := by decide +kernel
theorem dX3_meanOn_33 : decode cX3_meanOn 33 = .ok (.iload 6, 2) := by decide +kernel
theorem dX3_meanOn_35 : decode cX3_meanOn 35 = .ok (.iaload, 1) := by decide +kernel
theorem dX3_meanOn_36 : decode cX3_meanOn 36 = .ok (.iload_n 3, 1) := by decide +kernel
theorem dX3_meanOn_37 : decode cX3_meanOn 37 = .ok (.if_icmp .ne 36, 3) := by decide +kernel
theorem dX3_meanOn_40 : decode cX3_meanOn 40 = .ok (.iload 4, 2) := by decide +kernel
theorem dX3_meanOn_42 : decode cX3_meanOn 42 = .ok (.aload_n 0, 1) := by decide +kernel
theorem dX3_meanOn_43 : decode cX3_meanOn 43 = .ok (.getfield 24, 3) := by decide +kernel
theorem dX3_meanOn_46 : decode cX3_meanOn 46 = .ok (.iload 6, 2) := by decide +kernel
theorem dX3_meanOn_48 : decode cX3_meanOn 48 = .ok (.iaload, 1) := by decide +kernel
theorem dX3_meanOn_49 : decode cX3_meanOn 49 = .ok (.aload_n 0, 1) := by decide +kernel
theorem dX3_meanOn_50 : decode cX3_meanOn 50 = .ok (.getfield 27, 3) := by decide +kernel
theorem dX3_meanOn_53 : decode cX3_meanOn 53 = .ok (.aload_n 0, 1) := by decide +kernel
theorem dX3_meanOn_54 : decode cX3_meanOn 54 = .ok (.getfield 9, 3) := by decide +kernel
theorem dX3_meanOn_57 : decode cX3_meanOn 57 = .ok (.iload 6, 2) := by decide +kernel
theorem dX3_meanOn_59 : decode cX3_meanOn 59 = .ok (.iaload, 1) := by decide +kernel
theorem dX3_meanOn_60 : decode cX3_meanOn 60 = .ok (.bipush 6, 2) := by decide +kernel
theorem dX3_meanOn_62 : decode cX3_meanOn 62 = .ok (.imul, 1) := by decide +kernel
theorem dX3_meanOn_63 : decode cX3_meanOn 63 = .ok (.iload_n 2, 1) := by decide +kernel
theorem dX3_meanOn_64 : decode cX3_meanOn 64 = .ok (.iadd, 1) := by decide +kernel
theorem dX3_meanOn_65 : decode cX3_meanOn 65 = .ok (.iaload, 1) := by decide +kernel
theorem dX3_meanOn_66 : decode cX3_meanOn 66 = .ok (.isub, 1) := by decide +kernel
theorem dX3_meanOn_67 : decode cX3_meanOn 67 = .ok (.iadd, 1) := by decide +kernel
theorem dX3_meanOn_68 : decode cX3_meanOn 68 = .ok (.istore 4, 2) := by decide +kernel
theorem dX3_meanOn_70 : decode cX3_meanOn 70 = .ok (.iinc 5 1, 3) := by decide +kernel
theorem dX3_meanOn_73 : decode cX3_meanOn 73 = .ok (.iinc 6 1, 3) := by decide +kernel
theorem dX3_meanOn_76 : decode cX3_meanOn 76 = .ok (.goto (-67), 3) := by decide +kernel
theorem dX3_meanOn_79 : decode cX3_meanOn 79 = .ok (.iload 4, 2) := by decide +kernel
theorem dX3_meanOn_81 : decode cX3_meanOn 81 = .ok (.iload 5, 2) := by decide +kernel
theorem dX3_meanOn_83 : decode cX3_meanOn 83 = .ok (.invokestatic 45, 3) := by decide +kernel
theorem dX3_meanOn_86 : decode cX3_meanOn 86 = .ok (.ireturn, 1) := by decide +kernel
theorem dX4_init_0 : decode cX4_init 0 = .ok (.aload_n 0, 1) := by decide +kernel
theorem dX4_init_1 : decode cX4_init 1 = .ok (.invokespecial 3, 3) := by decide +kernel
theorem dX4_init_4 : decode cX4_init 4 = .ok (.aload_n 0, 1) := by decide +kernel
theorem dX4_init_5 : decode cX4_init 5 = .ok (.bipush 6, 2) := by decide +kernel
theorem dX4_init_7 : decode cX4_init 7 = .ok (.newarray .int, 2) := by decide +kernel
theorem dX4_init_9 : decode cX4_init 9 = .ok (.putfield 9, 3) := by decide +kernel
theorem dX4_init_12 : decode cX4_init 12 = .ok (.aload_n 0, 1) := by decide +kernel
theorem dX4_init_13 : decode cX4_init 13 = .ok (.bipush 6, 2) := by decide +kernel
theorem dX4_init_15 : decode cX4_init 15 = .ok (.newarray .int, 2) := by decide +kernel
theorem dX4_init_17 : decode cX4_init 17 = .ok (.putfield 15, 3) := by decide +kernel
theorem dX4_init_20 : decode cX4_init 20 = .ok (.aload_n 0, 1) := by decide +kernel
theorem dX4_init_21 : decode cX4_init 21 = .ok (.bipush 6, 2) := by decide +kernel
theorem dX4_init_23 : decode cX4_init 23 = .ok (.newarray .int, 2) := by decide +kernel
theorem dX4_init_25 : decode cX4_init 25 = .ok (.putfield 18, 3) := by decide +kernel
theorem dX4_init_28 : decode cX4_init 28 = .ok (.aload_n 0, 1) := by decide +kernel
theorem dX4_init_29 : decode cX4_init 29 = .ok (.bipush 6, 2) := by decide +kernel
theorem dX4_init_31 : decode cX4_init 31 = .ok (.newarray .int, 2) := by decide +kernel
theorem dX4_init_33 : decode cX4_init 33 = .ok (.putfield 21, 3) := by decide +kernel
theorem dX4_init_36 : decode cX4_init 36 = .ok (.aload_n 0, 1) := by decide +kernel
theorem dX4_init_37 : decode cX4_init 37 = .ok (.bipush 6, 2) := by decide +kernel
theorem dX4_init_39 : decode cX4_init 39 = .ok (.newarray .boolean, 2) := by decide +kernel
theorem dX4_init_41 : decode cX4_init 41 = .ok (.putfield 24, 3) := by decide +kernel
theorem dX4_init_44 : decode cX4_init 44 = .ok (.aload_n 0, 1) := by decide +kernel
theorem dX4_init_45 : decode cX4_init 45 = .ok (.bipush 6, 2) := by decide +kernel
theorem dX4_init_47 : decode cX4_init 47 = .ok (.newarray .int, 2) := by decide +kernel
theorem dX4_init_49 : decode cX4_init 49 = .ok (.putfield 28, 3) := by decide +kernel
theorem dX4_init_52 : decode cX4_init 52 = .ok (.aload_n 0, 1) := by decide +kernel
theorem dX4_init_53 : decode cX4_init 53 = .ok (.bipush 6, 2) := by decide +kernel
theorem dX4_init_55 : decode cX4_init 55 = .ok (.newarray .int, 2) := by decide +kernel
theorem dX4_init_57 : decode cX4_init 57 = .ok (.putfield 31, 3) := by decide +kernel
theorem dX4_init_60 : decode cX4_init 60 = .ok (.aload_n 0, 1) := by decide +kernel
theorem dX4_init_61 : decode cX4_init 61 = .ok (.iconst 0, 1) := by decide +kernel
theorem dX4_init_62 : decode cX4_init 62 = .ok (.putfield 34, 3) := by decide +kernel
theorem dX4_init_65 : decode cX4_init 65 = .ok (.aload_n 0, 1) := by decide +kernel
theorem dX4_init_66 : decode cX4_init 66 = .ok (.iconst 0, 1) := by decide +kernel
theorem dX4_init_67 : decode cX4_init 67 = .ok (.putfield 38, 3) := by decide +kernel
theorem dX4_init_70 : decode cX4_init 70 = .ok (.aload_n 0, 1) := by decide +kernel
theorem dX4_init_71 : decode cX4_init 71 = .ok (.iconst 0, 1) := by decide +kernel
theorem dX4_init_72 : decode cX4_init 72 = .ok (.putfield 41, 3) := by decide +kernel
theorem dX4_init_75 : decode cX4_init 75 = .ok (.return_, 1) := by decide +kernel
theorem dX4_addCoat_0 : decode cX4_addCoat 0 = .ok (.aload_n 0, 1) := by decide +kernel
theorem dX4_addCoat_1 : decode cX4_addCoat 1 = .ok (.getfield 34, 3) := by decide +kernel
theorem dX4_addCoat_4 : decode cX4_addCoat 4 = .ok (.bipush 6, 2) := by decide +kernel
theorem dX4_addCoat_6 : decode cX4_addCoat 6 = .ok (.if_icmp .lt 6, 3) := by decide +kernel
theorem dX4_addCoat_9 : decode cX4_addCoat 9 = .ok (.bipush (-4), 2) := by decide +kernel
theorem dX4_addCoat_11 : decode cX4_addCoat 11 = .ok (.ireturn, 1) := by decide +kernel
theorem dX4_addCoat_12 : decode cX4_addCoat 12 = .ok (.aload_n 0, 1) := by decide +kernel
theorem dX4_addCoat_13 : decode cX4_addCoat 13 = .ok (.getfield 9, 3) := by decide +kernel
theorem dX4_addCoat_16 : decode cX4_addCoat 16 = .ok (.aload_n 0, 1) := by decide +kernel
theorem dX4_addCoat_17 : decode cX4_addCoat 17 = .ok (.getfield 34, 3) := by decide +kernel
theorem dX4_addCoat_20 : decode cX4_addCoat 20 = .ok (.iload_n 1, 1) := by decide +kernel
theorem dX4_addCoat_21 : decode cX4_addCoat 21 = .ok (.iastore, 1) := by decide +kernel
theorem dX4_addCoat_22 : decode cX4_addCoat 22 = .ok (.aload_n 0, 1) := by decide +kernel
theorem dX4_addCoat_23 : decode cX4_addCoat 23 = .ok (.getfield 15, 3) := by decide +kernel
theorem dX4_addCoat_26 : decode cX4_addCoat 26 = .ok (.aload_n 0, 1) := by decide +kernel
theorem dX4_addCoat_27 : decode cX4_addCoat 27 = .ok (.getfield 34, 3) := by decide +kernel
theorem dX4_addCoat_30 : decode cX4_addCoat 30 = .ok (.iload_n 2, 1) := by decide +kernel
theorem dX4_addCoat_31 : decode cX4_addCoat 31 = .ok (.iastore, 1) := by decide +kernel
theorem dX4_addCoat_32 : decode cX4_addCoat 32 = .ok (.aload_n 0, 1) := by decide +kernel
theorem dX4_addCoat_33 : decode cX4_addCoat 33 = .ok (.getfield 18, 3) := by decide +kernel
theorem dX4_addCoat_36 : decode cX4_addCoat 36 = .ok (.aload_n 0, 1) := by decide +kernel
theorem dX4_addCoat_37 : decode cX4_addCoat 37 = .ok (.getfield 34, 3) := by decide +kernel
theorem dX4_addCoat_40 : decode cX4_addCoat 40 = .ok (.iload_n 3, 1) := by decide +kernel
theorem dX4_addCoat_41 : decode cX4_addCoat 41 = .ok (.iastore, 1) := by decide +kernel
theorem dX4_addCoat_42 : decode cX4_addCoat 42 = .ok (.aload_n 0, 1) := by decide +kernel
theorem dX4_addCoat_43 : decode cX4_addCoat 43 = .ok (.getfield 21, 3) := by decide +kernel
theorem dX4_addCoat_46 : decode cX4_addCoat 46 = .ok (.aload_n 0, 1) := by decide +kernel
theorem dX4_addCoat_47 : decode cX4_addCoat 47 = .ok (.getfield 34, 3) := by decide +kernel
theorem dX4_addCoat_50 : decode cX4_addCoat 50 = .ok (.iload 4, 2) := by decide +kernel
theorem dX4_addCoat_52 : decode cX4_addCoat 52 = .ok (.iastore, 1) := by decide +kernel
theorem dX4_addCoat_53 : decode cX4_addCoat 53 = .ok (.aload_n 0, 1) := by decide +kernel
theorem dX4_addCoat_54 : decode cX4_addCoat 54 = .ok (.dup, 1) := by decide +kernel
theorem dX4_addCoat_55 : decode cX4_addCoat 55 = .ok (.getfield 34, 3) := by decide +kernel
theorem dX4_addCoat_58 : decode cX4_addCoat 58 = .ok (.iconst 1, 1) := by decide +kernel
theorem dX4_addCoat_59 : decode cX4_addCoat 59 = .ok (.iadd, 1) := by decide +kernel
theorem dX4_addCoat_60 : decode cX4_addCoat 60 = .ok (.putfield 34, 3) := by decide +kernel
theorem dX4_addCoat_63 : decode cX4_addCoat 63 = .ok (.aload_n 0, 1) := by decide +kernel
theorem dX4_addCoat_64 : decode cX4_addCoat 64 = .ok (.getfield 34, 3) := by decide +kernel
theorem dX4_addCoat_67 : decode cX4_addCoat 67 = .ok (.iconst 1, 1) := by decide +kernel
theorem dX4_addCoat_68 : decode cX4_addCoat 68 = .ok (.isub, 1) := by decide +kernel
theorem dX4_addCoat_69 : decode cX4_addCoat 69 = .ok (.ireturn, 1) := by decide +kernel
set_option maxRecDepth 20000 in
theorem ggX4_findOrder_X4_makeNext : GoodIn wsX4_findOrder wsX4_makeNext := goodIn_r _ [10, 4, 5, 1, 11, 12, 13, 14, 15, 16, 2, 17, 18, 19, 20, 21, 22, 23, 24, 6, 7, 8, 9, 25, 26, 27, 28, 29, 30, 31, 32, 33, 34] (by decide +kernel) (by decide +kernel)
set_option maxRecDepth 20000 in
theorem gX4_findOrder_X4_makeNext : GoodIn wsX4_findOrder (wsV RX4 45 RX4 yX4_makeNext wsX4_makeNext) := goodIn_app (goodIn_of _ (by decide +kernel)) ggX4_findOrder_X4_makeNext
theorem dX4_findOrder_0 : decode cX4_findOrder 0 = .ok (.iconst 0, 1) := by decide +kernel
theorem dX4_findOrder_1 : decode cX4_findOrder 1 = .ok (.istore_n 1, 1) := by decide +kernel
theorem dX4_findOrder_2 : decode cX4_findOrder 2 = .ok (.iload_n 1, 1) := by decide +kernel
theorem dX4_findOrder_3 : decode cX4_findOrder 3 = .ok (.aload_n 0, 1) := by decide +kernel
theorem dX4_findOrder_4 : decode cX4_findOrder 4 = .ok (.getfield 34, 3) := by decide +kernel
theorem dX4_findOrder_7 : decode cX4_findOrder 7 = .ok (.if_icmp .ge 16, 3) := by decide +kernel
theorem dX4_findOrder_10 : decode cX4_findOrder 10 = .ok (.aload_n 0, 1) := by decide +kernel
theorem dX4_findOrder_11 : decode cX4_findOrder 11 = .ok (.getfield 24, 3) := by decide +kernel
theorem dX4_findOrder_14 : decode cX4_findOrder 14 = .ok (.iload_n 1, 1) := by decide +kernel
theorem dX4_findOrder_15 : decode cX4_findOrder 15 = .ok (.iconst 0, 1) := by decide +kernel
theorem dX4_findOrder_16 : decode cX4_findOrder 16 = .ok (.bastore, 1) := by decide +kernel
theorem dX4_findOrder_17 : decode cX4_findOrder 17 = .ok (.iinc 1 1, 3) := by decide +kernel
theorem dX4_findOrder_20 : decode cX4_findOrder 20 = .ok (.goto (-18), 3) := by decide +kernel
theorem dX4_findOrder_23 : decode cX4_findOrder 23 = .ok (.aload_n 0, 1) := by decide +kernel
theorem dX4_findOrder_24 : decode cX4_findOrder 24 = .ok (.ldc 44, 2) := by decide +kernel
theorem dX4_findOrder_26 : decode cX4_findOrder 26 = .ok (.putfield 38, 3) := by decide +kernel
theorem dX4_findOrder_29 : decode cX4_findOrder 29 = .ok (.aload_n 0, 1) := by decide +kernel
theorem dX4_findOrder_30 : decode cX4_findOrder 30 = .ok (.ldc 44, 2) := by decide +kernel
theorem dX4_findOrder_32 : decode cX4_findOrder 32 = .ok (.putfield 41, 3) := by decide +kernel
theorem dX4_findOrder_35 : decode cX4_findOrder 35 = .ok (.aload_n 0, 1) := by decide +kernel
theorem dX4_findOrder_36 : decode cX4_findOrder 36 = .ok (.iconst 0, 1) := by decide +kernel
theorem dX4_findOrder_37 : decode cX4_findOrder 37 = .ok (.iconst 0, 1) := by decide +kernel
theorem dX4_findOrder_38 : decode cX4_findOrder 38 = .ok (.iconst 0, 1) := by decide +kernel
theorem dX4_findOrder_39 : decode cX4_findOrder 39 = .ok (.iconst 0, 1) := by decide +kernel
theorem dX4_findOrder_40 : decode cX4_findOrder 40 = .ok (.iconst 0, 1) := by decide +kernel
theorem dX4_findOrder_41 : decode cX4_findOrder 41 = .ok (.invokevirtual 45, 3) := by decide +kernel
theorem dX4_findOrder_44 : decode cX4_findOrder 44 = .ok (.return_, 1) := by decide +kernel
set_option maxRecDepth 20000 in
theorem ggX4_mixCoats_X5_mix : GoodIn wsX4_mixCoats wsX5_mix := goodIn_r _ [8, 9] (by decide +kernel) (by decide +kernel)
set_option maxRecDepth 20000 in
theorem gX4_mixCoats_X5_mix_n49 : GoodIn wsX4_mixCoats (wsX5_mix) := ggX4_mixCoats_X5_mix
theorem dX4_mixCoats_0 : decode cX4_mixCoats 0 = .ok (.lload_n 1, 1) := by decide +kernel
theorem dX4_mixCoats_1 : decode cX4_mixCoats 1 = .ok (.lstore_n 3, 1) := by decide +kernel
theorem dX4_mixCoats_2 : decode cX4_mixCoats 2 = .ok (.iconst 0, 1) := by decide +kernel
theorem dX4_mixCoats_3 : decode cX4_mixCoats 3 = .ok (.istore 5, 2) := by decide +kernel
theorem dX4_mixCoats_5 : decode cX4_mixCoats 5 = .ok (.iload 5, 2) := by decide +kernel
theorem dX4_mixCoats_7 : decode cX4_mixCoats 7 = .ok (.aload_n 0, 1) := by decide +kernel
theorem dX4_mixCoats_8 : decode cX4_mixCoats 8 = .ok (.getfield 34, 3) := by decide +kernel
theorem dX4_mixCoats_11 : decode cX4_mixCoats 11 = .ok (.if_icmp .ge 57, 3) := by decide +kernel
theorem dX4_mixCoats_14 : decode cX4_mixCoats 14 = .ok (.lload_n 3, 1) := by decide +kernel
theorem dX4_mixCoats_15 : decode cX4_mixCoats 15 = .ok (.aload_n 0, 1) := by decide +kernel
theorem dX4_mixCoats_16 : decode cX4_mixCoats 16 = .ok (.getfield 9, 3) := by decide +kernel
theorem dX4_mixCoats_19 : decode cX4_mixCoats 19 = .ok (.iload 5, 2) := by decide +kernel
theorem dX4_mixCoats_21 : decode cX4_mixCoats 21 = .ok (.iaload, 1) := by decide +kernel
theorem dX4_mixCoats_22 : decode cX4_mixCoats 22 = .ok (.i2l, 1) := by decide +kernel
theorem dX4_mixCoats_23 : decode cX4_mixCoats 23 = .ok (.invokestatic 49, 3) := by decide +kernel
theorem dX4_mixCoats_26 : decode cX4_mixCoats 26 = .ok (.aload_n 0, 1) := by decide +kernel
theorem dX4_mixCoats_27 : decode cX4_mixCoats 27 = .ok (.getfield 15, 3) := by decide +kernel
theorem dX4_mixCoats_30 : decode cX4_mixCoats 30 = .ok (.iload 5, 2) := by decide +kernel
theorem dX4_mixCoats_32 : decode cX4_mixCoats 32 = .ok (.iaload, 1) := by decide +kernel
theorem dX4_mixCoats_33 : decode cX4_mixCoats 33 = .ok (.i2l, 1) := by decide +kernel
theorem dX4_mixCoats_34 : decode cX4_mixCoats 34 = .ok (.invokestatic 49, 3) := by decide +kernel
theorem dX4_mixCoats_37 : decode cX4_mixCoats 37 = .ok (.lstore_n 3, 1) := by decide +kernel
theorem dX4_mixCoats_38 : decode cX4_mixCoats 38 = .ok (.lload_n 3, 1) := by decide +kernel
theorem dX4_mixCoats_39 : decode cX4_mixCoats 39 = .ok (.aload_n 0, 1) := by decide +kernel
theorem dX4_mixCoats_40 : decode cX4_mixCoats 40 = .ok (.getfield 18, 3) := by decide +kernel
theorem dX4_mixCoats_43 : decode cX4_mixCoats 43 = .ok (.iload 5, 2) := by decide +kernel
theorem dX4_mixCoats_45 : decode cX4_mixCoats 45 = .ok (.iaload, 1) := by decide +kernel
theorem dX4_mixCoats_46 : decode cX4_mixCoats 46 = .ok (.i2l, 1) := by decide +kernel
theorem dX4_mixCoats_47 : decode cX4_mixCoats 47 = .ok (.invokestatic 49, 3) := by decide +kernel
theorem dX4_mixCoats_50 : decode cX4_mixCoats 50 = .ok (.aload_n 0, 1) := by decide +kernel
theorem dX4_mixCoats_51 : decode cX4_mixCoats 51 = .ok (.getfield 21, 3) := by decide +kernel
theorem dX4_mixCoats_54 : decode cX4_mixCoats 54 = .ok (.iload 5, 2) := by decide +kernel
theorem dX4_mixCoats_56 : decode cX4_mixCoats 56 = .ok (.iaload, 1) := by decide +kernel
theorem dX4_mixCoats_57 : decode cX4_mixCoats 57 = .ok (.i2l, 1) := by decide +kernel
theorem dX4_mixCoats_58 : decode cX4_mixCoats 58 = .ok (.invokestatic 49, 3) := by decide +kernel
theorem dX4_mixCoats_61 : decode cX4_mixCoats 61 = .ok (.lstore_n 3, 1) := by decide +kernel
theorem dX4_mixCoats_62 : decode cX4_mixCoats 62 = .ok (.iinc 5 1, 3) := by decide +kernel
theorem dX4_mixCoats_65 : decode cX4_mixCoats 65 = .ok (.goto (-60), 3) := by decide +kernel
theorem dX4_mixCoats_68 : decode cX4_mixCoats 68 = .ok (.lload_n 3, 1) := by decide +kernel
theorem dX4_mixCoats_69 : decode cX4_mixCoats 69 = .ok (.lreturn, 1) := by decide +kernel
set_option maxRecDepth 20000 in
theorem ggX4_makeNext_X4_makeNext : GoodIn wsX4_makeNext wsX4_makeNext := goodIn_r _ [0, 1, 2, 3, 4, 5, 6, 7, 8, 9, 10, 11, 12, 13, 14, 15, 16, 17, 18, 19, 20, 21, 22, 23, 24, 25, 26, 27, 28, 29, 30, 31, 32] (by decide +kernel) (by decide +kernel)
set_option maxRecDepth 20000 in
theorem gX4_makeNext_X4_makeNext : GoodIn wsX4_makeNext (wsV RX4 45 RX4 yX4_makeNext wsX4_makeNext) := goodIn_app (goodIn_of _ (by decide +kernel)) ggX4_makeNext_X4_makeNext
theorem dX4_makeNext_0 : decode cX4_makeNext 0 = .ok (.iload 5, 2) := by decide +kernel
theorem dX4_makeNext_2 : decode cX4_makeNext 2 = .ok (.aload_n 0, 1) := by decide +kernel
theorem dX4_makeNext_3 : decode cX4_makeNext 3 = .ok (.getfield 38, 3) := by decide +kernel
theorem dX4_makeNext_6 : decode cX4_makeNext 6 = .ok (.if_icmp .gt 21, 3) := by decide +kernel
theorem dX4_makeNext_9 : decode cX4_makeNext 9 = .ok (.iload 5, 2) := by decide +kernel
theorem dX4_makeNext_11 : decode cX4_makeNext 11 = .ok (.aload_n 0, 1) := by decide +kernel
theorem dX4_makeNext_12 : decode cX4_makeNext 12 = .ok (.getfield 38, 3) := by decide +kernel
theorem dX4_makeNext_15 : decode cX4_makeNext 15 = .ok (.if_icmp .ne 13, 3) := by decide +kernel
theorem dX4_makeNext_18 : decode cX4_makeNext 18 = .ok (.iload 4, 2) := by decide +kernel
theorem dX4_makeNext_20 : decode cX4_makeNext 20 = .ok (.aload_n 0, 1) := by decide +kernel
theorem dX4_makeNext_21 : decode cX4_makeNext 21 = .ok (.getfield 41, 3) := by decide +kernel
theorem dX4_makeNext_24 : decode cX4_makeNext 24 = .ok (.if_icmp .lt 4, 3) := by decide +kernel
theorem dX4_makeNext_27 : decode cX4_makeNext 27 = .ok (.return_, 1) := by decide +kernel
theorem dX4_makeNext_28 : decode cX4_makeNext 28 = .ok (.iload_n 1, 1) := by decide +kernel
theorem dX4_makeNext_29 : decode cX4_makeNext 29 = .ok (.aload_n 0, 1) := by decide +kernel
theorem dX4_makeNext_30 : decode cX4_makeNext 30 = .ok (.getfield 34, 3) := by decide +kernel
theorem dX4_makeNext_33 : decode cX4_makeNext 33 = .ok (.if_icmp .lt 33, 3) := by decide +kernel
theorem dX4_makeNext_36 : decode cX4_makeNext 36 = .ok (.aload_n 0, 1) := by decide +kernel
theorem dX4_makeNext_37 : decode cX4_makeNext 37 = .ok (.iload 5, 2) := by decide +kernel
theorem dX4_makeNext_39 : decode cX4_makeNext 39 = .ok (.putfield 38, 3) := by decide +kernel
theorem dX4_makeNext_42 : decode cX4_makeNext 42 = .ok (.aload_n 0, 1) := by decide +kernel
theorem dX4_makeNext_43 : decode cX4_makeNext 43 = .ok (.iload 4, 2) := by decide +kernel
theorem dX4_makeNext_45 : decode cX4_makeNext 45 = .ok (.putfield 41, 3) := by decide +kernel
theorem dX4_makeNext_48 : decode cX4_makeNext 48 = .ok (.aload_n 0, 1) := by decide +kernel
theorem dX4_makeNext_49 : decode cX4_makeNext 49 = .ok (.getfield 28, 3) := by decide +kernel
theorem dX4_makeNext_52 : decode cX4_makeNext 52 = .ok (.iconst 0, 1) := by decide +kernel
theorem dX4_makeNext_53 : decode cX4_makeNext 53 = .ok (.aload_n 0, 1) := by decide +kernel
theorem dX4_makeNext_54 : decode cX4_makeNext 54 = .ok (.getfield 31, 3) := by decide +kernel
theorem dX4_makeNext_57 : decode cX4_makeNext 57 = .ok (.iconst 0, 1) := by decide +kernel
theorem dX4_makeNext_58 : decode cX4_makeNext 58 = .ok (.aload_n 0, 1) := by decide +kernel
theorem dX4_makeNext_59 : decode cX4_makeNext 59 = .ok (.getfield 34, 3) := by decide +kernel
theorem dX4_makeNext_62 : decode cX4_makeNext 62 = .ok (.invokestatic 53, 3) := by decide +kernel
theorem dX4_makeNext_65 : decode cX4_makeNext 65 = .ok (.return_, 1) := by decide +kernel
theorem dX4_makeNext_66 : decode cX4_makeNext 66 = .ok (.iconst 0, 1) := by decide +kernel
theorem dX4_makeNext_67 : decode cX4_makeNext 67 = .ok (.istore 6, 2) := by decide +kernel
theorem dX4_makeNext_69 : decode cX4_makeNext 69 = .ok (.iload 6, 2) := by decide +kernel
theorem dX4_makeNext_71 : decode cX4_makeNext 71 = .ok (.aload_n 0, 1) := by decide +kernel
theorem dX4_makeNext_72 : decode cX4_makeNext 72 = .ok (.getfield 34, 3) := by decide +kernel
theorem dX4_makeNext_75 : decode cX4_makeNext 75 = .ok (.if_icmp .ge 124, 3) := by decide +kernel
theorem dX4_makeNext_78 : decode cX4_makeNext 78 = .ok (.aload_n 0, 1) := by decide +kernel
theorem dX4_makeNext_79 : decode cX4_makeNext 79 = .ok (.getfield 24, 3) := by decide +kernel
theorem dX4_makeNext_82 : decode cX4_makeNext 82 = .ok (.iload 6, 2) := by decide +kernel
theorem dX4_makeNext_84 : decode cX4_makeNext 84 = .ok (.baload, 1) := by decide +kernel
theorem dX4_makeNext_85 : decode cX4_makeNext 85 = .ok (.ifCond .eq 6, 3) := by decide +kernel
theorem dX4_makeNext_88 : decode cX4_makeNext 88 = .ok (.goto 105, 3) := by decide +kernel
theorem dX4_makeNext_91 : decode cX4_makeNext 91 = .ok (.aload_n 0, 1) := by decide +kernel
theorem dX4_makeNext_92 : decode cX4_makeNext 92 = .ok (.getfield 24, 3) := by decide +kernel
theorem dX4_makeNext_95 : decode cX4_makeNext 95 = .ok (.iload 6, 2) := by decide +kernel
theorem dX4_makeNext_97 : decode cX4_makeNext 97 = .ok (.iconst 1, 1) := by decide +kernel
theorem dX4_makeNext_98 : decode cX4_makeNext 98 = .ok (.bastore, 1) := by decide +kernel
theorem dX4_makeNext_99 : decode cX4_makeNext 99 = .ok (.aload_n 0, 1) := by decide +kernel
theorem dX4_makeNext_100 : decode cX4_makeNext 100 = .ok (.getfield 28, 3) := by decide +kernel
theorem dX4_makeNext_103 : decode cX4_makeNext 103 = .ok (.iload_n 1, 1) := by decide +kernel
theorem dX4_makeNext_104 : decode cX4_makeNext 104 = .ok (.iload 6, 2) := by decide +kernel
theorem dX4_makeNext_106 : decode cX4_makeNext 106 = .ok (.iastore, 1) := by decide +kernel
theorem dX4_makeNext_107 : decode cX4_makeNext 107 = .ok (.iload_n 2, 1) := by decide +kernel
theorem dX4_makeNext_108 : decode cX4_makeNext 108 = .ok (.aload_n 0, 1) := by decide +kernel
theorem dX4_makeNext_109 : decode cX4_makeNext 109 = .ok (.getfield 9, 3) := by decide +kernel
theorem dX4_makeNext_112 : decode cX4_makeNext 112 = .ok (.iload 6, 2) := by decide +kernel
theorem dX4_makeNext_114 : decode cX4_makeNext 114 = .ok (.iaload, 1) := by decide +kernel
theorem dX4_makeNext_115 : decode cX4_makeNext 115 = .ok (.iadd, 1) := by decide +kernel
theorem dX4_makeNext_116 : decode cX4_makeNext 116 = .ok (.istore 7, 2) := by decide +kernel
theorem dX4_makeNext_118 : decode cX4_makeNext 118 = .ok (.iload 7, 2) := by decide +kernel
theorem dX4_makeNext_120 : decode cX4_makeNext 120 = .ok (.iload_n 3, 1) := by decide +kernel
theorem dX4_makeNext_121 : decode cX4_makeNext 121 = .ok (.invokestatic 59, 3) := by decide +kernel
theorem dX4_makeNext_124 : decode cX4_makeNext 124 = .ok (.aload_n 0, 1) := by decide +kernel
theorem dX4_makeNext_125 : decode cX4_makeNext 125 = .ok (.getfield 15, 3) := by decide +kernel
theorem dX4_makeNext_128 : decode cX4_makeNext 128 = .ok (.iload 6, 2) := by decide +kernel
theorem dX4_makeNext_130 : decode cX4_makeNext 130 = .ok (.iaload, 1) := by decide +kernel
theorem dX4_makeNext_131 : decode cX4_makeNext 131 = .ok (.iadd, 1) := by decide +kernel
theorem dX4_makeNext_132 : decode cX4_makeNext 132 = .ok (.istore 8, 2) := by decide +kernel
theorem dX4_makeNext_134 : decode cX4_makeNext 134 = .ok (.iload 8, 2) := by decide +kernel
theorem dX4_makeNext_136 : decode cX4_makeNext 136 = .ok (.iload 4, 2) := by decide +kernel
theorem dX4_makeNext_138 : decode cX4_makeNext 138 = .ok (.invokestatic 59, 3) := by decide +kernel
theorem dX4_makeNext_141 : decode cX4_makeNext 141 = .ok (.aload_n 0, 1) := by decide +kernel
theorem dX4_makeNext_142 : decode cX4_makeNext 142 = .ok (.getfield 18, 3) := by decide +kernel
theorem dX4_makeNext_145 : decode cX4_makeNext 145 = .ok (.iload 6, 2) := by decide +kernel
theorem dX4_makeNext_147 : decode cX4_makeNext 147 = .ok (.iaload, 1) := by decide +kernel
theorem dX4_makeNext_148 : decode cX4_makeNext 148 = .ok (.iadd, 1) := by decide +kernel
theorem dX4_makeNext_149 : decode cX4_makeNext 149 = .ok (.istore 9, 2) := by decide +kernel
theorem dX4_makeNext_151 : decode cX4_makeNext 151 = .ok (.iload 9, 2) := by decide +kernel
theorem dX4_makeNext_153 : decode cX4_makeNext 153 = .ok (.aload_n 0, 1) := by decide +kernel
theorem dX4_makeNext_154 : decode cX4_makeNext 154 = .ok (.getfield 21, 3) := by decide +kernel
theorem dX4_makeNext_157 : decode cX4_makeNext 157 = .ok (.iload 6, 2) := by decide +kernel
theorem dX4_makeNext_159 : decode cX4_makeNext 159 = .ok (.iaload, 1) := by decide +kernel
theorem dX4_makeNext_160 : decode cX4_makeNext 160 = .ok (.isub, 1) := by decide +kernel
theorem dX4_makeNext_161 : decode cX4_makeNext 161 = .ok (.iconst 0, 1) := by decide +kernel
theorem dX4_makeNext_162 : decode cX4_makeNext 162 = .ok (.invokestatic 59, 3) := by decide +kernel
theorem dX4_makeNext_165 : decode cX4_makeNext 165 = .ok (.istore 10, 2) := by decide +kernel
theorem dX4_makeNext_167 : decode cX4_makeNext 167 = .ok (.aload_n 0, 1) := by decide +kernel
theorem dX4_makeNext_168 : decode cX4_makeNext 168 = .ok (.iload_n 1, 1) := by decide +kernel
theorem dX4_makeNext_169 : decode cX4_makeNext 169 = .ok (.iconst 1, 1) := by decide +kernel
theorem dX4_makeNext_170 : decode cX4_makeNext 170 = .ok (.iadd, 1) := by decide +kernel
theorem dX4_makeNext_171 : decode cX4_makeNext 171 = .ok (.iload 7, 2) := by decide +kernel
theorem dX4_makeNext_173 : decode cX4_makeNext 173 = .ok (.iload 8, 2) := by decide +kernel
theorem dX4_makeNext_175 : decode cX4_makeNext 175 = .ok (.iload 9, 2) := by decide +kernel
theorem dX4_makeNext_177 : decode cX4_makeNext 177 = .ok (.iload 5, 2) := by decide +kernel
theorem dX4_makeNext_179 : decode cX4_makeNext 179 = .ok (.iload 10, 2) := by decide +kernel
theorem dX4_makeNext_181 : decode cX4_makeNext 181 = .ok (.iadd, 1) := by decide +kernel
theorem dX4_makeNext_182 : decode cX4_makeNext 182 = .ok (.invokevirtual 45, 3) := by decide +kernel
theorem dX4_makeNext_185 : decode cX4_makeNext 185 = .ok (.aload_n 0, 1) := by decide +kernel
theorem dX4_makeNext_186 : decode cX4_makeNext 186 = .ok (.getfield 24, 3) := by decide +kernel
theorem dX4_makeNext_189 : decode cX4_makeNext 189 = .ok (.iload 6, 2) := by decide +kernel
theorem dX4_makeNext_191 : decode cX4_makeNext 191 = .ok (.iconst 0, 1) := by decide +kernel
theorem dX4_makeNext_192 : decode cX4_makeNext 192 = .ok (.bastore, 1) := by decide +kernel
theorem dX4_makeNext_193 : decode cX4_makeNext 193 = .ok (.iinc 6 1, 3) := by decide +kernel
theorem dX4_makeNext_196 : decode cX4_makeNext 196 = .ok (.goto (-127), 3) := by decide +kernel
theorem dX4_makeNext_199 : decode cX4_makeNext 199 = .ok (.return_, 1) := by decide +kernel
set_option maxRecDepth 20000 in
theorem ggX5_init_X3_init : GoodIn wsX5_init wsX3_init := goodIn_r _ [25, 26, 2, 3, 27, 28, 29, 30, 31, 32, 33, 34, 85, 86, 87, 88, 89, 90, 91] (by decide +kernel) (by decide +kernel)
set_option maxRecDepth 20000 in
theorem gX5_init_X3_init_n11 : GoodIn wsX5_init (wsX3_init) := ggX5_init_X3_init
set_option maxRecDepth 20000 in
theorem ggX5_init_X0_init : GoodIn wsX5_init wsX0_init := goodIn_r _ [37, 38, 2, 3, 27, 39, 40, 41, 42, 43, 44, 45, 46, 47, 48, 97, 98, 99, 100, 101, 102, 103, 104, 105, 106] (by decide +kernel) (by decide +kernel)
set_option maxRecDepth 20000 in
theorem gX5_init_X0_init : GoodIn wsX5_init (wsX0_init) := ggX5_init_X0_init
set_option maxRecDepth 20000 in
theorem ggX5_init_X1_init : GoodIn wsX5_init wsX1_init := goodIn_r _ [51, 52, 2, 3, 27, 53, 54, 55, 56, 57, 58, 107, 108, 109, 110, 111, 112] (by decide +kernel) (by decide +kernel)
set_option maxRecDepth 20000 in
theorem gX5_init_X1_init : GoodIn wsX5_init (wsX1_init) := ggX5_init_X1_init
set_option maxRecDepth 20000 in
theorem ggX5_init_X2_init : GoodIn wsX5_init wsX2_init := goodIn_r _ [60, 61, 2, 3, 27, 62, 63, 64, 65, 66, 67, 68, 69, 70, 71, 113, 114, 115, 116, 117, 118, 119, 120, 121] (by decide +kernel) (by decide +kernel)
set_option maxRecDepth 20000 in
theorem gX5_init_X2_init_n36 : GoodIn wsX5_init (wsX2_init) := ggX5_init_X2_init
set_option maxRecDepth 20000 in
theorem ggX5_init_X4_init : GoodIn wsX5_init wsX4_init := goodIn_r _ [73, 74, 2, 3, 27, 75, 76, 77, 78, 64, 79, 80, 81, 82, 83, 84, 122, 123, 124, 125, 126, 127, 128, 129, 130, 131] (by decide +kernel) (by decide +kernel)
set_option maxRecDepth 20000 in
theorem gX5_init_X4_init_n43 : GoodIn wsX5_init (wsX4_init) := ggX5_init_X4_init
theorem dX5_init_0 : decode cX5_init 0 = .ok (.aload_n 0, 1) := by decide +kernel
theorem dX5_init_1 : decode cX5_init 1 = .ok (.invokespecial 3, 3) := by decide +kernel
theorem dX5_init_4 : decode cX5_init 4 = .ok (.aload_n 0, 1) := by decide +kernel
theorem dX5_init_5 : decode cX5_init 5 = .ok (.new 9, 3) := by decide +kernel
theorem dX5_init_8 : decode cX5_init 8 = .ok (.dup, 1) := by decide +kernel
theorem dX5_init_9 : decode cX5_init 9 = .ok (.invokespecial 11, 3) := by decide +kernel
theorem dX5_init_12 : decode cX5_init 12 = .ok (.putfield 12, 3) := by decide +kernel
theorem dX5_init_15 : decode cX5_init 15 = .ok (.aload_n 0, 1) := by decide +kernel
theorem dX5_init_16 : decode cX5_init 16 = .ok (.new 16, 3) := by decide +kernel
theorem dX5_init_19 : decode cX5_init 19 = .ok (.dup, 1) := by decide +kernel
theorem dX5_init_20 : decode cX5_init 20 = .ok (.aload_n 0, 1) := by decide +kernel
theorem dX5_init_21 : decode cX5_init 21 = .ok (.getfield 12, 3) := by decide +kernel
theorem dX5_init_24 : decode cX5_init 24 = .ok (.invokespecial 18, 3) := by decide +kernel
theorem dX5_init_27 : decode cX5_init 27 = .ok (.putfield 21, 3) := by decide +kernel
theorem dX5_init_30 : decode cX5_init 30 = .ok (.aload_n 0, 1) := by decide +kernel
theorem dX5_init_31 : decode cX5_init 31 = .ok (.new 25, 3) := by decide +kernel
theorem dX5_init_34 : decode cX5_init 34 = .ok (.dup, 1) := by decide +kernel
theorem dX5_init_35 : decode cX5_init 35 = .ok (.aload_n 0, 1) := by decide +kernel
theorem dX5_init_36 : decode cX5_init 36 = .ok (.getfield 21, 3) := by decide +kernel
theorem dX5_init_39 : decode cX5_init 39 = .ok (.invokespecial 27, 3) := by decide +kernel
theorem dX5_init_42 : decode cX5_init 42 = .ok (.putfield 30, 3) := by decide +kernel
theorem dX5_init_45 : decode cX5_init 45 = .ok (.aload_n 0, 1) := by decide +kernel
theorem dX5_init_46 : decode cX5_init 46 = .ok (.new 34, 3) := by decide +kernel
theorem dX5_init_49 : decode cX5_init 49 = .ok (.dup, 1) := by decide +kernel
theorem dX5_init_50 : decode cX5_init 50 = .ok (.invokespecial 36, 3) := by decide +kernel
theorem dX5_init_53 : decode cX5_init 53 = .ok (.putfield 37, 3) := by decide +kernel
theorem dX5_init_56 : decode cX5_init 56 = .ok (.aload_n 0, 1) := by decide +kernel
theorem dX5_init_57 : decode cX5_init 57 = .ok (.new 41, 3) := by decide +kernel
theorem dX5_init_60 : decode cX5_init 60 = .ok (.dup, 1) := by decide +kernel
theorem dX5_init_61 : decode cX5_init 61 = .ok (.invokespecial 43, 3) := by decide +kernel
theorem dX5_init_64 : decode cX5_init 64 = .ok (.putfield 44, 3) := by decide +kernel
theorem dX5_init_67 : decode cX5_init 67 = .ok (.return_, 1) := by decide +kernel
set_option maxRecDepth 20000 in
theorem ggX5_tell_X5_isHand : GoodIn wsX5_tell wsX5_isHand := goodIn_r _ [5, 6, 7, 4, 8] (by decide +kernel) (by decide +kernel)
set_option maxRecDepth 20000 in
theorem gX5_tell_X5_isHand : GoodIn wsX5_tell (va_wsS RX5 48 yX5_isHand wsX5_isHand) := goodIn_app (goodIn_of _ (by decide +kernel)) ggX5_tell_X5_isHand
set_option maxRecDepth 20000 in
theorem ggX5_tell_X5_isBody : GoodIn wsX5_tell wsX5_isBody := goodIn_r _ [11, 6, 7, 4, 8] (by decide +kernel) (by decide +kernel)
set_option maxRecDepth 20000 in
theorem gX5_tell_X5_isBody : GoodIn wsX5_tell (va_wsS RX5 52 yX5_isBody wsX5_isBody) := goodIn_app (goodIn_of _ (by decide +kernel)) ggX5_tell_X5_isBody
set_option maxRecDepth 20000 in
theorem ggX5_tell_X5_isMeasure : GoodIn wsX5_tell wsX5_isMeasure := goodIn_r _ [14, 6, 7, 4, 8] (by decide +kernel) (by decide +kernel)
set_option maxRecDepth 20000 in
theorem gX5_tell_X5_isMeasure : GoodIn wsX5_tell (va_wsS RX5 55 yX5_isMeasure wsX5_isMeasure) := goodIn_app (goodIn_of _ (by decide +kernel)) ggX5_tell_X5_isMeasure
set_option maxRecDepth 20000 in
theorem ggX5_tell_X5_within : GoodIn wsX5_tell wsX5_within := goodIn_r _ [8] (by decide +kernel) (by decide +kernel)
set_option maxRecDepth 20000 in
theorem gX5_tell_X5_within : GoodIn wsX5_tell (va_wsS RX5 58 yX5_within wsX5_within) := goodIn_app (goodIn_of _ (by decide +kernel)) ggX5_tell_X5_within
set_option maxRecDepth 20000 in
theorem ggX5_tell_X3_keep : GoodIn wsX5_tell wsX3_keep := goodIn_r _ [19, 20, 21, 22, 23, 24, 25, 31, 32, 33, 34, 35, 36, 37] (by decide +kernel) (by decide +kernel)
set_option maxRecDepth 20000 in
theorem gX5_tell_X3_keep : GoodIn wsX5_tell (wsV RX5 62 RX3 yX3_keep wsX3_keep) := goodIn_app (goodIn_of _ (by decide +kernel)) ggX5_tell_X3_keep
theorem dX5_tell_0 : decode cX5_tell 0 = .ok (.iload_n 1, 1) := by decide +kernel
theorem dX5_tell_1 : decode cX5_tell 1 = .ok (.invokestatic 48, 3) := by decide +kernel
theorem dX5_tell_4 : decode cX5_tell 4 = .ok (.ifCond .eq 17, 3) := by decide +kernel
theorem dX5_tell_7 : decode cX5_tell 7 = .ok (.iload_n 2, 1) := by decide +kernel
theorem dX5_tell_8 : decode cX5_tell 8 = .ok (.invokestatic 52, 3) := by decide +kernel
theorem dX5_tell_11 : decode cX5_tell 11 = .ok (.ifCond .eq 10, 3) := by decide +kernel
theorem dX5_tell_14 : decode cX5_tell 14 = .ok (.iload_n 3, 1) := by decide +kernel
theorem dX5_tell_15 : decode cX5_tell 15 = .ok (.invokestatic 55, 3) := by decide +kernel
theorem dX5_tell_18 : decode cX5_tell 18 = .ok (.ifCond .ne 6, 3) := by decide +kernel
theorem dX5_tell_21 : decode cX5_tell 21 = .ok (.bipush (-2), 2) := by decide +kernel
theorem dX5_tell_23 : decode cX5_tell 23 = .ok (.ireturn, 1) := by decide +kernel
theorem dX5_tell_24 : decode cX5_tell 24 = .ok (.iload 4, 2) := by decide +kernel
theorem dX5_tell_26 : decode cX5_tell 26 = .ok (.iconst 0, 1) := by decide +kernel
theorem dX5_tell_27 : decode cX5_tell 27 = .ok (.sipush 10000, 3) := by decide +kernel
theorem dX5_tell_30 : decode cX5_tell 30 = .ok (.invokestatic 58, 3) := by decide +kernel
theorem dX5_tell_33 : decode cX5_tell 33 = .ok (.ifCond .eq 15, 3) := by decide +kernel
theorem dX5_tell_36 : decode cX5_tell 36 = .ok (.iload 5, 2) := by decide +kernel
theorem dX5_tell_38 : decode cX5_tell 38 = .ok (.iconst 0, 1) := by decide +kernel
theorem dX5_tell_39 : decode cX5_tell 39 = .ok (.sipush 3000, 3) := by decide +kernel
theorem dX5_tell_42 : decode cX5_tell 42 = .ok (.invokestatic 58, 3) := by decide +kernel
theorem dX5_tell_45 : decode cX5_tell 45 = .ok (.ifCond .ne 6, 3) := by decide +kernel
theorem dX5_tell_48 : decode cX5_tell 48 = .ok (.bipush (-2), 2) := by decide +kernel
theorem dX5_tell_50 : decode cX5_tell 50 = .ok (.ireturn, 1) := by decide +kernel
theorem dX5_tell_51 : decode cX5_tell 51 = .ok (.aload_n 0, 1) := by decide +kernel
theorem dX5_tell_52 : decode cX5_tell 52 = .ok (.getfield 12, 3) := by decide +kernel
theorem dX5_tell_55 : decode cX5_tell 55 = .ok (.iload_n 1, 1) := by decide +kernel
theorem dX5_tell_56 : decode cX5_tell 56 = .ok (.iload_n 2, 1) := by decide +kernel
theorem dX5_tell_57 : decode cX5_tell 57 = .ok (.iload_n 3, 1) := by decide +kernel
theorem dX5_tell_58 : decode cX5_tell 58 = .ok (.iload 4, 2) := by decide +kernel
theorem dX5_tell_60 : decode cX5_tell 60 = .ok (.iload 5, 2) := by decide +kernel
theorem dX5_tell_62 : decode cX5_tell 62 = .ok (.invokevirtual 62, 3) := by decide +kernel
theorem dX5_tell_65 : decode cX5_tell 65 = .ok (.ireturn, 1) := by decide +kernel
set_option maxRecDepth 20000 in
theorem ggX5_habit_X5_isHand : GoodIn wsX5_habit wsX5_isHand := goodIn_r _ [5, 6, 7, 4, 8] (by decide +kernel) (by decide +kernel)
set_option maxRecDepth 20000 in
theorem gX5_habit_X5_isHand : GoodIn wsX5_habit (va_wsS RX5 48 yX5_isHand wsX5_isHand) := goodIn_app (goodIn_of _ (by decide +kernel)) ggX5_habit_X5_isHand
set_option maxRecDepth 20000 in
theorem ggX5_habit_X5_isMeasure : GoodIn wsX5_habit wsX5_isMeasure := goodIn_r _ [11, 6, 7, 4, 8] (by decide +kernel) (by decide +kernel)
set_option maxRecDepth 20000 in
theorem gX5_habit_X5_isMeasure : GoodIn wsX5_habit (va_wsS RX5 55 yX5_isMeasure wsX5_isMeasure) := goodIn_app (goodIn_of _ (by decide +kernel)) ggX5_habit_X5_isMeasure
set_option maxRecDepth 20000 in
theorem ggX5_habit_X5_within : GoodIn wsX5_habit wsX5_within := goodIn_r _ [8] (by decide +kernel) (by decide +kernel)
set_option maxRecDepth 20000 in
theorem gX5_habit_X5_within : GoodIn wsX5_habit (va_wsS RX5 58 yX5_within wsX5_within) := goodIn_app (goodIn_of _ (by decide +kernel)) ggX5_habit_X5_within
set_option maxRecDepth 20000 in
theorem ggX5_habit_X3_changeHabit : GoodIn wsX5_habit wsX3_changeHabit := goodIn_r _ [16, 17, 23, 24, 25, 26, 27, 28, 29] (by decide +kernel) (by decide +kernel)
set_option maxRecDepth 20000 in
theorem gX5_habit_X3_changeHabit : GoodIn wsX5_habit (wsV RX5 66 RX3 yX3_changeHabit wsX3_changeHabit) := goodIn_app (goodIn_of _ (by decide +kernel)) ggX5_habit_X3_changeHabit
theorem dX5_habit_0 : decode cX5_habit 0 = .ok (.iload_n 1, 1) := by decide +kernel
theorem dX5_habit_1 : decode cX5_habit 1 = .ok (.invokestatic 48, 3) := by decide +kernel
theorem dX5_habit_4 : decode cX5_habit 4 = .ok (.ifCond .eq 21, 3) := by decide +kernel
theorem dX5_habit_7 : decode cX5_habit 7 = .ok (.iload_n 2, 1) := by decide +kernel
theorem dX5_habit_8 : decode cX5_habit 8 = .ok (.invokestatic 55, 3) := by decide +kernel
theorem dX5_habit_11 : decode cX5_habit 11 = .ok (.ifCond .eq 14, 3) := by decide +kernel
theorem dX5_habit_14 : decode cX5_habit 14 = .ok (.iload_n 3, 1) := by decide +kernel
theorem dX5_habit_15 : decode cX5_habit 15 = .ok (.bipush (-50), 2) := by decide +kernel
theorem dX5_habit_17 : decode cX5_habit 17 = .ok (.bipush 50, 2) := by decide +kernel
theorem dX5_habit_19 : decode cX5_habit 19 = .ok (.invokestatic 58, 3) := by decide +kernel
theorem dX5_habit_22 : decode cX5_habit 22 = .ok (.ifCond .ne 7, 3) := by decide +kernel
theorem dX5_habit_25 : decode cX5_habit 25 = .ok (.sipush (-1000), 3) := by decide +kernel
theorem dX5_habit_28 : decode cX5_habit 28 = .ok (.ireturn, 1) := by decide +kernel
theorem dX5_habit_29 : decode cX5_habit 29 = .ok (.aload_n 0, 1) := by decide +kernel
theorem dX5_habit_30 : decode cX5_habit 30 = .ok (.getfield 12, 3) := by decide +kernel
theorem dX5_habit_33 : decode cX5_habit 33 = .ok (.iload_n 1, 1) := by decide +kernel
theorem dX5_habit_34 : decode cX5_habit 34 = .ok (.iload_n 2, 1) := by decide +kernel
theorem dX5_habit_35 : decode cX5_habit 35 = .ok (.iload_n 3, 1) := by decide +kernel
theorem dX5_habit_36 : decode cX5_habit 36 = .ok (.invokevirtual 66, 3) := by decide +kernel
theorem dX5_habit_39 : decode cX5_habit 39 = .ok (.ireturn, 1) := by decide +kernel
set_option maxRecDepth 20000 in
theorem ggX5_measure_X5_isBody : GoodIn wsX5_measure wsX5_isBody := goodIn_r _ [5, 6, 7, 4, 8] (by decide +kernel) (by decide +kernel)
set_option maxRecDepth 20000 in
theorem gX5_measure_X5_isBody : GoodIn wsX5_measure (va_wsS RX5 52 yX5_isBody wsX5_isBody) := goodIn_app (goodIn_of _ (by decide +kernel)) ggX5_measure_X5_isBody
set_option maxRecDepth 20000 in
theorem ggX5_measure_X5_isMeasure : GoodIn wsX5_measure wsX5_isMeasure := goodIn_r _ [11, 6, 7, 4, 8] (by decide +kernel) (by decide +kernel)
set_option maxRecDepth 20000 in
theorem gX5_measure_X5_isMeasure : GoodIn wsX5_measure (va_wsS RX5 55 yX5_isMeasure wsX5_isMeasure) := goodIn_app (goodIn_of _ (by decide +kernel)) ggX5_measure_X5_isMeasure
set_option maxRecDepth 20000 in
theorem ggX5_measure_X3_latest : GoodIn wsX5_measure wsX3_latest := goodIn_r _ [16, 17, 18, 19, 15, 20, 21, 22, 23, 24, 25, 26, 27, 28, 29, 30, 31, 32, 33, 34, 35, 36, 4, 37, 43, 44, 45, 46, 47, 48, 49] (by decide +kernel) (by decide +kernel)
set_option maxRecDepth 20000 in
theorem gX5_measure_X3_latest : GoodIn wsX5_measure (wsV RX5 70 RX3 yX3_latest wsX3_latest) := goodIn_app (goodIn_of _ (by decide +kernel)) ggX5_measure_X3_latest
theorem dX5_measure_0 : decode cX5_measure 0 = .ok (.iload_n 1, 1) := by decide +kernel
theorem dX5_measure_1 : decode cX5_measure 1 = .ok (.invokestatic 52, 3) := by decide +kernel
theorem dX5_measure_4 : decode cX5_measure 4 = .ok (.ifCond .eq 10, 3) := by decide +kernel
theorem dX5_measure_7 : decode cX5_measure 7 = .ok (.iload_n 2, 1) := by decide +kernel
theorem dX5_measure_8 : decode cX5_measure 8 = .ok (.invokestatic 55, 3) := by decide +kernel
theorem dX5_measure_11 : decode cX5_measure 11 = .ok (.ifCond .ne 6, 3) := by decide +kernel
theorem dX5_measure_14 : decode cX5_measure 14 = .ok (.bipush (-2), 2) := by decide +kernel
theorem dX5_measure_16 : decode cX5_measure 16 = .ok (.ireturn, 1) := by decide +kernel
theorem dX5_measure_17 : decode cX5_measure 17 = .ok (.aload_n 0, 1) := by decide +kernel
theorem dX5_measure_18 : decode cX5_measure 18 = .ok (.getfield 12, 3) := by decide +kernel
theorem dX5_measure_21 : decode cX5_measure 21 = .ok (.iload_n 1, 1) := by decide +kernel
theorem dX5_measure_22 : decode cX5_measure 22 = .ok (.iload_n 2, 1) := by decide +kernel
theorem dX5_measure_23 : decode cX5_measure 23 = .ok (.invokevirtual 70, 3) := by decide +kernel
theorem dX5_measure_26 : decode cX5_measure 26 = .ok (.ireturn, 1) := by decide +kernel
set_option maxRecDepth 20000 in
theorem ggX5_grown_X5_isBody : GoodIn wsX5_grown wsX5_isBody := goodIn_r _ [5, 6, 7, 4, 8] (by decide +kernel) (by decide +kernel)
set_option maxRecDepth 20000 in
theorem gX5_grown_X5_isBody : GoodIn wsX5_grown (va_wsS RX5 52 yX5_isBody wsX5_isBody) := goodIn_app (goodIn_of _ (by decide +kernel)) ggX5_grown_X5_isBody
set_option maxRecDepth 20000 in
theorem ggX5_grown_X5_isMeasure : GoodIn wsX5_grown wsX5_isMeasure := goodIn_r _ [11, 6, 7, 4, 8] (by decide +kernel) (by decide +kernel)
set_option maxRecDepth 20000 in
theorem gX5_grown_X5_isMeasure : GoodIn wsX5_grown (va_wsS RX5 55 yX5_isMeasure wsX5_isMeasure) := goodIn_app (goodIn_of _ (by decide +kernel)) ggX5_grown_X5_isMeasure
set_option maxRecDepth 20000 in
theorem ggX5_grown_X3_growth : GoodIn wsX5_grown wsX3_growth := goodIn_r _ [16, 17, 18, 19, 15, 20, 21, 22, 23, 24, 25, 26, 27, 28, 29, 30, 31, 32, 33, 34, 35, 36, 4, 37, 43, 44, 45, 46, 47, 48, 49] (by decide +kernel) (by decide +kernel)
set_option maxRecDepth 20000 in
theorem gX5_grown_X3_growth : GoodIn wsX5_grown (wsV RX5 74 RX3 yX3_growth wsX3_growth) := goodIn_app (goodIn_of _ (by decide +kernel)) ggX5_grown_X3_growth
theorem dX5_grown_0 : decode cX5_grown 0 = .ok (.iload_n 1, 1) := by decide +kernel
theorem dX5_grown_1 : decode cX5_grown 1 = .ok (.invokestatic 52, 3) := by decide +kernel
theorem dX5_grown_4 : decode cX5_grown 4 = .ok (.ifCond .eq 10, 3) := by decide +kernel
theorem dX5_grown_7 : decode cX5_grown 7 = .ok (.iload_n 2, 1) := by decide +kernel
theorem dX5_grown_8 : decode cX5_grown 8 = .ok (.invokestatic 55, 3) := by decide +kernel
theorem dX5_grown_11 : decode cX5_grown 11 = .ok (.ifCond .ne 7, 3) := by decide +kernel
theorem dX5_grown_14 : decode cX5_grown 14 = .ok (.sipush (-10000), 3) := by decide +kernel
theorem dX5_grown_17 : decode cX5_grown 17 = .ok (.ireturn, 1) := by decide +kernel
theorem dX5_grown_18 : decode cX5_grown 18 = .ok (.aload_n 0, 1) := by decide +kernel
theorem dX5_grown_19 : decode cX5_grown 19 = .ok (.getfield 12, 3) := by decide +kernel
theorem dX5_grown_22 : decode cX5_grown 22 = .ok (.iload_n 1, 1) := by decide +kernel
theorem dX5_grown_23 : decode cX5_grown 23 = .ok (.iload_n 2, 1) := by decide +kernel
theorem dX5_grown_24 : decode cX5_grown 24 = .ok (.invokevirtual 74, 3) := by decide +kernel
theorem dX5_grown_27 : decode cX5_grown 27 = .ok (.ireturn, 1) := by decide +kernel
set_option maxRecDepth 20000 in
theorem ggX5_found_X5_isMeasure : GoodIn wsX5_found wsX5_isMeasure := goodIn_r _ [5, 6, 7, 4, 8] (by decide +kernel) (by decide +kernel)
set_option maxRecDepth 20000 in
theorem gX5_found_X5_isMeasure : GoodIn wsX5_found (va_wsS RX5 55 yX5_isMeasure wsX5_isMeasure) := goodIn_app (goodIn_of _ (by decide +kernel)) ggX5_found_X5_isMeasure
set_option maxRecDepth 20000 in
theorem ggX5_found_X5_isHand : GoodIn wsX5_found wsX5_isHand := goodIn_r _ [11, 6, 7, 4, 8] (by decide +kernel) (by decide +kernel)
set_option maxRecDepth 20000 in
theorem gX5_found_X5_isHand : GoodIn wsX5_found (va_wsS RX5 48 yX5_isHand wsX5_isHand) := goodIn_app (goodIn_of _ (by decide +kernel)) ggX5_found_X5_isHand
set_option maxRecDepth 20000 in
theorem ggX5_found_X3_meanDifference : GoodIn wsX5_found wsX3_meanDifference := goodIn_r _ [16, 17, 18, 19, 20, 21, 22, 23, 15, 24, 25, 26, 27, 4, 28, 34, 35, 36, 37, 38, 39, 40] (by decide +kernel) (by decide +kernel)
set_option maxRecDepth 20000 in
theorem gX5_found_X3_meanDifference : GoodIn wsX5_found (wsV RX5 77 RX3 yX3_meanDifference wsX3_meanDifference) := goodIn_app (goodIn_of _ (by decide +kernel)) ggX5_found_X3_meanDifference
theorem dX5_found_0 : decode cX5_found 0 = .ok (.iload_n 1, 1) := by decide +kernel
theorem dX5_found_1 : decode cX5_found 1 = .ok (.invokestatic 55, 3) := by decide +kernel
theorem dX5_found_4 : decode cX5_found 4 = .ok (.ifCond .eq 17, 3) := by decide +kernel
theorem dX5_found_7 : decode cX5_found 7 = .ok (.iload_n 2, 1) := by decide +kernel
theorem dX5_found_8 : decode cX5_found 8 = .ok (.invokestatic 48, 3) := by decide +kernel
theorem dX5_found_11 : decode cX5_found 11 = .ok (.ifCond .eq 10, 3) := by decide +kernel
theorem dX5_found_14 : decode cX5_found 14 = .ok (.iload_n 3, 1) := by decide +kernel
theorem dX5_found_15 : decode cX5_found 15 = .ok (.invokestatic 48, 3) := by decide +kernel
theorem dX5_found_18 : decode cX5_found 18 = .ok (.ifCond .ne 7, 3) := by decide +kernel
theorem dX5_found_21 : decode cX5_found 21 = .ok (.sipush (-2000), 3) := by decide +kernel
theorem dX5_found_24 : decode cX5_found 24 = .ok (.ireturn, 1) := by decide +kernel
theorem dX5_found_25 : decode cX5_found 25 = .ok (.aload_n 0, 1) := by decide +kernel
theorem dX5_found_26 : decode cX5_found 26 = .ok (.getfield 12, 3) := by decide +kernel
theorem dX5_found_29 : decode cX5_found 29 = .ok (.iload_n 1, 1) := by decide +kernel
theorem dX5_found_30 : decode cX5_found 30 = .ok (.iload_n 2, 1) := by decide +kernel
theorem dX5_found_31 : decode cX5_found 31 = .ok (.iload_n 3, 1) := by decide +kernel
theorem dX5_found_32 : decode cX5_found 32 = .ok (.invokevirtual 77, 3) := by decide +kernel
theorem dX5_found_35 : decode cX5_found 35 = .ok (.ireturn, 1) := by decide +kernel
set_option maxRecDepth 20000 in
theorem ggX5_fixed_X5_isPlace : GoodIn wsX5_fixed wsX5_isPlace := goodIn_r _ [5, 6, 7, 4, 8] (by decide +kernel) (by decide +kernel)
set_option maxRecDepth 20000 in
theorem gX5_fixed_X5_isPlace : GoodIn wsX5_fixed (va_wsS RX5 80 yX5_isPlace wsX5_isPlace) := goodIn_app (goodIn_of _ (by decide +kernel)) ggX5_fixed_X5_isPlace
set_option maxRecDepth 20000 in
theorem ggX5_fixed_X0_addPoint : GoodIn wsX5_fixed wsX0_addPoint := goodIn_r _ [13, 14, 15, 16, 17, 18, 19, 25, 26, 27, 28, 29, 30, 31, 32, 33, 34] (by decide +kernel) (by decide +kernel)
set_option maxRecDepth 20000 in
theorem gX5_fixed_X0_addPoint : GoodIn wsX5_fixed (wsV RX5 83 RX0 yX0_addPoint wsX0_addPoint) := goodIn_app (goodIn_of _ (by decide +kernel)) ggX5_fixed_X0_addPoint
theorem dX5_fixed_0 : decode cX5_fixed 0 = .ok (.iload_n 1, 1) := by decide +kernel
theorem dX5_fixed_1 : decode cX5_fixed 1 = .ok (.invokestatic 80, 3) := by decide +kernel
theorem dX5_fixed_4 : decode cX5_fixed 4 = .ok (.ifCond .eq 10, 3) := by decide +kernel
theorem dX5_fixed_7 : decode cX5_fixed 7 = .ok (.iload_n 2, 1) := by decide +kernel
theorem dX5_fixed_8 : decode cX5_fixed 8 = .ok (.invokestatic 80, 3) := by decide +kernel
theorem dX5_fixed_11 : decode cX5_fixed 11 = .ok (.ifCond .ne 6, 3) := by decide +kernel
theorem dX5_fixed_14 : decode cX5_fixed 14 = .ok (.bipush (-2), 2) := by decide +kernel
theorem dX5_fixed_16 : decode cX5_fixed 16 = .ok (.ireturn, 1) := by decide +kernel
theorem dX5_fixed_17 : decode cX5_fixed 17 = .ok (.aload_n 0, 1) := by decide +kernel
theorem dX5_fixed_18 : decode cX5_fixed 18 = .ok (.getfield 21, 3) := by decide +kernel
theorem dX5_fixed_21 : decode cX5_fixed 21 = .ok (.iconst 0, 1) := by decide +kernel
theorem dX5_fixed_22 : decode cX5_fixed 22 = .ok (.iconst 0, 1) := by decide +kernel
theorem dX5_fixed_23 : decode cX5_fixed 23 = .ok (.iconst 0, 1) := by decide +kernel
theorem dX5_fixed_24 : decode cX5_fixed 24 = .ok (.iload_n 1, 1) := by decide +kernel
theorem dX5_fixed_25 : decode cX5_fixed 25 = .ok (.iload_n 2, 1) := by decide +kernel
theorem dX5_fixed_26 : decode cX5_fixed 26 = .ok (.invokevirtual 83, 3) := by decide +kernel
theorem dX5_fixed_29 : decode cX5_fixed 29 = .ok (.ireturn, 1) := by decide +kernel
set_option maxRecDepth 20000 in
theorem ggX5_off_X0_has : GoodIn wsX5_off wsX0_has := goodIn_r _ [6, 7, 8, 9, 10, 29, 30, 31, 32, 33, 34, 35, 36, 37, 38] (by decide +kernel) (by decide +kernel)
set_option maxRecDepth 20000 in
theorem gX5_off_X0_has : GoodIn wsX5_off (wsV RX5 86 RX0 yX0_has wsX0_has) := goodIn_app (goodIn_of _ (by decide +kernel)) ggX5_off_X0_has
set_option maxRecDepth 20000 in
theorem ggX5_off_X5_isPlace : GoodIn wsX5_off wsX5_isPlace := goodIn_r _ [13, 14, 8, 9, 10] (by decide +kernel) (by decide +kernel)
set_option maxRecDepth 20000 in
theorem gX5_off_X5_isPlace : GoodIn wsX5_off (va_wsS RX5 80 yX5_isPlace wsX5_isPlace) := goodIn_app (goodIn_of _ (by decide +kernel)) ggX5_off_X5_isPlace
set_option maxRecDepth 20000 in
theorem ggX5_off_X0_addPoint : GoodIn wsX5_off wsX0_addPoint := goodIn_r _ [18, 7, 19, 20, 21, 22, 23, 29, 30, 31, 32, 33, 34, 35, 36, 37, 38] (by decide +kernel) (by decide +kernel)
set_option maxRecDepth 20000 in
theorem gX5_off_X0_addPoint : GoodIn wsX5_off (wsV RX5 83 RX0 yX0_addPoint wsX0_addPoint) := goodIn_app (goodIn_of _ (by decide +kernel)) ggX5_off_X0_addPoint
theorem dX5_off_0 : decode cX5_off 0 = .ok (.aload_n 0, 1) := by decide +kernel
theorem dX5_off_1 : decode cX5_off 1 = .ok (.getfield 21, 3) := by decide +kernel
theorem dX5_off_4 : decode cX5_off 4 = .ok (.iload_n 1, 1) := by decide +kernel
theorem dX5_off_5 : decode cX5_off 5 = .ok (.invokevirtual 86, 3) := by decide +kernel
theorem dX5_off_8 : decode cX5_off 8 = .ok (.ifCond .eq 17, 3) := by decide +kernel
theorem dX5_off_11 : decode cX5_off 11 = .ok (.iload_n 2, 1) := by decide +kernel
theorem dX5_off_12 : decode cX5_off 12 = .ok (.invokestatic 80, 3) := by decide +kernel
theorem dX5_off_15 : decode cX5_off 15 = .ok (.ifCond .eq 10, 3) := by decide +kernel
theorem dX5_off_18 : decode cX5_off 18 = .ok (.iload_n 3, 1) := by decide +kernel
theorem dX5_off_19 : decode cX5_off 19 = .ok (.invokestatic 80, 3) := by decide +kernel
theorem dX5_off_22 : decode cX5_off 22 = .ok (.ifCond .ne 6, 3) := by decide +kernel
theorem dX5_off_25 : decode cX5_off 25 = .ok (.bipush (-2), 2) := by decide +kernel
theorem dX5_off_27 : decode cX5_off 27 = .ok (.ireturn, 1) := by decide +kernel
theorem dX5_off_28 : decode cX5_off 28 = .ok (.aload_n 0, 1) := by decide +kernel
theorem dX5_off_29 : decode cX5_off 29 = .ok (.getfield 21, 3) := by decide +kernel
theorem dX5_off_32 : decode cX5_off 32 = .ok (.iconst 1, 1) := by decide +kernel
theorem dX5_off_33 : decode cX5_off 33 = .ok (.iload_n 1, 1) := by decide +kernel
theorem dX5_off_34 : decode cX5_off 34 = .ok (.iconst 0, 1) := by decide +kernel
theorem dX5_off_35 : decode cX5_off 35 = .ok (.iload_n 2, 1) := by decide +kernel
theorem dX5_off_36 : decode cX5_off 36 = .ok (.iload_n 3, 1) := by decide +kernel
theorem dX5_off_37 : decode cX5_off 37 = .ok (.invokevirtual 83, 3) := by decide +kernel
theorem dX5_off_40 : decode cX5_off 40 = .ok (.ireturn, 1) := by decide +kernel
set_option maxRecDepth 20000 in
theorem ggX5_by_X0_has : GoodIn wsX5_by wsX0_has := goodIn_r _ [6, 7, 8, 9, 10, 29, 30, 31, 32, 33, 34, 35, 36, 37, 38] (by decide +kernel) (by decide +kernel)
set_option maxRecDepth 20000 in
theorem gX5_by_X0_has : GoodIn wsX5_by (wsV RX5 86 RX0 yX0_has wsX0_has) := goodIn_app (goodIn_of _ (by decide +kernel)) ggX5_by_X0_has
set_option maxRecDepth 20000 in
theorem ggX5_by_X5_isMeasure : GoodIn wsX5_by wsX5_isMeasure := goodIn_r _ [13, 14, 8, 9, 10] (by decide +kernel) (by decide +kernel)
set_option maxRecDepth 20000 in
theorem gX5_by_X5_isMeasure : GoodIn wsX5_by (va_wsS RX5 55 yX5_isMeasure wsX5_isMeasure) := goodIn_app (goodIn_of _ (by decide +kernel)) ggX5_by_X5_isMeasure
set_option maxRecDepth 20000 in
theorem ggX5_by_X5_within : GoodIn wsX5_by wsX5_within := goodIn_r _ [10] (by decide +kernel) (by decide +kernel)
set_option maxRecDepth 20000 in
theorem gX5_by_X5_within : GoodIn wsX5_by (va_wsS RX5 58 yX5_within wsX5_within) := goodIn_app (goodIn_of _ (by decide +kernel)) ggX5_by_X5_within
set_option maxRecDepth 20000 in
theorem ggX5_by_X0_addPoint : GoodIn wsX5_by wsX0_addPoint := goodIn_r _ [18, 7, 19, 20, 21, 22, 23, 29, 30, 31, 32, 33, 34, 35, 36, 37, 38] (by decide +kernel) (by decide +kernel)
set_option maxRecDepth 20000 in
theorem gX5_by_X0_addPoint : GoodIn wsX5_by (wsV RX5 83 RX0 yX0_addPoint wsX0_addPoint) := goodIn_app (goodIn_of _ (by decide +kernel)) ggX5_by_X0_addPoint
theorem dX5_by_0 : decode cX5_by 0 = .ok (.aload_n 0, 1) := by decide +kernel
theorem dX5_by_1 : decode cX5_by 1 = .ok (.getfield 21, 3) := by decide +kernel
theorem dX5_by_4 : decode cX5_by 4 = .ok (.iload_n 1, 1) := by decide +kernel
theorem dX5_by_5 : decode cX5_by 5 = .ok (.invokevirtual 86, 3) := by decide +kernel
theorem dX5_by_8 : decode cX5_by 8 = .ok (.ifCond .eq 10, 3) := by decide +kernel
theorem dX5_by_11 : decode cX5_by 11 = .ok (.iload_n 2, 1) := by decide +kernel
theorem dX5_by_12 : decode cX5_by 12 = .ok (.invokestatic 55, 3) := by decide +kernel
theorem dX5_by_15 : decode cX5_by 15 = .ok (.ifCond .ne 6, 3) := by decide +kernel
theorem dX5_by_18 : decode cX5_by 18 = .ok (.bipush (-2), 2) := by decide +kernel
theorem dX5_by_20 : decode cX5_by 20 = .ok (.ireturn, 1) := by decide +kernel
theorem dX5_by_21 : decode cX5_by 21 = .ok (.iload_n 3, 1) := by decide +kernel
theorem dX5_by_22 : decode cX5_by 22 = .ok (.bipush (-20), 2) := by decide +kernel
theorem dX5_by_24 : decode cX5_by 24 = .ok (.bipush 20, 2) := by decide +kernel
theorem dX5_by_26 : decode cX5_by 26 = .ok (.invokestatic 58, 3) := by decide +kernel
theorem dX5_by_29 : decode cX5_by 29 = .ok (.ifCond .eq 24, 3) := by decide +kernel
theorem dX5_by_32 : decode cX5_by 32 = .ok (.iload 4, 2) := by decide +kernel
theorem dX5_by_34 : decode cX5_by 34 = .ok (.iconst 1, 1) := by decide +kernel
theorem dX5_by_35 : decode cX5_by 35 = .ok (.bipush 20, 2) := by decide +kernel
theorem dX5_by_37 : decode cX5_by 37 = .ok (.invokestatic 58, 3) := by decide +kernel
theorem dX5_by_40 : decode cX5_by 40 = .ok (.ifCond .eq 13, 3) := by decide +kernel
theorem dX5_by_43 : decode cX5_by 43 = .ok (.iload 5, 2) := by decide +kernel
theorem dX5_by_45 : decode cX5_by 45 = .ok (.iconst 0, 1) := by decide +kernel
theorem dX5_by_46 : decode cX5_by 46 = .ok (.iconst 1, 1) := by decide +kernel
theorem dX5_by_47 : decode cX5_by 47 = .ok (.invokestatic 58, 3) := by decide +kernel
theorem dX5_by_50 : decode cX5_by 50 = .ok (.ifCond .ne 6, 3) := by decide +kernel
theorem dX5_by_53 : decode cX5_by 53 = .ok (.bipush (-2), 2) := by decide +kernel
theorem dX5_by_55 : decode cX5_by 55 = .ok (.ireturn, 1) := by decide +kernel
theorem dX5_by_56 : decode cX5_by 56 = .ok (.aload_n 0, 1) := by decide +kernel
theorem dX5_by_57 : decode cX5_by 57 = .ok (.getfield 21, 3) := by decide +kernel
theorem dX5_by_60 : decode cX5_by 60 = .ok (.iload 5, 2) := by decide +kernel
theorem dX5_by_62 : decode cX5_by 62 = .ok (.ifCond .ne 7, 3) := by decide +kernel
theorem dX5_by_65 : decode cX5_by 65 = .ok (.iconst 2, 1) := by decide +kernel
theorem dX5_by_66 : decode cX5_by 66 = .ok (.goto 4, 3) := by decide +kernel
theorem dX5_by_69 : decode cX5_by 69 = .ok (.iconst 3, 1) := by decide +kernel
theorem dX5_by_70 : decode cX5_by 70 = .ok (.iload_n 1, 1) := by decide +kernel
theorem dX5_by_71 : decode cX5_by 71 = .ok (.iload_n 2, 1) := by decide +kernel
theorem dX5_by_72 : decode cX5_by 72 = .ok (.iload_n 3, 1) := by decide +kernel
theorem dX5_by_73 : decode cX5_by 73 = .ok (.iload 4, 2) := by decide +kernel
theorem dX5_by_75 : decode cX5_by 75 = .ok (.invokevirtual 83, 3) := by decide +kernel
theorem dX5_by_78 : decode cX5_by 78 = .ok (.ireturn, 1) := by decide +kernel
set_option maxRecDepth 20000 in
theorem ggX5_middle_X0_has : GoodIn wsX5_middle wsX0_has := goodIn_r _ [6, 7, 8, 9, 10, 25, 26, 27, 28, 29, 30, 31, 32, 33, 34] (by decide +kernel) (by decide +kernel)
set_option maxRecDepth 20000 in
theorem gX5_middle_X0_has : GoodIn wsX5_middle (wsV RX5 86 RX0 yX0_has wsX0_has) := goodIn_app (goodIn_of _ (by decide +kernel)) ggX5_middle_X0_has
set_option maxRecDepth 20000 in
theorem ggX5_middle_X0_addPoint : GoodIn wsX5_middle wsX0_addPoint := goodIn_r _ [14, 7, 15, 16, 17, 18, 19, 25, 26, 27, 28, 29, 30, 31, 32, 33, 34] (by decide +kernel) (by decide +kernel)
set_option maxRecDepth 20000 in
theorem gX5_middle_X0_addPoint : GoodIn wsX5_middle (wsV RX5 83 RX0 yX0_addPoint wsX0_addPoint) := goodIn_app (goodIn_of _ (by decide +kernel)) ggX5_middle_X0_addPoint
theorem dX5_middle_0 : decode cX5_middle 0 = .ok (.aload_n 0, 1) := by decide +kernel
theorem dX5_middle_1 : decode cX5_middle 1 = .ok (.getfield 21, 3) := by decide +kernel
theorem dX5_middle_4 : decode cX5_middle 4 = .ok (.iload_n 1, 1) := by decide +kernel
theorem dX5_middle_5 : decode cX5_middle 5 = .ok (.invokevirtual 86, 3) := by decide +kernel
theorem dX5_middle_8 : decode cX5_middle 8 = .ok (.ifCond .eq 14, 3) := by decide +kernel
theorem dX5_middle_11 : decode cX5_middle 11 = .ok (.aload_n 0, 1) := by decide +kernel
theorem dX5_middle_12 : decode cX5_middle 12 = .ok (.getfield 21, 3) := by decide +kernel
theorem dX5_middle_15 : decode cX5_middle 15 = .ok (.iload_n 2, 1) := by decide +kernel
theorem dX5_middle_16 : decode cX5_middle 16 = .ok (.invokevirtual 86, 3) := by decide +kernel
theorem dX5_middle_19 : decode cX5_middle 19 = .ok (.ifCond .ne 6, 3) := by decide +kernel
theorem dX5_middle_22 : decode cX5_middle 22 = .ok (.bipush (-2), 2) := by decide +kernel
theorem dX5_middle_24 : decode cX5_middle 24 = .ok (.ireturn, 1) := by decide +kernel
theorem dX5_middle_25 : decode cX5_middle 25 = .ok (.aload_n 0, 1) := by decide +kernel
theorem dX5_middle_26 : decode cX5_middle 26 = .ok (.getfield 21, 3) := by decide +kernel
theorem dX5_middle_29 : decode cX5_middle 29 = .ok (.iconst 4, 1) := by decide +kernel
theorem dX5_middle_30 : decode cX5_middle 30 = .ok (.iload_n 1, 1) := by decide +kernel
theorem dX5_middle_31 : decode cX5_middle 31 = .ok (.iload_n 2, 1) := by decide +kernel
theorem dX5_middle_32 : decode cX5_middle 32 = .ok (.iconst 0, 1) := by decide +kernel
theorem dX5_middle_33 : decode cX5_middle 33 = .ok (.iconst 0, 1) := by decide +kernel
theorem dX5_middle_34 : decode cX5_middle 34 = .ok (.invokevirtual 83, 3) := by decide +kernel
theorem dX5_middle_37 : decode cX5_middle 37 = .ok (.ireturn, 1) := by decide +kernel
set_option maxRecDepth 20000 in
theorem ggX5_at_X5_isBody : GoodIn wsX5_at wsX5_isBody := goodIn_r _ [6, 7, 8, 5, 9] (by decide +kernel) (by decide +kernel)
set_option maxRecDepth 20000 in
theorem gX5_at_X5_isBody : GoodIn wsX5_at (va_wsS RX5 52 yX5_isBody wsX5_isBody) := goodIn_app (goodIn_of _ (by decide +kernel)) ggX5_at_X5_isBody
set_option maxRecDepth 20000 in
theorem ggX5_at_X0_has : GoodIn wsX5_at wsX0_has := goodIn_r _ [14, 15, 8, 5, 9, 72, 73, 74, 75, 76, 77, 78, 79, 80, 81] (by decide +kernel) (by decide +kernel)
set_option maxRecDepth 20000 in
theorem gX5_at_X0_has : GoodIn wsX5_at (wsV RX5 86 RX0 yX0_has wsX0_has) := goodIn_app (goodIn_of _ (by decide +kernel)) ggX5_at_X0_has
set_option maxRecDepth 20000 in
theorem ggX5_at_X5_within : GoodIn wsX5_at wsX5_within := goodIn_r _ [9] (by decide +kernel) (by decide +kernel)
set_option maxRecDepth 20000 in
theorem gX5_at_X5_within : GoodIn wsX5_at (va_wsS RX5 58 yX5_within wsX5_within) := goodIn_app (goodIn_of _ (by decide +kernel)) ggX5_at_X5_within
set_option maxRecDepth 20000 in
theorem ggX5_at_X0_workOut : GoodIn wsX5_at wsX0_workOut := goodIn_r _ [19, 20, 21, 15, 22, 23, 24, 25, 26, 27, 28, 29, 30, 31, 32, 33, 34, 35, 36, 37, 38, 39, 40, 41, 42, 43, 44, 45, 46, 5, 47, 48, 49, 50, 13, 51, 52, 53, 54, 55, 56, 57, 58, 59, 60, 61, 62, 63, 64, 65, 66, 72, 73, 74, 75, 76, 77, 78, 79, 80, 81, 82, 83, 84, 85, 86, 87, 88] (by decide +kernel) (by decide +kernel)
set_option maxRecDepth 20000 in
theorem gX5_at_X0_workOut : GoodIn wsX5_at (wsV RX5 90 RX0 yX0_workOut wsX0_workOut) := goodIn_app (goodIn_of _ (by decide +kernel)) ggX5_at_X0_workOut
theorem dX5_at_0 : decode cX5_at 0 = .ok (.iload_n 1, 1) := by decide +kernel
theorem dX5_at_1 : decode cX5_at 1 = .ok (.invokestatic 52, 3) := by decide +kernel
theorem dX5_at_4 : decode cX5_at 4 = .ok (.ifCond .eq 23, 3) := by decide +kernel
theorem dX5_at_7 : decode cX5_at 7 = .ok (.aload_n 0, 1) := by decide +kernel
theorem dX5_at_8 : decode cX5_at 8 = .ok (.getfield 21, 3) := by decide +kernel
theorem dX5_at_11 : decode cX5_at 11 = .ok (.iload_n 2, 1) := by decide +kernel
theorem dX5_at_12 : decode cX5_at 12 = .ok (.invokevirtual 86, 3) := by decide +kernel
theorem dX5_at_15 : decode cX5_at 15 = .ok (.ifCond .eq 12, 3) := by decide +kernel
theorem dX5_at_18 : decode cX5_at 18 = .ok (.iload_n 3, 1) := by decide +kernel
theorem dX5_at_19 : decode cX5_at 19 = .ok (.iconst 0, 1) := by decide +kernel
theorem dX5_at_20 : decode cX5_at 20 = .ok (.iconst 1, 1) := by decide +kernel
theorem dX5_at_21 : decode cX5_at 21 = .ok (.invokestatic 58, 3) := by decide +kernel
theorem dX5_at_24 : decode cX5_at 24 = .ok (.ifCond .ne 6, 3) := by decide +kernel
theorem dX5_at_27 : decode cX5_at 27 = .ok (.ldc 89, 2) := by decide +kernel
theorem dX5_at_29 : decode cX5_at 29 = .ok (.ireturn, 1) := by decide +kernel
theorem dX5_at_30 : decode cX5_at 30 = .ok (.aload_n 0, 1) := by decide +kernel
theorem dX5_at_31 : decode cX5_at 31 = .ok (.getfield 21, 3) := by decide +kernel
theorem dX5_at_34 : decode cX5_at 34 = .ok (.iload_n 1, 1) := by decide +kernel
theorem dX5_at_35 : decode cX5_at 35 = .ok (.invokevirtual 90, 3) := by decide +kernel
theorem dX5_at_38 : decode cX5_at 38 = .ok (.iload_n 3, 1) := by decide +kernel
theorem dX5_at_39 : decode cX5_at 39 = .ok (.ifCond .ne 15, 3) := by decide +kernel
theorem dX5_at_42 : decode cX5_at 42 = .ok (.aload_n 0, 1) := by decide +kernel
theorem dX5_at_43 : decode cX5_at 43 = .ok (.getfield 21, 3) := by decide +kernel
theorem dX5_at_46 : decode cX5_at 46 = .ok (.getfield 94, 3) := by decide +kernel
theorem dX5_at_49 : decode cX5_at 49 = .ok (.iload_n 2, 1) := by decide +kernel
theorem dX5_at_50 : decode cX5_at 50 = .ok (.iaload, 1) := by decide +kernel
theorem dX5_at_51 : decode cX5_at 51 = .ok (.goto 12, 3) := by decide +kernel
theorem dX5_at_54 : decode cX5_at 54 = .ok (.aload_n 0, 1) := by decide +kernel
theorem dX5_at_55 : decode cX5_at 55 = .ok (.getfield 21, 3) := by decide +kernel
theorem dX5_at_58 : decode cX5_at 58 = .ok (.getfield 98, 3) := by decide +kernel
theorem dX5_at_61 : decode cX5_at 61 = .ok (.iload_n 2, 1) := by decide +kernel
theorem dX5_at_62 : decode cX5_at 62 = .ok (.iaload, 1) := by decide +kernel
theorem dX5_at_63 : decode cX5_at 63 = .ok (.ireturn, 1) := by decide +kernel
set_option maxRecDepth 20000 in
theorem ggX5_piece_X0_has : GoodIn wsX5_piece wsX0_has := goodIn_r _ [7, 8, 9, 10, 11, 25, 26, 27, 28, 29, 30, 31, 32, 33, 34] (by decide +kernel) (by decide +kernel)
set_option maxRecDepth 20000 in
theorem gX5_piece_X0_has : GoodIn wsX5_piece (wsV RX5 86 RX0 yX0_has wsX0_has) := goodIn_app (goodIn_of _ (by decide +kernel)) ggX5_piece_X0_has
set_option maxRecDepth 20000 in
theorem ggX5_piece_X1_addPiece : GoodIn wsX5_piece wsX1_addPiece := goodIn_r _ [16, 17, 18, 19, 35, 36, 37, 38, 39, 40] (by decide +kernel) (by decide +kernel)
set_option maxRecDepth 20000 in
theorem gX5_piece_X1_addPiece : GoodIn wsX5_piece (wsV RX5 101 RX1 yX1_addPiece wsX1_addPiece) := goodIn_app (goodIn_of _ (by decide +kernel)) ggX5_piece_X1_addPiece
theorem dX5_piece_0 : decode cX5_piece 0 = .ok (.aload_n 0, 1) := by decide +kernel
theorem dX5_piece_1 : decode cX5_piece 1 = .ok (.getfield 21, 3) := by decide +kernel
theorem dX5_piece_4 : decode cX5_piece 4 = .ok (.iload_n 1, 1) := by decide +kernel
theorem dX5_piece_5 : decode cX5_piece 5 = .ok (.invokevirtual 86, 3) := by decide +kernel
theorem dX5_piece_8 : decode cX5_piece 8 = .ok (.ifCond .eq 25, 3) := by decide +kernel
theorem dX5_piece_11 : decode cX5_piece 11 = .ok (.aload_n 0, 1) := by decide +kernel
theorem dX5_piece_12 : decode cX5_piece 12 = .ok (.getfield 21, 3) := by decide +kernel
theorem dX5_piece_15 : decode cX5_piece 15 = .ok (.iload_n 2, 1) := by decide +kernel
theorem dX5_piece_16 : decode cX5_piece 16 = .ok (.invokevirtual 86, 3) := by decide +kernel
theorem dX5_piece_19 : decode cX5_piece 19 = .ok (.ifCond .eq 14, 3) := by decide +kernel
theorem dX5_piece_22 : decode cX5_piece 22 = .ok (.aload_n 0, 1) := by decide +kernel
theorem dX5_piece_23 : decode cX5_piece 23 = .ok (.getfield 21, 3) := by decide +kernel
theorem dX5_piece_26 : decode cX5_piece 26 = .ok (.iload_n 3, 1) := by decide +kernel
theorem dX5_piece_27 : decode cX5_piece 27 = .ok (.invokevirtual 86, 3) := by decide +kernel
theorem dX5_piece_30 : decode cX5_piece 30 = .ok (.ifCond .ne 6, 3) := by decide +kernel
theorem dX5_piece_33 : decode cX5_piece 33 = .ok (.bipush (-2), 2) := by decide +kernel
theorem dX5_piece_35 : decode cX5_piece 35 = .ok (.ireturn, 1) := by decide +kernel
theorem dX5_piece_36 : decode cX5_piece 36 = .ok (.iload 4, 2) := by decide +kernel
theorem dX5_piece_38 : decode cX5_piece 38 = .ok (.iconst (-1), 1) := by decide +kernel
theorem dX5_piece_39 : decode cX5_piece 39 = .ok (.if_icmp .eq 18, 3) := by decide +kernel
theorem dX5_piece_42 : decode cX5_piece 42 = .ok (.aload_n 0, 1) := by decide +kernel
theorem dX5_piece_43 : decode cX5_piece 43 = .ok (.getfield 21, 3) := by decide +kernel
theorem dX5_piece_46 : decode cX5_piece 46 = .ok (.iload 4, 2) := by decide +kernel
theorem dX5_piece_48 : decode cX5_piece 48 = .ok (.invokevirtual 86, 3) := by decide +kernel
theorem dX5_piece_51 : decode cX5_piece 51 = .ok (.ifCond .ne 6, 3) := by decide +kernel
theorem dX5_piece_54 : decode cX5_piece 54 = .ok (.bipush (-2), 2) := by decide +kernel
theorem dX5_piece_56 : decode cX5_piece 56 = .ok (.ireturn, 1) := by decide +kernel
theorem dX5_piece_57 : decode cX5_piece 57 = .ok (.aload_n 0, 1) := by decide +kernel
theorem dX5_piece_58 : decode cX5_piece 58 = .ok (.getfield 30, 3) := by decide +kernel
theorem dX5_piece_61 : decode cX5_piece 61 = .ok (.iload_n 1, 1) := by decide +kernel
theorem dX5_piece_62 : decode cX5_piece 62 = .ok (.iload_n 2, 1) := by decide +kernel
theorem dX5_piece_63 : decode cX5_piece 63 = .ok (.iload_n 3, 1) := by decide +kernel
theorem dX5_piece_64 : decode cX5_piece 64 = .ok (.iload 4, 2) := by decide +kernel
theorem dX5_piece_66 : decode cX5_piece 66 = .ok (.invokevirtual 101, 3) := by decide +kernel
theorem dX5_piece_69 : decode cX5_piece 69 = .ok (.ireturn, 1) := by decide +kernel
set_option maxRecDepth 20000 in
theorem ggX5_more_X1_has : GoodIn wsX5_more wsX1_has := goodIn_r _ [7, 8, 9, 10, 11, 29, 30, 31, 32, 33, 34] (by decide +kernel) (by decide +kernel)
set_option maxRecDepth 20000 in
theorem gX5_more_X1_has : GoodIn wsX5_more (wsV RX5 105 RX1 yX1_has wsX1_has) := goodIn_app (goodIn_of _ (by decide +kernel)) ggX5_more_X1_has
set_option maxRecDepth 20000 in
theorem ggX5_more_X0_has : GoodIn wsX5_more wsX0_has := goodIn_r _ [16, 17, 9, 10, 11, 35, 36, 37, 38, 39, 40, 41, 42, 43, 44] (by decide +kernel) (by decide +kernel)
set_option maxRecDepth 20000 in
theorem gX5_more_X0_has : GoodIn wsX5_more (wsV RX5 86 RX0 yX0_has wsX0_has) := goodIn_app (goodIn_of _ (by decide +kernel)) ggX5_more_X0_has
set_option maxRecDepth 20000 in
theorem ggX5_more_X1_addCorner : GoodIn wsX5_more wsX1_addCorner := goodIn_r _ [21, 22, 23, 29, 30, 31, 32, 33, 34] (by decide +kernel) (by decide +kernel)
set_option maxRecDepth 20000 in
theorem gX5_more_X1_addCorner : GoodIn wsX5_more (wsV RX5 106 RX1 yX1_addCorner wsX1_addCorner) := goodIn_app (goodIn_of _ (by decide +kernel)) ggX5_more_X1_addCorner
theorem dX5_more_0 : decode cX5_more 0 = .ok (.aload_n 0, 1) := by decide +kernel
theorem dX5_more_1 : decode cX5_more 1 = .ok (.getfield 30, 3) := by decide +kernel
theorem dX5_more_4 : decode cX5_more 4 = .ok (.iload_n 1, 1) := by decide +kernel
theorem dX5_more_5 : decode cX5_more 5 = .ok (.invokevirtual 105, 3) := by decide +kernel
theorem dX5_more_8 : decode cX5_more 8 = .ok (.ifCond .eq 14, 3) := by decide +kernel
theorem dX5_more_11 : decode cX5_more 11 = .ok (.aload_n 0, 1) := by decide +kernel
theorem dX5_more_12 : decode cX5_more 12 = .ok (.getfield 21, 3) := by decide +kernel
theorem dX5_more_15 : decode cX5_more 15 = .ok (.iload_n 2, 1) := by decide +kernel
theorem dX5_more_16 : decode cX5_more 16 = .ok (.invokevirtual 86, 3) := by decide +kernel
theorem dX5_more_19 : decode cX5_more 19 = .ok (.ifCond .ne 6, 3) := by decide +kernel
theorem dX5_more_22 : decode cX5_more 22 = .ok (.bipush (-2), 2) := by decide +kernel
theorem dX5_more_24 : decode cX5_more 24 = .ok (.ireturn, 1) := by decide +kernel
theorem dX5_more_25 : decode cX5_more 25 = .ok (.aload_n 0, 1) := by decide +kernel
theorem dX5_more_26 : decode cX5_more 26 = .ok (.getfield 30, 3) := by decide +kernel
theorem dX5_more_29 : decode cX5_more 29 = .ok (.iload_n 1, 1) := by decide +kernel
theorem dX5_more_30 : decode cX5_more 30 = .ok (.iload_n 2, 1) := by decide +kernel
theorem dX5_more_31 : decode cX5_more 31 = .ok (.invokevirtual 106, 3) := by decide +kernel
theorem dX5_more_34 : decode cX5_more 34 = .ok (.ireturn, 1) := by decide +kernel
set_option maxRecDepth 20000 in
theorem ggX5_length_X5_isBody : GoodIn wsX5_length wsX5_isBody := goodIn_r _ [6, 7, 8, 5, 9] (by decide +kernel) (by decide +kernel)
set_option maxRecDepth 20000 in
theorem gX5_length_X5_isBody : GoodIn wsX5_length (va_wsS RX5 52 yX5_isBody wsX5_isBody) := goodIn_app (goodIn_of _ (by decide +kernel)) ggX5_length_X5_isBody
set_option maxRecDepth 20000 in
theorem ggX5_length_X1_hasSide : GoodIn wsX5_length wsX1_hasSide := goodIn_r _ [14, 15, 16, 17, 18, 13, 19, 20, 8, 5, 9, 96, 97, 98, 99, 100, 101] (by decide +kernel) (by decide +kernel)
set_option maxRecDepth 20000 in
theorem gX5_length_X1_hasSide : GoodIn wsX5_length (wsV RX5 109 RX1 yX1_hasSide wsX1_hasSide) := goodIn_app (goodIn_of _ (by decide +kernel)) ggX5_length_X1_hasSide
set_option maxRecDepth 20000 in
theorem ggX5_length_X0_workOut : GoodIn wsX5_length wsX0_workOut := goodIn_r _ [25, 26, 27, 28, 29, 30, 31, 32, 33, 34, 35, 36, 37, 38, 39, 40, 41, 42, 43, 44, 45, 46, 47, 48, 49, 50, 51, 52, 53, 5, 54, 55, 56, 57, 24, 58, 59, 60, 61, 62, 63, 64, 65, 66, 67, 68, 69, 70, 71, 72, 73, 102, 103, 104, 105, 106, 107, 108, 109, 110, 111, 112, 113, 114, 115, 116, 117, 118] (by decide +kernel) (by decide +kernel)
set_option maxRecDepth 20000 in
theorem gX5_length_X0_workOut : GoodIn wsX5_length (wsV RX5 90 RX0 yX0_workOut wsX0_workOut) := goodIn_app (goodIn_of _ (by decide +kernel)) ggX5_length_X0_workOut
set_option maxRecDepth 20000 in
theorem ggX5_length_X1_sideLength : GoodIn wsX5_length wsX1_sideLength := goodIn_r _ [77, 78, 79, 80, 81, 82, 13, 83, 84, 85, 86, 87, 88, 15, 89, 5, 90, 96, 97, 98, 99, 100, 101, 102, 103, 104, 105, 106, 107, 108, 109, 110, 111] (by decide +kernel) (by decide +kernel)
set_option maxRecDepth 20000 in
theorem gX5_length_X1_sideLength : GoodIn wsX5_length (wsV RX5 113 RX1 yX1_sideLength wsX1_sideLength) := goodIn_app (goodIn_of _ (by decide +kernel)) ggX5_length_X1_sideLength
theorem dX5_length_0 : decode cX5_length 0 = .ok (.iload_n 1, 1) := by decide +kernel
theorem dX5_length_1 : decode cX5_length 1 = .ok (.invokestatic 52, 3) := by decide +kernel
theorem dX5_length_4 : decode cX5_length 4 = .ok (.ifCond .eq 15, 3) := by decide +kernel
theorem dX5_length_7 : decode cX5_length 7 = .ok (.aload_n 0, 1) := by decide +kernel
theorem dX5_length_8 : decode cX5_length 8 = .ok (.getfield 30, 3) := by decide +kernel
theorem dX5_length_11 : decode cX5_length 11 = .ok (.iload_n 2, 1) := by decide +kernel
theorem dX5_length_12 : decode cX5_length 12 = .ok (.iload_n 3, 1) := by decide +kernel
theorem dX5_length_13 : decode cX5_length 13 = .ok (.invokevirtual 109, 3) := by decide +kernel
theorem dX5_length_16 : decode cX5_length 16 = .ok (.ifCond .ne 6, 3) := by decide +kernel
theorem dX5_length_19 : decode cX5_length 19 = .ok (.bipush (-2), 2) := by decide +kernel
theorem dX5_length_21 : decode cX5_length 21 = .ok (.ireturn, 1) := by decide +kernel
theorem dX5_length_22 : decode cX5_length 22 = .ok (.aload_n 0, 1) := by decide +kernel
theorem dX5_length_23 : decode cX5_length 23 = .ok (.getfield 21, 3) := by decide +kernel
theorem dX5_length_26 : decode cX5_length 26 = .ok (.iload_n 1, 1) := by decide +kernel
theorem dX5_length_27 : decode cX5_length 27 = .ok (.invokevirtual 90, 3) := by decide +kernel
theorem dX5_length_30 : decode cX5_length 30 = .ok (.aload_n 0, 1) := by decide +kernel
theorem dX5_length_31 : decode cX5_length 31 = .ok (.getfield 30, 3) := by decide +kernel
theorem dX5_length_34 : decode cX5_length 34 = .ok (.iload_n 2, 1) := by decide +kernel
theorem dX5_length_35 : decode cX5_length 35 = .ok (.iload_n 3, 1) := by decide +kernel
theorem dX5_length_36 : decode cX5_length 36 = .ok (.invokevirtual 113, 3) := by decide +kernel
theorem dX5_length_39 : decode cX5_length 39 = .ok (.ireturn, 1) := by decide +kernel
set_option maxRecDepth 20000 in
theorem ggX5_area_X5_isBody : GoodIn wsX5_area wsX5_isBody := goodIn_r _ [7, 8, 9, 6, 10] (by decide +kernel) (by decide +kernel)
set_option maxRecDepth 20000 in
theorem gX5_area_X5_isBody : GoodIn wsX5_area (va_wsS RX5 52 yX5_isBody wsX5_isBody) := goodIn_app (goodIn_of _ (by decide +kernel)) ggX5_area_X5_isBody
set_option maxRecDepth 20000 in
theorem ggX5_area_X1_has : GoodIn wsX5_area wsX1_has := goodIn_r _ [15, 16, 9, 6, 10, 94, 95, 96, 97, 98, 99] (by decide +kernel) (by decide +kernel)
set_option maxRecDepth 20000 in
theorem gX5_area_X1_has : GoodIn wsX5_area (wsV RX5 105 RX1 yX1_has wsX1_has) := goodIn_app (goodIn_of _ (by decide +kernel)) ggX5_area_X1_has
set_option maxRecDepth 20000 in
theorem ggX5_area_X0_workOut : GoodIn wsX5_area wsX0_workOut := goodIn_r _ [21, 22, 23, 24, 25, 26, 27, 28, 29, 30, 31, 32, 33, 34, 35, 36, 37, 38, 39, 40, 41, 42, 43, 44, 45, 46, 47, 48, 49, 6, 50, 51, 52, 53, 20, 54, 55, 56, 57, 58, 59, 60, 61, 62, 63, 64, 65, 66, 67, 68, 69, 100, 101, 102, 103, 104, 105, 106, 107, 108, 109, 110, 111, 112, 113, 114, 115, 116] (by decide +kernel) (by decide +kernel)
set_option maxRecDepth 20000 in
theorem gX5_area_X0_workOut : GoodIn wsX5_area (wsV RX5 90 RX0 yX0_workOut wsX0_workOut) := goodIn_app (goodIn_of _ (by decide +kernel)) ggX5_area_X0_workOut
set_option maxRecDepth 20000 in
theorem ggX5_area_X1_doubleArea : GoodIn wsX5_area wsX1_doubleArea := goodIn_r _ [73, 74, 75, 76, 77, 78, 79, 80, 81, 82, 14, 83, 84, 85, 86, 87, 88, 94, 95, 96, 97, 98, 99, 100, 101, 102, 103, 104, 105, 106, 107, 108, 109] (by decide +kernel) (by decide +kernel)
set_option maxRecDepth 20000 in
theorem gX5_area_X1_doubleArea : GoodIn wsX5_area (wsV RX5 118 RX1 yX1_doubleArea wsX1_doubleArea) := goodIn_app (goodIn_of _ (by decide +kernel)) ggX5_area_X1_doubleArea
theorem dX5_area_0 : decode cX5_area 0 = .ok (.iload_n 1, 1) := by decide +kernel
theorem dX5_area_1 : decode cX5_area 1 = .ok (.invokestatic 52, 3) := by decide +kernel
theorem dX5_area_4 : decode cX5_area 4 = .ok (.ifCond .eq 14, 3) := by decide +kernel
theorem dX5_area_7 : decode cX5_area 7 = .ok (.aload_n 0, 1) := by decide +kernel
theorem dX5_area_8 : decode cX5_area 8 = .ok (.getfield 30, 3) := by decide +kernel
theorem dX5_area_11 : decode cX5_area 11 = .ok (.iload_n 2, 1) := by decide +kernel
theorem dX5_area_12 : decode cX5_area 12 = .ok (.invokevirtual 105, 3) := by decide +kernel
theorem dX5_area_15 : decode cX5_area 15 = .ok (.ifCond .ne 7, 3) := by decide +kernel
theorem dX5_area_18 : decode cX5_area 18 = .ok (.ldc2_w 116, 3) := by decide +kernel
theorem dX5_area_21 : decode cX5_area 21 = .ok (.lreturn, 1) := by decide +kernel
theorem dX5_area_22 : decode cX5_area 22 = .ok (.aload_n 0, 1) := by decide +kernel
theorem dX5_area_23 : decode cX5_area 23 = .ok (.getfield 21, 3) := by decide +kernel
theorem dX5_area_26 : decode cX5_area 26 = .ok (.iload_n 1, 1) := by decide +kernel
theorem dX5_area_27 : decode cX5_area 27 = .ok (.invokevirtual 90, 3) := by decide +kernel
theorem dX5_area_30 : decode cX5_area 30 = .ok (.aload_n 0, 1) := by decide +kernel
theorem dX5_area_31 : decode cX5_area 31 = .ok (.getfield 30, 3) := by decide +kernel
theorem dX5_area_34 : decode cX5_area 34 = .ok (.iload_n 2, 1) := by decide +kernel
theorem dX5_area_35 : decode cX5_area 35 = .ok (.invokevirtual 118, 3) := by decide +kernel
theorem dX5_area_38 : decode cX5_area 38 = .ok (.lreturn, 1) := by decide +kernel
set_option maxRecDepth 20000 in
theorem ggX5_seam_X1_hasSide : GoodIn wsX5_seam wsX1_hasSide := goodIn_r _ [6, 7, 8, 9, 10, 5, 11, 12, 13, 14, 15, 27, 28, 29, 30, 31, 32] (by decide +kernel) (by decide +kernel)
set_option maxRecDepth 20000 in
theorem gX5_seam_X1_hasSide : GoodIn wsX5_seam (wsV RX5 109 RX1 yX1_hasSide wsX1_hasSide) := goodIn_app (goodIn_of _ (by decide +kernel)) ggX5_seam_X1_hasSide
set_option maxRecDepth 20000 in
theorem ggX5_seam_X1_addSeam : GoodIn wsX5_seam wsX1_addSeam := goodIn_r _ [19, 20, 21, 27, 28, 29, 30, 31, 32] (by decide +kernel) (by decide +kernel)
set_option maxRecDepth 20000 in
theorem gX5_seam_X1_addSeam : GoodIn wsX5_seam (wsV RX5 122 RX1 yX1_addSeam wsX1_addSeam) := goodIn_app (goodIn_of _ (by decide +kernel)) ggX5_seam_X1_addSeam
theorem dX5_seam_0 : decode cX5_seam 0 = .ok (.aload_n 0, 1) := by decide +kernel
theorem dX5_seam_1 : decode cX5_seam 1 = .ok (.getfield 30, 3) := by decide +kernel
theorem dX5_seam_4 : decode cX5_seam 4 = .ok (.iload_n 1, 1) := by decide +kernel
theorem dX5_seam_5 : decode cX5_seam 5 = .ok (.iload_n 2, 1) := by decide +kernel
theorem dX5_seam_6 : decode cX5_seam 6 = .ok (.invokevirtual 109, 3) := by decide +kernel
theorem dX5_seam_9 : decode cX5_seam 9 = .ok (.ifCond .eq 16, 3) := by decide +kernel
theorem dX5_seam_12 : decode cX5_seam 12 = .ok (.aload_n 0, 1) := by decide +kernel
theorem dX5_seam_13 : decode cX5_seam 13 = .ok (.getfield 30, 3) := by decide +kernel
theorem dX5_seam_16 : decode cX5_seam 16 = .ok (.iload_n 3, 1) := by decide +kernel
theorem dX5_seam_17 : decode cX5_seam 17 = .ok (.iload 4, 2) := by decide +kernel
theorem dX5_seam_19 : decode cX5_seam 19 = .ok (.invokevirtual 109, 3) := by decide +kernel
theorem dX5_seam_22 : decode cX5_seam 22 = .ok (.ifCond .ne 6, 3) := by decide +kernel
theorem dX5_seam_25 : decode cX5_seam 25 = .ok (.bipush (-2), 2) := by decide +kernel
theorem dX5_seam_27 : decode cX5_seam 27 = .ok (.ireturn, 1) := by decide +kernel
theorem dX5_seam_28 : decode cX5_seam 28 = .ok (.aload_n 0, 1) := by decide +kernel
theorem dX5_seam_29 : decode cX5_seam 29 = .ok (.getfield 30, 3) := by decide +kernel
theorem dX5_seam_32 : decode cX5_seam 32 = .ok (.iload_n 1, 1) := by decide +kernel
theorem dX5_seam_33 : decode cX5_seam 33 = .ok (.iload_n 2, 1) := by decide +kernel
theorem dX5_seam_34 : decode cX5_seam 34 = .ok (.iload_n 3, 1) := by decide +kernel
theorem dX5_seam_35 : decode cX5_seam 35 = .ok (.iload 4, 2) := by decide +kernel
theorem dX5_seam_37 : decode cX5_seam 37 = .ok (.invokevirtual 122, 3) := by decide +kernel
theorem dX5_seam_40 : decode cX5_seam 40 = .ok (.ireturn, 1) := by decide +kernel
set_option maxRecDepth 20000 in
theorem ggX5_gaps_X5_isBody : GoodIn wsX5_gaps wsX5_isBody := goodIn_r _ [6, 7, 8, 5, 9] (by decide +kernel) (by decide +kernel)
set_option maxRecDepth 20000 in
theorem gX5_gaps_X5_isBody : GoodIn wsX5_gaps (va_wsS RX5 52 yX5_isBody wsX5_isBody) := goodIn_app (goodIn_of _ (by decide +kernel)) ggX5_gaps_X5_isBody
set_option maxRecDepth 20000 in
theorem ggX5_gaps_X5_within : GoodIn wsX5_gaps wsX5_within := goodIn_r _ [9] (by decide +kernel) (by decide +kernel)
set_option maxRecDepth 20000 in
theorem gX5_gaps_X5_within : GoodIn wsX5_gaps (va_wsS RX5 58 yX5_within wsX5_within) := goodIn_app (goodIn_of _ (by decide +kernel)) ggX5_gaps_X5_within
set_option maxRecDepth 20000 in
theorem ggX5_gaps_X0_workOut : GoodIn wsX5_gaps wsX0_workOut := goodIn_r _ [14, 15, 16, 17, 18, 19, 20, 21, 22, 23, 24, 25, 26, 27, 28, 29, 30, 31, 32, 33, 34, 35, 36, 37, 38, 39, 40, 41, 42, 5, 43, 44, 45, 46, 13, 47, 48, 49, 50, 51, 52, 53, 54, 55, 56, 57, 58, 59, 60, 61, 62, 97, 98, 99, 100, 101, 102, 103, 104, 105, 106, 107, 108, 109, 110, 111, 112, 113] (by decide +kernel) (by decide +kernel)
set_option maxRecDepth 20000 in
theorem gX5_gaps_X0_workOut : GoodIn wsX5_gaps (wsV RX5 90 RX0 yX0_workOut wsX0_workOut) := goodIn_app (goodIn_of _ (by decide +kernel)) ggX5_gaps_X0_workOut
set_option maxRecDepth 20000 in
theorem ggX5_gaps_X1_firstGap : GoodIn wsX5_gaps wsX1_firstGap := goodIn_r _ [67, 68, 69, 70, 71, 72, 73, 74, 75, 76, 66, 77, 78, 79, 80, 81, 82, 83, 84, 85, 86, 87, 88, 89, 90, 5, 91, 114, 115, 116, 117, 118, 119, 97, 98, 99, 100, 101, 102, 103, 104, 105, 106] (by decide +kernel) (by decide +kernel)
set_option maxRecDepth 20000 in
theorem gX5_gaps_X1_firstGap : GoodIn wsX5_gaps (wsV RX5 125 RX1 yX1_firstGap wsX1_firstGap) := goodIn_app (goodIn_of _ (by decide +kernel)) ggX5_gaps_X1_firstGap
theorem dX5_gaps_0 : decode cX5_gaps 0 = .ok (.iload_n 1, 1) := by decide +kernel
theorem dX5_gaps_1 : decode cX5_gaps 1 = .ok (.invokestatic 52, 3) := by decide +kernel
theorem dX5_gaps_4 : decode cX5_gaps 4 = .ok (.ifCond .eq 13, 3) := by decide +kernel
theorem dX5_gaps_7 : decode cX5_gaps 7 = .ok (.iload_n 2, 1) := by decide +kernel
theorem dX5_gaps_8 : decode cX5_gaps 8 = .ok (.iconst 0, 1) := by decide +kernel
theorem dX5_gaps_9 : decode cX5_gaps 9 = .ok (.bipush 100, 2) := by decide +kernel
theorem dX5_gaps_11 : decode cX5_gaps 11 = .ok (.invokestatic 58, 3) := by decide +kernel
theorem dX5_gaps_14 : decode cX5_gaps 14 = .ok (.ifCond .ne 6, 3) := by decide +kernel
theorem dX5_gaps_17 : decode cX5_gaps 17 = .ok (.bipush (-2), 2) := by decide +kernel
theorem dX5_gaps_19 : decode cX5_gaps 19 = .ok (.ireturn, 1) := by decide +kernel
theorem dX5_gaps_20 : decode cX5_gaps 20 = .ok (.aload_n 0, 1) := by decide +kernel
theorem dX5_gaps_21 : decode cX5_gaps 21 = .ok (.getfield 21, 3) := by decide +kernel
theorem dX5_gaps_24 : decode cX5_gaps 24 = .ok (.iload_n 1, 1) := by decide +kernel
theorem dX5_gaps_25 : decode cX5_gaps 25 = .ok (.invokevirtual 90, 3) := by decide +kernel
theorem dX5_gaps_28 : decode cX5_gaps 28 = .ok (.aload_n 0, 1) := by decide +kernel
theorem dX5_gaps_29 : decode cX5_gaps 29 = .ok (.getfield 30, 3) := by decide +kernel
theorem dX5_gaps_32 : decode cX5_gaps 32 = .ok (.iload_n 2, 1) := by decide +kernel
theorem dX5_gaps_33 : decode cX5_gaps 33 = .ok (.invokevirtual 125, 3) := by decide +kernel
theorem dX5_gaps_36 : decode cX5_gaps 36 = .ok (.ireturn, 1) := by decide +kernel
set_option maxRecDepth 20000 in
theorem ggX5_hangs_X5_isMeasure : GoodIn wsX5_hangs wsX5_isMeasure := goodIn_r _ [6, 7, 8, 5, 9] (by decide +kernel) (by decide +kernel)
set_option maxRecDepth 20000 in
theorem gX5_hangs_X5_isMeasure : GoodIn wsX5_hangs (va_wsS RX5 55 yX5_isMeasure wsX5_isMeasure) := goodIn_app (goodIn_of _ (by decide +kernel)) ggX5_hangs_X5_isMeasure
set_option maxRecDepth 20000 in
theorem ggX5_hangs_X5_within : GoodIn wsX5_hangs wsX5_within := goodIn_r _ [9] (by decide +kernel) (by decide +kernel)
set_option maxRecDepth 20000 in
theorem gX5_hangs_X5_within : GoodIn wsX5_hangs (va_wsS RX5 58 yX5_within wsX5_within) := goodIn_app (goodIn_of _ (by decide +kernel)) ggX5_hangs_X5_within
set_option maxRecDepth 20000 in
theorem ggX5_hangs_X0_pointsOn : GoodIn wsX5_hangs wsX0_pointsOn := goodIn_r _ [14, 15, 16, 17, 18, 13, 19, 20, 21, 22, 40, 41, 42, 43, 44, 45, 46, 47, 48, 49] (by decide +kernel) (by decide +kernel)
set_option maxRecDepth 20000 in
theorem gX5_hangs_X0_pointsOn : GoodIn wsX5_hangs (wsV RX5 129 RX0 yX0_pointsOn wsX0_pointsOn) := goodIn_app (goodIn_of _ (by decide +kernel)) ggX5_hangs_X0_pointsOn
set_option maxRecDepth 20000 in
theorem ggX5_hangs_X1_piecesWith : GoodIn wsX5_hangs wsX1_piecesWith := goodIn_r _ [27, 28, 29, 30, 31, 32, 26, 33, 34, 50, 51, 52, 53, 54, 55] (by decide +kernel) (by decide +kernel)
set_option maxRecDepth 20000 in
theorem gX5_hangs_X1_piecesWith : GoodIn wsX5_hangs (wsV RX5 132 RX1 yX1_piecesWith wsX1_piecesWith) := goodIn_app (goodIn_of _ (by decide +kernel)) ggX5_hangs_X1_piecesWith
theorem dX5_hangs_0 : decode cX5_hangs 0 = .ok (.iload_n 1, 1) := by decide +kernel
theorem dX5_hangs_1 : decode cX5_hangs 1 = .ok (.invokestatic 55, 3) := by decide +kernel
theorem dX5_hangs_4 : decode cX5_hangs 4 = .ok (.ifCond .eq 12, 3) := by decide +kernel
theorem dX5_hangs_7 : decode cX5_hangs 7 = .ok (.iload_n 2, 1) := by decide +kernel
theorem dX5_hangs_8 : decode cX5_hangs 8 = .ok (.iconst 0, 1) := by decide +kernel
theorem dX5_hangs_9 : decode cX5_hangs 9 = .ok (.iconst 1, 1) := by decide +kernel
theorem dX5_hangs_10 : decode cX5_hangs 10 = .ok (.invokestatic 58, 3) := by decide +kernel
theorem dX5_hangs_13 : decode cX5_hangs 13 = .ok (.ifCond .ne 6, 3) := by decide +kernel
theorem dX5_hangs_16 : decode cX5_hangs 16 = .ok (.bipush (-2), 2) := by decide +kernel
theorem dX5_hangs_18 : decode cX5_hangs 18 = .ok (.ireturn, 1) := by decide +kernel
theorem dX5_hangs_19 : decode cX5_hangs 19 = .ok (.aload_n 0, 1) := by decide +kernel
theorem dX5_hangs_20 : decode cX5_hangs 20 = .ok (.getfield 21, 3) := by decide +kernel
theorem dX5_hangs_23 : decode cX5_hangs 23 = .ok (.iload_n 1, 1) := by decide +kernel
theorem dX5_hangs_24 : decode cX5_hangs 24 = .ok (.invokevirtual 129, 3) := by decide +kernel
theorem dX5_hangs_27 : decode cX5_hangs 27 = .ok (.istore_n 3, 1) := by decide +kernel
theorem dX5_hangs_28 : decode cX5_hangs 28 = .ok (.iload_n 2, 1) := by decide +kernel
theorem dX5_hangs_29 : decode cX5_hangs 29 = .ok (.ifCond .ne 7, 3) := by decide +kernel
theorem dX5_hangs_32 : decode cX5_hangs 32 = .ok (.iload_n 3, 1) := by decide +kernel
theorem dX5_hangs_33 : decode cX5_hangs 33 = .ok (.goto 11, 3) := by decide +kernel
theorem dX5_hangs_36 : decode cX5_hangs 36 = .ok (.aload_n 0, 1) := by decide +kernel
theorem dX5_hangs_37 : decode cX5_hangs 37 = .ok (.getfield 30, 3) := by decide +kernel
theorem dX5_hangs_40 : decode cX5_hangs 40 = .ok (.iload_n 3, 1) := by decide +kernel
theorem dX5_hangs_41 : decode cX5_hangs 41 = .ok (.invokevirtual 132, 3) := by decide +kernel
theorem dX5_hangs_44 : decode cX5_hangs 44 = .ok (.ireturn, 1) := by decide +kernel
set_option maxRecDepth 20000 in
theorem ggX5_cloth_X5_within : GoodIn wsX5_cloth wsX5_within := goodIn_r _ [5] (by decide +kernel) (by decide +kernel)
set_option maxRecDepth 20000 in
theorem gX5_cloth_X5_within : GoodIn wsX5_cloth (va_wsS RX5 58 yX5_within wsX5_within) := goodIn_app (goodIn_of _ (by decide +kernel)) ggX5_cloth_X5_within
set_option maxRecDepth 20000 in
theorem ggX5_cloth_X2_spread : GoodIn wsX5_cloth wsX2_spread := goodIn_r _ [10, 11, 12, 18, 19, 20, 21, 22, 23, 24, 25, 26] (by decide +kernel) (by decide +kernel)
set_option maxRecDepth 20000 in
theorem gX5_cloth_X2_spread : GoodIn wsX5_cloth (wsV RX5 135 RX2 yX2_spread wsX2_spread) := goodIn_app (goodIn_of _ (by decide +kernel)) ggX5_cloth_X2_spread
theorem dX5_cloth_0 : decode cX5_cloth 0 = .ok (.iload_n 1, 1) := by decide +kernel
theorem dX5_cloth_1 : decode cX5_cloth 1 = .ok (.iconst 1, 1) := by decide +kernel
theorem dX5_cloth_2 : decode cX5_cloth 2 = .ok (.sipush 5000, 3) := by decide +kernel
theorem dX5_cloth_5 : decode cX5_cloth 5 = .ok (.invokestatic 58, 3) := by decide +kernel
theorem dX5_cloth_8 : decode cX5_cloth 8 = .ok (.ifCond .eq 14, 3) := by decide +kernel
theorem dX5_cloth_11 : decode cX5_cloth 11 = .ok (.iload_n 2, 1) := by decide +kernel
theorem dX5_cloth_12 : decode cX5_cloth 12 = .ok (.iconst 1, 1) := by decide +kernel
theorem dX5_cloth_13 : decode cX5_cloth 13 = .ok (.sipush 500, 3) := by decide +kernel
theorem dX5_cloth_16 : decode cX5_cloth 16 = .ok (.invokestatic 58, 3) := by decide +kernel
theorem dX5_cloth_19 : decode cX5_cloth 19 = .ok (.ifCond .ne 6, 3) := by decide +kernel
theorem dX5_cloth_22 : decode cX5_cloth 22 = .ok (.bipush (-2), 2) := by decide +kernel
theorem dX5_cloth_24 : decode cX5_cloth 24 = .ok (.ireturn, 1) := by decide +kernel
theorem dX5_cloth_25 : decode cX5_cloth 25 = .ok (.aload_n 0, 1) := by decide +kernel
theorem dX5_cloth_26 : decode cX5_cloth 26 = .ok (.getfield 37, 3) := by decide +kernel
theorem dX5_cloth_29 : decode cX5_cloth 29 = .ok (.iload_n 1, 1) := by decide +kernel
theorem dX5_cloth_30 : decode cX5_cloth 30 = .ok (.iload_n 2, 1) := by decide +kernel
theorem dX5_cloth_31 : decode cX5_cloth 31 = .ok (.invokevirtual 135, 3) := by decide +kernel
theorem dX5_cloth_34 : decode cX5_cloth 34 = .ok (.iconst 1, 1) := by decide +kernel
theorem dX5_cloth_35 : decode cX5_cloth 35 = .ok (.ireturn, 1) := by decide +kernel
set_option maxRecDepth 20000 in
theorem ggX5_laid_X5_layAll : GoodIn wsX5_laid wsX5_layAll := goodIn_r _ [5, 6, 7, 8, 9, 10, 4, 11, 12, 13, 14, 15, 16, 17, 18, 19, 20, 21, 22, 23, 24, 25, 26, 27, 28, 29, 30, 31, 32, 33, 34, 35, 36, 37, 38, 39, 40, 41, 42, 43, 44, 45, 46, 47, 48, 49, 50, 51, 52, 53, 54, 55, 56, 57, 58, 59, 60, 61, 62, 63, 64, 65, 66, 67, 68, 69, 70, 71, 72, 73, 74, 75, 76, 77, 78, 79, 80, 81, 82, 83, 84, 85, 86, 87, 88, 89, 90, 91, 92, 93, 94, 95, 96, 97, 98, 99, 100, 101, 102, 103, 104, 105, 106, 107, 108, 109, 110, 111, 112, 113, 114, 115, 116, 117, 118, 119, 120, 121, 122, 123, 124, 125, 126, 127, 128, 129, 130, 131, 132, 133, 134, 135, 136, 137, 138, 139, 140, 141, 142, 143, 144, 145, 146, 147, 148, 149, 150, 151, 152, 153, 154, 155, 156, 157, 158, 159] (by decide +kernel) (by decide +kernel)
set_option maxRecDepth 20000 in
theorem gX5_laid_X5_layAll : GoodIn wsX5_laid (wsV RX5 139 RX5 yX5_layAll wsX5_layAll) := goodIn_app (goodIn_of _ (by decide +kernel)) ggX5_laid_X5_layAll
theorem dX5_laid_0 : decode cX5_laid 0 = .ok (.aload_n 0, 1) := by decide +kernel
theorem dX5_laid_1 : decode cX5_laid 1 = .ok (.iload_n 1, 1) := by decide +kernel
theorem dX5_laid_2 : decode cX5_laid 2 = .ok (.invokevirtual 139, 3) := by decide +kernel
theorem dX5_laid_5 : decode cX5_laid 5 = .ok (.ireturn, 1) := by decide +kernel
set_option maxRecDepth 20000 in
theorem ggX5_laidAt_X5_layAll : GoodIn wsX5_laidAt wsX5_layAll := goodIn_r _ [7, 1, 8, 2, 9, 10, 6, 11, 12, 13, 14, 15, 16, 17, 18, 19, 20, 21, 22, 23, 24, 25, 26, 27, 28, 29, 30, 31, 32, 33, 34, 35, 36, 37, 38, 39, 40, 41, 42, 43, 44, 45, 46, 47, 48, 49, 50, 51, 52, 53, 54, 55, 56, 57, 58, 59, 60, 61, 62, 63, 64, 65, 66, 67, 68, 69, 70, 71, 72, 73, 74, 75, 76, 77, 78, 79, 80, 81, 82, 83, 84, 85, 86, 87, 88, 89, 90, 91, 92, 93, 94, 95, 96, 97, 98, 99, 100, 101, 102, 103, 104, 105, 106, 107, 108, 109, 110, 111, 112, 113, 114, 115, 116, 117, 118, 119, 120, 121, 122, 123, 124, 125, 126, 127, 128, 129, 130, 131, 132, 133, 143, 144, 145, 146, 147, 148, 149, 150, 151, 152, 153, 154, 155, 156, 157, 158, 159, 134, 135, 136, 137, 138, 139, 140, 141, 142] (by decide +kernel) (by decide +kernel)
set_option maxRecDepth 20000 in
theorem gX5_laidAt_X5_layAll : GoodIn wsX5_laidAt (wsV RX5 139 RX5 yX5_layAll wsX5_layAll) := goodIn_app (goodIn_of _ (by decide +kernel)) ggX5_laidAt_X5_layAll
