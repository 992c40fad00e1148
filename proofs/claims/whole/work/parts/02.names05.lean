theorem dX6_coat_97 : decode cX6_coat 97 = .ok (.imul, 1) := by decide +kernel
theorem dX6_coat_98 : decode cX6_coat 98 = .ok (.iconst 3, 1) := by decide +kernel
theorem dX6_coat_99 : decode cX6_coat 99 = .ok (.iadd, 1) := by decide +kernel
theorem dX6_coat_100 : decode cX6_coat 100 = .ok (.iload 4, 2) := by decide +kernel
theorem dX6_coat_102 : decode cX6_coat 102 = .ok (.iastore, 1) := by decide +kernel
theorem dX6_coat_103 : decode cX6_coat 103 = .ok (.aload_n 0, 1) := by decide +kernel
theorem dX6_coat_104 : decode cX6_coat 104 = .ok (.dup, 1) := by decide +kernel
theorem dX6_coat_105 : decode cX6_coat 105 = .ok (.getfield 153, 3) := by decide +kernel
theorem dX6_coat_108 : decode cX6_coat 108 = .ok (.iconst 1, 1) := by decide +kernel
theorem dX6_coat_109 : decode cX6_coat 109 = .ok (.iadd, 1) := by decide +kernel
theorem dX6_coat_110 : decode cX6_coat 110 = .ok (.putfield 153, 3) := by decide +kernel
theorem dX6_coat_113 : decode cX6_coat 113 = .ok (.aload_n 0, 1) := by decide +kernel
theorem dX6_coat_114 : decode cX6_coat 114 = .ok (.getfield 153, 3) := by decide +kernel
theorem dX6_coat_117 : decode cX6_coat 117 = .ok (.iconst 1, 1) := by decide +kernel
theorem dX6_coat_118 : decode cX6_coat 118 = .ok (.isub, 1) := by decide +kernel
theorem dX6_coat_119 : decode cX6_coat 119 = .ok (.ireturn, 1) := by decide +kernel
theorem dX6_clear_0 : decode cX6_clear 0 = .ok (.aload_n 0, 1) := by decide +kernel
theorem dX6_clear_1 : decode cX6_clear 1 = .ok (.getfield 153, 3) := by decide +kernel
theorem dX6_clear_4 : decode cX6_clear 4 = .ok (.istore_n 1, 1) := by decide +kernel
theorem dX6_clear_5 : decode cX6_clear 5 = .ok (.aload_n 0, 1) := by decide +kernel
theorem dX6_clear_6 : decode cX6_clear 6 = .ok (.iconst 0, 1) := by decide +kernel
theorem dX6_clear_7 : decode cX6_clear 7 = .ok (.putfield 153, 3) := by decide +kernel
theorem dX6_clear_10 : decode cX6_clear 10 = .ok (.iload_n 1, 1) := by decide +kernel
theorem dX6_clear_11 : decode cX6_clear 11 = .ok (.ireturn, 1) := by decide +kernel
theorem dX6_work_0 : decode cX6_work 0 = .ok (.aload_n 0, 1) := by decide +kernel
theorem dX6_work_1 : decode cX6_work 1 = .ok (.iconst 0, 1) := by decide +kernel
theorem dX6_work_2 : decode cX6_work 2 = .ok (.putfield 156, 3) := by decide +kernel
theorem dX6_work_5 : decode cX6_work 5 = .ok (.iconst 0, 1) := by decide +kernel
theorem dX6_work_6 : decode cX6_work 6 = .ok (.istore_n 1, 1) := by decide +kernel
theorem dX6_work_7 : decode cX6_work 7 = .ok (.iconst 0, 1) := by decide +kernel
theorem dX6_work_8 : decode cX6_work 8 = .ok (.istore_n 2, 1) := by decide +kernel
theorem dX6_work_9 : decode cX6_work 9 = .ok (.aload_n 0, 1) := by decide +kernel
theorem dX6_work_10 : decode cX6_work 10 = .ok (.iconst 0, 1) := by decide +kernel
theorem dX6_work_11 : decode cX6_work 11 = .ok (.putfield 159, 3) := by decide +kernel
theorem dX6_work_14 : decode cX6_work 14 = .ok (.iconst 0, 1) := by decide +kernel
theorem dX6_work_15 : decode cX6_work 15 = .ok (.istore_n 3, 1) := by decide +kernel
theorem dX6_work_16 : decode cX6_work 16 = .ok (.iload_n 3, 1) := by decide +kernel
theorem dX6_work_17 : decode cX6_work 17 = .ok (.aload_n 0, 1) := by decide +kernel
theorem dX6_work_18 : decode cX6_work 18 = .ok (.getfield 153, 3) := by decide +kernel
theorem dX6_work_21 : decode cX6_work 21 = .ok (.if_icmp .ge 123, 3) := by decide +kernel
theorem dX6_work_24 : decode cX6_work 24 = .ok (.iconst 4, 1) := by decide +kernel
theorem dX6_work_25 : decode cX6_work 25 = .ok (.aload_n 0, 1) := by decide +kernel
theorem dX6_work_26 : decode cX6_work 26 = .ok (.getfield 50, 3) := by decide +kernel
theorem dX6_work_29 : decode cX6_work 29 = .ok (.iload_n 3, 1) := by decide +kernel
theorem dX6_work_30 : decode cX6_work 30 = .ok (.iaload, 1) := by decide +kernel
theorem dX6_work_31 : decode cX6_work 31 = .ok (.imul, 1) := by decide +kernel
theorem dX6_work_32 : decode cX6_work 32 = .ok (.istore 4, 2) := by decide +kernel
theorem dX6_work_34 : decode cX6_work 34 = .ok (.iload_n 1, 1) := by decide +kernel
theorem dX6_work_35 : decode cX6_work 35 = .ok (.aload_n 0, 1) := by decide +kernel
theorem dX6_work_36 : decode cX6_work 36 = .ok (.getfield 35, 3) := by decide +kernel
theorem dX6_work_39 : decode cX6_work 39 = .ok (.iload 4, 2) := by decide +kernel
theorem dX6_work_41 : decode cX6_work 41 = .ok (.iaload, 1) := by decide +kernel
theorem dX6_work_42 : decode cX6_work 42 = .ok (.iadd, 1) := by decide +kernel
theorem dX6_work_43 : decode cX6_work 43 = .ok (.istore_n 1, 1) := by decide +kernel
theorem dX6_work_44 : decode cX6_work 44 = .ok (.iload_n 1, 1) := by decide +kernel
theorem dX6_work_45 : decode cX6_work 45 = .ok (.iload_n 2, 1) := by decide +kernel
theorem dX6_work_46 : decode cX6_work 46 = .ok (.if_icmp .le 7, 3) := by decide +kernel
theorem dX6_work_49 : decode cX6_work 49 = .ok (.iload_n 1, 1) := by decide +kernel
theorem dX6_work_50 : decode cX6_work 50 = .ok (.goto 4, 3) := by decide +kernel
theorem dX6_work_53 : decode cX6_work 53 = .ok (.iload_n 2, 1) := by decide +kernel
theorem dX6_work_54 : decode cX6_work 54 = .ok (.aload_n 0, 1) := by decide +kernel
theorem dX6_work_55 : decode cX6_work 55 = .ok (.getfield 35, 3) := by decide +kernel
theorem dX6_work_58 : decode cX6_work 58 = .ok (.iload 4, 2) := by decide +kernel
theorem dX6_work_60 : decode cX6_work 60 = .ok (.iconst 1, 1) := by decide +kernel
theorem dX6_work_61 : decode cX6_work 61 = .ok (.iadd, 1) := by decide +kernel
theorem dX6_work_62 : decode cX6_work 62 = .ok (.iaload, 1) := by decide +kernel
theorem dX6_work_63 : decode cX6_work 63 = .ok (.iadd, 1) := by decide +kernel
theorem dX6_work_64 : decode cX6_work 64 = .ok (.istore_n 2, 1) := by decide +kernel
theorem dX6_work_65 : decode cX6_work 65 = .ok (.aload_n 0, 1) := by decide +kernel
theorem dX6_work_66 : decode cX6_work 66 = .ok (.iload_n 2, 1) := by decide +kernel
theorem dX6_work_67 : decode cX6_work 67 = .ok (.aload_n 0, 1) := by decide +kernel
theorem dX6_work_68 : decode cX6_work 68 = .ok (.getfield 159, 3) := by decide +kernel
theorem dX6_work_71 : decode cX6_work 71 = .ok (.if_icmp .le 7, 3) := by decide +kernel
theorem dX6_work_74 : decode cX6_work 74 = .ok (.iload_n 2, 1) := by decide +kernel
theorem dX6_work_75 : decode cX6_work 75 = .ok (.goto 7, 3) := by decide +kernel
theorem dX6_work_78 : decode cX6_work 78 = .ok (.aload_n 0, 1) := by decide +kernel
theorem dX6_work_79 : decode cX6_work 79 = .ok (.getfield 159, 3) := by decide +kernel
theorem dX6_work_82 : decode cX6_work 82 = .ok (.aload_n 0, 1) := by decide +kernel
theorem dX6_work_83 : decode cX6_work 83 = .ok (.getfield 35, 3) := by decide +kernel
theorem dX6_work_86 : decode cX6_work 86 = .ok (.iload 4, 2) := by decide +kernel
theorem dX6_work_88 : decode cX6_work 88 = .ok (.iconst 2, 1) := by decide +kernel
theorem dX6_work_89 : decode cX6_work 89 = .ok (.iadd, 1) := by decide +kernel
theorem dX6_work_90 : decode cX6_work 90 = .ok (.iaload, 1) := by decide +kernel
theorem dX6_work_91 : decode cX6_work 91 = .ok (.iadd, 1) := by decide +kernel
theorem dX6_work_92 : decode cX6_work 92 = .ok (.putfield 159, 3) := by decide +kernel
theorem dX6_work_95 : decode cX6_work 95 = .ok (.aload_n 0, 1) := by decide +kernel
theorem dX6_work_96 : decode cX6_work 96 = .ok (.dup, 1) := by decide +kernel
theorem dX6_work_97 : decode cX6_work 97 = .ok (.getfield 156, 3) := by decide +kernel
theorem dX6_work_100 : decode cX6_work 100 = .ok (.aload_n 0, 1) := by decide +kernel
theorem dX6_work_101 : decode cX6_work 101 = .ok (.getfield 159, 3) := by decide +kernel
theorem dX6_work_104 : decode cX6_work 104 = .ok (.aload_n 0, 1) := by decide +kernel
theorem dX6_work_105 : decode cX6_work 105 = .ok (.getfield 35, 3) := by decide +kernel
theorem dX6_work_108 : decode cX6_work 108 = .ok (.iload 4, 2) := by decide +kernel
theorem dX6_work_110 : decode cX6_work 110 = .ok (.iconst 3, 1) := by decide +kernel
theorem dX6_work_111 : decode cX6_work 111 = .ok (.iadd, 1) := by decide +kernel
theorem dX6_work_112 : decode cX6_work 112 = .ok (.iaload, 1) := by decide +kernel
theorem dX6_work_113 : decode cX6_work 113 = .ok (.if_icmp .le 20, 3) := by decide +kernel
theorem dX6_work_116 : decode cX6_work 116 = .ok (.aload_n 0, 1) := by decide +kernel
theorem dX6_work_117 : decode cX6_work 117 = .ok (.getfield 159, 3) := by decide +kernel
theorem dX6_work_120 : decode cX6_work 120 = .ok (.aload_n 0, 1) := by decide +kernel
theorem dX6_work_121 : decode cX6_work 121 = .ok (.getfield 35, 3) := by decide +kernel
theorem dX6_work_124 : decode cX6_work 124 = .ok (.iload 4, 2) := by decide +kernel
theorem dX6_work_126 : decode cX6_work 126 = .ok (.iconst 3, 1) := by decide +kernel
theorem dX6_work_127 : decode cX6_work 127 = .ok (.iadd, 1) := by decide +kernel
theorem dX6_work_128 : decode cX6_work 128 = .ok (.iaload, 1) := by decide +kernel
theorem dX6_work_129 : decode cX6_work 129 = .ok (.isub, 1) := by decide +kernel
theorem dX6_work_130 : decode cX6_work 130 = .ok (.goto 4, 3) := by decide +kernel
theorem dX6_work_133 : decode cX6_work 133 = .ok (.iconst 0, 1) := by decide +kernel
theorem dX6_work_134 : decode cX6_work 134 = .ok (.iadd, 1) := by decide +kernel
theorem dX6_work_135 : decode cX6_work 135 = .ok (.putfield 156, 3) := by decide +kernel
theorem dX6_work_138 : decode cX6_work 138 = .ok (.iinc 3 1, 3) := by decide +kernel
theorem dX6_work_141 : decode cX6_work 141 = .ok (.goto (-125), 3) := by decide +kernel
theorem dX6_work_144 : decode cX6_work 144 = .ok (.return_, 1) := by decide +kernel
set_option maxRecDepth 20000 in
theorem ggX6_layCoats_X6_firstOrder : GoodIn wsX6_layCoats wsX6_firstOrder := goodIn_r _ [10, 11, 30, 31, 32, 33, 34, 35, 36, 37, 38, 39, 40, 41, 42, 43, 44, 45, 46, 47, 48, 49, 50, 51, 52, 53] (by decide +kernel) (by decide +kernel)
set_option maxRecDepth 20000 in
theorem gX6_layCoats_X6_firstOrder : GoodIn wsX6_layCoats (wsV RX6 133 RX6 yX6_firstOrder wsX6_firstOrder) := goodIn_app (goodIn_of _ (by decide +kernel)) ggX6_layCoats_X6_firstOrder
set_option maxRecDepth 20000 in
theorem ggX6_layCoats_X6_work : GoodIn wsX6_layCoats wsX6_work := goodIn_r _ [15, 2, 4, 1, 11, 16, 30, 31, 32, 33, 34, 35, 36, 37, 38, 39, 40, 41, 42, 43, 44, 45, 46, 47, 48, 49, 50, 51, 52, 53] (by decide +kernel) (by decide +kernel)
set_option maxRecDepth 20000 in
theorem gX6_layCoats_X6_work : GoodIn wsX6_layCoats (wsV RX6 162 RX6 yX6_work wsX6_work) := goodIn_app (goodIn_of _ (by decide +kernel)) ggX6_layCoats_X6_work
set_option maxRecDepth 20000 in
theorem ggX6_layCoats_X6_keepOrder : GoodIn wsX6_layCoats wsX6_keepOrder := goodIn_r _ [20, 21, 11, 30, 31, 32, 33, 34, 35, 36, 37, 38, 39, 40, 41, 42, 43, 44, 45, 46, 47, 48, 49, 50, 51, 52, 53] (by decide +kernel) (by decide +kernel)
set_option maxRecDepth 20000 in
theorem gX6_layCoats_X6_keepOrder : GoodIn wsX6_layCoats (wsV RX6 140 RX6 yX6_keepOrder wsX6_keepOrder) := goodIn_app (goodIn_of _ (by decide +kernel)) ggX6_layCoats_X6_keepOrder
set_option maxRecDepth 20000 in
theorem ggX6_layCoats_X6_nextOrder : GoodIn wsX6_layCoats wsX6_nextOrder := goodIn_r _ [25, 11, 26, 27, 28, 9, 29, 30, 31, 32, 33, 34, 35, 36, 37, 38, 39, 40, 41, 42, 43, 44, 45, 46, 47, 48, 49, 50, 51, 52, 53] (by decide +kernel) (by decide +kernel)
set_option maxRecDepth 20000 in
theorem gX6_layCoats_X6_nextOrder : GoodIn wsX6_layCoats (wsV RX6 143 RX6 yX6_nextOrder wsX6_nextOrder) := goodIn_app (goodIn_of _ (by decide +kernel)) ggX6_layCoats_X6_nextOrder
theorem dX6_layCoats_0 : decode cX6_layCoats 0 = .ok (.aload_n 0, 1) := by decide +kernel
theorem dX6_layCoats_1 : decode cX6_layCoats 1 = .ok (.aload_n 0, 1) := by decide +kernel
theorem dX6_layCoats_2 : decode cX6_layCoats 2 = .ok (.getfield 153, 3) := by decide +kernel
theorem dX6_layCoats_5 : decode cX6_layCoats 5 = .ok (.invokevirtual 133, 3) := by decide +kernel
theorem dX6_layCoats_8 : decode cX6_layCoats 8 = .ok (.aload_n 0, 1) := by decide +kernel
theorem dX6_layCoats_9 : decode cX6_layCoats 9 = .ok (.invokevirtual 162, 3) := by decide +kernel
theorem dX6_layCoats_12 : decode cX6_layCoats 12 = .ok (.aload_n 0, 1) := by decide +kernel
theorem dX6_layCoats_13 : decode cX6_layCoats 13 = .ok (.aload_n 0, 1) := by decide +kernel
theorem dX6_layCoats_14 : decode cX6_layCoats 14 = .ok (.getfield 156, 3) := by decide +kernel
theorem dX6_layCoats_17 : decode cX6_layCoats 17 = .ok (.putfield 165, 3) := by decide +kernel
theorem dX6_layCoats_20 : decode cX6_layCoats 20 = .ok (.aload_n 0, 1) := by decide +kernel
theorem dX6_layCoats_21 : decode cX6_layCoats 21 = .ok (.aload_n 0, 1) := by decide +kernel
theorem dX6_layCoats_22 : decode cX6_layCoats 22 = .ok (.getfield 159, 3) := by decide +kernel
theorem dX6_layCoats_25 : decode cX6_layCoats 25 = .ok (.putfield 168, 3) := by decide +kernel
theorem dX6_layCoats_28 : decode cX6_layCoats 28 = .ok (.aload_n 0, 1) := by decide +kernel
theorem dX6_layCoats_29 : decode cX6_layCoats 29 = .ok (.aload_n 0, 1) := by decide +kernel
theorem dX6_layCoats_30 : decode cX6_layCoats 30 = .ok (.getfield 153, 3) := by decide +kernel
theorem dX6_layCoats_33 : decode cX6_layCoats 33 = .ok (.invokevirtual 140, 3) := by decide +kernel
theorem dX6_layCoats_36 : decode cX6_layCoats 36 = .ok (.aload_n 0, 1) := by decide +kernel
theorem dX6_layCoats_37 : decode cX6_layCoats 37 = .ok (.aload_n 0, 1) := by decide +kernel
theorem dX6_layCoats_38 : decode cX6_layCoats 38 = .ok (.getfield 153, 3) := by decide +kernel
theorem dX6_layCoats_41 : decode cX6_layCoats 41 = .ok (.invokevirtual 143, 3) := by decide +kernel
theorem dX6_layCoats_44 : decode cX6_layCoats 44 = .ok (.ifCond .eq 67, 3) := by decide +kernel
theorem dX6_layCoats_47 : decode cX6_layCoats 47 = .ok (.aload_n 0, 1) := by decide +kernel
theorem dX6_layCoats_48 : decode cX6_layCoats 48 = .ok (.invokevirtual 162, 3) := by decide +kernel
theorem dX6_layCoats_51 : decode cX6_layCoats 51 = .ok (.aload_n 0, 1) := by decide +kernel
theorem dX6_layCoats_52 : decode cX6_layCoats 52 = .ok (.getfield 156, 3) := by decide +kernel
theorem dX6_layCoats_55 : decode cX6_layCoats 55 = .ok (.aload_n 0, 1) := by decide +kernel
theorem dX6_layCoats_56 : decode cX6_layCoats 56 = .ok (.getfield 165, 3) := by decide +kernel
theorem dX6_layCoats_59 : decode cX6_layCoats 59 = .ok (.if_icmp .lt 25, 3) := by decide +kernel
theorem dX6_layCoats_62 : decode cX6_layCoats 62 = .ok (.aload_n 0, 1) := by decide +kernel
theorem dX6_layCoats_63 : decode cX6_layCoats 63 = .ok (.getfield 156, 3) := by decide +kernel
theorem dX6_layCoats_66 : decode cX6_layCoats 66 = .ok (.aload_n 0, 1) := by decide +kernel
theorem dX6_layCoats_67 : decode cX6_layCoats 67 = .ok (.getfield 165, 3) := by decide +kernel
theorem dX6_layCoats_70 : decode cX6_layCoats 70 = .ok (.if_icmp .ne (-34), 3) := by decide +kernel
theorem dX6_layCoats_73 : decode cX6_layCoats 73 = .ok (.aload_n 0, 1) := by decide +kernel
theorem dX6_layCoats_74 : decode cX6_layCoats 74 = .ok (.getfield 159, 3) := by decide +kernel
theorem dX6_layCoats_77 : decode cX6_layCoats 77 = .ok (.aload_n 0, 1) := by decide +kernel
theorem dX6_layCoats_78 : decode cX6_layCoats 78 = .ok (.getfield 168, 3) := by decide +kernel
theorem dX6_layCoats_81 : decode cX6_layCoats 81 = .ok (.if_icmp .ge (-45), 3) := by decide +kernel
theorem dX6_layCoats_84 : decode cX6_layCoats 84 = .ok (.aload_n 0, 1) := by decide +kernel
theorem dX6_layCoats_85 : decode cX6_layCoats 85 = .ok (.aload_n 0, 1) := by decide +kernel
theorem dX6_layCoats_86 : decode cX6_layCoats 86 = .ok (.getfield 156, 3) := by decide +kernel
theorem dX6_layCoats_89 : decode cX6_layCoats 89 = .ok (.putfield 165, 3) := by decide +kernel
theorem dX6_layCoats_92 : decode cX6_layCoats 92 = .ok (.aload_n 0, 1) := by decide +kernel
theorem dX6_layCoats_93 : decode cX6_layCoats 93 = .ok (.aload_n 0, 1) := by decide +kernel
theorem dX6_layCoats_94 : decode cX6_layCoats 94 = .ok (.getfield 159, 3) := by decide +kernel
theorem dX6_layCoats_97 : decode cX6_layCoats 97 = .ok (.putfield 168, 3) := by decide +kernel
theorem dX6_layCoats_100 : decode cX6_layCoats 100 = .ok (.aload_n 0, 1) := by decide +kernel
theorem dX6_layCoats_101 : decode cX6_layCoats 101 = .ok (.aload_n 0, 1) := by decide +kernel
theorem dX6_layCoats_102 : decode cX6_layCoats 102 = .ok (.getfield 153, 3) := by decide +kernel
theorem dX6_layCoats_105 : decode cX6_layCoats 105 = .ok (.invokevirtual 140, 3) := by decide +kernel
theorem dX6_layCoats_108 : decode cX6_layCoats 108 = .ok (.goto (-72), 3) := by decide +kernel
theorem dX6_layCoats_111 : decode cX6_layCoats 111 = .ok (.return_, 1) := by decide +kernel
set_option maxRecDepth 20000 in
theorem ggX6_best_X6_in : GoodIn wsX6_best wsX6_in := goodIn_r _ [6] (by decide +kernel) (by decide +kernel)
set_option maxRecDepth 20000 in
theorem gX6_best_X6_in : GoodIn wsX6_best (va_wsS RX6 56 yX6_in wsX6_in) := goodIn_app (goodIn_of _ (by decide +kernel)) ggX6_best_X6_in
set_option maxRecDepth 20000 in
theorem ggX6_best_X6_layCoats : GoodIn wsX6_best wsX6_layCoats := goodIn_r _ [10, 11, 12, 1, 13, 2, 14, 15, 16, 5, 17, 18, 19, 20, 21, 22, 23, 24, 25, 26, 27, 28, 29, 30, 31, 32, 33, 34, 35, 36, 37, 38, 39, 40, 41, 42, 43, 44, 45, 46, 47, 48, 49, 50, 51, 52, 53, 54, 55, 56, 57, 58, 59, 60] (by decide +kernel) (by decide +kernel)
set_option maxRecDepth 20000 in
theorem gX6_best_X6_layCoats : GoodIn wsX6_best (wsV RX6 171 RX6 yX6_layCoats wsX6_layCoats) := goodIn_app (goodIn_of _ (by decide +kernel)) ggX6_best_X6_layCoats
theorem dX6_best_0 : decode cX6_best 0 = .ok (.iload_n 1, 1) := by decide +kernel
theorem dX6_best_1 : decode cX6_best 1 = .ok (.iconst 0, 1) := by decide +kernel
theorem dX6_best_2 : decode cX6_best 2 = .ok (.iconst 1, 1) := by decide +kernel
theorem dX6_best_3 : decode cX6_best 3 = .ok (.invokestatic 56, 3) := by decide +kernel
theorem dX6_best_6 : decode cX6_best 6 = .ok (.ifCond .ne 6, 3) := by decide +kernel
theorem dX6_best_9 : decode cX6_best 9 = .ok (.bipush (-2), 2) := by decide +kernel
theorem dX6_best_11 : decode cX6_best 11 = .ok (.ireturn, 1) := by decide +kernel
theorem dX6_best_12 : decode cX6_best 12 = .ok (.aload_n 0, 1) := by decide +kernel
theorem dX6_best_13 : decode cX6_best 13 = .ok (.invokevirtual 171, 3) := by decide +kernel
theorem dX6_best_16 : decode cX6_best 16 = .ok (.iload_n 1, 1) := by decide +kernel
theorem dX6_best_17 : decode cX6_best 17 = .ok (.ifCond .ne 10, 3) := by decide +kernel
theorem dX6_best_20 : decode cX6_best 20 = .ok (.aload_n 0, 1) := by decide +kernel
theorem dX6_best_21 : decode cX6_best 21 = .ok (.getfield 165, 3) := by decide +kernel
theorem dX6_best_24 : decode cX6_best 24 = .ok (.goto 7, 3) := by decide +kernel
theorem dX6_best_27 : decode cX6_best 27 = .ok (.aload_n 0, 1) := by decide +kernel
theorem dX6_best_28 : decode cX6_best 28 = .ok (.getfield 168, 3) := by decide +kernel
theorem dX6_best_31 : decode cX6_best 31 = .ok (.ireturn, 1) := by decide +kernel
set_option maxRecDepth 20000 in
theorem ggX6_coatAt_X6_in : GoodIn wsX6_coatAt wsX6_in := goodIn_r _ [6] (by decide +kernel) (by decide +kernel)
set_option maxRecDepth 20000 in
theorem gX6_coatAt_X6_in : GoodIn wsX6_coatAt (va_wsS RX6 56 yX6_in wsX6_in) := goodIn_app (goodIn_of _ (by decide +kernel)) ggX6_coatAt_X6_in
set_option maxRecDepth 20000 in
theorem ggX6_coatAt_X6_layCoats : GoodIn wsX6_coatAt wsX6_layCoats := goodIn_r _ [10, 1, 11, 12, 13, 14, 15, 16, 17, 5, 18, 19, 20, 21, 22, 23, 24, 25, 26, 27, 28, 2, 29, 30, 31, 32, 33, 34, 35, 36, 37, 38, 39, 40, 41, 42, 43, 44, 45, 46, 47, 48, 49, 50, 51, 52, 53, 54, 55, 56, 57, 58, 59, 60] (by decide +kernel) (by decide +kernel)
set_option maxRecDepth 20000 in
theorem gX6_coatAt_X6_layCoats : GoodIn wsX6_coatAt (wsV RX6 171 RX6 yX6_layCoats wsX6_layCoats) := goodIn_app (goodIn_of _ (by decide +kernel)) ggX6_coatAt_X6_layCoats
theorem dX6_coatAt_0 : decode cX6_coatAt 0 = .ok (.iload_n 1, 1) := by decide +kernel
theorem dX6_coatAt_1 : decode cX6_coatAt 1 = .ok (.iconst 0, 1) := by decide +kernel
theorem dX6_coatAt_2 : decode cX6_coatAt 2 = .ok (.aload_n 0, 1) := by decide +kernel
theorem dX6_coatAt_3 : decode cX6_coatAt 3 = .ok (.getfield 153, 3) := by decide +kernel
theorem dX6_coatAt_6 : decode cX6_coatAt 6 = .ok (.iconst 1, 1) := by decide +kernel
theorem dX6_coatAt_7 : decode cX6_coatAt 7 = .ok (.isub, 1) := by decide +kernel
theorem dX6_coatAt_8 : decode cX6_coatAt 8 = .ok (.invokestatic 56, 3) := by decide +kernel
theorem dX6_coatAt_11 : decode cX6_coatAt 11 = .ok (.ifCond .ne 5, 3) := by decide +kernel
theorem dX6_coatAt_14 : decode cX6_coatAt 14 = .ok (.iconst (-1), 1) := by decide +kernel
theorem dX6_coatAt_15 : decode cX6_coatAt 15 = .ok (.ireturn, 1) := by decide +kernel
theorem dX6_coatAt_16 : decode cX6_coatAt 16 = .ok (.aload_n 0, 1) := by decide +kernel
theorem dX6_coatAt_17 : decode cX6_coatAt 17 = .ok (.invokevirtual 171, 3) := by decide +kernel
theorem dX6_coatAt_20 : decode cX6_coatAt 20 = .ok (.aload_n 0, 1) := by decide +kernel
theorem dX6_coatAt_21 : decode cX6_coatAt 21 = .ok (.getfield 53, 3) := by decide +kernel
theorem dX6_coatAt_24 : decode cX6_coatAt 24 = .ok (.iload_n 1, 1) := by decide +kernel
theorem dX6_coatAt_25 : decode cX6_coatAt 25 = .ok (.iaload, 1) := by decide +kernel
theorem dX6_coatAt_26 : decode cX6_coatAt 26 = .ok (.ireturn, 1) := by decide +kernel
theorem dX6_count_0 : decode cX6_count 0 = .ok (.iload_n 1, 1) := by decide +kernel
theorem dX6_count_1 : decode cX6_count 1 = .ok (.tableswitch 60 0 4 #[35, 40, 45, 50, 55], 35) := by decide +kernel
theorem dX6_count_36 : decode cX6_count 36 = .ok (.aload_n 0, 1) := by decide +kernel
theorem dX6_count_37 : decode cX6_count 37 = .ok (.getfield 67, 3) := by decide +kernel
theorem dX6_count_40 : decode cX6_count 40 = .ok (.ireturn, 1) := by decide +kernel
theorem dX6_count_41 : decode cX6_count 41 = .ok (.aload_n 0, 1) := by decide +kernel
theorem dX6_count_42 : decode cX6_count 42 = .ok (.getfield 84, 3) := by decide +kernel
theorem dX6_count_45 : decode cX6_count 45 = .ok (.ireturn, 1) := by decide +kernel
theorem dX6_count_46 : decode cX6_count 46 = .ok (.aload_n 0, 1) := by decide +kernel
theorem dX6_count_47 : decode cX6_count 47 = .ok (.getfield 102, 3) := by decide +kernel
theorem dX6_count_50 : decode cX6_count 50 = .ok (.ireturn, 1) := by decide +kernel
theorem dX6_count_51 : decode cX6_count 51 = .ok (.aload_n 0, 1) := by decide +kernel
theorem dX6_count_52 : decode cX6_count 52 = .ok (.getfield 123, 3) := by decide +kernel
theorem dX6_count_55 : decode cX6_count 55 = .ok (.ireturn, 1) := by decide +kernel
theorem dX6_count_56 : decode cX6_count 56 = .ok (.aload_n 0, 1) := by decide +kernel
theorem dX6_count_57 : decode cX6_count 57 = .ok (.getfield 153, 3) := by decide +kernel
theorem dX6_count_60 : decode cX6_count 60 = .ok (.ireturn, 1) := by decide +kernel
theorem dX6_count_61 : decode cX6_count 61 = .ok (.bipush (-2), 2) := by decide +kernel
theorem dX6_count_63 : decode cX6_count 63 = .ok (.ireturn, 1) := by decide +kernel
set_option maxRecDepth 20000 in
theorem ggX6_digest_X6_count : GoodIn wsX6_digest wsX6_count := goodIn_r _ [17, 18, 3, 6, 9, 11, 42, 43, 44, 45, 46, 47, 48, 49, 50, 51, 52, 53, 54, 55, 56, 57, 58, 59, 60, 61, 62, 63, 64, 65] (by decide +kernel) (by decide +kernel)
set_option maxRecDepth 20000 in
theorem gX6_digest_X6_count : GoodIn wsX6_digest (wsV RX6 178 RX6 yX6_count wsX6_count) := goodIn_app (goodIn_of _ (by decide +kernel)) ggX6_digest_X6_count
set_option maxRecDepth 20000 in
theorem ggX6_digest_X6_measureOf : GoodIn wsX6_digest wsX6_measureOf := goodIn_r _ [22, 23, 24, 25, 16, 26, 18, 27, 28, 29, 30, 31, 32, 33, 34, 35, 36, 42, 43, 44, 45, 46, 47, 48, 49, 50, 51, 52, 53, 54, 55, 56, 57, 58, 59, 60, 61, 62, 63, 64, 65] (by decide +kernel) (by decide +kernel)
set_option maxRecDepth 20000 in
theorem gX6_digest_X6_measureOf : GoodIn wsX6_digest (wsV RX6 80 RX6 yX6_measureOf wsX6_measureOf) := goodIn_app (goodIn_of _ (by decide +kernel)) ggX6_digest_X6_measureOf
set_option maxRecDepth 20000 in
theorem ggX6_digest_X6_layPoints : GoodIn wsX6_digest wsX6_layPoints := goodIn_r _ [40, 3, 41, 4, 5, 19, 20, 21, 16, 22, 23, 24, 25, 26, 18, 27, 28, 29, 30, 31, 32, 33, 34, 35, 36, 42, 43, 44, 45, 46, 47, 48, 49, 50, 51, 52, 53, 54, 55, 56, 57, 58, 59, 60, 61, 62, 63, 64, 65] (by decide +kernel) (by decide +kernel)
set_option maxRecDepth 20000 in
theorem gX6_digest_X6_layPoints : GoodIn wsX6_digest (wsV RX6 98 RX6 yX6_layPoints wsX6_layPoints) := goodIn_app (goodIn_of _ (by decide +kernel)) ggX6_digest_X6_layPoints
theorem dX6_digest_0 : decode cX6_digest 0 = .ok (.ldc2_w 174, 3) := by decide +kernel
theorem dX6_digest_3 : decode cX6_digest 3 = .ok (.lstore_n 1, 1) := by decide +kernel
theorem dX6_digest_4 : decode cX6_digest 4 = .ok (.iconst 0, 1) := by decide +kernel
theorem dX6_digest_5 : decode cX6_digest 5 = .ok (.istore_n 3, 1) := by decide +kernel
theorem dX6_digest_6 : decode cX6_digest 6 = .ok (.iload_n 3, 1) := by decide +kernel
theorem dX6_digest_7 : decode cX6_digest 7 = .ok (.iconst 5, 1) := by decide +kernel
theorem dX6_digest_8 : decode cX6_digest 8 = .ok (.if_icmp .ge 22, 3) := by decide +kernel
theorem dX6_digest_11 : decode cX6_digest 11 = .ok (.ldc2_w 176, 3) := by decide +kernel
theorem dX6_digest_14 : decode cX6_digest 14 = .ok (.lload_n 1, 1) := by decide +kernel
theorem dX6_digest_15 : decode cX6_digest 15 = .ok (.lmul, 1) := by decide +kernel
theorem dX6_digest_16 : decode cX6_digest 16 = .ok (.aload_n 0, 1) := by decide +kernel
theorem dX6_digest_17 : decode cX6_digest 17 = .ok (.iload_n 3, 1) := by decide +kernel
theorem dX6_digest_18 : decode cX6_digest 18 = .ok (.invokevirtual 178, 3) := by decide +kernel
theorem dX6_digest_21 : decode cX6_digest 21 = .ok (.i2l, 1) := by decide +kernel
theorem dX6_digest_22 : decode cX6_digest 22 = .ok (.ladd, 1) := by decide +kernel
theorem dX6_digest_23 : decode cX6_digest 23 = .ok (.lstore_n 1, 1) := by decide +kernel
theorem dX6_digest_24 : decode cX6_digest 24 = .ok (.iinc 3 1, 3) := by decide +kernel
theorem dX6_digest_27 : decode cX6_digest 27 = .ok (.goto (-21), 3) := by decide +kernel
theorem dX6_digest_30 : decode cX6_digest 30 = .ok (.iconst 0, 1) := by decide +kernel
theorem dX6_digest_31 : decode cX6_digest 31 = .ok (.istore_n 3, 1) := by decide +kernel
theorem dX6_digest_32 : decode cX6_digest 32 = .ok (.iload_n 3, 1) := by decide +kernel
theorem dX6_digest_33 : decode cX6_digest 33 = .ok (.bipush 36, 2) := by decide +kernel
theorem dX6_digest_35 : decode cX6_digest 35 = .ok (.if_icmp .ge 29, 3) := by decide +kernel
theorem dX6_digest_38 : decode cX6_digest 38 = .ok (.ldc2_w 176, 3) := by decide +kernel
theorem dX6_digest_41 : decode cX6_digest 41 = .ok (.lload_n 1, 1) := by decide +kernel
theorem dX6_digest_42 : decode cX6_digest 42 = .ok (.lmul, 1) := by decide +kernel
theorem dX6_digest_43 : decode cX6_digest 43 = .ok (.aload_n 0, 1) := by decide +kernel
theorem dX6_digest_44 : decode cX6_digest 44 = .ok (.iload_n 3, 1) := by decide +kernel
theorem dX6_digest_45 : decode cX6_digest 45 = .ok (.bipush 6, 2) := by decide +kernel
theorem dX6_digest_47 : decode cX6_digest 47 = .ok (.idiv, 1) := by decide +kernel
theorem dX6_digest_48 : decode cX6_digest 48 = .ok (.iload_n 3, 1) := by decide +kernel
theorem dX6_digest_49 : decode cX6_digest 49 = .ok (.bipush 6, 2) := by decide +kernel
theorem dX6_digest_51 : decode cX6_digest 51 = .ok (.irem, 1) := by decide +kernel
theorem dX6_digest_52 : decode cX6_digest 52 = .ok (.invokevirtual 80, 3) := by decide +kernel
theorem dX6_digest_55 : decode cX6_digest 55 = .ok (.i2l, 1) := by decide +kernel
theorem dX6_digest_56 : decode cX6_digest 56 = .ok (.ladd, 1) := by decide +kernel
theorem dX6_digest_57 : decode cX6_digest 57 = .ok (.lstore_n 1, 1) := by decide +kernel
theorem dX6_digest_58 : decode cX6_digest 58 = .ok (.iinc 3 1, 3) := by decide +kernel
theorem dX6_digest_61 : decode cX6_digest 61 = .ok (.goto (-29), 3) := by decide +kernel
theorem dX6_digest_64 : decode cX6_digest 64 = .ok (.aload_n 0, 1) := by decide +kernel
theorem dX6_digest_65 : decode cX6_digest 65 = .ok (.iconst 0, 1) := by decide +kernel
theorem dX6_digest_66 : decode cX6_digest 66 = .ok (.invokevirtual 98, 3) := by decide +kernel
theorem dX6_digest_69 : decode cX6_digest 69 = .ok (.iconst 0, 1) := by decide +kernel
theorem dX6_digest_70 : decode cX6_digest 70 = .ok (.istore_n 3, 1) := by decide +kernel
theorem dX6_digest_71 : decode cX6_digest 71 = .ok (.iload_n 3, 1) := by decide +kernel
theorem dX6_digest_72 : decode cX6_digest 72 = .ok (.aload_n 0, 1) := by decide +kernel
theorem dX6_digest_73 : decode cX6_digest 73 = .ok (.getfield 84, 3) := by decide +kernel
theorem dX6_digest_76 : decode cX6_digest 76 = .ok (.if_icmp .ge 35, 3) := by decide +kernel
theorem dX6_digest_79 : decode cX6_digest 79 = .ok (.ldc2_w 176, 3) := by decide +kernel
theorem dX6_digest_82 : decode cX6_digest 82 = .ok (.ldc2_w 176, 3) := by decide +kernel
theorem dX6_digest_85 : decode cX6_digest 85 = .ok (.lload_n 1, 1) := by decide +kernel
theorem dX6_digest_86 : decode cX6_digest 86 = .ok (.lmul, 1) := by decide +kernel
theorem dX6_digest_87 : decode cX6_digest 87 = .ok (.aload_n 0, 1) := by decide +kernel
theorem dX6_digest_88 : decode cX6_digest 88 = .ok (.getfield 38, 3) := by decide +kernel
theorem dX6_digest_91 : decode cX6_digest 91 = .ok (.iload_n 3, 1) := by decide +kernel
theorem dX6_digest_92 : decode cX6_digest 92 = .ok (.iaload, 1) := by decide +kernel
theorem dX6_digest_93 : decode cX6_digest 93 = .ok (.i2l, 1) := by decide +kernel
theorem dX6_digest_94 : decode cX6_digest 94 = .ok (.ladd, 1) := by decide +kernel
theorem dX6_digest_95 : decode cX6_digest 95 = .ok (.lmul, 1) := by decide +kernel
theorem dX6_digest_96 : decode cX6_digest 96 = .ok (.aload_n 0, 1) := by decide +kernel
theorem dX6_digest_97 : decode cX6_digest 97 = .ok (.getfield 41, 3) := by decide +kernel
theorem dX6_digest_100 : decode cX6_digest 100 = .ok (.iload_n 3, 1) := by decide +kernel
theorem dX6_digest_101 : decode cX6_digest 101 = .ok (.iaload, 1) := by decide +kernel
theorem dX6_digest_102 : decode cX6_digest 102 = .ok (.i2l, 1) := by decide +kernel
theorem dX6_digest_103 : decode cX6_digest 103 = .ok (.ladd, 1) := by decide +kernel
theorem dX6_digest_104 : decode cX6_digest 104 = .ok (.lstore_n 1, 1) := by decide +kernel
theorem dX6_digest_105 : decode cX6_digest 105 = .ok (.iinc 3 1, 3) := by decide +kernel
theorem dX6_digest_108 : decode cX6_digest 108 = .ok (.goto (-37), 3) := by decide +kernel
theorem dX6_digest_111 : decode cX6_digest 111 = .ok (.iconst 0, 1) := by decide +kernel
theorem dX6_digest_112 : decode cX6_digest 112 = .ok (.istore_n 3, 1) := by decide +kernel
theorem dX6_digest_113 : decode cX6_digest 113 = .ok (.iload_n 3, 1) := by decide +kernel
theorem dX6_digest_114 : decode cX6_digest 114 = .ok (.aload_n 0, 1) := by decide +kernel
theorem dX6_digest_115 : decode cX6_digest 115 = .ok (.getfield 102, 3) := by decide +kernel
theorem dX6_digest_118 : decode cX6_digest 118 = .ok (.if_icmp .ge 63, 3) := by decide +kernel
theorem dX6_digest_121 : decode cX6_digest 121 = .ok (.ldc2_w 176, 3) := by decide +kernel
theorem dX6_digest_124 : decode cX6_digest 124 = .ok (.lload_n 1, 1) := by decide +kernel
theorem dX6_digest_125 : decode cX6_digest 125 = .ok (.lmul, 1) := by decide +kernel
theorem dX6_digest_126 : decode cX6_digest 126 = .ok (.aload_n 0, 1) := by decide +kernel
theorem dX6_digest_127 : decode cX6_digest 127 = .ok (.getfield 19, 3) := by decide +kernel
theorem dX6_digest_130 : decode cX6_digest 130 = .ok (.iload_n 3, 1) := by decide +kernel
theorem dX6_digest_131 : decode cX6_digest 131 = .ok (.iaload, 1) := by decide +kernel
theorem dX6_digest_132 : decode cX6_digest 132 = .ok (.i2l, 1) := by decide +kernel
theorem dX6_digest_133 : decode cX6_digest 133 = .ok (.ladd, 1) := by decide +kernel
theorem dX6_digest_134 : decode cX6_digest 134 = .ok (.lstore_n 1, 1) := by decide +kernel
theorem dX6_digest_135 : decode cX6_digest 135 = .ok (.iconst 0, 1) := by decide +kernel
theorem dX6_digest_136 : decode cX6_digest 136 = .ok (.istore 4, 2) := by decide +kernel
theorem dX6_digest_138 : decode cX6_digest 138 = .ok (.iload 4, 2) := by decide +kernel
theorem dX6_digest_140 : decode cX6_digest 140 = .ok (.aload_n 0, 1) := by decide +kernel
theorem dX6_digest_141 : decode cX6_digest 141 = .ok (.getfield 19, 3) := by decide +kernel
theorem dX6_digest_144 : decode cX6_digest 144 = .ok (.iload_n 3, 1) := by decide +kernel
theorem dX6_digest_145 : decode cX6_digest 145 = .ok (.iaload, 1) := by decide +kernel
theorem dX6_digest_146 : decode cX6_digest 146 = .ok (.if_icmp .ge 29, 3) := by decide +kernel
theorem dX6_digest_149 : decode cX6_digest 149 = .ok (.ldc2_w 176, 3) := by decide +kernel
theorem dX6_digest_152 : decode cX6_digest 152 = .ok (.lload_n 1, 1) := by decide +kernel
theorem dX6_digest_153 : decode cX6_digest 153 = .ok (.lmul, 1) := by decide +kernel
theorem dX6_digest_154 : decode cX6_digest 154 = .ok (.aload_n 0, 1) := by decide +kernel
theorem dX6_digest_155 : decode cX6_digest 155 = .ok (.getfield 22, 3) := by decide +kernel
theorem dX6_digest_158 : decode cX6_digest 158 = .ok (.bipush 8, 2) := by decide +kernel
theorem dX6_digest_160 : decode cX6_digest 160 = .ok (.iload_n 3, 1) := by decide +kernel
theorem dX6_digest_161 : decode cX6_digest 161 = .ok (.imul, 1) := by decide +kernel
theorem dX6_digest_162 : decode cX6_digest 162 = .ok (.iload 4, 2) := by decide +kernel
theorem dX6_digest_164 : decode cX6_digest 164 = .ok (.iadd, 1) := by decide +kernel
theorem dX6_digest_165 : decode cX6_digest 165 = .ok (.iaload, 1) := by decide +kernel
theorem dX6_digest_166 : decode cX6_digest 166 = .ok (.i2l, 1) := by decide +kernel
theorem dX6_digest_167 : decode cX6_digest 167 = .ok (.ladd, 1) := by decide +kernel
theorem dX6_digest_168 : decode cX6_digest 168 = .ok (.lstore_n 1, 1) := by decide +kernel
theorem dX6_digest_169 : decode cX6_digest 169 = .ok (.iinc 4 1, 3) := by decide +kernel
theorem dX6_digest_172 : decode cX6_digest 172 = .ok (.goto (-34), 3) := by decide +kernel
theorem dX6_digest_175 : decode cX6_digest 175 = .ok (.iinc 3 1, 3) := by decide +kernel
theorem dX6_digest_178 : decode cX6_digest 178 = .ok (.goto (-65), 3) := by decide +kernel
theorem dX6_digest_181 : decode cX6_digest 181 = .ok (.iconst 0, 1) := by decide +kernel
theorem dX6_digest_182 : decode cX6_digest 182 = .ok (.istore_n 3, 1) := by decide +kernel
theorem dX6_digest_183 : decode cX6_digest 183 = .ok (.iload_n 3, 1) := by decide +kernel
theorem dX6_digest_184 : decode cX6_digest 184 = .ok (.iconst 4, 1) := by decide +kernel
theorem dX6_digest_185 : decode cX6_digest 185 = .ok (.aload_n 0, 1) := by decide +kernel
theorem dX6_digest_186 : decode cX6_digest 186 = .ok (.getfield 123, 3) := by decide +kernel
theorem dX6_digest_189 : decode cX6_digest 189 = .ok (.imul, 1) := by decide +kernel
theorem dX6_digest_190 : decode cX6_digest 190 = .ok (.if_icmp .ge 23, 3) := by decide +kernel
theorem dX6_digest_193 : decode cX6_digest 193 = .ok (.ldc2_w 176, 3) := by decide +kernel
theorem dX6_digest_196 : decode cX6_digest 196 = .ok (.lload_n 1, 1) := by decide +kernel
theorem dX6_digest_197 : decode cX6_digest 197 = .ok (.lmul, 1) := by decide +kernel
theorem dX6_digest_198 : decode cX6_digest 198 = .ok (.aload_n 0, 1) := by decide +kernel
theorem dX6_digest_199 : decode cX6_digest 199 = .ok (.getfield 25, 3) := by decide +kernel
theorem dX6_digest_202 : decode cX6_digest 202 = .ok (.iload_n 3, 1) := by decide +kernel
theorem dX6_digest_203 : decode cX6_digest 203 = .ok (.iaload, 1) := by decide +kernel
theorem dX6_digest_204 : decode cX6_digest 204 = .ok (.i2l, 1) := by decide +kernel
theorem dX6_digest_205 : decode cX6_digest 205 = .ok (.ladd, 1) := by decide +kernel
theorem dX6_digest_206 : decode cX6_digest 206 = .ok (.lstore_n 1, 1) := by decide +kernel
theorem dX6_digest_207 : decode cX6_digest 207 = .ok (.iinc 3 1, 3) := by decide +kernel
theorem dX6_digest_210 : decode cX6_digest 210 = .ok (.goto (-27), 3) := by decide +kernel
theorem dX6_digest_213 : decode cX6_digest 213 = .ok (.iconst 0, 1) := by decide +kernel
theorem dX6_digest_214 : decode cX6_digest 214 = .ok (.istore_n 3, 1) := by decide +kernel
theorem dX6_digest_215 : decode cX6_digest 215 = .ok (.iload_n 3, 1) := by decide +kernel
theorem dX6_digest_216 : decode cX6_digest 216 = .ok (.iconst 4, 1) := by decide +kernel
theorem dX6_digest_217 : decode cX6_digest 217 = .ok (.aload_n 0, 1) := by decide +kernel
theorem dX6_digest_218 : decode cX6_digest 218 = .ok (.getfield 153, 3) := by decide +kernel
theorem dX6_digest_221 : decode cX6_digest 221 = .ok (.imul, 1) := by decide +kernel
theorem dX6_digest_222 : decode cX6_digest 222 = .ok (.if_icmp .ge 23, 3) := by decide +kernel
theorem dX6_digest_225 : decode cX6_digest 225 = .ok (.ldc2_w 176, 3) := by decide +kernel
theorem dX6_digest_228 : decode cX6_digest 228 = .ok (.lload_n 1, 1) := by decide +kernel
theorem dX6_digest_229 : decode cX6_digest 229 = .ok (.lmul, 1) := by decide +kernel
theorem dX6_digest_230 : decode cX6_digest 230 = .ok (.aload_n 0, 1) := by decide +kernel
theorem dX6_digest_231 : decode cX6_digest 231 = .ok (.getfield 35, 3) := by decide +kernel
theorem dX6_digest_234 : decode cX6_digest 234 = .ok (.iload_n 3, 1) := by decide +kernel
theorem dX6_digest_235 : decode cX6_digest 235 = .ok (.iaload, 1) := by decide +kernel
theorem dX6_digest_236 : decode cX6_digest 236 = .ok (.i2l, 1) := by decide +kernel
theorem dX6_digest_237 : decode cX6_digest 237 = .ok (.ladd, 1) := by decide +kernel
theorem dX6_digest_238 : decode cX6_digest 238 = .ok (.lstore_n 1, 1) := by decide +kernel
theorem dX6_digest_239 : decode cX6_digest 239 = .ok (.iinc 3 1, 3) := by decide +kernel
theorem dX6_digest_242 : decode cX6_digest 242 = .ok (.goto (-27), 3) := by decide +kernel
theorem dX6_digest_245 : decode cX6_digest 245 = .ok (.lload_n 1, 1) := by decide +kernel
theorem dX6_digest_246 : decode cX6_digest 246 = .ok (.lreturn, 1) := by decide +kernel
theorem dJ9_abs_0f7a4_0 : decode cJ9_abs_0f7a4 0 = .ok (.iload_n 0, 1) := by decide +kernel
theorem dJ9_abs_0f7a4_1 : decode cJ9_abs_0f7a4 1 = .ok (.ifCond .ge 8, 3) := by decide +kernel
theorem dJ9_abs_0f7a4_4 : decode cJ9_abs_0f7a4 4 = .ok (.iload_n 0, 1) := by decide +kernel
theorem dJ9_abs_0f7a4_5 : decode cJ9_abs_0f7a4 5 = .ok (.ineg, 1) := by decide +kernel
theorem dJ9_abs_0f7a4_6 : decode cJ9_abs_0f7a4 6 = .ok (.goto 4, 3) := by decide +kernel
theorem dJ9_abs_0f7a4_9 : decode cJ9_abs_0f7a4 9 = .ok (.iload_n 0, 1) := by decide +kernel
theorem dJ9_abs_0f7a4_10 : decode cJ9_abs_0f7a4 10 = .ok (.ireturn, 1) := by decide +kernel
theorem dJ9_abs_067f4_0 : decode cJ9_abs_067f4 0 = .ok (.lload_n 0, 1) := by decide +kernel
theorem dJ9_abs_067f4_1 : decode cJ9_abs_067f4 1 = .ok (.lconst 0, 1) := by decide +kernel
theorem dJ9_abs_067f4_2 : decode cJ9_abs_067f4 2 = .ok (.lcmp, 1) := by decide +kernel
theorem dJ9_abs_067f4_3 : decode cJ9_abs_067f4 3 = .ok (.ifCond .ge 8, 3) := by decide +kernel
theorem dJ9_abs_067f4_6 : decode cJ9_abs_067f4 6 = .ok (.lload_n 0, 1) := by decide +kernel
theorem dJ9_abs_067f4_7 : decode cJ9_abs_067f4 7 = .ok (.lneg, 1) := by decide +kernel
theorem dJ9_abs_067f4_8 : decode cJ9_abs_067f4 8 = .ok (.goto 4, 3) := by decide +kernel
theorem dJ9_abs_067f4_11 : decode cJ9_abs_067f4 11 = .ok (.lload_n 0, 1) := by decide +kernel
theorem dJ9_abs_067f4_12 : decode cJ9_abs_067f4 12 = .ok (.lreturn, 1) := by decide +kernel
theorem dJ9_max_7cf53_0 : decode cJ9_max_7cf53 0 = .ok (.iload_n 0, 1) := by decide +kernel
theorem dJ9_max_7cf53_1 : decode cJ9_max_7cf53 1 = .ok (.iload_n 1, 1) := by decide +kernel
theorem dJ9_max_7cf53_2 : decode cJ9_max_7cf53 2 = .ok (.if_icmp .lt 7, 3) := by decide +kernel
theorem dJ9_max_7cf53_5 : decode cJ9_max_7cf53 5 = .ok (.iload_n 0, 1) := by decide +kernel
theorem dJ9_max_7cf53_6 : decode cJ9_max_7cf53 6 = .ok (.goto 4, 3) := by decide +kernel
theorem dJ9_max_7cf53_9 : decode cJ9_max_7cf53 9 = .ok (.iload_n 1, 1) := by decide +kernel
theorem dJ9_max_7cf53_10 : decode cJ9_max_7cf53 10 = .ok (.ireturn, 1) := by decide +kernel
theorem dJ9_min_7cf53_0 : decode cJ9_min_7cf53 0 = .ok (.iload_n 0, 1) := by decide +kernel
theorem dJ9_min_7cf53_1 : decode cJ9_min_7cf53 1 = .ok (.iload_n 1, 1) := by decide +kernel
theorem dJ9_min_7cf53_2 : decode cJ9_min_7cf53 2 = .ok (.if_icmp .gt 7, 3) := by decide +kernel
theorem dJ9_min_7cf53_5 : decode cJ9_min_7cf53 5 = .ok (.iload_n 0, 1) := by decide +kernel
theorem dJ9_min_7cf53_6 : decode cJ9_min_7cf53 6 = .ok (.goto 4, 3) := by decide +kernel
theorem dJ9_min_7cf53_9 : decode cJ9_min_7cf53 9 = .ok (.iload_n 1, 1) := by decide +kernel
theorem dJ9_min_7cf53_10 : decode cJ9_min_7cf53 10 = .ok (.ireturn, 1) := by decide +kernel
set_option maxRecDepth 20000 in
theorem ggL_law_X5_init : GoodIn wsL_law wsX5_init := goodIn_r _ [8, 9, 10, 11, 12, 13, 14, 15, 16, 17, 18, 19, 20, 21, 22, 23, 24, 25, 26, 27, 28, 29, 30, 31, 32, 33, 34, 35, 36, 37, 38, 39, 40, 41, 42, 43, 44, 45, 46, 47, 48, 49, 50, 51, 52, 53, 54, 55, 56, 57, 58, 59, 60, 61, 62, 63, 64, 65, 66, 67, 68, 69, 70, 71, 72, 73, 74, 75, 76, 77, 78, 79, 80, 81, 82, 83, 84, 85, 86, 87, 88, 89, 90, 91, 92, 690, 691, 692, 693, 694, 695, 696, 661, 662, 663, 664, 665, 697, 698, 699, 700, 701, 702, 703, 704, 705, 706, 707, 708, 709, 710, 711, 712, 713, 714, 715, 716, 717, 718, 719, 720, 721, 722, 723, 724, 725, 726, 727, 728, 729, 730, 731] (by decide +kernel) (by decide +kernel)
set_option maxRecDepth 20000 in
theorem gL_law_X5_init : GoodIn wsL_law (wsX5_init) := ggL_law_X5_init
set_option maxRecDepth 20000 in
theorem ggL_law_X6_init : GoodIn wsL_law wsX6_init := goodIn_r _ [95, 96, 10, 11, 35, 97, 98, 99, 100, 101, 102, 103, 104, 105, 106, 107, 108, 109, 110, 111, 666, 667, 668, 669, 670, 671, 672, 673, 674, 675, 676, 677, 678, 679, 680, 681, 682, 683, 684, 685, 686, 687, 688, 689] (by decide +kernel) (by decide +kernel)
set_option maxRecDepth 20000 in
theorem gL_law_X6_init : GoodIn wsL_law (wsX6_init) := ggL_law_X6_init
set_option maxRecDepth 20000 in
theorem ggL_law_X5_tell : GoodIn wsL_law wsX5_tell := goodIn_r _ [115, 15, 116, 117, 2, 118, 119, 120, 121, 122, 123, 124, 125, 126, 127, 128, 129, 130, 14, 131, 42, 36, 37, 38, 39, 40, 661, 662, 663, 664, 665, 690, 691, 692, 693, 694, 695, 696] (by decide +kernel) (by decide +kernel)
set_option maxRecDepth 20000 in
theorem gL_law_X5_tell : GoodIn wsL_law (wsV RL 13 RX5 yX5_tell wsX5_tell) := goodIn_app (goodIn_of _ (by decide +kernel)) ggL_law_X5_tell
set_option maxRecDepth 20000 in
theorem ggL_law_X6_tell : GoodIn wsL_law wsX6_tell := goodIn_r _ [135, 136, 97, 137, 138, 5, 139, 140, 141, 142, 143, 144, 145, 666, 667, 668, 669, 670, 671, 672, 673, 674, 675, 676, 677, 678, 679, 680, 681, 682, 683, 684, 685, 686, 687, 688, 689] (by decide +kernel) (by decide +kernel)
set_option maxRecDepth 20000 in
theorem gL_law_X6_tell : GoodIn wsL_law (wsV RL 17 RX6 yX6_tell wsX6_tell) := goodIn_app (goodIn_of _ (by decide +kernel)) ggL_law_X6_tell
set_option maxRecDepth 20000 in
theorem ggL_law_X5_habit : GoodIn wsL_law wsX5_habit := goodIn_r _ [149, 15, 116, 117, 2, 118, 119, 120, 121, 125, 126, 127, 150, 151, 152, 14, 153, 41, 661, 662, 663, 664, 665, 690, 691, 692, 693, 694, 695, 696] (by decide +kernel) (by decide +kernel)
set_option maxRecDepth 20000 in
theorem gL_law_X5_habit : GoodIn wsL_law (wsV RL 18 RX5 yX5_habit wsX5_habit) := goodIn_app (goodIn_of _ (by decide +kernel)) ggL_law_X5_habit
set_option maxRecDepth 20000 in
theorem ggL_law_X6_habit : GoodIn wsL_law wsX6_habit := goodIn_r _ [157, 98, 137, 138, 5, 139, 140, 141, 142, 143, 144, 145, 666, 667, 668, 669, 670, 671, 672, 673, 674, 675, 676, 677, 678, 679, 680, 681, 682, 683, 684, 685, 686, 687, 688, 689] (by decide +kernel) (by decide +kernel)
set_option maxRecDepth 20000 in
theorem gL_law_X6_habit : GoodIn wsL_law (wsV RL 22 RX6 yX6_habit wsX6_habit) := goodIn_app (goodIn_of _ (by decide +kernel)) ggL_law_X6_habit
set_option maxRecDepth 20000 in
theorem ggL_law_X5_measure : GoodIn wsL_law wsX5_measure := goodIn_r _ [161, 15, 122, 123, 2, 124, 119, 120, 121, 125, 126, 127, 162, 163, 164, 14, 165, 166, 167, 168, 169, 42, 39, 170, 171, 172, 173, 37, 38, 174, 175, 176, 177, 40, 41, 36, 178, 179, 661, 662, 663, 664, 665, 690, 691, 692, 693, 694, 695, 696] (by decide +kernel) (by decide +kernel)
set_option maxRecDepth 20000 in
theorem gL_law_X5_measure : GoodIn wsL_law (wsV RL 23 RX5 yX5_measure wsX5_measure) := goodIn_app (goodIn_of _ (by decide +kernel)) ggL_law_X5_measure
set_option maxRecDepth 20000 in
theorem ggL_law_X6_measure : GoodIn wsL_law wsX6_measure := goodIn_r _ [183, 143, 144, 5, 145, 140, 141, 142, 184, 185, 186, 187, 188, 189, 190, 191, 136, 97, 192, 193, 194, 195, 196, 197, 198, 199, 98, 666, 667, 668, 669, 670, 671, 672, 673, 674, 675, 676, 677, 678, 679, 680, 681, 682, 683, 684, 685, 686, 687, 688, 689] (by decide +kernel) (by decide +kernel)
set_option maxRecDepth 20000 in
theorem gL_law_X6_measure : GoodIn wsL_law (wsV RL 27 RX6 yX6_measure wsX6_measure) := goodIn_app (goodIn_of _ (by decide +kernel)) ggL_law_X6_measure
set_option maxRecDepth 20000 in
theorem ggL_law_X5_grown : GoodIn wsL_law wsX5_grown := goodIn_r _ [203, 15, 122, 123, 2, 124, 119, 120, 121, 125, 126, 127, 204, 205, 206, 14, 207, 166, 167, 168, 169, 42, 39, 170, 171, 172, 173, 37, 38, 174, 175, 176, 177, 40, 41, 36, 178, 179, 661, 662, 663, 664, 665, 690, 691, 692, 693, 694, 695, 696] (by decide +kernel) (by decide +kernel)
set_option maxRecDepth 20000 in
theorem gL_law_X5_grown : GoodIn wsL_law (wsV RL 28 RX5 yX5_grown wsX5_grown) := goodIn_app (goodIn_of _ (by decide +kernel)) ggL_law_X5_grown
set_option maxRecDepth 20000 in
theorem ggL_law_X6_grown : GoodIn wsL_law wsX6_grown := goodIn_r _ [211, 143, 144, 5, 145, 140, 141, 142, 188, 189, 190, 191, 136, 97, 192, 193, 194, 195, 196, 197, 198, 199, 98, 666, 667, 668, 669, 670, 671, 672, 673, 674, 675, 676, 677, 678, 679, 680, 681, 682, 683, 684, 685, 686, 687, 688, 689] (by decide +kernel) (by decide +kernel)
set_option maxRecDepth 20000 in
theorem gL_law_X6_grown : GoodIn wsL_law (wsV RL 31 RX6 yX6_grown wsX6_grown) := goodIn_app (goodIn_of _ (by decide +kernel)) ggL_law_X6_grown
set_option maxRecDepth 20000 in
theorem ggL_law_X5_found : GoodIn wsL_law wsX5_found := goodIn_r _ [215, 15, 125, 126, 2, 127, 119, 120, 121, 116, 117, 118, 216, 217, 218, 14, 219, 42, 36, 38, 40, 220, 221, 222, 223, 37, 39, 178, 179, 661, 662, 663, 664, 665, 690, 691, 692, 693, 694, 695, 696] (by decide +kernel) (by decide +kernel)
set_option maxRecDepth 20000 in
theorem gL_law_X5_found : GoodIn wsL_law (wsV RL 32 RX5 yX5_found wsX5_found) := goodIn_app (goodIn_of _ (by decide +kernel)) ggL_law_X5_found
set_option maxRecDepth 20000 in
theorem ggL_law_X6_found : GoodIn wsL_law wsX6_found := goodIn_r _ [227, 136, 97, 143, 144, 5, 145, 140, 141, 142, 137, 138, 139, 192, 193, 194, 195, 666, 667, 668, 669, 670, 671, 672, 673, 674, 675, 676, 677, 678, 679, 680, 681, 682, 683, 684, 685, 686, 687, 688, 689] (by decide +kernel) (by decide +kernel)
set_option maxRecDepth 20000 in
theorem gL_law_X6_found : GoodIn wsL_law (wsV RL 35 RX6 yX6_found wsX6_found) := goodIn_app (goodIn_of _ (by decide +kernel)) ggL_law_X6_found
set_option maxRecDepth 20000 in
theorem ggL_law_X5_fixed : GoodIn wsL_law wsX5_fixed := goodIn_r _ [231, 19, 232, 233, 2, 234, 119, 120, 121, 235, 236, 237, 18, 238, 55, 47, 48, 49, 50, 51, 661, 662, 663, 664, 665, 697, 698, 699, 700, 701, 702, 703, 704, 705, 706] (by decide +kernel) (by decide +kernel)
set_option maxRecDepth 20000 in
theorem gL_law_X5_fixed : GoodIn wsL_law (wsV RL 36 RX5 yX5_fixed wsX5_fixed) := goodIn_app (goodIn_of _ (by decide +kernel)) ggL_law_X5_fixed
set_option maxRecDepth 20000 in
theorem ggL_law_X6_fixed : GoodIn wsL_law wsX6_fixed := goodIn_r _ [242, 243, 244, 5, 245, 140, 141, 142, 246, 247, 248, 249, 250, 99, 666, 667, 668, 669, 670, 671, 672, 673, 674, 675, 676, 677, 678, 679, 680, 681, 682, 683, 684, 685, 686, 687, 688, 689] (by decide +kernel) (by decide +kernel)
set_option maxRecDepth 20000 in
theorem gL_law_X6_fixed : GoodIn wsL_law (wsV RL 39 RX6 yX6_fixed wsX6_fixed) := goodIn_app (goodIn_of _ (by decide +kernel)) ggL_law_X6_fixed
set_option maxRecDepth 20000 in
theorem ggL_law_X5_off : GoodIn wsL_law wsX5_off := goodIn_r _ [254, 19, 255, 256, 257, 18, 258, 55, 120, 2, 121, 232, 233, 234, 119, 235, 236, 237, 238, 47, 48, 49, 50, 51, 661, 662, 663, 664, 665, 697, 698, 699, 700, 701, 702, 703, 704, 705, 706] (by decide +kernel) (by decide +kernel)
set_option maxRecDepth 20000 in
theorem gL_law_X5_off : GoodIn wsL_law (wsV RL 40 RX5 yX5_off wsX5_off) := goodIn_app (goodIn_of _ (by decide +kernel)) ggL_law_X5_off
set_option maxRecDepth 20000 in
theorem ggL_law_X6_off : GoodIn wsL_law wsX6_off := goodIn_r _ [262, 263, 264, 265, 5, 266, 250, 140, 141, 142, 243, 244, 245, 246, 247, 248, 249, 99, 666, 667, 668, 669, 670, 671, 672, 673, 674, 675, 676, 677, 678, 679, 680, 681, 682, 683, 684, 685, 686, 687, 688, 689] (by decide +kernel) (by decide +kernel)
set_option maxRecDepth 20000 in
theorem gL_law_X6_off : GoodIn wsL_law (wsV RL 43 RX6 yX6_off wsX6_off) := goodIn_app (goodIn_of _ (by decide +kernel)) ggL_law_X6_off
set_option maxRecDepth 20000 in
theorem ggL_law_X5_by : GoodIn wsL_law wsX5_by := goodIn_r _ [270, 19, 255, 256, 257, 18, 258, 55, 120, 2, 121, 125, 126, 127, 119, 235, 236, 237, 238, 47, 48, 49, 50, 51, 661, 662, 663, 664, 665, 697, 698, 699, 700, 701, 702, 703, 704, 705, 706] (by decide +kernel) (by decide +kernel)
set_option maxRecDepth 20000 in
theorem gL_law_X5_by : GoodIn wsL_law (wsV RL 44 RX5 yX5_by wsX5_by) := goodIn_app (goodIn_of _ (by decide +kernel)) ggL_law_X5_by
set_option maxRecDepth 20000 in
theorem ggL_law_X6_by : GoodIn wsL_law wsX6_by := goodIn_r _ [274, 263, 264, 265, 5, 266, 250, 140, 141, 142, 143, 144, 145, 246, 247, 248, 249, 99, 666, 667, 668, 669, 670, 671, 672, 673, 674, 675, 676, 677, 678, 679, 680, 681, 682, 683, 684, 685, 686, 687, 688, 689] (by decide +kernel) (by decide +kernel)
set_option maxRecDepth 20000 in
theorem gL_law_X6_by : GoodIn wsL_law (wsV RL 47 RX6 yX6_by wsX6_by) := goodIn_app (goodIn_of _ (by decide +kernel)) ggL_law_X6_by
set_option maxRecDepth 20000 in
theorem ggL_law_X5_middle : GoodIn wsL_law wsX5_middle := goodIn_r _ [278, 19, 255, 256, 257, 18, 258, 55, 120, 2, 121, 235, 236, 237, 238, 47, 48, 49, 50, 51, 661, 662, 663, 664, 665, 697, 698, 699, 700, 701, 702, 703, 704, 705, 706] (by decide +kernel) (by decide +kernel)
set_option maxRecDepth 20000 in
theorem gL_law_X5_middle : GoodIn wsL_law (wsV RL 48 RX5 yX5_middle wsX5_middle) := goodIn_app (goodIn_of _ (by decide +kernel)) ggL_law_X5_middle
set_option maxRecDepth 20000 in
theorem ggL_law_X6_middle : GoodIn wsL_law wsX6_middle := goodIn_r _ [282, 263, 264, 265, 5, 266, 250, 140, 141, 142, 246, 247, 248, 249, 99, 666, 667, 668, 669, 670, 671, 672, 673, 674, 675, 676, 677, 678, 679, 680, 681, 682, 683, 684, 685, 686, 687, 688, 689] (by decide +kernel) (by decide +kernel)
set_option maxRecDepth 20000 in
theorem gL_law_X6_middle : GoodIn wsL_law (wsV RL 51 RX6 yX6_middle wsX6_middle) := goodIn_app (goodIn_of _ (by decide +kernel)) ggL_law_X6_middle
set_option maxRecDepth 20000 in
theorem ggL_law_X5_at : GoodIn wsL_law wsX5_at := goodIn_r _ [286, 19, 287, 122, 123, 2, 124, 119, 120, 121, 255, 256, 257, 18, 258, 55, 288, 289, 290, 291, 52, 56, 292, 163, 164, 14, 165, 166, 167, 168, 169, 42, 39, 170, 171, 172, 173, 37, 38, 174, 175, 176, 177, 40, 41, 36, 178, 179, 293, 294, 295, 296, 48, 49, 47, 50, 51, 53, 54, 297, 298, 299, 300, 301, 302, 303, 304, 661, 662, 663, 664, 665, 697, 698, 699, 700, 701, 702, 703, 704, 705, 706, 690, 691, 692, 693, 694, 695, 696] (by decide +kernel) (by decide +kernel)
set_option maxRecDepth 20000 in
theorem gL_law_X5_at : GoodIn wsL_law (wsV RL 52 RX5 yX5_at wsX5_at) := goodIn_app (goodIn_of _ (by decide +kernel)) ggL_law_X5_at
set_option maxRecDepth 20000 in
theorem ggL_law_X6_at : GoodIn wsL_law wsX6_at := goodIn_r _ [308, 309, 106, 107, 143, 144, 5, 145, 140, 141, 142, 263, 264, 265, 266, 250, 310, 311, 312, 313, 99, 184, 185, 186, 187, 188, 189, 190, 191, 136, 97, 192, 193, 194, 195, 196, 197, 198, 199, 98, 666, 667, 668, 669, 670, 671, 672, 673, 674, 675, 676, 677, 678, 679, 680, 681, 682, 683, 684, 685, 686, 687, 688, 689] (by decide +kernel) (by decide +kernel)
set_option maxRecDepth 20000 in
theorem gL_law_X6_at : GoodIn wsL_law (wsV RL 55 RX6 yX6_at wsX6_at) := goodIn_app (goodIn_of _ (by decide +kernel)) ggL_law_X6_at
set_option maxRecDepth 20000 in
theorem ggL_law_X5_piece : GoodIn wsL_law wsX5_piece := goodIn_r _ [317, 19, 23, 255, 256, 257, 18, 258, 55, 120, 2, 121, 318, 319, 320, 22, 321, 64, 62, 61, 661, 662, 663, 664, 665, 697, 698, 699, 700, 701, 702, 703, 704, 705, 706, 707, 708, 709, 710, 711, 712] (by decide +kernel) (by decide +kernel)
set_option maxRecDepth 20000 in
theorem gL_law_X5_piece : GoodIn wsL_law (wsV RL 56 RX5 yX5_piece wsX5_piece) := goodIn_app (goodIn_of _ (by decide +kernel)) ggL_law_X5_piece
set_option maxRecDepth 20000 in
theorem ggL_law_X6_piece : GoodIn wsL_law wsX6_piece := goodIn_r _ [325, 326, 101, 100, 263, 264, 265, 5, 266, 250, 140, 141, 142, 666, 667, 668, 669, 670, 671, 672, 673, 674, 675, 676, 677, 678, 679, 680, 681, 682, 683, 684, 685, 686, 687, 688, 689] (by decide +kernel) (by decide +kernel)
set_option maxRecDepth 20000 in
theorem gL_law_X6_piece : GoodIn wsL_law (wsV RL 60 RX6 yX6_piece wsX6_piece) := goodIn_app (goodIn_of _ (by decide +kernel)) ggL_law_X6_piece
set_option maxRecDepth 20000 in
theorem ggL_law_X5_more : GoodIn wsL_law wsX5_more := goodIn_r _ [330, 23, 19, 331, 332, 333, 22, 334, 64, 120, 2, 121, 255, 256, 257, 18, 258, 55, 335, 336, 337, 338, 61, 62, 661, 662, 663, 664, 665, 707, 708, 709, 710, 711, 712, 697, 698, 699, 700, 701, 702, 703, 704, 705, 706] (by decide +kernel) (by decide +kernel)
set_option maxRecDepth 20000 in
theorem gL_law_X5_more : GoodIn wsL_law (wsV RL 61 RX5 yX5_more wsX5_more) := goodIn_app (goodIn_of _ (by decide +kernel)) ggL_law_X5_more
set_option maxRecDepth 20000 in
theorem ggL_law_X6_more : GoodIn wsL_law wsX6_more := goodIn_r _ [342, 100, 101, 343, 344, 345, 5, 346, 326, 140, 141, 142, 263, 264, 265, 266, 250, 666, 667, 668, 669, 670, 671, 672, 673, 674, 675, 676, 677, 678, 679, 680, 681, 682, 683, 684, 685, 686, 687, 688, 689] (by decide +kernel) (by decide +kernel)
set_option maxRecDepth 20000 in
theorem gL_law_X6_more : GoodIn wsL_law (wsV RL 64 RX6 yX6_more wsX6_more) := goodIn_app (goodIn_of _ (by decide +kernel)) ggL_law_X6_more
set_option maxRecDepth 20000 in
theorem ggL_law_X5_length : GoodIn wsL_law wsX5_length := goodIn_r _ [350, 23, 19, 122, 123, 2, 124, 119, 120, 121, 351, 352, 353, 22, 354, 61, 355, 332, 333, 334, 64, 288, 289, 290, 18, 291, 52, 56, 55, 292, 163, 164, 14, 165, 166, 167, 168, 169, 42, 39, 170, 171, 172, 173, 37, 38, 174, 175, 176, 177, 40, 41, 36, 178, 179, 293, 294, 295, 296, 48, 49, 47, 50, 51, 53, 54, 297, 298, 299, 300, 301, 302, 303, 304, 356, 357, 358, 359, 66, 360, 361, 362, 363, 364, 62, 365, 366, 367, 368, 369, 370, 661, 662, 663, 664, 665, 707, 708, 709, 710, 711, 712, 697, 698, 699, 700, 701, 702, 703, 704, 705, 706, 690, 691, 692, 693, 694, 695, 696] (by decide +kernel) (by decide +kernel)
set_option maxRecDepth 20000 in
theorem gL_law_X5_length : GoodIn wsL_law (wsV RL 65 RX5 yX5_length wsX5_length) := goodIn_app (goodIn_of _ (by decide +kernel)) ggL_law_X5_length
set_option maxRecDepth 20000 in
theorem ggL_law_X6_length : GoodIn wsL_law wsX6_length := goodIn_r _ [374, 143, 144, 5, 145, 140, 141, 142, 375, 376, 377, 378, 100, 343, 344, 345, 346, 326, 310, 311, 312, 313, 250, 99, 106, 107, 184, 185, 186, 187, 188, 189, 190, 191, 136, 97, 192, 193, 194, 195, 196, 197, 198, 199, 98, 379, 380, 381, 382, 101, 383, 384, 385, 666, 667, 668, 669, 670, 671, 672, 673, 674, 675, 676, 677, 678, 679, 680, 681, 682, 683, 684, 685, 686, 687, 688, 689] (by decide +kernel) (by decide +kernel)
set_option maxRecDepth 20000 in
theorem gL_law_X6_length : GoodIn wsL_law (wsV RL 68 RX6 yX6_length wsX6_length) := goodIn_app (goodIn_of _ (by decide +kernel)) ggL_law_X6_length
set_option maxRecDepth 20000 in
theorem ggL_law_X5_area : GoodIn wsL_law wsX5_area := goodIn_r _ [389, 23, 390, 19, 122, 123, 2, 124, 119, 120, 121, 331, 332, 333, 22, 334, 64, 288, 289, 290, 18, 291, 52, 56, 55, 292, 163, 164, 14, 165, 166, 167, 168, 169, 42, 39, 170, 171, 172, 173, 37, 38, 174, 175, 176, 177, 40, 41, 36, 178, 179, 293, 294, 295, 296, 48, 49, 47, 50, 51, 53, 54, 297, 298, 299, 300, 301, 302, 303, 304, 391, 392, 393, 394, 61, 66, 395, 396, 397, 398, 361, 362, 363, 364, 62, 365, 366, 367, 368, 661, 662, 663, 664, 665, 707, 708, 709, 710, 711, 712, 697, 698, 699, 700, 701, 702, 703, 704, 705, 706, 690, 691, 692, 693, 694, 695, 696] (by decide +kernel) (by decide +kernel)
set_option maxRecDepth 20000 in
theorem gL_law_X5_area : GoodIn wsL_law (wsV RL 69 RX5 yX5_area wsX5_area) := goodIn_app (goodIn_of _ (by decide +kernel)) ggL_law_X5_area
set_option maxRecDepth 20000 in
theorem ggL_law_X6_area : GoodIn wsL_law wsX6_area := goodIn_r _ [402, 403, 100, 101, 106, 107, 143, 144, 5, 145, 140, 141, 142, 343, 344, 345, 346, 326, 310, 311, 312, 313, 250, 99, 184, 185, 186, 187, 188, 189, 190, 191, 136, 97, 192, 193, 194, 195, 196, 197, 198, 199, 98, 666, 667, 668, 669, 670, 671, 672, 673, 674, 675, 676, 677, 678, 679, 680, 681, 682, 683, 684, 685, 686, 687, 688, 689] (by decide +kernel) (by decide +kernel)
set_option maxRecDepth 20000 in
theorem gL_law_X6_area : GoodIn wsL_law (wsV RL 73 RX6 yX6_area wsX6_area) := goodIn_app (goodIn_of _ (by decide +kernel)) ggL_law_X6_area
set_option maxRecDepth 20000 in
theorem ggL_law_X5_seam : GoodIn wsL_law wsX5_seam := goodIn_r _ [407, 23, 351, 352, 353, 22, 354, 61, 355, 332, 333, 334, 64, 120, 2, 121, 408, 409, 410, 411, 65, 63, 661, 662, 663, 664, 665, 707, 708, 709, 710, 711, 712] (by decide +kernel) (by decide +kernel)
set_option maxRecDepth 20000 in
theorem gL_law_X5_seam : GoodIn wsL_law (wsV RL 74 RX5 yX5_seam wsX5_seam) := goodIn_app (goodIn_of _ (by decide +kernel)) ggL_law_X5_seam
set_option maxRecDepth 20000 in
theorem ggL_law_X6_seam : GoodIn wsL_law wsX6_seam := goodIn_r _ [415, 416, 102, 375, 376, 377, 5, 378, 100, 343, 344, 345, 346, 326, 140, 141, 142, 666, 667, 668, 669, 670, 671, 672, 673, 674, 675, 676, 677, 678, 679, 680, 681, 682, 683, 684, 685, 686, 687, 688, 689] (by decide +kernel) (by decide +kernel)
set_option maxRecDepth 20000 in
theorem gL_law_X6_seam : GoodIn wsL_law (wsV RL 77 RX6 yX6_seam wsX6_seam) := goodIn_app (goodIn_of _ (by decide +kernel)) ggL_law_X6_seam
set_option maxRecDepth 20000 in
theorem ggL_law_X5_gaps : GoodIn wsL_law wsX5_gaps := goodIn_r _ [420, 19, 23, 122, 123, 2, 124, 119, 120, 121, 288, 289, 290, 18, 291, 52, 56, 55, 292, 163, 164, 14, 165, 166, 167, 168, 169, 42, 39, 170, 171, 172, 173, 37, 38, 174, 175, 176, 177, 40, 41, 36, 178, 179, 293, 294, 295, 296, 48, 49, 47, 50, 51, 53, 54, 297, 298, 299, 300, 301, 302, 303, 304, 421, 422, 423, 22, 424, 65, 63, 425, 426, 397, 427, 428, 357, 358, 359, 66, 360, 361, 362, 363, 364, 62, 365, 366, 367, 368, 61, 369, 370, 661, 662, 663, 664, 665, 697, 698, 699, 700, 701, 702, 703, 704, 705, 706, 690, 691, 692, 693, 694, 695, 696, 707, 708, 709, 710, 711, 712] (by decide +kernel) (by decide +kernel)
set_option maxRecDepth 20000 in
theorem gL_law_X5_gaps : GoodIn wsL_law (wsV RL 78 RX5 yX5_gaps wsX5_gaps) := goodIn_app (goodIn_of _ (by decide +kernel)) ggL_law_X5_gaps
set_option maxRecDepth 20000 in
theorem ggL_law_X6_gaps : GoodIn wsL_law wsX6_gaps := goodIn_r _ [432, 416, 102, 143, 144, 5, 145, 140, 141, 142, 310, 311, 312, 313, 250, 99, 106, 107, 184, 185, 186, 187, 188, 189, 190, 191, 136, 97, 192, 193, 194, 195, 196, 197, 198, 199, 98, 379, 380, 381, 382, 101, 100, 383, 384, 385, 666, 667, 668, 669, 670, 671, 672, 673, 674, 675, 676, 677, 678, 679, 680, 681, 682, 683, 684, 685, 686, 687, 688, 689] (by decide +kernel) (by decide +kernel)
set_option maxRecDepth 20000 in
theorem gL_law_X6_gaps : GoodIn wsL_law (wsV RL 81 RX6 yX6_gaps wsX6_gaps) := goodIn_app (goodIn_of _ (by decide +kernel)) ggL_law_X6_gaps
set_option maxRecDepth 20000 in
theorem ggL_law_X5_hangs : GoodIn wsL_law wsX5_hangs := goodIn_r _ [436, 19, 23, 125, 126, 2, 127, 119, 120, 121, 437, 438, 439, 18, 440, 55, 441, 442, 443, 444, 48, 47, 49, 445, 446, 447, 22, 448, 64, 61, 361, 362, 363, 364, 62, 661, 662, 663, 664, 665, 697, 698, 699, 700, 701, 702, 703, 704, 705, 706, 707, 708, 709, 710, 711, 712] (by decide +kernel) (by decide +kernel)
set_option maxRecDepth 20000 in
theorem gL_law_X5_hangs : GoodIn wsL_law (wsV RL 82 RX5 yX5_hangs wsX5_hangs) := goodIn_app (goodIn_of _ (by decide +kernel)) ggL_law_X5_hangs
set_option maxRecDepth 20000 in
theorem ggL_law_X6_hangs : GoodIn wsL_law wsX6_hangs := goodIn_r _ [452, 250, 99, 326, 100, 101, 143, 144, 5, 145, 140, 141, 142, 666, 667, 668, 669, 670, 671, 672, 673, 674, 675, 676, 677, 678, 679, 680, 681, 682, 683, 684, 685, 686, 687, 688, 689] (by decide +kernel) (by decide +kernel)
set_option maxRecDepth 20000 in
theorem gL_law_X6_hangs : GoodIn wsL_law (wsV RL 85 RX6 yX6_hangs wsX6_hangs) := goodIn_app (goodIn_of _ (by decide +kernel)) ggL_law_X6_hangs
set_option maxRecDepth 20000 in
theorem ggL_law_X5_cloth : GoodIn wsL_law wsX5_cloth := goodIn_r _ [456, 27, 119, 120, 2, 121, 457, 458, 459, 26, 460, 78, 79, 661, 662, 663, 664, 665, 713, 714, 715, 716, 717, 718, 719, 720, 721] (by decide +kernel) (by decide +kernel)
set_option maxRecDepth 20000 in
theorem gL_law_X5_cloth : GoodIn wsL_law (wsV RL 86 RX5 yX5_cloth wsX5_cloth) := goodIn_app (goodIn_of _ (by decide +kernel)) ggL_law_X5_cloth
set_option maxRecDepth 20000 in
theorem ggL_law_X6_cloth : GoodIn wsL_law wsX6_cloth := goodIn_r _ [464, 103, 104, 140, 141, 5, 142, 666, 667, 668, 669, 670, 671, 672, 673, 674, 675, 676, 677, 678, 679, 680, 681, 682, 683, 684, 685, 686, 687, 688, 689] (by decide +kernel) (by decide +kernel)
set_option maxRecDepth 20000 in
theorem gL_law_X6_cloth : GoodIn wsL_law (wsV RL 89 RX6 yX6_cloth wsX6_cloth) := goodIn_app (goodIn_of _ (by decide +kernel)) ggL_law_X6_cloth
set_option maxRecDepth 20000 in
theorem ggL_law_X5_laid : GoodIn wsL_law wsX5_laid := goodIn_r _ [468, 469, 470, 471, 2, 472, 23, 19, 27, 122, 123, 124, 119, 120, 121, 288, 289, 290, 18, 291, 52, 56, 55, 292, 163, 164, 14, 165, 166, 167, 168, 169, 42, 39, 170, 171, 172, 173, 37, 38, 174, 175, 176, 177, 40, 41, 36, 178, 179, 293, 294, 295, 296, 48, 49, 47, 50, 51, 53, 54, 297, 298, 299, 300, 301, 302, 303, 304, 473, 474, 475, 26, 476, 76, 70, 71, 73, 78, 477, 77, 478, 479, 480, 22, 481, 66, 482, 483, 484, 485, 61, 486, 487, 397, 488, 489, 490, 491, 361, 362, 363, 364, 62, 492, 493, 494, 495, 496, 497, 498, 499, 74, 75, 500, 501, 502, 503, 504, 505, 506, 507, 508, 79, 661, 662, 663, 664, 665, 707, 708, 709, 710, 711, 712, 697, 698, 699, 700, 701, 702, 703, 704, 705, 706, 690, 691, 692, 693, 694, 695, 696, 713, 714, 715, 716, 717, 718, 719, 720, 721] (by decide +kernel) (by decide +kernel)
set_option maxRecDepth 20000 in
theorem gL_law_X5_laid : GoodIn wsL_law (wsV RL 90 RX5 yX5_laid wsX5_laid) := goodIn_app (goodIn_of _ (by decide +kernel)) ggL_law_X5_laid
set_option maxRecDepth 20000 in
theorem ggL_law_X6_laid : GoodIn wsL_law wsX6_laid := goodIn_r _ [512, 326, 143, 144, 5, 145, 140, 141, 142, 513, 514, 515, 516, 108, 103, 310, 311, 312, 313, 250, 99, 106, 107, 184, 185, 186, 187, 188, 189, 190, 191, 136, 97, 192, 193, 194, 195, 196, 197, 198, 199, 98, 517, 518, 519, 520, 101, 100, 109, 521, 522, 523, 524, 110, 525, 526, 527, 528, 104, 529, 530, 531, 532, 111, 533, 534, 535, 536, 537, 538, 539, 540, 666, 667, 668, 669, 670, 671, 672, 673, 674, 675, 676, 677, 678, 679, 680, 681, 682, 683, 684, 685, 686, 687, 688, 689] (by decide +kernel) (by decide +kernel)
set_option maxRecDepth 20000 in
theorem gL_law_X6_laid : GoodIn wsL_law (wsV RL 94 RX6 yX6_laid wsX6_laid) := goodIn_app (goodIn_of _ (by decide +kernel)) ggL_law_X6_laid
set_option maxRecDepth 20000 in
theorem ggL_law_X5_laidAt : GoodIn wsL_law wsX5_laidAt := goodIn_r _ [544, 23, 27, 469, 470, 471, 2, 472, 19, 122, 123, 124, 119, 120, 121, 288, 289, 290, 18, 291, 52, 56, 55, 292, 163, 164, 14, 165, 166, 167, 168, 169, 42, 39, 170, 171, 172, 173, 37, 38, 174, 175, 176, 177, 40, 41, 36, 178, 179, 293, 294, 295, 296, 48, 49, 47, 50, 51, 53, 54, 297, 298, 299, 300, 301, 302, 303, 304, 473, 474, 475, 26, 476, 76, 70, 71, 73, 78, 477, 77, 478, 479, 480, 22, 481, 66, 482, 483, 484, 485, 61, 486, 487, 397, 488, 489, 490, 491, 361, 362, 363, 364, 62, 492, 493, 494, 495, 496, 497, 498, 499, 74, 75, 500, 501, 502, 503, 504, 505, 506, 507, 508, 79, 661, 662, 663, 664, 665, 707, 708, 709, 710, 711, 712, 713, 714, 715, 716, 717, 718, 719, 720, 721, 697, 698, 699, 700, 701, 702, 703, 704, 705, 706, 690, 691, 692, 693, 694, 695, 696] (by decide +kernel) (by decide +kernel)
set_option maxRecDepth 20000 in
theorem gL_law_X5_laidAt : GoodIn wsL_law (wsV RL 95 RX5 yX5_laidAt wsX5_laidAt) := goodIn_app (goodIn_of _ (by decide +kernel)) ggL_law_X5_laidAt
set_option maxRecDepth 20000 in
theorem ggL_law_X6_laidAt : GoodIn wsL_law wsX6_laidAt := goodIn_r _ [548, 326, 111, 143, 144, 5, 145, 140, 141, 142, 513, 514, 515, 516, 108, 103, 310, 311, 312, 313, 250, 99, 106, 107, 184, 185, 186, 187, 188, 189, 190, 191, 136, 97, 192, 193, 194, 195, 196, 197, 198, 199, 98, 517, 518, 519, 520, 101, 100, 109, 521, 522, 523, 524, 110, 525, 526, 527, 528, 104, 529, 530, 531, 532, 533, 534, 535, 536, 537, 538, 539, 540, 666, 667, 668, 669, 670, 671, 672, 673, 674, 675, 676, 677, 678, 679, 680, 681, 682, 683, 684, 685, 686, 687, 688, 689] (by decide +kernel) (by decide +kernel)
set_option maxRecDepth 20000 in
theorem gL_law_X6_laidAt : GoodIn wsL_law (wsV RL 98 RX6 yX6_laidAt wsX6_laidAt) := goodIn_app (goodIn_of _ (by decide +kernel)) ggL_law_X6_laidAt
set_option maxRecDepth 20000 in
theorem ggL_law_X5_coat : GoodIn wsL_law wsX5_coat := goodIn_r _ [552, 31, 553, 554, 2, 555, 119, 120, 121, 556, 557, 558, 30, 559, 90, 83, 84, 85, 86, 661, 662, 663, 664, 665, 722, 723, 724, 725, 726, 727, 728, 729, 730, 731] (by decide +kernel) (by decide +kernel)
set_option maxRecDepth 20000 in
theorem gL_law_X5_coat : GoodIn wsL_law (wsV RL 99 RX5 yX5_coat wsX5_coat) := goodIn_app (goodIn_of _ (by decide +kernel)) ggL_law_X5_coat
set_option maxRecDepth 20000 in
theorem ggL_law_X6_coat : GoodIn wsL_law wsX6_coat := goodIn_r _ [563, 564, 105, 565, 566, 5, 567, 140, 141, 142, 666, 667, 668, 669, 670, 671, 672, 673, 674, 675, 676, 677, 678, 679, 680, 681, 682, 683, 684, 685, 686, 687, 688, 689] (by decide +kernel) (by decide +kernel)
set_option maxRecDepth 20000 in
theorem gL_law_X6_coat : GoodIn wsL_law (wsV RL 102 RX6 yX6_coat wsX6_coat) := goodIn_app (goodIn_of _ (by decide +kernel)) ggL_law_X6_coat
set_option maxRecDepth 20000 in
theorem ggL_law_X5_clear : GoodIn wsL_law wsX5_clear := goodIn_r _ [571, 31, 661, 662, 663, 664, 665, 722, 723, 724, 725, 726, 727, 728, 729, 730, 731] (by decide +kernel) (by decide +kernel)
set_option maxRecDepth 20000 in
theorem gL_law_X5_clear : GoodIn wsL_law (wsV RL 103 RX5 yX5_clear wsX5_clear) := goodIn_app (goodIn_of _ (by decide +kernel)) ggL_law_X5_clear
set_option maxRecDepth 20000 in
theorem ggL_law_X6_clear : GoodIn wsL_law wsX6_clear := goodIn_r _ [575, 564, 666, 667, 668, 669, 670, 671, 672, 673, 674, 675, 676, 677, 678, 679, 680, 681, 682, 683, 684, 685, 686, 687, 688, 689] (by decide +kernel) (by decide +kernel)
set_option maxRecDepth 20000 in
theorem gL_law_X6_clear : GoodIn wsL_law (wsV RL 107 RX6 yX6_clear wsX6_clear) := goodIn_app (goodIn_of _ (by decide +kernel)) ggL_law_X6_clear
set_option maxRecDepth 20000 in
theorem ggL_law_X5_best : GoodIn wsL_law wsX5_best := goodIn_r _ [579, 31, 119, 120, 2, 121, 580, 581, 582, 30, 583, 90, 87, 584, 91, 92, 585, 586, 587, 588, 88, 89, 589, 501, 502, 503, 83, 590, 490, 397, 491, 84, 85, 86, 661, 662, 663, 664, 665, 722, 723, 724, 725, 726, 727, 728, 729, 730, 731] (by decide +kernel) (by decide +kernel)
set_option maxRecDepth 20000 in
theorem gL_law_X5_best : GoodIn wsL_law (wsV RL 108 RX5 yX5_best wsX5_best) := goodIn_app (goodIn_of _ (by decide +kernel)) ggL_law_X5_best
set_option maxRecDepth 20000 in
theorem ggL_law_X6_best : GoodIn wsL_law wsX6_best := goodIn_r _ [594, 595, 596, 140, 141, 5, 142, 597, 598, 599, 600, 564, 601, 602, 521, 522, 523, 524, 110, 603, 604, 605, 606, 105, 529, 530, 531, 532, 111, 533, 534, 535, 536, 537, 538, 539, 540, 666, 667, 668, 669, 670, 671, 672, 673, 674, 675, 676, 677, 678, 679, 680, 681, 682, 683, 684, 685, 686, 687, 688, 689] (by decide +kernel) (by decide +kernel)
set_option maxRecDepth 20000 in
theorem gL_law_X6_best : GoodIn wsL_law (wsV RL 111 RX6 yX6_best wsX6_best) := goodIn_app (goodIn_of _ (by decide +kernel)) ggL_law_X6_best
set_option maxRecDepth 20000 in
theorem ggL_law_X5_coatAt : GoodIn wsL_law wsX5_coatAt := goodIn_r _ [610, 31, 119, 120, 2, 121, 580, 581, 582, 30, 583, 90, 87, 584, 91, 92, 585, 586, 587, 588, 88, 89, 589, 501, 502, 503, 83, 590, 490, 397, 491, 84, 85, 86, 661, 662, 663, 664, 665, 722, 723, 724, 725, 726, 727, 728, 729, 730, 731] (by decide +kernel) (by decide +kernel)
set_option maxRecDepth 20000 in
theorem gL_law_X5_coatAt : GoodIn wsL_law (wsV RL 112 RX5 yX5_coatAt wsX5_coatAt) := goodIn_app (goodIn_of _ (by decide +kernel)) ggL_law_X5_coatAt
set_option maxRecDepth 20000 in
theorem ggL_law_X6_coatAt : GoodIn wsL_law wsX6_coatAt := goodIn_r _ [614, 564, 111, 140, 141, 5, 142, 597, 598, 599, 600, 601, 595, 602, 596, 521, 522, 523, 524, 110, 603, 604, 605, 606, 105, 529, 530, 531, 532, 533, 534, 535, 536, 537, 538, 539, 540, 666, 667, 668, 669, 670, 671, 672, 673, 674, 675, 676, 677, 678, 679, 680, 681, 682, 683, 684, 685, 686, 687, 688, 689] (by decide +kernel) (by decide +kernel)
set_option maxRecDepth 20000 in
theorem gL_law_X6_coatAt : GoodIn wsL_law (wsV RL 115 RX6 yX6_coatAt wsX6_coatAt) := goodIn_app (goodIn_of _ (by decide +kernel)) ggL_law_X6_coatAt
set_option maxRecDepth 20000 in
theorem ggL_law_X5_count : GoodIn wsL_law wsX5_count := goodIn_r _ [618, 15, 19, 23, 31, 661, 662, 663, 664, 665, 690, 691, 692, 693, 694, 695, 696, 697, 698, 699, 700, 701, 702, 703, 704, 705, 706, 707, 708, 709, 710, 711, 712, 722, 723, 724, 725, 726, 727, 728, 729, 730, 731] (by decide +kernel) (by decide +kernel)
set_option maxRecDepth 20000 in
theorem gL_law_X5_count : GoodIn wsL_law (wsV RL 116 RX5 yX5_count wsX5_count) := goodIn_app (goodIn_of _ (by decide +kernel)) ggL_law_X5_count
set_option maxRecDepth 20000 in
theorem ggL_law_X6_count : GoodIn wsL_law wsX6_count := goodIn_r _ [622, 136, 250, 326, 416, 564, 666, 667, 668, 669, 670, 671, 672, 673, 674, 675, 676, 677, 678, 679, 680, 681, 682, 683, 684, 685, 686, 687, 688, 689] (by decide +kernel) (by decide +kernel)
set_option maxRecDepth 20000 in
theorem gL_law_X6_count : GoodIn wsL_law (wsV RL 119 RX6 yX6_count wsX6_count) := goodIn_app (goodIn_of _ (by decide +kernel)) ggL_law_X6_count
set_option maxRecDepth 20000 in
theorem ggL_law_X5_digest : GoodIn wsL_law wsX5_digest := goodIn_r _ [626, 627, 19, 15, 23, 31, 628, 616, 617, 2, 618, 629, 630, 631, 632, 288, 289, 290, 18, 291, 52, 56, 55, 292, 163, 164, 14, 165, 166, 167, 168, 169, 42, 39, 170, 171, 172, 173, 37, 38, 174, 175, 176, 177, 40, 41, 36, 178, 179, 293, 294, 295, 296, 48, 49, 47, 50, 51, 53, 54, 297, 298, 299, 300, 301, 302, 303, 304, 633, 634, 635, 636, 637, 638, 639, 640, 641, 642, 643, 644, 22, 645, 64, 61, 361, 362, 363, 364, 62, 646, 647, 648, 649, 65, 63, 650, 651, 652, 30, 653, 90, 83, 84, 85, 86, 661, 662, 663, 664, 665, 690, 691, 692, 693, 694, 695, 696, 697, 698, 699, 700, 701, 702, 703, 704, 705, 706, 707, 708, 709, 710, 711, 712, 722, 723, 724, 725, 726, 727, 728, 729, 730, 731] (by decide +kernel) (by decide +kernel)
set_option maxRecDepth 20000 in
theorem gL_law_X5_digest : GoodIn wsL_law (wsV RL 120 RX5 yX5_digest wsX5_digest) := goodIn_app (goodIn_of _ (by decide +kernel)) ggL_law_X5_digest
set_option maxRecDepth 20000 in
theorem ggL_law_X6_digest : GoodIn wsL_law wsX6_digest := goodIn_r _ [657, 658, 659, 250, 106, 107, 326, 100, 101, 416, 102, 564, 105, 660, 620, 621, 5, 622, 136, 184, 185, 186, 187, 188, 189, 190, 191, 97, 192, 193, 194, 195, 196, 197, 198, 199, 98, 310, 311, 312, 313, 99, 666, 667, 668, 669, 670, 671, 672, 673, 674, 675, 676, 677, 678, 679, 680, 681, 682, 683, 684, 685, 686, 687, 688, 689] (by decide +kernel) (by decide +kernel)
set_option maxRecDepth 20000 in
theorem gL_law_X6_digest : GoodIn wsL_law (wsV RL 124 RX6 yX6_digest wsX6_digest) := goodIn_app (goodIn_of _ (by decide +kernel)) ggL_law_X6_digest
theorem dL_law_0 : decode cL_law 0 = .ok (.new 7, 3) := by decide +kernel
theorem dL_law_3 : decode cL_law 3 = .ok (.dup, 1) := by decide +kernel
theorem dL_law_4 : decode cL_law 4 = .ok (.invokespecial 9, 3) := by decide +kernel
theorem dL_law_7 : decode cL_law 7 = .ok (.astore_n 1, 1) := by decide +kernel
theorem dL_law_8 : decode cL_law 8 = .ok (.new 10, 3) := by decide +kernel
theorem dL_law_11 : decode cL_law 11 = .ok (.dup, 1) := by decide +kernel
theorem dL_law_12 : decode cL_law 12 = .ok (.invokespecial 12, 3) := by decide +kernel
theorem dL_law_15 : decode cL_law 15 = .ok (.astore_n 2, 1) := by decide +kernel
theorem dL_law_16 : decode cL_law 16 = .ok (.iconst 0, 1) := by decide +kernel
theorem dL_law_17 : decode cL_law 17 = .ok (.istore_n 3, 1) := by decide +kernel
theorem dL_law_18 : decode cL_law 18 = .ok (.iload_n 3, 1) := by decide +kernel
theorem dL_law_19 : decode cL_law 19 = .ok (.aload_n 0, 1) := by decide +kernel
theorem dL_law_20 : decode cL_law 20 = .ok (.arraylength, 1) := by decide +kernel
theorem dL_law_21 : decode cL_law 21 = .ok (.bipush 6, 2) := by decide +kernel
theorem dL_law_23 : decode cL_law 23 = .ok (.isub, 1) := by decide +kernel
theorem dL_law_24 : decode cL_law 24 = .ok (.if_icmp .gt 1084, 3) := by decide +kernel
theorem dL_law_27 : decode cL_law 27 = .ok (.aload_n 0, 1) := by decide +kernel
theorem dL_law_28 : decode cL_law 28 = .ok (.iload_n 3, 1) := by decide +kernel
theorem dL_law_29 : decode cL_law 29 = .ok (.iaload, 1) := by decide +kernel
theorem dL_law_30 : decode cL_law 30 = .ok (.bipush 31, 2) := by decide +kernel
theorem dL_law_32 : decode cL_law 32 = .ok (.iand, 1) := by decide +kernel
theorem dL_law_33 : decode cL_law 33 = .ok (.tableswitch 1069 0 25 #[119, 182, 225, 258, 291, 334, 367, 410, 473, 506, 549, 602, 635, 678, 712, 765, 798, 831, 864, 887, 920, 973, 986, 1009, 1032, 1055], 119) := by decide +kernel
theorem dL_law_152 : decode cL_law 152 = .ok (.aload_n 1, 1) := by decide +kernel
theorem dL_law_153 : decode cL_law 153 = .ok (.aload_n 0, 1) := by decide +kernel
theorem dL_law_154 : decode cL_law 154 = .ok (.iload_n 3, 1) := by decide +kernel
theorem dL_law_155 : decode cL_law 155 = .ok (.iconst 1, 1) := by decide +kernel
theorem dL_law_156 : decode cL_law 156 = .ok (.iadd, 1) := by decide +kernel
theorem dL_law_157 : decode cL_law 157 = .ok (.iaload, 1) := by decide +kernel
theorem dL_law_158 : decode cL_law 158 = .ok (.aload_n 0, 1) := by decide +kernel
theorem dL_law_159 : decode cL_law 159 = .ok (.iload_n 3, 1) := by decide +kernel
theorem dL_law_160 : decode cL_law 160 = .ok (.iconst 2, 1) := by decide +kernel
theorem dL_law_161 : decode cL_law 161 = .ok (.iadd, 1) := by decide +kernel
theorem dL_law_162 : decode cL_law 162 = .ok (.iaload, 1) := by decide +kernel
theorem dL_law_163 : decode cL_law 163 = .ok (.aload_n 0, 1) := by decide +kernel
theorem dL_law_164 : decode cL_law 164 = .ok (.iload_n 3, 1) := by decide +kernel
theorem dL_law_165 : decode cL_law 165 = .ok (.iconst 3, 1) := by decide +kernel
theorem dL_law_166 : decode cL_law 166 = .ok (.iadd, 1) := by decide +kernel
theorem dL_law_167 : decode cL_law 167 = .ok (.iaload, 1) := by decide +kernel
theorem dL_law_168 : decode cL_law 168 = .ok (.aload_n 0, 1) := by decide +kernel
theorem dL_law_169 : decode cL_law 169 = .ok (.iload_n 3, 1) := by decide +kernel
theorem dL_law_170 : decode cL_law 170 = .ok (.iconst 4, 1) := by decide +kernel
theorem dL_law_171 : decode cL_law 171 = .ok (.iadd, 1) := by decide +kernel
theorem dL_law_172 : decode cL_law 172 = .ok (.iaload, 1) := by decide +kernel
theorem dL_law_173 : decode cL_law 173 = .ok (.aload_n 0, 1) := by decide +kernel
theorem dL_law_174 : decode cL_law 174 = .ok (.iload_n 3, 1) := by decide +kernel
theorem dL_law_175 : decode cL_law 175 = .ok (.iconst 5, 1) := by decide +kernel
theorem dL_law_176 : decode cL_law 176 = .ok (.iadd, 1) := by decide +kernel
theorem dL_law_177 : decode cL_law 177 = .ok (.iaload, 1) := by decide +kernel
theorem dL_law_178 : decode cL_law 178 = .ok (.invokevirtual 13, 3) := by decide +kernel
theorem dL_law_181 : decode cL_law 181 = .ok (.aload_n 2, 1) := by decide +kernel
theorem dL_law_182 : decode cL_law 182 = .ok (.aload_n 0, 1) := by decide +kernel
theorem dL_law_183 : decode cL_law 183 = .ok (.iload_n 3, 1) := by decide +kernel
theorem dL_law_184 : decode cL_law 184 = .ok (.iconst 1, 1) := by decide +kernel
theorem dL_law_185 : decode cL_law 185 = .ok (.iadd, 1) := by decide +kernel
theorem dL_law_186 : decode cL_law 186 = .ok (.iaload, 1) := by decide +kernel
theorem dL_law_187 : decode cL_law 187 = .ok (.aload_n 0, 1) := by decide +kernel
theorem dL_law_188 : decode cL_law 188 = .ok (.iload_n 3, 1) := by decide +kernel
theorem dL_law_189 : decode cL_law 189 = .ok (.iconst 2, 1) := by decide +kernel
theorem dL_law_190 : decode cL_law 190 = .ok (.iadd, 1) := by decide +kernel
theorem dL_law_191 : decode cL_law 191 = .ok (.iaload, 1) := by decide +kernel
theorem dL_law_192 : decode cL_law 192 = .ok (.aload_n 0, 1) := by decide +kernel
theorem dL_law_193 : decode cL_law 193 = .ok (.iload_n 3, 1) := by decide +kernel
theorem dL_law_194 : decode cL_law 194 = .ok (.iconst 3, 1) := by decide +kernel
theorem dL_law_195 : decode cL_law 195 = .ok (.iadd, 1) := by decide +kernel
theorem dL_law_196 : decode cL_law 196 = .ok (.iaload, 1) := by decide +kernel
theorem dL_law_197 : decode cL_law 197 = .ok (.aload_n 0, 1) := by decide +kernel
theorem dL_law_198 : decode cL_law 198 = .ok (.iload_n 3, 1) := by decide +kernel
theorem dL_law_199 : decode cL_law 199 = .ok (.iconst 4, 1) := by decide +kernel
theorem dL_law_200 : decode cL_law 200 = .ok (.iadd, 1) := by decide +kernel
theorem dL_law_201 : decode cL_law 201 = .ok (.iaload, 1) := by decide +kernel
theorem dL_law_202 : decode cL_law 202 = .ok (.aload_n 0, 1) := by decide +kernel
theorem dL_law_203 : decode cL_law 203 = .ok (.iload_n 3, 1) := by decide +kernel
theorem dL_law_204 : decode cL_law 204 = .ok (.iconst 5, 1) := by decide +kernel
theorem dL_law_205 : decode cL_law 205 = .ok (.iadd, 1) := by decide +kernel
theorem dL_law_206 : decode cL_law 206 = .ok (.iaload, 1) := by decide +kernel
theorem dL_law_207 : decode cL_law 207 = .ok (.invokevirtual 17, 3) := by decide +kernel
theorem dL_law_210 : decode cL_law 210 = .ok (.if_icmp .eq 892, 3) := by decide +kernel
theorem dL_law_213 : decode cL_law 213 = .ok (.iconst 0, 1) := by decide +kernel
theorem dL_law_214 : decode cL_law 214 = .ok (.ireturn, 1) := by decide +kernel
theorem dL_law_215 : decode cL_law 215 = .ok (.aload_n 1, 1) := by decide +kernel
theorem dL_law_216 : decode cL_law 216 = .ok (.aload_n 0, 1) := by decide +kernel
theorem dL_law_217 : decode cL_law 217 = .ok (.iload_n 3, 1) := by decide +kernel
theorem dL_law_218 : decode cL_law 218 = .ok (.iconst 1, 1) := by decide +kernel
theorem dL_law_219 : decode cL_law 219 = .ok (.iadd, 1) := by decide +kernel
theorem dL_law_220 : decode cL_law 220 = .ok (.iaload, 1) := by decide +kernel
theorem dL_law_221 : decode cL_law 221 = .ok (.aload_n 0, 1) := by decide +kernel
theorem dL_law_222 : decode cL_law 222 = .ok (.iload_n 3, 1) := by decide +kernel
theorem dL_law_223 : decode cL_law 223 = .ok (.iconst 2, 1) := by decide +kernel
theorem dL_law_224 : decode cL_law 224 = .ok (.iadd, 1) := by decide +kernel
theorem dL_law_225 : decode cL_law 225 = .ok (.iaload, 1) := by decide +kernel
theorem dL_law_226 : decode cL_law 226 = .ok (.aload_n 0, 1) := by decide +kernel
theorem dL_law_227 : decode cL_law 227 = .ok (.iload_n 3, 1) := by decide +kernel
theorem dL_law_228 : decode cL_law 228 = .ok (.iconst 3, 1) := by decide +kernel
theorem dL_law_229 : decode cL_law 229 = .ok (.iadd, 1) := by decide +kernel
theorem dL_law_230 : decode cL_law 230 = .ok (.iaload, 1) := by decide +kernel
theorem dL_law_231 : decode cL_law 231 = .ok (.invokevirtual 18, 3) := by decide +kernel
theorem dL_law_234 : decode cL_law 234 = .ok (.aload_n 2, 1) := by decide +kernel
theorem dL_law_235 : decode cL_law 235 = .ok (.aload_n 0, 1) := by decide +kernel
theorem dL_law_236 : decode cL_law 236 = .ok (.iload_n 3, 1) := by decide +kernel
theorem dL_law_237 : decode cL_law 237 = .ok (.iconst 1, 1) := by decide +kernel
theorem dL_law_238 : decode cL_law 238 = .ok (.iadd, 1) := by decide +kernel
theorem dL_law_239 : decode cL_law 239 = .ok (.iaload, 1) := by decide +kernel
theorem dL_law_240 : decode cL_law 240 = .ok (.aload_n 0, 1) := by decide +kernel
theorem dL_law_241 : decode cL_law 241 = .ok (.iload_n 3, 1) := by decide +kernel
theorem dL_law_242 : decode cL_law 242 = .ok (.iconst 2, 1) := by decide +kernel
theorem dL_law_243 : decode cL_law 243 = .ok (.iadd, 1) := by decide +kernel
theorem dL_law_244 : decode cL_law 244 = .ok (.iaload, 1) := by decide +kernel
theorem dL_law_245 : decode cL_law 245 = .ok (.aload_n 0, 1) := by decide +kernel
theorem dL_law_246 : decode cL_law 246 = .ok (.iload_n 3, 1) := by decide +kernel
theorem dL_law_247 : decode cL_law 247 = .ok (.iconst 3, 1) := by decide +kernel
theorem dL_law_248 : decode cL_law 248 = .ok (.iadd, 1) := by decide +kernel
theorem dL_law_249 : decode cL_law 249 = .ok (.iaload, 1) := by decide +kernel
theorem dL_law_250 : decode cL_law 250 = .ok (.invokevirtual 22, 3) := by decide +kernel
theorem dL_law_253 : decode cL_law 253 = .ok (.if_icmp .eq 849, 3) := by decide +kernel
theorem dL_law_256 : decode cL_law 256 = .ok (.iconst 0, 1) := by decide +kernel
theorem dL_law_257 : decode cL_law 257 = .ok (.ireturn, 1) := by decide +kernel
theorem dL_law_258 : decode cL_law 258 = .ok (.aload_n 1, 1) := by decide +kernel
theorem dL_law_259 : decode cL_law 259 = .ok (.aload_n 0, 1) := by decide +kernel
theorem dL_law_260 : decode cL_law 260 = .ok (.iload_n 3, 1) := by decide +kernel
theorem dL_law_261 : decode cL_law 261 = .ok (.iconst 1, 1) := by decide +kernel
theorem dL_law_262 : decode cL_law 262 = .ok (.iadd, 1) := by decide +kernel
theorem dL_law_263 : decode cL_law 263 = .ok (.iaload, 1) := by decide +kernel
theorem dL_law_264 : decode cL_law 264 = .ok (.aload_n 0, 1) := by decide +kernel
theorem dL_law_265 : decode cL_law 265 = .ok (.iload_n 3, 1) := by decide +kernel
theorem dL_law_266 : decode cL_law 266 = .ok (.iconst 2, 1) := by decide +kernel
theorem dL_law_267 : decode cL_law 267 = .ok (.iadd, 1) := by decide +kernel
theorem dL_law_268 : decode cL_law 268 = .ok (.iaload, 1) := by decide +kernel
theorem dL_law_269 : decode cL_law 269 = .ok (.invokevirtual 23, 3) := by decide +kernel
theorem dL_law_272 : decode cL_law 272 = .ok (.aload_n 2, 1) := by decide +kernel
theorem dL_law_273 : decode cL_law 273 = .ok (.aload_n 0, 1) := by decide +kernel
theorem dL_law_274 : decode cL_law 274 = .ok (.iload_n 3, 1) := by decide +kernel
theorem dL_law_275 : decode cL_law 275 = .ok (.iconst 1, 1) := by decide +kernel
theorem dL_law_276 : decode cL_law 276 = .ok (.iadd, 1) := by decide +kernel
theorem dL_law_277 : decode cL_law 277 = .ok (.iaload, 1) := by decide +kernel
theorem dL_law_278 : decode cL_law 278 = .ok (.aload_n 0, 1) := by decide +kernel
theorem dL_law_279 : decode cL_law 279 = .ok (.iload_n 3, 1) := by decide +kernel
theorem dL_law_280 : decode cL_law 280 = .ok (.iconst 2, 1) := by decide +kernel
theorem dL_law_281 : decode cL_law 281 = .ok (.iadd, 1) := by decide +kernel
theorem dL_law_282 : decode cL_law 282 = .ok (.iaload, 1) := by decide +kernel
theorem dL_law_283 : decode cL_law 283 = .ok (.invokevirtual 27, 3) := by decide +kernel
theorem dL_law_286 : decode cL_law 286 = .ok (.if_icmp .eq 816, 3) := by decide +kernel
theorem dL_law_289 : decode cL_law 289 = .ok (.iconst 0, 1) := by decide +kernel
theorem dL_law_290 : decode cL_law 290 = .ok (.ireturn, 1) := by decide +kernel
theorem dL_law_291 : decode cL_law 291 = .ok (.aload_n 1, 1) := by decide +kernel
theorem dL_law_292 : decode cL_law 292 = .ok (.aload_n 0, 1) := by decide +kernel
theorem dL_law_293 : decode cL_law 293 = .ok (.iload_n 3, 1) := by decide +kernel
theorem dL_law_294 : decode cL_law 294 = .ok (.iconst 1, 1) := by decide +kernel
theorem dL_law_295 : decode cL_law 295 = .ok (.iadd, 1) := by decide +kernel
theorem dL_law_296 : decode cL_law 296 = .ok (.iaload, 1) := by decide +kernel
theorem dL_law_297 : decode cL_law 297 = .ok (.aload_n 0, 1) := by decide +kernel
theorem dL_law_298 : decode cL_law 298 = .ok (.iload_n 3, 1) := by decide +kernel
theorem dL_law_299 : decode cL_law 299 = .ok (.iconst 2, 1) := by decide +kernel
theorem dL_law_300 : decode cL_law 300 = .ok (.iadd, 1) := by decide +kernel
theorem dL_law_301 : decode cL_law 301 = .ok (.iaload, 1) := by decide +kernel
theorem dL_law_302 : decode cL_law 302 = .ok (.invokevirtual 28, 3) := by decide +kernel
theorem dL_law_305 : decode cL_law 305 = .ok (.aload_n 2, 1) := by decide +kernel
theorem dL_law_306 : decode cL_law 306 = .ok (.aload_n 0, 1) := by decide +kernel
theorem dL_law_307 : decode cL_law 307 = .ok (.iload_n 3, 1) := by decide +kernel
theorem dL_law_308 : decode cL_law 308 = .ok (.iconst 1, 1) := by decide +kernel
theorem dL_law_309 : decode cL_law 309 = .ok (.iadd, 1) := by decide +kernel
theorem dL_law_310 : decode cL_law 310 = .ok (.iaload, 1) := by decide +kernel
theorem dL_law_311 : decode cL_law 311 = .ok (.aload_n 0, 1) := by decide +kernel
theorem dL_law_312 : decode cL_law 312 = .ok (.iload_n 3, 1) := by decide +kernel
theorem dL_law_313 : decode cL_law 313 = .ok (.iconst 2, 1) := by decide +kernel
theorem dL_law_314 : decode cL_law 314 = .ok (.iadd, 1) := by decide +kernel
theorem dL_law_315 : decode cL_law 315 = .ok (.iaload, 1) := by decide +kernel
theorem dL_law_316 : decode cL_law 316 = .ok (.invokevirtual 31, 3) := by decide +kernel
theorem dL_law_319 : decode cL_law 319 = .ok (.if_icmp .eq 783, 3) := by decide +kernel
theorem dL_law_322 : decode cL_law 322 = .ok (.iconst 0, 1) := by decide +kernel
theorem dL_law_323 : decode cL_law 323 = .ok (.ireturn, 1) := by decide +kernel
theorem dL_law_324 : decode cL_law 324 = .ok (.aload_n 1, 1) := by decide +kernel
theorem dL_law_325 : decode cL_law 325 = .ok (.aload_n 0, 1) := by decide +kernel
theorem dL_law_326 : decode cL_law 326 = .ok (.iload_n 3, 1) := by decide +kernel
theorem dL_law_327 : decode cL_law 327 = .ok (.iconst 1, 1) := by decide +kernel
theorem dL_law_328 : decode cL_law 328 = .ok (.iadd, 1) := by decide +kernel
theorem dL_law_329 : decode cL_law 329 = .ok (.iaload, 1) := by decide +kernel
theorem dL_law_330 : decode cL_law 330 = .ok (.aload_n 0, 1) := by decide +kernel
theorem dL_law_331 : decode cL_law 331 = .ok (.iload_n 3, 1) := by decide +kernel
theorem dL_law_332 : decode cL_law 332 = .ok (.iconst 2, 1) := by decide +kernel
theorem dL_law_333 : decode cL_law 333 = .ok (.iadd, 1) := by decide +kernel
theorem dL_law_334 : decode cL_law 334 = .ok (.iaload, 1) := by decide +kernel
theorem dL_law_335 : decode cL_law 335 = .ok (.aload_n 0, 1) := by decide +kernel
theorem dL_law_336 : decode cL_law 336 = .ok (.iload_n 3, 1) := by decide +kernel
theorem dL_law_337 : decode cL_law 337 = .ok (.iconst 3, 1) := by decide +kernel
theorem dL_law_338 : decode cL_law 338 = .ok (.iadd, 1) := by decide +kernel
theorem dL_law_339 : decode cL_law 339 = .ok (.iaload, 1) := by decide +kernel
theorem dL_law_340 : decode cL_law 340 = .ok (.invokevirtual 32, 3) := by decide +kernel
theorem dL_law_343 : decode cL_law 343 = .ok (.aload_n 2, 1) := by decide +kernel
theorem dL_law_344 : decode cL_law 344 = .ok (.aload_n 0, 1) := by decide +kernel
theorem dL_law_345 : decode cL_law 345 = .ok (.iload_n 3, 1) := by decide +kernel
theorem dL_law_346 : decode cL_law 346 = .ok (.iconst 1, 1) := by decide +kernel
theorem dL_law_347 : decode cL_law 347 = .ok (.iadd, 1) := by decide +kernel
theorem dL_law_348 : decode cL_law 348 = .ok (.iaload, 1) := by decide +kernel
theorem dL_law_349 : decode cL_law 349 = .ok (.aload_n 0, 1) := by decide +kernel
theorem dL_law_350 : decode cL_law 350 = .ok (.iload_n 3, 1) := by decide +kernel
theorem dL_law_351 : decode cL_law 351 = .ok (.iconst 2, 1) := by decide +kernel
theorem dL_law_352 : decode cL_law 352 = .ok (.iadd, 1) := by decide +kernel
theorem dL_law_353 : decode cL_law 353 = .ok (.iaload, 1) := by decide +kernel
theorem dL_law_354 : decode cL_law 354 = .ok (.aload_n 0, 1) := by decide +kernel
theorem dL_law_355 : decode cL_law 355 = .ok (.iload_n 3, 1) := by decide +kernel
theorem dL_law_356 : decode cL_law 356 = .ok (.iconst 3, 1) := by decide +kernel
theorem dL_law_357 : decode cL_law 357 = .ok (.iadd, 1) := by decide +kernel
theorem dL_law_358 : decode cL_law 358 = .ok (.iaload, 1) := by decide +kernel
theorem dL_law_359 : decode cL_law 359 = .ok (.invokevirtual 35, 3) := by decide +kernel
theorem dL_law_362 : decode cL_law 362 = .ok (.if_icmp .eq 740, 3) := by decide +kernel
theorem dL_law_365 : decode cL_law 365 = .ok (.iconst 0, 1) := by decide +kernel
theorem dL_law_366 : decode cL_law 366 = .ok (.ireturn, 1) := by decide +kernel
theorem dL_law_367 : decode cL_law 367 = .ok (.aload_n 1, 1) := by decide +kernel
theorem dL_law_368 : decode cL_law 368 = .ok (.aload_n 0, 1) := by decide +kernel
theorem dL_law_369 : decode cL_law 369 = .ok (.iload_n 3, 1) := by decide +kernel
theorem dL_law_370 : decode cL_law 370 = .ok (.iconst 1, 1) := by decide +kernel
theorem dL_law_371 : decode cL_law 371 = .ok (.iadd, 1) := by decide +kernel
theorem dL_law_372 : decode cL_law 372 = .ok (.iaload, 1) := by decide +kernel
theorem dL_law_373 : decode cL_law 373 = .ok (.aload_n 0, 1) := by decide +kernel
theorem dL_law_374 : decode cL_law 374 = .ok (.iload_n 3, 1) := by decide +kernel
theorem dL_law_375 : decode cL_law 375 = .ok (.iconst 2, 1) := by decide +kernel
theorem dL_law_376 : decode cL_law 376 = .ok (.iadd, 1) := by decide +kernel
theorem dL_law_377 : decode cL_law 377 = .ok (.iaload, 1) := by decide +kernel
theorem dL_law_378 : decode cL_law 378 = .ok (.invokevirtual 36, 3) := by decide +kernel
theorem dL_law_381 : decode cL_law 381 = .ok (.aload_n 2, 1) := by decide +kernel
theorem dL_law_382 : decode cL_law 382 = .ok (.aload_n 0, 1) := by decide +kernel
theorem dL_law_383 : decode cL_law 383 = .ok (.iload_n 3, 1) := by decide +kernel
theorem dL_law_384 : decode cL_law 384 = .ok (.iconst 1, 1) := by decide +kernel
theorem dL_law_385 : decode cL_law 385 = .ok (.iadd, 1) := by decide +kernel
theorem dL_law_386 : decode cL_law 386 = .ok (.iaload, 1) := by decide +kernel
theorem dL_law_387 : decode cL_law 387 = .ok (.aload_n 0, 1) := by decide +kernel
theorem dL_law_388 : decode cL_law 388 = .ok (.iload_n 3, 1) := by decide +kernel
theorem dL_law_389 : decode cL_law 389 = .ok (.iconst 2, 1) := by decide +kernel
theorem dL_law_390 : decode cL_law 390 = .ok (.iadd, 1) := by decide +kernel
theorem dL_law_391 : decode cL_law 391 = .ok (.iaload, 1) := by decide +kernel
theorem dL_law_392 : decode cL_law 392 = .ok (.invokevirtual 39, 3) := by decide +kernel
theorem dL_law_395 : decode cL_law 395 = .ok (.if_icmp .eq 707, 3) := by decide +kernel
theorem dL_law_398 : decode cL_law 398 = .ok (.iconst 0, 1) := by decide +kernel
theorem dL_law_399 : decode cL_law 399 = .ok (.ireturn, 1) := by decide +kernel
theorem dL_law_400 : decode cL_law 400 = .ok (.aload_n 1, 1) := by decide +kernel
theorem dL_law_401 : decode cL_law 401 = .ok (.aload_n 0, 1) := by decide +kernel
theorem dL_law_402 : decode cL_law 402 = .ok (.iload_n 3, 1) := by decide +kernel
theorem dL_law_403 : decode cL_law 403 = .ok (.iconst 1, 1) := by decide +kernel
theorem dL_law_404 : decode cL_law 404 = .ok (.iadd, 1) := by decide +kernel
theorem dL_law_405 : decode cL_law 405 = .ok (.iaload, 1) := by decide +kernel
theorem dL_law_406 : decode cL_law 406 = .ok (.aload_n 0, 1) := by decide +kernel
theorem dL_law_407 : decode cL_law 407 = .ok (.iload_n 3, 1) := by decide +kernel
theorem dL_law_408 : decode cL_law 408 = .ok (.iconst 2, 1) := by decide +kernel
theorem dL_law_409 : decode cL_law 409 = .ok (.iadd, 1) := by decide +kernel
theorem dL_law_410 : decode cL_law 410 = .ok (.iaload, 1) := by decide +kernel
theorem dL_law_411 : decode cL_law 411 = .ok (.aload_n 0, 1) := by decide +kernel
theorem dL_law_412 : decode cL_law 412 = .ok (.iload_n 3, 1) := by decide +kernel
theorem dL_law_413 : decode cL_law 413 = .ok (.iconst 3, 1) := by decide +kernel
theorem dL_law_414 : decode cL_law 414 = .ok (.iadd, 1) := by decide +kernel
theorem dL_law_415 : decode cL_law 415 = .ok (.iaload, 1) := by decide +kernel
theorem dL_law_416 : decode cL_law 416 = .ok (.invokevirtual 40, 3) := by decide +kernel
theorem dL_law_419 : decode cL_law 419 = .ok (.aload_n 2, 1) := by decide +kernel
theorem dL_law_420 : decode cL_law 420 = .ok (.aload_n 0, 1) := by decide +kernel
theorem dL_law_421 : decode cL_law 421 = .ok (.iload_n 3, 1) := by decide +kernel
theorem dL_law_422 : decode cL_law 422 = .ok (.iconst 1, 1) := by decide +kernel
theorem dL_law_423 : decode cL_law 423 = .ok (.iadd, 1) := by decide +kernel
theorem dL_law_424 : decode cL_law 424 = .ok (.iaload, 1) := by decide +kernel
theorem dL_law_425 : decode cL_law 425 = .ok (.aload_n 0, 1) := by decide +kernel
theorem dL_law_426 : decode cL_law 426 = .ok (.iload_n 3, 1) := by decide +kernel
theorem dL_law_427 : decode cL_law 427 = .ok (.iconst 2, 1) := by decide +kernel
theorem dL_law_428 : decode cL_law 428 = .ok (.iadd, 1) := by decide +kernel
theorem dL_law_429 : decode cL_law 429 = .ok (.iaload, 1) := by decide +kernel
theorem dL_law_430 : decode cL_law 430 = .ok (.aload_n 0, 1) := by decide +kernel
theorem dL_law_431 : decode cL_law 431 = .ok (.iload_n 3, 1) := by decide +kernel
theorem dL_law_432 : decode cL_law 432 = .ok (.iconst 3, 1) := by decide +kernel
theorem dL_law_433 : decode cL_law 433 = .ok (.iadd, 1) := by decide +kernel
theorem dL_law_434 : decode cL_law 434 = .ok (.iaload, 1) := by decide +kernel
theorem dL_law_435 : decode cL_law 435 = .ok (.invokevirtual 43, 3) := by decide +kernel
theorem dL_law_438 : decode cL_law 438 = .ok (.if_icmp .eq 664, 3) := by decide +kernel
theorem dL_law_441 : decode cL_law 441 = .ok (.iconst 0, 1) := by decide +kernel
theorem dL_law_442 : decode cL_law 442 = .ok (.ireturn, 1) := by decide +kernel
theorem dL_law_443 : decode cL_law 443 = .ok (.aload_n 1, 1) := by decide +kernel
theorem dL_law_444 : decode cL_law 444 = .ok (.aload_n 0, 1) := by decide +kernel
theorem dL_law_445 : decode cL_law 445 = .ok (.iload_n 3, 1) := by decide +kernel
theorem dL_law_446 : decode cL_law 446 = .ok (.iconst 1, 1) := by decide +kernel
theorem dL_law_447 : decode cL_law 447 = .ok (.iadd, 1) := by decide +kernel
theorem dL_law_448 : decode cL_law 448 = .ok (.iaload, 1) := by decide +kernel
theorem dL_law_449 : decode cL_law 449 = .ok (.aload_n 0, 1) := by decide +kernel
theorem dL_law_450 : decode cL_law 450 = .ok (.iload_n 3, 1) := by decide +kernel
theorem dL_law_451 : decode cL_law 451 = .ok (.iconst 2, 1) := by decide +kernel
theorem dL_law_452 : decode cL_law 452 = .ok (.iadd, 1) := by decide +kernel
theorem dL_law_453 : decode cL_law 453 = .ok (.iaload, 1) := by decide +kernel
theorem dL_law_454 : decode cL_law 454 = .ok (.aload_n 0, 1) := by decide +kernel
theorem dL_law_455 : decode cL_law 455 = .ok (.iload_n 3, 1) := by decide +kernel
theorem dL_law_456 : decode cL_law 456 = .ok (.iconst 3, 1) := by decide +kernel
theorem dL_law_457 : decode cL_law 457 = .ok (.iadd, 1) := by decide +kernel
theorem dL_law_458 : decode cL_law 458 = .ok (.iaload, 1) := by decide +kernel
theorem dL_law_459 : decode cL_law 459 = .ok (.aload_n 0, 1) := by decide +kernel
theorem dL_law_460 : decode cL_law 460 = .ok (.iload_n 3, 1) := by decide +kernel
theorem dL_law_461 : decode cL_law 461 = .ok (.iconst 4, 1) := by decide +kernel
theorem dL_law_462 : decode cL_law 462 = .ok (.iadd, 1) := by decide +kernel
theorem dL_law_463 : decode cL_law 463 = .ok (.iaload, 1) := by decide +kernel
theorem dL_law_464 : decode cL_law 464 = .ok (.aload_n 0, 1) := by decide +kernel
theorem dL_law_465 : decode cL_law 465 = .ok (.iload_n 3, 1) := by decide +kernel
theorem dL_law_466 : decode cL_law 466 = .ok (.iconst 5, 1) := by decide +kernel
theorem dL_law_467 : decode cL_law 467 = .ok (.iadd, 1) := by decide +kernel
theorem dL_law_468 : decode cL_law 468 = .ok (.iaload, 1) := by decide +kernel
theorem dL_law_469 : decode cL_law 469 = .ok (.invokevirtual 44, 3) := by decide +kernel
theorem dL_law_472 : decode cL_law 472 = .ok (.aload_n 2, 1) := by decide +kernel
theorem dL_law_473 : decode cL_law 473 = .ok (.aload_n 0, 1) := by decide +kernel
theorem dL_law_474 : decode cL_law 474 = .ok (.iload_n 3, 1) := by decide +kernel
theorem dL_law_475 : decode cL_law 475 = .ok (.iconst 1, 1) := by decide +kernel
theorem dL_law_476 : decode cL_law 476 = .ok (.iadd, 1) := by decide +kernel
theorem dL_law_477 : decode cL_law 477 = .ok (.iaload, 1) := by decide +kernel
theorem dL_law_478 : decode cL_law 478 = .ok (.aload_n 0, 1) := by decide +kernel
theorem dL_law_479 : decode cL_law 479 = .ok (.iload_n 3, 1) := by decide +kernel
theorem dL_law_480 : decode cL_law 480 = .ok (.iconst 2, 1) := by decide +kernel
theorem dL_law_481 : decode cL_law 481 = .ok (.iadd, 1) := by decide +kernel
theorem dL_law_482 : decode cL_law 482 = .ok (.iaload, 1) := by decide +kernel
theorem dL_law_483 : decode cL_law 483 = .ok (.aload_n 0, 1) := by decide +kernel
theorem dL_law_484 : decode cL_law 484 = .ok (.iload_n 3, 1) := by decide +kernel
theorem dL_law_485 : decode cL_law 485 = .ok (.iconst 3, 1) := by decide +kernel
theorem dL_law_486 : decode cL_law 486 = .ok (.iadd, 1) := by decide +kernel
theorem dL_law_487 : decode cL_law 487 = .ok (.iaload, 1) := by decide +kernel
theorem dL_law_488 : decode cL_law 488 = .ok (.aload_n 0, 1) := by decide +kernel
theorem dL_law_489 : decode cL_law 489 = .ok (.iload_n 3, 1) := by decide +kernel
theorem dL_law_490 : decode cL_law 490 = .ok (.iconst 4, 1) := by decide +kernel
theorem dL_law_491 : decode cL_law 491 = .ok (.iadd, 1) := by decide +kernel
theorem dL_law_492 : decode cL_law 492 = .ok (.iaload, 1) := by decide +kernel
theorem dL_law_493 : decode cL_law 493 = .ok (.aload_n 0, 1) := by decide +kernel
theorem dL_law_494 : decode cL_law 494 = .ok (.iload_n 3, 1) := by decide +kernel
theorem dL_law_495 : decode cL_law 495 = .ok (.iconst 5, 1) := by decide +kernel
theorem dL_law_496 : decode cL_law 496 = .ok (.iadd, 1) := by decide +kernel
theorem dL_law_497 : decode cL_law 497 = .ok (.iaload, 1) := by decide +kernel
theorem dL_law_498 : decode cL_law 498 = .ok (.invokevirtual 47, 3) := by decide +kernel
theorem dL_law_501 : decode cL_law 501 = .ok (.if_icmp .eq 601, 3) := by decide +kernel
theorem dL_law_504 : decode cL_law 504 = .ok (.iconst 0, 1) := by decide +kernel
theorem dL_law_505 : decode cL_law 505 = .ok (.ireturn, 1) := by decide +kernel
theorem dL_law_506 : decode cL_law 506 = .ok (.aload_n 1, 1) := by decide +kernel
theorem dL_law_507 : decode cL_law 507 = .ok (.aload_n 0, 1) := by decide +kernel
theorem dL_law_508 : decode cL_law 508 = .ok (.iload_n 3, 1) := by decide +kernel
theorem dL_law_509 : decode cL_law 509 = .ok (.iconst 1, 1) := by decide +kernel
theorem dL_law_510 : decode cL_law 510 = .ok (.iadd, 1) := by decide +kernel
theorem dL_law_511 : decode cL_law 511 = .ok (.iaload, 1) := by decide +kernel
theorem dL_law_512 : decode cL_law 512 = .ok (.aload_n 0, 1) := by decide +kernel
theorem dL_law_513 : decode cL_law 513 = .ok (.iload_n 3, 1) := by decide +kernel
theorem dL_law_514 : decode cL_law 514 = .ok (.iconst 2, 1) := by decide +kernel
theorem dL_law_515 : decode cL_law 515 = .ok (.iadd, 1) := by decide +kernel
theorem dL_law_516 : decode cL_law 516 = .ok (.iaload, 1) := by decide +kernel
theorem dL_law_517 : decode cL_law 517 = .ok (.invokevirtual 48, 3) := by decide +kernel
theorem dL_law_520 : decode cL_law 520 = .ok (.aload_n 2, 1) := by decide +kernel
theorem dL_law_521 : decode cL_law 521 = .ok (.aload_n 0, 1) := by decide +kernel
theorem dL_law_522 : decode cL_law 522 = .ok (.iload_n 3, 1) := by decide +kernel
theorem dL_law_523 : decode cL_law 523 = .ok (.iconst 1, 1) := by decide +kernel
theorem dL_law_524 : decode cL_law 524 = .ok (.iadd, 1) := by decide +kernel
theorem dL_law_525 : decode cL_law 525 = .ok (.iaload, 1) := by decide +kernel
theorem dL_law_526 : decode cL_law 526 = .ok (.aload_n 0, 1) := by decide +kernel
theorem dL_law_527 : decode cL_law 527 = .ok (.iload_n 3, 1) := by decide +kernel
theorem dL_law_528 : decode cL_law 528 = .ok (.iconst 2, 1) := by decide +kernel
theorem dL_law_529 : decode cL_law 529 = .ok (.iadd, 1) := by decide +kernel
theorem dL_law_530 : decode cL_law 530 = .ok (.iaload, 1) := by decide +kernel
theorem dL_law_531 : decode cL_law 531 = .ok (.invokevirtual 51, 3) := by decide +kernel
theorem dL_law_534 : decode cL_law 534 = .ok (.if_icmp .eq 568, 3) := by decide +kernel
theorem dL_law_537 : decode cL_law 537 = .ok (.iconst 0, 1) := by decide +kernel
theorem dL_law_538 : decode cL_law 538 = .ok (.ireturn, 1) := by decide +kernel
theorem dL_law_539 : decode cL_law 539 = .ok (.aload_n 1, 1) := by decide +kernel
theorem dL_law_540 : decode cL_law 540 = .ok (.aload_n 0, 1) := by decide +kernel
theorem dL_law_541 : decode cL_law 541 = .ok (.iload_n 3, 1) := by decide +kernel
theorem dL_law_542 : decode cL_law 542 = .ok (.iconst 1, 1) := by decide +kernel
theorem dL_law_543 : decode cL_law 543 = .ok (.iadd, 1) := by decide +kernel
theorem dL_law_544 : decode cL_law 544 = .ok (.iaload, 1) := by decide +kernel
theorem dL_law_545 : decode cL_law 545 = .ok (.aload_n 0, 1) := by decide +kernel
theorem dL_law_546 : decode cL_law 546 = .ok (.iload_n 3, 1) := by decide +kernel
theorem dL_law_547 : decode cL_law 547 = .ok (.iconst 2, 1) := by decide +kernel
theorem dL_law_548 : decode cL_law 548 = .ok (.iadd, 1) := by decide +kernel
theorem dL_law_549 : decode cL_law 549 = .ok (.iaload, 1) := by decide +kernel
theorem dL_law_550 : decode cL_law 550 = .ok (.aload_n 0, 1) := by decide +kernel
theorem dL_law_551 : decode cL_law 551 = .ok (.iload_n 3, 1) := by decide +kernel
theorem dL_law_552 : decode cL_law 552 = .ok (.iconst 3, 1) := by decide +kernel
theorem dL_law_553 : decode cL_law 553 = .ok (.iadd, 1) := by decide +kernel
theorem dL_law_554 : decode cL_law 554 = .ok (.iaload, 1) := by decide +kernel
theorem dL_law_555 : decode cL_law 555 = .ok (.invokevirtual 52, 3) := by decide +kernel
theorem dL_law_558 : decode cL_law 558 = .ok (.aload_n 2, 1) := by decide +kernel
theorem dL_law_559 : decode cL_law 559 = .ok (.aload_n 0, 1) := by decide +kernel
theorem dL_law_560 : decode cL_law 560 = .ok (.iload_n 3, 1) := by decide +kernel
theorem dL_law_561 : decode cL_law 561 = .ok (.iconst 1, 1) := by decide +kernel
theorem dL_law_562 : decode cL_law 562 = .ok (.iadd, 1) := by decide +kernel
theorem dL_law_563 : decode cL_law 563 = .ok (.iaload, 1) := by decide +kernel
theorem dL_law_564 : decode cL_law 564 = .ok (.aload_n 0, 1) := by decide +kernel
theorem dL_law_565 : decode cL_law 565 = .ok (.iload_n 3, 1) := by decide +kernel
theorem dL_law_566 : decode cL_law 566 = .ok (.iconst 2, 1) := by decide +kernel
theorem dL_law_567 : decode cL_law 567 = .ok (.iadd, 1) := by decide +kernel
theorem dL_law_568 : decode cL_law 568 = .ok (.iaload, 1) := by decide +kernel
theorem dL_law_569 : decode cL_law 569 = .ok (.aload_n 0, 1) := by decide +kernel
theorem dL_law_570 : decode cL_law 570 = .ok (.iload_n 3, 1) := by decide +kernel
theorem dL_law_571 : decode cL_law 571 = .ok (.iconst 3, 1) := by decide +kernel
theorem dL_law_572 : decode cL_law 572 = .ok (.iadd, 1) := by decide +kernel
theorem dL_law_573 : decode cL_law 573 = .ok (.iaload, 1) := by decide +kernel
theorem dL_law_574 : decode cL_law 574 = .ok (.invokevirtual 55, 3) := by decide +kernel
theorem dL_law_577 : decode cL_law 577 = .ok (.if_icmp .eq 525, 3) := by decide +kernel
theorem dL_law_580 : decode cL_law 580 = .ok (.iconst 0, 1) := by decide +kernel
theorem dL_law_581 : decode cL_law 581 = .ok (.ireturn, 1) := by decide +kernel
theorem dL_law_582 : decode cL_law 582 = .ok (.aload_n 1, 1) := by decide +kernel
theorem dL_law_583 : decode cL_law 583 = .ok (.aload_n 0, 1) := by decide +kernel
theorem dL_law_584 : decode cL_law 584 = .ok (.iload_n 3, 1) := by decide +kernel
theorem dL_law_585 : decode cL_law 585 = .ok (.iconst 1, 1) := by decide +kernel
theorem dL_law_586 : decode cL_law 586 = .ok (.iadd, 1) := by decide +kernel
theorem dL_law_587 : decode cL_law 587 = .ok (.iaload, 1) := by decide +kernel
theorem dL_law_588 : decode cL_law 588 = .ok (.aload_n 0, 1) := by decide +kernel
theorem dL_law_589 : decode cL_law 589 = .ok (.iload_n 3, 1) := by decide +kernel
theorem dL_law_590 : decode cL_law 590 = .ok (.iconst 2, 1) := by decide +kernel
theorem dL_law_591 : decode cL_law 591 = .ok (.iadd, 1) := by decide +kernel
theorem dL_law_592 : decode cL_law 592 = .ok (.iaload, 1) := by decide +kernel
theorem dL_law_593 : decode cL_law 593 = .ok (.aload_n 0, 1) := by decide +kernel
theorem dL_law_594 : decode cL_law 594 = .ok (.iload_n 3, 1) := by decide +kernel
theorem dL_law_595 : decode cL_law 595 = .ok (.iconst 3, 1) := by decide +kernel
theorem dL_law_596 : decode cL_law 596 = .ok (.iadd, 1) := by decide +kernel
theorem dL_law_597 : decode cL_law 597 = .ok (.iaload, 1) := by decide +kernel
theorem dL_law_598 : decode cL_law 598 = .ok (.aload_n 0, 1) := by decide +kernel
theorem dL_law_599 : decode cL_law 599 = .ok (.iload_n 3, 1) := by decide +kernel
theorem dL_law_600 : decode cL_law 600 = .ok (.iconst 4, 1) := by decide +kernel
theorem dL_law_601 : decode cL_law 601 = .ok (.iadd, 1) := by decide +kernel
theorem dL_law_602 : decode cL_law 602 = .ok (.iaload, 1) := by decide +kernel
theorem dL_law_603 : decode cL_law 603 = .ok (.invokevirtual 56, 3) := by decide +kernel
theorem dL_law_606 : decode cL_law 606 = .ok (.aload_n 2, 1) := by decide +kernel
theorem dL_law_607 : decode cL_law 607 = .ok (.aload_n 0, 1) := by decide +kernel
theorem dL_law_608 : decode cL_law 608 = .ok (.iload_n 3, 1) := by decide +kernel
theorem dL_law_609 : decode cL_law 609 = .ok (.iconst 1, 1) := by decide +kernel
theorem dL_law_610 : decode cL_law 610 = .ok (.iadd, 1) := by decide +kernel
theorem dL_law_611 : decode cL_law 611 = .ok (.iaload, 1) := by decide +kernel
theorem dL_law_612 : decode cL_law 612 = .ok (.aload_n 0, 1) := by decide +kernel
theorem dL_law_613 : decode cL_law 613 = .ok (.iload_n 3, 1) := by decide +kernel
theorem dL_law_614 : decode cL_law 614 = .ok (.iconst 2, 1) := by decide +kernel
theorem dL_law_615 : decode cL_law 615 = .ok (.iadd, 1) := by decide +kernel
theorem dL_law_616 : decode cL_law 616 = .ok (.iaload, 1) := by decide +kernel
theorem dL_law_617 : decode cL_law 617 = .ok (.aload_n 0, 1) := by decide +kernel
theorem dL_law_618 : decode cL_law 618 = .ok (.iload_n 3, 1) := by decide +kernel
theorem dL_law_619 : decode cL_law 619 = .ok (.iconst 3, 1) := by decide +kernel
theorem dL_law_620 : decode cL_law 620 = .ok (.iadd, 1) := by decide +kernel
theorem dL_law_621 : decode cL_law 621 = .ok (.iaload, 1) := by decide +kernel
theorem dL_law_622 : decode cL_law 622 = .ok (.aload_n 0, 1) := by decide +kernel
theorem dL_law_623 : decode cL_law 623 = .ok (.iload_n 3, 1) := by decide +kernel
theorem dL_law_624 : decode cL_law 624 = .ok (.iconst 4, 1) := by decide +kernel
theorem dL_law_625 : decode cL_law 625 = .ok (.iadd, 1) := by decide +kernel
theorem dL_law_626 : decode cL_law 626 = .ok (.iaload, 1) := by decide +kernel
theorem dL_law_627 : decode cL_law 627 = .ok (.invokevirtual 60, 3) := by decide +kernel
theorem dL_law_630 : decode cL_law 630 = .ok (.if_icmp .eq 472, 3) := by decide +kernel
theorem dL_law_633 : decode cL_law 633 = .ok (.iconst 0, 1) := by decide +kernel
theorem dL_law_634 : decode cL_law 634 = .ok (.ireturn, 1) := by decide +kernel
theorem dL_law_635 : decode cL_law 635 = .ok (.aload_n 1, 1) := by decide +kernel
theorem dL_law_636 : decode cL_law 636 = .ok (.aload_n 0, 1) := by decide +kernel
theorem dL_law_637 : decode cL_law 637 = .ok (.iload_n 3, 1) := by decide +kernel
theorem dL_law_638 : decode cL_law 638 = .ok (.iconst 1, 1) := by decide +kernel
theorem dL_law_639 : decode cL_law 639 = .ok (.iadd, 1) := by decide +kernel
theorem dL_law_640 : decode cL_law 640 = .ok (.iaload, 1) := by decide +kernel
theorem dL_law_641 : decode cL_law 641 = .ok (.aload_n 0, 1) := by decide +kernel
theorem dL_law_642 : decode cL_law 642 = .ok (.iload_n 3, 1) := by decide +kernel
theorem dL_law_643 : decode cL_law 643 = .ok (.iconst 2, 1) := by decide +kernel
theorem dL_law_644 : decode cL_law 644 = .ok (.iadd, 1) := by decide +kernel
theorem dL_law_645 : decode cL_law 645 = .ok (.iaload, 1) := by decide +kernel
theorem dL_law_646 : decode cL_law 646 = .ok (.invokevirtual 61, 3) := by decide +kernel
theorem dL_law_649 : decode cL_law 649 = .ok (.aload_n 2, 1) := by decide +kernel
theorem dL_law_650 : decode cL_law 650 = .ok (.aload_n 0, 1) := by decide +kernel
theorem dL_law_651 : decode cL_law 651 = .ok (.iload_n 3, 1) := by decide +kernel
theorem dL_law_652 : decode cL_law 652 = .ok (.iconst 1, 1) := by decide +kernel
theorem dL_law_653 : decode cL_law 653 = .ok (.iadd, 1) := by decide +kernel
theorem dL_law_654 : decode cL_law 654 = .ok (.iaload, 1) := by decide +kernel
theorem dL_law_655 : decode cL_law 655 = .ok (.aload_n 0, 1) := by decide +kernel
theorem dL_law_656 : decode cL_law 656 = .ok (.iload_n 3, 1) := by decide +kernel
theorem dL_law_657 : decode cL_law 657 = .ok (.iconst 2, 1) := by decide +kernel
theorem dL_law_658 : decode cL_law 658 = .ok (.iadd, 1) := by decide +kernel
theorem dL_law_659 : decode cL_law 659 = .ok (.iaload, 1) := by decide +kernel
theorem dL_law_660 : decode cL_law 660 = .ok (.invokevirtual 64, 3) := by decide +kernel
theorem dL_law_663 : decode cL_law 663 = .ok (.if_icmp .eq 439, 3) := by decide +kernel
theorem dL_law_666 : decode cL_law 666 = .ok (.iconst 0, 1) := by decide +kernel
theorem dL_law_667 : decode cL_law 667 = .ok (.ireturn, 1) := by decide +kernel
theorem dL_law_668 : decode cL_law 668 = .ok (.aload_n 1, 1) := by decide +kernel
theorem dL_law_669 : decode cL_law 669 = .ok (.aload_n 0, 1) := by decide +kernel
theorem dL_law_670 : decode cL_law 670 = .ok (.iload_n 3, 1) := by decide +kernel
theorem dL_law_671 : decode cL_law 671 = .ok (.iconst 1, 1) := by decide +kernel
theorem dL_law_672 : decode cL_law 672 = .ok (.iadd, 1) := by decide +kernel
theorem dL_law_673 : decode cL_law 673 = .ok (.iaload, 1) := by decide +kernel
theorem dL_law_674 : decode cL_law 674 = .ok (.aload_n 0, 1) := by decide +kernel
theorem dL_law_675 : decode cL_law 675 = .ok (.iload_n 3, 1) := by decide +kernel
theorem dL_law_676 : decode cL_law 676 = .ok (.iconst 2, 1) := by decide +kernel
theorem dL_law_677 : decode cL_law 677 = .ok (.iadd, 1) := by decide +kernel
theorem dL_law_678 : decode cL_law 678 = .ok (.iaload, 1) := by decide +kernel
theorem dL_law_679 : decode cL_law 679 = .ok (.aload_n 0, 1) := by decide +kernel
theorem dL_law_680 : decode cL_law 680 = .ok (.iload_n 3, 1) := by decide +kernel
theorem dL_law_681 : decode cL_law 681 = .ok (.iconst 3, 1) := by decide +kernel
theorem dL_law_682 : decode cL_law 682 = .ok (.iadd, 1) := by decide +kernel
theorem dL_law_683 : decode cL_law 683 = .ok (.iaload, 1) := by decide +kernel
theorem dL_law_684 : decode cL_law 684 = .ok (.invokevirtual 65, 3) := by decide +kernel
theorem dL_law_687 : decode cL_law 687 = .ok (.aload_n 2, 1) := by decide +kernel
theorem dL_law_688 : decode cL_law 688 = .ok (.aload_n 0, 1) := by decide +kernel
theorem dL_law_689 : decode cL_law 689 = .ok (.iload_n 3, 1) := by decide +kernel
theorem dL_law_690 : decode cL_law 690 = .ok (.iconst 1, 1) := by decide +kernel
theorem dL_law_691 : decode cL_law 691 = .ok (.iadd, 1) := by decide +kernel
theorem dL_law_692 : decode cL_law 692 = .ok (.iaload, 1) := by decide +kernel
theorem dL_law_693 : decode cL_law 693 = .ok (.aload_n 0, 1) := by decide +kernel
theorem dL_law_694 : decode cL_law 694 = .ok (.iload_n 3, 1) := by decide +kernel
theorem dL_law_695 : decode cL_law 695 = .ok (.iconst 2, 1) := by decide +kernel
theorem dL_law_696 : decode cL_law 696 = .ok (.iadd, 1) := by decide +kernel
theorem dL_law_697 : decode cL_law 697 = .ok (.iaload, 1) := by decide +kernel
theorem dL_law_698 : decode cL_law 698 = .ok (.aload_n 0, 1) := by decide +kernel
theorem dL_law_699 : decode cL_law 699 = .ok (.iload_n 3, 1) := by decide +kernel
theorem dL_law_700 : decode cL_law 700 = .ok (.iconst 3, 1) := by decide +kernel
theorem dL_law_701 : decode cL_law 701 = .ok (.iadd, 1) := by decide +kernel
theorem dL_law_702 : decode cL_law 702 = .ok (.iaload, 1) := by decide +kernel
theorem dL_law_703 : decode cL_law 703 = .ok (.invokevirtual 68, 3) := by decide +kernel
theorem dL_law_706 : decode cL_law 706 = .ok (.if_icmp .eq 396, 3) := by decide +kernel
theorem dL_law_709 : decode cL_law 709 = .ok (.iconst 0, 1) := by decide +kernel
theorem dL_law_710 : decode cL_law 710 = .ok (.ireturn, 1) := by decide +kernel
theorem dL_law_711 : decode cL_law 711 = .ok (.aload_n 1, 1) := by decide +kernel
theorem dL_law_712 : decode cL_law 712 = .ok (.aload_n 0, 1) := by decide +kernel
theorem dL_law_713 : decode cL_law 713 = .ok (.iload_n 3, 1) := by decide +kernel
theorem dL_law_714 : decode cL_law 714 = .ok (.iconst 1, 1) := by decide +kernel
theorem dL_law_715 : decode cL_law 715 = .ok (.iadd, 1) := by decide +kernel
theorem dL_law_716 : decode cL_law 716 = .ok (.iaload, 1) := by decide +kernel
theorem dL_law_717 : decode cL_law 717 = .ok (.aload_n 0, 1) := by decide +kernel
theorem dL_law_718 : decode cL_law 718 = .ok (.iload_n 3, 1) := by decide +kernel
theorem dL_law_719 : decode cL_law 719 = .ok (.iconst 2, 1) := by decide +kernel
theorem dL_law_720 : decode cL_law 720 = .ok (.iadd, 1) := by decide +kernel
theorem dL_law_721 : decode cL_law 721 = .ok (.iaload, 1) := by decide +kernel
theorem dL_law_722 : decode cL_law 722 = .ok (.invokevirtual 69, 3) := by decide +kernel
theorem dL_law_725 : decode cL_law 725 = .ok (.aload_n 2, 1) := by decide +kernel
theorem dL_law_726 : decode cL_law 726 = .ok (.aload_n 0, 1) := by decide +kernel
theorem dL_law_727 : decode cL_law 727 = .ok (.iload_n 3, 1) := by decide +kernel
theorem dL_law_728 : decode cL_law 728 = .ok (.iconst 1, 1) := by decide +kernel
theorem dL_law_729 : decode cL_law 729 = .ok (.iadd, 1) := by decide +kernel
theorem dL_law_730 : decode cL_law 730 = .ok (.iaload, 1) := by decide +kernel
theorem dL_law_731 : decode cL_law 731 = .ok (.aload_n 0, 1) := by decide +kernel
theorem dL_law_732 : decode cL_law 732 = .ok (.iload_n 3, 1) := by decide +kernel
theorem dL_law_733 : decode cL_law 733 = .ok (.iconst 2, 1) := by decide +kernel
theorem dL_law_734 : decode cL_law 734 = .ok (.iadd, 1) := by decide +kernel
theorem dL_law_735 : decode cL_law 735 = .ok (.iaload, 1) := by decide +kernel
theorem dL_law_736 : decode cL_law 736 = .ok (.invokevirtual 73, 3) := by decide +kernel
theorem dL_law_739 : decode cL_law 739 = .ok (.lcmp, 1) := by decide +kernel
theorem dL_law_740 : decode cL_law 740 = .ok (.ifCond .eq 362, 3) := by decide +kernel
theorem dL_law_743 : decode cL_law 743 = .ok (.iconst 0, 1) := by decide +kernel
theorem dL_law_744 : decode cL_law 744 = .ok (.ireturn, 1) := by decide +kernel
theorem dL_law_745 : decode cL_law 745 = .ok (.aload_n 1, 1) := by decide +kernel
theorem dL_law_746 : decode cL_law 746 = .ok (.aload_n 0, 1) := by decide +kernel
theorem dL_law_747 : decode cL_law 747 = .ok (.iload_n 3, 1) := by decide +kernel
theorem dL_law_748 : decode cL_law 748 = .ok (.iconst 1, 1) := by decide +kernel
theorem dL_law_749 : decode cL_law 749 = .ok (.iadd, 1) := by decide +kernel
theorem dL_law_750 : decode cL_law 750 = .ok (.iaload, 1) := by decide +kernel
theorem dL_law_751 : decode cL_law 751 = .ok (.aload_n 0, 1) := by decide +kernel
theorem dL_law_752 : decode cL_law 752 = .ok (.iload_n 3, 1) := by decide +kernel
theorem dL_law_753 : decode cL_law 753 = .ok (.iconst 2, 1) := by decide +kernel
theorem dL_law_754 : decode cL_law 754 = .ok (.iadd, 1) := by decide +kernel
theorem dL_law_755 : decode cL_law 755 = .ok (.iaload, 1) := by decide +kernel
theorem dL_law_756 : decode cL_law 756 = .ok (.aload_n 0, 1) := by decide +kernel
theorem dL_law_757 : decode cL_law 757 = .ok (.iload_n 3, 1) := by decide +kernel
theorem dL_law_758 : decode cL_law 758 = .ok (.iconst 3, 1) := by decide +kernel
theorem dL_law_759 : decode cL_law 759 = .ok (.iadd, 1) := by decide +kernel
theorem dL_law_760 : decode cL_law 760 = .ok (.iaload, 1) := by decide +kernel
theorem dL_law_761 : decode cL_law 761 = .ok (.aload_n 0, 1) := by decide +kernel
theorem dL_law_762 : decode cL_law 762 = .ok (.iload_n 3, 1) := by decide +kernel
theorem dL_law_763 : decode cL_law 763 = .ok (.iconst 4, 1) := by decide +kernel
theorem dL_law_764 : decode cL_law 764 = .ok (.iadd, 1) := by decide +kernel
theorem dL_law_765 : decode cL_law 765 = .ok (.iaload, 1) := by decide +kernel
theorem dL_law_766 : decode cL_law 766 = .ok (.invokevirtual 74, 3) := by decide +kernel
theorem dL_law_769 : decode cL_law 769 = .ok (.aload_n 2, 1) := by decide +kernel
theorem dL_law_770 : decode cL_law 770 = .ok (.aload_n 0, 1) := by decide +kernel
theorem dL_law_771 : decode cL_law 771 = .ok (.iload_n 3, 1) := by decide +kernel
theorem dL_law_772 : decode cL_law 772 = .ok (.iconst 1, 1) := by decide +kernel
theorem dL_law_773 : decode cL_law 773 = .ok (.iadd, 1) := by decide +kernel
theorem dL_law_774 : decode cL_law 774 = .ok (.iaload, 1) := by decide +kernel
theorem dL_law_775 : decode cL_law 775 = .ok (.aload_n 0, 1) := by decide +kernel
theorem dL_law_776 : decode cL_law 776 = .ok (.iload_n 3, 1) := by decide +kernel
theorem dL_law_777 : decode cL_law 777 = .ok (.iconst 2, 1) := by decide +kernel
theorem dL_law_778 : decode cL_law 778 = .ok (.iadd, 1) := by decide +kernel
theorem dL_law_779 : decode cL_law 779 = .ok (.iaload, 1) := by decide +kernel
theorem dL_law_780 : decode cL_law 780 = .ok (.aload_n 0, 1) := by decide +kernel
theorem dL_law_781 : decode cL_law 781 = .ok (.iload_n 3, 1) := by decide +kernel
theorem dL_law_782 : decode cL_law 782 = .ok (.iconst 3, 1) := by decide +kernel
theorem dL_law_783 : decode cL_law 783 = .ok (.iadd, 1) := by decide +kernel
theorem dL_law_784 : decode cL_law 784 = .ok (.iaload, 1) := by decide +kernel
theorem dL_law_785 : decode cL_law 785 = .ok (.aload_n 0, 1) := by decide +kernel
theorem dL_law_786 : decode cL_law 786 = .ok (.iload_n 3, 1) := by decide +kernel
theorem dL_law_787 : decode cL_law 787 = .ok (.iconst 4, 1) := by decide +kernel
theorem dL_law_788 : decode cL_law 788 = .ok (.iadd, 1) := by decide +kernel
theorem dL_law_789 : decode cL_law 789 = .ok (.iaload, 1) := by decide +kernel
theorem dL_law_790 : decode cL_law 790 = .ok (.invokevirtual 77, 3) := by decide +kernel
theorem dL_law_793 : decode cL_law 793 = .ok (.if_icmp .eq 309, 3) := by decide +kernel
theorem dL_law_796 : decode cL_law 796 = .ok (.iconst 0, 1) := by decide +kernel
theorem dL_law_797 : decode cL_law 797 = .ok (.ireturn, 1) := by decide +kernel
theorem dL_law_798 : decode cL_law 798 = .ok (.aload_n 1, 1) := by decide +kernel
theorem dL_law_799 : decode cL_law 799 = .ok (.aload_n 0, 1) := by decide +kernel
theorem dL_law_800 : decode cL_law 800 = .ok (.iload_n 3, 1) := by decide +kernel
theorem dL_law_801 : decode cL_law 801 = .ok (.iconst 1, 1) := by decide +kernel
theorem dL_law_802 : decode cL_law 802 = .ok (.iadd, 1) := by decide +kernel
theorem dL_law_803 : decode cL_law 803 = .ok (.iaload, 1) := by decide +kernel
theorem dL_law_804 : decode cL_law 804 = .ok (.aload_n 0, 1) := by decide +kernel
theorem dL_law_805 : decode cL_law 805 = .ok (.iload_n 3, 1) := by decide +kernel
theorem dL_law_806 : decode cL_law 806 = .ok (.iconst 2, 1) := by decide +kernel
theorem dL_law_807 : decode cL_law 807 = .ok (.iadd, 1) := by decide +kernel
theorem dL_law_808 : decode cL_law 808 = .ok (.iaload, 1) := by decide +kernel
theorem dL_law_809 : decode cL_law 809 = .ok (.invokevirtual 78, 3) := by decide +kernel
theorem dL_law_812 : decode cL_law 812 = .ok (.aload_n 2, 1) := by decide +kernel
theorem dL_law_813 : decode cL_law 813 = .ok (.aload_n 0, 1) := by decide +kernel
theorem dL_law_814 : decode cL_law 814 = .ok (.iload_n 3, 1) := by decide +kernel
theorem dL_law_815 : decode cL_law 815 = .ok (.iconst 1, 1) := by decide +kernel
theorem dL_law_816 : decode cL_law 816 = .ok (.iadd, 1) := by decide +kernel
theorem dL_law_817 : decode cL_law 817 = .ok (.iaload, 1) := by decide +kernel
theorem dL_law_818 : decode cL_law 818 = .ok (.aload_n 0, 1) := by decide +kernel
theorem dL_law_819 : decode cL_law 819 = .ok (.iload_n 3, 1) := by decide +kernel
theorem dL_law_820 : decode cL_law 820 = .ok (.iconst 2, 1) := by decide +kernel
theorem dL_law_821 : decode cL_law 821 = .ok (.iadd, 1) := by decide +kernel
theorem dL_law_822 : decode cL_law 822 = .ok (.iaload, 1) := by decide +kernel
theorem dL_law_823 : decode cL_law 823 = .ok (.invokevirtual 81, 3) := by decide +kernel
theorem dL_law_826 : decode cL_law 826 = .ok (.if_icmp .eq 276, 3) := by decide +kernel
theorem dL_law_829 : decode cL_law 829 = .ok (.iconst 0, 1) := by decide +kernel
theorem dL_law_830 : decode cL_law 830 = .ok (.ireturn, 1) := by decide +kernel
theorem dL_law_831 : decode cL_law 831 = .ok (.aload_n 1, 1) := by decide +kernel
theorem dL_law_832 : decode cL_law 832 = .ok (.aload_n 0, 1) := by decide +kernel
theorem dL_law_833 : decode cL_law 833 = .ok (.iload_n 3, 1) := by decide +kernel
theorem dL_law_834 : decode cL_law 834 = .ok (.iconst 1, 1) := by decide +kernel
theorem dL_law_835 : decode cL_law 835 = .ok (.iadd, 1) := by decide +kernel
theorem dL_law_836 : decode cL_law 836 = .ok (.iaload, 1) := by decide +kernel
theorem dL_law_837 : decode cL_law 837 = .ok (.aload_n 0, 1) := by decide +kernel
theorem dL_law_838 : decode cL_law 838 = .ok (.iload_n 3, 1) := by decide +kernel
theorem dL_law_839 : decode cL_law 839 = .ok (.iconst 2, 1) := by decide +kernel
theorem dL_law_840 : decode cL_law 840 = .ok (.iadd, 1) := by decide +kernel
theorem dL_law_841 : decode cL_law 841 = .ok (.iaload, 1) := by decide +kernel
theorem dL_law_842 : decode cL_law 842 = .ok (.invokevirtual 82, 3) := by decide +kernel
theorem dL_law_845 : decode cL_law 845 = .ok (.aload_n 2, 1) := by decide +kernel
theorem dL_law_846 : decode cL_law 846 = .ok (.aload_n 0, 1) := by decide +kernel
theorem dL_law_847 : decode cL_law 847 = .ok (.iload_n 3, 1) := by decide +kernel
theorem dL_law_848 : decode cL_law 848 = .ok (.iconst 1, 1) := by decide +kernel
theorem dL_law_849 : decode cL_law 849 = .ok (.iadd, 1) := by decide +kernel
theorem dL_law_850 : decode cL_law 850 = .ok (.iaload, 1) := by decide +kernel
theorem dL_law_851 : decode cL_law 851 = .ok (.aload_n 0, 1) := by decide +kernel
theorem dL_law_852 : decode cL_law 852 = .ok (.iload_n 3, 1) := by decide +kernel
theorem dL_law_853 : decode cL_law 853 = .ok (.iconst 2, 1) := by decide +kernel
theorem dL_law_854 : decode cL_law 854 = .ok (.iadd, 1) := by decide +kernel
theorem dL_law_855 : decode cL_law 855 = .ok (.iaload, 1) := by decide +kernel
theorem dL_law_856 : decode cL_law 856 = .ok (.invokevirtual 85, 3) := by decide +kernel
theorem dL_law_859 : decode cL_law 859 = .ok (.if_icmp .eq 243, 3) := by decide +kernel
theorem dL_law_862 : decode cL_law 862 = .ok (.iconst 0, 1) := by decide +kernel
theorem dL_law_863 : decode cL_law 863 = .ok (.ireturn, 1) := by decide +kernel
theorem dL_law_864 : decode cL_law 864 = .ok (.aload_n 1, 1) := by decide +kernel
theorem dL_law_865 : decode cL_law 865 = .ok (.aload_n 0, 1) := by decide +kernel
theorem dL_law_866 : decode cL_law 866 = .ok (.iload_n 3, 1) := by decide +kernel
theorem dL_law_867 : decode cL_law 867 = .ok (.iconst 1, 1) := by decide +kernel
theorem dL_law_868 : decode cL_law 868 = .ok (.iadd, 1) := by decide +kernel
theorem dL_law_869 : decode cL_law 869 = .ok (.iaload, 1) := by decide +kernel
