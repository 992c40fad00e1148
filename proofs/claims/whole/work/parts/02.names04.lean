theorem dX6_layPoints_225 : decode cX6_layPoints 225 = .ok (.iload_n 2, 1) := by decide +kernel
theorem dX6_layPoints_226 : decode cX6_layPoints 226 = .ok (.aload_n 0, 1) := by decide +kernel
theorem dX6_layPoints_227 : decode cX6_layPoints 227 = .ok (.getfield 41, 3) := by decide +kernel
theorem dX6_layPoints_230 : decode cX6_layPoints 230 = .ok (.iload 5, 2) := by decide +kernel
theorem dX6_layPoints_232 : decode cX6_layPoints 232 = .ok (.iaload, 1) := by decide +kernel
theorem dX6_layPoints_233 : decode cX6_layPoints 233 = .ok (.iload 4, 2) := by decide +kernel
theorem dX6_layPoints_235 : decode cX6_layPoints 235 = .ok (.iconst 3, 1) := by decide +kernel
theorem dX6_layPoints_236 : decode cX6_layPoints 236 = .ok (.if_icmp .ne 8, 3) := by decide +kernel
theorem dX6_layPoints_239 : decode cX6_layPoints 239 = .ok (.iload 7, 2) := by decide +kernel
theorem dX6_layPoints_241 : decode cX6_layPoints 241 = .ok (.goto 4, 3) := by decide +kernel
theorem dX6_layPoints_244 : decode cX6_layPoints 244 = .ok (.iconst 0, 1) := by decide +kernel
theorem dX6_layPoints_245 : decode cX6_layPoints 245 = .ok (.iadd, 1) := by decide +kernel
theorem dX6_layPoints_246 : decode cX6_layPoints 246 = .ok (.iastore, 1) := by decide +kernel
theorem dX6_layPoints_247 : decode cX6_layPoints 247 = .ok (.iinc 2 1, 3) := by decide +kernel
theorem dX6_layPoints_250 : decode cX6_layPoints 250 = .ok (.goto (-248), 3) := by decide +kernel
theorem dX6_layPoints_253 : decode cX6_layPoints 253 = .ok (.return_, 1) := by decide +kernel
set_option maxRecDepth 20000 in
theorem ggX6_at_X6_isBody : GoodIn wsX6_at wsX6_isBody := goodIn_r _ [7, 8, 9, 6, 10] (by decide +kernel) (by decide +kernel)
set_option maxRecDepth 20000 in
theorem gX6_at_X6_isBody : GoodIn wsX6_at (va_wsS RX6 64 yX6_isBody wsX6_isBody) := goodIn_app (goodIn_of _ (by decide +kernel)) ggX6_at_X6_isBody
set_option maxRecDepth 20000 in
theorem ggX6_at_X6_isPoint : GoodIn wsX6_at wsX6_isPoint := goodIn_r _ [14, 15, 8, 9, 6, 10, 40, 41, 42, 43, 44, 45, 46, 47, 48, 49, 50, 51, 52, 53, 54, 55, 56, 57, 58, 59, 60, 61, 62, 63] (by decide +kernel) (by decide +kernel)
set_option maxRecDepth 20000 in
theorem gX6_at_X6_isPoint : GoodIn wsX6_at (wsV RX6 94 RX6 yX6_isPoint wsX6_isPoint) := goodIn_app (goodIn_of _ (by decide +kernel)) ggX6_at_X6_isPoint
set_option maxRecDepth 20000 in
theorem ggX6_at_X6_in : GoodIn wsX6_at wsX6_in := goodIn_r _ [10] (by decide +kernel) (by decide +kernel)
set_option maxRecDepth 20000 in
theorem gX6_at_X6_in : GoodIn wsX6_at (va_wsS RX6 56 yX6_in wsX6_in) := goodIn_app (goodIn_of _ (by decide +kernel)) ggX6_at_X6_in
set_option maxRecDepth 20000 in
theorem ggX6_at_X6_layPoints : GoodIn wsX6_at wsX6_layPoints := goodIn_r _ [19, 15, 20, 2, 3, 21, 22, 23, 6, 24, 25, 26, 27, 28, 29, 30, 31, 32, 33, 34, 35, 36, 37, 38, 39, 40, 41, 42, 43, 44, 45, 46, 47, 48, 49, 50, 51, 52, 53, 54, 55, 56, 57, 58, 59, 60, 61, 62, 63] (by decide +kernel) (by decide +kernel)
set_option maxRecDepth 20000 in
theorem gX6_at_X6_layPoints : GoodIn wsX6_at (wsV RX6 98 RX6 yX6_layPoints wsX6_layPoints) := goodIn_app (goodIn_of _ (by decide +kernel)) ggX6_at_X6_layPoints
theorem dX6_at_0 : decode cX6_at 0 = .ok (.iload_n 1, 1) := by decide +kernel
theorem dX6_at_1 : decode cX6_at 1 = .ok (.invokestatic 64, 3) := by decide +kernel
theorem dX6_at_4 : decode cX6_at 4 = .ok (.ifCond .eq 20, 3) := by decide +kernel
theorem dX6_at_7 : decode cX6_at 7 = .ok (.aload_n 0, 1) := by decide +kernel
theorem dX6_at_8 : decode cX6_at 8 = .ok (.iload_n 2, 1) := by decide +kernel
theorem dX6_at_9 : decode cX6_at 9 = .ok (.invokevirtual 94, 3) := by decide +kernel
theorem dX6_at_12 : decode cX6_at 12 = .ok (.ifCond .eq 12, 3) := by decide +kernel
theorem dX6_at_15 : decode cX6_at 15 = .ok (.iload_n 3, 1) := by decide +kernel
theorem dX6_at_16 : decode cX6_at 16 = .ok (.iconst 0, 1) := by decide +kernel
theorem dX6_at_17 : decode cX6_at 17 = .ok (.iconst 1, 1) := by decide +kernel
theorem dX6_at_18 : decode cX6_at 18 = .ok (.invokestatic 56, 3) := by decide +kernel
theorem dX6_at_21 : decode cX6_at 21 = .ok (.ifCond .ne 6, 3) := by decide +kernel
theorem dX6_at_24 : decode cX6_at 24 = .ok (.ldc 97, 2) := by decide +kernel
theorem dX6_at_26 : decode cX6_at 26 = .ok (.ireturn, 1) := by decide +kernel
theorem dX6_at_27 : decode cX6_at 27 = .ok (.aload_n 0, 1) := by decide +kernel
theorem dX6_at_28 : decode cX6_at 28 = .ok (.iload_n 1, 1) := by decide +kernel
theorem dX6_at_29 : decode cX6_at 29 = .ok (.invokevirtual 98, 3) := by decide +kernel
theorem dX6_at_32 : decode cX6_at 32 = .ok (.iload_n 3, 1) := by decide +kernel
theorem dX6_at_33 : decode cX6_at 33 = .ok (.ifCond .ne 12, 3) := by decide +kernel
theorem dX6_at_36 : decode cX6_at 36 = .ok (.aload_n 0, 1) := by decide +kernel
theorem dX6_at_37 : decode cX6_at 37 = .ok (.getfield 38, 3) := by decide +kernel
theorem dX6_at_40 : decode cX6_at 40 = .ok (.iload_n 2, 1) := by decide +kernel
theorem dX6_at_41 : decode cX6_at 41 = .ok (.iaload, 1) := by decide +kernel
theorem dX6_at_42 : decode cX6_at 42 = .ok (.goto 9, 3) := by decide +kernel
theorem dX6_at_45 : decode cX6_at 45 = .ok (.aload_n 0, 1) := by decide +kernel
theorem dX6_at_46 : decode cX6_at 46 = .ok (.getfield 41, 3) := by decide +kernel
theorem dX6_at_49 : decode cX6_at 49 = .ok (.iload_n 2, 1) := by decide +kernel
theorem dX6_at_50 : decode cX6_at 50 = .ok (.iaload, 1) := by decide +kernel
theorem dX6_at_51 : decode cX6_at 51 = .ok (.ireturn, 1) := by decide +kernel
set_option maxRecDepth 20000 in
theorem ggX6_piece_X6_isPoint : GoodIn wsX6_piece wsX6_isPoint := goodIn_r _ [8, 9, 10, 11, 7, 12, 13, 14, 15, 16, 17, 18, 19, 20, 21, 22, 23, 24, 25, 26, 27, 28, 29, 30, 31, 32, 33, 34, 35, 36] (by decide +kernel) (by decide +kernel)
set_option maxRecDepth 20000 in
theorem gX6_piece_X6_isPoint : GoodIn wsX6_piece (wsV RX6 94 RX6 yX6_isPoint wsX6_isPoint) := goodIn_app (goodIn_of _ (by decide +kernel)) ggX6_piece_X6_isPoint
theorem dX6_piece_0 : decode cX6_piece 0 = .ok (.aload_n 0, 1) := by decide +kernel
theorem dX6_piece_1 : decode cX6_piece 1 = .ok (.iload_n 1, 1) := by decide +kernel
theorem dX6_piece_2 : decode cX6_piece 2 = .ok (.invokevirtual 94, 3) := by decide +kernel
theorem dX6_piece_5 : decode cX6_piece 5 = .ok (.ifCond .eq 34, 3) := by decide +kernel
theorem dX6_piece_8 : decode cX6_piece 8 = .ok (.aload_n 0, 1) := by decide +kernel
theorem dX6_piece_9 : decode cX6_piece 9 = .ok (.iload_n 2, 1) := by decide +kernel
theorem dX6_piece_10 : decode cX6_piece 10 = .ok (.invokevirtual 94, 3) := by decide +kernel
theorem dX6_piece_13 : decode cX6_piece 13 = .ok (.ifCond .eq 26, 3) := by decide +kernel
theorem dX6_piece_16 : decode cX6_piece 16 = .ok (.aload_n 0, 1) := by decide +kernel
theorem dX6_piece_17 : decode cX6_piece 17 = .ok (.iload_n 3, 1) := by decide +kernel
theorem dX6_piece_18 : decode cX6_piece 18 = .ok (.invokevirtual 94, 3) := by decide +kernel
theorem dX6_piece_21 : decode cX6_piece 21 = .ok (.ifCond .eq 18, 3) := by decide +kernel
theorem dX6_piece_24 : decode cX6_piece 24 = .ok (.iload 4, 2) := by decide +kernel
theorem dX6_piece_26 : decode cX6_piece 26 = .ok (.iconst (-1), 1) := by decide +kernel
theorem dX6_piece_27 : decode cX6_piece 27 = .ok (.if_icmp .eq 15, 3) := by decide +kernel
theorem dX6_piece_30 : decode cX6_piece 30 = .ok (.aload_n 0, 1) := by decide +kernel
theorem dX6_piece_31 : decode cX6_piece 31 = .ok (.iload 4, 2) := by decide +kernel
theorem dX6_piece_33 : decode cX6_piece 33 = .ok (.invokevirtual 94, 3) := by decide +kernel
theorem dX6_piece_36 : decode cX6_piece 36 = .ok (.ifCond .ne 6, 3) := by decide +kernel
theorem dX6_piece_39 : decode cX6_piece 39 = .ok (.bipush (-2), 2) := by decide +kernel
theorem dX6_piece_41 : decode cX6_piece 41 = .ok (.ireturn, 1) := by decide +kernel
theorem dX6_piece_42 : decode cX6_piece 42 = .ok (.aload_n 0, 1) := by decide +kernel
theorem dX6_piece_43 : decode cX6_piece 43 = .ok (.getfield 102, 3) := by decide +kernel
theorem dX6_piece_46 : decode cX6_piece 46 = .ok (.bipush 7, 2) := by decide +kernel
theorem dX6_piece_48 : decode cX6_piece 48 = .ok (.if_icmp .ne 6, 3) := by decide +kernel
theorem dX6_piece_51 : decode cX6_piece 51 = .ok (.bipush (-4), 2) := by decide +kernel
theorem dX6_piece_53 : decode cX6_piece 53 = .ok (.ireturn, 1) := by decide +kernel
theorem dX6_piece_54 : decode cX6_piece 54 = .ok (.bipush 8, 2) := by decide +kernel
theorem dX6_piece_56 : decode cX6_piece 56 = .ok (.aload_n 0, 1) := by decide +kernel
theorem dX6_piece_57 : decode cX6_piece 57 = .ok (.getfield 102, 3) := by decide +kernel
theorem dX6_piece_60 : decode cX6_piece 60 = .ok (.imul, 1) := by decide +kernel
theorem dX6_piece_61 : decode cX6_piece 61 = .ok (.istore 5, 2) := by decide +kernel
theorem dX6_piece_63 : decode cX6_piece 63 = .ok (.aload_n 0, 1) := by decide +kernel
theorem dX6_piece_64 : decode cX6_piece 64 = .ok (.getfield 22, 3) := by decide +kernel
theorem dX6_piece_67 : decode cX6_piece 67 = .ok (.iload 5, 2) := by decide +kernel
theorem dX6_piece_69 : decode cX6_piece 69 = .ok (.iload_n 1, 1) := by decide +kernel
theorem dX6_piece_70 : decode cX6_piece 70 = .ok (.iastore, 1) := by decide +kernel
theorem dX6_piece_71 : decode cX6_piece 71 = .ok (.aload_n 0, 1) := by decide +kernel
theorem dX6_piece_72 : decode cX6_piece 72 = .ok (.getfield 22, 3) := by decide +kernel
theorem dX6_piece_75 : decode cX6_piece 75 = .ok (.iload 5, 2) := by decide +kernel
theorem dX6_piece_77 : decode cX6_piece 77 = .ok (.iconst 1, 1) := by decide +kernel
theorem dX6_piece_78 : decode cX6_piece 78 = .ok (.iadd, 1) := by decide +kernel
theorem dX6_piece_79 : decode cX6_piece 79 = .ok (.iload_n 2, 1) := by decide +kernel
theorem dX6_piece_80 : decode cX6_piece 80 = .ok (.iastore, 1) := by decide +kernel
theorem dX6_piece_81 : decode cX6_piece 81 = .ok (.aload_n 0, 1) := by decide +kernel
theorem dX6_piece_82 : decode cX6_piece 82 = .ok (.getfield 22, 3) := by decide +kernel
theorem dX6_piece_85 : decode cX6_piece 85 = .ok (.iload 5, 2) := by decide +kernel
theorem dX6_piece_87 : decode cX6_piece 87 = .ok (.iconst 2, 1) := by decide +kernel
theorem dX6_piece_88 : decode cX6_piece 88 = .ok (.iadd, 1) := by decide +kernel
theorem dX6_piece_89 : decode cX6_piece 89 = .ok (.iload_n 3, 1) := by decide +kernel
theorem dX6_piece_90 : decode cX6_piece 90 = .ok (.iastore, 1) := by decide +kernel
theorem dX6_piece_91 : decode cX6_piece 91 = .ok (.aload_n 0, 1) := by decide +kernel
theorem dX6_piece_92 : decode cX6_piece 92 = .ok (.getfield 22, 3) := by decide +kernel
theorem dX6_piece_95 : decode cX6_piece 95 = .ok (.iload 5, 2) := by decide +kernel
theorem dX6_piece_97 : decode cX6_piece 97 = .ok (.iconst 3, 1) := by decide +kernel
theorem dX6_piece_98 : decode cX6_piece 98 = .ok (.iadd, 1) := by decide +kernel
theorem dX6_piece_99 : decode cX6_piece 99 = .ok (.iload 4, 2) := by decide +kernel
theorem dX6_piece_101 : decode cX6_piece 101 = .ok (.iastore, 1) := by decide +kernel
theorem dX6_piece_102 : decode cX6_piece 102 = .ok (.aload_n 0, 1) := by decide +kernel
theorem dX6_piece_103 : decode cX6_piece 103 = .ok (.getfield 19, 3) := by decide +kernel
theorem dX6_piece_106 : decode cX6_piece 106 = .ok (.aload_n 0, 1) := by decide +kernel
theorem dX6_piece_107 : decode cX6_piece 107 = .ok (.getfield 102, 3) := by decide +kernel
theorem dX6_piece_110 : decode cX6_piece 110 = .ok (.iload 4, 2) := by decide +kernel
theorem dX6_piece_112 : decode cX6_piece 112 = .ok (.iconst (-1), 1) := by decide +kernel
theorem dX6_piece_113 : decode cX6_piece 113 = .ok (.if_icmp .ne 7, 3) := by decide +kernel
theorem dX6_piece_116 : decode cX6_piece 116 = .ok (.iconst 3, 1) := by decide +kernel
theorem dX6_piece_117 : decode cX6_piece 117 = .ok (.goto 4, 3) := by decide +kernel
theorem dX6_piece_120 : decode cX6_piece 120 = .ok (.iconst 4, 1) := by decide +kernel
theorem dX6_piece_121 : decode cX6_piece 121 = .ok (.iastore, 1) := by decide +kernel
theorem dX6_piece_122 : decode cX6_piece 122 = .ok (.aload_n 0, 1) := by decide +kernel
theorem dX6_piece_123 : decode cX6_piece 123 = .ok (.dup, 1) := by decide +kernel
theorem dX6_piece_124 : decode cX6_piece 124 = .ok (.getfield 102, 3) := by decide +kernel
theorem dX6_piece_127 : decode cX6_piece 127 = .ok (.iconst 1, 1) := by decide +kernel
theorem dX6_piece_128 : decode cX6_piece 128 = .ok (.iadd, 1) := by decide +kernel
theorem dX6_piece_129 : decode cX6_piece 129 = .ok (.putfield 102, 3) := by decide +kernel
theorem dX6_piece_132 : decode cX6_piece 132 = .ok (.aload_n 0, 1) := by decide +kernel
theorem dX6_piece_133 : decode cX6_piece 133 = .ok (.getfield 102, 3) := by decide +kernel
theorem dX6_piece_136 : decode cX6_piece 136 = .ok (.iconst 1, 1) := by decide +kernel
theorem dX6_piece_137 : decode cX6_piece 137 = .ok (.isub, 1) := by decide +kernel
theorem dX6_piece_138 : decode cX6_piece 138 = .ok (.ireturn, 1) := by decide +kernel
set_option maxRecDepth 20000 in
theorem ggX6_isPiece_X6_in : GoodIn wsX6_isPiece wsX6_in := goodIn_r _ [5] (by decide +kernel) (by decide +kernel)
set_option maxRecDepth 20000 in
theorem gX6_isPiece_X6_in : GoodIn wsX6_isPiece (va_wsS RX6 56 yX6_in wsX6_in) := goodIn_app (goodIn_of _ (by decide +kernel)) ggX6_isPiece_X6_in
theorem dX6_isPiece_0 : decode cX6_isPiece 0 = .ok (.iload_n 1, 1) := by decide +kernel
theorem dX6_isPiece_1 : decode cX6_isPiece 1 = .ok (.iconst 0, 1) := by decide +kernel
theorem dX6_isPiece_2 : decode cX6_isPiece 2 = .ok (.aload_n 0, 1) := by decide +kernel
theorem dX6_isPiece_3 : decode cX6_isPiece 3 = .ok (.getfield 102, 3) := by decide +kernel
theorem dX6_isPiece_6 : decode cX6_isPiece 6 = .ok (.iconst 1, 1) := by decide +kernel
theorem dX6_isPiece_7 : decode cX6_isPiece 7 = .ok (.isub, 1) := by decide +kernel
theorem dX6_isPiece_8 : decode cX6_isPiece 8 = .ok (.invokestatic 56, 3) := by decide +kernel
theorem dX6_isPiece_11 : decode cX6_isPiece 11 = .ok (.ireturn, 1) := by decide +kernel
set_option maxRecDepth 20000 in
theorem ggX6_more_X6_isPiece : GoodIn wsX6_more wsX6_isPiece := goodIn_r _ [7, 8, 9, 10, 6, 11, 17, 18, 19, 20, 21, 22, 23, 24, 25, 26, 27, 28, 29, 30, 31, 32, 33, 34, 35, 36, 37, 38, 39, 40] (by decide +kernel) (by decide +kernel)
set_option maxRecDepth 20000 in
theorem gX6_more_X6_isPiece : GoodIn wsX6_more (wsV RX6 105 RX6 yX6_isPiece wsX6_isPiece) := goodIn_app (goodIn_of _ (by decide +kernel)) ggX6_more_X6_isPiece
set_option maxRecDepth 20000 in
theorem ggX6_more_X6_isPoint : GoodIn wsX6_more wsX6_isPoint := goodIn_r _ [15, 16, 9, 10, 6, 11, 17, 18, 19, 20, 21, 22, 23, 24, 25, 26, 27, 28, 29, 30, 31, 32, 33, 34, 35, 36, 37, 38, 39, 40] (by decide +kernel) (by decide +kernel)
set_option maxRecDepth 20000 in
theorem gX6_more_X6_isPoint : GoodIn wsX6_more (wsV RX6 94 RX6 yX6_isPoint wsX6_isPoint) := goodIn_app (goodIn_of _ (by decide +kernel)) ggX6_more_X6_isPoint
theorem dX6_more_0 : decode cX6_more 0 = .ok (.aload_n 0, 1) := by decide +kernel
theorem dX6_more_1 : decode cX6_more 1 = .ok (.iload_n 1, 1) := by decide +kernel
theorem dX6_more_2 : decode cX6_more 2 = .ok (.invokevirtual 105, 3) := by decide +kernel
theorem dX6_more_5 : decode cX6_more 5 = .ok (.ifCond .eq 11, 3) := by decide +kernel
theorem dX6_more_8 : decode cX6_more 8 = .ok (.aload_n 0, 1) := by decide +kernel
theorem dX6_more_9 : decode cX6_more 9 = .ok (.iload_n 2, 1) := by decide +kernel
theorem dX6_more_10 : decode cX6_more 10 = .ok (.invokevirtual 94, 3) := by decide +kernel
theorem dX6_more_13 : decode cX6_more 13 = .ok (.ifCond .ne 6, 3) := by decide +kernel
theorem dX6_more_16 : decode cX6_more 16 = .ok (.bipush (-2), 2) := by decide +kernel
theorem dX6_more_18 : decode cX6_more 18 = .ok (.ireturn, 1) := by decide +kernel
theorem dX6_more_19 : decode cX6_more 19 = .ok (.aload_n 0, 1) := by decide +kernel
theorem dX6_more_20 : decode cX6_more 20 = .ok (.getfield 19, 3) := by decide +kernel
theorem dX6_more_23 : decode cX6_more 23 = .ok (.iload_n 1, 1) := by decide +kernel
theorem dX6_more_24 : decode cX6_more 24 = .ok (.iaload, 1) := by decide +kernel
theorem dX6_more_25 : decode cX6_more 25 = .ok (.bipush 8, 2) := by decide +kernel
theorem dX6_more_27 : decode cX6_more 27 = .ok (.if_icmp .ne 6, 3) := by decide +kernel
theorem dX6_more_30 : decode cX6_more 30 = .ok (.bipush (-4), 2) := by decide +kernel
theorem dX6_more_32 : decode cX6_more 32 = .ok (.ireturn, 1) := by decide +kernel
theorem dX6_more_33 : decode cX6_more 33 = .ok (.aload_n 0, 1) := by decide +kernel
theorem dX6_more_34 : decode cX6_more 34 = .ok (.getfield 22, 3) := by decide +kernel
theorem dX6_more_37 : decode cX6_more 37 = .ok (.bipush 8, 2) := by decide +kernel
theorem dX6_more_39 : decode cX6_more 39 = .ok (.iload_n 1, 1) := by decide +kernel
theorem dX6_more_40 : decode cX6_more 40 = .ok (.imul, 1) := by decide +kernel
theorem dX6_more_41 : decode cX6_more 41 = .ok (.aload_n 0, 1) := by decide +kernel
theorem dX6_more_42 : decode cX6_more 42 = .ok (.getfield 19, 3) := by decide +kernel
theorem dX6_more_45 : decode cX6_more 45 = .ok (.iload_n 1, 1) := by decide +kernel
theorem dX6_more_46 : decode cX6_more 46 = .ok (.iaload, 1) := by decide +kernel
theorem dX6_more_47 : decode cX6_more 47 = .ok (.iadd, 1) := by decide +kernel
theorem dX6_more_48 : decode cX6_more 48 = .ok (.iload_n 2, 1) := by decide +kernel
theorem dX6_more_49 : decode cX6_more 49 = .ok (.iastore, 1) := by decide +kernel
theorem dX6_more_50 : decode cX6_more 50 = .ok (.aload_n 0, 1) := by decide +kernel
theorem dX6_more_51 : decode cX6_more 51 = .ok (.getfield 19, 3) := by decide +kernel
theorem dX6_more_54 : decode cX6_more 54 = .ok (.iload_n 1, 1) := by decide +kernel
theorem dX6_more_55 : decode cX6_more 55 = .ok (.dup2, 1) := by decide +kernel
theorem dX6_more_56 : decode cX6_more 56 = .ok (.iaload, 1) := by decide +kernel
theorem dX6_more_57 : decode cX6_more 57 = .ok (.iconst 1, 1) := by decide +kernel
theorem dX6_more_58 : decode cX6_more 58 = .ok (.iadd, 1) := by decide +kernel
theorem dX6_more_59 : decode cX6_more 59 = .ok (.iastore, 1) := by decide +kernel
theorem dX6_more_60 : decode cX6_more 60 = .ok (.aload_n 0, 1) := by decide +kernel
theorem dX6_more_61 : decode cX6_more 61 = .ok (.getfield 19, 3) := by decide +kernel
theorem dX6_more_64 : decode cX6_more 64 = .ok (.iload_n 1, 1) := by decide +kernel
theorem dX6_more_65 : decode cX6_more 65 = .ok (.iaload, 1) := by decide +kernel
theorem dX6_more_66 : decode cX6_more 66 = .ok (.ireturn, 1) := by decide +kernel
set_option maxRecDepth 20000 in
theorem ggX6_isSide_X6_isPiece : GoodIn wsX6_isSide wsX6_isPiece := goodIn_r _ [6, 7, 8, 9, 5, 10, 11, 12, 13, 14, 15, 16, 17, 18, 19, 20, 21, 22, 23, 24, 25, 26, 27, 28, 29, 30, 31, 32, 33, 34] (by decide +kernel) (by decide +kernel)
set_option maxRecDepth 20000 in
theorem gX6_isSide_X6_isPiece : GoodIn wsX6_isSide (wsV RX6 105 RX6 yX6_isPiece wsX6_isPiece) := goodIn_app (goodIn_of _ (by decide +kernel)) ggX6_isSide_X6_isPiece
set_option maxRecDepth 20000 in
theorem ggX6_isSide_X6_in : GoodIn wsX6_isSide wsX6_in := goodIn_r _ [10] (by decide +kernel) (by decide +kernel)
set_option maxRecDepth 20000 in
theorem gX6_isSide_X6_in : GoodIn wsX6_isSide (va_wsS RX6 56 yX6_in wsX6_in) := goodIn_app (goodIn_of _ (by decide +kernel)) ggX6_isSide_X6_in
theorem dX6_isSide_0 : decode cX6_isSide 0 = .ok (.aload_n 0, 1) := by decide +kernel
theorem dX6_isSide_1 : decode cX6_isSide 1 = .ok (.iload_n 1, 1) := by decide +kernel
theorem dX6_isSide_2 : decode cX6_isSide 2 = .ok (.invokevirtual 105, 3) := by decide +kernel
theorem dX6_isSide_5 : decode cX6_isSide 5 = .ok (.ifCond .eq 23, 3) := by decide +kernel
theorem dX6_isSide_8 : decode cX6_isSide 8 = .ok (.iload_n 2, 1) := by decide +kernel
theorem dX6_isSide_9 : decode cX6_isSide 9 = .ok (.iconst 0, 1) := by decide +kernel
theorem dX6_isSide_10 : decode cX6_isSide 10 = .ok (.aload_n 0, 1) := by decide +kernel
theorem dX6_isSide_11 : decode cX6_isSide 11 = .ok (.getfield 19, 3) := by decide +kernel
theorem dX6_isSide_14 : decode cX6_isSide 14 = .ok (.iload_n 1, 1) := by decide +kernel
theorem dX6_isSide_15 : decode cX6_isSide 15 = .ok (.iaload, 1) := by decide +kernel
theorem dX6_isSide_16 : decode cX6_isSide 16 = .ok (.iconst 1, 1) := by decide +kernel
theorem dX6_isSide_17 : decode cX6_isSide 17 = .ok (.isub, 1) := by decide +kernel
theorem dX6_isSide_18 : decode cX6_isSide 18 = .ok (.invokestatic 56, 3) := by decide +kernel
theorem dX6_isSide_21 : decode cX6_isSide 21 = .ok (.ifCond .eq 7, 3) := by decide +kernel
theorem dX6_isSide_24 : decode cX6_isSide 24 = .ok (.iconst 1, 1) := by decide +kernel
theorem dX6_isSide_25 : decode cX6_isSide 25 = .ok (.goto 4, 3) := by decide +kernel
theorem dX6_isSide_28 : decode cX6_isSide 28 = .ok (.iconst 0, 1) := by decide +kernel
theorem dX6_isSide_29 : decode cX6_isSide 29 = .ok (.ireturn, 1) := by decide +kernel
theorem dX6_lengthOf_0 : decode cX6_lengthOf 0 = .ok (.aload_n 0, 1) := by decide +kernel
theorem dX6_lengthOf_1 : decode cX6_lengthOf 1 = .ok (.getfield 22, 3) := by decide +kernel
theorem dX6_lengthOf_4 : decode cX6_lengthOf 4 = .ok (.bipush 8, 2) := by decide +kernel
theorem dX6_lengthOf_6 : decode cX6_lengthOf 6 = .ok (.iload_n 1, 1) := by decide +kernel
theorem dX6_lengthOf_7 : decode cX6_lengthOf 7 = .ok (.imul, 1) := by decide +kernel
theorem dX6_lengthOf_8 : decode cX6_lengthOf 8 = .ok (.iload_n 2, 1) := by decide +kernel
theorem dX6_lengthOf_9 : decode cX6_lengthOf 9 = .ok (.iadd, 1) := by decide +kernel
theorem dX6_lengthOf_10 : decode cX6_lengthOf 10 = .ok (.iaload, 1) := by decide +kernel
theorem dX6_lengthOf_11 : decode cX6_lengthOf 11 = .ok (.istore_n 3, 1) := by decide +kernel
theorem dX6_lengthOf_12 : decode cX6_lengthOf 12 = .ok (.aload_n 0, 1) := by decide +kernel
theorem dX6_lengthOf_13 : decode cX6_lengthOf 13 = .ok (.getfield 22, 3) := by decide +kernel
theorem dX6_lengthOf_16 : decode cX6_lengthOf 16 = .ok (.bipush 8, 2) := by decide +kernel
theorem dX6_lengthOf_18 : decode cX6_lengthOf 18 = .ok (.iload_n 1, 1) := by decide +kernel
theorem dX6_lengthOf_19 : decode cX6_lengthOf 19 = .ok (.imul, 1) := by decide +kernel
theorem dX6_lengthOf_20 : decode cX6_lengthOf 20 = .ok (.iload_n 2, 1) := by decide +kernel
theorem dX6_lengthOf_21 : decode cX6_lengthOf 21 = .ok (.iconst 1, 1) := by decide +kernel
theorem dX6_lengthOf_22 : decode cX6_lengthOf 22 = .ok (.iadd, 1) := by decide +kernel
theorem dX6_lengthOf_23 : decode cX6_lengthOf 23 = .ok (.aload_n 0, 1) := by decide +kernel
theorem dX6_lengthOf_24 : decode cX6_lengthOf 24 = .ok (.getfield 19, 3) := by decide +kernel
theorem dX6_lengthOf_27 : decode cX6_lengthOf 27 = .ok (.iload_n 1, 1) := by decide +kernel
theorem dX6_lengthOf_28 : decode cX6_lengthOf 28 = .ok (.iaload, 1) := by decide +kernel
theorem dX6_lengthOf_29 : decode cX6_lengthOf 29 = .ok (.irem, 1) := by decide +kernel
theorem dX6_lengthOf_30 : decode cX6_lengthOf 30 = .ok (.iadd, 1) := by decide +kernel
theorem dX6_lengthOf_31 : decode cX6_lengthOf 31 = .ok (.iaload, 1) := by decide +kernel
theorem dX6_lengthOf_32 : decode cX6_lengthOf 32 = .ok (.istore 4, 2) := by decide +kernel
theorem dX6_lengthOf_34 : decode cX6_lengthOf 34 = .ok (.aload_n 0, 1) := by decide +kernel
theorem dX6_lengthOf_35 : decode cX6_lengthOf 35 = .ok (.getfield 38, 3) := by decide +kernel
theorem dX6_lengthOf_38 : decode cX6_lengthOf 38 = .ok (.iload 4, 2) := by decide +kernel
theorem dX6_lengthOf_40 : decode cX6_lengthOf 40 = .ok (.iaload, 1) := by decide +kernel
theorem dX6_lengthOf_41 : decode cX6_lengthOf 41 = .ok (.aload_n 0, 1) := by decide +kernel
theorem dX6_lengthOf_42 : decode cX6_lengthOf 42 = .ok (.getfield 38, 3) := by decide +kernel
theorem dX6_lengthOf_45 : decode cX6_lengthOf 45 = .ok (.iload_n 3, 1) := by decide +kernel
theorem dX6_lengthOf_46 : decode cX6_lengthOf 46 = .ok (.iaload, 1) := by decide +kernel
theorem dX6_lengthOf_47 : decode cX6_lengthOf 47 = .ok (.isub, 1) := by decide +kernel
theorem dX6_lengthOf_48 : decode cX6_lengthOf 48 = .ok (.i2l, 1) := by decide +kernel
theorem dX6_lengthOf_49 : decode cX6_lengthOf 49 = .ok (.lstore 5, 2) := by decide +kernel
theorem dX6_lengthOf_51 : decode cX6_lengthOf 51 = .ok (.aload_n 0, 1) := by decide +kernel
theorem dX6_lengthOf_52 : decode cX6_lengthOf 52 = .ok (.getfield 41, 3) := by decide +kernel
theorem dX6_lengthOf_55 : decode cX6_lengthOf 55 = .ok (.iload 4, 2) := by decide +kernel
theorem dX6_lengthOf_57 : decode cX6_lengthOf 57 = .ok (.iaload, 1) := by decide +kernel
theorem dX6_lengthOf_58 : decode cX6_lengthOf 58 = .ok (.aload_n 0, 1) := by decide +kernel
theorem dX6_lengthOf_59 : decode cX6_lengthOf 59 = .ok (.getfield 41, 3) := by decide +kernel
theorem dX6_lengthOf_62 : decode cX6_lengthOf 62 = .ok (.iload_n 3, 1) := by decide +kernel
theorem dX6_lengthOf_63 : decode cX6_lengthOf 63 = .ok (.iaload, 1) := by decide +kernel
theorem dX6_lengthOf_64 : decode cX6_lengthOf 64 = .ok (.isub, 1) := by decide +kernel
theorem dX6_lengthOf_65 : decode cX6_lengthOf 65 = .ok (.i2l, 1) := by decide +kernel
theorem dX6_lengthOf_66 : decode cX6_lengthOf 66 = .ok (.lstore 7, 2) := by decide +kernel
theorem dX6_lengthOf_68 : decode cX6_lengthOf 68 = .ok (.ldc2_w 108, 3) := by decide +kernel
theorem dX6_lengthOf_71 : decode cX6_lengthOf 71 = .ok (.lload 5, 2) := by decide +kernel
theorem dX6_lengthOf_73 : decode cX6_lengthOf 73 = .ok (.lload 5, 2) := by decide +kernel
theorem dX6_lengthOf_75 : decode cX6_lengthOf 75 = .ok (.lmul, 1) := by decide +kernel
theorem dX6_lengthOf_76 : decode cX6_lengthOf 76 = .ok (.lload 7, 2) := by decide +kernel
theorem dX6_lengthOf_78 : decode cX6_lengthOf 78 = .ok (.lload 7, 2) := by decide +kernel
theorem dX6_lengthOf_80 : decode cX6_lengthOf 80 = .ok (.lmul, 1) := by decide +kernel
theorem dX6_lengthOf_81 : decode cX6_lengthOf 81 = .ok (.ladd, 1) := by decide +kernel
theorem dX6_lengthOf_82 : decode cX6_lengthOf 82 = .ok (.lmul, 1) := by decide +kernel
theorem dX6_lengthOf_83 : decode cX6_lengthOf 83 = .ok (.lstore 9, 2) := by decide +kernel
theorem dX6_lengthOf_85 : decode cX6_lengthOf 85 = .ok (.lconst 0, 1) := by decide +kernel
theorem dX6_lengthOf_86 : decode cX6_lengthOf 86 = .ok (.lstore 11, 2) := by decide +kernel
theorem dX6_lengthOf_88 : decode cX6_lengthOf 88 = .ok (.ldc2_w 110, 3) := by decide +kernel
theorem dX6_lengthOf_91 : decode cX6_lengthOf 91 = .ok (.lstore 13, 2) := by decide +kernel
theorem dX6_lengthOf_93 : decode cX6_lengthOf 93 = .ok (.lload 13, 2) := by decide +kernel
theorem dX6_lengthOf_95 : decode cX6_lengthOf 95 = .ok (.lload 11, 2) := by decide +kernel
theorem dX6_lengthOf_97 : decode cX6_lengthOf 97 = .ok (.lsub, 1) := by decide +kernel
theorem dX6_lengthOf_98 : decode cX6_lengthOf 98 = .ok (.lconst 1, 1) := by decide +kernel
theorem dX6_lengthOf_99 : decode cX6_lengthOf 99 = .ok (.lcmp, 1) := by decide +kernel
theorem dX6_lengthOf_100 : decode cX6_lengthOf 100 = .ok (.ifCond .le 39, 3) := by decide +kernel
theorem dX6_lengthOf_103 : decode cX6_lengthOf 103 = .ok (.lload 11, 2) := by decide +kernel
theorem dX6_lengthOf_105 : decode cX6_lengthOf 105 = .ok (.lload 13, 2) := by decide +kernel
theorem dX6_lengthOf_107 : decode cX6_lengthOf 107 = .ok (.ladd, 1) := by decide +kernel
theorem dX6_lengthOf_108 : decode cX6_lengthOf 108 = .ok (.ldc2_w 112, 3) := by decide +kernel
theorem dX6_lengthOf_111 : decode cX6_lengthOf 111 = .ok (.ldiv, 1) := by decide +kernel
theorem dX6_lengthOf_112 : decode cX6_lengthOf 112 = .ok (.lstore 15, 2) := by decide +kernel
theorem dX6_lengthOf_114 : decode cX6_lengthOf 114 = .ok (.lload 15, 2) := by decide +kernel
theorem dX6_lengthOf_116 : decode cX6_lengthOf 116 = .ok (.lload 15, 2) := by decide +kernel
theorem dX6_lengthOf_118 : decode cX6_lengthOf 118 = .ok (.lmul, 1) := by decide +kernel
theorem dX6_lengthOf_119 : decode cX6_lengthOf 119 = .ok (.lload 9, 2) := by decide +kernel
theorem dX6_lengthOf_121 : decode cX6_lengthOf 121 = .ok (.lcmp, 1) := by decide +kernel
theorem dX6_lengthOf_122 : decode cX6_lengthOf 122 = .ok (.ifCond .gt 10, 3) := by decide +kernel
theorem dX6_lengthOf_125 : decode cX6_lengthOf 125 = .ok (.lload 15, 2) := by decide +kernel
theorem dX6_lengthOf_127 : decode cX6_lengthOf 127 = .ok (.lstore 11, 2) := by decide +kernel
theorem dX6_lengthOf_129 : decode cX6_lengthOf 129 = .ok (.goto 7, 3) := by decide +kernel
theorem dX6_lengthOf_132 : decode cX6_lengthOf 132 = .ok (.lload 15, 2) := by decide +kernel
theorem dX6_lengthOf_134 : decode cX6_lengthOf 134 = .ok (.lstore 13, 2) := by decide +kernel
theorem dX6_lengthOf_136 : decode cX6_lengthOf 136 = .ok (.goto (-43), 3) := by decide +kernel
theorem dX6_lengthOf_139 : decode cX6_lengthOf 139 = .ok (.lload 11, 2) := by decide +kernel
theorem dX6_lengthOf_141 : decode cX6_lengthOf 141 = .ok (.l2i, 1) := by decide +kernel
theorem dX6_lengthOf_142 : decode cX6_lengthOf 142 = .ok (.ireturn, 1) := by decide +kernel
set_option maxRecDepth 20000 in
theorem ggX6_length_X6_isBody : GoodIn wsX6_length wsX6_isBody := goodIn_r _ [4, 5, 6, 3, 7] (by decide +kernel) (by decide +kernel)
set_option maxRecDepth 20000 in
theorem gX6_length_X6_isBody : GoodIn wsX6_length (va_wsS RX6 64 yX6_isBody wsX6_isBody) := goodIn_app (goodIn_of _ (by decide +kernel)) ggX6_length_X6_isBody
set_option maxRecDepth 20000 in
theorem ggX6_length_X6_isSide : GoodIn wsX6_length wsX6_isSide := goodIn_r _ [11, 12, 13, 14, 15, 3, 16, 17, 5, 6, 7, 53, 54, 55, 56, 57, 58, 59, 60, 61, 62, 63, 64, 65, 66, 67, 68, 69, 70, 71, 72, 73, 74, 75, 76] (by decide +kernel) (by decide +kernel)
set_option maxRecDepth 20000 in
theorem gX6_length_X6_isSide : GoodIn wsX6_length (wsV RX6 114 RX6 yX6_isSide wsX6_isSide) := goodIn_app (goodIn_of _ (by decide +kernel)) ggX6_length_X6_isSide
set_option maxRecDepth 20000 in
theorem ggX6_length_X6_layPoints : GoodIn wsX6_length wsX6_layPoints := goodIn_r _ [21, 22, 23, 24, 25, 26, 27, 28, 3, 29, 30, 31, 32, 33, 34, 35, 36, 37, 38, 39, 40, 41, 42, 43, 44, 53, 54, 55, 56, 57, 58, 59, 60, 61, 62, 63, 64, 65, 66, 67, 68, 69, 70, 71, 72, 73, 74, 75, 76] (by decide +kernel) (by decide +kernel)
set_option maxRecDepth 20000 in
theorem gX6_length_X6_layPoints : GoodIn wsX6_length (wsV RX6 98 RX6 yX6_layPoints wsX6_layPoints) := goodIn_app (goodIn_of _ (by decide +kernel)) ggX6_length_X6_layPoints
set_option maxRecDepth 20000 in
theorem ggX6_length_X6_lengthOf : GoodIn wsX6_length wsX6_lengthOf := goodIn_r _ [48, 49, 12, 24, 25, 50, 51, 52, 53, 54, 55, 56, 57, 58, 59, 60, 61, 62, 63, 64, 65, 66, 67, 68, 69, 70, 71, 72, 73, 74, 75, 76] (by decide +kernel) (by decide +kernel)
set_option maxRecDepth 20000 in
theorem gX6_length_X6_lengthOf : GoodIn wsX6_length (wsV RX6 118 RX6 yX6_lengthOf wsX6_lengthOf) := goodIn_app (goodIn_of _ (by decide +kernel)) ggX6_length_X6_lengthOf
theorem dX6_length_0 : decode cX6_length 0 = .ok (.iload_n 1, 1) := by decide +kernel
theorem dX6_length_1 : decode cX6_length 1 = .ok (.invokestatic 64, 3) := by decide +kernel
theorem dX6_length_4 : decode cX6_length 4 = .ok (.ifCond .eq 12, 3) := by decide +kernel
theorem dX6_length_7 : decode cX6_length 7 = .ok (.aload_n 0, 1) := by decide +kernel
theorem dX6_length_8 : decode cX6_length 8 = .ok (.iload_n 2, 1) := by decide +kernel
theorem dX6_length_9 : decode cX6_length 9 = .ok (.iload_n 3, 1) := by decide +kernel
theorem dX6_length_10 : decode cX6_length 10 = .ok (.invokevirtual 114, 3) := by decide +kernel
theorem dX6_length_13 : decode cX6_length 13 = .ok (.ifCond .ne 6, 3) := by decide +kernel
theorem dX6_length_16 : decode cX6_length 16 = .ok (.bipush (-2), 2) := by decide +kernel
theorem dX6_length_18 : decode cX6_length 18 = .ok (.ireturn, 1) := by decide +kernel
theorem dX6_length_19 : decode cX6_length 19 = .ok (.aload_n 0, 1) := by decide +kernel
theorem dX6_length_20 : decode cX6_length 20 = .ok (.iload_n 1, 1) := by decide +kernel
theorem dX6_length_21 : decode cX6_length 21 = .ok (.invokevirtual 98, 3) := by decide +kernel
theorem dX6_length_24 : decode cX6_length 24 = .ok (.aload_n 0, 1) := by decide +kernel
theorem dX6_length_25 : decode cX6_length 25 = .ok (.iload_n 2, 1) := by decide +kernel
theorem dX6_length_26 : decode cX6_length 26 = .ok (.iload_n 3, 1) := by decide +kernel
theorem dX6_length_27 : decode cX6_length 27 = .ok (.invokevirtual 118, 3) := by decide +kernel
theorem dX6_length_30 : decode cX6_length 30 = .ok (.ireturn, 1) := by decide +kernel
set_option maxRecDepth 20000 in
theorem ggX6_area_X6_isBody : GoodIn wsX6_area wsX6_isBody := goodIn_r _ [9, 10, 11, 8, 12] (by decide +kernel) (by decide +kernel)
set_option maxRecDepth 20000 in
theorem gX6_area_X6_isBody : GoodIn wsX6_area (va_wsS RX6 64 yX6_isBody wsX6_isBody) := goodIn_app (goodIn_of _ (by decide +kernel)) ggX6_area_X6_isBody
set_option maxRecDepth 20000 in
theorem ggX6_area_X6_isPiece : GoodIn wsX6_area wsX6_isPiece := goodIn_r _ [16, 17, 10, 11, 8, 12, 43, 44, 45, 46, 47, 48, 49, 50, 51, 52, 53, 54, 55, 56, 57, 58, 59, 60, 61, 62, 63, 64, 65, 66] (by decide +kernel) (by decide +kernel)
set_option maxRecDepth 20000 in
theorem gX6_area_X6_isPiece : GoodIn wsX6_area (wsV RX6 105 RX6 yX6_isPiece wsX6_isPiece) := goodIn_app (goodIn_of _ (by decide +kernel)) ggX6_area_X6_isPiece
set_option maxRecDepth 20000 in
theorem ggX6_area_X6_layPoints : GoodIn wsX6_area wsX6_layPoints := goodIn_r _ [21, 22, 23, 4, 5, 24, 25, 26, 8, 27, 28, 29, 30, 31, 32, 33, 34, 35, 36, 37, 38, 39, 40, 41, 42, 43, 44, 45, 46, 47, 48, 49, 50, 51, 52, 53, 54, 55, 56, 57, 58, 59, 60, 61, 62, 63, 64, 65, 66] (by decide +kernel) (by decide +kernel)
set_option maxRecDepth 20000 in
theorem gX6_area_X6_layPoints : GoodIn wsX6_area (wsV RX6 98 RX6 yX6_layPoints wsX6_layPoints) := goodIn_app (goodIn_of _ (by decide +kernel)) ggX6_area_X6_layPoints
theorem dX6_area_0 : decode cX6_area 0 = .ok (.iload_n 1, 1) := by decide +kernel
theorem dX6_area_1 : decode cX6_area 1 = .ok (.invokestatic 64, 3) := by decide +kernel
theorem dX6_area_4 : decode cX6_area 4 = .ok (.ifCond .eq 11, 3) := by decide +kernel
theorem dX6_area_7 : decode cX6_area 7 = .ok (.aload_n 0, 1) := by decide +kernel
theorem dX6_area_8 : decode cX6_area 8 = .ok (.iload_n 2, 1) := by decide +kernel
theorem dX6_area_9 : decode cX6_area 9 = .ok (.invokevirtual 105, 3) := by decide +kernel
theorem dX6_area_12 : decode cX6_area 12 = .ok (.ifCond .ne 7, 3) := by decide +kernel
theorem dX6_area_15 : decode cX6_area 15 = .ok (.ldc2_w 121, 3) := by decide +kernel
theorem dX6_area_18 : decode cX6_area 18 = .ok (.lreturn, 1) := by decide +kernel
theorem dX6_area_19 : decode cX6_area 19 = .ok (.aload_n 0, 1) := by decide +kernel
theorem dX6_area_20 : decode cX6_area 20 = .ok (.iload_n 1, 1) := by decide +kernel
theorem dX6_area_21 : decode cX6_area 21 = .ok (.invokevirtual 98, 3) := by decide +kernel
theorem dX6_area_24 : decode cX6_area 24 = .ok (.lconst 0, 1) := by decide +kernel
theorem dX6_area_25 : decode cX6_area 25 = .ok (.lstore_n 3, 1) := by decide +kernel
theorem dX6_area_26 : decode cX6_area 26 = .ok (.iconst 0, 1) := by decide +kernel
theorem dX6_area_27 : decode cX6_area 27 = .ok (.istore 5, 2) := by decide +kernel
theorem dX6_area_29 : decode cX6_area 29 = .ok (.iload 5, 2) := by decide +kernel
theorem dX6_area_31 : decode cX6_area 31 = .ok (.aload_n 0, 1) := by decide +kernel
theorem dX6_area_32 : decode cX6_area 32 = .ok (.getfield 19, 3) := by decide +kernel
theorem dX6_area_35 : decode cX6_area 35 = .ok (.iload_n 2, 1) := by decide +kernel
theorem dX6_area_36 : decode cX6_area 36 = .ok (.iaload, 1) := by decide +kernel
theorem dX6_area_37 : decode cX6_area 37 = .ok (.if_icmp .ge 84, 3) := by decide +kernel
theorem dX6_area_40 : decode cX6_area 40 = .ok (.aload_n 0, 1) := by decide +kernel
theorem dX6_area_41 : decode cX6_area 41 = .ok (.getfield 22, 3) := by decide +kernel
theorem dX6_area_44 : decode cX6_area 44 = .ok (.bipush 8, 2) := by decide +kernel
theorem dX6_area_46 : decode cX6_area 46 = .ok (.iload_n 2, 1) := by decide +kernel
theorem dX6_area_47 : decode cX6_area 47 = .ok (.imul, 1) := by decide +kernel
theorem dX6_area_48 : decode cX6_area 48 = .ok (.iload 5, 2) := by decide +kernel
theorem dX6_area_50 : decode cX6_area 50 = .ok (.iadd, 1) := by decide +kernel
theorem dX6_area_51 : decode cX6_area 51 = .ok (.iaload, 1) := by decide +kernel
theorem dX6_area_52 : decode cX6_area 52 = .ok (.istore 6, 2) := by decide +kernel
theorem dX6_area_54 : decode cX6_area 54 = .ok (.aload_n 0, 1) := by decide +kernel
theorem dX6_area_55 : decode cX6_area 55 = .ok (.getfield 22, 3) := by decide +kernel
theorem dX6_area_58 : decode cX6_area 58 = .ok (.bipush 8, 2) := by decide +kernel
theorem dX6_area_60 : decode cX6_area 60 = .ok (.iload_n 2, 1) := by decide +kernel
theorem dX6_area_61 : decode cX6_area 61 = .ok (.imul, 1) := by decide +kernel
theorem dX6_area_62 : decode cX6_area 62 = .ok (.iload 5, 2) := by decide +kernel
theorem dX6_area_64 : decode cX6_area 64 = .ok (.iconst 1, 1) := by decide +kernel
theorem dX6_area_65 : decode cX6_area 65 = .ok (.iadd, 1) := by decide +kernel
theorem dX6_area_66 : decode cX6_area 66 = .ok (.aload_n 0, 1) := by decide +kernel
theorem dX6_area_67 : decode cX6_area 67 = .ok (.getfield 19, 3) := by decide +kernel
theorem dX6_area_70 : decode cX6_area 70 = .ok (.iload_n 2, 1) := by decide +kernel
theorem dX6_area_71 : decode cX6_area 71 = .ok (.iaload, 1) := by decide +kernel
theorem dX6_area_72 : decode cX6_area 72 = .ok (.irem, 1) := by decide +kernel
theorem dX6_area_73 : decode cX6_area 73 = .ok (.iadd, 1) := by decide +kernel
theorem dX6_area_74 : decode cX6_area 74 = .ok (.iaload, 1) := by decide +kernel
theorem dX6_area_75 : decode cX6_area 75 = .ok (.istore 7, 2) := by decide +kernel
theorem dX6_area_77 : decode cX6_area 77 = .ok (.lload_n 3, 1) := by decide +kernel
theorem dX6_area_78 : decode cX6_area 78 = .ok (.aload_n 0, 1) := by decide +kernel
theorem dX6_area_79 : decode cX6_area 79 = .ok (.getfield 38, 3) := by decide +kernel
theorem dX6_area_82 : decode cX6_area 82 = .ok (.iload 6, 2) := by decide +kernel
theorem dX6_area_84 : decode cX6_area 84 = .ok (.iaload, 1) := by decide +kernel
theorem dX6_area_85 : decode cX6_area 85 = .ok (.i2l, 1) := by decide +kernel
theorem dX6_area_86 : decode cX6_area 86 = .ok (.aload_n 0, 1) := by decide +kernel
theorem dX6_area_87 : decode cX6_area 87 = .ok (.getfield 41, 3) := by decide +kernel
theorem dX6_area_90 : decode cX6_area 90 = .ok (.iload 7, 2) := by decide +kernel
theorem dX6_area_92 : decode cX6_area 92 = .ok (.iaload, 1) := by decide +kernel
theorem dX6_area_93 : decode cX6_area 93 = .ok (.i2l, 1) := by decide +kernel
theorem dX6_area_94 : decode cX6_area 94 = .ok (.lmul, 1) := by decide +kernel
theorem dX6_area_95 : decode cX6_area 95 = .ok (.aload_n 0, 1) := by decide +kernel
theorem dX6_area_96 : decode cX6_area 96 = .ok (.getfield 38, 3) := by decide +kernel
theorem dX6_area_99 : decode cX6_area 99 = .ok (.iload 7, 2) := by decide +kernel
theorem dX6_area_101 : decode cX6_area 101 = .ok (.iaload, 1) := by decide +kernel
theorem dX6_area_102 : decode cX6_area 102 = .ok (.i2l, 1) := by decide +kernel
theorem dX6_area_103 : decode cX6_area 103 = .ok (.aload_n 0, 1) := by decide +kernel
theorem dX6_area_104 : decode cX6_area 104 = .ok (.getfield 41, 3) := by decide +kernel
theorem dX6_area_107 : decode cX6_area 107 = .ok (.iload 6, 2) := by decide +kernel
theorem dX6_area_109 : decode cX6_area 109 = .ok (.iaload, 1) := by decide +kernel
theorem dX6_area_110 : decode cX6_area 110 = .ok (.i2l, 1) := by decide +kernel
theorem dX6_area_111 : decode cX6_area 111 = .ok (.lmul, 1) := by decide +kernel
theorem dX6_area_112 : decode cX6_area 112 = .ok (.lsub, 1) := by decide +kernel
theorem dX6_area_113 : decode cX6_area 113 = .ok (.ladd, 1) := by decide +kernel
theorem dX6_area_114 : decode cX6_area 114 = .ok (.lstore_n 3, 1) := by decide +kernel
theorem dX6_area_115 : decode cX6_area 115 = .ok (.iinc 5 1, 3) := by decide +kernel
theorem dX6_area_118 : decode cX6_area 118 = .ok (.goto (-89), 3) := by decide +kernel
theorem dX6_area_121 : decode cX6_area 121 = .ok (.lload_n 3, 1) := by decide +kernel
theorem dX6_area_122 : decode cX6_area 122 = .ok (.lconst 0, 1) := by decide +kernel
theorem dX6_area_123 : decode cX6_area 123 = .ok (.lcmp, 1) := by decide +kernel
theorem dX6_area_124 : decode cX6_area 124 = .ok (.ifCond .ge 8, 3) := by decide +kernel
theorem dX6_area_127 : decode cX6_area 127 = .ok (.lload_n 3, 1) := by decide +kernel
theorem dX6_area_128 : decode cX6_area 128 = .ok (.lneg, 1) := by decide +kernel
theorem dX6_area_129 : decode cX6_area 129 = .ok (.goto 4, 3) := by decide +kernel
theorem dX6_area_132 : decode cX6_area 132 = .ok (.lload_n 3, 1) := by decide +kernel
theorem dX6_area_133 : decode cX6_area 133 = .ok (.lreturn, 1) := by decide +kernel
set_option maxRecDepth 20000 in
theorem ggX6_seam_X6_isSide : GoodIn wsX6_seam wsX6_isSide := goodIn_r _ [7, 8, 9, 10, 11, 6, 12, 13, 14, 15, 16, 17, 18, 19, 20, 21, 22, 23, 24, 25, 26, 27, 28, 29, 30, 31, 32, 33, 34, 35, 36, 37, 38, 39, 40] (by decide +kernel) (by decide +kernel)
set_option maxRecDepth 20000 in
theorem gX6_seam_X6_isSide : GoodIn wsX6_seam (wsV RX6 114 RX6 yX6_isSide wsX6_isSide) := goodIn_app (goodIn_of _ (by decide +kernel)) ggX6_seam_X6_isSide
theorem dX6_seam_0 : decode cX6_seam 0 = .ok (.aload_n 0, 1) := by decide +kernel
theorem dX6_seam_1 : decode cX6_seam 1 = .ok (.iload_n 1, 1) := by decide +kernel
theorem dX6_seam_2 : decode cX6_seam 2 = .ok (.iload_n 2, 1) := by decide +kernel
theorem dX6_seam_3 : decode cX6_seam 3 = .ok (.invokevirtual 114, 3) := by decide +kernel
theorem dX6_seam_6 : decode cX6_seam 6 = .ok (.ifCond .eq 13, 3) := by decide +kernel
theorem dX6_seam_9 : decode cX6_seam 9 = .ok (.aload_n 0, 1) := by decide +kernel
theorem dX6_seam_10 : decode cX6_seam 10 = .ok (.iload_n 3, 1) := by decide +kernel
theorem dX6_seam_11 : decode cX6_seam 11 = .ok (.iload 4, 2) := by decide +kernel
theorem dX6_seam_13 : decode cX6_seam 13 = .ok (.invokevirtual 114, 3) := by decide +kernel
theorem dX6_seam_16 : decode cX6_seam 16 = .ok (.ifCond .ne 6, 3) := by decide +kernel
theorem dX6_seam_19 : decode cX6_seam 19 = .ok (.bipush (-2), 2) := by decide +kernel
theorem dX6_seam_21 : decode cX6_seam 21 = .ok (.ireturn, 1) := by decide +kernel
theorem dX6_seam_22 : decode cX6_seam 22 = .ok (.aload_n 0, 1) := by decide +kernel
theorem dX6_seam_23 : decode cX6_seam 23 = .ok (.getfield 123, 3) := by decide +kernel
theorem dX6_seam_26 : decode cX6_seam 26 = .ok (.bipush 10, 2) := by decide +kernel
theorem dX6_seam_28 : decode cX6_seam 28 = .ok (.if_icmp .ne 6, 3) := by decide +kernel
theorem dX6_seam_31 : decode cX6_seam 31 = .ok (.bipush (-4), 2) := by decide +kernel
theorem dX6_seam_33 : decode cX6_seam 33 = .ok (.ireturn, 1) := by decide +kernel
theorem dX6_seam_34 : decode cX6_seam 34 = .ok (.aload_n 0, 1) := by decide +kernel
theorem dX6_seam_35 : decode cX6_seam 35 = .ok (.getfield 25, 3) := by decide +kernel
theorem dX6_seam_38 : decode cX6_seam 38 = .ok (.iconst 4, 1) := by decide +kernel
theorem dX6_seam_39 : decode cX6_seam 39 = .ok (.aload_n 0, 1) := by decide +kernel
theorem dX6_seam_40 : decode cX6_seam 40 = .ok (.getfield 123, 3) := by decide +kernel
theorem dX6_seam_43 : decode cX6_seam 43 = .ok (.imul, 1) := by decide +kernel
theorem dX6_seam_44 : decode cX6_seam 44 = .ok (.iload_n 1, 1) := by decide +kernel
theorem dX6_seam_45 : decode cX6_seam 45 = .ok (.iastore, 1) := by decide +kernel
theorem dX6_seam_46 : decode cX6_seam 46 = .ok (.aload_n 0, 1) := by decide +kernel
theorem dX6_seam_47 : decode cX6_seam 47 = .ok (.getfield 25, 3) := by decide +kernel
theorem dX6_seam_50 : decode cX6_seam 50 = .ok (.iconst 4, 1) := by decide +kernel
theorem dX6_seam_51 : decode cX6_seam 51 = .ok (.aload_n 0, 1) := by decide +kernel
theorem dX6_seam_52 : decode cX6_seam 52 = .ok (.getfield 123, 3) := by decide +kernel
theorem dX6_seam_55 : decode cX6_seam 55 = .ok (.imul, 1) := by decide +kernel
theorem dX6_seam_56 : decode cX6_seam 56 = .ok (.iconst 1, 1) := by decide +kernel
theorem dX6_seam_57 : decode cX6_seam 57 = .ok (.iadd, 1) := by decide +kernel
theorem dX6_seam_58 : decode cX6_seam 58 = .ok (.iload_n 2, 1) := by decide +kernel
theorem dX6_seam_59 : decode cX6_seam 59 = .ok (.iastore, 1) := by decide +kernel
theorem dX6_seam_60 : decode cX6_seam 60 = .ok (.aload_n 0, 1) := by decide +kernel
theorem dX6_seam_61 : decode cX6_seam 61 = .ok (.getfield 25, 3) := by decide +kernel
theorem dX6_seam_64 : decode cX6_seam 64 = .ok (.iconst 4, 1) := by decide +kernel
theorem dX6_seam_65 : decode cX6_seam 65 = .ok (.aload_n 0, 1) := by decide +kernel
theorem dX6_seam_66 : decode cX6_seam 66 = .ok (.getfield 123, 3) := by decide +kernel
theorem dX6_seam_69 : decode cX6_seam 69 = .ok (.imul, 1) := by decide +kernel
theorem dX6_seam_70 : decode cX6_seam 70 = .ok (.iconst 2, 1) := by decide +kernel
theorem dX6_seam_71 : decode cX6_seam 71 = .ok (.iadd, 1) := by decide +kernel
theorem dX6_seam_72 : decode cX6_seam 72 = .ok (.iload_n 3, 1) := by decide +kernel
theorem dX6_seam_73 : decode cX6_seam 73 = .ok (.iastore, 1) := by decide +kernel
theorem dX6_seam_74 : decode cX6_seam 74 = .ok (.aload_n 0, 1) := by decide +kernel
theorem dX6_seam_75 : decode cX6_seam 75 = .ok (.getfield 25, 3) := by decide +kernel
theorem dX6_seam_78 : decode cX6_seam 78 = .ok (.iconst 4, 1) := by decide +kernel
theorem dX6_seam_79 : decode cX6_seam 79 = .ok (.aload_n 0, 1) := by decide +kernel
theorem dX6_seam_80 : decode cX6_seam 80 = .ok (.getfield 123, 3) := by decide +kernel
theorem dX6_seam_83 : decode cX6_seam 83 = .ok (.imul, 1) := by decide +kernel
theorem dX6_seam_84 : decode cX6_seam 84 = .ok (.iconst 3, 1) := by decide +kernel
theorem dX6_seam_85 : decode cX6_seam 85 = .ok (.iadd, 1) := by decide +kernel
theorem dX6_seam_86 : decode cX6_seam 86 = .ok (.iload 4, 2) := by decide +kernel
theorem dX6_seam_88 : decode cX6_seam 88 = .ok (.iastore, 1) := by decide +kernel
theorem dX6_seam_89 : decode cX6_seam 89 = .ok (.aload_n 0, 1) := by decide +kernel
theorem dX6_seam_90 : decode cX6_seam 90 = .ok (.dup, 1) := by decide +kernel
theorem dX6_seam_91 : decode cX6_seam 91 = .ok (.getfield 123, 3) := by decide +kernel
theorem dX6_seam_94 : decode cX6_seam 94 = .ok (.iconst 1, 1) := by decide +kernel
theorem dX6_seam_95 : decode cX6_seam 95 = .ok (.iadd, 1) := by decide +kernel
theorem dX6_seam_96 : decode cX6_seam 96 = .ok (.putfield 123, 3) := by decide +kernel
theorem dX6_seam_99 : decode cX6_seam 99 = .ok (.aload_n 0, 1) := by decide +kernel
theorem dX6_seam_100 : decode cX6_seam 100 = .ok (.getfield 123, 3) := by decide +kernel
theorem dX6_seam_103 : decode cX6_seam 103 = .ok (.iconst 1, 1) := by decide +kernel
theorem dX6_seam_104 : decode cX6_seam 104 = .ok (.isub, 1) := by decide +kernel
theorem dX6_seam_105 : decode cX6_seam 105 = .ok (.ireturn, 1) := by decide +kernel
set_option maxRecDepth 20000 in
theorem ggX6_gaps_X6_isBody : GoodIn wsX6_gaps wsX6_isBody := goodIn_r _ [6, 7, 8, 5, 9] (by decide +kernel) (by decide +kernel)
set_option maxRecDepth 20000 in
theorem gX6_gaps_X6_isBody : GoodIn wsX6_gaps (va_wsS RX6 64 yX6_isBody wsX6_isBody) := goodIn_app (goodIn_of _ (by decide +kernel)) ggX6_gaps_X6_isBody
set_option maxRecDepth 20000 in
theorem ggX6_gaps_X6_in : GoodIn wsX6_gaps wsX6_in := goodIn_r _ [9] (by decide +kernel) (by decide +kernel)
set_option maxRecDepth 20000 in
theorem gX6_gaps_X6_in : GoodIn wsX6_gaps (va_wsS RX6 56 yX6_in wsX6_in) := goodIn_app (goodIn_of _ (by decide +kernel)) ggX6_gaps_X6_in
set_option maxRecDepth 20000 in
theorem ggX6_gaps_X6_layPoints : GoodIn wsX6_gaps wsX6_layPoints := goodIn_r _ [13, 14, 15, 16, 17, 18, 19, 20, 5, 21, 22, 23, 24, 25, 26, 27, 28, 29, 30, 31, 32, 33, 34, 35, 36, 46, 47, 48, 49, 50, 51, 52, 53, 54, 55, 56, 57, 58, 59, 60, 61, 62, 63, 64, 65, 66, 67, 68, 69] (by decide +kernel) (by decide +kernel)
set_option maxRecDepth 20000 in
theorem gX6_gaps_X6_layPoints : GoodIn wsX6_gaps (wsV RX6 98 RX6 yX6_layPoints wsX6_layPoints) := goodIn_app (goodIn_of _ (by decide +kernel)) ggX6_gaps_X6_layPoints
set_option maxRecDepth 20000 in
theorem ggX6_gaps_X6_lengthOf : GoodIn wsX6_gaps wsX6_lengthOf := goodIn_r _ [40, 41, 42, 16, 17, 43, 44, 45, 46, 47, 48, 49, 50, 51, 52, 53, 54, 55, 56, 57, 58, 59, 60, 61, 62, 63, 64, 65, 66, 67, 68, 69] (by decide +kernel) (by decide +kernel)
set_option maxRecDepth 20000 in
theorem gX6_gaps_X6_lengthOf : GoodIn wsX6_gaps (wsV RX6 118 RX6 yX6_lengthOf wsX6_lengthOf) := goodIn_app (goodIn_of _ (by decide +kernel)) ggX6_gaps_X6_lengthOf
theorem dX6_gaps_0 : decode cX6_gaps 0 = .ok (.iload_n 1, 1) := by decide +kernel
theorem dX6_gaps_1 : decode cX6_gaps 1 = .ok (.invokestatic 64, 3) := by decide +kernel
theorem dX6_gaps_4 : decode cX6_gaps 4 = .ok (.ifCond .eq 13, 3) := by decide +kernel
theorem dX6_gaps_7 : decode cX6_gaps 7 = .ok (.iload_n 2, 1) := by decide +kernel
theorem dX6_gaps_8 : decode cX6_gaps 8 = .ok (.iconst 0, 1) := by decide +kernel
theorem dX6_gaps_9 : decode cX6_gaps 9 = .ok (.bipush 100, 2) := by decide +kernel
theorem dX6_gaps_11 : decode cX6_gaps 11 = .ok (.invokestatic 56, 3) := by decide +kernel
theorem dX6_gaps_14 : decode cX6_gaps 14 = .ok (.ifCond .ne 6, 3) := by decide +kernel
theorem dX6_gaps_17 : decode cX6_gaps 17 = .ok (.bipush (-2), 2) := by decide +kernel
theorem dX6_gaps_19 : decode cX6_gaps 19 = .ok (.ireturn, 1) := by decide +kernel
theorem dX6_gaps_20 : decode cX6_gaps 20 = .ok (.aload_n 0, 1) := by decide +kernel
theorem dX6_gaps_21 : decode cX6_gaps 21 = .ok (.iload_n 1, 1) := by decide +kernel
theorem dX6_gaps_22 : decode cX6_gaps 22 = .ok (.invokevirtual 98, 3) := by decide +kernel
theorem dX6_gaps_25 : decode cX6_gaps 25 = .ok (.iconst 0, 1) := by decide +kernel
theorem dX6_gaps_26 : decode cX6_gaps 26 = .ok (.istore_n 3, 1) := by decide +kernel
theorem dX6_gaps_27 : decode cX6_gaps 27 = .ok (.iload_n 3, 1) := by decide +kernel
theorem dX6_gaps_28 : decode cX6_gaps 28 = .ok (.aload_n 0, 1) := by decide +kernel
theorem dX6_gaps_29 : decode cX6_gaps 29 = .ok (.getfield 123, 3) := by decide +kernel
theorem dX6_gaps_32 : decode cX6_gaps 32 = .ok (.if_icmp .ge 73, 3) := by decide +kernel
theorem dX6_gaps_35 : decode cX6_gaps 35 = .ok (.aload_n 0, 1) := by decide +kernel
theorem dX6_gaps_36 : decode cX6_gaps 36 = .ok (.aload_n 0, 1) := by decide +kernel
theorem dX6_gaps_37 : decode cX6_gaps 37 = .ok (.getfield 25, 3) := by decide +kernel
theorem dX6_gaps_40 : decode cX6_gaps 40 = .ok (.iconst 4, 1) := by decide +kernel
theorem dX6_gaps_41 : decode cX6_gaps 41 = .ok (.iload_n 3, 1) := by decide +kernel
theorem dX6_gaps_42 : decode cX6_gaps 42 = .ok (.imul, 1) := by decide +kernel
theorem dX6_gaps_43 : decode cX6_gaps 43 = .ok (.iaload, 1) := by decide +kernel
theorem dX6_gaps_44 : decode cX6_gaps 44 = .ok (.aload_n 0, 1) := by decide +kernel
theorem dX6_gaps_45 : decode cX6_gaps 45 = .ok (.getfield 25, 3) := by decide +kernel
theorem dX6_gaps_48 : decode cX6_gaps 48 = .ok (.iconst 4, 1) := by decide +kernel
theorem dX6_gaps_49 : decode cX6_gaps 49 = .ok (.iload_n 3, 1) := by decide +kernel
theorem dX6_gaps_50 : decode cX6_gaps 50 = .ok (.imul, 1) := by decide +kernel
theorem dX6_gaps_51 : decode cX6_gaps 51 = .ok (.iconst 1, 1) := by decide +kernel
theorem dX6_gaps_52 : decode cX6_gaps 52 = .ok (.iadd, 1) := by decide +kernel
theorem dX6_gaps_53 : decode cX6_gaps 53 = .ok (.iaload, 1) := by decide +kernel
theorem dX6_gaps_54 : decode cX6_gaps 54 = .ok (.invokevirtual 118, 3) := by decide +kernel
theorem dX6_gaps_57 : decode cX6_gaps 57 = .ok (.aload_n 0, 1) := by decide +kernel
theorem dX6_gaps_58 : decode cX6_gaps 58 = .ok (.aload_n 0, 1) := by decide +kernel
theorem dX6_gaps_59 : decode cX6_gaps 59 = .ok (.getfield 25, 3) := by decide +kernel
theorem dX6_gaps_62 : decode cX6_gaps 62 = .ok (.iconst 4, 1) := by decide +kernel
theorem dX6_gaps_63 : decode cX6_gaps 63 = .ok (.iload_n 3, 1) := by decide +kernel
theorem dX6_gaps_64 : decode cX6_gaps 64 = .ok (.imul, 1) := by decide +kernel
theorem dX6_gaps_65 : decode cX6_gaps 65 = .ok (.iconst 2, 1) := by decide +kernel
theorem dX6_gaps_66 : decode cX6_gaps 66 = .ok (.iadd, 1) := by decide +kernel
theorem dX6_gaps_67 : decode cX6_gaps 67 = .ok (.iaload, 1) := by decide +kernel
theorem dX6_gaps_68 : decode cX6_gaps 68 = .ok (.aload_n 0, 1) := by decide +kernel
theorem dX6_gaps_69 : decode cX6_gaps 69 = .ok (.getfield 25, 3) := by decide +kernel
theorem dX6_gaps_72 : decode cX6_gaps 72 = .ok (.iconst 4, 1) := by decide +kernel
theorem dX6_gaps_73 : decode cX6_gaps 73 = .ok (.iload_n 3, 1) := by decide +kernel
theorem dX6_gaps_74 : decode cX6_gaps 74 = .ok (.imul, 1) := by decide +kernel
theorem dX6_gaps_75 : decode cX6_gaps 75 = .ok (.iconst 3, 1) := by decide +kernel
theorem dX6_gaps_76 : decode cX6_gaps 76 = .ok (.iadd, 1) := by decide +kernel
theorem dX6_gaps_77 : decode cX6_gaps 77 = .ok (.iaload, 1) := by decide +kernel
theorem dX6_gaps_78 : decode cX6_gaps 78 = .ok (.invokevirtual 118, 3) := by decide +kernel
theorem dX6_gaps_81 : decode cX6_gaps 81 = .ok (.isub, 1) := by decide +kernel
theorem dX6_gaps_82 : decode cX6_gaps 82 = .ok (.istore 4, 2) := by decide +kernel
theorem dX6_gaps_84 : decode cX6_gaps 84 = .ok (.iload 4, 2) := by decide +kernel
theorem dX6_gaps_86 : decode cX6_gaps 86 = .ok (.iload_n 2, 1) := by decide +kernel
theorem dX6_gaps_87 : decode cX6_gaps 87 = .ok (.if_icmp .gt 10, 3) := by decide +kernel
theorem dX6_gaps_90 : decode cX6_gaps 90 = .ok (.iload 4, 2) := by decide +kernel
theorem dX6_gaps_92 : decode cX6_gaps 92 = .ok (.iload_n 2, 1) := by decide +kernel
theorem dX6_gaps_93 : decode cX6_gaps 93 = .ok (.ineg, 1) := by decide +kernel
theorem dX6_gaps_94 : decode cX6_gaps 94 = .ok (.if_icmp .ge 5, 3) := by decide +kernel
theorem dX6_gaps_97 : decode cX6_gaps 97 = .ok (.iload_n 3, 1) := by decide +kernel
theorem dX6_gaps_98 : decode cX6_gaps 98 = .ok (.ireturn, 1) := by decide +kernel
theorem dX6_gaps_99 : decode cX6_gaps 99 = .ok (.iinc 3 1, 3) := by decide +kernel
theorem dX6_gaps_102 : decode cX6_gaps 102 = .ok (.goto (-75), 3) := by decide +kernel
theorem dX6_gaps_105 : decode cX6_gaps 105 = .ok (.iconst (-1), 1) := by decide +kernel
theorem dX6_gaps_106 : decode cX6_gaps 106 = .ok (.ireturn, 1) := by decide +kernel
set_option maxRecDepth 20000 in
theorem ggX6_hangs_X6_isBody : GoodIn wsX6_hangs wsX6_isBody := goodIn_r _ [9, 10, 11, 8, 12] (by decide +kernel) (by decide +kernel)
set_option maxRecDepth 20000 in
theorem gX6_hangs_X6_isBody : GoodIn wsX6_hangs (va_wsS RX6 64 yX6_isBody wsX6_isBody) := goodIn_app (goodIn_of _ (by decide +kernel)) ggX6_hangs_X6_isBody
set_option maxRecDepth 20000 in
theorem ggX6_hangs_X6_in : GoodIn wsX6_hangs wsX6_in := goodIn_r _ [12] (by decide +kernel) (by decide +kernel)
set_option maxRecDepth 20000 in
theorem gX6_hangs_X6_in : GoodIn wsX6_hangs (va_wsS RX6 56 yX6_in wsX6_in) := goodIn_app (goodIn_of _ (by decide +kernel)) ggX6_hangs_X6_in
theorem dX6_hangs_0 : decode cX6_hangs 0 = .ok (.iload_n 1, 1) := by decide +kernel
theorem dX6_hangs_1 : decode cX6_hangs 1 = .ok (.invokestatic 64, 3) := by decide +kernel
theorem dX6_hangs_4 : decode cX6_hangs 4 = .ok (.ifCond .eq 12, 3) := by decide +kernel
theorem dX6_hangs_7 : decode cX6_hangs 7 = .ok (.iload_n 2, 1) := by decide +kernel
theorem dX6_hangs_8 : decode cX6_hangs 8 = .ok (.iconst 0, 1) := by decide +kernel
theorem dX6_hangs_9 : decode cX6_hangs 9 = .ok (.iconst 1, 1) := by decide +kernel
theorem dX6_hangs_10 : decode cX6_hangs 10 = .ok (.invokestatic 56, 3) := by decide +kernel
theorem dX6_hangs_13 : decode cX6_hangs 13 = .ok (.ifCond .ne 6, 3) := by decide +kernel
theorem dX6_hangs_16 : decode cX6_hangs 16 = .ok (.bipush (-2), 2) := by decide +kernel
theorem dX6_hangs_18 : decode cX6_hangs 18 = .ok (.ireturn, 1) := by decide +kernel
theorem dX6_hangs_19 : decode cX6_hangs 19 = .ok (.iconst 0, 1) := by decide +kernel
theorem dX6_hangs_20 : decode cX6_hangs 20 = .ok (.istore_n 3, 1) := by decide +kernel
theorem dX6_hangs_21 : decode cX6_hangs 21 = .ok (.iconst 0, 1) := by decide +kernel
theorem dX6_hangs_22 : decode cX6_hangs 22 = .ok (.istore 4, 2) := by decide +kernel
theorem dX6_hangs_24 : decode cX6_hangs 24 = .ok (.iload 4, 2) := by decide +kernel
theorem dX6_hangs_26 : decode cX6_hangs 26 = .ok (.aload_n 0, 1) := by decide +kernel
theorem dX6_hangs_27 : decode cX6_hangs 27 = .ok (.getfield 84, 3) := by decide +kernel
theorem dX6_hangs_30 : decode cX6_hangs 30 = .ok (.if_icmp .ge 140, 3) := by decide +kernel
theorem dX6_hangs_33 : decode cX6_hangs 33 = .ok (.iconst 5, 1) := by decide +kernel
theorem dX6_hangs_34 : decode cX6_hangs 34 = .ok (.iload 4, 2) := by decide +kernel
theorem dX6_hangs_36 : decode cX6_hangs 36 = .ok (.imul, 1) := by decide +kernel
theorem dX6_hangs_37 : decode cX6_hangs 37 = .ok (.istore 5, 2) := by decide +kernel
theorem dX6_hangs_39 : decode cX6_hangs 39 = .ok (.aload_n 0, 1) := by decide +kernel
theorem dX6_hangs_40 : decode cX6_hangs 40 = .ok (.getfield 16, 3) := by decide +kernel
theorem dX6_hangs_43 : decode cX6_hangs 43 = .ok (.iload 5, 2) := by decide +kernel
theorem dX6_hangs_45 : decode cX6_hangs 45 = .ok (.iaload, 1) := by decide +kernel
theorem dX6_hangs_46 : decode cX6_hangs 46 = .ok (.iconst 2, 1) := by decide +kernel
theorem dX6_hangs_47 : decode cX6_hangs 47 = .ok (.if_icmp .eq 14, 3) := by decide +kernel
theorem dX6_hangs_50 : decode cX6_hangs 50 = .ok (.aload_n 0, 1) := by decide +kernel
theorem dX6_hangs_51 : decode cX6_hangs 51 = .ok (.getfield 16, 3) := by decide +kernel
theorem dX6_hangs_54 : decode cX6_hangs 54 = .ok (.iload 5, 2) := by decide +kernel
theorem dX6_hangs_56 : decode cX6_hangs 56 = .ok (.iaload, 1) := by decide +kernel
theorem dX6_hangs_57 : decode cX6_hangs 57 = .ok (.iconst 3, 1) := by decide +kernel
theorem dX6_hangs_58 : decode cX6_hangs 58 = .ok (.if_icmp .ne 20, 3) := by decide +kernel
theorem dX6_hangs_61 : decode cX6_hangs 61 = .ok (.aload_n 0, 1) := by decide +kernel
theorem dX6_hangs_62 : decode cX6_hangs 62 = .ok (.getfield 16, 3) := by decide +kernel
theorem dX6_hangs_65 : decode cX6_hangs 65 = .ok (.iload 5, 2) := by decide +kernel
theorem dX6_hangs_67 : decode cX6_hangs 67 = .ok (.iconst 2, 1) := by decide +kernel
theorem dX6_hangs_68 : decode cX6_hangs 68 = .ok (.iadd, 1) := by decide +kernel
theorem dX6_hangs_69 : decode cX6_hangs 69 = .ok (.iaload, 1) := by decide +kernel
theorem dX6_hangs_70 : decode cX6_hangs 70 = .ok (.iload_n 1, 1) := by decide +kernel
theorem dX6_hangs_71 : decode cX6_hangs 71 = .ok (.if_icmp .ne 7, 3) := by decide +kernel
theorem dX6_hangs_74 : decode cX6_hangs 74 = .ok (.iconst 1, 1) := by decide +kernel
theorem dX6_hangs_75 : decode cX6_hangs 75 = .ok (.goto 4, 3) := by decide +kernel
theorem dX6_hangs_78 : decode cX6_hangs 78 = .ok (.iconst 0, 1) := by decide +kernel
theorem dX6_hangs_79 : decode cX6_hangs 79 = .ok (.istore 6, 2) := by decide +kernel
theorem dX6_hangs_81 : decode cX6_hangs 81 = .ok (.iload 6, 2) := by decide +kernel
theorem dX6_hangs_83 : decode cX6_hangs 83 = .ok (.ifCond .ne 58, 3) := by decide +kernel
theorem dX6_hangs_86 : decode cX6_hangs 86 = .ok (.aload_n 0, 1) := by decide +kernel
theorem dX6_hangs_87 : decode cX6_hangs 87 = .ok (.getfield 16, 3) := by decide +kernel
theorem dX6_hangs_90 : decode cX6_hangs 90 = .ok (.iload 5, 2) := by decide +kernel
theorem dX6_hangs_92 : decode cX6_hangs 92 = .ok (.iaload, 1) := by decide +kernel
theorem dX6_hangs_93 : decode cX6_hangs 93 = .ok (.ifCond .le 20, 3) := by decide +kernel
theorem dX6_hangs_96 : decode cX6_hangs 96 = .ok (.iload_n 3, 1) := by decide +kernel
theorem dX6_hangs_97 : decode cX6_hangs 97 = .ok (.aload_n 0, 1) := by decide +kernel
theorem dX6_hangs_98 : decode cX6_hangs 98 = .ok (.getfield 16, 3) := by decide +kernel
theorem dX6_hangs_101 : decode cX6_hangs 101 = .ok (.iload 5, 2) := by decide +kernel
theorem dX6_hangs_103 : decode cX6_hangs 103 = .ok (.iconst 1, 1) := by decide +kernel
theorem dX6_hangs_104 : decode cX6_hangs 104 = .ok (.iadd, 1) := by decide +kernel
theorem dX6_hangs_105 : decode cX6_hangs 105 = .ok (.iaload, 1) := by decide +kernel
theorem dX6_hangs_106 : decode cX6_hangs 106 = .ok (.ishr, 1) := by decide +kernel
theorem dX6_hangs_107 : decode cX6_hangs 107 = .ok (.iconst 1, 1) := by decide +kernel
theorem dX6_hangs_108 : decode cX6_hangs 108 = .ok (.iand, 1) := by decide +kernel
theorem dX6_hangs_109 : decode cX6_hangs 109 = .ok (.iconst 1, 1) := by decide +kernel
theorem dX6_hangs_110 : decode cX6_hangs 110 = .ok (.if_icmp .eq 31, 3) := by decide +kernel
theorem dX6_hangs_113 : decode cX6_hangs 113 = .ok (.aload_n 0, 1) := by decide +kernel
theorem dX6_hangs_114 : decode cX6_hangs 114 = .ok (.getfield 16, 3) := by decide +kernel
theorem dX6_hangs_117 : decode cX6_hangs 117 = .ok (.iload 5, 2) := by decide +kernel
theorem dX6_hangs_119 : decode cX6_hangs 119 = .ok (.iaload, 1) := by decide +kernel
theorem dX6_hangs_120 : decode cX6_hangs 120 = .ok (.iconst 4, 1) := by decide +kernel
theorem dX6_hangs_121 : decode cX6_hangs 121 = .ok (.if_icmp .ne 24, 3) := by decide +kernel
theorem dX6_hangs_124 : decode cX6_hangs 124 = .ok (.iload_n 3, 1) := by decide +kernel
theorem dX6_hangs_125 : decode cX6_hangs 125 = .ok (.aload_n 0, 1) := by decide +kernel
theorem dX6_hangs_126 : decode cX6_hangs 126 = .ok (.getfield 16, 3) := by decide +kernel
theorem dX6_hangs_129 : decode cX6_hangs 129 = .ok (.iload 5, 2) := by decide +kernel
theorem dX6_hangs_131 : decode cX6_hangs 131 = .ok (.iconst 2, 1) := by decide +kernel
theorem dX6_hangs_132 : decode cX6_hangs 132 = .ok (.iadd, 1) := by decide +kernel
theorem dX6_hangs_133 : decode cX6_hangs 133 = .ok (.iaload, 1) := by decide +kernel
theorem dX6_hangs_134 : decode cX6_hangs 134 = .ok (.ishr, 1) := by decide +kernel
theorem dX6_hangs_135 : decode cX6_hangs 135 = .ok (.iconst 1, 1) := by decide +kernel
theorem dX6_hangs_136 : decode cX6_hangs 136 = .ok (.iand, 1) := by decide +kernel
theorem dX6_hangs_137 : decode cX6_hangs 137 = .ok (.iconst 1, 1) := by decide +kernel
theorem dX6_hangs_138 : decode cX6_hangs 138 = .ok (.if_icmp .ne 7, 3) := by decide +kernel
theorem dX6_hangs_141 : decode cX6_hangs 141 = .ok (.iconst 1, 1) := by decide +kernel
theorem dX6_hangs_142 : decode cX6_hangs 142 = .ok (.goto 4, 3) := by decide +kernel
theorem dX6_hangs_145 : decode cX6_hangs 145 = .ok (.iconst 0, 1) := by decide +kernel
theorem dX6_hangs_146 : decode cX6_hangs 146 = .ok (.istore 6, 2) := by decide +kernel
theorem dX6_hangs_148 : decode cX6_hangs 148 = .ok (.iload_n 3, 1) := by decide +kernel
theorem dX6_hangs_149 : decode cX6_hangs 149 = .ok (.iload 6, 2) := by decide +kernel
theorem dX6_hangs_151 : decode cX6_hangs 151 = .ok (.ifCond .eq 10, 3) := by decide +kernel
theorem dX6_hangs_154 : decode cX6_hangs 154 = .ok (.iconst 1, 1) := by decide +kernel
theorem dX6_hangs_155 : decode cX6_hangs 155 = .ok (.iload 4, 2) := by decide +kernel
theorem dX6_hangs_157 : decode cX6_hangs 157 = .ok (.ishl, 1) := by decide +kernel
theorem dX6_hangs_158 : decode cX6_hangs 158 = .ok (.goto 4, 3) := by decide +kernel
theorem dX6_hangs_161 : decode cX6_hangs 161 = .ok (.iconst 0, 1) := by decide +kernel
theorem dX6_hangs_162 : decode cX6_hangs 162 = .ok (.ior, 1) := by decide +kernel
theorem dX6_hangs_163 : decode cX6_hangs 163 = .ok (.istore_n 3, 1) := by decide +kernel
theorem dX6_hangs_164 : decode cX6_hangs 164 = .ok (.iinc 4 1, 3) := by decide +kernel
theorem dX6_hangs_167 : decode cX6_hangs 167 = .ok (.goto (-143), 3) := by decide +kernel
theorem dX6_hangs_170 : decode cX6_hangs 170 = .ok (.iload_n 2, 1) := by decide +kernel
theorem dX6_hangs_171 : decode cX6_hangs 171 = .ok (.ifCond .ne 5, 3) := by decide +kernel
theorem dX6_hangs_174 : decode cX6_hangs 174 = .ok (.iload_n 3, 1) := by decide +kernel
theorem dX6_hangs_175 : decode cX6_hangs 175 = .ok (.ireturn, 1) := by decide +kernel
theorem dX6_hangs_176 : decode cX6_hangs 176 = .ok (.iconst 0, 1) := by decide +kernel
theorem dX6_hangs_177 : decode cX6_hangs 177 = .ok (.istore 4, 2) := by decide +kernel
theorem dX6_hangs_179 : decode cX6_hangs 179 = .ok (.iconst 0, 1) := by decide +kernel
theorem dX6_hangs_180 : decode cX6_hangs 180 = .ok (.istore 5, 2) := by decide +kernel
theorem dX6_hangs_182 : decode cX6_hangs 182 = .ok (.iload 5, 2) := by decide +kernel
theorem dX6_hangs_184 : decode cX6_hangs 184 = .ok (.aload_n 0, 1) := by decide +kernel
theorem dX6_hangs_185 : decode cX6_hangs 185 = .ok (.getfield 102, 3) := by decide +kernel
theorem dX6_hangs_188 : decode cX6_hangs 188 = .ok (.if_icmp .ge 55, 3) := by decide +kernel
theorem dX6_hangs_191 : decode cX6_hangs 191 = .ok (.iconst 0, 1) := by decide +kernel
theorem dX6_hangs_192 : decode cX6_hangs 192 = .ok (.istore 6, 2) := by decide +kernel
theorem dX6_hangs_194 : decode cX6_hangs 194 = .ok (.iload 6, 2) := by decide +kernel
theorem dX6_hangs_196 : decode cX6_hangs 196 = .ok (.aload_n 0, 1) := by decide +kernel
theorem dX6_hangs_197 : decode cX6_hangs 197 = .ok (.getfield 19, 3) := by decide +kernel
theorem dX6_hangs_200 : decode cX6_hangs 200 = .ok (.iload 5, 2) := by decide +kernel
theorem dX6_hangs_202 : decode cX6_hangs 202 = .ok (.iaload, 1) := by decide +kernel
theorem dX6_hangs_203 : decode cX6_hangs 203 = .ok (.if_icmp .ge 34, 3) := by decide +kernel
theorem dX6_hangs_206 : decode cX6_hangs 206 = .ok (.iload 4, 2) := by decide +kernel
theorem dX6_hangs_208 : decode cX6_hangs 208 = .ok (.iload_n 3, 1) := by decide +kernel
theorem dX6_hangs_209 : decode cX6_hangs 209 = .ok (.aload_n 0, 1) := by decide +kernel
theorem dX6_hangs_210 : decode cX6_hangs 210 = .ok (.getfield 22, 3) := by decide +kernel
theorem dX6_hangs_213 : decode cX6_hangs 213 = .ok (.bipush 8, 2) := by decide +kernel
theorem dX6_hangs_215 : decode cX6_hangs 215 = .ok (.iload 5, 2) := by decide +kernel
theorem dX6_hangs_217 : decode cX6_hangs 217 = .ok (.imul, 1) := by decide +kernel
theorem dX6_hangs_218 : decode cX6_hangs 218 = .ok (.iload 6, 2) := by decide +kernel
theorem dX6_hangs_220 : decode cX6_hangs 220 = .ok (.iadd, 1) := by decide +kernel
theorem dX6_hangs_221 : decode cX6_hangs 221 = .ok (.iaload, 1) := by decide +kernel
theorem dX6_hangs_222 : decode cX6_hangs 222 = .ok (.ishr, 1) := by decide +kernel
theorem dX6_hangs_223 : decode cX6_hangs 223 = .ok (.iconst 1, 1) := by decide +kernel
theorem dX6_hangs_224 : decode cX6_hangs 224 = .ok (.iand, 1) := by decide +kernel
theorem dX6_hangs_225 : decode cX6_hangs 225 = .ok (.iload 5, 2) := by decide +kernel
theorem dX6_hangs_227 : decode cX6_hangs 227 = .ok (.ishl, 1) := by decide +kernel
theorem dX6_hangs_228 : decode cX6_hangs 228 = .ok (.ior, 1) := by decide +kernel
theorem dX6_hangs_229 : decode cX6_hangs 229 = .ok (.istore 4, 2) := by decide +kernel
theorem dX6_hangs_231 : decode cX6_hangs 231 = .ok (.iinc 6 1, 3) := by decide +kernel
theorem dX6_hangs_234 : decode cX6_hangs 234 = .ok (.goto (-40), 3) := by decide +kernel
theorem dX6_hangs_237 : decode cX6_hangs 237 = .ok (.iinc 5 1, 3) := by decide +kernel
theorem dX6_hangs_240 : decode cX6_hangs 240 = .ok (.goto (-58), 3) := by decide +kernel
theorem dX6_hangs_243 : decode cX6_hangs 243 = .ok (.iload 4, 2) := by decide +kernel
theorem dX6_hangs_245 : decode cX6_hangs 245 = .ok (.ireturn, 1) := by decide +kernel
set_option maxRecDepth 20000 in
theorem ggX6_cloth_X6_in : GoodIn wsX6_cloth wsX6_in := goodIn_r _ [6] (by decide +kernel) (by decide +kernel)
set_option maxRecDepth 20000 in
theorem gX6_cloth_X6_in : GoodIn wsX6_cloth (va_wsS RX6 56 yX6_in wsX6_in) := goodIn_app (goodIn_of _ (by decide +kernel)) ggX6_cloth_X6_in
theorem dX6_cloth_0 : decode cX6_cloth 0 = .ok (.iload_n 1, 1) := by decide +kernel
theorem dX6_cloth_1 : decode cX6_cloth 1 = .ok (.iconst 1, 1) := by decide +kernel
theorem dX6_cloth_2 : decode cX6_cloth 2 = .ok (.sipush 5000, 3) := by decide +kernel
theorem dX6_cloth_5 : decode cX6_cloth 5 = .ok (.invokestatic 56, 3) := by decide +kernel
theorem dX6_cloth_8 : decode cX6_cloth 8 = .ok (.ifCond .eq 14, 3) := by decide +kernel
theorem dX6_cloth_11 : decode cX6_cloth 11 = .ok (.iload_n 2, 1) := by decide +kernel
theorem dX6_cloth_12 : decode cX6_cloth 12 = .ok (.iconst 1, 1) := by decide +kernel
theorem dX6_cloth_13 : decode cX6_cloth 13 = .ok (.sipush 500, 3) := by decide +kernel
theorem dX6_cloth_16 : decode cX6_cloth 16 = .ok (.invokestatic 56, 3) := by decide +kernel
theorem dX6_cloth_19 : decode cX6_cloth 19 = .ok (.ifCond .ne 6, 3) := by decide +kernel
theorem dX6_cloth_22 : decode cX6_cloth 22 = .ok (.bipush (-2), 2) := by decide +kernel
theorem dX6_cloth_24 : decode cX6_cloth 24 = .ok (.ireturn, 1) := by decide +kernel
theorem dX6_cloth_25 : decode cX6_cloth 25 = .ok (.aload_n 0, 1) := by decide +kernel
theorem dX6_cloth_26 : decode cX6_cloth 26 = .ok (.iload_n 1, 1) := by decide +kernel
theorem dX6_cloth_27 : decode cX6_cloth 27 = .ok (.putfield 28, 3) := by decide +kernel
theorem dX6_cloth_30 : decode cX6_cloth 30 = .ok (.aload_n 0, 1) := by decide +kernel
theorem dX6_cloth_31 : decode cX6_cloth 31 = .ok (.iload_n 2, 1) := by decide +kernel
theorem dX6_cloth_32 : decode cX6_cloth 32 = .ok (.putfield 32, 3) := by decide +kernel
theorem dX6_cloth_35 : decode cX6_cloth 35 = .ok (.iconst 1, 1) := by decide +kernel
theorem dX6_cloth_36 : decode cX6_cloth 36 = .ok (.ireturn, 1) := by decide +kernel
theorem dX6_layRooms_0 : decode cX6_layRooms 0 = .ok (.iconst 0, 1) := by decide +kernel
theorem dX6_layRooms_1 : decode cX6_layRooms 1 = .ok (.istore_n 1, 1) := by decide +kernel
theorem dX6_layRooms_2 : decode cX6_layRooms 2 = .ok (.iload_n 1, 1) := by decide +kernel
theorem dX6_layRooms_3 : decode cX6_layRooms 3 = .ok (.aload_n 0, 1) := by decide +kernel
theorem dX6_layRooms_4 : decode cX6_layRooms 4 = .ok (.getfield 102, 3) := by decide +kernel
theorem dX6_layRooms_7 : decode cX6_layRooms 7 = .ok (.if_icmp .ge 202, 3) := by decide +kernel
theorem dX6_layRooms_10 : decode cX6_layRooms 10 = .ok (.aload_n 0, 1) := by decide +kernel
theorem dX6_layRooms_11 : decode cX6_layRooms 11 = .ok (.getfield 38, 3) := by decide +kernel
theorem dX6_layRooms_14 : decode cX6_layRooms 14 = .ok (.aload_n 0, 1) := by decide +kernel
theorem dX6_layRooms_15 : decode cX6_layRooms 15 = .ok (.getfield 22, 3) := by decide +kernel
theorem dX6_layRooms_18 : decode cX6_layRooms 18 = .ok (.bipush 8, 2) := by decide +kernel
theorem dX6_layRooms_20 : decode cX6_layRooms 20 = .ok (.iload_n 1, 1) := by decide +kernel
theorem dX6_layRooms_21 : decode cX6_layRooms 21 = .ok (.imul, 1) := by decide +kernel
theorem dX6_layRooms_22 : decode cX6_layRooms 22 = .ok (.iaload, 1) := by decide +kernel
theorem dX6_layRooms_23 : decode cX6_layRooms 23 = .ok (.iaload, 1) := by decide +kernel
theorem dX6_layRooms_24 : decode cX6_layRooms 24 = .ok (.istore_n 2, 1) := by decide +kernel
theorem dX6_layRooms_25 : decode cX6_layRooms 25 = .ok (.iload_n 2, 1) := by decide +kernel
theorem dX6_layRooms_26 : decode cX6_layRooms 26 = .ok (.istore_n 3, 1) := by decide +kernel
theorem dX6_layRooms_27 : decode cX6_layRooms 27 = .ok (.aload_n 0, 1) := by decide +kernel
theorem dX6_layRooms_28 : decode cX6_layRooms 28 = .ok (.getfield 41, 3) := by decide +kernel
theorem dX6_layRooms_31 : decode cX6_layRooms 31 = .ok (.aload_n 0, 1) := by decide +kernel
theorem dX6_layRooms_32 : decode cX6_layRooms 32 = .ok (.getfield 22, 3) := by decide +kernel
theorem dX6_layRooms_35 : decode cX6_layRooms 35 = .ok (.bipush 8, 2) := by decide +kernel
theorem dX6_layRooms_37 : decode cX6_layRooms 37 = .ok (.iload_n 1, 1) := by decide +kernel
theorem dX6_layRooms_38 : decode cX6_layRooms 38 = .ok (.imul, 1) := by decide +kernel
theorem dX6_layRooms_39 : decode cX6_layRooms 39 = .ok (.iaload, 1) := by decide +kernel
theorem dX6_layRooms_40 : decode cX6_layRooms 40 = .ok (.iaload, 1) := by decide +kernel
theorem dX6_layRooms_41 : decode cX6_layRooms 41 = .ok (.istore 4, 2) := by decide +kernel
theorem dX6_layRooms_43 : decode cX6_layRooms 43 = .ok (.iload 4, 2) := by decide +kernel
theorem dX6_layRooms_45 : decode cX6_layRooms 45 = .ok (.istore 5, 2) := by decide +kernel
theorem dX6_layRooms_47 : decode cX6_layRooms 47 = .ok (.iconst 1, 1) := by decide +kernel
theorem dX6_layRooms_48 : decode cX6_layRooms 48 = .ok (.istore 6, 2) := by decide +kernel
theorem dX6_layRooms_50 : decode cX6_layRooms 50 = .ok (.iload 6, 2) := by decide +kernel
theorem dX6_layRooms_52 : decode cX6_layRooms 52 = .ok (.aload_n 0, 1) := by decide +kernel
theorem dX6_layRooms_53 : decode cX6_layRooms 53 = .ok (.getfield 19, 3) := by decide +kernel
theorem dX6_layRooms_56 : decode cX6_layRooms 56 = .ok (.iload_n 1, 1) := by decide +kernel
theorem dX6_layRooms_57 : decode cX6_layRooms 57 = .ok (.iaload, 1) := by decide +kernel
theorem dX6_layRooms_58 : decode cX6_layRooms 58 = .ok (.if_icmp .ge 105, 3) := by decide +kernel
theorem dX6_layRooms_61 : decode cX6_layRooms 61 = .ok (.aload_n 0, 1) := by decide +kernel
theorem dX6_layRooms_62 : decode cX6_layRooms 62 = .ok (.getfield 38, 3) := by decide +kernel
theorem dX6_layRooms_65 : decode cX6_layRooms 65 = .ok (.aload_n 0, 1) := by decide +kernel
theorem dX6_layRooms_66 : decode cX6_layRooms 66 = .ok (.getfield 22, 3) := by decide +kernel
theorem dX6_layRooms_69 : decode cX6_layRooms 69 = .ok (.bipush 8, 2) := by decide +kernel
theorem dX6_layRooms_71 : decode cX6_layRooms 71 = .ok (.iload_n 1, 1) := by decide +kernel
theorem dX6_layRooms_72 : decode cX6_layRooms 72 = .ok (.imul, 1) := by decide +kernel
theorem dX6_layRooms_73 : decode cX6_layRooms 73 = .ok (.iload 6, 2) := by decide +kernel
theorem dX6_layRooms_75 : decode cX6_layRooms 75 = .ok (.iadd, 1) := by decide +kernel
theorem dX6_layRooms_76 : decode cX6_layRooms 76 = .ok (.iaload, 1) := by decide +kernel
theorem dX6_layRooms_77 : decode cX6_layRooms 77 = .ok (.iaload, 1) := by decide +kernel
theorem dX6_layRooms_78 : decode cX6_layRooms 78 = .ok (.istore 7, 2) := by decide +kernel
theorem dX6_layRooms_80 : decode cX6_layRooms 80 = .ok (.aload_n 0, 1) := by decide +kernel
theorem dX6_layRooms_81 : decode cX6_layRooms 81 = .ok (.getfield 41, 3) := by decide +kernel
theorem dX6_layRooms_84 : decode cX6_layRooms 84 = .ok (.aload_n 0, 1) := by decide +kernel
theorem dX6_layRooms_85 : decode cX6_layRooms 85 = .ok (.getfield 22, 3) := by decide +kernel
theorem dX6_layRooms_88 : decode cX6_layRooms 88 = .ok (.bipush 8, 2) := by decide +kernel
theorem dX6_layRooms_90 : decode cX6_layRooms 90 = .ok (.iload_n 1, 1) := by decide +kernel
theorem dX6_layRooms_91 : decode cX6_layRooms 91 = .ok (.imul, 1) := by decide +kernel
theorem dX6_layRooms_92 : decode cX6_layRooms 92 = .ok (.iload 6, 2) := by decide +kernel
theorem dX6_layRooms_94 : decode cX6_layRooms 94 = .ok (.iadd, 1) := by decide +kernel
theorem dX6_layRooms_95 : decode cX6_layRooms 95 = .ok (.iaload, 1) := by decide +kernel
theorem dX6_layRooms_96 : decode cX6_layRooms 96 = .ok (.iaload, 1) := by decide +kernel
theorem dX6_layRooms_97 : decode cX6_layRooms 97 = .ok (.istore 8, 2) := by decide +kernel
theorem dX6_layRooms_99 : decode cX6_layRooms 99 = .ok (.iload 7, 2) := by decide +kernel
theorem dX6_layRooms_101 : decode cX6_layRooms 101 = .ok (.iload_n 2, 1) := by decide +kernel
theorem dX6_layRooms_102 : decode cX6_layRooms 102 = .ok (.if_icmp .ge 8, 3) := by decide +kernel
theorem dX6_layRooms_105 : decode cX6_layRooms 105 = .ok (.iload 7, 2) := by decide +kernel
theorem dX6_layRooms_107 : decode cX6_layRooms 107 = .ok (.goto 4, 3) := by decide +kernel
theorem dX6_layRooms_110 : decode cX6_layRooms 110 = .ok (.iload_n 2, 1) := by decide +kernel
theorem dX6_layRooms_111 : decode cX6_layRooms 111 = .ok (.istore_n 2, 1) := by decide +kernel
theorem dX6_layRooms_112 : decode cX6_layRooms 112 = .ok (.iload 7, 2) := by decide +kernel
theorem dX6_layRooms_114 : decode cX6_layRooms 114 = .ok (.iload_n 3, 1) := by decide +kernel
theorem dX6_layRooms_115 : decode cX6_layRooms 115 = .ok (.if_icmp .le 8, 3) := by decide +kernel
theorem dX6_layRooms_118 : decode cX6_layRooms 118 = .ok (.iload 7, 2) := by decide +kernel
theorem dX6_layRooms_120 : decode cX6_layRooms 120 = .ok (.goto 4, 3) := by decide +kernel
theorem dX6_layRooms_123 : decode cX6_layRooms 123 = .ok (.iload_n 3, 1) := by decide +kernel
theorem dX6_layRooms_124 : decode cX6_layRooms 124 = .ok (.istore_n 3, 1) := by decide +kernel
theorem dX6_layRooms_125 : decode cX6_layRooms 125 = .ok (.iload 8, 2) := by decide +kernel
theorem dX6_layRooms_127 : decode cX6_layRooms 127 = .ok (.iload 4, 2) := by decide +kernel
theorem dX6_layRooms_129 : decode cX6_layRooms 129 = .ok (.if_icmp .ge 8, 3) := by decide +kernel
theorem dX6_layRooms_132 : decode cX6_layRooms 132 = .ok (.iload 8, 2) := by decide +kernel
theorem dX6_layRooms_134 : decode cX6_layRooms 134 = .ok (.goto 5, 3) := by decide +kernel
theorem dX6_layRooms_137 : decode cX6_layRooms 137 = .ok (.iload 4, 2) := by decide +kernel
theorem dX6_layRooms_139 : decode cX6_layRooms 139 = .ok (.istore 4, 2) := by decide +kernel
theorem dX6_layRooms_141 : decode cX6_layRooms 141 = .ok (.iload 8, 2) := by decide +kernel
theorem dX6_layRooms_143 : decode cX6_layRooms 143 = .ok (.iload 5, 2) := by decide +kernel
theorem dX6_layRooms_145 : decode cX6_layRooms 145 = .ok (.if_icmp .le 8, 3) := by decide +kernel
theorem dX6_layRooms_148 : decode cX6_layRooms 148 = .ok (.iload 8, 2) := by decide +kernel
theorem dX6_layRooms_150 : decode cX6_layRooms 150 = .ok (.goto 5, 3) := by decide +kernel
theorem dX6_layRooms_153 : decode cX6_layRooms 153 = .ok (.iload 5, 2) := by decide +kernel
theorem dX6_layRooms_155 : decode cX6_layRooms 155 = .ok (.istore 5, 2) := by decide +kernel
theorem dX6_layRooms_157 : decode cX6_layRooms 157 = .ok (.iinc 6 1, 3) := by decide +kernel
theorem dX6_layRooms_160 : decode cX6_layRooms 160 = .ok (.goto (-110), 3) := by decide +kernel
theorem dX6_layRooms_163 : decode cX6_layRooms 163 = .ok (.aload_n 0, 1) := by decide +kernel
theorem dX6_layRooms_164 : decode cX6_layRooms 164 = .ok (.getfield 44, 3) := by decide +kernel
theorem dX6_layRooms_167 : decode cX6_layRooms 167 = .ok (.iload_n 1, 1) := by decide +kernel
theorem dX6_layRooms_168 : decode cX6_layRooms 168 = .ok (.iload_n 3, 1) := by decide +kernel
theorem dX6_layRooms_169 : decode cX6_layRooms 169 = .ok (.iload_n 2, 1) := by decide +kernel
theorem dX6_layRooms_170 : decode cX6_layRooms 170 = .ok (.if_icmp .ne 7, 3) := by decide +kernel
theorem dX6_layRooms_173 : decode cX6_layRooms 173 = .ok (.iconst 1, 1) := by decide +kernel
theorem dX6_layRooms_174 : decode cX6_layRooms 174 = .ok (.goto 6, 3) := by decide +kernel
theorem dX6_layRooms_177 : decode cX6_layRooms 177 = .ok (.iload_n 3, 1) := by decide +kernel
theorem dX6_layRooms_178 : decode cX6_layRooms 178 = .ok (.iload_n 2, 1) := by decide +kernel
theorem dX6_layRooms_179 : decode cX6_layRooms 179 = .ok (.isub, 1) := by decide +kernel
theorem dX6_layRooms_180 : decode cX6_layRooms 180 = .ok (.iastore, 1) := by decide +kernel
theorem dX6_layRooms_181 : decode cX6_layRooms 181 = .ok (.aload_n 0, 1) := by decide +kernel
theorem dX6_layRooms_182 : decode cX6_layRooms 182 = .ok (.getfield 47, 3) := by decide +kernel
theorem dX6_layRooms_185 : decode cX6_layRooms 185 = .ok (.iload_n 1, 1) := by decide +kernel
theorem dX6_layRooms_186 : decode cX6_layRooms 186 = .ok (.iload 5, 2) := by decide +kernel
theorem dX6_layRooms_188 : decode cX6_layRooms 188 = .ok (.iload 4, 2) := by decide +kernel
theorem dX6_layRooms_190 : decode cX6_layRooms 190 = .ok (.if_icmp .ne 7, 3) := by decide +kernel
theorem dX6_layRooms_193 : decode cX6_layRooms 193 = .ok (.iconst 1, 1) := by decide +kernel
theorem dX6_layRooms_194 : decode cX6_layRooms 194 = .ok (.goto 8, 3) := by decide +kernel
theorem dX6_layRooms_197 : decode cX6_layRooms 197 = .ok (.iload 5, 2) := by decide +kernel
theorem dX6_layRooms_199 : decode cX6_layRooms 199 = .ok (.iload 4, 2) := by decide +kernel
theorem dX6_layRooms_201 : decode cX6_layRooms 201 = .ok (.isub, 1) := by decide +kernel
theorem dX6_layRooms_202 : decode cX6_layRooms 202 = .ok (.iastore, 1) := by decide +kernel
theorem dX6_layRooms_203 : decode cX6_layRooms 203 = .ok (.iinc 1 1, 3) := by decide +kernel
theorem dX6_layRooms_206 : decode cX6_layRooms 206 = .ok (.goto (-204), 3) := by decide +kernel
theorem dX6_layRooms_209 : decode cX6_layRooms 209 = .ok (.return_, 1) := by decide +kernel
set_option maxRecDepth 20000 in
theorem ggX6_nextOrder_X6_change : GoodIn wsX6_nextOrder wsX6_change := goodIn_r _ [6, 1, 7, 8, 9, 10, 11, 12, 13, 14, 15, 16, 17, 18, 19, 20, 21, 22, 23, 24, 25, 26, 27, 28, 29, 30] (by decide +kernel) (by decide +kernel)
set_option maxRecDepth 20000 in
theorem gX6_nextOrder_X6_change : GoodIn wsX6_nextOrder (wsV RX6 126 RX6 yX6_change wsX6_change) := goodIn_app (goodIn_of _ (by decide +kernel)) ggX6_nextOrder_X6_change
theorem dX6_nextOrder_0 : decode cX6_nextOrder 0 = .ok (.iload_n 1, 1) := by decide +kernel
theorem dX6_nextOrder_1 : decode cX6_nextOrder 1 = .ok (.iconst 2, 1) := by decide +kernel
theorem dX6_nextOrder_2 : decode cX6_nextOrder 2 = .ok (.isub, 1) := by decide +kernel
theorem dX6_nextOrder_3 : decode cX6_nextOrder 3 = .ok (.istore_n 2, 1) := by decide +kernel
theorem dX6_nextOrder_4 : decode cX6_nextOrder 4 = .ok (.iload_n 2, 1) := by decide +kernel
theorem dX6_nextOrder_5 : decode cX6_nextOrder 5 = .ok (.ifCond .lt 26, 3) := by decide +kernel
theorem dX6_nextOrder_8 : decode cX6_nextOrder 8 = .ok (.aload_n 0, 1) := by decide +kernel
theorem dX6_nextOrder_9 : decode cX6_nextOrder 9 = .ok (.getfield 50, 3) := by decide +kernel
theorem dX6_nextOrder_12 : decode cX6_nextOrder 12 = .ok (.iload_n 2, 1) := by decide +kernel
theorem dX6_nextOrder_13 : decode cX6_nextOrder 13 = .ok (.iaload, 1) := by decide +kernel
theorem dX6_nextOrder_14 : decode cX6_nextOrder 14 = .ok (.aload_n 0, 1) := by decide +kernel
theorem dX6_nextOrder_15 : decode cX6_nextOrder 15 = .ok (.getfield 50, 3) := by decide +kernel
theorem dX6_nextOrder_18 : decode cX6_nextOrder 18 = .ok (.iload_n 2, 1) := by decide +kernel
theorem dX6_nextOrder_19 : decode cX6_nextOrder 19 = .ok (.iconst 1, 1) := by decide +kernel
theorem dX6_nextOrder_20 : decode cX6_nextOrder 20 = .ok (.iadd, 1) := by decide +kernel
theorem dX6_nextOrder_21 : decode cX6_nextOrder 21 = .ok (.iaload, 1) := by decide +kernel
theorem dX6_nextOrder_22 : decode cX6_nextOrder 22 = .ok (.if_icmp .le 9, 3) := by decide +kernel
theorem dX6_nextOrder_25 : decode cX6_nextOrder 25 = .ok (.iinc 2 (-1), 3) := by decide +kernel
theorem dX6_nextOrder_28 : decode cX6_nextOrder 28 = .ok (.goto (-24), 3) := by decide +kernel
theorem dX6_nextOrder_31 : decode cX6_nextOrder 31 = .ok (.iload_n 2, 1) := by decide +kernel
theorem dX6_nextOrder_32 : decode cX6_nextOrder 32 = .ok (.ifCond .ge 5, 3) := by decide +kernel
theorem dX6_nextOrder_35 : decode cX6_nextOrder 35 = .ok (.iconst 0, 1) := by decide +kernel
theorem dX6_nextOrder_36 : decode cX6_nextOrder 36 = .ok (.ireturn, 1) := by decide +kernel
theorem dX6_nextOrder_37 : decode cX6_nextOrder 37 = .ok (.iload_n 1, 1) := by decide +kernel
theorem dX6_nextOrder_38 : decode cX6_nextOrder 38 = .ok (.iconst 1, 1) := by decide +kernel
theorem dX6_nextOrder_39 : decode cX6_nextOrder 39 = .ok (.isub, 1) := by decide +kernel
theorem dX6_nextOrder_40 : decode cX6_nextOrder 40 = .ok (.istore_n 3, 1) := by decide +kernel
theorem dX6_nextOrder_41 : decode cX6_nextOrder 41 = .ok (.aload_n 0, 1) := by decide +kernel
theorem dX6_nextOrder_42 : decode cX6_nextOrder 42 = .ok (.getfield 50, 3) := by decide +kernel
theorem dX6_nextOrder_45 : decode cX6_nextOrder 45 = .ok (.iload_n 3, 1) := by decide +kernel
theorem dX6_nextOrder_46 : decode cX6_nextOrder 46 = .ok (.iaload, 1) := by decide +kernel
theorem dX6_nextOrder_47 : decode cX6_nextOrder 47 = .ok (.aload_n 0, 1) := by decide +kernel
theorem dX6_nextOrder_48 : decode cX6_nextOrder 48 = .ok (.getfield 50, 3) := by decide +kernel
theorem dX6_nextOrder_51 : decode cX6_nextOrder 51 = .ok (.iload_n 2, 1) := by decide +kernel
theorem dX6_nextOrder_52 : decode cX6_nextOrder 52 = .ok (.iaload, 1) := by decide +kernel
theorem dX6_nextOrder_53 : decode cX6_nextOrder 53 = .ok (.if_icmp .ge 9, 3) := by decide +kernel
theorem dX6_nextOrder_56 : decode cX6_nextOrder 56 = .ok (.iinc 3 (-1), 3) := by decide +kernel
theorem dX6_nextOrder_59 : decode cX6_nextOrder 59 = .ok (.goto (-18), 3) := by decide +kernel
theorem dX6_nextOrder_62 : decode cX6_nextOrder 62 = .ok (.aload_n 0, 1) := by decide +kernel
theorem dX6_nextOrder_63 : decode cX6_nextOrder 63 = .ok (.iload_n 2, 1) := by decide +kernel
theorem dX6_nextOrder_64 : decode cX6_nextOrder 64 = .ok (.iload_n 3, 1) := by decide +kernel
theorem dX6_nextOrder_65 : decode cX6_nextOrder 65 = .ok (.invokevirtual 126, 3) := by decide +kernel
theorem dX6_nextOrder_68 : decode cX6_nextOrder 68 = .ok (.iload_n 2, 1) := by decide +kernel
theorem dX6_nextOrder_69 : decode cX6_nextOrder 69 = .ok (.iconst 1, 1) := by decide +kernel
theorem dX6_nextOrder_70 : decode cX6_nextOrder 70 = .ok (.iadd, 1) := by decide +kernel
theorem dX6_nextOrder_71 : decode cX6_nextOrder 71 = .ok (.istore 4, 2) := by decide +kernel
theorem dX6_nextOrder_73 : decode cX6_nextOrder 73 = .ok (.iload_n 1, 1) := by decide +kernel
theorem dX6_nextOrder_74 : decode cX6_nextOrder 74 = .ok (.iconst 1, 1) := by decide +kernel
theorem dX6_nextOrder_75 : decode cX6_nextOrder 75 = .ok (.isub, 1) := by decide +kernel
theorem dX6_nextOrder_76 : decode cX6_nextOrder 76 = .ok (.istore 5, 2) := by decide +kernel
theorem dX6_nextOrder_78 : decode cX6_nextOrder 78 = .ok (.iload 4, 2) := by decide +kernel
theorem dX6_nextOrder_80 : decode cX6_nextOrder 80 = .ok (.iload 5, 2) := by decide +kernel
theorem dX6_nextOrder_82 : decode cX6_nextOrder 82 = .ok (.if_icmp .ge 20, 3) := by decide +kernel
theorem dX6_nextOrder_85 : decode cX6_nextOrder 85 = .ok (.aload_n 0, 1) := by decide +kernel
theorem dX6_nextOrder_86 : decode cX6_nextOrder 86 = .ok (.iload 4, 2) := by decide +kernel
theorem dX6_nextOrder_88 : decode cX6_nextOrder 88 = .ok (.iload 5, 2) := by decide +kernel
theorem dX6_nextOrder_90 : decode cX6_nextOrder 90 = .ok (.invokevirtual 126, 3) := by decide +kernel
theorem dX6_nextOrder_93 : decode cX6_nextOrder 93 = .ok (.iinc 4 1, 3) := by decide +kernel
theorem dX6_nextOrder_96 : decode cX6_nextOrder 96 = .ok (.iinc 5 (-1), 3) := by decide +kernel
theorem dX6_nextOrder_99 : decode cX6_nextOrder 99 = .ok (.goto (-21), 3) := by decide +kernel
theorem dX6_nextOrder_102 : decode cX6_nextOrder 102 = .ok (.iconst 1, 1) := by decide +kernel
theorem dX6_nextOrder_103 : decode cX6_nextOrder 103 = .ok (.ireturn, 1) := by decide +kernel
theorem dX6_change_0 : decode cX6_change 0 = .ok (.aload_n 0, 1) := by decide +kernel
theorem dX6_change_1 : decode cX6_change 1 = .ok (.getfield 50, 3) := by decide +kernel
theorem dX6_change_4 : decode cX6_change 4 = .ok (.iload_n 1, 1) := by decide +kernel
theorem dX6_change_5 : decode cX6_change 5 = .ok (.iaload, 1) := by decide +kernel
theorem dX6_change_6 : decode cX6_change 6 = .ok (.istore_n 3, 1) := by decide +kernel
theorem dX6_change_7 : decode cX6_change 7 = .ok (.aload_n 0, 1) := by decide +kernel
theorem dX6_change_8 : decode cX6_change 8 = .ok (.getfield 50, 3) := by decide +kernel
theorem dX6_change_11 : decode cX6_change 11 = .ok (.iload_n 1, 1) := by decide +kernel
theorem dX6_change_12 : decode cX6_change 12 = .ok (.aload_n 0, 1) := by decide +kernel
theorem dX6_change_13 : decode cX6_change 13 = .ok (.getfield 50, 3) := by decide +kernel
theorem dX6_change_16 : decode cX6_change 16 = .ok (.iload_n 2, 1) := by decide +kernel
theorem dX6_change_17 : decode cX6_change 17 = .ok (.iaload, 1) := by decide +kernel
theorem dX6_change_18 : decode cX6_change 18 = .ok (.iastore, 1) := by decide +kernel
theorem dX6_change_19 : decode cX6_change 19 = .ok (.aload_n 0, 1) := by decide +kernel
theorem dX6_change_20 : decode cX6_change 20 = .ok (.getfield 50, 3) := by decide +kernel
theorem dX6_change_23 : decode cX6_change 23 = .ok (.iload_n 2, 1) := by decide +kernel
theorem dX6_change_24 : decode cX6_change 24 = .ok (.iload_n 3, 1) := by decide +kernel
theorem dX6_change_25 : decode cX6_change 25 = .ok (.iastore, 1) := by decide +kernel
theorem dX6_change_26 : decode cX6_change 26 = .ok (.return_, 1) := by decide +kernel
theorem dX6_endOf_0 : decode cX6_endOf 0 = .ok (.iconst 0, 1) := by decide +kernel
theorem dX6_endOf_1 : decode cX6_endOf 1 = .ok (.istore_n 1, 1) := by decide +kernel
theorem dX6_endOf_2 : decode cX6_endOf 2 = .ok (.iconst 0, 1) := by decide +kernel
theorem dX6_endOf_3 : decode cX6_endOf 3 = .ok (.istore_n 2, 1) := by decide +kernel
theorem dX6_endOf_4 : decode cX6_endOf 4 = .ok (.iconst 0, 1) := by decide +kernel
theorem dX6_endOf_5 : decode cX6_endOf 5 = .ok (.istore_n 3, 1) := by decide +kernel
theorem dX6_endOf_6 : decode cX6_endOf 6 = .ok (.iconst 0, 1) := by decide +kernel
theorem dX6_endOf_7 : decode cX6_endOf 7 = .ok (.istore 4, 2) := by decide +kernel
theorem dX6_endOf_9 : decode cX6_endOf 9 = .ok (.iload 4, 2) := by decide +kernel
theorem dX6_endOf_11 : decode cX6_endOf 11 = .ok (.aload_n 0, 1) := by decide +kernel
theorem dX6_endOf_12 : decode cX6_endOf 12 = .ok (.getfield 102, 3) := by decide +kernel
theorem dX6_endOf_15 : decode cX6_endOf 15 = .ok (.if_icmp .ge 97, 3) := by decide +kernel
theorem dX6_endOf_18 : decode cX6_endOf 18 = .ok (.aload_n 0, 1) := by decide +kernel
theorem dX6_endOf_19 : decode cX6_endOf 19 = .ok (.getfield 50, 3) := by decide +kernel
theorem dX6_endOf_22 : decode cX6_endOf 22 = .ok (.iload 4, 2) := by decide +kernel
theorem dX6_endOf_24 : decode cX6_endOf 24 = .ok (.iaload, 1) := by decide +kernel
theorem dX6_endOf_25 : decode cX6_endOf 25 = .ok (.istore 5, 2) := by decide +kernel
theorem dX6_endOf_27 : decode cX6_endOf 27 = .ok (.iload 4, 2) := by decide +kernel
theorem dX6_endOf_29 : decode cX6_endOf 29 = .ok (.ifCond .le 44, 3) := by decide +kernel
theorem dX6_endOf_32 : decode cX6_endOf 32 = .ok (.iload_n 3, 1) := by decide +kernel
theorem dX6_endOf_33 : decode cX6_endOf 33 = .ok (.aload_n 0, 1) := by decide +kernel
theorem dX6_endOf_34 : decode cX6_endOf 34 = .ok (.getfield 44, 3) := by decide +kernel
theorem dX6_endOf_37 : decode cX6_endOf 37 = .ok (.iload 5, 2) := by decide +kernel
theorem dX6_endOf_39 : decode cX6_endOf 39 = .ok (.iaload, 1) := by decide +kernel
theorem dX6_endOf_40 : decode cX6_endOf 40 = .ok (.iadd, 1) := by decide +kernel
theorem dX6_endOf_41 : decode cX6_endOf 41 = .ok (.aload_n 0, 1) := by decide +kernel
theorem dX6_endOf_42 : decode cX6_endOf 42 = .ok (.getfield 28, 3) := by decide +kernel
theorem dX6_endOf_45 : decode cX6_endOf 45 = .ok (.if_icmp .le 28, 3) := by decide +kernel
theorem dX6_endOf_48 : decode cX6_endOf 48 = .ok (.iload_n 1, 1) := by decide +kernel
theorem dX6_endOf_49 : decode cX6_endOf 49 = .ok (.iload_n 2, 1) := by decide +kernel
theorem dX6_endOf_50 : decode cX6_endOf 50 = .ok (.iadd, 1) := by decide +kernel
theorem dX6_endOf_51 : decode cX6_endOf 51 = .ok (.aload_n 0, 1) := by decide +kernel
theorem dX6_endOf_52 : decode cX6_endOf 52 = .ok (.getfield 32, 3) := by decide +kernel
theorem dX6_endOf_55 : decode cX6_endOf 55 = .ok (.iadd, 1) := by decide +kernel
theorem dX6_endOf_56 : decode cX6_endOf 56 = .ok (.iconst 1, 1) := by decide +kernel
theorem dX6_endOf_57 : decode cX6_endOf 57 = .ok (.isub, 1) := by decide +kernel
theorem dX6_endOf_58 : decode cX6_endOf 58 = .ok (.aload_n 0, 1) := by decide +kernel
theorem dX6_endOf_59 : decode cX6_endOf 59 = .ok (.getfield 32, 3) := by decide +kernel
theorem dX6_endOf_62 : decode cX6_endOf 62 = .ok (.idiv, 1) := by decide +kernel
theorem dX6_endOf_63 : decode cX6_endOf 63 = .ok (.aload_n 0, 1) := by decide +kernel
theorem dX6_endOf_64 : decode cX6_endOf 64 = .ok (.getfield 32, 3) := by decide +kernel
theorem dX6_endOf_67 : decode cX6_endOf 67 = .ok (.imul, 1) := by decide +kernel
theorem dX6_endOf_68 : decode cX6_endOf 68 = .ok (.istore_n 1, 1) := by decide +kernel
theorem dX6_endOf_69 : decode cX6_endOf 69 = .ok (.iconst 0, 1) := by decide +kernel
theorem dX6_endOf_70 : decode cX6_endOf 70 = .ok (.istore_n 2, 1) := by decide +kernel
theorem dX6_endOf_71 : decode cX6_endOf 71 = .ok (.iconst 0, 1) := by decide +kernel
theorem dX6_endOf_72 : decode cX6_endOf 72 = .ok (.istore_n 3, 1) := by decide +kernel
theorem dX6_endOf_73 : decode cX6_endOf 73 = .ok (.iload_n 3, 1) := by decide +kernel
theorem dX6_endOf_74 : decode cX6_endOf 74 = .ok (.aload_n 0, 1) := by decide +kernel
theorem dX6_endOf_75 : decode cX6_endOf 75 = .ok (.getfield 44, 3) := by decide +kernel
theorem dX6_endOf_78 : decode cX6_endOf 78 = .ok (.iload 5, 2) := by decide +kernel
theorem dX6_endOf_80 : decode cX6_endOf 80 = .ok (.iaload, 1) := by decide +kernel
theorem dX6_endOf_81 : decode cX6_endOf 81 = .ok (.iadd, 1) := by decide +kernel
theorem dX6_endOf_82 : decode cX6_endOf 82 = .ok (.istore_n 3, 1) := by decide +kernel
theorem dX6_endOf_83 : decode cX6_endOf 83 = .ok (.aload_n 0, 1) := by decide +kernel
theorem dX6_endOf_84 : decode cX6_endOf 84 = .ok (.getfield 47, 3) := by decide +kernel
theorem dX6_endOf_87 : decode cX6_endOf 87 = .ok (.iload 5, 2) := by decide +kernel
theorem dX6_endOf_89 : decode cX6_endOf 89 = .ok (.iaload, 1) := by decide +kernel
theorem dX6_endOf_90 : decode cX6_endOf 90 = .ok (.iload_n 2, 1) := by decide +kernel
theorem dX6_endOf_91 : decode cX6_endOf 91 = .ok (.if_icmp .le 13, 3) := by decide +kernel
theorem dX6_endOf_94 : decode cX6_endOf 94 = .ok (.aload_n 0, 1) := by decide +kernel
theorem dX6_endOf_95 : decode cX6_endOf 95 = .ok (.getfield 47, 3) := by decide +kernel
theorem dX6_endOf_98 : decode cX6_endOf 98 = .ok (.iload 5, 2) := by decide +kernel
theorem dX6_endOf_100 : decode cX6_endOf 100 = .ok (.iaload, 1) := by decide +kernel
theorem dX6_endOf_101 : decode cX6_endOf 101 = .ok (.goto 4, 3) := by decide +kernel
theorem dX6_endOf_104 : decode cX6_endOf 104 = .ok (.iload_n 2, 1) := by decide +kernel
theorem dX6_endOf_105 : decode cX6_endOf 105 = .ok (.istore_n 2, 1) := by decide +kernel
theorem dX6_endOf_106 : decode cX6_endOf 106 = .ok (.iinc 4 1, 3) := by decide +kernel
theorem dX6_endOf_109 : decode cX6_endOf 109 = .ok (.goto (-100), 3) := by decide +kernel
theorem dX6_endOf_112 : decode cX6_endOf 112 = .ok (.iload_n 1, 1) := by decide +kernel
theorem dX6_endOf_113 : decode cX6_endOf 113 = .ok (.iload_n 2, 1) := by decide +kernel
theorem dX6_endOf_114 : decode cX6_endOf 114 = .ok (.iadd, 1) := by decide +kernel
theorem dX6_endOf_115 : decode cX6_endOf 115 = .ok (.ireturn, 1) := by decide +kernel
theorem dX6_keepOrder_0 : decode cX6_keepOrder 0 = .ok (.iconst 0, 1) := by decide +kernel
theorem dX6_keepOrder_1 : decode cX6_keepOrder 1 = .ok (.istore_n 2, 1) := by decide +kernel
theorem dX6_keepOrder_2 : decode cX6_keepOrder 2 = .ok (.iload_n 2, 1) := by decide +kernel
theorem dX6_keepOrder_3 : decode cX6_keepOrder 3 = .ok (.iload_n 1, 1) := by decide +kernel
theorem dX6_keepOrder_4 : decode cX6_keepOrder 4 = .ok (.if_icmp .ge 21, 3) := by decide +kernel
theorem dX6_keepOrder_7 : decode cX6_keepOrder 7 = .ok (.aload_n 0, 1) := by decide +kernel
theorem dX6_keepOrder_8 : decode cX6_keepOrder 8 = .ok (.getfield 53, 3) := by decide +kernel
theorem dX6_keepOrder_11 : decode cX6_keepOrder 11 = .ok (.iload_n 2, 1) := by decide +kernel
theorem dX6_keepOrder_12 : decode cX6_keepOrder 12 = .ok (.aload_n 0, 1) := by decide +kernel
theorem dX6_keepOrder_13 : decode cX6_keepOrder 13 = .ok (.getfield 50, 3) := by decide +kernel
theorem dX6_keepOrder_16 : decode cX6_keepOrder 16 = .ok (.iload_n 2, 1) := by decide +kernel
theorem dX6_keepOrder_17 : decode cX6_keepOrder 17 = .ok (.iaload, 1) := by decide +kernel
theorem dX6_keepOrder_18 : decode cX6_keepOrder 18 = .ok (.iastore, 1) := by decide +kernel
theorem dX6_keepOrder_19 : decode cX6_keepOrder 19 = .ok (.iinc 2 1, 3) := by decide +kernel
theorem dX6_keepOrder_22 : decode cX6_keepOrder 22 = .ok (.goto (-20), 3) := by decide +kernel
theorem dX6_keepOrder_25 : decode cX6_keepOrder 25 = .ok (.return_, 1) := by decide +kernel
theorem dX6_firstOrder_0 : decode cX6_firstOrder 0 = .ok (.iconst 0, 1) := by decide +kernel
theorem dX6_firstOrder_1 : decode cX6_firstOrder 1 = .ok (.istore_n 2, 1) := by decide +kernel
theorem dX6_firstOrder_2 : decode cX6_firstOrder 2 = .ok (.iload_n 2, 1) := by decide +kernel
theorem dX6_firstOrder_3 : decode cX6_firstOrder 3 = .ok (.iload_n 1, 1) := by decide +kernel
theorem dX6_firstOrder_4 : decode cX6_firstOrder 4 = .ok (.if_icmp .ge 16, 3) := by decide +kernel
theorem dX6_firstOrder_7 : decode cX6_firstOrder 7 = .ok (.aload_n 0, 1) := by decide +kernel
theorem dX6_firstOrder_8 : decode cX6_firstOrder 8 = .ok (.getfield 50, 3) := by decide +kernel
theorem dX6_firstOrder_11 : decode cX6_firstOrder 11 = .ok (.iload_n 2, 1) := by decide +kernel
theorem dX6_firstOrder_12 : decode cX6_firstOrder 12 = .ok (.iload_n 2, 1) := by decide +kernel
theorem dX6_firstOrder_13 : decode cX6_firstOrder 13 = .ok (.iastore, 1) := by decide +kernel
theorem dX6_firstOrder_14 : decode cX6_firstOrder 14 = .ok (.iinc 2 1, 3) := by decide +kernel
theorem dX6_firstOrder_17 : decode cX6_firstOrder 17 = .ok (.goto (-15), 3) := by decide +kernel
theorem dX6_firstOrder_20 : decode cX6_firstOrder 20 = .ok (.return_, 1) := by decide +kernel
set_option maxRecDepth 20000 in
theorem ggX6_lay_X6_layPoints : GoodIn wsX6_lay wsX6_layPoints := goodIn_r _ [8, 9, 10, 11, 12, 13, 14, 15, 7, 16, 17, 18, 19, 20, 21, 22, 23, 24, 25, 26, 27, 28, 29, 30, 31, 62, 63, 64, 65, 66, 67, 68, 69, 70, 71, 72, 73, 74, 75, 76, 77, 78, 79, 80, 81, 82, 83, 84, 85] (by decide +kernel) (by decide +kernel)
set_option maxRecDepth 20000 in
theorem gX6_lay_X6_layPoints : GoodIn wsX6_lay (wsV RX6 98 RX6 yX6_layPoints wsX6_layPoints) := goodIn_app (goodIn_of _ (by decide +kernel)) ggX6_lay_X6_layPoints
set_option maxRecDepth 20000 in
theorem ggX6_lay_X6_layRooms : GoodIn wsX6_lay wsX6_layRooms := goodIn_r _ [35, 1, 11, 36, 12, 37, 2, 38, 62, 63, 64, 65, 66, 67, 68, 69, 70, 71, 72, 73, 74, 75, 76, 77, 78, 79, 80, 81, 82, 83, 84, 85] (by decide +kernel) (by decide +kernel)
set_option maxRecDepth 20000 in
theorem gX6_lay_X6_layRooms : GoodIn wsX6_lay (wsV RX6 130 RX6 yX6_layRooms wsX6_layRooms) := goodIn_app (goodIn_of _ (by decide +kernel)) ggX6_lay_X6_layRooms
set_option maxRecDepth 20000 in
theorem ggX6_lay_X6_firstOrder : GoodIn wsX6_lay wsX6_firstOrder := goodIn_r _ [42, 43, 62, 63, 64, 65, 66, 67, 68, 69, 70, 71, 72, 73, 74, 75, 76, 77, 78, 79, 80, 81, 82, 83, 84, 85] (by decide +kernel) (by decide +kernel)
set_option maxRecDepth 20000 in
theorem gX6_lay_X6_firstOrder : GoodIn wsX6_lay (wsV RX6 133 RX6 yX6_firstOrder wsX6_firstOrder) := goodIn_app (goodIn_of _ (by decide +kernel)) ggX6_lay_X6_firstOrder
set_option maxRecDepth 20000 in
theorem ggX6_lay_X6_endOf : GoodIn wsX6_lay wsX6_endOf := goodIn_r _ [47, 1, 43, 2, 3, 48, 38, 62, 63, 64, 65, 66, 67, 68, 69, 70, 71, 72, 73, 74, 75, 76, 77, 78, 79, 80, 81, 82, 83, 84, 85] (by decide +kernel) (by decide +kernel)
set_option maxRecDepth 20000 in
theorem gX6_lay_X6_endOf : GoodIn wsX6_lay (wsV RX6 136 RX6 yX6_endOf wsX6_endOf) := goodIn_app (goodIn_of _ (by decide +kernel)) ggX6_lay_X6_endOf
set_option maxRecDepth 20000 in
theorem ggX6_lay_X6_keepOrder : GoodIn wsX6_lay wsX6_keepOrder := goodIn_r _ [52, 53, 43, 62, 63, 64, 65, 66, 67, 68, 69, 70, 71, 72, 73, 74, 75, 76, 77, 78, 79, 80, 81, 82, 83, 84, 85] (by decide +kernel) (by decide +kernel)
set_option maxRecDepth 20000 in
theorem gX6_lay_X6_keepOrder : GoodIn wsX6_lay (wsV RX6 140 RX6 yX6_keepOrder wsX6_keepOrder) := goodIn_app (goodIn_of _ (by decide +kernel)) ggX6_lay_X6_keepOrder
set_option maxRecDepth 20000 in
theorem ggX6_lay_X6_nextOrder : GoodIn wsX6_lay wsX6_nextOrder := goodIn_r _ [57, 43, 58, 59, 60, 7, 61, 62, 63, 64, 65, 66, 67, 68, 69, 70, 71, 72, 73, 74, 75, 76, 77, 78, 79, 80, 81, 82, 83, 84, 85] (by decide +kernel) (by decide +kernel)
set_option maxRecDepth 20000 in
theorem gX6_lay_X6_nextOrder : GoodIn wsX6_lay (wsV RX6 143 RX6 yX6_nextOrder wsX6_nextOrder) := goodIn_app (goodIn_of _ (by decide +kernel)) ggX6_lay_X6_nextOrder
theorem dX6_lay_0 : decode cX6_lay 0 = .ok (.aload_n 0, 1) := by decide +kernel
theorem dX6_lay_1 : decode cX6_lay 1 = .ok (.iload_n 1, 1) := by decide +kernel
theorem dX6_lay_2 : decode cX6_lay 2 = .ok (.invokevirtual 98, 3) := by decide +kernel
theorem dX6_lay_5 : decode cX6_lay 5 = .ok (.aload_n 0, 1) := by decide +kernel
theorem dX6_lay_6 : decode cX6_lay 6 = .ok (.invokevirtual 130, 3) := by decide +kernel
theorem dX6_lay_9 : decode cX6_lay 9 = .ok (.iconst 0, 1) := by decide +kernel
theorem dX6_lay_10 : decode cX6_lay 10 = .ok (.istore_n 2, 1) := by decide +kernel
theorem dX6_lay_11 : decode cX6_lay 11 = .ok (.iload_n 2, 1) := by decide +kernel
theorem dX6_lay_12 : decode cX6_lay 12 = .ok (.aload_n 0, 1) := by decide +kernel
theorem dX6_lay_13 : decode cX6_lay 13 = .ok (.getfield 102, 3) := by decide +kernel
theorem dX6_lay_16 : decode cX6_lay 16 = .ok (.if_icmp .ge 24, 3) := by decide +kernel
theorem dX6_lay_19 : decode cX6_lay 19 = .ok (.aload_n 0, 1) := by decide +kernel
theorem dX6_lay_20 : decode cX6_lay 20 = .ok (.getfield 44, 3) := by decide +kernel
theorem dX6_lay_23 : decode cX6_lay 23 = .ok (.iload_n 2, 1) := by decide +kernel
theorem dX6_lay_24 : decode cX6_lay 24 = .ok (.iaload, 1) := by decide +kernel
theorem dX6_lay_25 : decode cX6_lay 25 = .ok (.aload_n 0, 1) := by decide +kernel
theorem dX6_lay_26 : decode cX6_lay 26 = .ok (.getfield 28, 3) := by decide +kernel
theorem dX6_lay_29 : decode cX6_lay 29 = .ok (.if_icmp .le 5, 3) := by decide +kernel
theorem dX6_lay_32 : decode cX6_lay 32 = .ok (.iconst (-1), 1) := by decide +kernel
theorem dX6_lay_33 : decode cX6_lay 33 = .ok (.ireturn, 1) := by decide +kernel
theorem dX6_lay_34 : decode cX6_lay 34 = .ok (.iinc 2 1, 3) := by decide +kernel
theorem dX6_lay_37 : decode cX6_lay 37 = .ok (.goto (-26), 3) := by decide +kernel
theorem dX6_lay_40 : decode cX6_lay 40 = .ok (.aload_n 0, 1) := by decide +kernel
theorem dX6_lay_41 : decode cX6_lay 41 = .ok (.aload_n 0, 1) := by decide +kernel
theorem dX6_lay_42 : decode cX6_lay 42 = .ok (.getfield 102, 3) := by decide +kernel
theorem dX6_lay_45 : decode cX6_lay 45 = .ok (.invokevirtual 133, 3) := by decide +kernel
theorem dX6_lay_48 : decode cX6_lay 48 = .ok (.aload_n 0, 1) := by decide +kernel
theorem dX6_lay_49 : decode cX6_lay 49 = .ok (.invokevirtual 136, 3) := by decide +kernel
theorem dX6_lay_52 : decode cX6_lay 52 = .ok (.istore_n 2, 1) := by decide +kernel
theorem dX6_lay_53 : decode cX6_lay 53 = .ok (.aload_n 0, 1) := by decide +kernel
theorem dX6_lay_54 : decode cX6_lay 54 = .ok (.aload_n 0, 1) := by decide +kernel
theorem dX6_lay_55 : decode cX6_lay 55 = .ok (.getfield 102, 3) := by decide +kernel
theorem dX6_lay_58 : decode cX6_lay 58 = .ok (.invokevirtual 140, 3) := by decide +kernel
theorem dX6_lay_61 : decode cX6_lay 61 = .ok (.aload_n 0, 1) := by decide +kernel
theorem dX6_lay_62 : decode cX6_lay 62 = .ok (.aload_n 0, 1) := by decide +kernel
theorem dX6_lay_63 : decode cX6_lay 63 = .ok (.getfield 102, 3) := by decide +kernel
theorem dX6_lay_66 : decode cX6_lay 66 = .ok (.invokevirtual 143, 3) := by decide +kernel
theorem dX6_lay_69 : decode cX6_lay 69 = .ok (.ifCond .eq 26, 3) := by decide +kernel
theorem dX6_lay_72 : decode cX6_lay 72 = .ok (.aload_n 0, 1) := by decide +kernel
theorem dX6_lay_73 : decode cX6_lay 73 = .ok (.invokevirtual 136, 3) := by decide +kernel
theorem dX6_lay_76 : decode cX6_lay 76 = .ok (.istore_n 3, 1) := by decide +kernel
theorem dX6_lay_77 : decode cX6_lay 77 = .ok (.iload_n 3, 1) := by decide +kernel
theorem dX6_lay_78 : decode cX6_lay 78 = .ok (.iload_n 2, 1) := by decide +kernel
theorem dX6_lay_79 : decode cX6_lay 79 = .ok (.if_icmp .ge 13, 3) := by decide +kernel
theorem dX6_lay_82 : decode cX6_lay 82 = .ok (.iload_n 3, 1) := by decide +kernel
theorem dX6_lay_83 : decode cX6_lay 83 = .ok (.istore_n 2, 1) := by decide +kernel
theorem dX6_lay_84 : decode cX6_lay 84 = .ok (.aload_n 0, 1) := by decide +kernel
theorem dX6_lay_85 : decode cX6_lay 85 = .ok (.aload_n 0, 1) := by decide +kernel
theorem dX6_lay_86 : decode cX6_lay 86 = .ok (.getfield 102, 3) := by decide +kernel
theorem dX6_lay_89 : decode cX6_lay 89 = .ok (.invokevirtual 140, 3) := by decide +kernel
theorem dX6_lay_92 : decode cX6_lay 92 = .ok (.goto (-31), 3) := by decide +kernel
theorem dX6_lay_95 : decode cX6_lay 95 = .ok (.iload_n 2, 1) := by decide +kernel
theorem dX6_lay_96 : decode cX6_lay 96 = .ok (.ireturn, 1) := by decide +kernel
set_option maxRecDepth 20000 in
theorem ggX6_laid_X6_isBody : GoodIn wsX6_laid wsX6_isBody := goodIn_r _ [5, 6, 7, 4, 8] (by decide +kernel) (by decide +kernel)
set_option maxRecDepth 20000 in
theorem gX6_laid_X6_isBody : GoodIn wsX6_laid (va_wsS RX6 64 yX6_isBody wsX6_isBody) := goodIn_app (goodIn_of _ (by decide +kernel)) ggX6_laid_X6_isBody
set_option maxRecDepth 20000 in
theorem ggX6_laid_X6_lay : GoodIn wsX6_laid wsX6_lay := goodIn_r _ [12, 1, 13, 14, 15, 16, 17, 4, 18, 19, 20, 21, 22, 23, 24, 25, 26, 27, 28, 29, 30, 31, 32, 33, 34, 35, 36, 37, 38, 39, 40, 41, 42, 43, 44, 45, 46, 47, 48, 49, 50, 51, 52, 53, 54, 55, 56, 57, 58, 59, 60, 61, 62, 63, 64, 65, 66, 67, 68, 69, 70, 71, 72, 73, 74, 75, 76, 77, 78, 79, 80, 81, 82, 83, 84, 85, 86, 87, 88, 89, 90, 91, 92, 93, 94, 95] (by decide +kernel) (by decide +kernel)
set_option maxRecDepth 20000 in
theorem gX6_laid_X6_lay : GoodIn wsX6_laid (wsV RX6 146 RX6 yX6_lay wsX6_lay) := goodIn_app (goodIn_of _ (by decide +kernel)) ggX6_laid_X6_lay
theorem dX6_laid_0 : decode cX6_laid 0 = .ok (.iload_n 1, 1) := by decide +kernel
theorem dX6_laid_1 : decode cX6_laid 1 = .ok (.invokestatic 64, 3) := by decide +kernel
theorem dX6_laid_4 : decode cX6_laid 4 = .ok (.ifCond .ne 8, 3) := by decide +kernel
theorem dX6_laid_7 : decode cX6_laid 7 = .ok (.bipush (-2), 2) := by decide +kernel
theorem dX6_laid_9 : decode cX6_laid 9 = .ok (.goto 20, 3) := by decide +kernel
theorem dX6_laid_12 : decode cX6_laid 12 = .ok (.aload_n 0, 1) := by decide +kernel
theorem dX6_laid_13 : decode cX6_laid 13 = .ok (.getfield 102, 3) := by decide +kernel
theorem dX6_laid_16 : decode cX6_laid 16 = .ok (.ifCond .ne 8, 3) := by decide +kernel
theorem dX6_laid_19 : decode cX6_laid 19 = .ok (.bipush (-3), 2) := by decide +kernel
theorem dX6_laid_21 : decode cX6_laid 21 = .ok (.goto 8, 3) := by decide +kernel
theorem dX6_laid_24 : decode cX6_laid 24 = .ok (.aload_n 0, 1) := by decide +kernel
theorem dX6_laid_25 : decode cX6_laid 25 = .ok (.iload_n 1, 1) := by decide +kernel
theorem dX6_laid_26 : decode cX6_laid 26 = .ok (.invokevirtual 146, 3) := by decide +kernel
theorem dX6_laid_29 : decode cX6_laid 29 = .ok (.ireturn, 1) := by decide +kernel
set_option maxRecDepth 20000 in
theorem ggX6_laidAt_X6_isBody : GoodIn wsX6_laidAt wsX6_isBody := goodIn_r _ [6, 7, 8, 5, 9] (by decide +kernel) (by decide +kernel)
set_option maxRecDepth 20000 in
theorem gX6_laidAt_X6_isBody : GoodIn wsX6_laidAt (va_wsS RX6 64 yX6_isBody wsX6_isBody) := goodIn_app (goodIn_of _ (by decide +kernel)) ggX6_laidAt_X6_isBody
set_option maxRecDepth 20000 in
theorem ggX6_laidAt_X6_lay : GoodIn wsX6_laidAt wsX6_lay := goodIn_r _ [13, 1, 14, 15, 16, 17, 18, 5, 19, 20, 21, 22, 23, 24, 25, 26, 27, 28, 29, 30, 31, 32, 33, 34, 35, 36, 37, 38, 39, 40, 41, 42, 43, 44, 45, 46, 47, 48, 49, 50, 51, 52, 53, 54, 55, 56, 57, 58, 59, 60, 61, 62, 63, 2, 64, 65, 66, 67, 68, 69, 70, 71, 72, 73, 74, 75, 76, 77, 78, 79, 80, 81, 82, 83, 84, 85, 86, 87, 88, 89, 90, 91, 92, 93, 94, 95] (by decide +kernel) (by decide +kernel)
set_option maxRecDepth 20000 in
theorem gX6_laidAt_X6_lay : GoodIn wsX6_laidAt (wsV RX6 146 RX6 yX6_lay wsX6_lay) := goodIn_app (goodIn_of _ (by decide +kernel)) ggX6_laidAt_X6_lay
set_option maxRecDepth 20000 in
theorem ggX6_laidAt_X6_in : GoodIn wsX6_laidAt wsX6_in := goodIn_r _ [9] (by decide +kernel) (by decide +kernel)
set_option maxRecDepth 20000 in
theorem gX6_laidAt_X6_in : GoodIn wsX6_laidAt (va_wsS RX6 56 yX6_in wsX6_in) := goodIn_app (goodIn_of _ (by decide +kernel)) ggX6_laidAt_X6_in
theorem dX6_laidAt_0 : decode cX6_laidAt 0 = .ok (.iload_n 1, 1) := by decide +kernel
theorem dX6_laidAt_1 : decode cX6_laidAt 1 = .ok (.invokestatic 64, 3) := by decide +kernel
theorem dX6_laidAt_4 : decode cX6_laidAt 4 = .ok (.ifCond .ne 6, 3) := by decide +kernel
theorem dX6_laidAt_7 : decode cX6_laidAt 7 = .ok (.bipush (-2), 2) := by decide +kernel
theorem dX6_laidAt_9 : decode cX6_laidAt 9 = .ok (.ireturn, 1) := by decide +kernel
theorem dX6_laidAt_10 : decode cX6_laidAt 10 = .ok (.aload_n 0, 1) := by decide +kernel
theorem dX6_laidAt_11 : decode cX6_laidAt 11 = .ok (.getfield 102, 3) := by decide +kernel
theorem dX6_laidAt_14 : decode cX6_laidAt 14 = .ok (.ifCond .ne 6, 3) := by decide +kernel
theorem dX6_laidAt_17 : decode cX6_laidAt 17 = .ok (.bipush (-3), 2) := by decide +kernel
theorem dX6_laidAt_19 : decode cX6_laidAt 19 = .ok (.ireturn, 1) := by decide +kernel
theorem dX6_laidAt_20 : decode cX6_laidAt 20 = .ok (.aload_n 0, 1) := by decide +kernel
theorem dX6_laidAt_21 : decode cX6_laidAt 21 = .ok (.iload_n 1, 1) := by decide +kernel
theorem dX6_laidAt_22 : decode cX6_laidAt 22 = .ok (.invokevirtual 146, 3) := by decide +kernel
theorem dX6_laidAt_25 : decode cX6_laidAt 25 = .ok (.iconst (-1), 1) := by decide +kernel
theorem dX6_laidAt_26 : decode cX6_laidAt 26 = .ok (.if_icmp .eq 17, 3) := by decide +kernel
theorem dX6_laidAt_29 : decode cX6_laidAt 29 = .ok (.iload_n 2, 1) := by decide +kernel
theorem dX6_laidAt_30 : decode cX6_laidAt 30 = .ok (.iconst 0, 1) := by decide +kernel
theorem dX6_laidAt_31 : decode cX6_laidAt 31 = .ok (.aload_n 0, 1) := by decide +kernel
theorem dX6_laidAt_32 : decode cX6_laidAt 32 = .ok (.getfield 102, 3) := by decide +kernel
theorem dX6_laidAt_35 : decode cX6_laidAt 35 = .ok (.iconst 1, 1) := by decide +kernel
theorem dX6_laidAt_36 : decode cX6_laidAt 36 = .ok (.isub, 1) := by decide +kernel
theorem dX6_laidAt_37 : decode cX6_laidAt 37 = .ok (.invokestatic 56, 3) := by decide +kernel
theorem dX6_laidAt_40 : decode cX6_laidAt 40 = .ok (.ifCond .ne 7, 3) := by decide +kernel
theorem dX6_laidAt_43 : decode cX6_laidAt 43 = .ok (.iconst (-1), 1) := by decide +kernel
theorem dX6_laidAt_44 : decode cX6_laidAt 44 = .ok (.goto 9, 3) := by decide +kernel
theorem dX6_laidAt_47 : decode cX6_laidAt 47 = .ok (.aload_n 0, 1) := by decide +kernel
theorem dX6_laidAt_48 : decode cX6_laidAt 48 = .ok (.getfield 53, 3) := by decide +kernel
theorem dX6_laidAt_51 : decode cX6_laidAt 51 = .ok (.iload_n 2, 1) := by decide +kernel
theorem dX6_laidAt_52 : decode cX6_laidAt 52 = .ok (.iaload, 1) := by decide +kernel
theorem dX6_laidAt_53 : decode cX6_laidAt 53 = .ok (.ireturn, 1) := by decide +kernel
set_option maxRecDepth 20000 in
theorem ggX6_isHours_X6_in : GoodIn wsX6_isHours wsX6_in := goodIn_r _ [4] (by decide +kernel) (by decide +kernel)
set_option maxRecDepth 20000 in
theorem gX6_isHours_X6_in : GoodIn wsX6_isHours (va_wsS RX6 56 yX6_in wsX6_in) := goodIn_app (goodIn_of _ (by decide +kernel)) ggX6_isHours_X6_in
theorem dX6_isHours_0 : decode cX6_isHours 0 = .ok (.iload_n 0, 1) := by decide +kernel
theorem dX6_isHours_1 : decode cX6_isHours 1 = .ok (.iconst 1, 1) := by decide +kernel
theorem dX6_isHours_2 : decode cX6_isHours 2 = .ok (.bipush 50, 2) := by decide +kernel
theorem dX6_isHours_4 : decode cX6_isHours 4 = .ok (.invokestatic 56, 3) := by decide +kernel
theorem dX6_isHours_7 : decode cX6_isHours 7 = .ok (.ireturn, 1) := by decide +kernel
set_option maxRecDepth 20000 in
theorem ggX6_coat_X6_isHours : GoodIn wsX6_coat wsX6_isHours := goodIn_r _ [6, 7, 8, 5, 9] (by decide +kernel) (by decide +kernel)
set_option maxRecDepth 20000 in
theorem gX6_coat_X6_isHours : GoodIn wsX6_coat (va_wsS RX6 150 yX6_isHours wsX6_isHours) := goodIn_app (goodIn_of _ (by decide +kernel)) ggX6_coat_X6_isHours
set_option maxRecDepth 20000 in
theorem ggX6_coat_X6_in : GoodIn wsX6_coat wsX6_in := goodIn_r _ [9] (by decide +kernel) (by decide +kernel)
set_option maxRecDepth 20000 in
theorem gX6_coat_X6_in : GoodIn wsX6_coat (va_wsS RX6 56 yX6_in wsX6_in) := goodIn_app (goodIn_of _ (by decide +kernel)) ggX6_coat_X6_in
theorem dX6_coat_0 : decode cX6_coat 0 = .ok (.iload_n 1, 1) := by decide +kernel
theorem dX6_coat_1 : decode cX6_coat 1 = .ok (.invokestatic 150, 3) := by decide +kernel
theorem dX6_coat_4 : decode cX6_coat 4 = .ok (.ifCond .eq 29, 3) := by decide +kernel
theorem dX6_coat_7 : decode cX6_coat 7 = .ok (.iload_n 2, 1) := by decide +kernel
theorem dX6_coat_8 : decode cX6_coat 8 = .ok (.invokestatic 150, 3) := by decide +kernel
theorem dX6_coat_11 : decode cX6_coat 11 = .ok (.ifCond .eq 22, 3) := by decide +kernel
theorem dX6_coat_14 : decode cX6_coat 14 = .ok (.iload_n 3, 1) := by decide +kernel
theorem dX6_coat_15 : decode cX6_coat 15 = .ok (.invokestatic 150, 3) := by decide +kernel
theorem dX6_coat_18 : decode cX6_coat 18 = .ok (.ifCond .eq 15, 3) := by decide +kernel
theorem dX6_coat_21 : decode cX6_coat 21 = .ok (.iload 4, 2) := by decide +kernel
theorem dX6_coat_23 : decode cX6_coat 23 = .ok (.iconst 0, 1) := by decide +kernel
theorem dX6_coat_24 : decode cX6_coat 24 = .ok (.sipush 1000, 3) := by decide +kernel
theorem dX6_coat_27 : decode cX6_coat 27 = .ok (.invokestatic 56, 3) := by decide +kernel
theorem dX6_coat_30 : decode cX6_coat 30 = .ok (.ifCond .ne 6, 3) := by decide +kernel
theorem dX6_coat_33 : decode cX6_coat 33 = .ok (.bipush (-2), 2) := by decide +kernel
theorem dX6_coat_35 : decode cX6_coat 35 = .ok (.ireturn, 1) := by decide +kernel
theorem dX6_coat_36 : decode cX6_coat 36 = .ok (.aload_n 0, 1) := by decide +kernel
theorem dX6_coat_37 : decode cX6_coat 37 = .ok (.getfield 153, 3) := by decide +kernel
theorem dX6_coat_40 : decode cX6_coat 40 = .ok (.bipush 6, 2) := by decide +kernel
theorem dX6_coat_42 : decode cX6_coat 42 = .ok (.if_icmp .ne 6, 3) := by decide +kernel
theorem dX6_coat_45 : decode cX6_coat 45 = .ok (.bipush (-4), 2) := by decide +kernel
theorem dX6_coat_47 : decode cX6_coat 47 = .ok (.ireturn, 1) := by decide +kernel
theorem dX6_coat_48 : decode cX6_coat 48 = .ok (.aload_n 0, 1) := by decide +kernel
theorem dX6_coat_49 : decode cX6_coat 49 = .ok (.getfield 35, 3) := by decide +kernel
theorem dX6_coat_52 : decode cX6_coat 52 = .ok (.iconst 4, 1) := by decide +kernel
theorem dX6_coat_53 : decode cX6_coat 53 = .ok (.aload_n 0, 1) := by decide +kernel
theorem dX6_coat_54 : decode cX6_coat 54 = .ok (.getfield 153, 3) := by decide +kernel
theorem dX6_coat_57 : decode cX6_coat 57 = .ok (.imul, 1) := by decide +kernel
theorem dX6_coat_58 : decode cX6_coat 58 = .ok (.iload_n 1, 1) := by decide +kernel
theorem dX6_coat_59 : decode cX6_coat 59 = .ok (.iastore, 1) := by decide +kernel
theorem dX6_coat_60 : decode cX6_coat 60 = .ok (.aload_n 0, 1) := by decide +kernel
theorem dX6_coat_61 : decode cX6_coat 61 = .ok (.getfield 35, 3) := by decide +kernel
theorem dX6_coat_64 : decode cX6_coat 64 = .ok (.iconst 4, 1) := by decide +kernel
theorem dX6_coat_65 : decode cX6_coat 65 = .ok (.aload_n 0, 1) := by decide +kernel
theorem dX6_coat_66 : decode cX6_coat 66 = .ok (.getfield 153, 3) := by decide +kernel
theorem dX6_coat_69 : decode cX6_coat 69 = .ok (.imul, 1) := by decide +kernel
theorem dX6_coat_70 : decode cX6_coat 70 = .ok (.iconst 1, 1) := by decide +kernel
theorem dX6_coat_71 : decode cX6_coat 71 = .ok (.iadd, 1) := by decide +kernel
theorem dX6_coat_72 : decode cX6_coat 72 = .ok (.iload_n 2, 1) := by decide +kernel
theorem dX6_coat_73 : decode cX6_coat 73 = .ok (.iastore, 1) := by decide +kernel
theorem dX6_coat_74 : decode cX6_coat 74 = .ok (.aload_n 0, 1) := by decide +kernel
theorem dX6_coat_75 : decode cX6_coat 75 = .ok (.getfield 35, 3) := by decide +kernel
theorem dX6_coat_78 : decode cX6_coat 78 = .ok (.iconst 4, 1) := by decide +kernel
theorem dX6_coat_79 : decode cX6_coat 79 = .ok (.aload_n 0, 1) := by decide +kernel
theorem dX6_coat_80 : decode cX6_coat 80 = .ok (.getfield 153, 3) := by decide +kernel
theorem dX6_coat_83 : decode cX6_coat 83 = .ok (.imul, 1) := by decide +kernel
theorem dX6_coat_84 : decode cX6_coat 84 = .ok (.iconst 2, 1) := by decide +kernel
theorem dX6_coat_85 : decode cX6_coat 85 = .ok (.iadd, 1) := by decide +kernel
theorem dX6_coat_86 : decode cX6_coat 86 = .ok (.iload_n 3, 1) := by decide +kernel
theorem dX6_coat_87 : decode cX6_coat 87 = .ok (.iastore, 1) := by decide +kernel
theorem dX6_coat_88 : decode cX6_coat 88 = .ok (.aload_n 0, 1) := by decide +kernel
theorem dX6_coat_89 : decode cX6_coat 89 = .ok (.getfield 35, 3) := by decide +kernel
theorem dX6_coat_92 : decode cX6_coat 92 = .ok (.iconst 4, 1) := by decide +kernel
theorem dX6_coat_93 : decode cX6_coat 93 = .ok (.aload_n 0, 1) := by decide +kernel
theorem dX6_coat_94 : decode cX6_coat 94 = .ok (.getfield 153, 3) := by decide +kernel
