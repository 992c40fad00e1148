set_option maxRecDepth 20000 in
theorem ggX5_laidAt_X5_within : GoodIn wsX5_laidAt wsX5_within := goodIn_r _ [14] (by decide +kernel) (by decide +kernel)
set_option maxRecDepth 20000 in
theorem gX5_laidAt_X5_within : GoodIn wsX5_laidAt (va_wsS RX5 58 yX5_within wsX5_within) := goodIn_app (goodIn_of _ (by decide +kernel)) ggX5_laidAt_X5_within
theorem dX5_laidAt_0 : decode cX5_laidAt 0 = .ok (.aload_n 0, 1) := by decide +kernel
theorem dX5_laidAt_1 : decode cX5_laidAt 1 = .ok (.iload_n 1, 1) := by decide +kernel
theorem dX5_laidAt_2 : decode cX5_laidAt 2 = .ok (.invokevirtual 139, 3) := by decide +kernel
theorem dX5_laidAt_5 : decode cX5_laidAt 5 = .ok (.istore_n 3, 1) := by decide +kernel
theorem dX5_laidAt_6 : decode cX5_laidAt 6 = .ok (.iload_n 3, 1) := by decide +kernel
theorem dX5_laidAt_7 : decode cX5_laidAt 7 = .ok (.ifCond .ge 5, 3) := by decide +kernel
theorem dX5_laidAt_10 : decode cX5_laidAt 10 = .ok (.iload_n 3, 1) := by decide +kernel
theorem dX5_laidAt_11 : decode cX5_laidAt 11 = .ok (.ireturn, 1) := by decide +kernel
theorem dX5_laidAt_12 : decode cX5_laidAt 12 = .ok (.iload_n 2, 1) := by decide +kernel
theorem dX5_laidAt_13 : decode cX5_laidAt 13 = .ok (.iconst 0, 1) := by decide +kernel
theorem dX5_laidAt_14 : decode cX5_laidAt 14 = .ok (.aload_n 0, 1) := by decide +kernel
theorem dX5_laidAt_15 : decode cX5_laidAt 15 = .ok (.getfield 30, 3) := by decide +kernel
theorem dX5_laidAt_18 : decode cX5_laidAt 18 = .ok (.getfield 142, 3) := by decide +kernel
theorem dX5_laidAt_21 : decode cX5_laidAt 21 = .ok (.iconst 1, 1) := by decide +kernel
theorem dX5_laidAt_22 : decode cX5_laidAt 22 = .ok (.isub, 1) := by decide +kernel
theorem dX5_laidAt_23 : decode cX5_laidAt 23 = .ok (.invokestatic 58, 3) := by decide +kernel
theorem dX5_laidAt_26 : decode cX5_laidAt 26 = .ok (.ifCond .eq 15, 3) := by decide +kernel
theorem dX5_laidAt_29 : decode cX5_laidAt 29 = .ok (.aload_n 0, 1) := by decide +kernel
theorem dX5_laidAt_30 : decode cX5_laidAt 30 = .ok (.getfield 37, 3) := by decide +kernel
theorem dX5_laidAt_33 : decode cX5_laidAt 33 = .ok (.getfield 146, 3) := by decide +kernel
theorem dX5_laidAt_36 : decode cX5_laidAt 36 = .ok (.iload_n 2, 1) := by decide +kernel
theorem dX5_laidAt_37 : decode cX5_laidAt 37 = .ok (.iaload, 1) := by decide +kernel
theorem dX5_laidAt_38 : decode cX5_laidAt 38 = .ok (.goto 4, 3) := by decide +kernel
theorem dX5_laidAt_41 : decode cX5_laidAt 41 = .ok (.iconst (-1), 1) := by decide +kernel
theorem dX5_laidAt_42 : decode cX5_laidAt 42 = .ok (.ireturn, 1) := by decide +kernel
set_option maxRecDepth 20000 in
theorem ggX5_coat_X5_isHours : GoodIn wsX5_coat wsX5_isHours := goodIn_r _ [5, 6, 7, 4, 8] (by decide +kernel) (by decide +kernel)
set_option maxRecDepth 20000 in
theorem gX5_coat_X5_isHours : GoodIn wsX5_coat (va_wsS RX5 149 yX5_isHours wsX5_isHours) := goodIn_app (goodIn_of _ (by decide +kernel)) ggX5_coat_X5_isHours
set_option maxRecDepth 20000 in
theorem ggX5_coat_X5_within : GoodIn wsX5_coat wsX5_within := goodIn_r _ [8] (by decide +kernel) (by decide +kernel)
set_option maxRecDepth 20000 in
theorem gX5_coat_X5_within : GoodIn wsX5_coat (va_wsS RX5 58 yX5_within wsX5_within) := goodIn_app (goodIn_of _ (by decide +kernel)) ggX5_coat_X5_within
set_option maxRecDepth 20000 in
theorem ggX5_coat_X4_addCoat : GoodIn wsX5_coat wsX4_addCoat := goodIn_r _ [13, 14, 15, 16, 17, 18, 24, 25, 26, 27, 28, 29, 30, 31, 32, 33] (by decide +kernel) (by decide +kernel)
set_option maxRecDepth 20000 in
theorem gX5_coat_X4_addCoat : GoodIn wsX5_coat (wsV RX5 152 RX4 yX4_addCoat wsX4_addCoat) := goodIn_app (goodIn_of _ (by decide +kernel)) ggX5_coat_X4_addCoat
theorem dX5_coat_0 : decode cX5_coat 0 = .ok (.iload_n 1, 1) := by decide +kernel
theorem dX5_coat_1 : decode cX5_coat 1 = .ok (.invokestatic 149, 3) := by decide +kernel
theorem dX5_coat_4 : decode cX5_coat 4 = .ok (.ifCond .eq 17, 3) := by decide +kernel
theorem dX5_coat_7 : decode cX5_coat 7 = .ok (.iload_n 2, 1) := by decide +kernel
theorem dX5_coat_8 : decode cX5_coat 8 = .ok (.invokestatic 149, 3) := by decide +kernel
theorem dX5_coat_11 : decode cX5_coat 11 = .ok (.ifCond .eq 10, 3) := by decide +kernel
theorem dX5_coat_14 : decode cX5_coat 14 = .ok (.iload_n 3, 1) := by decide +kernel
theorem dX5_coat_15 : decode cX5_coat 15 = .ok (.invokestatic 149, 3) := by decide +kernel
theorem dX5_coat_18 : decode cX5_coat 18 = .ok (.ifCond .ne 6, 3) := by decide +kernel
theorem dX5_coat_21 : decode cX5_coat 21 = .ok (.bipush (-2), 2) := by decide +kernel
theorem dX5_coat_23 : decode cX5_coat 23 = .ok (.ireturn, 1) := by decide +kernel
theorem dX5_coat_24 : decode cX5_coat 24 = .ok (.iload 4, 2) := by decide +kernel
theorem dX5_coat_26 : decode cX5_coat 26 = .ok (.iconst 0, 1) := by decide +kernel
theorem dX5_coat_27 : decode cX5_coat 27 = .ok (.sipush 1000, 3) := by decide +kernel
theorem dX5_coat_30 : decode cX5_coat 30 = .ok (.invokestatic 58, 3) := by decide +kernel
theorem dX5_coat_33 : decode cX5_coat 33 = .ok (.ifCond .ne 6, 3) := by decide +kernel
theorem dX5_coat_36 : decode cX5_coat 36 = .ok (.bipush (-2), 2) := by decide +kernel
theorem dX5_coat_38 : decode cX5_coat 38 = .ok (.ireturn, 1) := by decide +kernel
theorem dX5_coat_39 : decode cX5_coat 39 = .ok (.aload_n 0, 1) := by decide +kernel
theorem dX5_coat_40 : decode cX5_coat 40 = .ok (.getfield 44, 3) := by decide +kernel
theorem dX5_coat_43 : decode cX5_coat 43 = .ok (.iload_n 1, 1) := by decide +kernel
theorem dX5_coat_44 : decode cX5_coat 44 = .ok (.iload_n 2, 1) := by decide +kernel
theorem dX5_coat_45 : decode cX5_coat 45 = .ok (.iload_n 3, 1) := by decide +kernel
theorem dX5_coat_46 : decode cX5_coat 46 = .ok (.iload 4, 2) := by decide +kernel
theorem dX5_coat_48 : decode cX5_coat 48 = .ok (.invokevirtual 152, 3) := by decide +kernel
theorem dX5_coat_51 : decode cX5_coat 51 = .ok (.ireturn, 1) := by decide +kernel
theorem dX5_clear_0 : decode cX5_clear 0 = .ok (.aload_n 0, 1) := by decide +kernel
theorem dX5_clear_1 : decode cX5_clear 1 = .ok (.getfield 44, 3) := by decide +kernel
theorem dX5_clear_4 : decode cX5_clear 4 = .ok (.getfield 155, 3) := by decide +kernel
theorem dX5_clear_7 : decode cX5_clear 7 = .ok (.istore_n 1, 1) := by decide +kernel
theorem dX5_clear_8 : decode cX5_clear 8 = .ok (.aload_n 0, 1) := by decide +kernel
theorem dX5_clear_9 : decode cX5_clear 9 = .ok (.getfield 44, 3) := by decide +kernel
theorem dX5_clear_12 : decode cX5_clear 12 = .ok (.iconst 0, 1) := by decide +kernel
theorem dX5_clear_13 : decode cX5_clear 13 = .ok (.putfield 155, 3) := by decide +kernel
theorem dX5_clear_16 : decode cX5_clear 16 = .ok (.iload_n 1, 1) := by decide +kernel
theorem dX5_clear_17 : decode cX5_clear 17 = .ok (.ireturn, 1) := by decide +kernel
set_option maxRecDepth 20000 in
theorem ggX5_best_X5_within : GoodIn wsX5_best wsX5_within := goodIn_r _ [5] (by decide +kernel) (by decide +kernel)
set_option maxRecDepth 20000 in
theorem gX5_best_X5_within : GoodIn wsX5_best (va_wsS RX5 58 yX5_within wsX5_within) := goodIn_app (goodIn_of _ (by decide +kernel)) ggX5_best_X5_within
set_option maxRecDepth 20000 in
theorem ggX5_best_X4_findOrder : GoodIn wsX5_best wsX4_findOrder := goodIn_r _ [10, 11, 12, 13, 14, 15, 16, 17, 18, 9, 19, 20, 21, 22, 23, 24, 25, 26, 27, 28, 29, 30, 31, 32, 33, 39, 40, 41, 42, 43, 44, 45, 46, 47, 48] (by decide +kernel) (by decide +kernel)
set_option maxRecDepth 20000 in
theorem gX5_best_X4_findOrder : GoodIn wsX5_best (wsV RX5 158 RX4 yX4_findOrder wsX4_findOrder) := goodIn_app (goodIn_of _ (by decide +kernel)) ggX5_best_X4_findOrder
theorem dX5_best_0 : decode cX5_best 0 = .ok (.iload_n 1, 1) := by decide +kernel
theorem dX5_best_1 : decode cX5_best 1 = .ok (.iconst 0, 1) := by decide +kernel
theorem dX5_best_2 : decode cX5_best 2 = .ok (.iconst 1, 1) := by decide +kernel
theorem dX5_best_3 : decode cX5_best 3 = .ok (.invokestatic 58, 3) := by decide +kernel
theorem dX5_best_6 : decode cX5_best 6 = .ok (.ifCond .ne 6, 3) := by decide +kernel
theorem dX5_best_9 : decode cX5_best 9 = .ok (.bipush (-2), 2) := by decide +kernel
theorem dX5_best_11 : decode cX5_best 11 = .ok (.ireturn, 1) := by decide +kernel
theorem dX5_best_12 : decode cX5_best 12 = .ok (.aload_n 0, 1) := by decide +kernel
theorem dX5_best_13 : decode cX5_best 13 = .ok (.getfield 44, 3) := by decide +kernel
theorem dX5_best_16 : decode cX5_best 16 = .ok (.invokevirtual 158, 3) := by decide +kernel
theorem dX5_best_19 : decode cX5_best 19 = .ok (.iload_n 1, 1) := by decide +kernel
theorem dX5_best_20 : decode cX5_best 20 = .ok (.ifCond .ne 13, 3) := by decide +kernel
theorem dX5_best_23 : decode cX5_best 23 = .ok (.aload_n 0, 1) := by decide +kernel
theorem dX5_best_24 : decode cX5_best 24 = .ok (.getfield 44, 3) := by decide +kernel
theorem dX5_best_27 : decode cX5_best 27 = .ok (.getfield 161, 3) := by decide +kernel
theorem dX5_best_30 : decode cX5_best 30 = .ok (.goto 10, 3) := by decide +kernel
theorem dX5_best_33 : decode cX5_best 33 = .ok (.aload_n 0, 1) := by decide +kernel
theorem dX5_best_34 : decode cX5_best 34 = .ok (.getfield 44, 3) := by decide +kernel
theorem dX5_best_37 : decode cX5_best 37 = .ok (.getfield 164, 3) := by decide +kernel
theorem dX5_best_40 : decode cX5_best 40 = .ok (.ireturn, 1) := by decide +kernel
set_option maxRecDepth 20000 in
theorem ggX5_coatAt_X5_within : GoodIn wsX5_coatAt wsX5_within := goodIn_r _ [5] (by decide +kernel) (by decide +kernel)
set_option maxRecDepth 20000 in
theorem gX5_coatAt_X5_within : GoodIn wsX5_coatAt (va_wsS RX5 58 yX5_within wsX5_within) := goodIn_app (goodIn_of _ (by decide +kernel)) ggX5_coatAt_X5_within
set_option maxRecDepth 20000 in
theorem ggX5_coatAt_X4_findOrder : GoodIn wsX5_coatAt wsX4_findOrder := goodIn_r _ [10, 11, 12, 13, 14, 15, 16, 17, 18, 9, 19, 20, 21, 22, 23, 24, 25, 26, 27, 28, 29, 30, 31, 32, 33, 39, 40, 41, 42, 43, 44, 45, 46, 47, 48] (by decide +kernel) (by decide +kernel)
set_option maxRecDepth 20000 in
theorem gX5_coatAt_X4_findOrder : GoodIn wsX5_coatAt (wsV RX5 158 RX4 yX4_findOrder wsX4_findOrder) := goodIn_app (goodIn_of _ (by decide +kernel)) ggX5_coatAt_X4_findOrder
theorem dX5_coatAt_0 : decode cX5_coatAt 0 = .ok (.iload_n 1, 1) := by decide +kernel
theorem dX5_coatAt_1 : decode cX5_coatAt 1 = .ok (.iconst 0, 1) := by decide +kernel
theorem dX5_coatAt_2 : decode cX5_coatAt 2 = .ok (.aload_n 0, 1) := by decide +kernel
theorem dX5_coatAt_3 : decode cX5_coatAt 3 = .ok (.getfield 44, 3) := by decide +kernel
theorem dX5_coatAt_6 : decode cX5_coatAt 6 = .ok (.getfield 155, 3) := by decide +kernel
theorem dX5_coatAt_9 : decode cX5_coatAt 9 = .ok (.iconst 1, 1) := by decide +kernel
theorem dX5_coatAt_10 : decode cX5_coatAt 10 = .ok (.isub, 1) := by decide +kernel
theorem dX5_coatAt_11 : decode cX5_coatAt 11 = .ok (.invokestatic 58, 3) := by decide +kernel
theorem dX5_coatAt_14 : decode cX5_coatAt 14 = .ok (.ifCond .ne 5, 3) := by decide +kernel
theorem dX5_coatAt_17 : decode cX5_coatAt 17 = .ok (.iconst (-1), 1) := by decide +kernel
theorem dX5_coatAt_18 : decode cX5_coatAt 18 = .ok (.ireturn, 1) := by decide +kernel
theorem dX5_coatAt_19 : decode cX5_coatAt 19 = .ok (.aload_n 0, 1) := by decide +kernel
theorem dX5_coatAt_20 : decode cX5_coatAt 20 = .ok (.getfield 44, 3) := by decide +kernel
theorem dX5_coatAt_23 : decode cX5_coatAt 23 = .ok (.invokevirtual 158, 3) := by decide +kernel
theorem dX5_coatAt_26 : decode cX5_coatAt 26 = .ok (.aload_n 0, 1) := by decide +kernel
theorem dX5_coatAt_27 : decode cX5_coatAt 27 = .ok (.getfield 44, 3) := by decide +kernel
theorem dX5_coatAt_30 : decode cX5_coatAt 30 = .ok (.getfield 167, 3) := by decide +kernel
theorem dX5_coatAt_33 : decode cX5_coatAt 33 = .ok (.iload_n 1, 1) := by decide +kernel
theorem dX5_coatAt_34 : decode cX5_coatAt 34 = .ok (.iaload, 1) := by decide +kernel
theorem dX5_coatAt_35 : decode cX5_coatAt 35 = .ok (.ireturn, 1) := by decide +kernel
theorem dX5_count_0 : decode cX5_count 0 = .ok (.iload_n 1, 1) := by decide +kernel
theorem dX5_count_1 : decode cX5_count 1 = .ok (.tableswitch 75 0 4 #[35, 43, 51, 59, 67], 35) := by decide +kernel
theorem dX5_count_36 : decode cX5_count 36 = .ok (.aload_n 0, 1) := by decide +kernel
theorem dX5_count_37 : decode cX5_count 37 = .ok (.getfield 12, 3) := by decide +kernel
theorem dX5_count_40 : decode cX5_count 40 = .ok (.getfield 168, 3) := by decide +kernel
theorem dX5_count_43 : decode cX5_count 43 = .ok (.ireturn, 1) := by decide +kernel
theorem dX5_count_44 : decode cX5_count 44 = .ok (.aload_n 0, 1) := by decide +kernel
theorem dX5_count_45 : decode cX5_count 45 = .ok (.getfield 21, 3) := by decide +kernel
theorem dX5_count_48 : decode cX5_count 48 = .ok (.getfield 171, 3) := by decide +kernel
theorem dX5_count_51 : decode cX5_count 51 = .ok (.ireturn, 1) := by decide +kernel
theorem dX5_count_52 : decode cX5_count 52 = .ok (.aload_n 0, 1) := by decide +kernel
theorem dX5_count_53 : decode cX5_count 53 = .ok (.getfield 30, 3) := by decide +kernel
theorem dX5_count_56 : decode cX5_count 56 = .ok (.getfield 142, 3) := by decide +kernel
theorem dX5_count_59 : decode cX5_count 59 = .ok (.ireturn, 1) := by decide +kernel
theorem dX5_count_60 : decode cX5_count 60 = .ok (.aload_n 0, 1) := by decide +kernel
theorem dX5_count_61 : decode cX5_count 61 = .ok (.getfield 30, 3) := by decide +kernel
theorem dX5_count_64 : decode cX5_count 64 = .ok (.getfield 174, 3) := by decide +kernel
theorem dX5_count_67 : decode cX5_count 67 = .ok (.ireturn, 1) := by decide +kernel
theorem dX5_count_68 : decode cX5_count 68 = .ok (.aload_n 0, 1) := by decide +kernel
theorem dX5_count_69 : decode cX5_count 69 = .ok (.getfield 44, 3) := by decide +kernel
theorem dX5_count_72 : decode cX5_count 72 = .ok (.getfield 155, 3) := by decide +kernel
theorem dX5_count_75 : decode cX5_count 75 = .ok (.ireturn, 1) := by decide +kernel
theorem dX5_count_76 : decode cX5_count 76 = .ok (.bipush (-2), 2) := by decide +kernel
theorem dX5_count_78 : decode cX5_count 78 = .ok (.ireturn, 1) := by decide +kernel
set_option maxRecDepth 20000 in
theorem ggX5_digest_X5_count : GoodIn wsX5_digest wsX5_count := goodIn_r _ [10, 3, 2, 4, 5, 105, 106, 107, 108, 109, 110, 111, 112, 113, 114, 115, 116, 117, 118, 119, 120, 121, 122, 123, 124, 125, 126, 127, 128, 129, 130, 131, 132, 133, 134, 135, 136, 137, 138, 139, 140, 141, 142] (by decide +kernel) (by decide +kernel)
set_option maxRecDepth 20000 in
theorem gX5_digest_X5_count : GoodIn wsX5_digest (wsV RX5 179 RX5 yX5_count wsX5_count) := goodIn_app (goodIn_of _ (by decide +kernel)) ggX5_digest_X5_count
set_option maxRecDepth 20000 in
theorem ggX5_digest_X5_mix : GoodIn wsX5_digest wsX5_mix := goodIn_r _ [13, 14] (by decide +kernel) (by decide +kernel)
set_option maxRecDepth 20000 in
theorem gX5_digest_X5_mix : GoodIn wsX5_digest (va_wsS RX5 182 yX5_mix wsX5_mix) := goodIn_app (goodIn_of _ (by decide +kernel)) ggX5_digest_X5_mix
set_option maxRecDepth 20000 in
theorem ggX5_digest_X0_workOut : GoodIn wsX5_digest wsX0_workOut := goodIn_r _ [19, 20, 21, 22, 23, 24, 25, 26, 27, 28, 29, 30, 31, 32, 33, 34, 35, 36, 37, 38, 39, 40, 41, 42, 43, 44, 45, 46, 47, 9, 48, 49, 50, 51, 18, 52, 53, 54, 55, 56, 57, 58, 59, 60, 61, 62, 63, 64, 65, 66, 67, 117, 118, 119, 120, 121, 122, 123, 124, 125, 126, 110, 111, 112, 113, 114, 115, 116] (by decide +kernel) (by decide +kernel)
set_option maxRecDepth 20000 in
theorem gX5_digest_X0_workOut : GoodIn wsX5_digest (wsV RX5 90 RX0 yX0_workOut wsX0_workOut) := goodIn_app (goodIn_of _ (by decide +kernel)) ggX5_digest_X0_workOut
set_option maxRecDepth 20000 in
theorem ggX5_digest_X3_mixMeasures : GoodIn wsX5_digest wsX3_mixMeasures := goodIn_r _ [71, 72, 24, 25, 26, 27, 28, 29, 30, 31, 32, 33, 34, 35, 36, 37, 38, 39, 40, 41, 42, 43, 44, 45, 46, 47, 9, 48, 12, 13, 14, 110, 111, 112, 113, 114, 115, 116] (by decide +kernel) (by decide +kernel)
set_option maxRecDepth 20000 in
theorem gX5_digest_X3_mixMeasures : GoodIn wsX5_digest (wsV RX5 186 RX3 yX3_mixMeasures wsX3_mixMeasures) := goodIn_app (goodIn_of _ (by decide +kernel)) ggX5_digest_X3_mixMeasures
set_option maxRecDepth 20000 in
theorem ggX5_digest_X0_mixPoints : GoodIn wsX5_digest wsX0_mixPoints := goodIn_r _ [76, 22, 58, 59, 12, 9, 13, 14, 117, 118, 119, 120, 121, 122, 123, 124, 125, 126] (by decide +kernel) (by decide +kernel)
set_option maxRecDepth 20000 in
theorem gX5_digest_X0_mixPoints : GoodIn wsX5_digest (wsV RX5 190 RX0 yX0_mixPoints wsX0_mixPoints) := goodIn_app (goodIn_of _ (by decide +kernel)) ggX5_digest_X0_mixPoints
set_option maxRecDepth 20000 in
theorem ggX5_digest_X1_mixPieces : GoodIn wsX5_digest wsX1_mixPieces := goodIn_r _ [81, 82, 83, 12, 9, 13, 14, 84, 85, 86, 80, 87, 88, 127, 128, 129, 130, 131, 132] (by decide +kernel) (by decide +kernel)
set_option maxRecDepth 20000 in
theorem gX5_digest_X1_mixPieces : GoodIn wsX5_digest (wsV RX5 193 RX1 yX1_mixPieces wsX1_mixPieces) := goodIn_app (goodIn_of _ (by decide +kernel)) ggX5_digest_X1_mixPieces
set_option maxRecDepth 20000 in
theorem ggX5_digest_X1_mixSeams : GoodIn wsX5_digest wsX1_mixSeams := goodIn_r _ [92, 93, 94, 12, 9, 13, 14, 127, 128, 129, 130, 131, 132] (by decide +kernel) (by decide +kernel)
set_option maxRecDepth 20000 in
theorem gX5_digest_X1_mixSeams : GoodIn wsX5_digest (wsV RX5 196 RX1 yX1_mixSeams wsX1_mixSeams) := goodIn_app (goodIn_of _ (by decide +kernel)) ggX5_digest_X1_mixSeams
set_option maxRecDepth 20000 in
theorem ggX5_digest_X4_mixCoats : GoodIn wsX5_digest wsX4_mixCoats := goodIn_r _ [99, 100, 101, 102, 103, 104, 12, 9, 13, 14, 133, 134, 135, 136, 137, 138, 139, 140, 141, 142] (by decide +kernel) (by decide +kernel)
set_option maxRecDepth 20000 in
theorem gX5_digest_X4_mixCoats : GoodIn wsX5_digest (wsV RX5 199 RX4 yX4_mixCoats wsX4_mixCoats) := goodIn_app (goodIn_of _ (by decide +kernel)) ggX5_digest_X4_mixCoats
theorem dX5_digest_0 : decode cX5_digest 0 = .ok (.ldc2_w 177, 3) := by decide +kernel
theorem dX5_digest_3 : decode cX5_digest 3 = .ok (.lstore_n 1, 1) := by decide +kernel
theorem dX5_digest_4 : decode cX5_digest 4 = .ok (.iconst 0, 1) := by decide +kernel
theorem dX5_digest_5 : decode cX5_digest 5 = .ok (.istore_n 3, 1) := by decide +kernel
theorem dX5_digest_6 : decode cX5_digest 6 = .ok (.iload_n 3, 1) := by decide +kernel
theorem dX5_digest_7 : decode cX5_digest 7 = .ok (.iconst 4, 1) := by decide +kernel
theorem dX5_digest_8 : decode cX5_digest 8 = .ok (.if_icmp .gt 20, 3) := by decide +kernel
theorem dX5_digest_11 : decode cX5_digest 11 = .ok (.lload_n 1, 1) := by decide +kernel
theorem dX5_digest_12 : decode cX5_digest 12 = .ok (.aload_n 0, 1) := by decide +kernel
theorem dX5_digest_13 : decode cX5_digest 13 = .ok (.iload_n 3, 1) := by decide +kernel
theorem dX5_digest_14 : decode cX5_digest 14 = .ok (.invokevirtual 179, 3) := by decide +kernel
theorem dX5_digest_17 : decode cX5_digest 17 = .ok (.i2l, 1) := by decide +kernel
theorem dX5_digest_18 : decode cX5_digest 18 = .ok (.invokestatic 182, 3) := by decide +kernel
theorem dX5_digest_21 : decode cX5_digest 21 = .ok (.lstore_n 1, 1) := by decide +kernel
theorem dX5_digest_22 : decode cX5_digest 22 = .ok (.iinc 3 1, 3) := by decide +kernel
theorem dX5_digest_25 : decode cX5_digest 25 = .ok (.goto (-19), 3) := by decide +kernel
theorem dX5_digest_28 : decode cX5_digest 28 = .ok (.aload_n 0, 1) := by decide +kernel
theorem dX5_digest_29 : decode cX5_digest 29 = .ok (.getfield 21, 3) := by decide +kernel
theorem dX5_digest_32 : decode cX5_digest 32 = .ok (.iconst 0, 1) := by decide +kernel
theorem dX5_digest_33 : decode cX5_digest 33 = .ok (.invokevirtual 90, 3) := by decide +kernel
theorem dX5_digest_36 : decode cX5_digest 36 = .ok (.aload_n 0, 1) := by decide +kernel
theorem dX5_digest_37 : decode cX5_digest 37 = .ok (.getfield 12, 3) := by decide +kernel
theorem dX5_digest_40 : decode cX5_digest 40 = .ok (.lload_n 1, 1) := by decide +kernel
theorem dX5_digest_41 : decode cX5_digest 41 = .ok (.invokevirtual 186, 3) := by decide +kernel
theorem dX5_digest_44 : decode cX5_digest 44 = .ok (.lstore_n 1, 1) := by decide +kernel
theorem dX5_digest_45 : decode cX5_digest 45 = .ok (.aload_n 0, 1) := by decide +kernel
theorem dX5_digest_46 : decode cX5_digest 46 = .ok (.getfield 21, 3) := by decide +kernel
theorem dX5_digest_49 : decode cX5_digest 49 = .ok (.lload_n 1, 1) := by decide +kernel
theorem dX5_digest_50 : decode cX5_digest 50 = .ok (.invokevirtual 190, 3) := by decide +kernel
theorem dX5_digest_53 : decode cX5_digest 53 = .ok (.lstore_n 1, 1) := by decide +kernel
theorem dX5_digest_54 : decode cX5_digest 54 = .ok (.aload_n 0, 1) := by decide +kernel
theorem dX5_digest_55 : decode cX5_digest 55 = .ok (.getfield 30, 3) := by decide +kernel
theorem dX5_digest_58 : decode cX5_digest 58 = .ok (.lload_n 1, 1) := by decide +kernel
theorem dX5_digest_59 : decode cX5_digest 59 = .ok (.invokevirtual 193, 3) := by decide +kernel
theorem dX5_digest_62 : decode cX5_digest 62 = .ok (.lstore_n 1, 1) := by decide +kernel
theorem dX5_digest_63 : decode cX5_digest 63 = .ok (.aload_n 0, 1) := by decide +kernel
theorem dX5_digest_64 : decode cX5_digest 64 = .ok (.getfield 30, 3) := by decide +kernel
theorem dX5_digest_67 : decode cX5_digest 67 = .ok (.lload_n 1, 1) := by decide +kernel
theorem dX5_digest_68 : decode cX5_digest 68 = .ok (.invokevirtual 196, 3) := by decide +kernel
theorem dX5_digest_71 : decode cX5_digest 71 = .ok (.lstore_n 1, 1) := by decide +kernel
theorem dX5_digest_72 : decode cX5_digest 72 = .ok (.aload_n 0, 1) := by decide +kernel
theorem dX5_digest_73 : decode cX5_digest 73 = .ok (.getfield 44, 3) := by decide +kernel
theorem dX5_digest_76 : decode cX5_digest 76 = .ok (.lload_n 1, 1) := by decide +kernel
theorem dX5_digest_77 : decode cX5_digest 77 = .ok (.invokevirtual 199, 3) := by decide +kernel
theorem dX5_digest_80 : decode cX5_digest 80 = .ok (.lreturn, 1) := by decide +kernel
set_option maxRecDepth 20000 in
theorem ggX5_layAll_X5_isBody : GoodIn wsX5_layAll wsX5_isBody := goodIn_r _ [7, 8, 9, 6, 10] (by decide +kernel) (by decide +kernel)
set_option maxRecDepth 20000 in
theorem gX5_layAll_X5_isBody : GoodIn wsX5_layAll (va_wsS RX5 52 yX5_isBody wsX5_isBody) := goodIn_app (goodIn_of _ (by decide +kernel)) ggX5_layAll_X5_isBody
set_option maxRecDepth 20000 in
theorem ggX5_layAll_X0_workOut : GoodIn wsX5_layAll wsX0_workOut := goodIn_r _ [15, 16, 17, 18, 19, 20, 21, 22, 23, 24, 25, 26, 27, 28, 29, 30, 31, 32, 33, 34, 35, 36, 37, 38, 39, 40, 41, 42, 43, 6, 44, 45, 46, 47, 14, 48, 49, 50, 51, 52, 53, 54, 55, 56, 57, 58, 59, 60, 61, 62, 63, 130, 131, 132, 133, 134, 135, 136, 137, 138, 139, 140, 141, 142, 143, 144, 145, 146] (by decide +kernel) (by decide +kernel)
set_option maxRecDepth 20000 in
theorem gX5_layAll_X0_workOut : GoodIn wsX5_layAll (wsV RX5 90 RX0 yX0_workOut wsX0_workOut) := goodIn_app (goodIn_of _ (by decide +kernel)) ggX5_layAll_X0_workOut
set_option maxRecDepth 20000 in
theorem ggX5_layAll_X2_layLeast : GoodIn wsX5_layAll wsX2_layLeast := goodIn_r _ [68, 69, 70, 71, 72, 73, 74, 75, 76, 77, 78, 79, 80, 81, 82, 83, 84, 85, 86, 87, 88, 89, 90, 91, 92, 93, 94, 95, 96, 97, 98, 99, 100, 101, 102, 103, 104, 105, 67, 106, 107, 108, 109, 110, 111, 112, 113, 114, 115, 116, 117, 118, 43, 6, 44, 124, 125, 126, 127, 128, 129, 147, 148, 149, 150, 151, 152, 153, 154, 155, 130, 131, 132, 133, 134, 135, 136, 137, 138, 139] (by decide +kernel) (by decide +kernel)
set_option maxRecDepth 20000 in
theorem gX5_layAll_X2_layLeast : GoodIn wsX5_layAll (wsV RX5 202 RX2 yX2_layLeast wsX2_layLeast) := goodIn_app (goodIn_of _ (by decide +kernel)) ggX5_layAll_X2_layLeast
theorem dX5_layAll_0 : decode cX5_layAll 0 = .ok (.iload_n 1, 1) := by decide +kernel
theorem dX5_layAll_1 : decode cX5_layAll 1 = .ok (.invokestatic 52, 3) := by decide +kernel
theorem dX5_layAll_4 : decode cX5_layAll 4 = .ok (.ifCond .ne 6, 3) := by decide +kernel
theorem dX5_layAll_7 : decode cX5_layAll 7 = .ok (.bipush (-2), 2) := by decide +kernel
theorem dX5_layAll_9 : decode cX5_layAll 9 = .ok (.ireturn, 1) := by decide +kernel
theorem dX5_layAll_10 : decode cX5_layAll 10 = .ok (.aload_n 0, 1) := by decide +kernel
theorem dX5_layAll_11 : decode cX5_layAll 11 = .ok (.getfield 30, 3) := by decide +kernel
theorem dX5_layAll_14 : decode cX5_layAll 14 = .ok (.getfield 142, 3) := by decide +kernel
theorem dX5_layAll_17 : decode cX5_layAll 17 = .ok (.ifCond .ne 6, 3) := by decide +kernel
theorem dX5_layAll_20 : decode cX5_layAll 20 = .ok (.bipush (-3), 2) := by decide +kernel
theorem dX5_layAll_22 : decode cX5_layAll 22 = .ok (.ireturn, 1) := by decide +kernel
theorem dX5_layAll_23 : decode cX5_layAll 23 = .ok (.aload_n 0, 1) := by decide +kernel
theorem dX5_layAll_24 : decode cX5_layAll 24 = .ok (.getfield 21, 3) := by decide +kernel
theorem dX5_layAll_27 : decode cX5_layAll 27 = .ok (.iload_n 1, 1) := by decide +kernel
theorem dX5_layAll_28 : decode cX5_layAll 28 = .ok (.invokevirtual 90, 3) := by decide +kernel
theorem dX5_layAll_31 : decode cX5_layAll 31 = .ok (.aload_n 0, 1) := by decide +kernel
theorem dX5_layAll_32 : decode cX5_layAll 32 = .ok (.getfield 37, 3) := by decide +kernel
theorem dX5_layAll_35 : decode cX5_layAll 35 = .ok (.aload_n 0, 1) := by decide +kernel
theorem dX5_layAll_36 : decode cX5_layAll 36 = .ok (.getfield 30, 3) := by decide +kernel
theorem dX5_layAll_39 : decode cX5_layAll 39 = .ok (.invokevirtual 202, 3) := by decide +kernel
theorem dX5_layAll_42 : decode cX5_layAll 42 = .ok (.ireturn, 1) := by decide +kernel
theorem dX5_within_0 : decode cX5_within 0 = .ok (.iload_n 0, 1) := by decide +kernel
theorem dX5_within_1 : decode cX5_within 1 = .ok (.iload_n 1, 1) := by decide +kernel
theorem dX5_within_2 : decode cX5_within 2 = .ok (.if_icmp .lt 12, 3) := by decide +kernel
theorem dX5_within_5 : decode cX5_within 5 = .ok (.iload_n 0, 1) := by decide +kernel
theorem dX5_within_6 : decode cX5_within 6 = .ok (.iload_n 2, 1) := by decide +kernel
theorem dX5_within_7 : decode cX5_within 7 = .ok (.if_icmp .gt 7, 3) := by decide +kernel
theorem dX5_within_10 : decode cX5_within 10 = .ok (.iconst 1, 1) := by decide +kernel
theorem dX5_within_11 : decode cX5_within 11 = .ok (.goto 4, 3) := by decide +kernel
theorem dX5_within_14 : decode cX5_within 14 = .ok (.iconst 0, 1) := by decide +kernel
theorem dX5_within_15 : decode cX5_within 15 = .ok (.ireturn, 1) := by decide +kernel
set_option maxRecDepth 20000 in
theorem ggX5_isHand_X5_within : GoodIn wsX5_isHand wsX5_within := goodIn_r _ [4] (by decide +kernel) (by decide +kernel)
set_option maxRecDepth 20000 in
theorem gX5_isHand_X5_within : GoodIn wsX5_isHand (va_wsS RX5 58 yX5_within wsX5_within) := goodIn_app (goodIn_of _ (by decide +kernel)) ggX5_isHand_X5_within
theorem dX5_isHand_0 : decode cX5_isHand 0 = .ok (.iload_n 0, 1) := by decide +kernel
theorem dX5_isHand_1 : decode cX5_isHand 1 = .ok (.iconst 0, 1) := by decide +kernel
theorem dX5_isHand_2 : decode cX5_isHand 2 = .ok (.iconst 3, 1) := by decide +kernel
theorem dX5_isHand_3 : decode cX5_isHand 3 = .ok (.invokestatic 58, 3) := by decide +kernel
theorem dX5_isHand_6 : decode cX5_isHand 6 = .ok (.ireturn, 1) := by decide +kernel
set_option maxRecDepth 20000 in
theorem ggX5_isBody_X5_within : GoodIn wsX5_isBody wsX5_within := goodIn_r _ [4] (by decide +kernel) (by decide +kernel)
set_option maxRecDepth 20000 in
theorem gX5_isBody_X5_within : GoodIn wsX5_isBody (va_wsS RX5 58 yX5_within wsX5_within) := goodIn_app (goodIn_of _ (by decide +kernel)) ggX5_isBody_X5_within
theorem dX5_isBody_0 : decode cX5_isBody 0 = .ok (.iload_n 0, 1) := by decide +kernel
theorem dX5_isBody_1 : decode cX5_isBody 1 = .ok (.iconst 0, 1) := by decide +kernel
theorem dX5_isBody_2 : decode cX5_isBody 2 = .ok (.iconst 5, 1) := by decide +kernel
theorem dX5_isBody_3 : decode cX5_isBody 3 = .ok (.invokestatic 58, 3) := by decide +kernel
theorem dX5_isBody_6 : decode cX5_isBody 6 = .ok (.ireturn, 1) := by decide +kernel
set_option maxRecDepth 20000 in
theorem ggX5_isMeasure_X5_within : GoodIn wsX5_isMeasure wsX5_within := goodIn_r _ [4] (by decide +kernel) (by decide +kernel)
set_option maxRecDepth 20000 in
theorem gX5_isMeasure_X5_within : GoodIn wsX5_isMeasure (va_wsS RX5 58 yX5_within wsX5_within) := goodIn_app (goodIn_of _ (by decide +kernel)) ggX5_isMeasure_X5_within
theorem dX5_isMeasure_0 : decode cX5_isMeasure 0 = .ok (.iload_n 0, 1) := by decide +kernel
theorem dX5_isMeasure_1 : decode cX5_isMeasure 1 = .ok (.iconst 0, 1) := by decide +kernel
theorem dX5_isMeasure_2 : decode cX5_isMeasure 2 = .ok (.iconst 5, 1) := by decide +kernel
theorem dX5_isMeasure_3 : decode cX5_isMeasure 3 = .ok (.invokestatic 58, 3) := by decide +kernel
theorem dX5_isMeasure_6 : decode cX5_isMeasure 6 = .ok (.ireturn, 1) := by decide +kernel
set_option maxRecDepth 20000 in
theorem ggX5_isPlace_X5_within : GoodIn wsX5_isPlace wsX5_within := goodIn_r _ [4] (by decide +kernel) (by decide +kernel)
set_option maxRecDepth 20000 in
theorem gX5_isPlace_X5_within : GoodIn wsX5_isPlace (va_wsS RX5 58 yX5_within wsX5_within) := goodIn_app (goodIn_of _ (by decide +kernel)) ggX5_isPlace_X5_within
theorem dX5_isPlace_0 : decode cX5_isPlace 0 = .ok (.iload_n 0, 1) := by decide +kernel
theorem dX5_isPlace_1 : decode cX5_isPlace 1 = .ok (.sipush (-5000), 3) := by decide +kernel
theorem dX5_isPlace_4 : decode cX5_isPlace 4 = .ok (.sipush 5000, 3) := by decide +kernel
theorem dX5_isPlace_7 : decode cX5_isPlace 7 = .ok (.invokestatic 58, 3) := by decide +kernel
theorem dX5_isPlace_10 : decode cX5_isPlace 10 = .ok (.ireturn, 1) := by decide +kernel
set_option maxRecDepth 20000 in
theorem ggX5_isHours_X5_within : GoodIn wsX5_isHours wsX5_within := goodIn_r _ [4] (by decide +kernel) (by decide +kernel)
set_option maxRecDepth 20000 in
theorem gX5_isHours_X5_within : GoodIn wsX5_isHours (va_wsS RX5 58 yX5_within wsX5_within) := goodIn_app (goodIn_of _ (by decide +kernel)) ggX5_isHours_X5_within
theorem dX5_isHours_0 : decode cX5_isHours 0 = .ok (.iload_n 0, 1) := by decide +kernel
theorem dX5_isHours_1 : decode cX5_isHours 1 = .ok (.iconst 1, 1) := by decide +kernel
theorem dX5_isHours_2 : decode cX5_isHours 2 = .ok (.bipush 50, 2) := by decide +kernel
theorem dX5_isHours_4 : decode cX5_isHours 4 = .ok (.invokestatic 58, 3) := by decide +kernel
theorem dX5_isHours_7 : decode cX5_isHours 7 = .ok (.ireturn, 1) := by decide +kernel
theorem dX5_divide_0 : decode cX5_divide 0 = .ok (.iload_n 1, 1) := by decide +kernel
theorem dX5_divide_1 : decode cX5_divide 1 = .ok (.ifCond .ne 7, 3) := by decide +kernel
theorem dX5_divide_4 : decode cX5_divide 4 = .ok (.iconst 0, 1) := by decide +kernel
theorem dX5_divide_5 : decode cX5_divide 5 = .ok (.goto 6, 3) := by decide +kernel
theorem dX5_divide_8 : decode cX5_divide 8 = .ok (.iload_n 0, 1) := by decide +kernel
theorem dX5_divide_9 : decode cX5_divide 9 = .ok (.iload_n 1, 1) := by decide +kernel
theorem dX5_divide_10 : decode cX5_divide 10 = .ok (.idiv, 1) := by decide +kernel
theorem dX5_divide_11 : decode cX5_divide 11 = .ok (.ireturn, 1) := by decide +kernel
theorem dX5_root_0 : decode cX5_root 0 = .ok (.lconst 0, 1) := by decide +kernel
theorem dX5_root_1 : decode cX5_root 1 = .ok (.lstore_n 2, 1) := by decide +kernel
theorem dX5_root_2 : decode cX5_root 2 = .ok (.bipush 30, 2) := by decide +kernel
theorem dX5_root_4 : decode cX5_root 4 = .ok (.istore 4, 2) := by decide +kernel
theorem dX5_root_6 : decode cX5_root 6 = .ok (.iload 4, 2) := by decide +kernel
theorem dX5_root_8 : decode cX5_root 8 = .ok (.ifCond .lt 30, 3) := by decide +kernel
theorem dX5_root_11 : decode cX5_root 11 = .ok (.lload_n 2, 1) := by decide +kernel
theorem dX5_root_12 : decode cX5_root 12 = .ok (.lconst 1, 1) := by decide +kernel
theorem dX5_root_13 : decode cX5_root 13 = .ok (.iload 4, 2) := by decide +kernel
theorem dX5_root_15 : decode cX5_root 15 = .ok (.lshl, 1) := by decide +kernel
theorem dX5_root_16 : decode cX5_root 16 = .ok (.ladd, 1) := by decide +kernel
theorem dX5_root_17 : decode cX5_root 17 = .ok (.lstore 5, 2) := by decide +kernel
theorem dX5_root_19 : decode cX5_root 19 = .ok (.lload 5, 2) := by decide +kernel
theorem dX5_root_21 : decode cX5_root 21 = .ok (.lload 5, 2) := by decide +kernel
theorem dX5_root_23 : decode cX5_root 23 = .ok (.lmul, 1) := by decide +kernel
theorem dX5_root_24 : decode cX5_root 24 = .ok (.lload_n 0, 1) := by decide +kernel
theorem dX5_root_25 : decode cX5_root 25 = .ok (.lcmp, 1) := by decide +kernel
theorem dX5_root_26 : decode cX5_root 26 = .ok (.ifCond .gt 6, 3) := by decide +kernel
theorem dX5_root_29 : decode cX5_root 29 = .ok (.lload 5, 2) := by decide +kernel
theorem dX5_root_31 : decode cX5_root 31 = .ok (.lstore_n 2, 1) := by decide +kernel
theorem dX5_root_32 : decode cX5_root 32 = .ok (.iinc 4 (-1), 3) := by decide +kernel
theorem dX5_root_35 : decode cX5_root 35 = .ok (.goto (-29), 3) := by decide +kernel
theorem dX5_root_38 : decode cX5_root 38 = .ok (.lload_n 2, 1) := by decide +kernel
theorem dX5_root_39 : decode cX5_root 39 = .ok (.l2i, 1) := by decide +kernel
theorem dX5_root_40 : decode cX5_root 40 = .ok (.ireturn, 1) := by decide +kernel
theorem dX5_mix_0 : decode cX5_mix 0 = .ok (.ldc2_w 206, 3) := by decide +kernel
theorem dX5_mix_3 : decode cX5_mix 3 = .ok (.lload_n 0, 1) := by decide +kernel
theorem dX5_mix_4 : decode cX5_mix 4 = .ok (.lmul, 1) := by decide +kernel
theorem dX5_mix_5 : decode cX5_mix 5 = .ok (.lload_n 2, 1) := by decide +kernel
theorem dX5_mix_6 : decode cX5_mix 6 = .ok (.ladd, 1) := by decide +kernel
theorem dX5_mix_7 : decode cX5_mix 7 = .ok (.lreturn, 1) := by decide +kernel
theorem dX6_init_0 : decode cX6_init 0 = .ok (.aload_n 0, 1) := by decide +kernel
theorem dX6_init_1 : decode cX6_init 1 = .ok (.invokespecial 1, 3) := by decide +kernel
theorem dX6_init_4 : decode cX6_init 4 = .ok (.aload_n 0, 1) := by decide +kernel
theorem dX6_init_5 : decode cX6_init 5 = .ok (.sipush 200, 3) := by decide +kernel
theorem dX6_init_8 : decode cX6_init 8 = .ok (.newarray .int, 2) := by decide +kernel
theorem dX6_init_10 : decode cX6_init 10 = .ok (.putfield 7, 3) := by decide +kernel
theorem dX6_init_13 : decode cX6_init 13 = .ok (.aload_n 0, 1) := by decide +kernel
theorem dX6_init_14 : decode cX6_init 14 = .ok (.bipush 24, 2) := by decide +kernel
theorem dX6_init_16 : decode cX6_init 16 = .ok (.newarray .int, 2) := by decide +kernel
theorem dX6_init_18 : decode cX6_init 18 = .ok (.putfield 13, 3) := by decide +kernel
theorem dX6_init_21 : decode cX6_init 21 = .ok (.aload_n 0, 1) := by decide +kernel
theorem dX6_init_22 : decode cX6_init 22 = .ok (.bipush 100, 2) := by decide +kernel
theorem dX6_init_24 : decode cX6_init 24 = .ok (.newarray .int, 2) := by decide +kernel
theorem dX6_init_26 : decode cX6_init 26 = .ok (.putfield 16, 3) := by decide +kernel
theorem dX6_init_29 : decode cX6_init 29 = .ok (.aload_n 0, 1) := by decide +kernel
theorem dX6_init_30 : decode cX6_init 30 = .ok (.bipush 7, 2) := by decide +kernel
theorem dX6_init_32 : decode cX6_init 32 = .ok (.newarray .int, 2) := by decide +kernel
theorem dX6_init_34 : decode cX6_init 34 = .ok (.putfield 19, 3) := by decide +kernel
theorem dX6_init_37 : decode cX6_init 37 = .ok (.aload_n 0, 1) := by decide +kernel
theorem dX6_init_38 : decode cX6_init 38 = .ok (.bipush 56, 2) := by decide +kernel
theorem dX6_init_40 : decode cX6_init 40 = .ok (.newarray .int, 2) := by decide +kernel
theorem dX6_init_42 : decode cX6_init 42 = .ok (.putfield 22, 3) := by decide +kernel
theorem dX6_init_45 : decode cX6_init 45 = .ok (.aload_n 0, 1) := by decide +kernel
theorem dX6_init_46 : decode cX6_init 46 = .ok (.bipush 40, 2) := by decide +kernel
theorem dX6_init_48 : decode cX6_init 48 = .ok (.newarray .int, 2) := by decide +kernel
theorem dX6_init_50 : decode cX6_init 50 = .ok (.putfield 25, 3) := by decide +kernel
theorem dX6_init_53 : decode cX6_init 53 = .ok (.aload_n 0, 1) := by decide +kernel
theorem dX6_init_54 : decode cX6_init 54 = .ok (.sipush 1500, 3) := by decide +kernel
theorem dX6_init_57 : decode cX6_init 57 = .ok (.putfield 28, 3) := by decide +kernel
theorem dX6_init_60 : decode cX6_init 60 = .ok (.aload_n 0, 1) := by decide +kernel
theorem dX6_init_61 : decode cX6_init 61 = .ok (.bipush 50, 2) := by decide +kernel
theorem dX6_init_63 : decode cX6_init 63 = .ok (.putfield 32, 3) := by decide +kernel
theorem dX6_init_66 : decode cX6_init 66 = .ok (.aload_n 0, 1) := by decide +kernel
theorem dX6_init_67 : decode cX6_init 67 = .ok (.bipush 24, 2) := by decide +kernel
theorem dX6_init_69 : decode cX6_init 69 = .ok (.newarray .int, 2) := by decide +kernel
theorem dX6_init_71 : decode cX6_init 71 = .ok (.putfield 35, 3) := by decide +kernel
theorem dX6_init_74 : decode cX6_init 74 = .ok (.aload_n 0, 1) := by decide +kernel
theorem dX6_init_75 : decode cX6_init 75 = .ok (.bipush 20, 2) := by decide +kernel
theorem dX6_init_77 : decode cX6_init 77 = .ok (.newarray .int, 2) := by decide +kernel
theorem dX6_init_79 : decode cX6_init 79 = .ok (.putfield 38, 3) := by decide +kernel
theorem dX6_init_82 : decode cX6_init 82 = .ok (.aload_n 0, 1) := by decide +kernel
theorem dX6_init_83 : decode cX6_init 83 = .ok (.bipush 20, 2) := by decide +kernel
theorem dX6_init_85 : decode cX6_init 85 = .ok (.newarray .int, 2) := by decide +kernel
theorem dX6_init_87 : decode cX6_init 87 = .ok (.putfield 41, 3) := by decide +kernel
theorem dX6_init_90 : decode cX6_init 90 = .ok (.aload_n 0, 1) := by decide +kernel
theorem dX6_init_91 : decode cX6_init 91 = .ok (.bipush 7, 2) := by decide +kernel
theorem dX6_init_93 : decode cX6_init 93 = .ok (.newarray .int, 2) := by decide +kernel
theorem dX6_init_95 : decode cX6_init 95 = .ok (.putfield 44, 3) := by decide +kernel
theorem dX6_init_98 : decode cX6_init 98 = .ok (.aload_n 0, 1) := by decide +kernel
theorem dX6_init_99 : decode cX6_init 99 = .ok (.bipush 7, 2) := by decide +kernel
theorem dX6_init_101 : decode cX6_init 101 = .ok (.newarray .int, 2) := by decide +kernel
theorem dX6_init_103 : decode cX6_init 103 = .ok (.putfield 47, 3) := by decide +kernel
theorem dX6_init_106 : decode cX6_init 106 = .ok (.aload_n 0, 1) := by decide +kernel
theorem dX6_init_107 : decode cX6_init 107 = .ok (.bipush 7, 2) := by decide +kernel
theorem dX6_init_109 : decode cX6_init 109 = .ok (.newarray .int, 2) := by decide +kernel
theorem dX6_init_111 : decode cX6_init 111 = .ok (.putfield 50, 3) := by decide +kernel
theorem dX6_init_114 : decode cX6_init 114 = .ok (.aload_n 0, 1) := by decide +kernel
theorem dX6_init_115 : decode cX6_init 115 = .ok (.bipush 7, 2) := by decide +kernel
theorem dX6_init_117 : decode cX6_init 117 = .ok (.newarray .int, 2) := by decide +kernel
theorem dX6_init_119 : decode cX6_init 119 = .ok (.putfield 53, 3) := by decide +kernel
theorem dX6_init_122 : decode cX6_init 122 = .ok (.return_, 1) := by decide +kernel
theorem dX6_in_0 : decode cX6_in 0 = .ok (.iload_n 0, 1) := by decide +kernel
theorem dX6_in_1 : decode cX6_in 1 = .ok (.iload_n 1, 1) := by decide +kernel
theorem dX6_in_2 : decode cX6_in 2 = .ok (.if_icmp .lt 12, 3) := by decide +kernel
theorem dX6_in_5 : decode cX6_in 5 = .ok (.iload_n 0, 1) := by decide +kernel
theorem dX6_in_6 : decode cX6_in 6 = .ok (.iload_n 2, 1) := by decide +kernel
theorem dX6_in_7 : decode cX6_in 7 = .ok (.if_icmp .gt 7, 3) := by decide +kernel
theorem dX6_in_10 : decode cX6_in 10 = .ok (.iconst 1, 1) := by decide +kernel
theorem dX6_in_11 : decode cX6_in 11 = .ok (.goto 4, 3) := by decide +kernel
theorem dX6_in_14 : decode cX6_in 14 = .ok (.iconst 0, 1) := by decide +kernel
theorem dX6_in_15 : decode cX6_in 15 = .ok (.ireturn, 1) := by decide +kernel
set_option maxRecDepth 20000 in
theorem ggX6_isBody_X6_in : GoodIn wsX6_isBody wsX6_in := goodIn_r _ [4] (by decide +kernel) (by decide +kernel)
set_option maxRecDepth 20000 in
theorem gX6_isBody_X6_in : GoodIn wsX6_isBody (va_wsS RX6 56 yX6_in wsX6_in) := goodIn_app (goodIn_of _ (by decide +kernel)) ggX6_isBody_X6_in
theorem dX6_isBody_0 : decode cX6_isBody 0 = .ok (.iload_n 0, 1) := by decide +kernel
theorem dX6_isBody_1 : decode cX6_isBody 1 = .ok (.iconst 0, 1) := by decide +kernel
theorem dX6_isBody_2 : decode cX6_isBody 2 = .ok (.iconst 5, 1) := by decide +kernel
theorem dX6_isBody_3 : decode cX6_isBody 3 = .ok (.invokestatic 56, 3) := by decide +kernel
theorem dX6_isBody_6 : decode cX6_isBody 6 = .ok (.ireturn, 1) := by decide +kernel
set_option maxRecDepth 20000 in
theorem ggX6_isHand_X6_in : GoodIn wsX6_isHand wsX6_in := goodIn_r _ [4] (by decide +kernel) (by decide +kernel)
set_option maxRecDepth 20000 in
theorem gX6_isHand_X6_in : GoodIn wsX6_isHand (va_wsS RX6 56 yX6_in wsX6_in) := goodIn_app (goodIn_of _ (by decide +kernel)) ggX6_isHand_X6_in
theorem dX6_isHand_0 : decode cX6_isHand 0 = .ok (.iload_n 0, 1) := by decide +kernel
theorem dX6_isHand_1 : decode cX6_isHand 1 = .ok (.iconst 0, 1) := by decide +kernel
theorem dX6_isHand_2 : decode cX6_isHand 2 = .ok (.iconst 3, 1) := by decide +kernel
theorem dX6_isHand_3 : decode cX6_isHand 3 = .ok (.invokestatic 56, 3) := by decide +kernel
theorem dX6_isHand_6 : decode cX6_isHand 6 = .ok (.ireturn, 1) := by decide +kernel
set_option maxRecDepth 20000 in
theorem ggX6_tell_X6_isHand : GoodIn wsX6_tell wsX6_isHand := goodIn_r _ [6, 7, 8, 5, 9] (by decide +kernel) (by decide +kernel)
set_option maxRecDepth 20000 in
theorem gX6_tell_X6_isHand : GoodIn wsX6_tell (va_wsS RX6 60 yX6_isHand wsX6_isHand) := goodIn_app (goodIn_of _ (by decide +kernel)) ggX6_tell_X6_isHand
set_option maxRecDepth 20000 in
theorem ggX6_tell_X6_isBody : GoodIn wsX6_tell wsX6_isBody := goodIn_r _ [12, 7, 8, 5, 9] (by decide +kernel) (by decide +kernel)
set_option maxRecDepth 20000 in
theorem gX6_tell_X6_isBody : GoodIn wsX6_tell (va_wsS RX6 64 yX6_isBody wsX6_isBody) := goodIn_app (goodIn_of _ (by decide +kernel)) ggX6_tell_X6_isBody
set_option maxRecDepth 20000 in
theorem ggX6_tell_X6_in : GoodIn wsX6_tell wsX6_in := goodIn_r _ [9] (by decide +kernel) (by decide +kernel)
set_option maxRecDepth 20000 in
theorem gX6_tell_X6_in : GoodIn wsX6_tell (va_wsS RX6 56 yX6_in wsX6_in) := goodIn_app (goodIn_of _ (by decide +kernel)) ggX6_tell_X6_in
theorem dX6_tell_0 : decode cX6_tell 0 = .ok (.iload_n 1, 1) := by decide +kernel
theorem dX6_tell_1 : decode cX6_tell 1 = .ok (.invokestatic 60, 3) := by decide +kernel
theorem dX6_tell_4 : decode cX6_tell 4 = .ok (.ifCond .eq 41, 3) := by decide +kernel
theorem dX6_tell_7 : decode cX6_tell 7 = .ok (.iload_n 2, 1) := by decide +kernel
theorem dX6_tell_8 : decode cX6_tell 8 = .ok (.invokestatic 64, 3) := by decide +kernel
theorem dX6_tell_11 : decode cX6_tell 11 = .ok (.ifCond .eq 34, 3) := by decide +kernel
theorem dX6_tell_14 : decode cX6_tell 14 = .ok (.iload_n 3, 1) := by decide +kernel
theorem dX6_tell_15 : decode cX6_tell 15 = .ok (.invokestatic 64, 3) := by decide +kernel
theorem dX6_tell_18 : decode cX6_tell 18 = .ok (.ifCond .eq 27, 3) := by decide +kernel
theorem dX6_tell_21 : decode cX6_tell 21 = .ok (.iload 4, 2) := by decide +kernel
theorem dX6_tell_23 : decode cX6_tell 23 = .ok (.iconst 0, 1) := by decide +kernel
theorem dX6_tell_24 : decode cX6_tell 24 = .ok (.sipush 10000, 3) := by decide +kernel
theorem dX6_tell_27 : decode cX6_tell 27 = .ok (.invokestatic 56, 3) := by decide +kernel
theorem dX6_tell_30 : decode cX6_tell 30 = .ok (.ifCond .eq 15, 3) := by decide +kernel
theorem dX6_tell_33 : decode cX6_tell 33 = .ok (.iload 5, 2) := by decide +kernel
theorem dX6_tell_35 : decode cX6_tell 35 = .ok (.iconst 0, 1) := by decide +kernel
theorem dX6_tell_36 : decode cX6_tell 36 = .ok (.sipush 3000, 3) := by decide +kernel
theorem dX6_tell_39 : decode cX6_tell 39 = .ok (.invokestatic 56, 3) := by decide +kernel
theorem dX6_tell_42 : decode cX6_tell 42 = .ok (.ifCond .ne 6, 3) := by decide +kernel
theorem dX6_tell_45 : decode cX6_tell 45 = .ok (.bipush (-2), 2) := by decide +kernel
theorem dX6_tell_47 : decode cX6_tell 47 = .ok (.ireturn, 1) := by decide +kernel
theorem dX6_tell_48 : decode cX6_tell 48 = .ok (.aload_n 0, 1) := by decide +kernel
theorem dX6_tell_49 : decode cX6_tell 49 = .ok (.getfield 67, 3) := by decide +kernel
theorem dX6_tell_52 : decode cX6_tell 52 = .ok (.bipush 40, 2) := by decide +kernel
theorem dX6_tell_54 : decode cX6_tell 54 = .ok (.if_icmp .ne 6, 3) := by decide +kernel
theorem dX6_tell_57 : decode cX6_tell 57 = .ok (.bipush (-4), 2) := by decide +kernel
theorem dX6_tell_59 : decode cX6_tell 59 = .ok (.ireturn, 1) := by decide +kernel
theorem dX6_tell_60 : decode cX6_tell 60 = .ok (.iconst 5, 1) := by decide +kernel
theorem dX6_tell_61 : decode cX6_tell 61 = .ok (.aload_n 0, 1) := by decide +kernel
theorem dX6_tell_62 : decode cX6_tell 62 = .ok (.getfield 67, 3) := by decide +kernel
theorem dX6_tell_65 : decode cX6_tell 65 = .ok (.imul, 1) := by decide +kernel
theorem dX6_tell_66 : decode cX6_tell 66 = .ok (.istore 6, 2) := by decide +kernel
theorem dX6_tell_68 : decode cX6_tell 68 = .ok (.aload_n 0, 1) := by decide +kernel
theorem dX6_tell_69 : decode cX6_tell 69 = .ok (.getfield 7, 3) := by decide +kernel
theorem dX6_tell_72 : decode cX6_tell 72 = .ok (.iload 6, 2) := by decide +kernel
theorem dX6_tell_74 : decode cX6_tell 74 = .ok (.iload_n 1, 1) := by decide +kernel
theorem dX6_tell_75 : decode cX6_tell 75 = .ok (.iastore, 1) := by decide +kernel
theorem dX6_tell_76 : decode cX6_tell 76 = .ok (.aload_n 0, 1) := by decide +kernel
theorem dX6_tell_77 : decode cX6_tell 77 = .ok (.getfield 7, 3) := by decide +kernel
theorem dX6_tell_80 : decode cX6_tell 80 = .ok (.iload 6, 2) := by decide +kernel
theorem dX6_tell_82 : decode cX6_tell 82 = .ok (.iconst 1, 1) := by decide +kernel
theorem dX6_tell_83 : decode cX6_tell 83 = .ok (.iadd, 1) := by decide +kernel
theorem dX6_tell_84 : decode cX6_tell 84 = .ok (.iload_n 2, 1) := by decide +kernel
theorem dX6_tell_85 : decode cX6_tell 85 = .ok (.iastore, 1) := by decide +kernel
theorem dX6_tell_86 : decode cX6_tell 86 = .ok (.aload_n 0, 1) := by decide +kernel
theorem dX6_tell_87 : decode cX6_tell 87 = .ok (.getfield 7, 3) := by decide +kernel
theorem dX6_tell_90 : decode cX6_tell 90 = .ok (.iload 6, 2) := by decide +kernel
theorem dX6_tell_92 : decode cX6_tell 92 = .ok (.iconst 2, 1) := by decide +kernel
theorem dX6_tell_93 : decode cX6_tell 93 = .ok (.iadd, 1) := by decide +kernel
theorem dX6_tell_94 : decode cX6_tell 94 = .ok (.iload_n 3, 1) := by decide +kernel
theorem dX6_tell_95 : decode cX6_tell 95 = .ok (.iastore, 1) := by decide +kernel
theorem dX6_tell_96 : decode cX6_tell 96 = .ok (.aload_n 0, 1) := by decide +kernel
theorem dX6_tell_97 : decode cX6_tell 97 = .ok (.getfield 7, 3) := by decide +kernel
theorem dX6_tell_100 : decode cX6_tell 100 = .ok (.iload 6, 2) := by decide +kernel
theorem dX6_tell_102 : decode cX6_tell 102 = .ok (.iconst 3, 1) := by decide +kernel
theorem dX6_tell_103 : decode cX6_tell 103 = .ok (.iadd, 1) := by decide +kernel
theorem dX6_tell_104 : decode cX6_tell 104 = .ok (.iload 4, 2) := by decide +kernel
theorem dX6_tell_106 : decode cX6_tell 106 = .ok (.iastore, 1) := by decide +kernel
theorem dX6_tell_107 : decode cX6_tell 107 = .ok (.aload_n 0, 1) := by decide +kernel
theorem dX6_tell_108 : decode cX6_tell 108 = .ok (.getfield 7, 3) := by decide +kernel
theorem dX6_tell_111 : decode cX6_tell 111 = .ok (.iload 6, 2) := by decide +kernel
theorem dX6_tell_113 : decode cX6_tell 113 = .ok (.iconst 4, 1) := by decide +kernel
theorem dX6_tell_114 : decode cX6_tell 114 = .ok (.iadd, 1) := by decide +kernel
theorem dX6_tell_115 : decode cX6_tell 115 = .ok (.iload 5, 2) := by decide +kernel
theorem dX6_tell_117 : decode cX6_tell 117 = .ok (.iastore, 1) := by decide +kernel
theorem dX6_tell_118 : decode cX6_tell 118 = .ok (.aload_n 0, 1) := by decide +kernel
theorem dX6_tell_119 : decode cX6_tell 119 = .ok (.dup, 1) := by decide +kernel
theorem dX6_tell_120 : decode cX6_tell 120 = .ok (.getfield 67, 3) := by decide +kernel
theorem dX6_tell_123 : decode cX6_tell 123 = .ok (.iconst 1, 1) := by decide +kernel
theorem dX6_tell_124 : decode cX6_tell 124 = .ok (.iadd, 1) := by decide +kernel
theorem dX6_tell_125 : decode cX6_tell 125 = .ok (.putfield 67, 3) := by decide +kernel
theorem dX6_tell_128 : decode cX6_tell 128 = .ok (.aload_n 0, 1) := by decide +kernel
theorem dX6_tell_129 : decode cX6_tell 129 = .ok (.getfield 67, 3) := by decide +kernel
theorem dX6_tell_132 : decode cX6_tell 132 = .ok (.ireturn, 1) := by decide +kernel
set_option maxRecDepth 20000 in
theorem ggX6_habit_X6_isHand : GoodIn wsX6_habit wsX6_isHand := goodIn_r _ [5, 6, 7, 4, 8] (by decide +kernel) (by decide +kernel)
set_option maxRecDepth 20000 in
theorem gX6_habit_X6_isHand : GoodIn wsX6_habit (va_wsS RX6 60 yX6_isHand wsX6_isHand) := goodIn_app (goodIn_of _ (by decide +kernel)) ggX6_habit_X6_isHand
set_option maxRecDepth 20000 in
theorem ggX6_habit_X6_isBody : GoodIn wsX6_habit wsX6_isBody := goodIn_r _ [11, 6, 7, 4, 8] (by decide +kernel) (by decide +kernel)
set_option maxRecDepth 20000 in
theorem gX6_habit_X6_isBody : GoodIn wsX6_habit (va_wsS RX6 64 yX6_isBody wsX6_isBody) := goodIn_app (goodIn_of _ (by decide +kernel)) ggX6_habit_X6_isBody
set_option maxRecDepth 20000 in
theorem ggX6_habit_X6_in : GoodIn wsX6_habit wsX6_in := goodIn_r _ [8] (by decide +kernel) (by decide +kernel)
set_option maxRecDepth 20000 in
theorem gX6_habit_X6_in : GoodIn wsX6_habit (va_wsS RX6 56 yX6_in wsX6_in) := goodIn_app (goodIn_of _ (by decide +kernel)) ggX6_habit_X6_in
theorem dX6_habit_0 : decode cX6_habit 0 = .ok (.iload_n 1, 1) := by decide +kernel
theorem dX6_habit_1 : decode cX6_habit 1 = .ok (.invokestatic 60, 3) := by decide +kernel
theorem dX6_habit_4 : decode cX6_habit 4 = .ok (.ifCond .eq 21, 3) := by decide +kernel
theorem dX6_habit_7 : decode cX6_habit 7 = .ok (.iload_n 2, 1) := by decide +kernel
theorem dX6_habit_8 : decode cX6_habit 8 = .ok (.invokestatic 64, 3) := by decide +kernel
theorem dX6_habit_11 : decode cX6_habit 11 = .ok (.ifCond .eq 14, 3) := by decide +kernel
theorem dX6_habit_14 : decode cX6_habit 14 = .ok (.iload_n 3, 1) := by decide +kernel
theorem dX6_habit_15 : decode cX6_habit 15 = .ok (.bipush (-50), 2) := by decide +kernel
theorem dX6_habit_17 : decode cX6_habit 17 = .ok (.bipush 50, 2) := by decide +kernel
theorem dX6_habit_19 : decode cX6_habit 19 = .ok (.invokestatic 56, 3) := by decide +kernel
theorem dX6_habit_22 : decode cX6_habit 22 = .ok (.ifCond .ne 7, 3) := by decide +kernel
theorem dX6_habit_25 : decode cX6_habit 25 = .ok (.sipush (-1000), 3) := by decide +kernel
theorem dX6_habit_28 : decode cX6_habit 28 = .ok (.ireturn, 1) := by decide +kernel
theorem dX6_habit_29 : decode cX6_habit 29 = .ok (.aload_n 0, 1) := by decide +kernel
theorem dX6_habit_30 : decode cX6_habit 30 = .ok (.getfield 13, 3) := by decide +kernel
theorem dX6_habit_33 : decode cX6_habit 33 = .ok (.bipush 6, 2) := by decide +kernel
theorem dX6_habit_35 : decode cX6_habit 35 = .ok (.iload_n 1, 1) := by decide +kernel
theorem dX6_habit_36 : decode cX6_habit 36 = .ok (.imul, 1) := by decide +kernel
theorem dX6_habit_37 : decode cX6_habit 37 = .ok (.iload_n 2, 1) := by decide +kernel
theorem dX6_habit_38 : decode cX6_habit 38 = .ok (.iadd, 1) := by decide +kernel
theorem dX6_habit_39 : decode cX6_habit 39 = .ok (.iaload, 1) := by decide +kernel
theorem dX6_habit_40 : decode cX6_habit 40 = .ok (.istore 4, 2) := by decide +kernel
theorem dX6_habit_42 : decode cX6_habit 42 = .ok (.aload_n 0, 1) := by decide +kernel
theorem dX6_habit_43 : decode cX6_habit 43 = .ok (.getfield 13, 3) := by decide +kernel
theorem dX6_habit_46 : decode cX6_habit 46 = .ok (.bipush 6, 2) := by decide +kernel
theorem dX6_habit_48 : decode cX6_habit 48 = .ok (.iload_n 1, 1) := by decide +kernel
theorem dX6_habit_49 : decode cX6_habit 49 = .ok (.imul, 1) := by decide +kernel
theorem dX6_habit_50 : decode cX6_habit 50 = .ok (.iload_n 2, 1) := by decide +kernel
theorem dX6_habit_51 : decode cX6_habit 51 = .ok (.iadd, 1) := by decide +kernel
theorem dX6_habit_52 : decode cX6_habit 52 = .ok (.iload_n 3, 1) := by decide +kernel
theorem dX6_habit_53 : decode cX6_habit 53 = .ok (.iastore, 1) := by decide +kernel
theorem dX6_habit_54 : decode cX6_habit 54 = .ok (.iload 4, 2) := by decide +kernel
theorem dX6_habit_56 : decode cX6_habit 56 = .ok (.ireturn, 1) := by decide +kernel
theorem dX6_isOf_0 : decode cX6_isOf 0 = .ok (.aload_n 0, 1) := by decide +kernel
theorem dX6_isOf_1 : decode cX6_isOf 1 = .ok (.getfield 7, 3) := by decide +kernel
theorem dX6_isOf_4 : decode cX6_isOf 4 = .ok (.iconst 5, 1) := by decide +kernel
theorem dX6_isOf_5 : decode cX6_isOf 5 = .ok (.iload_n 1, 1) := by decide +kernel
theorem dX6_isOf_6 : decode cX6_isOf 6 = .ok (.imul, 1) := by decide +kernel
theorem dX6_isOf_7 : decode cX6_isOf 7 = .ok (.iconst 1, 1) := by decide +kernel
theorem dX6_isOf_8 : decode cX6_isOf 8 = .ok (.iadd, 1) := by decide +kernel
theorem dX6_isOf_9 : decode cX6_isOf 9 = .ok (.iaload, 1) := by decide +kernel
theorem dX6_isOf_10 : decode cX6_isOf 10 = .ok (.iload_n 2, 1) := by decide +kernel
theorem dX6_isOf_11 : decode cX6_isOf 11 = .ok (.if_icmp .ne 21, 3) := by decide +kernel
theorem dX6_isOf_14 : decode cX6_isOf 14 = .ok (.aload_n 0, 1) := by decide +kernel
theorem dX6_isOf_15 : decode cX6_isOf 15 = .ok (.getfield 7, 3) := by decide +kernel
theorem dX6_isOf_18 : decode cX6_isOf 18 = .ok (.iconst 5, 1) := by decide +kernel
theorem dX6_isOf_19 : decode cX6_isOf 19 = .ok (.iload_n 1, 1) := by decide +kernel
theorem dX6_isOf_20 : decode cX6_isOf 20 = .ok (.imul, 1) := by decide +kernel
theorem dX6_isOf_21 : decode cX6_isOf 21 = .ok (.iconst 2, 1) := by decide +kernel
theorem dX6_isOf_22 : decode cX6_isOf 22 = .ok (.iadd, 1) := by decide +kernel
theorem dX6_isOf_23 : decode cX6_isOf 23 = .ok (.iaload, 1) := by decide +kernel
theorem dX6_isOf_24 : decode cX6_isOf 24 = .ok (.iload_n 3, 1) := by decide +kernel
theorem dX6_isOf_25 : decode cX6_isOf 25 = .ok (.if_icmp .ne 7, 3) := by decide +kernel
theorem dX6_isOf_28 : decode cX6_isOf 28 = .ok (.iconst 1, 1) := by decide +kernel
theorem dX6_isOf_29 : decode cX6_isOf 29 = .ok (.goto 4, 3) := by decide +kernel
theorem dX6_isOf_32 : decode cX6_isOf 32 = .ok (.iconst 0, 1) := by decide +kernel
theorem dX6_isOf_33 : decode cX6_isOf 33 = .ok (.ireturn, 1) := by decide +kernel
set_option maxRecDepth 20000 in
theorem ggX6_dayAhead_X6_isOf : GoodIn wsX6_dayAhead wsX6_isOf := goodIn_r _ [7, 2, 8, 9, 10, 11, 12, 13, 14, 15, 16, 17, 18, 19, 20, 21, 22, 23, 24, 25, 26, 27, 28, 29, 30, 31] (by decide +kernel) (by decide +kernel)
set_option maxRecDepth 20000 in
theorem gX6_dayAhead_X6_isOf : GoodIn wsX6_dayAhead (wsV RX6 70 RX6 yX6_isOf wsX6_isOf) := goodIn_app (goodIn_of _ (by decide +kernel)) ggX6_dayAhead_X6_isOf
theorem dX6_dayAhead_0 : decode cX6_dayAhead 0 = .ok (.iconst (-1), 1) := by decide +kernel
theorem dX6_dayAhead_1 : decode cX6_dayAhead 1 = .ok (.istore 4, 2) := by decide +kernel
theorem dX6_dayAhead_3 : decode cX6_dayAhead 3 = .ok (.iconst 0, 1) := by decide +kernel
theorem dX6_dayAhead_4 : decode cX6_dayAhead 4 = .ok (.istore 5, 2) := by decide +kernel
theorem dX6_dayAhead_6 : decode cX6_dayAhead 6 = .ok (.iload 5, 2) := by decide +kernel
theorem dX6_dayAhead_8 : decode cX6_dayAhead 8 = .ok (.aload_n 0, 1) := by decide +kernel
theorem dX6_dayAhead_9 : decode cX6_dayAhead 9 = .ok (.getfield 67, 3) := by decide +kernel
theorem dX6_dayAhead_12 : decode cX6_dayAhead 12 = .ok (.if_icmp .ge 55, 3) := by decide +kernel
theorem dX6_dayAhead_15 : decode cX6_dayAhead 15 = .ok (.aload_n 0, 1) := by decide +kernel
theorem dX6_dayAhead_16 : decode cX6_dayAhead 16 = .ok (.getfield 7, 3) := by decide +kernel
theorem dX6_dayAhead_19 : decode cX6_dayAhead 19 = .ok (.iconst 5, 1) := by decide +kernel
theorem dX6_dayAhead_20 : decode cX6_dayAhead 20 = .ok (.iload 5, 2) := by decide +kernel
theorem dX6_dayAhead_22 : decode cX6_dayAhead 22 = .ok (.imul, 1) := by decide +kernel
theorem dX6_dayAhead_23 : decode cX6_dayAhead 23 = .ok (.iconst 3, 1) := by decide +kernel
theorem dX6_dayAhead_24 : decode cX6_dayAhead 24 = .ok (.iadd, 1) := by decide +kernel
theorem dX6_dayAhead_25 : decode cX6_dayAhead 25 = .ok (.iaload, 1) := by decide +kernel
theorem dX6_dayAhead_26 : decode cX6_dayAhead 26 = .ok (.istore 6, 2) := by decide +kernel
theorem dX6_dayAhead_28 : decode cX6_dayAhead 28 = .ok (.aload_n 0, 1) := by decide +kernel
theorem dX6_dayAhead_29 : decode cX6_dayAhead 29 = .ok (.iload 5, 2) := by decide +kernel
theorem dX6_dayAhead_31 : decode cX6_dayAhead 31 = .ok (.iload_n 1, 1) := by decide +kernel
theorem dX6_dayAhead_32 : decode cX6_dayAhead 32 = .ok (.iload_n 2, 1) := by decide +kernel
theorem dX6_dayAhead_33 : decode cX6_dayAhead 33 = .ok (.invokevirtual 70, 3) := by decide +kernel
theorem dX6_dayAhead_36 : decode cX6_dayAhead 36 = .ok (.ifCond .eq 21, 3) := by decide +kernel
theorem dX6_dayAhead_39 : decode cX6_dayAhead 39 = .ok (.iload 6, 2) := by decide +kernel
theorem dX6_dayAhead_41 : decode cX6_dayAhead 41 = .ok (.iload_n 3, 1) := by decide +kernel
theorem dX6_dayAhead_42 : decode cX6_dayAhead 42 = .ok (.if_icmp .ge 15, 3) := by decide +kernel
theorem dX6_dayAhead_45 : decode cX6_dayAhead 45 = .ok (.iload 6, 2) := by decide +kernel
theorem dX6_dayAhead_47 : decode cX6_dayAhead 47 = .ok (.iload 4, 2) := by decide +kernel
theorem dX6_dayAhead_49 : decode cX6_dayAhead 49 = .ok (.if_icmp .le 8, 3) := by decide +kernel
theorem dX6_dayAhead_52 : decode cX6_dayAhead 52 = .ok (.iload 6, 2) := by decide +kernel
theorem dX6_dayAhead_54 : decode cX6_dayAhead 54 = .ok (.goto 5, 3) := by decide +kernel
theorem dX6_dayAhead_57 : decode cX6_dayAhead 57 = .ok (.iload 4, 2) := by decide +kernel
theorem dX6_dayAhead_59 : decode cX6_dayAhead 59 = .ok (.istore 4, 2) := by decide +kernel
theorem dX6_dayAhead_61 : decode cX6_dayAhead 61 = .ok (.iinc 5 1, 3) := by decide +kernel
theorem dX6_dayAhead_64 : decode cX6_dayAhead 64 = .ok (.goto (-58), 3) := by decide +kernel
theorem dX6_dayAhead_67 : decode cX6_dayAhead 67 = .ok (.iload 4, 2) := by decide +kernel
theorem dX6_dayAhead_69 : decode cX6_dayAhead 69 = .ok (.ireturn, 1) := by decide +kernel
set_option maxRecDepth 20000 in
theorem ggX6_measureOn_X6_isOf : GoodIn wsX6_measureOn wsX6_isOf := goodIn_r _ [8, 2, 9, 10, 11, 12, 13, 14, 15, 16, 17, 18, 19, 20, 21, 22, 23, 24, 25, 26, 27, 28, 29, 30, 31, 32] (by decide +kernel) (by decide +kernel)
set_option maxRecDepth 20000 in
theorem gX6_measureOn_X6_isOf : GoodIn wsX6_measureOn (wsV RX6 70 RX6 yX6_isOf wsX6_isOf) := goodIn_app (goodIn_of _ (by decide +kernel)) ggX6_measureOn_X6_isOf
theorem dX6_measureOn_0 : decode cX6_measureOn 0 = .ok (.iconst 0, 1) := by decide +kernel
theorem dX6_measureOn_1 : decode cX6_measureOn 1 = .ok (.istore 4, 2) := by decide +kernel
theorem dX6_measureOn_3 : decode cX6_measureOn 3 = .ok (.iconst 0, 1) := by decide +kernel
theorem dX6_measureOn_4 : decode cX6_measureOn 4 = .ok (.istore 5, 2) := by decide +kernel
theorem dX6_measureOn_6 : decode cX6_measureOn 6 = .ok (.iconst 0, 1) := by decide +kernel
theorem dX6_measureOn_7 : decode cX6_measureOn 7 = .ok (.istore 6, 2) := by decide +kernel
theorem dX6_measureOn_9 : decode cX6_measureOn 9 = .ok (.iload 6, 2) := by decide +kernel
theorem dX6_measureOn_11 : decode cX6_measureOn 11 = .ok (.aload_n 0, 1) := by decide +kernel
theorem dX6_measureOn_12 : decode cX6_measureOn 12 = .ok (.getfield 67, 3) := by decide +kernel
theorem dX6_measureOn_15 : decode cX6_measureOn 15 = .ok (.if_icmp .ge 74, 3) := by decide +kernel
theorem dX6_measureOn_18 : decode cX6_measureOn 18 = .ok (.aload_n 0, 1) := by decide +kernel
theorem dX6_measureOn_19 : decode cX6_measureOn 19 = .ok (.iload 6, 2) := by decide +kernel
theorem dX6_measureOn_21 : decode cX6_measureOn 21 = .ok (.iload_n 1, 1) := by decide +kernel
theorem dX6_measureOn_22 : decode cX6_measureOn 22 = .ok (.iload_n 2, 1) := by decide +kernel
theorem dX6_measureOn_23 : decode cX6_measureOn 23 = .ok (.invokevirtual 70, 3) := by decide +kernel
theorem dX6_measureOn_26 : decode cX6_measureOn 26 = .ok (.ifCond .eq 57, 3) := by decide +kernel
theorem dX6_measureOn_29 : decode cX6_measureOn 29 = .ok (.aload_n 0, 1) := by decide +kernel
theorem dX6_measureOn_30 : decode cX6_measureOn 30 = .ok (.getfield 7, 3) := by decide +kernel
theorem dX6_measureOn_33 : decode cX6_measureOn 33 = .ok (.iconst 5, 1) := by decide +kernel
theorem dX6_measureOn_34 : decode cX6_measureOn 34 = .ok (.iload 6, 2) := by decide +kernel
theorem dX6_measureOn_36 : decode cX6_measureOn 36 = .ok (.imul, 1) := by decide +kernel
theorem dX6_measureOn_37 : decode cX6_measureOn 37 = .ok (.iconst 3, 1) := by decide +kernel
theorem dX6_measureOn_38 : decode cX6_measureOn 38 = .ok (.iadd, 1) := by decide +kernel
theorem dX6_measureOn_39 : decode cX6_measureOn 39 = .ok (.iaload, 1) := by decide +kernel
theorem dX6_measureOn_40 : decode cX6_measureOn 40 = .ok (.iload_n 3, 1) := by decide +kernel
theorem dX6_measureOn_41 : decode cX6_measureOn 41 = .ok (.if_icmp .ne 42, 3) := by decide +kernel
theorem dX6_measureOn_44 : decode cX6_measureOn 44 = .ok (.iload 4, 2) := by decide +kernel
theorem dX6_measureOn_46 : decode cX6_measureOn 46 = .ok (.aload_n 0, 1) := by decide +kernel
theorem dX6_measureOn_47 : decode cX6_measureOn 47 = .ok (.getfield 7, 3) := by decide +kernel
theorem dX6_measureOn_50 : decode cX6_measureOn 50 = .ok (.iconst 5, 1) := by decide +kernel
theorem dX6_measureOn_51 : decode cX6_measureOn 51 = .ok (.iload 6, 2) := by decide +kernel
theorem dX6_measureOn_53 : decode cX6_measureOn 53 = .ok (.imul, 1) := by decide +kernel
theorem dX6_measureOn_54 : decode cX6_measureOn 54 = .ok (.iconst 4, 1) := by decide +kernel
theorem dX6_measureOn_55 : decode cX6_measureOn 55 = .ok (.iadd, 1) := by decide +kernel
theorem dX6_measureOn_56 : decode cX6_measureOn 56 = .ok (.iaload, 1) := by decide +kernel
theorem dX6_measureOn_57 : decode cX6_measureOn 57 = .ok (.aload_n 0, 1) := by decide +kernel
theorem dX6_measureOn_58 : decode cX6_measureOn 58 = .ok (.getfield 13, 3) := by decide +kernel
theorem dX6_measureOn_61 : decode cX6_measureOn 61 = .ok (.bipush 6, 2) := by decide +kernel
theorem dX6_measureOn_63 : decode cX6_measureOn 63 = .ok (.aload_n 0, 1) := by decide +kernel
theorem dX6_measureOn_64 : decode cX6_measureOn 64 = .ok (.getfield 7, 3) := by decide +kernel
theorem dX6_measureOn_67 : decode cX6_measureOn 67 = .ok (.iconst 5, 1) := by decide +kernel
theorem dX6_measureOn_68 : decode cX6_measureOn 68 = .ok (.iload 6, 2) := by decide +kernel
theorem dX6_measureOn_70 : decode cX6_measureOn 70 = .ok (.imul, 1) := by decide +kernel
theorem dX6_measureOn_71 : decode cX6_measureOn 71 = .ok (.iaload, 1) := by decide +kernel
theorem dX6_measureOn_72 : decode cX6_measureOn 72 = .ok (.imul, 1) := by decide +kernel
theorem dX6_measureOn_73 : decode cX6_measureOn 73 = .ok (.iload_n 2, 1) := by decide +kernel
theorem dX6_measureOn_74 : decode cX6_measureOn 74 = .ok (.iadd, 1) := by decide +kernel
theorem dX6_measureOn_75 : decode cX6_measureOn 75 = .ok (.iaload, 1) := by decide +kernel
theorem dX6_measureOn_76 : decode cX6_measureOn 76 = .ok (.isub, 1) := by decide +kernel
theorem dX6_measureOn_77 : decode cX6_measureOn 77 = .ok (.iadd, 1) := by decide +kernel
theorem dX6_measureOn_78 : decode cX6_measureOn 78 = .ok (.istore 4, 2) := by decide +kernel
theorem dX6_measureOn_80 : decode cX6_measureOn 80 = .ok (.iinc 5 1, 3) := by decide +kernel
theorem dX6_measureOn_83 : decode cX6_measureOn 83 = .ok (.iinc 6 1, 3) := by decide +kernel
theorem dX6_measureOn_86 : decode cX6_measureOn 86 = .ok (.goto (-77), 3) := by decide +kernel
theorem dX6_measureOn_89 : decode cX6_measureOn 89 = .ok (.iload 5, 2) := by decide +kernel
theorem dX6_measureOn_91 : decode cX6_measureOn 91 = .ok (.ifCond .ne 7, 3) := by decide +kernel
theorem dX6_measureOn_94 : decode cX6_measureOn 94 = .ok (.iconst 0, 1) := by decide +kernel
theorem dX6_measureOn_95 : decode cX6_measureOn 95 = .ok (.goto 8, 3) := by decide +kernel
theorem dX6_measureOn_98 : decode cX6_measureOn 98 = .ok (.iload 4, 2) := by decide +kernel
theorem dX6_measureOn_100 : decode cX6_measureOn 100 = .ok (.iload 5, 2) := by decide +kernel
theorem dX6_measureOn_102 : decode cX6_measureOn 102 = .ok (.idiv, 1) := by decide +kernel
theorem dX6_measureOn_103 : decode cX6_measureOn 103 = .ok (.ireturn, 1) := by decide +kernel
set_option maxRecDepth 20000 in
theorem ggX6_measureOf_X6_dayAhead : GoodIn wsX6_measureOf wsX6_dayAhead := goodIn_r _ [5, 6, 7, 8, 9, 10, 4, 11, 17, 18, 19, 20, 21, 22, 23, 24, 25, 26, 27, 28, 29, 30, 31, 32, 33, 34, 35, 36, 37, 38, 39, 40] (by decide +kernel) (by decide +kernel)
set_option maxRecDepth 20000 in
theorem gX6_measureOf_X6_dayAhead : GoodIn wsX6_measureOf (wsV RX6 73 RX6 yX6_dayAhead wsX6_dayAhead) := goodIn_app (goodIn_of _ (by decide +kernel)) ggX6_measureOf_X6_dayAhead
set_option maxRecDepth 20000 in
theorem ggX6_measureOf_X6_measureOn : GoodIn wsX6_measureOf wsX6_measureOn := goodIn_r _ [15, 6, 7, 16, 8, 9, 10, 4, 11, 17, 18, 19, 20, 21, 22, 23, 24, 25, 26, 27, 28, 29, 30, 31, 32, 33, 34, 35, 36, 37, 38, 39, 40] (by decide +kernel) (by decide +kernel)
set_option maxRecDepth 20000 in
theorem gX6_measureOf_X6_measureOn : GoodIn wsX6_measureOf (wsV RX6 77 RX6 yX6_measureOn wsX6_measureOn) := goodIn_app (goodIn_of _ (by decide +kernel)) ggX6_measureOf_X6_measureOn
theorem dX6_measureOf_0 : decode cX6_measureOf 0 = .ok (.aload_n 0, 1) := by decide +kernel
theorem dX6_measureOf_1 : decode cX6_measureOf 1 = .ok (.iload_n 1, 1) := by decide +kernel
theorem dX6_measureOf_2 : decode cX6_measureOf 2 = .ok (.iload_n 2, 1) := by decide +kernel
theorem dX6_measureOf_3 : decode cX6_measureOf 3 = .ok (.aload_n 0, 1) := by decide +kernel
theorem dX6_measureOf_4 : decode cX6_measureOf 4 = .ok (.iload_n 1, 1) := by decide +kernel
theorem dX6_measureOf_5 : decode cX6_measureOf 5 = .ok (.iload_n 2, 1) := by decide +kernel
theorem dX6_measureOf_6 : decode cX6_measureOf 6 = .ok (.sipush 20000, 3) := by decide +kernel
theorem dX6_measureOf_9 : decode cX6_measureOf 9 = .ok (.invokevirtual 73, 3) := by decide +kernel
theorem dX6_measureOf_12 : decode cX6_measureOf 12 = .ok (.invokevirtual 77, 3) := by decide +kernel
theorem dX6_measureOf_15 : decode cX6_measureOf 15 = .ok (.ireturn, 1) := by decide +kernel
set_option maxRecDepth 20000 in
theorem ggX6_measure_X6_isBody : GoodIn wsX6_measure wsX6_isBody := goodIn_r _ [4, 5, 6, 3, 7] (by decide +kernel) (by decide +kernel)
set_option maxRecDepth 20000 in
theorem gX6_measure_X6_isBody : GoodIn wsX6_measure (va_wsS RX6 64 yX6_isBody wsX6_isBody) := goodIn_app (goodIn_of _ (by decide +kernel)) ggX6_measure_X6_isBody
set_option maxRecDepth 20000 in
theorem ggX6_measure_X6_measureOf : GoodIn wsX6_measure wsX6_measureOf := goodIn_r _ [11, 12, 13, 14, 3, 15, 16, 17, 18, 19, 20, 21, 22, 23, 24, 25, 26, 27, 28, 29, 30, 31, 32, 33, 34, 35, 36, 37, 38, 39, 40, 41, 42, 43, 44, 45, 46, 47, 48, 49, 50] (by decide +kernel) (by decide +kernel)
set_option maxRecDepth 20000 in
theorem gX6_measure_X6_measureOf : GoodIn wsX6_measure (wsV RX6 80 RX6 yX6_measureOf wsX6_measureOf) := goodIn_app (goodIn_of _ (by decide +kernel)) ggX6_measure_X6_measureOf
theorem dX6_measure_0 : decode cX6_measure 0 = .ok (.iload_n 1, 1) := by decide +kernel
theorem dX6_measure_1 : decode cX6_measure 1 = .ok (.invokestatic 64, 3) := by decide +kernel
theorem dX6_measure_4 : decode cX6_measure 4 = .ok (.ifCond .eq 19, 3) := by decide +kernel
theorem dX6_measure_7 : decode cX6_measure 7 = .ok (.iload_n 2, 1) := by decide +kernel
theorem dX6_measure_8 : decode cX6_measure 8 = .ok (.invokestatic 64, 3) := by decide +kernel
theorem dX6_measure_11 : decode cX6_measure 11 = .ok (.ifCond .eq 12, 3) := by decide +kernel
theorem dX6_measure_14 : decode cX6_measure 14 = .ok (.aload_n 0, 1) := by decide +kernel
theorem dX6_measure_15 : decode cX6_measure 15 = .ok (.iload_n 1, 1) := by decide +kernel
theorem dX6_measure_16 : decode cX6_measure 16 = .ok (.iload_n 2, 1) := by decide +kernel
theorem dX6_measure_17 : decode cX6_measure 17 = .ok (.invokevirtual 80, 3) := by decide +kernel
theorem dX6_measure_20 : decode cX6_measure 20 = .ok (.goto 5, 3) := by decide +kernel
theorem dX6_measure_23 : decode cX6_measure 23 = .ok (.bipush (-2), 2) := by decide +kernel
theorem dX6_measure_25 : decode cX6_measure 25 = .ok (.ireturn, 1) := by decide +kernel
set_option maxRecDepth 20000 in
theorem ggX6_grown_X6_isBody : GoodIn wsX6_grown wsX6_isBody := goodIn_r _ [4, 5, 6, 3, 7] (by decide +kernel) (by decide +kernel)
set_option maxRecDepth 20000 in
theorem gX6_grown_X6_isBody : GoodIn wsX6_grown (va_wsS RX6 64 yX6_isBody wsX6_isBody) := goodIn_app (goodIn_of _ (by decide +kernel)) ggX6_grown_X6_isBody
set_option maxRecDepth 20000 in
theorem ggX6_grown_X6_dayAhead : GoodIn wsX6_grown wsX6_dayAhead := goodIn_r _ [11, 12, 13, 14, 15, 16, 3, 17, 23, 24, 25, 26, 27, 28, 29, 30, 31, 32, 33, 34, 35, 36, 37, 38, 39, 40, 41, 42, 43, 44, 45, 46] (by decide +kernel) (by decide +kernel)
set_option maxRecDepth 20000 in
theorem gX6_grown_X6_dayAhead : GoodIn wsX6_grown (wsV RX6 73 RX6 yX6_dayAhead wsX6_dayAhead) := goodIn_app (goodIn_of _ (by decide +kernel)) ggX6_grown_X6_dayAhead
set_option maxRecDepth 20000 in
theorem ggX6_grown_X6_measureOn : GoodIn wsX6_grown wsX6_measureOn := goodIn_r _ [21, 12, 13, 22, 14, 15, 16, 3, 17, 23, 24, 25, 26, 27, 28, 29, 30, 31, 32, 33, 34, 35, 36, 37, 38, 39, 40, 41, 42, 43, 44, 45, 46] (by decide +kernel) (by decide +kernel)
set_option maxRecDepth 20000 in
theorem gX6_grown_X6_measureOn : GoodIn wsX6_grown (wsV RX6 77 RX6 yX6_measureOn wsX6_measureOn) := goodIn_app (goodIn_of _ (by decide +kernel)) ggX6_grown_X6_measureOn
theorem dX6_grown_0 : decode cX6_grown 0 = .ok (.iload_n 1, 1) := by decide +kernel
theorem dX6_grown_1 : decode cX6_grown 1 = .ok (.invokestatic 64, 3) := by decide +kernel
theorem dX6_grown_4 : decode cX6_grown 4 = .ok (.ifCond .eq 10, 3) := by decide +kernel
theorem dX6_grown_7 : decode cX6_grown 7 = .ok (.iload_n 2, 1) := by decide +kernel
theorem dX6_grown_8 : decode cX6_grown 8 = .ok (.invokestatic 64, 3) := by decide +kernel
theorem dX6_grown_11 : decode cX6_grown 11 = .ok (.ifCond .ne 7, 3) := by decide +kernel
theorem dX6_grown_14 : decode cX6_grown 14 = .ok (.sipush (-10000), 3) := by decide +kernel
theorem dX6_grown_17 : decode cX6_grown 17 = .ok (.ireturn, 1) := by decide +kernel
theorem dX6_grown_18 : decode cX6_grown 18 = .ok (.aload_n 0, 1) := by decide +kernel
theorem dX6_grown_19 : decode cX6_grown 19 = .ok (.iload_n 1, 1) := by decide +kernel
theorem dX6_grown_20 : decode cX6_grown 20 = .ok (.iload_n 2, 1) := by decide +kernel
theorem dX6_grown_21 : decode cX6_grown 21 = .ok (.sipush 20000, 3) := by decide +kernel
theorem dX6_grown_24 : decode cX6_grown 24 = .ok (.invokevirtual 73, 3) := by decide +kernel
theorem dX6_grown_27 : decode cX6_grown 27 = .ok (.istore_n 3, 1) := by decide +kernel
theorem dX6_grown_28 : decode cX6_grown 28 = .ok (.iload_n 3, 1) := by decide +kernel
theorem dX6_grown_29 : decode cX6_grown 29 = .ok (.iconst (-1), 1) := by decide +kernel
theorem dX6_grown_30 : decode cX6_grown 30 = .ok (.if_icmp .ne 7, 3) := by decide +kernel
theorem dX6_grown_33 : decode cX6_grown 33 = .ok (.iconst (-1), 1) := by decide +kernel
theorem dX6_grown_34 : decode cX6_grown 34 = .ok (.goto 10, 3) := by decide +kernel
theorem dX6_grown_37 : decode cX6_grown 37 = .ok (.aload_n 0, 1) := by decide +kernel
theorem dX6_grown_38 : decode cX6_grown 38 = .ok (.iload_n 1, 1) := by decide +kernel
theorem dX6_grown_39 : decode cX6_grown 39 = .ok (.iload_n 2, 1) := by decide +kernel
theorem dX6_grown_40 : decode cX6_grown 40 = .ok (.iload_n 3, 1) := by decide +kernel
theorem dX6_grown_41 : decode cX6_grown 41 = .ok (.invokevirtual 73, 3) := by decide +kernel
theorem dX6_grown_44 : decode cX6_grown 44 = .ok (.istore 4, 2) := by decide +kernel
theorem dX6_grown_46 : decode cX6_grown 46 = .ok (.iload 4, 2) := by decide +kernel
theorem dX6_grown_48 : decode cX6_grown 48 = .ok (.iconst (-1), 1) := by decide +kernel
theorem dX6_grown_49 : decode cX6_grown 49 = .ok (.if_icmp .ne 7, 3) := by decide +kernel
theorem dX6_grown_52 : decode cX6_grown 52 = .ok (.iconst 0, 1) := by decide +kernel
theorem dX6_grown_53 : decode cX6_grown 53 = .ok (.goto 19, 3) := by decide +kernel
theorem dX6_grown_56 : decode cX6_grown 56 = .ok (.aload_n 0, 1) := by decide +kernel
theorem dX6_grown_57 : decode cX6_grown 57 = .ok (.iload_n 1, 1) := by decide +kernel
theorem dX6_grown_58 : decode cX6_grown 58 = .ok (.iload_n 2, 1) := by decide +kernel
theorem dX6_grown_59 : decode cX6_grown 59 = .ok (.iload_n 3, 1) := by decide +kernel
theorem dX6_grown_60 : decode cX6_grown 60 = .ok (.invokevirtual 77, 3) := by decide +kernel
theorem dX6_grown_63 : decode cX6_grown 63 = .ok (.aload_n 0, 1) := by decide +kernel
theorem dX6_grown_64 : decode cX6_grown 64 = .ok (.iload_n 1, 1) := by decide +kernel
theorem dX6_grown_65 : decode cX6_grown 65 = .ok (.iload_n 2, 1) := by decide +kernel
theorem dX6_grown_66 : decode cX6_grown 66 = .ok (.iload 4, 2) := by decide +kernel
theorem dX6_grown_68 : decode cX6_grown 68 = .ok (.invokevirtual 77, 3) := by decide +kernel
theorem dX6_grown_71 : decode cX6_grown 71 = .ok (.isub, 1) := by decide +kernel
theorem dX6_grown_72 : decode cX6_grown 72 = .ok (.ireturn, 1) := by decide +kernel
set_option maxRecDepth 20000 in
theorem ggX6_found_X6_isBody : GoodIn wsX6_found wsX6_isBody := goodIn_r _ [6, 7, 8, 5, 9] (by decide +kernel) (by decide +kernel)
set_option maxRecDepth 20000 in
theorem gX6_found_X6_isBody : GoodIn wsX6_found (va_wsS RX6 64 yX6_isBody wsX6_isBody) := goodIn_app (goodIn_of _ (by decide +kernel)) ggX6_found_X6_isBody
set_option maxRecDepth 20000 in
theorem ggX6_found_X6_isHand : GoodIn wsX6_found wsX6_isHand := goodIn_r _ [12, 7, 8, 5, 9] (by decide +kernel) (by decide +kernel)
set_option maxRecDepth 20000 in
theorem gX6_found_X6_isHand : GoodIn wsX6_found (va_wsS RX6 60 yX6_isHand wsX6_isHand) := goodIn_app (goodIn_of _ (by decide +kernel)) ggX6_found_X6_isHand
set_option maxRecDepth 20000 in
theorem ggX6_found_X6_isOf : GoodIn wsX6_found wsX6_isOf := goodIn_r _ [16, 2, 17, 18, 19, 20, 21, 22, 23, 24, 25, 26, 27, 28, 29, 30, 31, 32, 33, 34, 35, 36, 37, 38, 39, 40] (by decide +kernel) (by decide +kernel)
set_option maxRecDepth 20000 in
theorem gX6_found_X6_isOf : GoodIn wsX6_found (wsV RX6 70 RX6 yX6_isOf wsX6_isOf) := goodIn_app (goodIn_of _ (by decide +kernel)) ggX6_found_X6_isOf
theorem dX6_found_0 : decode cX6_found 0 = .ok (.iload_n 1, 1) := by decide +kernel
theorem dX6_found_1 : decode cX6_found 1 = .ok (.invokestatic 64, 3) := by decide +kernel
theorem dX6_found_4 : decode cX6_found 4 = .ok (.ifCond .eq 17, 3) := by decide +kernel
theorem dX6_found_7 : decode cX6_found 7 = .ok (.iload_n 2, 1) := by decide +kernel
theorem dX6_found_8 : decode cX6_found 8 = .ok (.invokestatic 60, 3) := by decide +kernel
theorem dX6_found_11 : decode cX6_found 11 = .ok (.ifCond .eq 10, 3) := by decide +kernel
theorem dX6_found_14 : decode cX6_found 14 = .ok (.iload_n 3, 1) := by decide +kernel
theorem dX6_found_15 : decode cX6_found 15 = .ok (.invokestatic 60, 3) := by decide +kernel
theorem dX6_found_18 : decode cX6_found 18 = .ok (.ifCond .ne 7, 3) := by decide +kernel
theorem dX6_found_21 : decode cX6_found 21 = .ok (.sipush (-2000), 3) := by decide +kernel
theorem dX6_found_24 : decode cX6_found 24 = .ok (.ireturn, 1) := by decide +kernel
theorem dX6_found_25 : decode cX6_found 25 = .ok (.iconst 0, 1) := by decide +kernel
theorem dX6_found_26 : decode cX6_found 26 = .ok (.istore 4, 2) := by decide +kernel
theorem dX6_found_28 : decode cX6_found 28 = .ok (.iconst 0, 1) := by decide +kernel
theorem dX6_found_29 : decode cX6_found 29 = .ok (.istore 5, 2) := by decide +kernel
theorem dX6_found_31 : decode cX6_found 31 = .ok (.iconst 0, 1) := by decide +kernel
theorem dX6_found_32 : decode cX6_found 32 = .ok (.istore 6, 2) := by decide +kernel
theorem dX6_found_34 : decode cX6_found 34 = .ok (.iload 6, 2) := by decide +kernel
theorem dX6_found_36 : decode cX6_found 36 = .ok (.aload_n 0, 1) := by decide +kernel
theorem dX6_found_37 : decode cX6_found 37 = .ok (.getfield 67, 3) := by decide +kernel
theorem dX6_found_40 : decode cX6_found 40 = .ok (.if_icmp .ge 157, 3) := by decide +kernel
theorem dX6_found_43 : decode cX6_found 43 = .ok (.iconst 0, 1) := by decide +kernel
theorem dX6_found_44 : decode cX6_found 44 = .ok (.istore 7, 2) := by decide +kernel
theorem dX6_found_46 : decode cX6_found 46 = .ok (.iload 7, 2) := by decide +kernel
theorem dX6_found_48 : decode cX6_found 48 = .ok (.aload_n 0, 1) := by decide +kernel
theorem dX6_found_49 : decode cX6_found 49 = .ok (.getfield 67, 3) := by decide +kernel
theorem dX6_found_52 : decode cX6_found 52 = .ok (.if_icmp .ge 139, 3) := by decide +kernel
theorem dX6_found_55 : decode cX6_found 55 = .ok (.aload_n 0, 1) := by decide +kernel
theorem dX6_found_56 : decode cX6_found 56 = .ok (.getfield 7, 3) := by decide +kernel
theorem dX6_found_59 : decode cX6_found 59 = .ok (.iconst 5, 1) := by decide +kernel
theorem dX6_found_60 : decode cX6_found 60 = .ok (.iload 6, 2) := by decide +kernel
theorem dX6_found_62 : decode cX6_found 62 = .ok (.imul, 1) := by decide +kernel
theorem dX6_found_63 : decode cX6_found 63 = .ok (.iaload, 1) := by decide +kernel
theorem dX6_found_64 : decode cX6_found 64 = .ok (.iload_n 2, 1) := by decide +kernel
theorem dX6_found_65 : decode cX6_found 65 = .ok (.if_icmp .ne 35, 3) := by decide +kernel
theorem dX6_found_68 : decode cX6_found 68 = .ok (.aload_n 0, 1) := by decide +kernel
theorem dX6_found_69 : decode cX6_found 69 = .ok (.getfield 7, 3) := by decide +kernel
theorem dX6_found_72 : decode cX6_found 72 = .ok (.iconst 5, 1) := by decide +kernel
theorem dX6_found_73 : decode cX6_found 73 = .ok (.iload 7, 2) := by decide +kernel
theorem dX6_found_75 : decode cX6_found 75 = .ok (.imul, 1) := by decide +kernel
theorem dX6_found_76 : decode cX6_found 76 = .ok (.iaload, 1) := by decide +kernel
theorem dX6_found_77 : decode cX6_found 77 = .ok (.iload_n 3, 1) := by decide +kernel
theorem dX6_found_78 : decode cX6_found 78 = .ok (.if_icmp .ne 22, 3) := by decide +kernel
theorem dX6_found_81 : decode cX6_found 81 = .ok (.aload_n 0, 1) := by decide +kernel
theorem dX6_found_82 : decode cX6_found 82 = .ok (.getfield 7, 3) := by decide +kernel
theorem dX6_found_85 : decode cX6_found 85 = .ok (.iconst 5, 1) := by decide +kernel
theorem dX6_found_86 : decode cX6_found 86 = .ok (.iload 6, 2) := by decide +kernel
theorem dX6_found_88 : decode cX6_found 88 = .ok (.imul, 1) := by decide +kernel
theorem dX6_found_89 : decode cX6_found 89 = .ok (.iconst 2, 1) := by decide +kernel
theorem dX6_found_90 : decode cX6_found 90 = .ok (.iadd, 1) := by decide +kernel
theorem dX6_found_91 : decode cX6_found 91 = .ok (.iaload, 1) := by decide +kernel
theorem dX6_found_92 : decode cX6_found 92 = .ok (.iload_n 1, 1) := by decide +kernel
theorem dX6_found_93 : decode cX6_found 93 = .ok (.if_icmp .ne 7, 3) := by decide +kernel
theorem dX6_found_96 : decode cX6_found 96 = .ok (.iconst 1, 1) := by decide +kernel
theorem dX6_found_97 : decode cX6_found 97 = .ok (.goto 4, 3) := by decide +kernel
theorem dX6_found_100 : decode cX6_found 100 = .ok (.iconst 0, 1) := by decide +kernel
theorem dX6_found_101 : decode cX6_found 101 = .ok (.istore 8, 2) := by decide +kernel
theorem dX6_found_103 : decode cX6_found 103 = .ok (.iload 8, 2) := by decide +kernel
theorem dX6_found_105 : decode cX6_found 105 = .ok (.ifCond .eq 80, 3) := by decide +kernel
theorem dX6_found_108 : decode cX6_found 108 = .ok (.aload_n 0, 1) := by decide +kernel
theorem dX6_found_109 : decode cX6_found 109 = .ok (.iload 7, 2) := by decide +kernel
theorem dX6_found_111 : decode cX6_found 111 = .ok (.aload_n 0, 1) := by decide +kernel
theorem dX6_found_112 : decode cX6_found 112 = .ok (.getfield 7, 3) := by decide +kernel
theorem dX6_found_115 : decode cX6_found 115 = .ok (.iconst 5, 1) := by decide +kernel
theorem dX6_found_116 : decode cX6_found 116 = .ok (.iload 6, 2) := by decide +kernel
theorem dX6_found_118 : decode cX6_found 118 = .ok (.imul, 1) := by decide +kernel
theorem dX6_found_119 : decode cX6_found 119 = .ok (.iconst 1, 1) := by decide +kernel
theorem dX6_found_120 : decode cX6_found 120 = .ok (.iadd, 1) := by decide +kernel
theorem dX6_found_121 : decode cX6_found 121 = .ok (.iaload, 1) := by decide +kernel
theorem dX6_found_122 : decode cX6_found 122 = .ok (.iload_n 1, 1) := by decide +kernel
theorem dX6_found_123 : decode cX6_found 123 = .ok (.invokevirtual 70, 3) := by decide +kernel
theorem dX6_found_126 : decode cX6_found 126 = .ok (.ifCond .eq 59, 3) := by decide +kernel
theorem dX6_found_129 : decode cX6_found 129 = .ok (.aload_n 0, 1) := by decide +kernel
theorem dX6_found_130 : decode cX6_found 130 = .ok (.getfield 7, 3) := by decide +kernel
theorem dX6_found_133 : decode cX6_found 133 = .ok (.iconst 5, 1) := by decide +kernel
theorem dX6_found_134 : decode cX6_found 134 = .ok (.iload 6, 2) := by decide +kernel
theorem dX6_found_136 : decode cX6_found 136 = .ok (.imul, 1) := by decide +kernel
theorem dX6_found_137 : decode cX6_found 137 = .ok (.iconst 3, 1) := by decide +kernel
theorem dX6_found_138 : decode cX6_found 138 = .ok (.iadd, 1) := by decide +kernel
theorem dX6_found_139 : decode cX6_found 139 = .ok (.iaload, 1) := by decide +kernel
theorem dX6_found_140 : decode cX6_found 140 = .ok (.aload_n 0, 1) := by decide +kernel
theorem dX6_found_141 : decode cX6_found 141 = .ok (.getfield 7, 3) := by decide +kernel
theorem dX6_found_144 : decode cX6_found 144 = .ok (.iconst 5, 1) := by decide +kernel
theorem dX6_found_145 : decode cX6_found 145 = .ok (.iload 7, 2) := by decide +kernel
theorem dX6_found_147 : decode cX6_found 147 = .ok (.imul, 1) := by decide +kernel
theorem dX6_found_148 : decode cX6_found 148 = .ok (.iconst 3, 1) := by decide +kernel
theorem dX6_found_149 : decode cX6_found 149 = .ok (.iadd, 1) := by decide +kernel
theorem dX6_found_150 : decode cX6_found 150 = .ok (.iaload, 1) := by decide +kernel
theorem dX6_found_151 : decode cX6_found 151 = .ok (.if_icmp .ne 34, 3) := by decide +kernel
theorem dX6_found_154 : decode cX6_found 154 = .ok (.iload 4, 2) := by decide +kernel
theorem dX6_found_156 : decode cX6_found 156 = .ok (.aload_n 0, 1) := by decide +kernel
theorem dX6_found_157 : decode cX6_found 157 = .ok (.getfield 7, 3) := by decide +kernel
theorem dX6_found_160 : decode cX6_found 160 = .ok (.iconst 5, 1) := by decide +kernel
theorem dX6_found_161 : decode cX6_found 161 = .ok (.iload 6, 2) := by decide +kernel
theorem dX6_found_163 : decode cX6_found 163 = .ok (.imul, 1) := by decide +kernel
theorem dX6_found_164 : decode cX6_found 164 = .ok (.iconst 4, 1) := by decide +kernel
theorem dX6_found_165 : decode cX6_found 165 = .ok (.iadd, 1) := by decide +kernel
theorem dX6_found_166 : decode cX6_found 166 = .ok (.iaload, 1) := by decide +kernel
theorem dX6_found_167 : decode cX6_found 167 = .ok (.aload_n 0, 1) := by decide +kernel
theorem dX6_found_168 : decode cX6_found 168 = .ok (.getfield 7, 3) := by decide +kernel
theorem dX6_found_171 : decode cX6_found 171 = .ok (.iconst 5, 1) := by decide +kernel
theorem dX6_found_172 : decode cX6_found 172 = .ok (.iload 7, 2) := by decide +kernel
theorem dX6_found_174 : decode cX6_found 174 = .ok (.imul, 1) := by decide +kernel
theorem dX6_found_175 : decode cX6_found 175 = .ok (.iconst 4, 1) := by decide +kernel
theorem dX6_found_176 : decode cX6_found 176 = .ok (.iadd, 1) := by decide +kernel
theorem dX6_found_177 : decode cX6_found 177 = .ok (.iaload, 1) := by decide +kernel
theorem dX6_found_178 : decode cX6_found 178 = .ok (.isub, 1) := by decide +kernel
theorem dX6_found_179 : decode cX6_found 179 = .ok (.iadd, 1) := by decide +kernel
theorem dX6_found_180 : decode cX6_found 180 = .ok (.istore 4, 2) := by decide +kernel
theorem dX6_found_182 : decode cX6_found 182 = .ok (.iinc 5 1, 3) := by decide +kernel
theorem dX6_found_185 : decode cX6_found 185 = .ok (.iinc 7 1, 3) := by decide +kernel
theorem dX6_found_188 : decode cX6_found 188 = .ok (.goto (-142), 3) := by decide +kernel
theorem dX6_found_191 : decode cX6_found 191 = .ok (.iinc 6 1, 3) := by decide +kernel
theorem dX6_found_194 : decode cX6_found 194 = .ok (.goto (-160), 3) := by decide +kernel
theorem dX6_found_197 : decode cX6_found 197 = .ok (.iload 5, 2) := by decide +kernel
theorem dX6_found_199 : decode cX6_found 199 = .ok (.ifCond .ne 9, 3) := by decide +kernel
theorem dX6_found_202 : decode cX6_found 202 = .ok (.sipush (-1001), 3) := by decide +kernel
theorem dX6_found_205 : decode cX6_found 205 = .ok (.goto 8, 3) := by decide +kernel
theorem dX6_found_208 : decode cX6_found 208 = .ok (.iload 4, 2) := by decide +kernel
theorem dX6_found_210 : decode cX6_found 210 = .ok (.iload 5, 2) := by decide +kernel
theorem dX6_found_212 : decode cX6_found 212 = .ok (.idiv, 1) := by decide +kernel
theorem dX6_found_213 : decode cX6_found 213 = .ok (.ireturn, 1) := by decide +kernel
set_option maxRecDepth 20000 in
theorem ggX6_isPoint_X6_in : GoodIn wsX6_isPoint wsX6_in := goodIn_r _ [5] (by decide +kernel) (by decide +kernel)
set_option maxRecDepth 20000 in
theorem gX6_isPoint_X6_in : GoodIn wsX6_isPoint (va_wsS RX6 56 yX6_in wsX6_in) := goodIn_app (goodIn_of _ (by decide +kernel)) ggX6_isPoint_X6_in
theorem dX6_isPoint_0 : decode cX6_isPoint 0 = .ok (.iload_n 1, 1) := by decide +kernel
theorem dX6_isPoint_1 : decode cX6_isPoint 1 = .ok (.iconst 0, 1) := by decide +kernel
theorem dX6_isPoint_2 : decode cX6_isPoint 2 = .ok (.aload_n 0, 1) := by decide +kernel
theorem dX6_isPoint_3 : decode cX6_isPoint 3 = .ok (.getfield 84, 3) := by decide +kernel
theorem dX6_isPoint_6 : decode cX6_isPoint 6 = .ok (.iconst 1, 1) := by decide +kernel
theorem dX6_isPoint_7 : decode cX6_isPoint 7 = .ok (.isub, 1) := by decide +kernel
theorem dX6_isPoint_8 : decode cX6_isPoint 8 = .ok (.invokestatic 56, 3) := by decide +kernel
theorem dX6_isPoint_11 : decode cX6_isPoint 11 = .ok (.ireturn, 1) := by decide +kernel
theorem dX6_newPoint_0 : decode cX6_newPoint 0 = .ok (.aload_n 0, 1) := by decide +kernel
theorem dX6_newPoint_1 : decode cX6_newPoint 1 = .ok (.getfield 84, 3) := by decide +kernel
theorem dX6_newPoint_4 : decode cX6_newPoint 4 = .ok (.bipush 20, 2) := by decide +kernel
theorem dX6_newPoint_6 : decode cX6_newPoint 6 = .ok (.if_icmp .ne 6, 3) := by decide +kernel
theorem dX6_newPoint_9 : decode cX6_newPoint 9 = .ok (.bipush (-4), 2) := by decide +kernel
theorem dX6_newPoint_11 : decode cX6_newPoint 11 = .ok (.ireturn, 1) := by decide +kernel
theorem dX6_newPoint_12 : decode cX6_newPoint 12 = .ok (.iconst 5, 1) := by decide +kernel
theorem dX6_newPoint_13 : decode cX6_newPoint 13 = .ok (.aload_n 0, 1) := by decide +kernel
theorem dX6_newPoint_14 : decode cX6_newPoint 14 = .ok (.getfield 84, 3) := by decide +kernel
theorem dX6_newPoint_17 : decode cX6_newPoint 17 = .ok (.imul, 1) := by decide +kernel
theorem dX6_newPoint_18 : decode cX6_newPoint 18 = .ok (.istore 6, 2) := by decide +kernel
theorem dX6_newPoint_20 : decode cX6_newPoint 20 = .ok (.aload_n 0, 1) := by decide +kernel
theorem dX6_newPoint_21 : decode cX6_newPoint 21 = .ok (.getfield 16, 3) := by decide +kernel
theorem dX6_newPoint_24 : decode cX6_newPoint 24 = .ok (.iload 6, 2) := by decide +kernel
theorem dX6_newPoint_26 : decode cX6_newPoint 26 = .ok (.iload_n 1, 1) := by decide +kernel
theorem dX6_newPoint_27 : decode cX6_newPoint 27 = .ok (.iastore, 1) := by decide +kernel
theorem dX6_newPoint_28 : decode cX6_newPoint 28 = .ok (.aload_n 0, 1) := by decide +kernel
theorem dX6_newPoint_29 : decode cX6_newPoint 29 = .ok (.getfield 16, 3) := by decide +kernel
theorem dX6_newPoint_32 : decode cX6_newPoint 32 = .ok (.iload 6, 2) := by decide +kernel
theorem dX6_newPoint_34 : decode cX6_newPoint 34 = .ok (.iconst 1, 1) := by decide +kernel
theorem dX6_newPoint_35 : decode cX6_newPoint 35 = .ok (.iadd, 1) := by decide +kernel
theorem dX6_newPoint_36 : decode cX6_newPoint 36 = .ok (.iload_n 2, 1) := by decide +kernel
theorem dX6_newPoint_37 : decode cX6_newPoint 37 = .ok (.iastore, 1) := by decide +kernel
theorem dX6_newPoint_38 : decode cX6_newPoint 38 = .ok (.aload_n 0, 1) := by decide +kernel
theorem dX6_newPoint_39 : decode cX6_newPoint 39 = .ok (.getfield 16, 3) := by decide +kernel
theorem dX6_newPoint_42 : decode cX6_newPoint 42 = .ok (.iload 6, 2) := by decide +kernel
theorem dX6_newPoint_44 : decode cX6_newPoint 44 = .ok (.iconst 2, 1) := by decide +kernel
theorem dX6_newPoint_45 : decode cX6_newPoint 45 = .ok (.iadd, 1) := by decide +kernel
theorem dX6_newPoint_46 : decode cX6_newPoint 46 = .ok (.iload_n 3, 1) := by decide +kernel
theorem dX6_newPoint_47 : decode cX6_newPoint 47 = .ok (.iastore, 1) := by decide +kernel
theorem dX6_newPoint_48 : decode cX6_newPoint 48 = .ok (.aload_n 0, 1) := by decide +kernel
theorem dX6_newPoint_49 : decode cX6_newPoint 49 = .ok (.getfield 16, 3) := by decide +kernel
theorem dX6_newPoint_52 : decode cX6_newPoint 52 = .ok (.iload 6, 2) := by decide +kernel
theorem dX6_newPoint_54 : decode cX6_newPoint 54 = .ok (.iconst 3, 1) := by decide +kernel
theorem dX6_newPoint_55 : decode cX6_newPoint 55 = .ok (.iadd, 1) := by decide +kernel
theorem dX6_newPoint_56 : decode cX6_newPoint 56 = .ok (.iload 4, 2) := by decide +kernel
theorem dX6_newPoint_58 : decode cX6_newPoint 58 = .ok (.iastore, 1) := by decide +kernel
theorem dX6_newPoint_59 : decode cX6_newPoint 59 = .ok (.aload_n 0, 1) := by decide +kernel
theorem dX6_newPoint_60 : decode cX6_newPoint 60 = .ok (.getfield 16, 3) := by decide +kernel
theorem dX6_newPoint_63 : decode cX6_newPoint 63 = .ok (.iload 6, 2) := by decide +kernel
theorem dX6_newPoint_65 : decode cX6_newPoint 65 = .ok (.iconst 4, 1) := by decide +kernel
theorem dX6_newPoint_66 : decode cX6_newPoint 66 = .ok (.iadd, 1) := by decide +kernel
theorem dX6_newPoint_67 : decode cX6_newPoint 67 = .ok (.iload 5, 2) := by decide +kernel
theorem dX6_newPoint_69 : decode cX6_newPoint 69 = .ok (.iastore, 1) := by decide +kernel
theorem dX6_newPoint_70 : decode cX6_newPoint 70 = .ok (.aload_n 0, 1) := by decide +kernel
theorem dX6_newPoint_71 : decode cX6_newPoint 71 = .ok (.dup, 1) := by decide +kernel
theorem dX6_newPoint_72 : decode cX6_newPoint 72 = .ok (.getfield 84, 3) := by decide +kernel
theorem dX6_newPoint_75 : decode cX6_newPoint 75 = .ok (.iconst 1, 1) := by decide +kernel
theorem dX6_newPoint_76 : decode cX6_newPoint 76 = .ok (.iadd, 1) := by decide +kernel
theorem dX6_newPoint_77 : decode cX6_newPoint 77 = .ok (.putfield 84, 3) := by decide +kernel
theorem dX6_newPoint_80 : decode cX6_newPoint 80 = .ok (.aload_n 0, 1) := by decide +kernel
theorem dX6_newPoint_81 : decode cX6_newPoint 81 = .ok (.getfield 84, 3) := by decide +kernel
theorem dX6_newPoint_84 : decode cX6_newPoint 84 = .ok (.iconst 1, 1) := by decide +kernel
theorem dX6_newPoint_85 : decode cX6_newPoint 85 = .ok (.isub, 1) := by decide +kernel
theorem dX6_newPoint_86 : decode cX6_newPoint 86 = .ok (.ireturn, 1) := by decide +kernel
set_option maxRecDepth 20000 in
theorem ggX6_isPlace_X6_in : GoodIn wsX6_isPlace wsX6_in := goodIn_r _ [4] (by decide +kernel) (by decide +kernel)
set_option maxRecDepth 20000 in
theorem gX6_isPlace_X6_in : GoodIn wsX6_isPlace (va_wsS RX6 56 yX6_in wsX6_in) := goodIn_app (goodIn_of _ (by decide +kernel)) ggX6_isPlace_X6_in
theorem dX6_isPlace_0 : decode cX6_isPlace 0 = .ok (.iload_n 0, 1) := by decide +kernel
theorem dX6_isPlace_1 : decode cX6_isPlace 1 = .ok (.sipush (-5000), 3) := by decide +kernel
theorem dX6_isPlace_4 : decode cX6_isPlace 4 = .ok (.sipush 5000, 3) := by decide +kernel
theorem dX6_isPlace_7 : decode cX6_isPlace 7 = .ok (.invokestatic 56, 3) := by decide +kernel
theorem dX6_isPlace_10 : decode cX6_isPlace 10 = .ok (.ireturn, 1) := by decide +kernel
set_option maxRecDepth 20000 in
theorem ggX6_fixed_X6_isPlace : GoodIn wsX6_fixed wsX6_isPlace := goodIn_r _ [4, 5, 6, 3, 7] (by decide +kernel) (by decide +kernel)
set_option maxRecDepth 20000 in
theorem gX6_fixed_X6_isPlace : GoodIn wsX6_fixed (va_wsS RX6 87 yX6_isPlace wsX6_isPlace) := goodIn_app (goodIn_of _ (by decide +kernel)) ggX6_fixed_X6_isPlace
set_option maxRecDepth 20000 in
theorem ggX6_fixed_X6_newPoint : GoodIn wsX6_fixed wsX6_newPoint := goodIn_r _ [11, 12, 13, 14, 15, 16, 17, 18, 19, 20, 21, 22, 23, 24, 25, 26, 27, 28, 29, 30, 31, 32, 33, 34, 35, 36, 37] (by decide +kernel) (by decide +kernel)
set_option maxRecDepth 20000 in
theorem gX6_fixed_X6_newPoint : GoodIn wsX6_fixed (wsV RX6 90 RX6 yX6_newPoint wsX6_newPoint) := goodIn_app (goodIn_of _ (by decide +kernel)) ggX6_fixed_X6_newPoint
theorem dX6_fixed_0 : decode cX6_fixed 0 = .ok (.iload_n 1, 1) := by decide +kernel
theorem dX6_fixed_1 : decode cX6_fixed 1 = .ok (.invokestatic 87, 3) := by decide +kernel
theorem dX6_fixed_4 : decode cX6_fixed 4 = .ok (.ifCond .eq 22, 3) := by decide +kernel
theorem dX6_fixed_7 : decode cX6_fixed 7 = .ok (.iload_n 2, 1) := by decide +kernel
theorem dX6_fixed_8 : decode cX6_fixed 8 = .ok (.invokestatic 87, 3) := by decide +kernel
theorem dX6_fixed_11 : decode cX6_fixed 11 = .ok (.ifCond .eq 15, 3) := by decide +kernel
theorem dX6_fixed_14 : decode cX6_fixed 14 = .ok (.aload_n 0, 1) := by decide +kernel
theorem dX6_fixed_15 : decode cX6_fixed 15 = .ok (.iconst 0, 1) := by decide +kernel
theorem dX6_fixed_16 : decode cX6_fixed 16 = .ok (.iload_n 1, 1) := by decide +kernel
theorem dX6_fixed_17 : decode cX6_fixed 17 = .ok (.iload_n 2, 1) := by decide +kernel
theorem dX6_fixed_18 : decode cX6_fixed 18 = .ok (.iconst 0, 1) := by decide +kernel
theorem dX6_fixed_19 : decode cX6_fixed 19 = .ok (.iconst 0, 1) := by decide +kernel
theorem dX6_fixed_20 : decode cX6_fixed 20 = .ok (.invokevirtual 90, 3) := by decide +kernel
theorem dX6_fixed_23 : decode cX6_fixed 23 = .ok (.goto 5, 3) := by decide +kernel
theorem dX6_fixed_26 : decode cX6_fixed 26 = .ok (.bipush (-2), 2) := by decide +kernel
theorem dX6_fixed_28 : decode cX6_fixed 28 = .ok (.ireturn, 1) := by decide +kernel
set_option maxRecDepth 20000 in
theorem ggX6_off_X6_isPoint : GoodIn wsX6_off wsX6_isPoint := goodIn_r _ [5, 6, 7, 8, 4, 9, 18, 19, 20, 21, 22, 23, 24, 25, 26, 27, 28, 29, 30, 31, 32, 33, 34, 35, 36, 37, 38, 39, 40, 41] (by decide +kernel) (by decide +kernel)
set_option maxRecDepth 20000 in
theorem gX6_off_X6_isPoint : GoodIn wsX6_off (wsV RX6 94 RX6 yX6_isPoint wsX6_isPoint) := goodIn_app (goodIn_of _ (by decide +kernel)) ggX6_off_X6_isPoint
set_option maxRecDepth 20000 in
theorem ggX6_off_X6_isPlace : GoodIn wsX6_off wsX6_isPlace := goodIn_r _ [12, 7, 8, 4, 9] (by decide +kernel) (by decide +kernel)
set_option maxRecDepth 20000 in
theorem gX6_off_X6_isPlace : GoodIn wsX6_off (va_wsS RX6 87 yX6_isPlace wsX6_isPlace) := goodIn_app (goodIn_of _ (by decide +kernel)) ggX6_off_X6_isPlace
set_option maxRecDepth 20000 in
theorem ggX6_off_X6_newPoint : GoodIn wsX6_off wsX6_newPoint := goodIn_r _ [16, 6, 17, 18, 19, 20, 21, 22, 23, 24, 25, 26, 27, 28, 29, 30, 31, 32, 33, 34, 35, 36, 37, 38, 39, 40, 41] (by decide +kernel) (by decide +kernel)
set_option maxRecDepth 20000 in
theorem gX6_off_X6_newPoint : GoodIn wsX6_off (wsV RX6 90 RX6 yX6_newPoint wsX6_newPoint) := goodIn_app (goodIn_of _ (by decide +kernel)) ggX6_off_X6_newPoint
theorem dX6_off_0 : decode cX6_off 0 = .ok (.aload_n 0, 1) := by decide +kernel
theorem dX6_off_1 : decode cX6_off 1 = .ok (.iload_n 1, 1) := by decide +kernel
theorem dX6_off_2 : decode cX6_off 2 = .ok (.invokevirtual 94, 3) := by decide +kernel
theorem dX6_off_5 : decode cX6_off 5 = .ok (.ifCond .eq 29, 3) := by decide +kernel
theorem dX6_off_8 : decode cX6_off 8 = .ok (.iload_n 2, 1) := by decide +kernel
theorem dX6_off_9 : decode cX6_off 9 = .ok (.invokestatic 87, 3) := by decide +kernel
theorem dX6_off_12 : decode cX6_off 12 = .ok (.ifCond .eq 22, 3) := by decide +kernel
theorem dX6_off_15 : decode cX6_off 15 = .ok (.iload_n 3, 1) := by decide +kernel
theorem dX6_off_16 : decode cX6_off 16 = .ok (.invokestatic 87, 3) := by decide +kernel
theorem dX6_off_19 : decode cX6_off 19 = .ok (.ifCond .eq 15, 3) := by decide +kernel
theorem dX6_off_22 : decode cX6_off 22 = .ok (.aload_n 0, 1) := by decide +kernel
theorem dX6_off_23 : decode cX6_off 23 = .ok (.iconst 1, 1) := by decide +kernel
theorem dX6_off_24 : decode cX6_off 24 = .ok (.iload_n 1, 1) := by decide +kernel
theorem dX6_off_25 : decode cX6_off 25 = .ok (.iload_n 2, 1) := by decide +kernel
theorem dX6_off_26 : decode cX6_off 26 = .ok (.iload_n 3, 1) := by decide +kernel
theorem dX6_off_27 : decode cX6_off 27 = .ok (.iconst 0, 1) := by decide +kernel
theorem dX6_off_28 : decode cX6_off 28 = .ok (.invokevirtual 90, 3) := by decide +kernel
theorem dX6_off_31 : decode cX6_off 31 = .ok (.goto 5, 3) := by decide +kernel
theorem dX6_off_34 : decode cX6_off 34 = .ok (.bipush (-2), 2) := by decide +kernel
theorem dX6_off_36 : decode cX6_off 36 = .ok (.ireturn, 1) := by decide +kernel
set_option maxRecDepth 20000 in
theorem ggX6_by_X6_isPoint : GoodIn wsX6_by wsX6_isPoint := goodIn_r _ [5, 6, 7, 8, 4, 9, 18, 19, 20, 21, 22, 23, 24, 25, 26, 27, 28, 29, 30, 31, 32, 33, 34, 35, 36, 37, 38, 39, 40, 41] (by decide +kernel) (by decide +kernel)
set_option maxRecDepth 20000 in
theorem gX6_by_X6_isPoint : GoodIn wsX6_by (wsV RX6 94 RX6 yX6_isPoint wsX6_isPoint) := goodIn_app (goodIn_of _ (by decide +kernel)) ggX6_by_X6_isPoint
set_option maxRecDepth 20000 in
theorem ggX6_by_X6_isBody : GoodIn wsX6_by wsX6_isBody := goodIn_r _ [12, 7, 8, 4, 9] (by decide +kernel) (by decide +kernel)
set_option maxRecDepth 20000 in
theorem gX6_by_X6_isBody : GoodIn wsX6_by (va_wsS RX6 64 yX6_isBody wsX6_isBody) := goodIn_app (goodIn_of _ (by decide +kernel)) ggX6_by_X6_isBody
set_option maxRecDepth 20000 in
theorem ggX6_by_X6_in : GoodIn wsX6_by wsX6_in := goodIn_r _ [9] (by decide +kernel) (by decide +kernel)
set_option maxRecDepth 20000 in
theorem gX6_by_X6_in : GoodIn wsX6_by (va_wsS RX6 56 yX6_in wsX6_in) := goodIn_app (goodIn_of _ (by decide +kernel)) ggX6_by_X6_in
set_option maxRecDepth 20000 in
theorem ggX6_by_X6_newPoint : GoodIn wsX6_by wsX6_newPoint := goodIn_r _ [16, 6, 17, 18, 19, 20, 21, 22, 23, 24, 25, 26, 27, 28, 29, 30, 31, 32, 33, 34, 35, 36, 37, 38, 39, 40, 41] (by decide +kernel) (by decide +kernel)
set_option maxRecDepth 20000 in
theorem gX6_by_X6_newPoint : GoodIn wsX6_by (wsV RX6 90 RX6 yX6_newPoint wsX6_newPoint) := goodIn_app (goodIn_of _ (by decide +kernel)) ggX6_by_X6_newPoint
theorem dX6_by_0 : decode cX6_by 0 = .ok (.aload_n 0, 1) := by decide +kernel
theorem dX6_by_1 : decode cX6_by 1 = .ok (.iload_n 1, 1) := by decide +kernel
theorem dX6_by_2 : decode cX6_by 2 = .ok (.invokevirtual 94, 3) := by decide +kernel
theorem dX6_by_5 : decode cX6_by 5 = .ok (.ifCond .eq 46, 3) := by decide +kernel
theorem dX6_by_8 : decode cX6_by 8 = .ok (.iload_n 2, 1) := by decide +kernel
theorem dX6_by_9 : decode cX6_by 9 = .ok (.invokestatic 64, 3) := by decide +kernel
theorem dX6_by_12 : decode cX6_by 12 = .ok (.ifCond .eq 39, 3) := by decide +kernel
theorem dX6_by_15 : decode cX6_by 15 = .ok (.iload_n 3, 1) := by decide +kernel
theorem dX6_by_16 : decode cX6_by 16 = .ok (.bipush (-20), 2) := by decide +kernel
theorem dX6_by_18 : decode cX6_by 18 = .ok (.bipush 20, 2) := by decide +kernel
theorem dX6_by_20 : decode cX6_by 20 = .ok (.invokestatic 56, 3) := by decide +kernel
theorem dX6_by_23 : decode cX6_by 23 = .ok (.ifCond .eq 28, 3) := by decide +kernel
theorem dX6_by_26 : decode cX6_by 26 = .ok (.iload 4, 2) := by decide +kernel
theorem dX6_by_28 : decode cX6_by 28 = .ok (.iconst 1, 1) := by decide +kernel
theorem dX6_by_29 : decode cX6_by 29 = .ok (.bipush 20, 2) := by decide +kernel
theorem dX6_by_31 : decode cX6_by 31 = .ok (.invokestatic 56, 3) := by decide +kernel
theorem dX6_by_34 : decode cX6_by 34 = .ok (.ifCond .eq 17, 3) := by decide +kernel
theorem dX6_by_37 : decode cX6_by 37 = .ok (.iload 5, 2) := by decide +kernel
theorem dX6_by_39 : decode cX6_by 39 = .ok (.iconst 0, 1) := by decide +kernel
theorem dX6_by_40 : decode cX6_by 40 = .ok (.iconst 1, 1) := by decide +kernel
theorem dX6_by_41 : decode cX6_by 41 = .ok (.invokestatic 56, 3) := by decide +kernel
theorem dX6_by_44 : decode cX6_by 44 = .ok (.ifCond .eq 7, 3) := by decide +kernel
theorem dX6_by_47 : decode cX6_by 47 = .ok (.iconst 1, 1) := by decide +kernel
theorem dX6_by_48 : decode cX6_by 48 = .ok (.goto 4, 3) := by decide +kernel
theorem dX6_by_51 : decode cX6_by 51 = .ok (.iconst 0, 1) := by decide +kernel
theorem dX6_by_52 : decode cX6_by 52 = .ok (.istore 6, 2) := by decide +kernel
theorem dX6_by_54 : decode cX6_by 54 = .ok (.iload 6, 2) := by decide +kernel
theorem dX6_by_56 : decode cX6_by 56 = .ok (.ifCond .eq 25, 3) := by decide +kernel
theorem dX6_by_59 : decode cX6_by 59 = .ok (.aload_n 0, 1) := by decide +kernel
theorem dX6_by_60 : decode cX6_by 60 = .ok (.iload 5, 2) := by decide +kernel
theorem dX6_by_62 : decode cX6_by 62 = .ok (.ifCond .ne 7, 3) := by decide +kernel
theorem dX6_by_65 : decode cX6_by 65 = .ok (.iconst 2, 1) := by decide +kernel
theorem dX6_by_66 : decode cX6_by 66 = .ok (.goto 4, 3) := by decide +kernel
theorem dX6_by_69 : decode cX6_by 69 = .ok (.iconst 3, 1) := by decide +kernel
theorem dX6_by_70 : decode cX6_by 70 = .ok (.iload_n 1, 1) := by decide +kernel
theorem dX6_by_71 : decode cX6_by 71 = .ok (.iload_n 2, 1) := by decide +kernel
theorem dX6_by_72 : decode cX6_by 72 = .ok (.iload_n 3, 1) := by decide +kernel
theorem dX6_by_73 : decode cX6_by 73 = .ok (.iload 4, 2) := by decide +kernel
theorem dX6_by_75 : decode cX6_by 75 = .ok (.invokevirtual 90, 3) := by decide +kernel
theorem dX6_by_78 : decode cX6_by 78 = .ok (.goto 5, 3) := by decide +kernel
theorem dX6_by_81 : decode cX6_by 81 = .ok (.bipush (-2), 2) := by decide +kernel
theorem dX6_by_83 : decode cX6_by 83 = .ok (.ireturn, 1) := by decide +kernel
set_option maxRecDepth 20000 in
theorem ggX6_middle_X6_isPoint : GoodIn wsX6_middle wsX6_isPoint := goodIn_r _ [5, 6, 7, 8, 4, 9, 15, 16, 17, 18, 19, 20, 21, 22, 23, 24, 25, 26, 27, 28, 29, 30, 31, 32, 33, 34, 35, 36, 37, 38] (by decide +kernel) (by decide +kernel)
set_option maxRecDepth 20000 in
theorem gX6_middle_X6_isPoint : GoodIn wsX6_middle (wsV RX6 94 RX6 yX6_isPoint wsX6_isPoint) := goodIn_app (goodIn_of _ (by decide +kernel)) ggX6_middle_X6_isPoint
set_option maxRecDepth 20000 in
theorem ggX6_middle_X6_newPoint : GoodIn wsX6_middle wsX6_newPoint := goodIn_r _ [13, 6, 14, 15, 16, 17, 18, 19, 20, 21, 22, 23, 24, 25, 26, 27, 28, 29, 30, 31, 32, 33, 34, 35, 36, 37, 38] (by decide +kernel) (by decide +kernel)
set_option maxRecDepth 20000 in
theorem gX6_middle_X6_newPoint : GoodIn wsX6_middle (wsV RX6 90 RX6 yX6_newPoint wsX6_newPoint) := goodIn_app (goodIn_of _ (by decide +kernel)) ggX6_middle_X6_newPoint
theorem dX6_middle_0 : decode cX6_middle 0 = .ok (.aload_n 0, 1) := by decide +kernel
theorem dX6_middle_1 : decode cX6_middle 1 = .ok (.iload_n 1, 1) := by decide +kernel
theorem dX6_middle_2 : decode cX6_middle 2 = .ok (.invokevirtual 94, 3) := by decide +kernel
theorem dX6_middle_5 : decode cX6_middle 5 = .ok (.ifCond .eq 23, 3) := by decide +kernel
theorem dX6_middle_8 : decode cX6_middle 8 = .ok (.aload_n 0, 1) := by decide +kernel
theorem dX6_middle_9 : decode cX6_middle 9 = .ok (.iload_n 2, 1) := by decide +kernel
theorem dX6_middle_10 : decode cX6_middle 10 = .ok (.invokevirtual 94, 3) := by decide +kernel
theorem dX6_middle_13 : decode cX6_middle 13 = .ok (.ifCond .eq 15, 3) := by decide +kernel
theorem dX6_middle_16 : decode cX6_middle 16 = .ok (.aload_n 0, 1) := by decide +kernel
theorem dX6_middle_17 : decode cX6_middle 17 = .ok (.iconst 4, 1) := by decide +kernel
theorem dX6_middle_18 : decode cX6_middle 18 = .ok (.iload_n 1, 1) := by decide +kernel
theorem dX6_middle_19 : decode cX6_middle 19 = .ok (.iload_n 2, 1) := by decide +kernel
theorem dX6_middle_20 : decode cX6_middle 20 = .ok (.iconst 0, 1) := by decide +kernel
theorem dX6_middle_21 : decode cX6_middle 21 = .ok (.iconst 0, 1) := by decide +kernel
theorem dX6_middle_22 : decode cX6_middle 22 = .ok (.invokevirtual 90, 3) := by decide +kernel
theorem dX6_middle_25 : decode cX6_middle 25 = .ok (.goto 5, 3) := by decide +kernel
theorem dX6_middle_28 : decode cX6_middle 28 = .ok (.bipush (-2), 2) := by decide +kernel
theorem dX6_middle_30 : decode cX6_middle 30 = .ok (.ireturn, 1) := by decide +kernel
set_option maxRecDepth 20000 in
theorem ggX6_layPoints_X6_measureOf : GoodIn wsX6_layPoints wsX6_measureOf := goodIn_r _ [9, 10, 11, 12, 8, 13, 14, 15, 16, 17, 18, 19, 20, 21, 22, 23, 24, 25, 26, 27, 28, 29, 30, 31, 32, 33, 34, 35, 36, 37, 38, 39, 40, 41, 42, 43, 44, 45, 46, 47, 48] (by decide +kernel) (by decide +kernel)
set_option maxRecDepth 20000 in
theorem gX6_layPoints_X6_measureOf : GoodIn wsX6_layPoints (wsV RX6 80 RX6 yX6_measureOf wsX6_measureOf) := goodIn_app (goodIn_of _ (by decide +kernel)) ggX6_layPoints_X6_measureOf
theorem dX6_layPoints_0 : decode cX6_layPoints 0 = .ok (.iconst 0, 1) := by decide +kernel
theorem dX6_layPoints_1 : decode cX6_layPoints 1 = .ok (.istore_n 2, 1) := by decide +kernel
theorem dX6_layPoints_2 : decode cX6_layPoints 2 = .ok (.iload_n 2, 1) := by decide +kernel
theorem dX6_layPoints_3 : decode cX6_layPoints 3 = .ok (.aload_n 0, 1) := by decide +kernel
theorem dX6_layPoints_4 : decode cX6_layPoints 4 = .ok (.getfield 84, 3) := by decide +kernel
theorem dX6_layPoints_7 : decode cX6_layPoints 7 = .ok (.if_icmp .ge 246, 3) := by decide +kernel
theorem dX6_layPoints_10 : decode cX6_layPoints 10 = .ok (.iconst 5, 1) := by decide +kernel
theorem dX6_layPoints_11 : decode cX6_layPoints 11 = .ok (.iload_n 2, 1) := by decide +kernel
theorem dX6_layPoints_12 : decode cX6_layPoints 12 = .ok (.imul, 1) := by decide +kernel
theorem dX6_layPoints_13 : decode cX6_layPoints 13 = .ok (.istore_n 3, 1) := by decide +kernel
theorem dX6_layPoints_14 : decode cX6_layPoints 14 = .ok (.aload_n 0, 1) := by decide +kernel
theorem dX6_layPoints_15 : decode cX6_layPoints 15 = .ok (.getfield 16, 3) := by decide +kernel
theorem dX6_layPoints_18 : decode cX6_layPoints 18 = .ok (.iload_n 3, 1) := by decide +kernel
theorem dX6_layPoints_19 : decode cX6_layPoints 19 = .ok (.iaload, 1) := by decide +kernel
theorem dX6_layPoints_20 : decode cX6_layPoints 20 = .ok (.istore 4, 2) := by decide +kernel
theorem dX6_layPoints_22 : decode cX6_layPoints 22 = .ok (.aload_n 0, 1) := by decide +kernel
theorem dX6_layPoints_23 : decode cX6_layPoints 23 = .ok (.getfield 16, 3) := by decide +kernel
theorem dX6_layPoints_26 : decode cX6_layPoints 26 = .ok (.iload_n 3, 1) := by decide +kernel
theorem dX6_layPoints_27 : decode cX6_layPoints 27 = .ok (.iconst 1, 1) := by decide +kernel
theorem dX6_layPoints_28 : decode cX6_layPoints 28 = .ok (.iadd, 1) := by decide +kernel
theorem dX6_layPoints_29 : decode cX6_layPoints 29 = .ok (.iaload, 1) := by decide +kernel
theorem dX6_layPoints_30 : decode cX6_layPoints 30 = .ok (.istore 5, 2) := by decide +kernel
theorem dX6_layPoints_32 : decode cX6_layPoints 32 = .ok (.aload_n 0, 1) := by decide +kernel
theorem dX6_layPoints_33 : decode cX6_layPoints 33 = .ok (.getfield 16, 3) := by decide +kernel
theorem dX6_layPoints_36 : decode cX6_layPoints 36 = .ok (.iload_n 3, 1) := by decide +kernel
theorem dX6_layPoints_37 : decode cX6_layPoints 37 = .ok (.iconst 2, 1) := by decide +kernel
theorem dX6_layPoints_38 : decode cX6_layPoints 38 = .ok (.iadd, 1) := by decide +kernel
theorem dX6_layPoints_39 : decode cX6_layPoints 39 = .ok (.iaload, 1) := by decide +kernel
theorem dX6_layPoints_40 : decode cX6_layPoints 40 = .ok (.istore 6, 2) := by decide +kernel
theorem dX6_layPoints_42 : decode cX6_layPoints 42 = .ok (.iload 4, 2) := by decide +kernel
theorem dX6_layPoints_44 : decode cX6_layPoints 44 = .ok (.ifCond .ne 22, 3) := by decide +kernel
theorem dX6_layPoints_47 : decode cX6_layPoints 47 = .ok (.aload_n 0, 1) := by decide +kernel
theorem dX6_layPoints_48 : decode cX6_layPoints 48 = .ok (.getfield 38, 3) := by decide +kernel
theorem dX6_layPoints_51 : decode cX6_layPoints 51 = .ok (.iload_n 2, 1) := by decide +kernel
theorem dX6_layPoints_52 : decode cX6_layPoints 52 = .ok (.iload 5, 2) := by decide +kernel
theorem dX6_layPoints_54 : decode cX6_layPoints 54 = .ok (.iastore, 1) := by decide +kernel
theorem dX6_layPoints_55 : decode cX6_layPoints 55 = .ok (.aload_n 0, 1) := by decide +kernel
theorem dX6_layPoints_56 : decode cX6_layPoints 56 = .ok (.getfield 41, 3) := by decide +kernel
theorem dX6_layPoints_59 : decode cX6_layPoints 59 = .ok (.iload_n 2, 1) := by decide +kernel
theorem dX6_layPoints_60 : decode cX6_layPoints 60 = .ok (.iload 6, 2) := by decide +kernel
theorem dX6_layPoints_62 : decode cX6_layPoints 62 = .ok (.iastore, 1) := by decide +kernel
theorem dX6_layPoints_63 : decode cX6_layPoints 63 = .ok (.goto 184, 3) := by decide +kernel
theorem dX6_layPoints_66 : decode cX6_layPoints 66 = .ok (.iload 4, 2) := by decide +kernel
theorem dX6_layPoints_68 : decode cX6_layPoints 68 = .ok (.iconst 1, 1) := by decide +kernel
theorem dX6_layPoints_69 : decode cX6_layPoints 69 = .ok (.if_icmp .ne 44, 3) := by decide +kernel
theorem dX6_layPoints_72 : decode cX6_layPoints 72 = .ok (.aload_n 0, 1) := by decide +kernel
theorem dX6_layPoints_73 : decode cX6_layPoints 73 = .ok (.getfield 38, 3) := by decide +kernel
theorem dX6_layPoints_76 : decode cX6_layPoints 76 = .ok (.iload_n 2, 1) := by decide +kernel
theorem dX6_layPoints_77 : decode cX6_layPoints 77 = .ok (.aload_n 0, 1) := by decide +kernel
theorem dX6_layPoints_78 : decode cX6_layPoints 78 = .ok (.getfield 38, 3) := by decide +kernel
theorem dX6_layPoints_81 : decode cX6_layPoints 81 = .ok (.iload 5, 2) := by decide +kernel
theorem dX6_layPoints_83 : decode cX6_layPoints 83 = .ok (.iaload, 1) := by decide +kernel
theorem dX6_layPoints_84 : decode cX6_layPoints 84 = .ok (.iload 6, 2) := by decide +kernel
theorem dX6_layPoints_86 : decode cX6_layPoints 86 = .ok (.iadd, 1) := by decide +kernel
theorem dX6_layPoints_87 : decode cX6_layPoints 87 = .ok (.iastore, 1) := by decide +kernel
theorem dX6_layPoints_88 : decode cX6_layPoints 88 = .ok (.aload_n 0, 1) := by decide +kernel
theorem dX6_layPoints_89 : decode cX6_layPoints 89 = .ok (.getfield 41, 3) := by decide +kernel
theorem dX6_layPoints_92 : decode cX6_layPoints 92 = .ok (.iload_n 2, 1) := by decide +kernel
theorem dX6_layPoints_93 : decode cX6_layPoints 93 = .ok (.aload_n 0, 1) := by decide +kernel
theorem dX6_layPoints_94 : decode cX6_layPoints 94 = .ok (.getfield 41, 3) := by decide +kernel
theorem dX6_layPoints_97 : decode cX6_layPoints 97 = .ok (.iload 5, 2) := by decide +kernel
theorem dX6_layPoints_99 : decode cX6_layPoints 99 = .ok (.iaload, 1) := by decide +kernel
theorem dX6_layPoints_100 : decode cX6_layPoints 100 = .ok (.aload_n 0, 1) := by decide +kernel
theorem dX6_layPoints_101 : decode cX6_layPoints 101 = .ok (.getfield 16, 3) := by decide +kernel
theorem dX6_layPoints_104 : decode cX6_layPoints 104 = .ok (.iload_n 3, 1) := by decide +kernel
theorem dX6_layPoints_105 : decode cX6_layPoints 105 = .ok (.iconst 3, 1) := by decide +kernel
theorem dX6_layPoints_106 : decode cX6_layPoints 106 = .ok (.iadd, 1) := by decide +kernel
theorem dX6_layPoints_107 : decode cX6_layPoints 107 = .ok (.iaload, 1) := by decide +kernel
theorem dX6_layPoints_108 : decode cX6_layPoints 108 = .ok (.iadd, 1) := by decide +kernel
theorem dX6_layPoints_109 : decode cX6_layPoints 109 = .ok (.iastore, 1) := by decide +kernel
theorem dX6_layPoints_110 : decode cX6_layPoints 110 = .ok (.goto 137, 3) := by decide +kernel
theorem dX6_layPoints_113 : decode cX6_layPoints 113 = .ok (.iload 4, 2) := by decide +kernel
theorem dX6_layPoints_115 : decode cX6_layPoints 115 = .ok (.iconst 4, 1) := by decide +kernel
theorem dX6_layPoints_116 : decode cX6_layPoints 116 = .ok (.if_icmp .ne 52, 3) := by decide +kernel
theorem dX6_layPoints_119 : decode cX6_layPoints 119 = .ok (.aload_n 0, 1) := by decide +kernel
theorem dX6_layPoints_120 : decode cX6_layPoints 120 = .ok (.getfield 38, 3) := by decide +kernel
theorem dX6_layPoints_123 : decode cX6_layPoints 123 = .ok (.iload_n 2, 1) := by decide +kernel
theorem dX6_layPoints_124 : decode cX6_layPoints 124 = .ok (.aload_n 0, 1) := by decide +kernel
theorem dX6_layPoints_125 : decode cX6_layPoints 125 = .ok (.getfield 38, 3) := by decide +kernel
theorem dX6_layPoints_128 : decode cX6_layPoints 128 = .ok (.iload 5, 2) := by decide +kernel
theorem dX6_layPoints_130 : decode cX6_layPoints 130 = .ok (.iaload, 1) := by decide +kernel
theorem dX6_layPoints_131 : decode cX6_layPoints 131 = .ok (.aload_n 0, 1) := by decide +kernel
theorem dX6_layPoints_132 : decode cX6_layPoints 132 = .ok (.getfield 38, 3) := by decide +kernel
theorem dX6_layPoints_135 : decode cX6_layPoints 135 = .ok (.iload 6, 2) := by decide +kernel
theorem dX6_layPoints_137 : decode cX6_layPoints 137 = .ok (.iaload, 1) := by decide +kernel
theorem dX6_layPoints_138 : decode cX6_layPoints 138 = .ok (.iadd, 1) := by decide +kernel
theorem dX6_layPoints_139 : decode cX6_layPoints 139 = .ok (.iconst 2, 1) := by decide +kernel
theorem dX6_layPoints_140 : decode cX6_layPoints 140 = .ok (.idiv, 1) := by decide +kernel
theorem dX6_layPoints_141 : decode cX6_layPoints 141 = .ok (.iastore, 1) := by decide +kernel
theorem dX6_layPoints_142 : decode cX6_layPoints 142 = .ok (.aload_n 0, 1) := by decide +kernel
theorem dX6_layPoints_143 : decode cX6_layPoints 143 = .ok (.getfield 41, 3) := by decide +kernel
theorem dX6_layPoints_146 : decode cX6_layPoints 146 = .ok (.iload_n 2, 1) := by decide +kernel
theorem dX6_layPoints_147 : decode cX6_layPoints 147 = .ok (.aload_n 0, 1) := by decide +kernel
theorem dX6_layPoints_148 : decode cX6_layPoints 148 = .ok (.getfield 41, 3) := by decide +kernel
theorem dX6_layPoints_151 : decode cX6_layPoints 151 = .ok (.iload 5, 2) := by decide +kernel
theorem dX6_layPoints_153 : decode cX6_layPoints 153 = .ok (.iaload, 1) := by decide +kernel
theorem dX6_layPoints_154 : decode cX6_layPoints 154 = .ok (.aload_n 0, 1) := by decide +kernel
theorem dX6_layPoints_155 : decode cX6_layPoints 155 = .ok (.getfield 41, 3) := by decide +kernel
theorem dX6_layPoints_158 : decode cX6_layPoints 158 = .ok (.iload 6, 2) := by decide +kernel
theorem dX6_layPoints_160 : decode cX6_layPoints 160 = .ok (.iaload, 1) := by decide +kernel
theorem dX6_layPoints_161 : decode cX6_layPoints 161 = .ok (.iadd, 1) := by decide +kernel
theorem dX6_layPoints_162 : decode cX6_layPoints 162 = .ok (.iconst 2, 1) := by decide +kernel
theorem dX6_layPoints_163 : decode cX6_layPoints 163 = .ok (.idiv, 1) := by decide +kernel
theorem dX6_layPoints_164 : decode cX6_layPoints 164 = .ok (.iastore, 1) := by decide +kernel
theorem dX6_layPoints_165 : decode cX6_layPoints 165 = .ok (.goto 82, 3) := by decide +kernel
theorem dX6_layPoints_168 : decode cX6_layPoints 168 = .ok (.aload_n 0, 1) := by decide +kernel
theorem dX6_layPoints_169 : decode cX6_layPoints 169 = .ok (.iload_n 1, 1) := by decide +kernel
theorem dX6_layPoints_170 : decode cX6_layPoints 170 = .ok (.iload 6, 2) := by decide +kernel
theorem dX6_layPoints_172 : decode cX6_layPoints 172 = .ok (.invokevirtual 80, 3) := by decide +kernel
theorem dX6_layPoints_175 : decode cX6_layPoints 175 = .ok (.aload_n 0, 1) := by decide +kernel
theorem dX6_layPoints_176 : decode cX6_layPoints 176 = .ok (.getfield 16, 3) := by decide +kernel
theorem dX6_layPoints_179 : decode cX6_layPoints 179 = .ok (.iload_n 3, 1) := by decide +kernel
theorem dX6_layPoints_180 : decode cX6_layPoints 180 = .ok (.iconst 3, 1) := by decide +kernel
theorem dX6_layPoints_181 : decode cX6_layPoints 181 = .ok (.iadd, 1) := by decide +kernel
theorem dX6_layPoints_182 : decode cX6_layPoints 182 = .ok (.iaload, 1) := by decide +kernel
theorem dX6_layPoints_183 : decode cX6_layPoints 183 = .ok (.imul, 1) := by decide +kernel
theorem dX6_layPoints_184 : decode cX6_layPoints 184 = .ok (.aload_n 0, 1) := by decide +kernel
theorem dX6_layPoints_185 : decode cX6_layPoints 185 = .ok (.getfield 16, 3) := by decide +kernel
theorem dX6_layPoints_188 : decode cX6_layPoints 188 = .ok (.iload_n 3, 1) := by decide +kernel
theorem dX6_layPoints_189 : decode cX6_layPoints 189 = .ok (.iconst 4, 1) := by decide +kernel
theorem dX6_layPoints_190 : decode cX6_layPoints 190 = .ok (.iadd, 1) := by decide +kernel
theorem dX6_layPoints_191 : decode cX6_layPoints 191 = .ok (.iaload, 1) := by decide +kernel
theorem dX6_layPoints_192 : decode cX6_layPoints 192 = .ok (.idiv, 1) := by decide +kernel
theorem dX6_layPoints_193 : decode cX6_layPoints 193 = .ok (.istore 7, 2) := by decide +kernel
theorem dX6_layPoints_195 : decode cX6_layPoints 195 = .ok (.aload_n 0, 1) := by decide +kernel
theorem dX6_layPoints_196 : decode cX6_layPoints 196 = .ok (.getfield 38, 3) := by decide +kernel
theorem dX6_layPoints_199 : decode cX6_layPoints 199 = .ok (.iload_n 2, 1) := by decide +kernel
theorem dX6_layPoints_200 : decode cX6_layPoints 200 = .ok (.aload_n 0, 1) := by decide +kernel
theorem dX6_layPoints_201 : decode cX6_layPoints 201 = .ok (.getfield 38, 3) := by decide +kernel
theorem dX6_layPoints_204 : decode cX6_layPoints 204 = .ok (.iload 5, 2) := by decide +kernel
theorem dX6_layPoints_206 : decode cX6_layPoints 206 = .ok (.iaload, 1) := by decide +kernel
theorem dX6_layPoints_207 : decode cX6_layPoints 207 = .ok (.iload 4, 2) := by decide +kernel
theorem dX6_layPoints_209 : decode cX6_layPoints 209 = .ok (.iconst 2, 1) := by decide +kernel
theorem dX6_layPoints_210 : decode cX6_layPoints 210 = .ok (.if_icmp .ne 8, 3) := by decide +kernel
theorem dX6_layPoints_213 : decode cX6_layPoints 213 = .ok (.iload 7, 2) := by decide +kernel
theorem dX6_layPoints_215 : decode cX6_layPoints 215 = .ok (.goto 4, 3) := by decide +kernel
theorem dX6_layPoints_218 : decode cX6_layPoints 218 = .ok (.iconst 0, 1) := by decide +kernel
theorem dX6_layPoints_219 : decode cX6_layPoints 219 = .ok (.iadd, 1) := by decide +kernel
theorem dX6_layPoints_220 : decode cX6_layPoints 220 = .ok (.iastore, 1) := by decide +kernel
theorem dX6_layPoints_221 : decode cX6_layPoints 221 = .ok (.aload_n 0, 1) := by decide +kernel
theorem dX6_layPoints_222 : decode cX6_layPoints 222 = .ok (.getfield 41, 3) := by decide +kernel
