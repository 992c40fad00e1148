theorem dX0_init_0 : decode cX0_init 0 = .ok (.aload_n 0, 1) := by decide +kernel
theorem dX0_init_1 : decode cX0_init 1 = .ok (.invokespecial 3, 3) := by decide +kernel
theorem dX0_init_4 : decode cX0_init 4 = .ok (.aload_n 0, 1) := by decide +kernel
theorem dX0_init_5 : decode cX0_init 5 = .ok (.bipush 20, 2) := by decide +kernel
theorem dX0_init_7 : decode cX0_init 7 = .ok (.newarray .int, 2) := by decide +kernel
theorem dX0_init_9 : decode cX0_init 9 = .ok (.putfield 9, 3) := by decide +kernel
theorem dX0_init_12 : decode cX0_init 12 = .ok (.aload_n 0, 1) := by decide +kernel
theorem dX0_init_13 : decode cX0_init 13 = .ok (.bipush 20, 2) := by decide +kernel
theorem dX0_init_15 : decode cX0_init 15 = .ok (.newarray .int, 2) := by decide +kernel
theorem dX0_init_17 : decode cX0_init 17 = .ok (.putfield 15, 3) := by decide +kernel
theorem dX0_init_20 : decode cX0_init 20 = .ok (.aload_n 0, 1) := by decide +kernel
theorem dX0_init_21 : decode cX0_init 21 = .ok (.bipush 20, 2) := by decide +kernel
theorem dX0_init_23 : decode cX0_init 23 = .ok (.newarray .int, 2) := by decide +kernel
theorem dX0_init_25 : decode cX0_init 25 = .ok (.putfield 18, 3) := by decide +kernel
theorem dX0_init_28 : decode cX0_init 28 = .ok (.aload_n 0, 1) := by decide +kernel
theorem dX0_init_29 : decode cX0_init 29 = .ok (.bipush 20, 2) := by decide +kernel
theorem dX0_init_31 : decode cX0_init 31 = .ok (.newarray .int, 2) := by decide +kernel
theorem dX0_init_33 : decode cX0_init 33 = .ok (.putfield 21, 3) := by decide +kernel
theorem dX0_init_36 : decode cX0_init 36 = .ok (.aload_n 0, 1) := by decide +kernel
theorem dX0_init_37 : decode cX0_init 37 = .ok (.bipush 20, 2) := by decide +kernel
theorem dX0_init_39 : decode cX0_init 39 = .ok (.newarray .int, 2) := by decide +kernel
theorem dX0_init_41 : decode cX0_init 41 = .ok (.putfield 24, 3) := by decide +kernel
theorem dX0_init_44 : decode cX0_init 44 = .ok (.aload_n 0, 1) := by decide +kernel
theorem dX0_init_45 : decode cX0_init 45 = .ok (.bipush 6, 2) := by decide +kernel
theorem dX0_init_47 : decode cX0_init 47 = .ok (.newarray .int, 2) := by decide +kernel
theorem dX0_init_49 : decode cX0_init 49 = .ok (.putfield 27, 3) := by decide +kernel
theorem dX0_init_52 : decode cX0_init 52 = .ok (.aload_n 0, 1) := by decide +kernel
theorem dX0_init_53 : decode cX0_init 53 = .ok (.bipush 20, 2) := by decide +kernel
theorem dX0_init_55 : decode cX0_init 55 = .ok (.newarray .int, 2) := by decide +kernel
theorem dX0_init_57 : decode cX0_init 57 = .ok (.putfield 30, 3) := by decide +kernel
theorem dX0_init_60 : decode cX0_init 60 = .ok (.aload_n 0, 1) := by decide +kernel
theorem dX0_init_61 : decode cX0_init 61 = .ok (.bipush 20, 2) := by decide +kernel
theorem dX0_init_63 : decode cX0_init 63 = .ok (.newarray .int, 2) := by decide +kernel
theorem dX0_init_65 : decode cX0_init 65 = .ok (.putfield 33, 3) := by decide +kernel
theorem dX0_init_68 : decode cX0_init 68 = .ok (.aload_n 0, 1) := by decide +kernel
theorem dX0_init_69 : decode cX0_init 69 = .ok (.iconst 0, 1) := by decide +kernel
theorem dX0_init_70 : decode cX0_init 70 = .ok (.putfield 36, 3) := by decide +kernel
theorem dX0_init_73 : decode cX0_init 73 = .ok (.aload_n 0, 1) := by decide +kernel
theorem dX0_init_74 : decode cX0_init 74 = .ok (.aload_n 1, 1) := by decide +kernel
theorem dX0_init_75 : decode cX0_init 75 = .ok (.putfield 40, 3) := by decide +kernel
theorem dX0_init_78 : decode cX0_init 78 = .ok (.return_, 1) := by decide +kernel
set_option maxRecDepth 20000 in
theorem ggX0_has_X5_within : GoodIn wsX0_has wsX5_within := goodIn_r _ [4] (by decide +kernel) (by decide +kernel)
set_option maxRecDepth 20000 in
theorem gX0_has_X5_within_n44 : GoodIn wsX0_has (wsX5_within) := ggX0_has_X5_within
theorem dX0_has_0 : decode cX0_has 0 = .ok (.iload_n 1, 1) := by decide +kernel
theorem dX0_has_1 : decode cX0_has 1 = .ok (.iconst 0, 1) := by decide +kernel
theorem dX0_has_2 : decode cX0_has 2 = .ok (.aload_n 0, 1) := by decide +kernel
theorem dX0_has_3 : decode cX0_has 3 = .ok (.getfield 36, 3) := by decide +kernel
theorem dX0_has_6 : decode cX0_has 6 = .ok (.iconst 1, 1) := by decide +kernel
theorem dX0_has_7 : decode cX0_has 7 = .ok (.isub, 1) := by decide +kernel
theorem dX0_has_8 : decode cX0_has 8 = .ok (.invokestatic 44, 3) := by decide +kernel
theorem dX0_has_11 : decode cX0_has 11 = .ok (.ireturn, 1) := by decide +kernel
theorem dX0_addPoint_0 : decode cX0_addPoint 0 = .ok (.aload_n 0, 1) := by decide +kernel
theorem dX0_addPoint_1 : decode cX0_addPoint 1 = .ok (.getfield 36, 3) := by decide +kernel
theorem dX0_addPoint_4 : decode cX0_addPoint 4 = .ok (.bipush 20, 2) := by decide +kernel
theorem dX0_addPoint_6 : decode cX0_addPoint 6 = .ok (.if_icmp .lt 6, 3) := by decide +kernel
theorem dX0_addPoint_9 : decode cX0_addPoint 9 = .ok (.bipush (-4), 2) := by decide +kernel
theorem dX0_addPoint_11 : decode cX0_addPoint 11 = .ok (.ireturn, 1) := by decide +kernel
theorem dX0_addPoint_12 : decode cX0_addPoint 12 = .ok (.aload_n 0, 1) := by decide +kernel
theorem dX0_addPoint_13 : decode cX0_addPoint 13 = .ok (.getfield 9, 3) := by decide +kernel
theorem dX0_addPoint_16 : decode cX0_addPoint 16 = .ok (.aload_n 0, 1) := by decide +kernel
theorem dX0_addPoint_17 : decode cX0_addPoint 17 = .ok (.getfield 36, 3) := by decide +kernel
theorem dX0_addPoint_20 : decode cX0_addPoint 20 = .ok (.iload_n 1, 1) := by decide +kernel
theorem dX0_addPoint_21 : decode cX0_addPoint 21 = .ok (.iastore, 1) := by decide +kernel
theorem dX0_addPoint_22 : decode cX0_addPoint 22 = .ok (.aload_n 0, 1) := by decide +kernel
theorem dX0_addPoint_23 : decode cX0_addPoint 23 = .ok (.getfield 15, 3) := by decide +kernel
theorem dX0_addPoint_26 : decode cX0_addPoint 26 = .ok (.aload_n 0, 1) := by decide +kernel
theorem dX0_addPoint_27 : decode cX0_addPoint 27 = .ok (.getfield 36, 3) := by decide +kernel
theorem dX0_addPoint_30 : decode cX0_addPoint 30 = .ok (.iload_n 2, 1) := by decide +kernel
theorem dX0_addPoint_31 : decode cX0_addPoint 31 = .ok (.iastore, 1) := by decide +kernel
theorem dX0_addPoint_32 : decode cX0_addPoint 32 = .ok (.aload_n 0, 1) := by decide +kernel
theorem dX0_addPoint_33 : decode cX0_addPoint 33 = .ok (.getfield 18, 3) := by decide +kernel
theorem dX0_addPoint_36 : decode cX0_addPoint 36 = .ok (.aload_n 0, 1) := by decide +kernel
theorem dX0_addPoint_37 : decode cX0_addPoint 37 = .ok (.getfield 36, 3) := by decide +kernel
theorem dX0_addPoint_40 : decode cX0_addPoint 40 = .ok (.iload_n 3, 1) := by decide +kernel
theorem dX0_addPoint_41 : decode cX0_addPoint 41 = .ok (.iastore, 1) := by decide +kernel
theorem dX0_addPoint_42 : decode cX0_addPoint 42 = .ok (.aload_n 0, 1) := by decide +kernel
theorem dX0_addPoint_43 : decode cX0_addPoint 43 = .ok (.getfield 21, 3) := by decide +kernel
theorem dX0_addPoint_46 : decode cX0_addPoint 46 = .ok (.aload_n 0, 1) := by decide +kernel
theorem dX0_addPoint_47 : decode cX0_addPoint 47 = .ok (.getfield 36, 3) := by decide +kernel
theorem dX0_addPoint_50 : decode cX0_addPoint 50 = .ok (.iload 4, 2) := by decide +kernel
theorem dX0_addPoint_52 : decode cX0_addPoint 52 = .ok (.iastore, 1) := by decide +kernel
theorem dX0_addPoint_53 : decode cX0_addPoint 53 = .ok (.aload_n 0, 1) := by decide +kernel
theorem dX0_addPoint_54 : decode cX0_addPoint 54 = .ok (.getfield 24, 3) := by decide +kernel
theorem dX0_addPoint_57 : decode cX0_addPoint 57 = .ok (.aload_n 0, 1) := by decide +kernel
theorem dX0_addPoint_58 : decode cX0_addPoint 58 = .ok (.getfield 36, 3) := by decide +kernel
theorem dX0_addPoint_61 : decode cX0_addPoint 61 = .ok (.iload 5, 2) := by decide +kernel
theorem dX0_addPoint_63 : decode cX0_addPoint 63 = .ok (.iastore, 1) := by decide +kernel
theorem dX0_addPoint_64 : decode cX0_addPoint 64 = .ok (.aload_n 0, 1) := by decide +kernel
theorem dX0_addPoint_65 : decode cX0_addPoint 65 = .ok (.dup, 1) := by decide +kernel
theorem dX0_addPoint_66 : decode cX0_addPoint 66 = .ok (.getfield 36, 3) := by decide +kernel
theorem dX0_addPoint_69 : decode cX0_addPoint 69 = .ok (.iconst 1, 1) := by decide +kernel
theorem dX0_addPoint_70 : decode cX0_addPoint 70 = .ok (.iadd, 1) := by decide +kernel
theorem dX0_addPoint_71 : decode cX0_addPoint 71 = .ok (.putfield 36, 3) := by decide +kernel
theorem dX0_addPoint_74 : decode cX0_addPoint 74 = .ok (.aload_n 0, 1) := by decide +kernel
theorem dX0_addPoint_75 : decode cX0_addPoint 75 = .ok (.getfield 36, 3) := by decide +kernel
theorem dX0_addPoint_78 : decode cX0_addPoint 78 = .ok (.iconst 1, 1) := by decide +kernel
theorem dX0_addPoint_79 : decode cX0_addPoint 79 = .ok (.isub, 1) := by decide +kernel
theorem dX0_addPoint_80 : decode cX0_addPoint 80 = .ok (.ireturn, 1) := by decide +kernel
set_option maxRecDepth 20000 in
theorem ggX0_workOut_X3_latest : GoodIn wsX0_workOut wsX3_latest := goodIn_r _ [8, 9, 10, 11, 7, 12, 13, 14, 15, 16, 17, 18, 19, 20, 21, 22, 23, 24, 25, 26, 27, 28, 29, 30, 61, 62, 63, 64, 65, 66, 67] (by decide +kernel) (by decide +kernel)
set_option maxRecDepth 20000 in
theorem gX0_workOut_X3_latest : GoodIn wsX0_workOut (wsV RX0 48 RX3 yX3_latest wsX3_latest) := goodIn_app (goodIn_of _ (by decide +kernel)) ggX0_workOut_X3_latest
set_option maxRecDepth 20000 in
theorem ggX0_workOut_X0_place : GoodIn wsX0_workOut wsX0_place := goodIn_r _ [35, 36, 37, 38, 39, 40, 41, 42, 43, 44, 45, 34, 46, 47, 48, 49, 50, 1, 28, 29, 30, 51, 52, 53, 54, 55, 56, 57, 58, 59, 60] (by decide +kernel) (by decide +kernel)
set_option maxRecDepth 20000 in
theorem gX0_workOut_X0_place : GoodIn wsX0_workOut (wsV RX0 54 RX0 yX0_place wsX0_place) := goodIn_app (goodIn_of _ (by decide +kernel)) ggX0_workOut_X0_place
theorem dX0_workOut_0 : decode cX0_workOut 0 = .ok (.iconst 0, 1) := by decide +kernel
theorem dX0_workOut_1 : decode cX0_workOut 1 = .ok (.istore_n 2, 1) := by decide +kernel
theorem dX0_workOut_2 : decode cX0_workOut 2 = .ok (.iload_n 2, 1) := by decide +kernel
theorem dX0_workOut_3 : decode cX0_workOut 3 = .ok (.bipush 6, 2) := by decide +kernel
theorem dX0_workOut_5 : decode cX0_workOut 5 = .ok (.if_icmp .ge 24, 3) := by decide +kernel
theorem dX0_workOut_8 : decode cX0_workOut 8 = .ok (.aload_n 0, 1) := by decide +kernel
theorem dX0_workOut_9 : decode cX0_workOut 9 = .ok (.getfield 27, 3) := by decide +kernel
theorem dX0_workOut_12 : decode cX0_workOut 12 = .ok (.iload_n 2, 1) := by decide +kernel
theorem dX0_workOut_13 : decode cX0_workOut 13 = .ok (.aload_n 0, 1) := by decide +kernel
theorem dX0_workOut_14 : decode cX0_workOut 14 = .ok (.getfield 40, 3) := by decide +kernel
theorem dX0_workOut_17 : decode cX0_workOut 17 = .ok (.iload_n 1, 1) := by decide +kernel
theorem dX0_workOut_18 : decode cX0_workOut 18 = .ok (.iload_n 2, 1) := by decide +kernel
theorem dX0_workOut_19 : decode cX0_workOut 19 = .ok (.invokevirtual 48, 3) := by decide +kernel
theorem dX0_workOut_22 : decode cX0_workOut 22 = .ok (.iastore, 1) := by decide +kernel
theorem dX0_workOut_23 : decode cX0_workOut 23 = .ok (.iinc 2 1, 3) := by decide +kernel
theorem dX0_workOut_26 : decode cX0_workOut 26 = .ok (.goto (-24), 3) := by decide +kernel
theorem dX0_workOut_29 : decode cX0_workOut 29 = .ok (.iconst 0, 1) := by decide +kernel
theorem dX0_workOut_30 : decode cX0_workOut 30 = .ok (.istore_n 2, 1) := by decide +kernel
theorem dX0_workOut_31 : decode cX0_workOut 31 = .ok (.iload_n 2, 1) := by decide +kernel
theorem dX0_workOut_32 : decode cX0_workOut 32 = .ok (.aload_n 0, 1) := by decide +kernel
theorem dX0_workOut_33 : decode cX0_workOut 33 = .ok (.getfield 36, 3) := by decide +kernel
theorem dX0_workOut_36 : decode cX0_workOut 36 = .ok (.if_icmp .ge 14, 3) := by decide +kernel
theorem dX0_workOut_39 : decode cX0_workOut 39 = .ok (.aload_n 0, 1) := by decide +kernel
theorem dX0_workOut_40 : decode cX0_workOut 40 = .ok (.iload_n 2, 1) := by decide +kernel
theorem dX0_workOut_41 : decode cX0_workOut 41 = .ok (.invokevirtual 54, 3) := by decide +kernel
theorem dX0_workOut_44 : decode cX0_workOut 44 = .ok (.iinc 2 1, 3) := by decide +kernel
theorem dX0_workOut_47 : decode cX0_workOut 47 = .ok (.goto (-16), 3) := by decide +kernel
theorem dX0_workOut_50 : decode cX0_workOut 50 = .ok (.return_, 1) := by decide +kernel
set_option maxRecDepth 20000 in
theorem ggX0_pointsOn_X0_isOn : GoodIn wsX0_pointsOn wsX0_isOn := goodIn_r _ [6, 7, 8, 9, 10, 11, 12, 13, 14, 15, 16, 17, 18, 19] (by decide +kernel) (by decide +kernel)
set_option maxRecDepth 20000 in
theorem gX0_pointsOn_X0_isOn : GoodIn wsX0_pointsOn (wsV RX0 58 RX0 yX0_isOn wsX0_isOn) := goodIn_app (goodIn_of _ (by decide +kernel)) ggX0_pointsOn_X0_isOn
theorem dX0_pointsOn_0 : decode cX0_pointsOn 0 = .ok (.iconst 0, 1) := by decide +kernel
theorem dX0_pointsOn_1 : decode cX0_pointsOn 1 = .ok (.istore_n 2, 1) := by decide +kernel
theorem dX0_pointsOn_2 : decode cX0_pointsOn 2 = .ok (.iconst 0, 1) := by decide +kernel
theorem dX0_pointsOn_3 : decode cX0_pointsOn 3 = .ok (.istore_n 3, 1) := by decide +kernel
theorem dX0_pointsOn_4 : decode cX0_pointsOn 4 = .ok (.iload_n 3, 1) := by decide +kernel
theorem dX0_pointsOn_5 : decode cX0_pointsOn 5 = .ok (.aload_n 0, 1) := by decide +kernel
theorem dX0_pointsOn_6 : decode cX0_pointsOn 6 = .ok (.getfield 36, 3) := by decide +kernel
theorem dX0_pointsOn_9 : decode cX0_pointsOn 9 = .ok (.if_icmp .ge 25, 3) := by decide +kernel
theorem dX0_pointsOn_12 : decode cX0_pointsOn 12 = .ok (.aload_n 0, 1) := by decide +kernel
theorem dX0_pointsOn_13 : decode cX0_pointsOn 13 = .ok (.iload_n 3, 1) := by decide +kernel
theorem dX0_pointsOn_14 : decode cX0_pointsOn 14 = .ok (.iload_n 1, 1) := by decide +kernel
theorem dX0_pointsOn_15 : decode cX0_pointsOn 15 = .ok (.iload_n 2, 1) := by decide +kernel
theorem dX0_pointsOn_16 : decode cX0_pointsOn 16 = .ok (.invokevirtual 58, 3) := by decide +kernel
theorem dX0_pointsOn_19 : decode cX0_pointsOn 19 = .ok (.ifCond .eq 9, 3) := by decide +kernel
theorem dX0_pointsOn_22 : decode cX0_pointsOn 22 = .ok (.iload_n 2, 1) := by decide +kernel
theorem dX0_pointsOn_23 : decode cX0_pointsOn 23 = .ok (.iconst 1, 1) := by decide +kernel
theorem dX0_pointsOn_24 : decode cX0_pointsOn 24 = .ok (.iload_n 3, 1) := by decide +kernel
theorem dX0_pointsOn_25 : decode cX0_pointsOn 25 = .ok (.ishl, 1) := by decide +kernel
theorem dX0_pointsOn_26 : decode cX0_pointsOn 26 = .ok (.ior, 1) := by decide +kernel
theorem dX0_pointsOn_27 : decode cX0_pointsOn 27 = .ok (.istore_n 2, 1) := by decide +kernel
theorem dX0_pointsOn_28 : decode cX0_pointsOn 28 = .ok (.iinc 3 1, 3) := by decide +kernel
theorem dX0_pointsOn_31 : decode cX0_pointsOn 31 = .ok (.goto (-27), 3) := by decide +kernel
theorem dX0_pointsOn_34 : decode cX0_pointsOn 34 = .ok (.iload_n 2, 1) := by decide +kernel
theorem dX0_pointsOn_35 : decode cX0_pointsOn 35 = .ok (.ireturn, 1) := by decide +kernel
set_option maxRecDepth 20000 in
theorem ggX0_mixPoints_X5_mix : GoodIn wsX0_mixPoints wsX5_mix := goodIn_r _ [6, 7] (by decide +kernel) (by decide +kernel)
set_option maxRecDepth 20000 in
theorem gX0_mixPoints_X5_mix_n61 : GoodIn wsX0_mixPoints (wsX5_mix) := ggX0_mixPoints_X5_mix
theorem dX0_mixPoints_0 : decode cX0_mixPoints 0 = .ok (.lload_n 1, 1) := by decide +kernel
theorem dX0_mixPoints_1 : decode cX0_mixPoints 1 = .ok (.lstore_n 3, 1) := by decide +kernel
theorem dX0_mixPoints_2 : decode cX0_mixPoints 2 = .ok (.iconst 0, 1) := by decide +kernel
theorem dX0_mixPoints_3 : decode cX0_mixPoints 3 = .ok (.istore 5, 2) := by decide +kernel
theorem dX0_mixPoints_5 : decode cX0_mixPoints 5 = .ok (.iload 5, 2) := by decide +kernel
theorem dX0_mixPoints_7 : decode cX0_mixPoints 7 = .ok (.aload_n 0, 1) := by decide +kernel
theorem dX0_mixPoints_8 : decode cX0_mixPoints 8 = .ok (.getfield 36, 3) := by decide +kernel
theorem dX0_mixPoints_11 : decode cX0_mixPoints 11 = .ok (.if_icmp .ge 33, 3) := by decide +kernel
theorem dX0_mixPoints_14 : decode cX0_mixPoints 14 = .ok (.lload_n 3, 1) := by decide +kernel
theorem dX0_mixPoints_15 : decode cX0_mixPoints 15 = .ok (.aload_n 0, 1) := by decide +kernel
theorem dX0_mixPoints_16 : decode cX0_mixPoints 16 = .ok (.getfield 30, 3) := by decide +kernel
theorem dX0_mixPoints_19 : decode cX0_mixPoints 19 = .ok (.iload 5, 2) := by decide +kernel
theorem dX0_mixPoints_21 : decode cX0_mixPoints 21 = .ok (.iaload, 1) := by decide +kernel
theorem dX0_mixPoints_22 : decode cX0_mixPoints 22 = .ok (.i2l, 1) := by decide +kernel
theorem dX0_mixPoints_23 : decode cX0_mixPoints 23 = .ok (.invokestatic 61, 3) := by decide +kernel
theorem dX0_mixPoints_26 : decode cX0_mixPoints 26 = .ok (.aload_n 0, 1) := by decide +kernel
theorem dX0_mixPoints_27 : decode cX0_mixPoints 27 = .ok (.getfield 33, 3) := by decide +kernel
theorem dX0_mixPoints_30 : decode cX0_mixPoints 30 = .ok (.iload 5, 2) := by decide +kernel
theorem dX0_mixPoints_32 : decode cX0_mixPoints 32 = .ok (.iaload, 1) := by decide +kernel
theorem dX0_mixPoints_33 : decode cX0_mixPoints 33 = .ok (.i2l, 1) := by decide +kernel
theorem dX0_mixPoints_34 : decode cX0_mixPoints 34 = .ok (.invokestatic 61, 3) := by decide +kernel
theorem dX0_mixPoints_37 : decode cX0_mixPoints 37 = .ok (.lstore_n 3, 1) := by decide +kernel
theorem dX0_mixPoints_38 : decode cX0_mixPoints 38 = .ok (.iinc 5 1, 3) := by decide +kernel
theorem dX0_mixPoints_41 : decode cX0_mixPoints 41 = .ok (.goto (-36), 3) := by decide +kernel
theorem dX0_mixPoints_44 : decode cX0_mixPoints 44 = .ok (.lload_n 3, 1) := by decide +kernel
theorem dX0_mixPoints_45 : decode cX0_mixPoints 45 = .ok (.lreturn, 1) := by decide +kernel
set_option maxRecDepth 20000 in
theorem ggX0_place_X0_put : GoodIn wsX0_place wsX0_put := goodIn_r _ [12, 6, 7, 21, 22, 23, 24, 25, 26, 27, 28, 29, 30] (by decide +kernel) (by decide +kernel)
set_option maxRecDepth 20000 in
theorem gX0_place_X0_put : GoodIn wsX0_place (wsV RX0 65 RX0 yX0_put wsX0_put) := goodIn_app (goodIn_of _ (by decide +kernel)) ggX0_place_X0_put
set_option maxRecDepth 20000 in
theorem ggX0_place_X0_part : GoodIn wsX0_place wsX0_part := goodIn_r _ [16, 17, 2, 4, 5, 18, 19, 20, 21, 22, 23, 24, 25, 26, 27, 28, 29, 30] (by decide +kernel) (by decide +kernel)
set_option maxRecDepth 20000 in
theorem gX0_place_X0_part : GoodIn wsX0_place (wsV RX0 69 RX0 yX0_part wsX0_part) := goodIn_app (goodIn_of _ (by decide +kernel)) ggX0_place_X0_part
set_option maxRecDepth 20000 in
theorem ggX0_place_X5_divide : GoodIn wsX0_place wsX5_divide := goodIn_r _ [20] (by decide +kernel) (by decide +kernel)
set_option maxRecDepth 20000 in
theorem gX0_place_X5_divide_n73 : GoodIn wsX0_place (wsX5_divide) := ggX0_place_X5_divide
theorem dX0_place_0 : decode cX0_place 0 = .ok (.aload_n 0, 1) := by decide +kernel
theorem dX0_place_1 : decode cX0_place 1 = .ok (.getfield 15, 3) := by decide +kernel
theorem dX0_place_4 : decode cX0_place 4 = .ok (.iload_n 1, 1) := by decide +kernel
theorem dX0_place_5 : decode cX0_place 5 = .ok (.iaload, 1) := by decide +kernel
theorem dX0_place_6 : decode cX0_place 6 = .ok (.istore_n 2, 1) := by decide +kernel
theorem dX0_place_7 : decode cX0_place 7 = .ok (.aload_n 0, 1) := by decide +kernel
theorem dX0_place_8 : decode cX0_place 8 = .ok (.getfield 18, 3) := by decide +kernel
theorem dX0_place_11 : decode cX0_place 11 = .ok (.iload_n 1, 1) := by decide +kernel
theorem dX0_place_12 : decode cX0_place 12 = .ok (.iaload, 1) := by decide +kernel
theorem dX0_place_13 : decode cX0_place 13 = .ok (.istore_n 3, 1) := by decide +kernel
theorem dX0_place_14 : decode cX0_place 14 = .ok (.aload_n 0, 1) := by decide +kernel
theorem dX0_place_15 : decode cX0_place 15 = .ok (.getfield 9, 3) := by decide +kernel
theorem dX0_place_18 : decode cX0_place 18 = .ok (.iload_n 1, 1) := by decide +kernel
theorem dX0_place_19 : decode cX0_place 19 = .ok (.iaload, 1) := by decide +kernel
theorem dX0_place_20 : decode cX0_place 20 = .ok (.tableswitch 138 0 3 #[32, 52, 86, 112], 32) := by decide +kernel
theorem dX0_place_52 : decode cX0_place 52 = .ok (.aload_n 0, 1) := by decide +kernel
theorem dX0_place_53 : decode cX0_place 53 = .ok (.iload_n 1, 1) := by decide +kernel
theorem dX0_place_54 : decode cX0_place 54 = .ok (.aload_n 0, 1) := by decide +kernel
theorem dX0_place_55 : decode cX0_place 55 = .ok (.getfield 21, 3) := by decide +kernel
theorem dX0_place_58 : decode cX0_place 58 = .ok (.iload_n 1, 1) := by decide +kernel
theorem dX0_place_59 : decode cX0_place 59 = .ok (.iaload, 1) := by decide +kernel
theorem dX0_place_60 : decode cX0_place 60 = .ok (.aload_n 0, 1) := by decide +kernel
theorem dX0_place_61 : decode cX0_place 61 = .ok (.getfield 24, 3) := by decide +kernel
theorem dX0_place_64 : decode cX0_place 64 = .ok (.iload_n 1, 1) := by decide +kernel
theorem dX0_place_65 : decode cX0_place 65 = .ok (.iaload, 1) := by decide +kernel
theorem dX0_place_66 : decode cX0_place 66 = .ok (.invokevirtual 65, 3) := by decide +kernel
theorem dX0_place_69 : decode cX0_place 69 = .ok (.goto 128, 3) := by decide +kernel
theorem dX0_place_72 : decode cX0_place 72 = .ok (.aload_n 0, 1) := by decide +kernel
theorem dX0_place_73 : decode cX0_place 73 = .ok (.iload_n 1, 1) := by decide +kernel
theorem dX0_place_74 : decode cX0_place 74 = .ok (.aload_n 0, 1) := by decide +kernel
theorem dX0_place_75 : decode cX0_place 75 = .ok (.getfield 30, 3) := by decide +kernel
theorem dX0_place_78 : decode cX0_place 78 = .ok (.iload_n 2, 1) := by decide +kernel
theorem dX0_place_79 : decode cX0_place 79 = .ok (.iaload, 1) := by decide +kernel
theorem dX0_place_80 : decode cX0_place 80 = .ok (.aload_n 0, 1) := by decide +kernel
theorem dX0_place_81 : decode cX0_place 81 = .ok (.getfield 21, 3) := by decide +kernel
theorem dX0_place_84 : decode cX0_place 84 = .ok (.iload_n 1, 1) := by decide +kernel
theorem dX0_place_85 : decode cX0_place 85 = .ok (.iaload, 1) := by decide +kernel
theorem dX0_place_86 : decode cX0_place 86 = .ok (.iadd, 1) := by decide +kernel
theorem dX0_place_87 : decode cX0_place 87 = .ok (.aload_n 0, 1) := by decide +kernel
theorem dX0_place_88 : decode cX0_place 88 = .ok (.getfield 33, 3) := by decide +kernel
theorem dX0_place_91 : decode cX0_place 91 = .ok (.iload_n 2, 1) := by decide +kernel
theorem dX0_place_92 : decode cX0_place 92 = .ok (.iaload, 1) := by decide +kernel
theorem dX0_place_93 : decode cX0_place 93 = .ok (.aload_n 0, 1) := by decide +kernel
theorem dX0_place_94 : decode cX0_place 94 = .ok (.getfield 24, 3) := by decide +kernel
theorem dX0_place_97 : decode cX0_place 97 = .ok (.iload_n 1, 1) := by decide +kernel
theorem dX0_place_98 : decode cX0_place 98 = .ok (.iaload, 1) := by decide +kernel
theorem dX0_place_99 : decode cX0_place 99 = .ok (.iadd, 1) := by decide +kernel
theorem dX0_place_100 : decode cX0_place 100 = .ok (.invokevirtual 65, 3) := by decide +kernel
theorem dX0_place_103 : decode cX0_place 103 = .ok (.goto 94, 3) := by decide +kernel
theorem dX0_place_106 : decode cX0_place 106 = .ok (.aload_n 0, 1) := by decide +kernel
theorem dX0_place_107 : decode cX0_place 107 = .ok (.iload_n 1, 1) := by decide +kernel
theorem dX0_place_108 : decode cX0_place 108 = .ok (.aload_n 0, 1) := by decide +kernel
theorem dX0_place_109 : decode cX0_place 109 = .ok (.getfield 30, 3) := by decide +kernel
theorem dX0_place_112 : decode cX0_place 112 = .ok (.iload_n 2, 1) := by decide +kernel
theorem dX0_place_113 : decode cX0_place 113 = .ok (.iaload, 1) := by decide +kernel
theorem dX0_place_114 : decode cX0_place 114 = .ok (.aload_n 0, 1) := by decide +kernel
theorem dX0_place_115 : decode cX0_place 115 = .ok (.iload_n 1, 1) := by decide +kernel
theorem dX0_place_116 : decode cX0_place 116 = .ok (.invokevirtual 69, 3) := by decide +kernel
theorem dX0_place_119 : decode cX0_place 119 = .ok (.iadd, 1) := by decide +kernel
theorem dX0_place_120 : decode cX0_place 120 = .ok (.aload_n 0, 1) := by decide +kernel
theorem dX0_place_121 : decode cX0_place 121 = .ok (.getfield 33, 3) := by decide +kernel
theorem dX0_place_124 : decode cX0_place 124 = .ok (.iload_n 2, 1) := by decide +kernel
theorem dX0_place_125 : decode cX0_place 125 = .ok (.iaload, 1) := by decide +kernel
theorem dX0_place_126 : decode cX0_place 126 = .ok (.invokevirtual 65, 3) := by decide +kernel
theorem dX0_place_129 : decode cX0_place 129 = .ok (.goto 68, 3) := by decide +kernel
theorem dX0_place_132 : decode cX0_place 132 = .ok (.aload_n 0, 1) := by decide +kernel
theorem dX0_place_133 : decode cX0_place 133 = .ok (.iload_n 1, 1) := by decide +kernel
theorem dX0_place_134 : decode cX0_place 134 = .ok (.aload_n 0, 1) := by decide +kernel
theorem dX0_place_135 : decode cX0_place 135 = .ok (.getfield 30, 3) := by decide +kernel
theorem dX0_place_138 : decode cX0_place 138 = .ok (.iload_n 2, 1) := by decide +kernel
theorem dX0_place_139 : decode cX0_place 139 = .ok (.iaload, 1) := by decide +kernel
theorem dX0_place_140 : decode cX0_place 140 = .ok (.aload_n 0, 1) := by decide +kernel
theorem dX0_place_141 : decode cX0_place 141 = .ok (.getfield 33, 3) := by decide +kernel
theorem dX0_place_144 : decode cX0_place 144 = .ok (.iload_n 2, 1) := by decide +kernel
theorem dX0_place_145 : decode cX0_place 145 = .ok (.iaload, 1) := by decide +kernel
theorem dX0_place_146 : decode cX0_place 146 = .ok (.aload_n 0, 1) := by decide +kernel
theorem dX0_place_147 : decode cX0_place 147 = .ok (.iload_n 1, 1) := by decide +kernel
theorem dX0_place_148 : decode cX0_place 148 = .ok (.invokevirtual 69, 3) := by decide +kernel
theorem dX0_place_151 : decode cX0_place 151 = .ok (.iadd, 1) := by decide +kernel
theorem dX0_place_152 : decode cX0_place 152 = .ok (.invokevirtual 65, 3) := by decide +kernel
theorem dX0_place_155 : decode cX0_place 155 = .ok (.goto 42, 3) := by decide +kernel
theorem dX0_place_158 : decode cX0_place 158 = .ok (.aload_n 0, 1) := by decide +kernel
theorem dX0_place_159 : decode cX0_place 159 = .ok (.iload_n 1, 1) := by decide +kernel
theorem dX0_place_160 : decode cX0_place 160 = .ok (.aload_n 0, 1) := by decide +kernel
theorem dX0_place_161 : decode cX0_place 161 = .ok (.getfield 30, 3) := by decide +kernel
theorem dX0_place_164 : decode cX0_place 164 = .ok (.iload_n 2, 1) := by decide +kernel
theorem dX0_place_165 : decode cX0_place 165 = .ok (.iaload, 1) := by decide +kernel
theorem dX0_place_166 : decode cX0_place 166 = .ok (.aload_n 0, 1) := by decide +kernel
theorem dX0_place_167 : decode cX0_place 167 = .ok (.getfield 30, 3) := by decide +kernel
theorem dX0_place_170 : decode cX0_place 170 = .ok (.iload_n 3, 1) := by decide +kernel
theorem dX0_place_171 : decode cX0_place 171 = .ok (.iaload, 1) := by decide +kernel
theorem dX0_place_172 : decode cX0_place 172 = .ok (.iadd, 1) := by decide +kernel
theorem dX0_place_173 : decode cX0_place 173 = .ok (.iconst 2, 1) := by decide +kernel
theorem dX0_place_174 : decode cX0_place 174 = .ok (.invokestatic 73, 3) := by decide +kernel
theorem dX0_place_177 : decode cX0_place 177 = .ok (.aload_n 0, 1) := by decide +kernel
theorem dX0_place_178 : decode cX0_place 178 = .ok (.getfield 33, 3) := by decide +kernel
theorem dX0_place_181 : decode cX0_place 181 = .ok (.iload_n 2, 1) := by decide +kernel
theorem dX0_place_182 : decode cX0_place 182 = .ok (.iaload, 1) := by decide +kernel
theorem dX0_place_183 : decode cX0_place 183 = .ok (.aload_n 0, 1) := by decide +kernel
theorem dX0_place_184 : decode cX0_place 184 = .ok (.getfield 33, 3) := by decide +kernel
theorem dX0_place_187 : decode cX0_place 187 = .ok (.iload_n 3, 1) := by decide +kernel
theorem dX0_place_188 : decode cX0_place 188 = .ok (.iaload, 1) := by decide +kernel
theorem dX0_place_189 : decode cX0_place 189 = .ok (.iadd, 1) := by decide +kernel
theorem dX0_place_190 : decode cX0_place 190 = .ok (.iconst 2, 1) := by decide +kernel
theorem dX0_place_191 : decode cX0_place 191 = .ok (.invokestatic 73, 3) := by decide +kernel
theorem dX0_place_194 : decode cX0_place 194 = .ok (.invokevirtual 65, 3) := by decide +kernel
theorem dX0_place_197 : decode cX0_place 197 = .ok (.return_, 1) := by decide +kernel
theorem dX0_put_0 : decode cX0_put 0 = .ok (.aload_n 0, 1) := by decide +kernel
theorem dX0_put_1 : decode cX0_put 1 = .ok (.getfield 30, 3) := by decide +kernel
theorem dX0_put_4 : decode cX0_put 4 = .ok (.iload_n 1, 1) := by decide +kernel
theorem dX0_put_5 : decode cX0_put 5 = .ok (.iload_n 2, 1) := by decide +kernel
theorem dX0_put_6 : decode cX0_put 6 = .ok (.iastore, 1) := by decide +kernel
theorem dX0_put_7 : decode cX0_put 7 = .ok (.aload_n 0, 1) := by decide +kernel
theorem dX0_put_8 : decode cX0_put 8 = .ok (.getfield 33, 3) := by decide +kernel
theorem dX0_put_11 : decode cX0_put 11 = .ok (.iload_n 1, 1) := by decide +kernel
theorem dX0_put_12 : decode cX0_put 12 = .ok (.iload_n 3, 1) := by decide +kernel
theorem dX0_put_13 : decode cX0_put 13 = .ok (.iastore, 1) := by decide +kernel
theorem dX0_put_14 : decode cX0_put 14 = .ok (.return_, 1) := by decide +kernel
set_option maxRecDepth 20000 in
theorem ggX0_part_X5_divide : GoodIn wsX0_part wsX5_divide := goodIn_r _ [7] (by decide +kernel) (by decide +kernel)
set_option maxRecDepth 20000 in
theorem gX0_part_X5_divide_n73 : GoodIn wsX0_part (wsX5_divide) := ggX0_part_X5_divide
theorem dX0_part_0 : decode cX0_part 0 = .ok (.aload_n 0, 1) := by decide +kernel
theorem dX0_part_1 : decode cX0_part 1 = .ok (.getfield 27, 3) := by decide +kernel
theorem dX0_part_4 : decode cX0_part 4 = .ok (.aload_n 0, 1) := by decide +kernel
theorem dX0_part_5 : decode cX0_part 5 = .ok (.getfield 18, 3) := by decide +kernel
theorem dX0_part_8 : decode cX0_part 8 = .ok (.iload_n 1, 1) := by decide +kernel
theorem dX0_part_9 : decode cX0_part 9 = .ok (.iaload, 1) := by decide +kernel
theorem dX0_part_10 : decode cX0_part 10 = .ok (.iaload, 1) := by decide +kernel
theorem dX0_part_11 : decode cX0_part 11 = .ok (.aload_n 0, 1) := by decide +kernel
theorem dX0_part_12 : decode cX0_part 12 = .ok (.getfield 21, 3) := by decide +kernel
theorem dX0_part_15 : decode cX0_part 15 = .ok (.iload_n 1, 1) := by decide +kernel
theorem dX0_part_16 : decode cX0_part 16 = .ok (.iaload, 1) := by decide +kernel
theorem dX0_part_17 : decode cX0_part 17 = .ok (.imul, 1) := by decide +kernel
theorem dX0_part_18 : decode cX0_part 18 = .ok (.aload_n 0, 1) := by decide +kernel
theorem dX0_part_19 : decode cX0_part 19 = .ok (.getfield 24, 3) := by decide +kernel
theorem dX0_part_22 : decode cX0_part 22 = .ok (.iload_n 1, 1) := by decide +kernel
theorem dX0_part_23 : decode cX0_part 23 = .ok (.iaload, 1) := by decide +kernel
theorem dX0_part_24 : decode cX0_part 24 = .ok (.invokestatic 73, 3) := by decide +kernel
theorem dX0_part_27 : decode cX0_part 27 = .ok (.ireturn, 1) := by decide +kernel
theorem dX0_isOn_0 : decode cX0_isOn 0 = .ok (.iload_n 3, 1) := by decide +kernel
theorem dX0_isOn_1 : decode cX0_isOn 1 = .ok (.aload_n 0, 1) := by decide +kernel
theorem dX0_isOn_2 : decode cX0_isOn 2 = .ok (.getfield 15, 3) := by decide +kernel
theorem dX0_isOn_5 : decode cX0_isOn 5 = .ok (.iload_n 1, 1) := by decide +kernel
theorem dX0_isOn_6 : decode cX0_isOn 6 = .ok (.iaload, 1) := by decide +kernel
theorem dX0_isOn_7 : decode cX0_isOn 7 = .ok (.ishr, 1) := by decide +kernel
theorem dX0_isOn_8 : decode cX0_isOn 8 = .ok (.iconst 1, 1) := by decide +kernel
theorem dX0_isOn_9 : decode cX0_isOn 9 = .ok (.iand, 1) := by decide +kernel
theorem dX0_isOn_10 : decode cX0_isOn 10 = .ok (.iconst 1, 1) := by decide +kernel
theorem dX0_isOn_11 : decode cX0_isOn 11 = .ok (.if_icmp .ne 7, 3) := by decide +kernel
theorem dX0_isOn_14 : decode cX0_isOn 14 = .ok (.iconst 1, 1) := by decide +kernel
theorem dX0_isOn_15 : decode cX0_isOn 15 = .ok (.goto 4, 3) := by decide +kernel
theorem dX0_isOn_18 : decode cX0_isOn 18 = .ok (.iconst 0, 1) := by decide +kernel
theorem dX0_isOn_19 : decode cX0_isOn 19 = .ok (.istore 4, 2) := by decide +kernel
theorem dX0_isOn_21 : decode cX0_isOn 21 = .ok (.aload_n 0, 1) := by decide +kernel
theorem dX0_isOn_22 : decode cX0_isOn 22 = .ok (.getfield 9, 3) := by decide +kernel
theorem dX0_isOn_25 : decode cX0_isOn 25 = .ok (.iload_n 1, 1) := by decide +kernel
theorem dX0_isOn_26 : decode cX0_isOn 26 = .ok (.iaload, 1) := by decide +kernel
theorem dX0_isOn_27 : decode cX0_isOn 27 = .ok (.tableswitch 63 0 4 #[33, 35, 63, 63, 38], 33) := by decide +kernel
theorem dX0_isOn_60 : decode cX0_isOn 60 = .ok (.iconst 0, 1) := by decide +kernel
theorem dX0_isOn_61 : decode cX0_isOn 61 = .ok (.ireturn, 1) := by decide +kernel
theorem dX0_isOn_62 : decode cX0_isOn 62 = .ok (.iload 4, 2) := by decide +kernel
theorem dX0_isOn_64 : decode cX0_isOn 64 = .ok (.ireturn, 1) := by decide +kernel
theorem dX0_isOn_65 : decode cX0_isOn 65 = .ok (.iload 4, 2) := by decide +kernel
theorem dX0_isOn_67 : decode cX0_isOn 67 = .ok (.ifCond .ne 17, 3) := by decide +kernel
theorem dX0_isOn_70 : decode cX0_isOn 70 = .ok (.iload_n 3, 1) := by decide +kernel
theorem dX0_isOn_71 : decode cX0_isOn 71 = .ok (.aload_n 0, 1) := by decide +kernel
theorem dX0_isOn_72 : decode cX0_isOn 72 = .ok (.getfield 18, 3) := by decide +kernel
theorem dX0_isOn_75 : decode cX0_isOn 75 = .ok (.iload_n 1, 1) := by decide +kernel
theorem dX0_isOn_76 : decode cX0_isOn 76 = .ok (.iaload, 1) := by decide +kernel
theorem dX0_isOn_77 : decode cX0_isOn 77 = .ok (.ishr, 1) := by decide +kernel
theorem dX0_isOn_78 : decode cX0_isOn 78 = .ok (.iconst 1, 1) := by decide +kernel
theorem dX0_isOn_79 : decode cX0_isOn 79 = .ok (.iand, 1) := by decide +kernel
theorem dX0_isOn_80 : decode cX0_isOn 80 = .ok (.iconst 1, 1) := by decide +kernel
theorem dX0_isOn_81 : decode cX0_isOn 81 = .ok (.if_icmp .ne 7, 3) := by decide +kernel
theorem dX0_isOn_84 : decode cX0_isOn 84 = .ok (.iconst 1, 1) := by decide +kernel
theorem dX0_isOn_85 : decode cX0_isOn 85 = .ok (.goto 4, 3) := by decide +kernel
theorem dX0_isOn_88 : decode cX0_isOn 88 = .ok (.iconst 0, 1) := by decide +kernel
theorem dX0_isOn_89 : decode cX0_isOn 89 = .ok (.ireturn, 1) := by decide +kernel
theorem dX0_isOn_90 : decode cX0_isOn 90 = .ok (.iload 4, 2) := by decide +kernel
theorem dX0_isOn_92 : decode cX0_isOn 92 = .ok (.ifCond .ne 13, 3) := by decide +kernel
theorem dX0_isOn_95 : decode cX0_isOn 95 = .ok (.aload_n 0, 1) := by decide +kernel
theorem dX0_isOn_96 : decode cX0_isOn 96 = .ok (.getfield 18, 3) := by decide +kernel
theorem dX0_isOn_99 : decode cX0_isOn 99 = .ok (.iload_n 1, 1) := by decide +kernel
theorem dX0_isOn_100 : decode cX0_isOn 100 = .ok (.iaload, 1) := by decide +kernel
theorem dX0_isOn_101 : decode cX0_isOn 101 = .ok (.iload_n 2, 1) := by decide +kernel
theorem dX0_isOn_102 : decode cX0_isOn 102 = .ok (.if_icmp .ne 7, 3) := by decide +kernel
theorem dX0_isOn_105 : decode cX0_isOn 105 = .ok (.iconst 1, 1) := by decide +kernel
theorem dX0_isOn_106 : decode cX0_isOn 106 = .ok (.goto 4, 3) := by decide +kernel
theorem dX0_isOn_109 : decode cX0_isOn 109 = .ok (.iconst 0, 1) := by decide +kernel
theorem dX0_isOn_110 : decode cX0_isOn 110 = .ok (.ireturn, 1) := by decide +kernel
theorem dX1_init_0 : decode cX1_init 0 = .ok (.aload_n 0, 1) := by decide +kernel
theorem dX1_init_1 : decode cX1_init 1 = .ok (.invokespecial 3, 3) := by decide +kernel
theorem dX1_init_4 : decode cX1_init 4 = .ok (.aload_n 0, 1) := by decide +kernel
theorem dX1_init_5 : decode cX1_init 5 = .ok (.bipush 7, 2) := by decide +kernel
theorem dX1_init_7 : decode cX1_init 7 = .ok (.newarray .int, 2) := by decide +kernel
theorem dX1_init_9 : decode cX1_init 9 = .ok (.putfield 9, 3) := by decide +kernel
theorem dX1_init_12 : decode cX1_init 12 = .ok (.aload_n 0, 1) := by decide +kernel
theorem dX1_init_13 : decode cX1_init 13 = .ok (.bipush 56, 2) := by decide +kernel
theorem dX1_init_15 : decode cX1_init 15 = .ok (.newarray .int, 2) := by decide +kernel
theorem dX1_init_17 : decode cX1_init 17 = .ok (.putfield 15, 3) := by decide +kernel
theorem dX1_init_20 : decode cX1_init 20 = .ok (.aload_n 0, 1) := by decide +kernel
theorem dX1_init_21 : decode cX1_init 21 = .ok (.bipush 40, 2) := by decide +kernel
theorem dX1_init_23 : decode cX1_init 23 = .ok (.newarray .int, 2) := by decide +kernel
theorem dX1_init_25 : decode cX1_init 25 = .ok (.putfield 18, 3) := by decide +kernel
theorem dX1_init_28 : decode cX1_init 28 = .ok (.aload_n 0, 1) := by decide +kernel
theorem dX1_init_29 : decode cX1_init 29 = .ok (.iconst 0, 1) := by decide +kernel
theorem dX1_init_30 : decode cX1_init 30 = .ok (.putfield 21, 3) := by decide +kernel
theorem dX1_init_33 : decode cX1_init 33 = .ok (.aload_n 0, 1) := by decide +kernel
theorem dX1_init_34 : decode cX1_init 34 = .ok (.iconst 0, 1) := by decide +kernel
theorem dX1_init_35 : decode cX1_init 35 = .ok (.putfield 25, 3) := by decide +kernel
theorem dX1_init_38 : decode cX1_init 38 = .ok (.aload_n 0, 1) := by decide +kernel
theorem dX1_init_39 : decode cX1_init 39 = .ok (.aload_n 1, 1) := by decide +kernel
theorem dX1_init_40 : decode cX1_init 40 = .ok (.putfield 28, 3) := by decide +kernel
theorem dX1_init_43 : decode cX1_init 43 = .ok (.return_, 1) := by decide +kernel
set_option maxRecDepth 20000 in
theorem ggX1_has_X5_within : GoodIn wsX1_has wsX5_within := goodIn_r _ [4] (by decide +kernel) (by decide +kernel)
set_option maxRecDepth 20000 in
theorem gX1_has_X5_within_n32 : GoodIn wsX1_has (wsX5_within) := ggX1_has_X5_within
theorem dX1_has_0 : decode cX1_has 0 = .ok (.iload_n 1, 1) := by decide +kernel
theorem dX1_has_1 : decode cX1_has 1 = .ok (.iconst 0, 1) := by decide +kernel
theorem dX1_has_2 : decode cX1_has 2 = .ok (.aload_n 0, 1) := by decide +kernel
theorem dX1_has_3 : decode cX1_has 3 = .ok (.getfield 21, 3) := by decide +kernel
theorem dX1_has_6 : decode cX1_has 6 = .ok (.iconst 1, 1) := by decide +kernel
theorem dX1_has_7 : decode cX1_has 7 = .ok (.isub, 1) := by decide +kernel
theorem dX1_has_8 : decode cX1_has 8 = .ok (.invokestatic 32, 3) := by decide +kernel
theorem dX1_has_11 : decode cX1_has 11 = .ok (.ireturn, 1) := by decide +kernel
set_option maxRecDepth 20000 in
theorem ggX1_hasSide_X1_has : GoodIn wsX1_hasSide wsX1_has := goodIn_r _ [6, 7, 8, 9, 10, 11, 12, 13, 14, 15, 16] (by decide +kernel) (by decide +kernel)
set_option maxRecDepth 20000 in
theorem gX1_hasSide_X1_has : GoodIn wsX1_hasSide (wsV RX1 36 RX1 yX1_has wsX1_has) := goodIn_app (goodIn_of _ (by decide +kernel)) ggX1_hasSide_X1_has
set_option maxRecDepth 20000 in
theorem ggX1_hasSide_X5_within : GoodIn wsX1_hasSide wsX5_within := goodIn_r _ [10] (by decide +kernel) (by decide +kernel)
set_option maxRecDepth 20000 in
theorem gX1_hasSide_X5_within_n32 : GoodIn wsX1_hasSide (wsX5_within) := ggX1_hasSide_X5_within
theorem dX1_hasSide_0 : decode cX1_hasSide 0 = .ok (.aload_n 0, 1) := by decide +kernel
theorem dX1_hasSide_1 : decode cX1_hasSide 1 = .ok (.iload_n 1, 1) := by decide +kernel
theorem dX1_hasSide_2 : decode cX1_hasSide 2 = .ok (.invokevirtual 36, 3) := by decide +kernel
theorem dX1_hasSide_5 : decode cX1_hasSide 5 = .ok (.ifCond .eq 23, 3) := by decide +kernel
theorem dX1_hasSide_8 : decode cX1_hasSide 8 = .ok (.iload_n 2, 1) := by decide +kernel
theorem dX1_hasSide_9 : decode cX1_hasSide 9 = .ok (.iconst 0, 1) := by decide +kernel
theorem dX1_hasSide_10 : decode cX1_hasSide 10 = .ok (.aload_n 0, 1) := by decide +kernel
theorem dX1_hasSide_11 : decode cX1_hasSide 11 = .ok (.getfield 9, 3) := by decide +kernel
theorem dX1_hasSide_14 : decode cX1_hasSide 14 = .ok (.iload_n 1, 1) := by decide +kernel
theorem dX1_hasSide_15 : decode cX1_hasSide 15 = .ok (.iaload, 1) := by decide +kernel
theorem dX1_hasSide_16 : decode cX1_hasSide 16 = .ok (.iconst 1, 1) := by decide +kernel
theorem dX1_hasSide_17 : decode cX1_hasSide 17 = .ok (.isub, 1) := by decide +kernel
theorem dX1_hasSide_18 : decode cX1_hasSide 18 = .ok (.invokestatic 32, 3) := by decide +kernel
theorem dX1_hasSide_21 : decode cX1_hasSide 21 = .ok (.ifCond .eq 7, 3) := by decide +kernel
theorem dX1_hasSide_24 : decode cX1_hasSide 24 = .ok (.iconst 1, 1) := by decide +kernel
theorem dX1_hasSide_25 : decode cX1_hasSide 25 = .ok (.goto 4, 3) := by decide +kernel
theorem dX1_hasSide_28 : decode cX1_hasSide 28 = .ok (.iconst 0, 1) := by decide +kernel
theorem dX1_hasSide_29 : decode cX1_hasSide 29 = .ok (.ireturn, 1) := by decide +kernel
theorem dX1_addPiece_0 : decode cX1_addPiece 0 = .ok (.aload_n 0, 1) := by decide +kernel
theorem dX1_addPiece_1 : decode cX1_addPiece 1 = .ok (.getfield 21, 3) := by decide +kernel
theorem dX1_addPiece_4 : decode cX1_addPiece 4 = .ok (.bipush 7, 2) := by decide +kernel
theorem dX1_addPiece_6 : decode cX1_addPiece 6 = .ok (.if_icmp .lt 6, 3) := by decide +kernel
theorem dX1_addPiece_9 : decode cX1_addPiece 9 = .ok (.bipush (-4), 2) := by decide +kernel
theorem dX1_addPiece_11 : decode cX1_addPiece 11 = .ok (.ireturn, 1) := by decide +kernel
theorem dX1_addPiece_12 : decode cX1_addPiece 12 = .ok (.aload_n 0, 1) := by decide +kernel
theorem dX1_addPiece_13 : decode cX1_addPiece 13 = .ok (.getfield 21, 3) := by decide +kernel
theorem dX1_addPiece_16 : decode cX1_addPiece 16 = .ok (.bipush 8, 2) := by decide +kernel
theorem dX1_addPiece_18 : decode cX1_addPiece 18 = .ok (.imul, 1) := by decide +kernel
theorem dX1_addPiece_19 : decode cX1_addPiece 19 = .ok (.istore 5, 2) := by decide +kernel
theorem dX1_addPiece_21 : decode cX1_addPiece 21 = .ok (.aload_n 0, 1) := by decide +kernel
theorem dX1_addPiece_22 : decode cX1_addPiece 22 = .ok (.getfield 15, 3) := by decide +kernel
theorem dX1_addPiece_25 : decode cX1_addPiece 25 = .ok (.iload 5, 2) := by decide +kernel
theorem dX1_addPiece_27 : decode cX1_addPiece 27 = .ok (.iload_n 1, 1) := by decide +kernel
theorem dX1_addPiece_28 : decode cX1_addPiece 28 = .ok (.iastore, 1) := by decide +kernel
theorem dX1_addPiece_29 : decode cX1_addPiece 29 = .ok (.aload_n 0, 1) := by decide +kernel
theorem dX1_addPiece_30 : decode cX1_addPiece 30 = .ok (.getfield 15, 3) := by decide +kernel
theorem dX1_addPiece_33 : decode cX1_addPiece 33 = .ok (.iload 5, 2) := by decide +kernel
theorem dX1_addPiece_35 : decode cX1_addPiece 35 = .ok (.iconst 1, 1) := by decide +kernel
theorem dX1_addPiece_36 : decode cX1_addPiece 36 = .ok (.iadd, 1) := by decide +kernel
theorem dX1_addPiece_37 : decode cX1_addPiece 37 = .ok (.iload_n 2, 1) := by decide +kernel
theorem dX1_addPiece_38 : decode cX1_addPiece 38 = .ok (.iastore, 1) := by decide +kernel
theorem dX1_addPiece_39 : decode cX1_addPiece 39 = .ok (.aload_n 0, 1) := by decide +kernel
theorem dX1_addPiece_40 : decode cX1_addPiece 40 = .ok (.getfield 15, 3) := by decide +kernel
theorem dX1_addPiece_43 : decode cX1_addPiece 43 = .ok (.iload 5, 2) := by decide +kernel
theorem dX1_addPiece_45 : decode cX1_addPiece 45 = .ok (.iconst 2, 1) := by decide +kernel
theorem dX1_addPiece_46 : decode cX1_addPiece 46 = .ok (.iadd, 1) := by decide +kernel
theorem dX1_addPiece_47 : decode cX1_addPiece 47 = .ok (.iload_n 3, 1) := by decide +kernel
theorem dX1_addPiece_48 : decode cX1_addPiece 48 = .ok (.iastore, 1) := by decide +kernel
theorem dX1_addPiece_49 : decode cX1_addPiece 49 = .ok (.aload_n 0, 1) := by decide +kernel
theorem dX1_addPiece_50 : decode cX1_addPiece 50 = .ok (.getfield 15, 3) := by decide +kernel
theorem dX1_addPiece_53 : decode cX1_addPiece 53 = .ok (.iload 5, 2) := by decide +kernel
theorem dX1_addPiece_55 : decode cX1_addPiece 55 = .ok (.iconst 3, 1) := by decide +kernel
theorem dX1_addPiece_56 : decode cX1_addPiece 56 = .ok (.iadd, 1) := by decide +kernel
theorem dX1_addPiece_57 : decode cX1_addPiece 57 = .ok (.iload 4, 2) := by decide +kernel
theorem dX1_addPiece_59 : decode cX1_addPiece 59 = .ok (.iastore, 1) := by decide +kernel
theorem dX1_addPiece_60 : decode cX1_addPiece 60 = .ok (.aload_n 0, 1) := by decide +kernel
theorem dX1_addPiece_61 : decode cX1_addPiece 61 = .ok (.getfield 9, 3) := by decide +kernel
theorem dX1_addPiece_64 : decode cX1_addPiece 64 = .ok (.aload_n 0, 1) := by decide +kernel
theorem dX1_addPiece_65 : decode cX1_addPiece 65 = .ok (.getfield 21, 3) := by decide +kernel
theorem dX1_addPiece_68 : decode cX1_addPiece 68 = .ok (.iload 4, 2) := by decide +kernel
theorem dX1_addPiece_70 : decode cX1_addPiece 70 = .ok (.iconst (-1), 1) := by decide +kernel
theorem dX1_addPiece_71 : decode cX1_addPiece 71 = .ok (.if_icmp .ne 7, 3) := by decide +kernel
theorem dX1_addPiece_74 : decode cX1_addPiece 74 = .ok (.iconst 3, 1) := by decide +kernel
theorem dX1_addPiece_75 : decode cX1_addPiece 75 = .ok (.goto 4, 3) := by decide +kernel
theorem dX1_addPiece_78 : decode cX1_addPiece 78 = .ok (.iconst 4, 1) := by decide +kernel
theorem dX1_addPiece_79 : decode cX1_addPiece 79 = .ok (.iastore, 1) := by decide +kernel
theorem dX1_addPiece_80 : decode cX1_addPiece 80 = .ok (.aload_n 0, 1) := by decide +kernel
theorem dX1_addPiece_81 : decode cX1_addPiece 81 = .ok (.dup, 1) := by decide +kernel
theorem dX1_addPiece_82 : decode cX1_addPiece 82 = .ok (.getfield 21, 3) := by decide +kernel
theorem dX1_addPiece_85 : decode cX1_addPiece 85 = .ok (.iconst 1, 1) := by decide +kernel
theorem dX1_addPiece_86 : decode cX1_addPiece 86 = .ok (.iadd, 1) := by decide +kernel
theorem dX1_addPiece_87 : decode cX1_addPiece 87 = .ok (.putfield 21, 3) := by decide +kernel
theorem dX1_addPiece_90 : decode cX1_addPiece 90 = .ok (.aload_n 0, 1) := by decide +kernel
theorem dX1_addPiece_91 : decode cX1_addPiece 91 = .ok (.getfield 21, 3) := by decide +kernel
theorem dX1_addPiece_94 : decode cX1_addPiece 94 = .ok (.iconst 1, 1) := by decide +kernel
theorem dX1_addPiece_95 : decode cX1_addPiece 95 = .ok (.isub, 1) := by decide +kernel
theorem dX1_addPiece_96 : decode cX1_addPiece 96 = .ok (.ireturn, 1) := by decide +kernel
theorem dX1_addCorner_0 : decode cX1_addCorner 0 = .ok (.aload_n 0, 1) := by decide +kernel
theorem dX1_addCorner_1 : decode cX1_addCorner 1 = .ok (.getfield 9, 3) := by decide +kernel
theorem dX1_addCorner_4 : decode cX1_addCorner 4 = .ok (.iload_n 1, 1) := by decide +kernel
theorem dX1_addCorner_5 : decode cX1_addCorner 5 = .ok (.iaload, 1) := by decide +kernel
theorem dX1_addCorner_6 : decode cX1_addCorner 6 = .ok (.bipush 8, 2) := by decide +kernel
theorem dX1_addCorner_8 : decode cX1_addCorner 8 = .ok (.if_icmp .lt 6, 3) := by decide +kernel
theorem dX1_addCorner_11 : decode cX1_addCorner 11 = .ok (.bipush (-4), 2) := by decide +kernel
theorem dX1_addCorner_13 : decode cX1_addCorner 13 = .ok (.ireturn, 1) := by decide +kernel
theorem dX1_addCorner_14 : decode cX1_addCorner 14 = .ok (.aload_n 0, 1) := by decide +kernel
theorem dX1_addCorner_15 : decode cX1_addCorner 15 = .ok (.getfield 15, 3) := by decide +kernel
theorem dX1_addCorner_18 : decode cX1_addCorner 18 = .ok (.iload_n 1, 1) := by decide +kernel
theorem dX1_addCorner_19 : decode cX1_addCorner 19 = .ok (.bipush 8, 2) := by decide +kernel
theorem dX1_addCorner_21 : decode cX1_addCorner 21 = .ok (.imul, 1) := by decide +kernel
theorem dX1_addCorner_22 : decode cX1_addCorner 22 = .ok (.aload_n 0, 1) := by decide +kernel
theorem dX1_addCorner_23 : decode cX1_addCorner 23 = .ok (.getfield 9, 3) := by decide +kernel
theorem dX1_addCorner_26 : decode cX1_addCorner 26 = .ok (.iload_n 1, 1) := by decide +kernel
theorem dX1_addCorner_27 : decode cX1_addCorner 27 = .ok (.iaload, 1) := by decide +kernel
theorem dX1_addCorner_28 : decode cX1_addCorner 28 = .ok (.iadd, 1) := by decide +kernel
theorem dX1_addCorner_29 : decode cX1_addCorner 29 = .ok (.iload_n 2, 1) := by decide +kernel
theorem dX1_addCorner_30 : decode cX1_addCorner 30 = .ok (.iastore, 1) := by decide +kernel
theorem dX1_addCorner_31 : decode cX1_addCorner 31 = .ok (.aload_n 0, 1) := by decide +kernel
theorem dX1_addCorner_32 : decode cX1_addCorner 32 = .ok (.getfield 9, 3) := by decide +kernel
theorem dX1_addCorner_35 : decode cX1_addCorner 35 = .ok (.iload_n 1, 1) := by decide +kernel
theorem dX1_addCorner_36 : decode cX1_addCorner 36 = .ok (.dup2, 1) := by decide +kernel
theorem dX1_addCorner_37 : decode cX1_addCorner 37 = .ok (.iaload, 1) := by decide +kernel
theorem dX1_addCorner_38 : decode cX1_addCorner 38 = .ok (.iconst 1, 1) := by decide +kernel
theorem dX1_addCorner_39 : decode cX1_addCorner 39 = .ok (.iadd, 1) := by decide +kernel
theorem dX1_addCorner_40 : decode cX1_addCorner 40 = .ok (.iastore, 1) := by decide +kernel
theorem dX1_addCorner_41 : decode cX1_addCorner 41 = .ok (.aload_n 0, 1) := by decide +kernel
theorem dX1_addCorner_42 : decode cX1_addCorner 42 = .ok (.getfield 9, 3) := by decide +kernel
theorem dX1_addCorner_45 : decode cX1_addCorner 45 = .ok (.iload_n 1, 1) := by decide +kernel
theorem dX1_addCorner_46 : decode cX1_addCorner 46 = .ok (.iaload, 1) := by decide +kernel
theorem dX1_addCorner_47 : decode cX1_addCorner 47 = .ok (.ireturn, 1) := by decide +kernel
theorem dX1_addSeam_0 : decode cX1_addSeam 0 = .ok (.aload_n 0, 1) := by decide +kernel
theorem dX1_addSeam_1 : decode cX1_addSeam 1 = .ok (.getfield 25, 3) := by decide +kernel
theorem dX1_addSeam_4 : decode cX1_addSeam 4 = .ok (.bipush 10, 2) := by decide +kernel
theorem dX1_addSeam_6 : decode cX1_addSeam 6 = .ok (.if_icmp .lt 6, 3) := by decide +kernel
theorem dX1_addSeam_9 : decode cX1_addSeam 9 = .ok (.bipush (-4), 2) := by decide +kernel
theorem dX1_addSeam_11 : decode cX1_addSeam 11 = .ok (.ireturn, 1) := by decide +kernel
theorem dX1_addSeam_12 : decode cX1_addSeam 12 = .ok (.aload_n 0, 1) := by decide +kernel
theorem dX1_addSeam_13 : decode cX1_addSeam 13 = .ok (.getfield 18, 3) := by decide +kernel
theorem dX1_addSeam_16 : decode cX1_addSeam 16 = .ok (.aload_n 0, 1) := by decide +kernel
theorem dX1_addSeam_17 : decode cX1_addSeam 17 = .ok (.getfield 25, 3) := by decide +kernel
theorem dX1_addSeam_20 : decode cX1_addSeam 20 = .ok (.iconst 4, 1) := by decide +kernel
theorem dX1_addSeam_21 : decode cX1_addSeam 21 = .ok (.imul, 1) := by decide +kernel
theorem dX1_addSeam_22 : decode cX1_addSeam 22 = .ok (.iload_n 1, 1) := by decide +kernel
theorem dX1_addSeam_23 : decode cX1_addSeam 23 = .ok (.iastore, 1) := by decide +kernel
theorem dX1_addSeam_24 : decode cX1_addSeam 24 = .ok (.aload_n 0, 1) := by decide +kernel
theorem dX1_addSeam_25 : decode cX1_addSeam 25 = .ok (.getfield 18, 3) := by decide +kernel
theorem dX1_addSeam_28 : decode cX1_addSeam 28 = .ok (.aload_n 0, 1) := by decide +kernel
theorem dX1_addSeam_29 : decode cX1_addSeam 29 = .ok (.getfield 25, 3) := by decide +kernel
theorem dX1_addSeam_32 : decode cX1_addSeam 32 = .ok (.iconst 4, 1) := by decide +kernel
theorem dX1_addSeam_33 : decode cX1_addSeam 33 = .ok (.imul, 1) := by decide +kernel
theorem dX1_addSeam_34 : decode cX1_addSeam 34 = .ok (.iconst 1, 1) := by decide +kernel
theorem dX1_addSeam_35 : decode cX1_addSeam 35 = .ok (.iadd, 1) := by decide +kernel
theorem dX1_addSeam_36 : decode cX1_addSeam 36 = .ok (.iload_n 2, 1) := by decide +kernel
theorem dX1_addSeam_37 : decode cX1_addSeam 37 = .ok (.iastore, 1) := by decide +kernel
theorem dX1_addSeam_38 : decode cX1_addSeam 38 = .ok (.aload_n 0, 1) := by decide +kernel
theorem dX1_addSeam_39 : decode cX1_addSeam 39 = .ok (.getfield 18, 3) := by decide +kernel
theorem dX1_addSeam_42 : decode cX1_addSeam 42 = .ok (.aload_n 0, 1) := by decide +kernel
theorem dX1_addSeam_43 : decode cX1_addSeam 43 = .ok (.getfield 25, 3) := by decide +kernel
theorem dX1_addSeam_46 : decode cX1_addSeam 46 = .ok (.iconst 4, 1) := by decide +kernel
theorem dX1_addSeam_47 : decode cX1_addSeam 47 = .ok (.imul, 1) := by decide +kernel
theorem dX1_addSeam_48 : decode cX1_addSeam 48 = .ok (.iconst 2, 1) := by decide +kernel
theorem dX1_addSeam_49 : decode cX1_addSeam 49 = .ok (.iadd, 1) := by decide +kernel
theorem dX1_addSeam_50 : decode cX1_addSeam 50 = .ok (.iload_n 3, 1) := by decide +kernel
theorem dX1_addSeam_51 : decode cX1_addSeam 51 = .ok (.iastore, 1) := by decide +kernel
theorem dX1_addSeam_52 : decode cX1_addSeam 52 = .ok (.aload_n 0, 1) := by decide +kernel
theorem dX1_addSeam_53 : decode cX1_addSeam 53 = .ok (.getfield 18, 3) := by decide +kernel
theorem dX1_addSeam_56 : decode cX1_addSeam 56 = .ok (.aload_n 0, 1) := by decide +kernel
theorem dX1_addSeam_57 : decode cX1_addSeam 57 = .ok (.getfield 25, 3) := by decide +kernel
theorem dX1_addSeam_60 : decode cX1_addSeam 60 = .ok (.iconst 4, 1) := by decide +kernel
theorem dX1_addSeam_61 : decode cX1_addSeam 61 = .ok (.imul, 1) := by decide +kernel
theorem dX1_addSeam_62 : decode cX1_addSeam 62 = .ok (.iconst 3, 1) := by decide +kernel
theorem dX1_addSeam_63 : decode cX1_addSeam 63 = .ok (.iadd, 1) := by decide +kernel
theorem dX1_addSeam_64 : decode cX1_addSeam 64 = .ok (.iload 4, 2) := by decide +kernel
theorem dX1_addSeam_66 : decode cX1_addSeam 66 = .ok (.iastore, 1) := by decide +kernel
theorem dX1_addSeam_67 : decode cX1_addSeam 67 = .ok (.aload_n 0, 1) := by decide +kernel
theorem dX1_addSeam_68 : decode cX1_addSeam 68 = .ok (.dup, 1) := by decide +kernel
theorem dX1_addSeam_69 : decode cX1_addSeam 69 = .ok (.getfield 25, 3) := by decide +kernel
theorem dX1_addSeam_72 : decode cX1_addSeam 72 = .ok (.iconst 1, 1) := by decide +kernel
theorem dX1_addSeam_73 : decode cX1_addSeam 73 = .ok (.iadd, 1) := by decide +kernel
theorem dX1_addSeam_74 : decode cX1_addSeam 74 = .ok (.putfield 25, 3) := by decide +kernel
theorem dX1_addSeam_77 : decode cX1_addSeam 77 = .ok (.aload_n 0, 1) := by decide +kernel
theorem dX1_addSeam_78 : decode cX1_addSeam 78 = .ok (.getfield 25, 3) := by decide +kernel
theorem dX1_addSeam_81 : decode cX1_addSeam 81 = .ok (.iconst 1, 1) := by decide +kernel
theorem dX1_addSeam_82 : decode cX1_addSeam 82 = .ok (.isub, 1) := by decide +kernel
theorem dX1_addSeam_83 : decode cX1_addSeam 83 = .ok (.ireturn, 1) := by decide +kernel
set_option maxRecDepth 20000 in
theorem ggX1_sideLength_X1_corner : GoodIn wsX1_sideLength wsX1_corner := goodIn_r _ [7, 8, 17, 18, 19, 20, 21, 22] (by decide +kernel) (by decide +kernel)
set_option maxRecDepth 20000 in
theorem gX1_sideLength_X1_corner : GoodIn wsX1_sideLength (wsV RX1 40 RX1 yX1_corner wsX1_corner) := goodIn_app (goodIn_of _ (by decide +kernel)) ggX1_sideLength_X1_corner
set_option maxRecDepth 20000 in
theorem ggX1_sideLength_X1_cornerAfter : GoodIn wsX1_sideLength wsX1_cornerAfter := goodIn_r _ [12, 13, 3, 4, 5, 6, 7, 8, 17, 18, 19, 20, 21, 22] (by decide +kernel) (by decide +kernel)
set_option maxRecDepth 20000 in
theorem gX1_sideLength_X1_cornerAfter : GoodIn wsX1_sideLength (wsV RX1 44 RX1 yX1_cornerAfter wsX1_cornerAfter) := goodIn_app (goodIn_of _ (by decide +kernel)) ggX1_sideLength_X1_cornerAfter
set_option maxRecDepth 20000 in
theorem ggX1_sideLength_X5_root : GoodIn wsX1_sideLength wsX5_root := goodIn_r _ [16] (by decide +kernel) (by decide +kernel)
set_option maxRecDepth 20000 in
theorem gX1_sideLength_X5_root_n57 : GoodIn wsX1_sideLength (wsX5_root) := ggX1_sideLength_X5_root
theorem dX1_sideLength_0 : decode cX1_sideLength 0 = .ok (.aload_n 0, 1) := by decide +kernel
theorem dX1_sideLength_1 : decode cX1_sideLength 1 = .ok (.iload_n 1, 1) := by decide +kernel
theorem dX1_sideLength_2 : decode cX1_sideLength 2 = .ok (.iload_n 2, 1) := by decide +kernel
theorem dX1_sideLength_3 : decode cX1_sideLength 3 = .ok (.invokevirtual 40, 3) := by decide +kernel
theorem dX1_sideLength_6 : decode cX1_sideLength 6 = .ok (.istore_n 3, 1) := by decide +kernel
theorem dX1_sideLength_7 : decode cX1_sideLength 7 = .ok (.aload_n 0, 1) := by decide +kernel
theorem dX1_sideLength_8 : decode cX1_sideLength 8 = .ok (.iload_n 1, 1) := by decide +kernel
theorem dX1_sideLength_9 : decode cX1_sideLength 9 = .ok (.iload_n 2, 1) := by decide +kernel
theorem dX1_sideLength_10 : decode cX1_sideLength 10 = .ok (.invokevirtual 44, 3) := by decide +kernel
theorem dX1_sideLength_13 : decode cX1_sideLength 13 = .ok (.istore 4, 2) := by decide +kernel
theorem dX1_sideLength_15 : decode cX1_sideLength 15 = .ok (.aload_n 0, 1) := by decide +kernel
theorem dX1_sideLength_16 : decode cX1_sideLength 16 = .ok (.getfield 28, 3) := by decide +kernel
theorem dX1_sideLength_19 : decode cX1_sideLength 19 = .ok (.getfield 47, 3) := by decide +kernel
theorem dX1_sideLength_22 : decode cX1_sideLength 22 = .ok (.iload 4, 2) := by decide +kernel
theorem dX1_sideLength_24 : decode cX1_sideLength 24 = .ok (.iaload, 1) := by decide +kernel
theorem dX1_sideLength_25 : decode cX1_sideLength 25 = .ok (.aload_n 0, 1) := by decide +kernel
theorem dX1_sideLength_26 : decode cX1_sideLength 26 = .ok (.getfield 28, 3) := by decide +kernel
theorem dX1_sideLength_29 : decode cX1_sideLength 29 = .ok (.getfield 47, 3) := by decide +kernel
theorem dX1_sideLength_32 : decode cX1_sideLength 32 = .ok (.iload_n 3, 1) := by decide +kernel
theorem dX1_sideLength_33 : decode cX1_sideLength 33 = .ok (.iaload, 1) := by decide +kernel
theorem dX1_sideLength_34 : decode cX1_sideLength 34 = .ok (.isub, 1) := by decide +kernel
theorem dX1_sideLength_35 : decode cX1_sideLength 35 = .ok (.i2l, 1) := by decide +kernel
theorem dX1_sideLength_36 : decode cX1_sideLength 36 = .ok (.lstore 5, 2) := by decide +kernel
theorem dX1_sideLength_38 : decode cX1_sideLength 38 = .ok (.aload_n 0, 1) := by decide +kernel
theorem dX1_sideLength_39 : decode cX1_sideLength 39 = .ok (.getfield 28, 3) := by decide +kernel
theorem dX1_sideLength_42 : decode cX1_sideLength 42 = .ok (.getfield 52, 3) := by decide +kernel
theorem dX1_sideLength_45 : decode cX1_sideLength 45 = .ok (.iload 4, 2) := by decide +kernel
theorem dX1_sideLength_47 : decode cX1_sideLength 47 = .ok (.iaload, 1) := by decide +kernel
theorem dX1_sideLength_48 : decode cX1_sideLength 48 = .ok (.aload_n 0, 1) := by decide +kernel
theorem dX1_sideLength_49 : decode cX1_sideLength 49 = .ok (.getfield 28, 3) := by decide +kernel
theorem dX1_sideLength_52 : decode cX1_sideLength 52 = .ok (.getfield 52, 3) := by decide +kernel
theorem dX1_sideLength_55 : decode cX1_sideLength 55 = .ok (.iload_n 3, 1) := by decide +kernel
theorem dX1_sideLength_56 : decode cX1_sideLength 56 = .ok (.iaload, 1) := by decide +kernel
theorem dX1_sideLength_57 : decode cX1_sideLength 57 = .ok (.isub, 1) := by decide +kernel
theorem dX1_sideLength_58 : decode cX1_sideLength 58 = .ok (.i2l, 1) := by decide +kernel
theorem dX1_sideLength_59 : decode cX1_sideLength 59 = .ok (.lstore 7, 2) := by decide +kernel
theorem dX1_sideLength_61 : decode cX1_sideLength 61 = .ok (.ldc2_w 55, 3) := by decide +kernel
theorem dX1_sideLength_64 : decode cX1_sideLength 64 = .ok (.lload 5, 2) := by decide +kernel
theorem dX1_sideLength_66 : decode cX1_sideLength 66 = .ok (.lload 5, 2) := by decide +kernel
theorem dX1_sideLength_68 : decode cX1_sideLength 68 = .ok (.lmul, 1) := by decide +kernel
theorem dX1_sideLength_69 : decode cX1_sideLength 69 = .ok (.lload 7, 2) := by decide +kernel
theorem dX1_sideLength_71 : decode cX1_sideLength 71 = .ok (.lload 7, 2) := by decide +kernel
theorem dX1_sideLength_73 : decode cX1_sideLength 73 = .ok (.lmul, 1) := by decide +kernel
theorem dX1_sideLength_74 : decode cX1_sideLength 74 = .ok (.ladd, 1) := by decide +kernel
theorem dX1_sideLength_75 : decode cX1_sideLength 75 = .ok (.lmul, 1) := by decide +kernel
theorem dX1_sideLength_76 : decode cX1_sideLength 76 = .ok (.invokestatic 57, 3) := by decide +kernel
theorem dX1_sideLength_79 : decode cX1_sideLength 79 = .ok (.ireturn, 1) := by decide +kernel
set_option maxRecDepth 20000 in
theorem ggX1_doubleArea_X1_corner : GoodIn wsX1_doubleArea wsX1_corner := goodIn_r _ [11, 12, 17, 18, 19, 20, 21, 22] (by decide +kernel) (by decide +kernel)
set_option maxRecDepth 20000 in
theorem gX1_doubleArea_X1_corner : GoodIn wsX1_doubleArea (wsV RX1 40 RX1 yX1_corner wsX1_corner) := goodIn_app (goodIn_of _ (by decide +kernel)) ggX1_doubleArea_X1_corner
set_option maxRecDepth 20000 in
theorem ggX1_doubleArea_X1_cornerAfter : GoodIn wsX1_doubleArea wsX1_cornerAfter := goodIn_r _ [16, 1, 7, 8, 9, 10, 11, 12, 17, 18, 19, 20, 21, 22] (by decide +kernel) (by decide +kernel)
set_option maxRecDepth 20000 in
theorem gX1_doubleArea_X1_cornerAfter : GoodIn wsX1_doubleArea (wsV RX1 44 RX1 yX1_cornerAfter wsX1_cornerAfter) := goodIn_app (goodIn_of _ (by decide +kernel)) ggX1_doubleArea_X1_cornerAfter
theorem dX1_doubleArea_0 : decode cX1_doubleArea 0 = .ok (.lconst 0, 1) := by decide +kernel
theorem dX1_doubleArea_1 : decode cX1_doubleArea 1 = .ok (.lstore_n 2, 1) := by decide +kernel
theorem dX1_doubleArea_2 : decode cX1_doubleArea 2 = .ok (.iconst 0, 1) := by decide +kernel
theorem dX1_doubleArea_3 : decode cX1_doubleArea 3 = .ok (.istore 4, 2) := by decide +kernel
theorem dX1_doubleArea_5 : decode cX1_doubleArea 5 = .ok (.iload 4, 2) := by decide +kernel
theorem dX1_doubleArea_7 : decode cX1_doubleArea 7 = .ok (.aload_n 0, 1) := by decide +kernel
theorem dX1_doubleArea_8 : decode cX1_doubleArea 8 = .ok (.getfield 9, 3) := by decide +kernel
theorem dX1_doubleArea_11 : decode cX1_doubleArea 11 = .ok (.iload_n 1, 1) := by decide +kernel
theorem dX1_doubleArea_12 : decode cX1_doubleArea 12 = .ok (.iaload, 1) := by decide +kernel
theorem dX1_doubleArea_13 : decode cX1_doubleArea 13 = .ok (.if_icmp .ge 77, 3) := by decide +kernel
theorem dX1_doubleArea_16 : decode cX1_doubleArea 16 = .ok (.aload_n 0, 1) := by decide +kernel
theorem dX1_doubleArea_17 : decode cX1_doubleArea 17 = .ok (.iload_n 1, 1) := by decide +kernel
theorem dX1_doubleArea_18 : decode cX1_doubleArea 18 = .ok (.iload 4, 2) := by decide +kernel
theorem dX1_doubleArea_20 : decode cX1_doubleArea 20 = .ok (.invokevirtual 40, 3) := by decide +kernel
theorem dX1_doubleArea_23 : decode cX1_doubleArea 23 = .ok (.istore 5, 2) := by decide +kernel
theorem dX1_doubleArea_25 : decode cX1_doubleArea 25 = .ok (.aload_n 0, 1) := by decide +kernel
theorem dX1_doubleArea_26 : decode cX1_doubleArea 26 = .ok (.iload_n 1, 1) := by decide +kernel
theorem dX1_doubleArea_27 : decode cX1_doubleArea 27 = .ok (.iload 4, 2) := by decide +kernel
theorem dX1_doubleArea_29 : decode cX1_doubleArea 29 = .ok (.invokevirtual 44, 3) := by decide +kernel
theorem dX1_doubleArea_32 : decode cX1_doubleArea 32 = .ok (.istore 6, 2) := by decide +kernel
theorem dX1_doubleArea_34 : decode cX1_doubleArea 34 = .ok (.lload_n 2, 1) := by decide +kernel
theorem dX1_doubleArea_35 : decode cX1_doubleArea 35 = .ok (.aload_n 0, 1) := by decide +kernel
theorem dX1_doubleArea_36 : decode cX1_doubleArea 36 = .ok (.getfield 28, 3) := by decide +kernel
theorem dX1_doubleArea_39 : decode cX1_doubleArea 39 = .ok (.getfield 47, 3) := by decide +kernel
theorem dX1_doubleArea_42 : decode cX1_doubleArea 42 = .ok (.iload 5, 2) := by decide +kernel
theorem dX1_doubleArea_44 : decode cX1_doubleArea 44 = .ok (.iaload, 1) := by decide +kernel
theorem dX1_doubleArea_45 : decode cX1_doubleArea 45 = .ok (.i2l, 1) := by decide +kernel
theorem dX1_doubleArea_46 : decode cX1_doubleArea 46 = .ok (.aload_n 0, 1) := by decide +kernel
theorem dX1_doubleArea_47 : decode cX1_doubleArea 47 = .ok (.getfield 28, 3) := by decide +kernel
theorem dX1_doubleArea_50 : decode cX1_doubleArea 50 = .ok (.getfield 52, 3) := by decide +kernel
theorem dX1_doubleArea_53 : decode cX1_doubleArea 53 = .ok (.iload 6, 2) := by decide +kernel
theorem dX1_doubleArea_55 : decode cX1_doubleArea 55 = .ok (.iaload, 1) := by decide +kernel
theorem dX1_doubleArea_56 : decode cX1_doubleArea 56 = .ok (.i2l, 1) := by decide +kernel
theorem dX1_doubleArea_57 : decode cX1_doubleArea 57 = .ok (.lmul, 1) := by decide +kernel
theorem dX1_doubleArea_58 : decode cX1_doubleArea 58 = .ok (.aload_n 0, 1) := by decide +kernel
theorem dX1_doubleArea_59 : decode cX1_doubleArea 59 = .ok (.getfield 28, 3) := by decide +kernel
theorem dX1_doubleArea_62 : decode cX1_doubleArea 62 = .ok (.getfield 47, 3) := by decide +kernel
theorem dX1_doubleArea_65 : decode cX1_doubleArea 65 = .ok (.iload 6, 2) := by decide +kernel
theorem dX1_doubleArea_67 : decode cX1_doubleArea 67 = .ok (.iaload, 1) := by decide +kernel
theorem dX1_doubleArea_68 : decode cX1_doubleArea 68 = .ok (.i2l, 1) := by decide +kernel
theorem dX1_doubleArea_69 : decode cX1_doubleArea 69 = .ok (.aload_n 0, 1) := by decide +kernel
theorem dX1_doubleArea_70 : decode cX1_doubleArea 70 = .ok (.getfield 28, 3) := by decide +kernel
theorem dX1_doubleArea_73 : decode cX1_doubleArea 73 = .ok (.getfield 52, 3) := by decide +kernel
theorem dX1_doubleArea_76 : decode cX1_doubleArea 76 = .ok (.iload 5, 2) := by decide +kernel
theorem dX1_doubleArea_78 : decode cX1_doubleArea 78 = .ok (.iaload, 1) := by decide +kernel
theorem dX1_doubleArea_79 : decode cX1_doubleArea 79 = .ok (.i2l, 1) := by decide +kernel
theorem dX1_doubleArea_80 : decode cX1_doubleArea 80 = .ok (.lmul, 1) := by decide +kernel
theorem dX1_doubleArea_81 : decode cX1_doubleArea 81 = .ok (.lsub, 1) := by decide +kernel
theorem dX1_doubleArea_82 : decode cX1_doubleArea 82 = .ok (.ladd, 1) := by decide +kernel
theorem dX1_doubleArea_83 : decode cX1_doubleArea 83 = .ok (.lstore_n 2, 1) := by decide +kernel
theorem dX1_doubleArea_84 : decode cX1_doubleArea 84 = .ok (.iinc 4 1, 3) := by decide +kernel
theorem dX1_doubleArea_87 : decode cX1_doubleArea 87 = .ok (.goto (-82), 3) := by decide +kernel
theorem dX1_doubleArea_90 : decode cX1_doubleArea 90 = .ok (.lload_n 2, 1) := by decide +kernel
theorem dX1_doubleArea_91 : decode cX1_doubleArea 91 = .ok (.invokestatic 61, 3) := by decide +kernel
theorem dX1_doubleArea_94 : decode cX1_doubleArea 94 = .ok (.lreturn, 1) := by decide +kernel
set_option maxRecDepth 20000 in
theorem ggX1_firstGap_X1_sideLength : GoodIn wsX1_firstGap wsX1_sideLength := goodIn_r _ [11, 12, 13, 14, 15, 16, 10, 17, 18, 19, 20, 21, 22, 23, 24, 25, 26, 27, 28, 29, 30, 31, 32, 33, 34, 35, 36, 37, 38, 39, 40, 41, 42] (by decide +kernel) (by decide +kernel)
set_option maxRecDepth 20000 in
theorem gX1_firstGap_X1_sideLength : GoodIn wsX1_firstGap (wsV RX1 67 RX1 yX1_sideLength wsX1_sideLength) := goodIn_app (goodIn_of _ (by decide +kernel)) ggX1_firstGap_X1_sideLength
theorem dX1_firstGap_0 : decode cX1_firstGap 0 = .ok (.iconst 0, 1) := by decide +kernel
theorem dX1_firstGap_1 : decode cX1_firstGap 1 = .ok (.istore_n 2, 1) := by decide +kernel
theorem dX1_firstGap_2 : decode cX1_firstGap 2 = .ok (.iload_n 2, 1) := by decide +kernel
theorem dX1_firstGap_3 : decode cX1_firstGap 3 = .ok (.aload_n 0, 1) := by decide +kernel
theorem dX1_firstGap_4 : decode cX1_firstGap 4 = .ok (.getfield 25, 3) := by decide +kernel
theorem dX1_firstGap_7 : decode cX1_firstGap 7 = .ok (.if_icmp .ge 71, 3) := by decide +kernel
theorem dX1_firstGap_10 : decode cX1_firstGap 10 = .ok (.aload_n 0, 1) := by decide +kernel
theorem dX1_firstGap_11 : decode cX1_firstGap 11 = .ok (.aload_n 0, 1) := by decide +kernel
theorem dX1_firstGap_12 : decode cX1_firstGap 12 = .ok (.getfield 18, 3) := by decide +kernel
theorem dX1_firstGap_15 : decode cX1_firstGap 15 = .ok (.iload_n 2, 1) := by decide +kernel
theorem dX1_firstGap_16 : decode cX1_firstGap 16 = .ok (.iconst 4, 1) := by decide +kernel
theorem dX1_firstGap_17 : decode cX1_firstGap 17 = .ok (.imul, 1) := by decide +kernel
theorem dX1_firstGap_18 : decode cX1_firstGap 18 = .ok (.iaload, 1) := by decide +kernel
theorem dX1_firstGap_19 : decode cX1_firstGap 19 = .ok (.aload_n 0, 1) := by decide +kernel
theorem dX1_firstGap_20 : decode cX1_firstGap 20 = .ok (.getfield 18, 3) := by decide +kernel
theorem dX1_firstGap_23 : decode cX1_firstGap 23 = .ok (.iload_n 2, 1) := by decide +kernel
theorem dX1_firstGap_24 : decode cX1_firstGap 24 = .ok (.iconst 4, 1) := by decide +kernel
theorem dX1_firstGap_25 : decode cX1_firstGap 25 = .ok (.imul, 1) := by decide +kernel
theorem dX1_firstGap_26 : decode cX1_firstGap 26 = .ok (.iconst 1, 1) := by decide +kernel
theorem dX1_firstGap_27 : decode cX1_firstGap 27 = .ok (.iadd, 1) := by decide +kernel
theorem dX1_firstGap_28 : decode cX1_firstGap 28 = .ok (.iaload, 1) := by decide +kernel
theorem dX1_firstGap_29 : decode cX1_firstGap 29 = .ok (.invokevirtual 67, 3) := by decide +kernel
theorem dX1_firstGap_32 : decode cX1_firstGap 32 = .ok (.istore_n 3, 1) := by decide +kernel
theorem dX1_firstGap_33 : decode cX1_firstGap 33 = .ok (.aload_n 0, 1) := by decide +kernel
theorem dX1_firstGap_34 : decode cX1_firstGap 34 = .ok (.aload_n 0, 1) := by decide +kernel
theorem dX1_firstGap_35 : decode cX1_firstGap 35 = .ok (.getfield 18, 3) := by decide +kernel
theorem dX1_firstGap_38 : decode cX1_firstGap 38 = .ok (.iload_n 2, 1) := by decide +kernel
theorem dX1_firstGap_39 : decode cX1_firstGap 39 = .ok (.iconst 4, 1) := by decide +kernel
theorem dX1_firstGap_40 : decode cX1_firstGap 40 = .ok (.imul, 1) := by decide +kernel
theorem dX1_firstGap_41 : decode cX1_firstGap 41 = .ok (.iconst 2, 1) := by decide +kernel
theorem dX1_firstGap_42 : decode cX1_firstGap 42 = .ok (.iadd, 1) := by decide +kernel
theorem dX1_firstGap_43 : decode cX1_firstGap 43 = .ok (.iaload, 1) := by decide +kernel
theorem dX1_firstGap_44 : decode cX1_firstGap 44 = .ok (.aload_n 0, 1) := by decide +kernel
theorem dX1_firstGap_45 : decode cX1_firstGap 45 = .ok (.getfield 18, 3) := by decide +kernel
theorem dX1_firstGap_48 : decode cX1_firstGap 48 = .ok (.iload_n 2, 1) := by decide +kernel
theorem dX1_firstGap_49 : decode cX1_firstGap 49 = .ok (.iconst 4, 1) := by decide +kernel
theorem dX1_firstGap_50 : decode cX1_firstGap 50 = .ok (.imul, 1) := by decide +kernel
theorem dX1_firstGap_51 : decode cX1_firstGap 51 = .ok (.iconst 3, 1) := by decide +kernel
theorem dX1_firstGap_52 : decode cX1_firstGap 52 = .ok (.iadd, 1) := by decide +kernel
theorem dX1_firstGap_53 : decode cX1_firstGap 53 = .ok (.iaload, 1) := by decide +kernel
theorem dX1_firstGap_54 : decode cX1_firstGap 54 = .ok (.invokevirtual 67, 3) := by decide +kernel
theorem dX1_firstGap_57 : decode cX1_firstGap 57 = .ok (.istore 4, 2) := by decide +kernel
theorem dX1_firstGap_59 : decode cX1_firstGap 59 = .ok (.iload_n 3, 1) := by decide +kernel
theorem dX1_firstGap_60 : decode cX1_firstGap 60 = .ok (.iload 4, 2) := by decide +kernel
theorem dX1_firstGap_62 : decode cX1_firstGap 62 = .ok (.isub, 1) := by decide +kernel
theorem dX1_firstGap_63 : decode cX1_firstGap 63 = .ok (.invokestatic 70, 3) := by decide +kernel
theorem dX1_firstGap_66 : decode cX1_firstGap 66 = .ok (.iload_n 1, 1) := by decide +kernel
theorem dX1_firstGap_67 : decode cX1_firstGap 67 = .ok (.if_icmp .le 5, 3) := by decide +kernel
theorem dX1_firstGap_70 : decode cX1_firstGap 70 = .ok (.iload_n 2, 1) := by decide +kernel
theorem dX1_firstGap_71 : decode cX1_firstGap 71 = .ok (.ireturn, 1) := by decide +kernel
theorem dX1_firstGap_72 : decode cX1_firstGap 72 = .ok (.iinc 2 1, 3) := by decide +kernel
theorem dX1_firstGap_75 : decode cX1_firstGap 75 = .ok (.goto (-73), 3) := by decide +kernel
theorem dX1_firstGap_78 : decode cX1_firstGap 78 = .ok (.iconst (-1), 1) := by decide +kernel
theorem dX1_firstGap_79 : decode cX1_firstGap 79 = .ok (.ireturn, 1) := by decide +kernel
set_option maxRecDepth 20000 in
theorem ggX1_piecesWith_X1_corner : GoodIn wsX1_piecesWith wsX1_corner := goodIn_r _ [7, 8, 9, 10, 11, 12, 13, 14] (by decide +kernel) (by decide +kernel)
set_option maxRecDepth 20000 in
theorem gX1_piecesWith_X1_corner : GoodIn wsX1_piecesWith (wsV RX1 40 RX1 yX1_corner wsX1_corner) := goodIn_app (goodIn_of _ (by decide +kernel)) ggX1_piecesWith_X1_corner
theorem dX1_piecesWith_0 : decode cX1_piecesWith 0 = .ok (.iconst 0, 1) := by decide +kernel
theorem dX1_piecesWith_1 : decode cX1_piecesWith 1 = .ok (.istore_n 2, 1) := by decide +kernel
theorem dX1_piecesWith_2 : decode cX1_piecesWith 2 = .ok (.iconst 0, 1) := by decide +kernel
theorem dX1_piecesWith_3 : decode cX1_piecesWith 3 = .ok (.istore_n 3, 1) := by decide +kernel
theorem dX1_piecesWith_4 : decode cX1_piecesWith 4 = .ok (.iload_n 3, 1) := by decide +kernel
theorem dX1_piecesWith_5 : decode cX1_piecesWith 5 = .ok (.aload_n 0, 1) := by decide +kernel
theorem dX1_piecesWith_6 : decode cX1_piecesWith 6 = .ok (.getfield 21, 3) := by decide +kernel
theorem dX1_piecesWith_9 : decode cX1_piecesWith 9 = .ok (.if_icmp .ge 50, 3) := by decide +kernel
theorem dX1_piecesWith_12 : decode cX1_piecesWith 12 = .ok (.iconst 0, 1) := by decide +kernel
theorem dX1_piecesWith_13 : decode cX1_piecesWith 13 = .ok (.istore 4, 2) := by decide +kernel
theorem dX1_piecesWith_15 : decode cX1_piecesWith 15 = .ok (.iload 4, 2) := by decide +kernel
theorem dX1_piecesWith_17 : decode cX1_piecesWith 17 = .ok (.aload_n 0, 1) := by decide +kernel
theorem dX1_piecesWith_18 : decode cX1_piecesWith 18 = .ok (.getfield 9, 3) := by decide +kernel
theorem dX1_piecesWith_21 : decode cX1_piecesWith 21 = .ok (.iload_n 3, 1) := by decide +kernel
theorem dX1_piecesWith_22 : decode cX1_piecesWith 22 = .ok (.iaload, 1) := by decide +kernel
theorem dX1_piecesWith_23 : decode cX1_piecesWith 23 = .ok (.if_icmp .ge 30, 3) := by decide +kernel
theorem dX1_piecesWith_26 : decode cX1_piecesWith 26 = .ok (.iload_n 1, 1) := by decide +kernel
theorem dX1_piecesWith_27 : decode cX1_piecesWith 27 = .ok (.aload_n 0, 1) := by decide +kernel
theorem dX1_piecesWith_28 : decode cX1_piecesWith 28 = .ok (.iload_n 3, 1) := by decide +kernel
theorem dX1_piecesWith_29 : decode cX1_piecesWith 29 = .ok (.iload 4, 2) := by decide +kernel
theorem dX1_piecesWith_31 : decode cX1_piecesWith 31 = .ok (.invokevirtual 40, 3) := by decide +kernel
theorem dX1_piecesWith_34 : decode cX1_piecesWith 34 = .ok (.ishr, 1) := by decide +kernel
theorem dX1_piecesWith_35 : decode cX1_piecesWith 35 = .ok (.iconst 1, 1) := by decide +kernel
theorem dX1_piecesWith_36 : decode cX1_piecesWith 36 = .ok (.iand, 1) := by decide +kernel
theorem dX1_piecesWith_37 : decode cX1_piecesWith 37 = .ok (.iconst 1, 1) := by decide +kernel
theorem dX1_piecesWith_38 : decode cX1_piecesWith 38 = .ok (.if_icmp .ne 9, 3) := by decide +kernel
theorem dX1_piecesWith_41 : decode cX1_piecesWith 41 = .ok (.iload_n 2, 1) := by decide +kernel
theorem dX1_piecesWith_42 : decode cX1_piecesWith 42 = .ok (.iconst 1, 1) := by decide +kernel
theorem dX1_piecesWith_43 : decode cX1_piecesWith 43 = .ok (.iload_n 3, 1) := by decide +kernel
theorem dX1_piecesWith_44 : decode cX1_piecesWith 44 = .ok (.ishl, 1) := by decide +kernel
theorem dX1_piecesWith_45 : decode cX1_piecesWith 45 = .ok (.ior, 1) := by decide +kernel
theorem dX1_piecesWith_46 : decode cX1_piecesWith 46 = .ok (.istore_n 2, 1) := by decide +kernel
theorem dX1_piecesWith_47 : decode cX1_piecesWith 47 = .ok (.iinc 4 1, 3) := by decide +kernel
theorem dX1_piecesWith_50 : decode cX1_piecesWith 50 = .ok (.goto (-35), 3) := by decide +kernel
theorem dX1_piecesWith_53 : decode cX1_piecesWith 53 = .ok (.iinc 3 1, 3) := by decide +kernel
theorem dX1_piecesWith_56 : decode cX1_piecesWith 56 = .ok (.goto (-52), 3) := by decide +kernel
theorem dX1_piecesWith_59 : decode cX1_piecesWith 59 = .ok (.iload_n 2, 1) := by decide +kernel
theorem dX1_piecesWith_60 : decode cX1_piecesWith 60 = .ok (.ireturn, 1) := by decide +kernel
set_option maxRecDepth 20000 in
theorem ggX1_roomRight_X1_room : GoodIn wsX1_roomRight wsX1_room := goodIn_r _ [6, 7, 8, 9, 10, 11, 12, 13, 14, 15, 16, 17, 5, 18, 19, 20, 21, 22, 23, 24, 25] (by decide +kernel) (by decide +kernel)
set_option maxRecDepth 20000 in
theorem gX1_roomRight_X1_room : GoodIn wsX1_roomRight (wsV RX1 73 RX1 yX1_room wsX1_room) := goodIn_app (goodIn_of _ (by decide +kernel)) ggX1_roomRight_X1_room
theorem dX1_roomRight_0 : decode cX1_roomRight 0 = .ok (.aload_n 0, 1) := by decide +kernel
theorem dX1_roomRight_1 : decode cX1_roomRight 1 = .ok (.iload_n 1, 1) := by decide +kernel
theorem dX1_roomRight_2 : decode cX1_roomRight 2 = .ok (.aload_n 0, 1) := by decide +kernel
theorem dX1_roomRight_3 : decode cX1_roomRight 3 = .ok (.getfield 28, 3) := by decide +kernel
theorem dX1_roomRight_6 : decode cX1_roomRight 6 = .ok (.getfield 47, 3) := by decide +kernel
theorem dX1_roomRight_9 : decode cX1_roomRight 9 = .ok (.invokevirtual 73, 3) := by decide +kernel
theorem dX1_roomRight_12 : decode cX1_roomRight 12 = .ok (.ireturn, 1) := by decide +kernel
set_option maxRecDepth 20000 in
theorem ggX1_roomDown_X1_room : GoodIn wsX1_roomDown wsX1_room := goodIn_r _ [6, 7, 8, 9, 10, 11, 12, 13, 14, 15, 16, 17, 5, 18, 19, 20, 21, 22, 23, 24, 25] (by decide +kernel) (by decide +kernel)
set_option maxRecDepth 20000 in
theorem gX1_roomDown_X1_room : GoodIn wsX1_roomDown (wsV RX1 73 RX1 yX1_room wsX1_room) := goodIn_app (goodIn_of _ (by decide +kernel)) ggX1_roomDown_X1_room
theorem dX1_roomDown_0 : decode cX1_roomDown 0 = .ok (.aload_n 0, 1) := by decide +kernel
theorem dX1_roomDown_1 : decode cX1_roomDown 1 = .ok (.iload_n 1, 1) := by decide +kernel
theorem dX1_roomDown_2 : decode cX1_roomDown 2 = .ok (.aload_n 0, 1) := by decide +kernel
theorem dX1_roomDown_3 : decode cX1_roomDown 3 = .ok (.getfield 28, 3) := by decide +kernel
theorem dX1_roomDown_6 : decode cX1_roomDown 6 = .ok (.getfield 52, 3) := by decide +kernel
theorem dX1_roomDown_9 : decode cX1_roomDown 9 = .ok (.invokevirtual 73, 3) := by decide +kernel
theorem dX1_roomDown_12 : decode cX1_roomDown 12 = .ok (.ireturn, 1) := by decide +kernel
set_option maxRecDepth 20000 in
theorem ggX1_mixPieces_X5_mix : GoodIn wsX1_mixPieces wsX5_mix := goodIn_r _ [5, 6] (by decide +kernel) (by decide +kernel)
set_option maxRecDepth 20000 in
theorem gX1_mixPieces_X5_mix_n77 : GoodIn wsX1_mixPieces (wsX5_mix) := ggX1_mixPieces_X5_mix
set_option maxRecDepth 20000 in
theorem ggX1_mixPieces_X1_corner : GoodIn wsX1_mixPieces wsX1_corner := goodIn_r _ [11, 12, 13, 14, 15, 16, 17, 18] (by decide +kernel) (by decide +kernel)
set_option maxRecDepth 20000 in
theorem gX1_mixPieces_X1_corner : GoodIn wsX1_mixPieces (wsV RX1 40 RX1 yX1_corner wsX1_corner) := goodIn_app (goodIn_of _ (by decide +kernel)) ggX1_mixPieces_X1_corner
theorem dX1_mixPieces_0 : decode cX1_mixPieces 0 = .ok (.lload_n 1, 1) := by decide +kernel
theorem dX1_mixPieces_1 : decode cX1_mixPieces 1 = .ok (.lstore_n 3, 1) := by decide +kernel
theorem dX1_mixPieces_2 : decode cX1_mixPieces 2 = .ok (.iconst 0, 1) := by decide +kernel
theorem dX1_mixPieces_3 : decode cX1_mixPieces 3 = .ok (.istore 5, 2) := by decide +kernel
theorem dX1_mixPieces_5 : decode cX1_mixPieces 5 = .ok (.iload 5, 2) := by decide +kernel
theorem dX1_mixPieces_7 : decode cX1_mixPieces 7 = .ok (.aload_n 0, 1) := by decide +kernel
theorem dX1_mixPieces_8 : decode cX1_mixPieces 8 = .ok (.getfield 21, 3) := by decide +kernel
theorem dX1_mixPieces_11 : decode cX1_mixPieces 11 = .ok (.if_icmp .ge 57, 3) := by decide +kernel
theorem dX1_mixPieces_14 : decode cX1_mixPieces 14 = .ok (.lload_n 3, 1) := by decide +kernel
theorem dX1_mixPieces_15 : decode cX1_mixPieces 15 = .ok (.aload_n 0, 1) := by decide +kernel
theorem dX1_mixPieces_16 : decode cX1_mixPieces 16 = .ok (.getfield 9, 3) := by decide +kernel
theorem dX1_mixPieces_19 : decode cX1_mixPieces 19 = .ok (.iload 5, 2) := by decide +kernel
theorem dX1_mixPieces_21 : decode cX1_mixPieces 21 = .ok (.iaload, 1) := by decide +kernel
theorem dX1_mixPieces_22 : decode cX1_mixPieces 22 = .ok (.i2l, 1) := by decide +kernel
theorem dX1_mixPieces_23 : decode cX1_mixPieces 23 = .ok (.invokestatic 77, 3) := by decide +kernel
theorem dX1_mixPieces_26 : decode cX1_mixPieces 26 = .ok (.lstore_n 3, 1) := by decide +kernel
theorem dX1_mixPieces_27 : decode cX1_mixPieces 27 = .ok (.iconst 0, 1) := by decide +kernel
theorem dX1_mixPieces_28 : decode cX1_mixPieces 28 = .ok (.istore 6, 2) := by decide +kernel
theorem dX1_mixPieces_30 : decode cX1_mixPieces 30 = .ok (.iload 6, 2) := by decide +kernel
theorem dX1_mixPieces_32 : decode cX1_mixPieces 32 = .ok (.aload_n 0, 1) := by decide +kernel
theorem dX1_mixPieces_33 : decode cX1_mixPieces 33 = .ok (.getfield 9, 3) := by decide +kernel
theorem dX1_mixPieces_36 : decode cX1_mixPieces 36 = .ok (.iload 5, 2) := by decide +kernel
theorem dX1_mixPieces_38 : decode cX1_mixPieces 38 = .ok (.iaload, 1) := by decide +kernel
theorem dX1_mixPieces_39 : decode cX1_mixPieces 39 = .ok (.if_icmp .ge 23, 3) := by decide +kernel
theorem dX1_mixPieces_42 : decode cX1_mixPieces 42 = .ok (.lload_n 3, 1) := by decide +kernel
theorem dX1_mixPieces_43 : decode cX1_mixPieces 43 = .ok (.aload_n 0, 1) := by decide +kernel
theorem dX1_mixPieces_44 : decode cX1_mixPieces 44 = .ok (.iload 5, 2) := by decide +kernel
theorem dX1_mixPieces_46 : decode cX1_mixPieces 46 = .ok (.iload 6, 2) := by decide +kernel
theorem dX1_mixPieces_48 : decode cX1_mixPieces 48 = .ok (.invokevirtual 40, 3) := by decide +kernel
theorem dX1_mixPieces_51 : decode cX1_mixPieces 51 = .ok (.i2l, 1) := by decide +kernel
theorem dX1_mixPieces_52 : decode cX1_mixPieces 52 = .ok (.invokestatic 77, 3) := by decide +kernel
theorem dX1_mixPieces_55 : decode cX1_mixPieces 55 = .ok (.lstore_n 3, 1) := by decide +kernel
theorem dX1_mixPieces_56 : decode cX1_mixPieces 56 = .ok (.iinc 6 1, 3) := by decide +kernel
theorem dX1_mixPieces_59 : decode cX1_mixPieces 59 = .ok (.goto (-29), 3) := by decide +kernel
theorem dX1_mixPieces_62 : decode cX1_mixPieces 62 = .ok (.iinc 5 1, 3) := by decide +kernel
theorem dX1_mixPieces_65 : decode cX1_mixPieces 65 = .ok (.goto (-60), 3) := by decide +kernel
theorem dX1_mixPieces_68 : decode cX1_mixPieces 68 = .ok (.lload_n 3, 1) := by decide +kernel
theorem dX1_mixPieces_69 : decode cX1_mixPieces 69 = .ok (.lreturn, 1) := by decide +kernel
set_option maxRecDepth 20000 in
theorem ggX1_mixSeams_X5_mix : GoodIn wsX1_mixSeams wsX5_mix := goodIn_r _ [5, 6] (by decide +kernel) (by decide +kernel)
set_option maxRecDepth 20000 in
theorem gX1_mixSeams_X5_mix_n77 : GoodIn wsX1_mixSeams (wsX5_mix) := ggX1_mixSeams_X5_mix
theorem dX1_mixSeams_0 : decode cX1_mixSeams 0 = .ok (.lload_n 1, 1) := by decide +kernel
theorem dX1_mixSeams_1 : decode cX1_mixSeams 1 = .ok (.lstore_n 3, 1) := by decide +kernel
theorem dX1_mixSeams_2 : decode cX1_mixSeams 2 = .ok (.iconst 0, 1) := by decide +kernel
theorem dX1_mixSeams_3 : decode cX1_mixSeams 3 = .ok (.istore 5, 2) := by decide +kernel
theorem dX1_mixSeams_5 : decode cX1_mixSeams 5 = .ok (.iload 5, 2) := by decide +kernel
theorem dX1_mixSeams_7 : decode cX1_mixSeams 7 = .ok (.aload_n 0, 1) := by decide +kernel
theorem dX1_mixSeams_8 : decode cX1_mixSeams 8 = .ok (.getfield 25, 3) := by decide +kernel
theorem dX1_mixSeams_11 : decode cX1_mixSeams 11 = .ok (.iconst 4, 1) := by decide +kernel
theorem dX1_mixSeams_12 : decode cX1_mixSeams 12 = .ok (.imul, 1) := by decide +kernel
theorem dX1_mixSeams_13 : decode cX1_mixSeams 13 = .ok (.if_icmp .ge 22, 3) := by decide +kernel
theorem dX1_mixSeams_16 : decode cX1_mixSeams 16 = .ok (.lload_n 3, 1) := by decide +kernel
theorem dX1_mixSeams_17 : decode cX1_mixSeams 17 = .ok (.aload_n 0, 1) := by decide +kernel
theorem dX1_mixSeams_18 : decode cX1_mixSeams 18 = .ok (.getfield 18, 3) := by decide +kernel
theorem dX1_mixSeams_21 : decode cX1_mixSeams 21 = .ok (.iload 5, 2) := by decide +kernel
theorem dX1_mixSeams_23 : decode cX1_mixSeams 23 = .ok (.iaload, 1) := by decide +kernel
theorem dX1_mixSeams_24 : decode cX1_mixSeams 24 = .ok (.i2l, 1) := by decide +kernel
theorem dX1_mixSeams_25 : decode cX1_mixSeams 25 = .ok (.invokestatic 77, 3) := by decide +kernel
theorem dX1_mixSeams_28 : decode cX1_mixSeams 28 = .ok (.lstore_n 3, 1) := by decide +kernel
theorem dX1_mixSeams_29 : decode cX1_mixSeams 29 = .ok (.iinc 5 1, 3) := by decide +kernel
theorem dX1_mixSeams_32 : decode cX1_mixSeams 32 = .ok (.goto (-27), 3) := by decide +kernel
theorem dX1_mixSeams_35 : decode cX1_mixSeams 35 = .ok (.lload_n 3, 1) := by decide +kernel
theorem dX1_mixSeams_36 : decode cX1_mixSeams 36 = .ok (.lreturn, 1) := by decide +kernel
theorem dX1_corner_0 : decode cX1_corner 0 = .ok (.aload_n 0, 1) := by decide +kernel
theorem dX1_corner_1 : decode cX1_corner 1 = .ok (.getfield 15, 3) := by decide +kernel
theorem dX1_corner_4 : decode cX1_corner 4 = .ok (.iload_n 1, 1) := by decide +kernel
theorem dX1_corner_5 : decode cX1_corner 5 = .ok (.bipush 8, 2) := by decide +kernel
theorem dX1_corner_7 : decode cX1_corner 7 = .ok (.imul, 1) := by decide +kernel
theorem dX1_corner_8 : decode cX1_corner 8 = .ok (.iload_n 2, 1) := by decide +kernel
theorem dX1_corner_9 : decode cX1_corner 9 = .ok (.iadd, 1) := by decide +kernel
theorem dX1_corner_10 : decode cX1_corner 10 = .ok (.iaload, 1) := by decide +kernel
theorem dX1_corner_11 : decode cX1_corner 11 = .ok (.ireturn, 1) := by decide +kernel
set_option maxRecDepth 20000 in
theorem ggX1_cornerAfter_X1_corner : GoodIn wsX1_cornerAfter wsX1_corner := goodIn_r _ [6, 7, 8, 9, 10, 11, 12, 13] (by decide +kernel) (by decide +kernel)
set_option maxRecDepth 20000 in
theorem gX1_cornerAfter_X1_corner : GoodIn wsX1_cornerAfter (wsV RX1 40 RX1 yX1_corner wsX1_corner) := goodIn_app (goodIn_of _ (by decide +kernel)) ggX1_cornerAfter_X1_corner
theorem dX1_cornerAfter_0 : decode cX1_cornerAfter 0 = .ok (.aload_n 0, 1) := by decide +kernel
theorem dX1_cornerAfter_1 : decode cX1_cornerAfter 1 = .ok (.iload_n 1, 1) := by decide +kernel
theorem dX1_cornerAfter_2 : decode cX1_cornerAfter 2 = .ok (.iload_n 2, 1) := by decide +kernel
theorem dX1_cornerAfter_3 : decode cX1_cornerAfter 3 = .ok (.iconst 1, 1) := by decide +kernel
theorem dX1_cornerAfter_4 : decode cX1_cornerAfter 4 = .ok (.iadd, 1) := by decide +kernel
theorem dX1_cornerAfter_5 : decode cX1_cornerAfter 5 = .ok (.aload_n 0, 1) := by decide +kernel
theorem dX1_cornerAfter_6 : decode cX1_cornerAfter 6 = .ok (.getfield 9, 3) := by decide +kernel
theorem dX1_cornerAfter_9 : decode cX1_cornerAfter 9 = .ok (.iload_n 1, 1) := by decide +kernel
theorem dX1_cornerAfter_10 : decode cX1_cornerAfter 10 = .ok (.iaload, 1) := by decide +kernel
theorem dX1_cornerAfter_11 : decode cX1_cornerAfter 11 = .ok (.if_icmp .ge 9, 3) := by decide +kernel
theorem dX1_cornerAfter_14 : decode cX1_cornerAfter 14 = .ok (.iload_n 2, 1) := by decide +kernel
theorem dX1_cornerAfter_15 : decode cX1_cornerAfter 15 = .ok (.iconst 1, 1) := by decide +kernel
theorem dX1_cornerAfter_16 : decode cX1_cornerAfter 16 = .ok (.iadd, 1) := by decide +kernel
theorem dX1_cornerAfter_17 : decode cX1_cornerAfter 17 = .ok (.goto 4, 3) := by decide +kernel
theorem dX1_cornerAfter_20 : decode cX1_cornerAfter 20 = .ok (.iconst 0, 1) := by decide +kernel
theorem dX1_cornerAfter_21 : decode cX1_cornerAfter 21 = .ok (.invokevirtual 40, 3) := by decide +kernel
theorem dX1_cornerAfter_24 : decode cX1_cornerAfter 24 = .ok (.ireturn, 1) := by decide +kernel
set_option maxRecDepth 20000 in
theorem ggX1_room_X1_corner : GoodIn wsX1_room wsX1_corner := goodIn_r _ [13, 14, 15, 16, 17, 18, 19, 20] (by decide +kernel) (by decide +kernel)
set_option maxRecDepth 20000 in
theorem gX1_room_X1_corner : GoodIn wsX1_room (wsV RX1 40 RX1 yX1_corner wsX1_corner) := goodIn_app (goodIn_of _ (by decide +kernel)) ggX1_room_X1_corner
theorem dX1_room_0 : decode cX1_room 0 = .ok (.aload_n 2, 1) := by decide +kernel
theorem dX1_room_1 : decode cX1_room 1 = .ok (.aload_n 0, 1) := by decide +kernel
theorem dX1_room_2 : decode cX1_room 2 = .ok (.iload_n 1, 1) := by decide +kernel
theorem dX1_room_3 : decode cX1_room 3 = .ok (.iconst 0, 1) := by decide +kernel
theorem dX1_room_4 : decode cX1_room 4 = .ok (.invokevirtual 40, 3) := by decide +kernel
theorem dX1_room_7 : decode cX1_room 7 = .ok (.iaload, 1) := by decide +kernel
theorem dX1_room_8 : decode cX1_room 8 = .ok (.istore_n 3, 1) := by decide +kernel
theorem dX1_room_9 : decode cX1_room 9 = .ok (.iload_n 3, 1) := by decide +kernel
theorem dX1_room_10 : decode cX1_room 10 = .ok (.istore 4, 2) := by decide +kernel
theorem dX1_room_12 : decode cX1_room 12 = .ok (.iconst 1, 1) := by decide +kernel
theorem dX1_room_13 : decode cX1_room 13 = .ok (.istore 5, 2) := by decide +kernel
theorem dX1_room_15 : decode cX1_room 15 = .ok (.iload 5, 2) := by decide +kernel
theorem dX1_room_17 : decode cX1_room 17 = .ok (.aload_n 0, 1) := by decide +kernel
theorem dX1_room_18 : decode cX1_room 18 = .ok (.getfield 9, 3) := by decide +kernel
theorem dX1_room_21 : decode cX1_room 21 = .ok (.iload_n 1, 1) := by decide +kernel
theorem dX1_room_22 : decode cX1_room 22 = .ok (.iaload, 1) := by decide +kernel
theorem dX1_room_23 : decode cX1_room 23 = .ok (.if_icmp .ge 39, 3) := by decide +kernel
theorem dX1_room_26 : decode cX1_room 26 = .ok (.iload_n 3, 1) := by decide +kernel
theorem dX1_room_27 : decode cX1_room 27 = .ok (.aload_n 2, 1) := by decide +kernel
theorem dX1_room_28 : decode cX1_room 28 = .ok (.aload_n 0, 1) := by decide +kernel
theorem dX1_room_29 : decode cX1_room 29 = .ok (.iload_n 1, 1) := by decide +kernel
theorem dX1_room_30 : decode cX1_room 30 = .ok (.iload 5, 2) := by decide +kernel
theorem dX1_room_32 : decode cX1_room 32 = .ok (.invokevirtual 40, 3) := by decide +kernel
theorem dX1_room_35 : decode cX1_room 35 = .ok (.iaload, 1) := by decide +kernel
theorem dX1_room_36 : decode cX1_room 36 = .ok (.invokestatic 81, 3) := by decide +kernel
theorem dX1_room_39 : decode cX1_room 39 = .ok (.istore_n 3, 1) := by decide +kernel
theorem dX1_room_40 : decode cX1_room 40 = .ok (.iload 4, 2) := by decide +kernel
theorem dX1_room_42 : decode cX1_room 42 = .ok (.aload_n 2, 1) := by decide +kernel
theorem dX1_room_43 : decode cX1_room 43 = .ok (.aload_n 0, 1) := by decide +kernel
theorem dX1_room_44 : decode cX1_room 44 = .ok (.iload_n 1, 1) := by decide +kernel
theorem dX1_room_45 : decode cX1_room 45 = .ok (.iload 5, 2) := by decide +kernel
theorem dX1_room_47 : decode cX1_room 47 = .ok (.invokevirtual 40, 3) := by decide +kernel
theorem dX1_room_50 : decode cX1_room 50 = .ok (.iaload, 1) := by decide +kernel
theorem dX1_room_51 : decode cX1_room 51 = .ok (.invokestatic 84, 3) := by decide +kernel
theorem dX1_room_54 : decode cX1_room 54 = .ok (.istore 4, 2) := by decide +kernel
theorem dX1_room_56 : decode cX1_room 56 = .ok (.iinc 5 1, 3) := by decide +kernel
theorem dX1_room_59 : decode cX1_room 59 = .ok (.goto (-44), 3) := by decide +kernel
theorem dX1_room_62 : decode cX1_room 62 = .ok (.iload 4, 2) := by decide +kernel
theorem dX1_room_64 : decode cX1_room 64 = .ok (.iload_n 3, 1) := by decide +kernel
theorem dX1_room_65 : decode cX1_room 65 = .ok (.isub, 1) := by decide +kernel
theorem dX1_room_66 : decode cX1_room 66 = .ok (.iconst 1, 1) := by decide +kernel
theorem dX1_room_67 : decode cX1_room 67 = .ok (.invokestatic 84, 3) := by decide +kernel
theorem dX1_room_70 : decode cX1_room 70 = .ok (.ireturn, 1) := by decide +kernel
theorem dX2_init_0 : decode cX2_init 0 = .ok (.aload_n 0, 1) := by decide +kernel
theorem dX2_init_1 : decode cX2_init 1 = .ok (.invokespecial 3, 3) := by decide +kernel
theorem dX2_init_4 : decode cX2_init 4 = .ok (.aload_n 0, 1) := by decide +kernel
theorem dX2_init_5 : decode cX2_init 5 = .ok (.bipush 7, 2) := by decide +kernel
theorem dX2_init_7 : decode cX2_init 7 = .ok (.newarray .int, 2) := by decide +kernel
theorem dX2_init_9 : decode cX2_init 9 = .ok (.putfield 9, 3) := by decide +kernel
theorem dX2_init_12 : decode cX2_init 12 = .ok (.aload_n 0, 1) := by decide +kernel
theorem dX2_init_13 : decode cX2_init 13 = .ok (.bipush 7, 2) := by decide +kernel
theorem dX2_init_15 : decode cX2_init 15 = .ok (.newarray .int, 2) := by decide +kernel
theorem dX2_init_17 : decode cX2_init 17 = .ok (.putfield 15, 3) := by decide +kernel
theorem dX2_init_20 : decode cX2_init 20 = .ok (.aload_n 0, 1) := by decide +kernel
theorem dX2_init_21 : decode cX2_init 21 = .ok (.bipush 7, 2) := by decide +kernel
theorem dX2_init_23 : decode cX2_init 23 = .ok (.newarray .boolean, 2) := by decide +kernel
theorem dX2_init_25 : decode cX2_init 25 = .ok (.putfield 18, 3) := by decide +kernel
theorem dX2_init_28 : decode cX2_init 28 = .ok (.aload_n 0, 1) := by decide +kernel
theorem dX2_init_29 : decode cX2_init 29 = .ok (.bipush 7, 2) := by decide +kernel
theorem dX2_init_31 : decode cX2_init 31 = .ok (.newarray .int, 2) := by decide +kernel
theorem dX2_init_33 : decode cX2_init 33 = .ok (.putfield 22, 3) := by decide +kernel
theorem dX2_init_36 : decode cX2_init 36 = .ok (.aload_n 0, 1) := by decide +kernel
theorem dX2_init_37 : decode cX2_init 37 = .ok (.bipush 7, 2) := by decide +kernel
theorem dX2_init_39 : decode cX2_init 39 = .ok (.newarray .int, 2) := by decide +kernel
theorem dX2_init_41 : decode cX2_init 41 = .ok (.putfield 25, 3) := by decide +kernel
theorem dX2_init_44 : decode cX2_init 44 = .ok (.aload_n 0, 1) := by decide +kernel
theorem dX2_init_45 : decode cX2_init 45 = .ok (.iconst 0, 1) := by decide +kernel
theorem dX2_init_46 : decode cX2_init 46 = .ok (.putfield 28, 3) := by decide +kernel
theorem dX2_init_49 : decode cX2_init 49 = .ok (.aload_n 0, 1) := by decide +kernel
theorem dX2_init_50 : decode cX2_init 50 = .ok (.iconst 0, 1) := by decide +kernel
theorem dX2_init_51 : decode cX2_init 51 = .ok (.putfield 32, 3) := by decide +kernel
theorem dX2_init_54 : decode cX2_init 54 = .ok (.aload_n 0, 1) := by decide +kernel
theorem dX2_init_55 : decode cX2_init 55 = .ok (.sipush 1500, 3) := by decide +kernel
theorem dX2_init_58 : decode cX2_init 58 = .ok (.putfield 35, 3) := by decide +kernel
theorem dX2_init_61 : decode cX2_init 61 = .ok (.aload_n 0, 1) := by decide +kernel
theorem dX2_init_62 : decode cX2_init 62 = .ok (.bipush 50, 2) := by decide +kernel
theorem dX2_init_64 : decode cX2_init 64 = .ok (.putfield 38, 3) := by decide +kernel
theorem dX2_init_67 : decode cX2_init 67 = .ok (.return_, 1) := by decide +kernel
theorem dX2_spread_0 : decode cX2_spread 0 = .ok (.aload_n 0, 1) := by decide +kernel
theorem dX2_spread_1 : decode cX2_spread 1 = .ok (.iload_n 1, 1) := by decide +kernel
theorem dX2_spread_2 : decode cX2_spread 2 = .ok (.putfield 35, 3) := by decide +kernel
theorem dX2_spread_5 : decode cX2_spread 5 = .ok (.aload_n 0, 1) := by decide +kernel
theorem dX2_spread_6 : decode cX2_spread 6 = .ok (.iload_n 2, 1) := by decide +kernel
theorem dX2_spread_7 : decode cX2_spread 7 = .ok (.putfield 38, 3) := by decide +kernel
theorem dX2_spread_10 : decode cX2_spread 10 = .ok (.return_, 1) := by decide +kernel
set_option maxRecDepth 20000 in
theorem ggX2_layLeast_X1_roomRight : GoodIn wsX2_layLeast wsX1_roomRight := goodIn_r _ [12, 13, 14, 15, 16, 11, 17, 18, 19, 20, 21, 22, 23, 24, 25, 26, 27, 28, 29, 30, 55, 56, 57, 58, 59, 60, 70, 71, 72, 73, 74, 75, 76, 77, 78, 79] (by decide +kernel) (by decide +kernel)
set_option maxRecDepth 20000 in
theorem gX2_layLeast_X1_roomRight : GoodIn wsX2_layLeast (wsV RX2 44 RX1 yX1_roomRight wsX1_roomRight) := goodIn_app (goodIn_of _ (by decide +kernel)) ggX2_layLeast_X1_roomRight
set_option maxRecDepth 20000 in
theorem ggX2_layLeast_X1_roomDown : GoodIn wsX2_layLeast wsX1_roomDown := goodIn_r _ [34, 13, 14, 15, 16, 11, 17, 18, 19, 20, 21, 22, 23, 24, 25, 26, 27, 28, 29, 30, 55, 56, 57, 58, 59, 60, 70, 71, 72, 73, 74, 75, 76, 77, 78, 79] (by decide +kernel) (by decide +kernel)
set_option maxRecDepth 20000 in
theorem gX2_layLeast_X1_roomDown : GoodIn wsX2_layLeast (wsV RX2 48 RX1 yX1_roomDown wsX1_roomDown) := goodIn_app (goodIn_of _ (by decide +kernel)) ggX2_layLeast_X1_roomDown
set_option maxRecDepth 20000 in
theorem ggX2_layLeast_X2_layNext : GoodIn wsX2_layLeast wsX2_layNext := goodIn_r _ [39, 7, 1, 40, 41, 42, 43, 44, 45, 4, 2, 5, 3, 46, 24, 21, 25, 35, 36, 37, 38, 47, 48, 49, 50, 51, 52, 53, 54, 61, 62, 63, 64, 65, 66, 67, 68, 69] (by decide +kernel) (by decide +kernel)
set_option maxRecDepth 20000 in
theorem gX2_layLeast_X2_layNext : GoodIn wsX2_layLeast (wsV RX2 52 RX2 yX2_layNext wsX2_layNext) := goodIn_app (goodIn_of _ (by decide +kernel)) ggX2_layLeast_X2_layNext
theorem dX2_layLeast_0 : decode cX2_layLeast 0 = .ok (.aload_n 0, 1) := by decide +kernel
theorem dX2_layLeast_1 : decode cX2_layLeast 1 = .ok (.aload_n 1, 1) := by decide +kernel
theorem dX2_layLeast_2 : decode cX2_layLeast 2 = .ok (.getfield 41, 3) := by decide +kernel
theorem dX2_layLeast_5 : decode cX2_layLeast 5 = .ok (.putfield 28, 3) := by decide +kernel
theorem dX2_layLeast_8 : decode cX2_layLeast 8 = .ok (.iconst 0, 1) := by decide +kernel
theorem dX2_layLeast_9 : decode cX2_layLeast 9 = .ok (.istore_n 2, 1) := by decide +kernel
theorem dX2_layLeast_10 : decode cX2_layLeast 10 = .ok (.iload_n 2, 1) := by decide +kernel
theorem dX2_layLeast_11 : decode cX2_layLeast 11 = .ok (.aload_n 0, 1) := by decide +kernel
theorem dX2_layLeast_12 : decode cX2_layLeast 12 = .ok (.getfield 28, 3) := by decide +kernel
theorem dX2_layLeast_15 : decode cX2_layLeast 15 = .ok (.if_icmp .ge 53, 3) := by decide +kernel
theorem dX2_layLeast_18 : decode cX2_layLeast 18 = .ok (.aload_n 0, 1) := by decide +kernel
theorem dX2_layLeast_19 : decode cX2_layLeast 19 = .ok (.getfield 9, 3) := by decide +kernel
theorem dX2_layLeast_22 : decode cX2_layLeast 22 = .ok (.iload_n 2, 1) := by decide +kernel
theorem dX2_layLeast_23 : decode cX2_layLeast 23 = .ok (.aload_n 1, 1) := by decide +kernel
theorem dX2_layLeast_24 : decode cX2_layLeast 24 = .ok (.iload_n 2, 1) := by decide +kernel
theorem dX2_layLeast_25 : decode cX2_layLeast 25 = .ok (.invokevirtual 44, 3) := by decide +kernel
theorem dX2_layLeast_28 : decode cX2_layLeast 28 = .ok (.iastore, 1) := by decide +kernel
theorem dX2_layLeast_29 : decode cX2_layLeast 29 = .ok (.aload_n 0, 1) := by decide +kernel
theorem dX2_layLeast_30 : decode cX2_layLeast 30 = .ok (.getfield 15, 3) := by decide +kernel
theorem dX2_layLeast_33 : decode cX2_layLeast 33 = .ok (.iload_n 2, 1) := by decide +kernel
theorem dX2_layLeast_34 : decode cX2_layLeast 34 = .ok (.aload_n 1, 1) := by decide +kernel
theorem dX2_layLeast_35 : decode cX2_layLeast 35 = .ok (.iload_n 2, 1) := by decide +kernel
theorem dX2_layLeast_36 : decode cX2_layLeast 36 = .ok (.invokevirtual 48, 3) := by decide +kernel
theorem dX2_layLeast_39 : decode cX2_layLeast 39 = .ok (.iastore, 1) := by decide +kernel
theorem dX2_layLeast_40 : decode cX2_layLeast 40 = .ok (.aload_n 0, 1) := by decide +kernel
theorem dX2_layLeast_41 : decode cX2_layLeast 41 = .ok (.getfield 18, 3) := by decide +kernel
theorem dX2_layLeast_44 : decode cX2_layLeast 44 = .ok (.iload_n 2, 1) := by decide +kernel
theorem dX2_layLeast_45 : decode cX2_layLeast 45 = .ok (.iconst 0, 1) := by decide +kernel
theorem dX2_layLeast_46 : decode cX2_layLeast 46 = .ok (.bastore, 1) := by decide +kernel
theorem dX2_layLeast_47 : decode cX2_layLeast 47 = .ok (.aload_n 0, 1) := by decide +kernel
theorem dX2_layLeast_48 : decode cX2_layLeast 48 = .ok (.getfield 9, 3) := by decide +kernel
theorem dX2_layLeast_51 : decode cX2_layLeast 51 = .ok (.iload_n 2, 1) := by decide +kernel
theorem dX2_layLeast_52 : decode cX2_layLeast 52 = .ok (.iaload, 1) := by decide +kernel
theorem dX2_layLeast_53 : decode cX2_layLeast 53 = .ok (.aload_n 0, 1) := by decide +kernel
theorem dX2_layLeast_54 : decode cX2_layLeast 54 = .ok (.getfield 35, 3) := by decide +kernel
theorem dX2_layLeast_57 : decode cX2_layLeast 57 = .ok (.if_icmp .le 5, 3) := by decide +kernel
theorem dX2_layLeast_60 : decode cX2_layLeast 60 = .ok (.iconst (-1), 1) := by decide +kernel
theorem dX2_layLeast_61 : decode cX2_layLeast 61 = .ok (.ireturn, 1) := by decide +kernel
theorem dX2_layLeast_62 : decode cX2_layLeast 62 = .ok (.iinc 2 1, 3) := by decide +kernel
theorem dX2_layLeast_65 : decode cX2_layLeast 65 = .ok (.goto (-55), 3) := by decide +kernel
theorem dX2_layLeast_68 : decode cX2_layLeast 68 = .ok (.aload_n 0, 1) := by decide +kernel
theorem dX2_layLeast_69 : decode cX2_layLeast 69 = .ok (.ldc 51, 2) := by decide +kernel
theorem dX2_layLeast_71 : decode cX2_layLeast 71 = .ok (.putfield 32, 3) := by decide +kernel
theorem dX2_layLeast_74 : decode cX2_layLeast 74 = .ok (.aload_n 0, 1) := by decide +kernel
theorem dX2_layLeast_75 : decode cX2_layLeast 75 = .ok (.iconst 0, 1) := by decide +kernel
theorem dX2_layLeast_76 : decode cX2_layLeast 76 = .ok (.iconst 0, 1) := by decide +kernel
theorem dX2_layLeast_77 : decode cX2_layLeast 77 = .ok (.iconst 0, 1) := by decide +kernel
theorem dX2_layLeast_78 : decode cX2_layLeast 78 = .ok (.iconst 0, 1) := by decide +kernel
theorem dX2_layLeast_79 : decode cX2_layLeast 79 = .ok (.invokevirtual 52, 3) := by decide +kernel
theorem dX2_layLeast_82 : decode cX2_layLeast 82 = .ok (.aload_n 0, 1) := by decide +kernel
theorem dX2_layLeast_83 : decode cX2_layLeast 83 = .ok (.getfield 32, 3) := by decide +kernel
theorem dX2_layLeast_86 : decode cX2_layLeast 86 = .ok (.ireturn, 1) := by decide +kernel
set_option maxRecDepth 20000 in
theorem ggX2_layNext_X2_layNext : GoodIn wsX2_layNext wsX2_layNext := goodIn_r _ [0, 1, 2, 3, 4, 5, 6, 7, 8, 9, 10, 11, 12, 13, 14, 15, 16, 17, 18, 19, 20, 21, 22, 23, 24, 25, 26, 27, 28, 29, 30, 31, 32, 33, 34, 35, 36, 37] (by decide +kernel) (by decide +kernel)
set_option maxRecDepth 20000 in
theorem gX2_layNext_X2_layNext : GoodIn wsX2_layNext (wsV RX2 52 RX2 yX2_layNext wsX2_layNext) := goodIn_app (goodIn_of _ (by decide +kernel)) ggX2_layNext_X2_layNext
set_option maxRecDepth 20000 in
theorem ggX2_layNext_X2_nextCheck : GoodIn wsX2_layNext wsX2_nextCheck := goodIn_r _ [24, 25, 26, 27, 28, 29, 30, 31, 32, 33, 34, 35, 36, 37] (by decide +kernel) (by decide +kernel)
set_option maxRecDepth 20000 in
theorem gX2_layNext_X2_nextCheck : GoodIn wsX2_layNext (wsV RX2 68 RX2 yX2_nextCheck wsX2_nextCheck) := goodIn_app (goodIn_of _ (by decide +kernel)) ggX2_layNext_X2_nextCheck
theorem dX2_layNext_0 : decode cX2_layNext 0 = .ok (.iload_n 2, 1) := by decide +kernel
theorem dX2_layNext_1 : decode cX2_layNext 1 = .ok (.iload 4, 2) := by decide +kernel
theorem dX2_layNext_3 : decode cX2_layNext 3 = .ok (.iadd, 1) := by decide +kernel
theorem dX2_layNext_4 : decode cX2_layNext 4 = .ok (.aload_n 0, 1) := by decide +kernel
theorem dX2_layNext_5 : decode cX2_layNext 5 = .ok (.getfield 32, 3) := by decide +kernel
theorem dX2_layNext_8 : decode cX2_layNext 8 = .ok (.if_icmp .lt 4, 3) := by decide +kernel
theorem dX2_layNext_11 : decode cX2_layNext 11 = .ok (.return_, 1) := by decide +kernel
theorem dX2_layNext_12 : decode cX2_layNext 12 = .ok (.iload_n 1, 1) := by decide +kernel
theorem dX2_layNext_13 : decode cX2_layNext 13 = .ok (.aload_n 0, 1) := by decide +kernel
theorem dX2_layNext_14 : decode cX2_layNext 14 = .ok (.getfield 28, 3) := by decide +kernel
theorem dX2_layNext_17 : decode cX2_layNext 17 = .ok (.if_icmp .lt 29, 3) := by decide +kernel
theorem dX2_layNext_20 : decode cX2_layNext 20 = .ok (.aload_n 0, 1) := by decide +kernel
theorem dX2_layNext_21 : decode cX2_layNext 21 = .ok (.iload_n 2, 1) := by decide +kernel
theorem dX2_layNext_22 : decode cX2_layNext 22 = .ok (.iload 4, 2) := by decide +kernel
theorem dX2_layNext_24 : decode cX2_layNext 24 = .ok (.iadd, 1) := by decide +kernel
theorem dX2_layNext_25 : decode cX2_layNext 25 = .ok (.putfield 32, 3) := by decide +kernel
theorem dX2_layNext_28 : decode cX2_layNext 28 = .ok (.aload_n 0, 1) := by decide +kernel
theorem dX2_layNext_29 : decode cX2_layNext 29 = .ok (.getfield 22, 3) := by decide +kernel
theorem dX2_layNext_32 : decode cX2_layNext 32 = .ok (.iconst 0, 1) := by decide +kernel
theorem dX2_layNext_33 : decode cX2_layNext 33 = .ok (.aload_n 0, 1) := by decide +kernel
theorem dX2_layNext_34 : decode cX2_layNext 34 = .ok (.getfield 25, 3) := by decide +kernel
theorem dX2_layNext_37 : decode cX2_layNext 37 = .ok (.iconst 0, 1) := by decide +kernel
theorem dX2_layNext_38 : decode cX2_layNext 38 = .ok (.aload_n 0, 1) := by decide +kernel
theorem dX2_layNext_39 : decode cX2_layNext 39 = .ok (.getfield 28, 3) := by decide +kernel
theorem dX2_layNext_42 : decode cX2_layNext 42 = .ok (.invokestatic 56, 3) := by decide +kernel
theorem dX2_layNext_45 : decode cX2_layNext 45 = .ok (.return_, 1) := by decide +kernel
theorem dX2_layNext_46 : decode cX2_layNext 46 = .ok (.iconst 0, 1) := by decide +kernel
theorem dX2_layNext_47 : decode cX2_layNext 47 = .ok (.istore 5, 2) := by decide +kernel
theorem dX2_layNext_49 : decode cX2_layNext 49 = .ok (.iload 5, 2) := by decide +kernel
theorem dX2_layNext_51 : decode cX2_layNext 51 = .ok (.aload_n 0, 1) := by decide +kernel
theorem dX2_layNext_52 : decode cX2_layNext 52 = .ok (.getfield 28, 3) := by decide +kernel
theorem dX2_layNext_55 : decode cX2_layNext 55 = .ok (.if_icmp .ge 123, 3) := by decide +kernel
theorem dX2_layNext_58 : decode cX2_layNext 58 = .ok (.aload_n 0, 1) := by decide +kernel
theorem dX2_layNext_59 : decode cX2_layNext 59 = .ok (.getfield 18, 3) := by decide +kernel
theorem dX2_layNext_62 : decode cX2_layNext 62 = .ok (.iload 5, 2) := by decide +kernel
theorem dX2_layNext_64 : decode cX2_layNext 64 = .ok (.baload, 1) := by decide +kernel
theorem dX2_layNext_65 : decode cX2_layNext 65 = .ok (.ifCond .eq 6, 3) := by decide +kernel
theorem dX2_layNext_68 : decode cX2_layNext 68 = .ok (.goto 104, 3) := by decide +kernel
theorem dX2_layNext_71 : decode cX2_layNext 71 = .ok (.aload_n 0, 1) := by decide +kernel
theorem dX2_layNext_72 : decode cX2_layNext 72 = .ok (.getfield 18, 3) := by decide +kernel
theorem dX2_layNext_75 : decode cX2_layNext 75 = .ok (.iload 5, 2) := by decide +kernel
theorem dX2_layNext_77 : decode cX2_layNext 77 = .ok (.iconst 1, 1) := by decide +kernel
theorem dX2_layNext_78 : decode cX2_layNext 78 = .ok (.bastore, 1) := by decide +kernel
theorem dX2_layNext_79 : decode cX2_layNext 79 = .ok (.aload_n 0, 1) := by decide +kernel
theorem dX2_layNext_80 : decode cX2_layNext 80 = .ok (.getfield 22, 3) := by decide +kernel
theorem dX2_layNext_83 : decode cX2_layNext 83 = .ok (.iload_n 1, 1) := by decide +kernel
theorem dX2_layNext_84 : decode cX2_layNext 84 = .ok (.iload 5, 2) := by decide +kernel
theorem dX2_layNext_86 : decode cX2_layNext 86 = .ok (.iastore, 1) := by decide +kernel
theorem dX2_layNext_87 : decode cX2_layNext 87 = .ok (.iload_n 3, 1) := by decide +kernel
theorem dX2_layNext_88 : decode cX2_layNext 88 = .ok (.aload_n 0, 1) := by decide +kernel
theorem dX2_layNext_89 : decode cX2_layNext 89 = .ok (.getfield 9, 3) := by decide +kernel
theorem dX2_layNext_92 : decode cX2_layNext 92 = .ok (.iload 5, 2) := by decide +kernel
theorem dX2_layNext_94 : decode cX2_layNext 94 = .ok (.iaload, 1) := by decide +kernel
theorem dX2_layNext_95 : decode cX2_layNext 95 = .ok (.iadd, 1) := by decide +kernel
theorem dX2_layNext_96 : decode cX2_layNext 96 = .ok (.aload_n 0, 1) := by decide +kernel
theorem dX2_layNext_97 : decode cX2_layNext 97 = .ok (.getfield 35, 3) := by decide +kernel
theorem dX2_layNext_100 : decode cX2_layNext 100 = .ok (.if_icmp .gt 35, 3) := by decide +kernel
theorem dX2_layNext_103 : decode cX2_layNext 103 = .ok (.aload_n 0, 1) := by decide +kernel
theorem dX2_layNext_104 : decode cX2_layNext 104 = .ok (.iload_n 1, 1) := by decide +kernel
theorem dX2_layNext_105 : decode cX2_layNext 105 = .ok (.iconst 1, 1) := by decide +kernel
theorem dX2_layNext_106 : decode cX2_layNext 106 = .ok (.iadd, 1) := by decide +kernel
theorem dX2_layNext_107 : decode cX2_layNext 107 = .ok (.iload_n 2, 1) := by decide +kernel
theorem dX2_layNext_108 : decode cX2_layNext 108 = .ok (.iload_n 3, 1) := by decide +kernel
theorem dX2_layNext_109 : decode cX2_layNext 109 = .ok (.aload_n 0, 1) := by decide +kernel
theorem dX2_layNext_110 : decode cX2_layNext 110 = .ok (.getfield 9, 3) := by decide +kernel
theorem dX2_layNext_113 : decode cX2_layNext 113 = .ok (.iload 5, 2) := by decide +kernel
theorem dX2_layNext_115 : decode cX2_layNext 115 = .ok (.iaload, 1) := by decide +kernel
theorem dX2_layNext_116 : decode cX2_layNext 116 = .ok (.iadd, 1) := by decide +kernel
theorem dX2_layNext_117 : decode cX2_layNext 117 = .ok (.iload 4, 2) := by decide +kernel
theorem dX2_layNext_119 : decode cX2_layNext 119 = .ok (.aload_n 0, 1) := by decide +kernel
theorem dX2_layNext_120 : decode cX2_layNext 120 = .ok (.getfield 15, 3) := by decide +kernel
theorem dX2_layNext_123 : decode cX2_layNext 123 = .ok (.iload 5, 2) := by decide +kernel
theorem dX2_layNext_125 : decode cX2_layNext 125 = .ok (.iaload, 1) := by decide +kernel
theorem dX2_layNext_126 : decode cX2_layNext 126 = .ok (.invokestatic 62, 3) := by decide +kernel
theorem dX2_layNext_129 : decode cX2_layNext 129 = .ok (.invokevirtual 52, 3) := by decide +kernel
theorem dX2_layNext_132 : decode cX2_layNext 132 = .ok (.goto 32, 3) := by decide +kernel
theorem dX2_layNext_135 : decode cX2_layNext 135 = .ok (.aload_n 0, 1) := by decide +kernel
theorem dX2_layNext_136 : decode cX2_layNext 136 = .ok (.iload_n 1, 1) := by decide +kernel
theorem dX2_layNext_137 : decode cX2_layNext 137 = .ok (.iconst 1, 1) := by decide +kernel
theorem dX2_layNext_138 : decode cX2_layNext 138 = .ok (.iadd, 1) := by decide +kernel
theorem dX2_layNext_139 : decode cX2_layNext 139 = .ok (.aload_n 0, 1) := by decide +kernel
theorem dX2_layNext_140 : decode cX2_layNext 140 = .ok (.iload_n 2, 1) := by decide +kernel
theorem dX2_layNext_141 : decode cX2_layNext 141 = .ok (.iload 4, 2) := by decide +kernel
theorem dX2_layNext_143 : decode cX2_layNext 143 = .ok (.iadd, 1) := by decide +kernel
theorem dX2_layNext_144 : decode cX2_layNext 144 = .ok (.invokevirtual 68, 3) := by decide +kernel
theorem dX2_layNext_147 : decode cX2_layNext 147 = .ok (.aload_n 0, 1) := by decide +kernel
theorem dX2_layNext_148 : decode cX2_layNext 148 = .ok (.getfield 9, 3) := by decide +kernel
theorem dX2_layNext_151 : decode cX2_layNext 151 = .ok (.iload 5, 2) := by decide +kernel
theorem dX2_layNext_153 : decode cX2_layNext 153 = .ok (.iaload, 1) := by decide +kernel
theorem dX2_layNext_154 : decode cX2_layNext 154 = .ok (.aload_n 0, 1) := by decide +kernel
theorem dX2_layNext_155 : decode cX2_layNext 155 = .ok (.getfield 15, 3) := by decide +kernel
theorem dX2_layNext_158 : decode cX2_layNext 158 = .ok (.iload 5, 2) := by decide +kernel
theorem dX2_layNext_160 : decode cX2_layNext 160 = .ok (.iaload, 1) := by decide +kernel
theorem dX2_layNext_161 : decode cX2_layNext 161 = .ok (.invokevirtual 52, 3) := by decide +kernel
theorem dX2_layNext_164 : decode cX2_layNext 164 = .ok (.aload_n 0, 1) := by decide +kernel
theorem dX2_layNext_165 : decode cX2_layNext 165 = .ok (.getfield 18, 3) := by decide +kernel
theorem dX2_layNext_168 : decode cX2_layNext 168 = .ok (.iload 5, 2) := by decide +kernel
theorem dX2_layNext_170 : decode cX2_layNext 170 = .ok (.iconst 0, 1) := by decide +kernel
theorem dX2_layNext_171 : decode cX2_layNext 171 = .ok (.bastore, 1) := by decide +kernel
theorem dX2_layNext_172 : decode cX2_layNext 172 = .ok (.iinc 5 1, 3) := by decide +kernel
theorem dX2_layNext_175 : decode cX2_layNext 175 = .ok (.goto (-126), 3) := by decide +kernel
theorem dX2_layNext_178 : decode cX2_layNext 178 = .ok (.return_, 1) := by decide +kernel
set_option maxRecDepth 20000 in
theorem ggX2_nextCheck_X5_divide : GoodIn wsX2_nextCheck wsX5_divide := goodIn_r _ [4] (by decide +kernel) (by decide +kernel)
set_option maxRecDepth 20000 in
theorem gX2_nextCheck_X5_divide_n71 : GoodIn wsX2_nextCheck (wsX5_divide) := ggX2_nextCheck_X5_divide
theorem dX2_nextCheck_0 : decode cX2_nextCheck 0 = .ok (.iload_n 1, 1) := by decide +kernel
theorem dX2_nextCheck_1 : decode cX2_nextCheck 1 = .ok (.aload_n 0, 1) := by decide +kernel
theorem dX2_nextCheck_2 : decode cX2_nextCheck 2 = .ok (.getfield 38, 3) := by decide +kernel
theorem dX2_nextCheck_5 : decode cX2_nextCheck 5 = .ok (.iadd, 1) := by decide +kernel
theorem dX2_nextCheck_6 : decode cX2_nextCheck 6 = .ok (.iconst 1, 1) := by decide +kernel
theorem dX2_nextCheck_7 : decode cX2_nextCheck 7 = .ok (.isub, 1) := by decide +kernel
theorem dX2_nextCheck_8 : decode cX2_nextCheck 8 = .ok (.aload_n 0, 1) := by decide +kernel
theorem dX2_nextCheck_9 : decode cX2_nextCheck 9 = .ok (.getfield 38, 3) := by decide +kernel
theorem dX2_nextCheck_12 : decode cX2_nextCheck 12 = .ok (.invokestatic 71, 3) := by decide +kernel
theorem dX2_nextCheck_15 : decode cX2_nextCheck 15 = .ok (.aload_n 0, 1) := by decide +kernel
theorem dX2_nextCheck_16 : decode cX2_nextCheck 16 = .ok (.getfield 38, 3) := by decide +kernel
theorem dX2_nextCheck_19 : decode cX2_nextCheck 19 = .ok (.imul, 1) := by decide +kernel
theorem dX2_nextCheck_20 : decode cX2_nextCheck 20 = .ok (.ireturn, 1) := by decide +kernel
theorem dX3_init_0 : decode cX3_init 0 = .ok (.aload_n 0, 1) := by decide +kernel
theorem dX3_init_1 : decode cX3_init 1 = .ok (.invokespecial 3, 3) := by decide +kernel
theorem dX3_init_4 : decode cX3_init 4 = .ok (.aload_n 0, 1) := by decide +kernel
theorem dX3_init_5 : decode cX3_init 5 = .ok (.bipush 40, 2) := by decide +kernel
theorem dX3_init_7 : decode cX3_init 7 = .ok (.newarray .int, 2) := by decide +kernel
theorem dX3_init_9 : decode cX3_init 9 = .ok (.putfield 9, 3) := by decide +kernel
theorem dX3_init_12 : decode cX3_init 12 = .ok (.aload_n 0, 1) := by decide +kernel
theorem dX3_init_13 : decode cX3_init 13 = .ok (.bipush 40, 2) := by decide +kernel
theorem dX3_init_15 : decode cX3_init 15 = .ok (.newarray .int, 2) := by decide +kernel
theorem dX3_init_17 : decode cX3_init 17 = .ok (.putfield 15, 3) := by decide +kernel
theorem dX3_init_20 : decode cX3_init 20 = .ok (.aload_n 0, 1) := by decide +kernel
theorem dX3_init_21 : decode cX3_init 21 = .ok (.bipush 40, 2) := by decide +kernel
theorem dX3_init_23 : decode cX3_init 23 = .ok (.newarray .int, 2) := by decide +kernel
theorem dX3_init_25 : decode cX3_init 25 = .ok (.putfield 18, 3) := by decide +kernel
theorem dX3_init_28 : decode cX3_init 28 = .ok (.aload_n 0, 1) := by decide +kernel
theorem dX3_init_29 : decode cX3_init 29 = .ok (.bipush 40, 2) := by decide +kernel
theorem dX3_init_31 : decode cX3_init 31 = .ok (.newarray .int, 2) := by decide +kernel
theorem dX3_init_33 : decode cX3_init 33 = .ok (.putfield 21, 3) := by decide +kernel
theorem dX3_init_36 : decode cX3_init 36 = .ok (.aload_n 0, 1) := by decide +kernel
theorem dX3_init_37 : decode cX3_init 37 = .ok (.bipush 40, 2) := by decide +kernel
theorem dX3_init_39 : decode cX3_init 39 = .ok (.newarray .int, 2) := by decide +kernel
theorem dX3_init_41 : decode cX3_init 41 = .ok (.putfield 24, 3) := by decide +kernel
theorem dX3_init_44 : decode cX3_init 44 = .ok (.aload_n 0, 1) := by decide +kernel
theorem dX3_init_45 : decode cX3_init 45 = .ok (.bipush 24, 2) := by decide +kernel
theorem dX3_init_47 : decode cX3_init 47 = .ok (.newarray .int, 2) := by decide +kernel
theorem dX3_init_49 : decode cX3_init 49 = .ok (.putfield 27, 3) := by decide +kernel
theorem dX3_init_52 : decode cX3_init 52 = .ok (.aload_n 0, 1) := by decide +kernel
theorem dX3_init_53 : decode cX3_init 53 = .ok (.iconst 0, 1) := by decide +kernel
theorem dX3_init_54 : decode cX3_init 54 = .ok (.putfield 30, 3) := by decide +kernel
theorem dX3_init_57 : decode cX3_init 57 = .ok (.return_, 1) := by decide +kernel
theorem dX3_keep_0 : decode cX3_keep 0 = .ok (.aload_n 0, 1) := by decide +kernel
theorem dX3_keep_1 : decode cX3_keep 1 = .ok (.getfield 30, 3) := by decide +kernel
theorem dX3_keep_4 : decode cX3_keep 4 = .ok (.bipush 40, 2) := by decide +kernel
theorem dX3_keep_6 : decode cX3_keep 6 = .ok (.if_icmp .lt 6, 3) := by decide +kernel
theorem dX3_keep_9 : decode cX3_keep 9 = .ok (.bipush (-4), 2) := by decide +kernel
theorem dX3_keep_11 : decode cX3_keep 11 = .ok (.ireturn, 1) := by decide +kernel
theorem dX3_keep_12 : decode cX3_keep 12 = .ok (.aload_n 0, 1) := by decide +kernel
theorem dX3_keep_13 : decode cX3_keep 13 = .ok (.getfield 9, 3) := by decide +kernel
theorem dX3_keep_16 : decode cX3_keep 16 = .ok (.aload_n 0, 1) := by decide +kernel
theorem dX3_keep_17 : decode cX3_keep 17 = .ok (.getfield 30, 3) := by decide +kernel
theorem dX3_keep_20 : decode cX3_keep 20 = .ok (.iload_n 1, 1) := by decide +kernel
theorem dX3_keep_21 : decode cX3_keep 21 = .ok (.iastore, 1) := by decide +kernel
theorem dX3_keep_22 : decode cX3_keep 22 = .ok (.aload_n 0, 1) := by decide +kernel
theorem dX3_keep_23 : decode cX3_keep 23 = .ok (.getfield 15, 3) := by decide +kernel
theorem dX3_keep_26 : decode cX3_keep 26 = .ok (.aload_n 0, 1) := by decide +kernel
theorem dX3_keep_27 : decode cX3_keep 27 = .ok (.getfield 30, 3) := by decide +kernel
theorem dX3_keep_30 : decode cX3_keep 30 = .ok (.iload_n 2, 1) := by decide +kernel
theorem dX3_keep_31 : decode cX3_keep 31 = .ok (.iastore, 1) := by decide +kernel
theorem dX3_keep_32 : decode cX3_keep 32 = .ok (.aload_n 0, 1) := by decide +kernel
theorem dX3_keep_33 : decode cX3_keep 33 = .ok (.getfield 18, 3) := by decide +kernel
theorem dX3_keep_36 : decode cX3_keep 36 = .ok (.aload_n 0, 1) := by decide +kernel
theorem dX3_keep_37 : decode cX3_keep 37 = .ok (.getfield 30, 3) := by decide +kernel
theorem dX3_keep_40 : decode cX3_keep 40 = .ok (.iload_n 3, 1) := by decide +kernel
theorem dX3_keep_41 : decode cX3_keep 41 = .ok (.iastore, 1) := by decide +kernel
theorem dX3_keep_42 : decode cX3_keep 42 = .ok (.aload_n 0, 1) := by decide +kernel
theorem dX3_keep_43 : decode cX3_keep 43 = .ok (.getfield 21, 3) := by decide +kernel
theorem dX3_keep_46 : decode cX3_keep 46 = .ok (.aload_n 0, 1) := by decide +kernel
theorem dX3_keep_47 : decode cX3_keep 47 = .ok (.getfield 30, 3) := by decide +kernel
theorem dX3_keep_50 : decode cX3_keep 50 = .ok (.iload 4, 2) := by decide +kernel
theorem dX3_keep_52 : decode cX3_keep 52 = .ok (.iastore, 1) := by decide +kernel
theorem dX3_keep_53 : decode cX3_keep 53 = .ok (.aload_n 0, 1) := by decide +kernel
theorem dX3_keep_54 : decode cX3_keep 54 = .ok (.getfield 24, 3) := by decide +kernel
theorem dX3_keep_57 : decode cX3_keep 57 = .ok (.aload_n 0, 1) := by decide +kernel
theorem dX3_keep_58 : decode cX3_keep 58 = .ok (.getfield 30, 3) := by decide +kernel
theorem dX3_keep_61 : decode cX3_keep 61 = .ok (.iload 5, 2) := by decide +kernel
theorem dX3_keep_63 : decode cX3_keep 63 = .ok (.iastore, 1) := by decide +kernel
theorem dX3_keep_64 : decode cX3_keep 64 = .ok (.aload_n 0, 1) := by decide +kernel
theorem dX3_keep_65 : decode cX3_keep 65 = .ok (.dup, 1) := by decide +kernel
