set_option maxRecDepth 20000 in
theorem ggX6_init_X1_init : GoodIn wsX6_init wsX1_init := goodIn_r _ [29, 30, 2, 3, 31, 32, 33, 34, 35, 36, 37, 38, 39, 40, 41, 42, 81, 82, 83, 84, 85, 86, 87, 88, 89, 90, 91, 92, 93, 94, 95, 96] (by decide +kernel) (by decide +kernel)
set_option maxRecDepth 20000 in
theorem gX6_init_X1_init_n9 : GoodIn wsX6_init (wsX1_init) := ggX6_init_X1_init
set_option maxRecDepth 20000 in
theorem ggX6_init_X3_init : GoodIn wsX6_init wsX3_init := goodIn_r _ [44, 45, 2, 3, 31, 46, 47, 48, 49, 50, 51, 103, 104, 105, 106, 107, 108, 109, 110, 111] (by decide +kernel) (by decide +kernel)
set_option maxRecDepth 20000 in
theorem gX6_init_X3_init_n18 : GoodIn wsX6_init (wsX3_init) := ggX6_init_X3_init
set_option maxRecDepth 20000 in
theorem ggX6_init_X5_init : GoodIn wsX6_init wsX5_init := goodIn_r _ [53, 54, 2, 3, 31, 55, 56, 57, 58, 59, 112, 113, 114, 115, 116, 117] (by decide +kernel) (by decide +kernel)
set_option maxRecDepth 20000 in
theorem gX6_init_X5_init_n25 : GoodIn wsX6_init (wsX5_init) := ggX6_init_X5_init
set_option maxRecDepth 20000 in
theorem ggX6_init_X0_init : GoodIn wsX6_init wsX0_init := goodIn_r _ [61, 62, 2, 3, 31, 63, 118, 119, 120, 121, 122] (by decide +kernel) (by decide +kernel)
set_option maxRecDepth 20000 in
theorem gX6_init_X0_init_n32 : GoodIn wsX6_init (wsX0_init) := ggX6_init_X0_init
set_option maxRecDepth 20000 in
theorem ggX6_init_X2_init : GoodIn wsX6_init wsX2_init := goodIn_r _ [65, 66, 2, 3, 31, 67, 68, 69, 70, 71, 123, 124, 125, 126, 127, 128, 129] (by decide +kernel) (by decide +kernel)
set_option maxRecDepth 20000 in
theorem gX6_init_X2_init_n39 : GoodIn wsX6_init (wsX2_init) := ggX6_init_X2_init
set_option maxRecDepth 20000 in
theorem ggX6_init_X4_init : GoodIn wsX6_init wsX4_init := goodIn_r _ [73, 74, 2, 3, 31, 75, 76, 77, 78, 79, 80, 130, 131, 132, 133, 134, 135, 136] (by decide +kernel) (by decide +kernel)
set_option maxRecDepth 20000 in
theorem gX6_init_X4_init_n46 : GoodIn wsX6_init (wsX4_init) := ggX6_init_X4_init
theorem dX6_init_0 : decode cX6_init 0 = .ok (.aload_n 0, 1) := by decide +kernel
theorem dX6_init_1 : decode cX6_init 1 = .ok (.invokespecial 1, 3) := by decide +kernel
theorem dX6_init_4 : decode cX6_init 4 = .ok (.aload_n 0, 1) := by decide +kernel
theorem dX6_init_5 : decode cX6_init 5 = .ok (.new 7, 3) := by decide +kernel
theorem dX6_init_8 : decode cX6_init 8 = .ok (.dup, 1) := by decide +kernel
theorem dX6_init_9 : decode cX6_init 9 = .ok (.invokespecial 9, 3) := by decide +kernel
theorem dX6_init_12 : decode cX6_init 12 = .ok (.putfield 10, 3) := by decide +kernel
theorem dX6_init_15 : decode cX6_init 15 = .ok (.aload_n 0, 1) := by decide +kernel
theorem dX6_init_16 : decode cX6_init 16 = .ok (.new 16, 3) := by decide +kernel
theorem dX6_init_19 : decode cX6_init 19 = .ok (.dup, 1) := by decide +kernel
theorem dX6_init_20 : decode cX6_init 20 = .ok (.invokespecial 18, 3) := by decide +kernel
theorem dX6_init_23 : decode cX6_init 23 = .ok (.putfield 19, 3) := by decide +kernel
theorem dX6_init_26 : decode cX6_init 26 = .ok (.aload_n 0, 1) := by decide +kernel
theorem dX6_init_27 : decode cX6_init 27 = .ok (.new 23, 3) := by decide +kernel
theorem dX6_init_30 : decode cX6_init 30 = .ok (.dup, 1) := by decide +kernel
theorem dX6_init_31 : decode cX6_init 31 = .ok (.invokespecial 25, 3) := by decide +kernel
theorem dX6_init_34 : decode cX6_init 34 = .ok (.putfield 26, 3) := by decide +kernel
theorem dX6_init_37 : decode cX6_init 37 = .ok (.aload_n 0, 1) := by decide +kernel
theorem dX6_init_38 : decode cX6_init 38 = .ok (.new 30, 3) := by decide +kernel
theorem dX6_init_41 : decode cX6_init 41 = .ok (.dup, 1) := by decide +kernel
theorem dX6_init_42 : decode cX6_init 42 = .ok (.invokespecial 32, 3) := by decide +kernel
theorem dX6_init_45 : decode cX6_init 45 = .ok (.putfield 33, 3) := by decide +kernel
theorem dX6_init_48 : decode cX6_init 48 = .ok (.aload_n 0, 1) := by decide +kernel
theorem dX6_init_49 : decode cX6_init 49 = .ok (.new 37, 3) := by decide +kernel
theorem dX6_init_52 : decode cX6_init 52 = .ok (.dup, 1) := by decide +kernel
theorem dX6_init_53 : decode cX6_init 53 = .ok (.invokespecial 39, 3) := by decide +kernel
theorem dX6_init_56 : decode cX6_init 56 = .ok (.putfield 40, 3) := by decide +kernel
theorem dX6_init_59 : decode cX6_init 59 = .ok (.aload_n 0, 1) := by decide +kernel
theorem dX6_init_60 : decode cX6_init 60 = .ok (.new 44, 3) := by decide +kernel
theorem dX6_init_63 : decode cX6_init 63 = .ok (.dup, 1) := by decide +kernel
theorem dX6_init_64 : decode cX6_init 64 = .ok (.invokespecial 46, 3) := by decide +kernel
theorem dX6_init_67 : decode cX6_init 67 = .ok (.putfield 47, 3) := by decide +kernel
theorem dX6_init_70 : decode cX6_init 70 = .ok (.return_, 1) := by decide +kernel
set_option maxRecDepth 20000 in
theorem ggX6_earth_X6_isSpan : GoodIn wsX6_earth wsX6_isSpan := goodIn_r _ [10] (by decide +kernel) (by decide +kernel)
set_option maxRecDepth 20000 in
theorem gX6_earth_X6_isSpan : GoodIn wsX6_earth (va_wsS RX6 51 yX6_isSpan wsX6_isSpan) := goodIn_app (goodIn_of _ (by decide +kernel)) ggX6_earth_X6_isSpan
set_option maxRecDepth 20000 in
theorem ggX6_earth_X6_isWithin : GoodIn wsX6_earth wsX6_isWithin := goodIn_r _ [13] (by decide +kernel) (by decide +kernel)
set_option maxRecDepth 20000 in
theorem gX6_earth_X6_isWithin : GoodIn wsX6_earth (va_wsS RX6 55 yX6_isWithin wsX6_isWithin) := goodIn_app (goodIn_of _ (by decide +kernel)) ggX6_earth_X6_isWithin
set_option maxRecDepth 20000 in
theorem ggX6_earth_X1_add : GoodIn wsX6_earth wsX1_add := goodIn_r _ [18, 19, 20, 21, 22, 23, 30, 31, 32, 33, 34, 35, 36, 37, 38, 39, 40, 41, 42, 43, 44, 45] (by decide +kernel) (by decide +kernel)
set_option maxRecDepth 20000 in
theorem gX6_earth_X1_add : GoodIn wsX6_earth (wsV RX6 75 RX1 yX1_add wsX1_add) := goodIn_app (goodIn_of _ (by decide +kernel)) ggX6_earth_X1_add
theorem dX6_earth_0 : decode cX6_earth 0 = .ok (.iload_n 1, 1) := by decide +kernel
theorem dX6_earth_1 : decode cX6_earth 1 = .ok (.iload_n 2, 1) := by decide +kernel
theorem dX6_earth_2 : decode cX6_earth 2 = .ok (.invokestatic 51, 3) := by decide +kernel
theorem dX6_earth_5 : decode cX6_earth 5 = .ok (.ifCond .eq 26, 3) := by decide +kernel
theorem dX6_earth_8 : decode cX6_earth 8 = .ok (.iload_n 3, 1) := by decide +kernel
theorem dX6_earth_9 : decode cX6_earth 9 = .ok (.iconst 1, 1) := by decide +kernel
theorem dX6_earth_10 : decode cX6_earth 10 = .ok (.sipush 1000, 3) := by decide +kernel
theorem dX6_earth_13 : decode cX6_earth 13 = .ok (.invokestatic 55, 3) := by decide +kernel
theorem dX6_earth_16 : decode cX6_earth 16 = .ok (.ifCond .eq 15, 3) := by decide +kernel
theorem dX6_earth_19 : decode cX6_earth 19 = .ok (.iload 4, 2) := by decide +kernel
theorem dX6_earth_21 : decode cX6_earth 21 = .ok (.iconst 0, 1) := by decide +kernel
theorem dX6_earth_22 : decode cX6_earth 22 = .ok (.sipush 1000, 3) := by decide +kernel
theorem dX6_earth_25 : decode cX6_earth 25 = .ok (.invokestatic 55, 3) := by decide +kernel
theorem dX6_earth_28 : decode cX6_earth 28 = .ok (.ifCond .ne 13, 3) := by decide +kernel
theorem dX6_earth_31 : decode cX6_earth 31 = .ok (.new 59, 3) := by decide +kernel
theorem dX6_earth_34 : decode cX6_earth 34 = .ok (.dup, 1) := by decide +kernel
theorem dX6_earth_35 : decode cX6_earth 35 = .ok (.ldc 61, 2) := by decide +kernel
theorem dX6_earth_37 : decode cX6_earth 37 = .ok (.invokespecial 63, 3) := by decide +kernel
theorem dX6_earth_40 : decode cX6_earth 40 = .ok (.athrow, 1) := by decide +kernel
theorem dX6_earth_41 : decode cX6_earth 41 = .ok (.aload_n 0, 1) := by decide +kernel
theorem dX6_earth_42 : decode cX6_earth 42 = .ok (.getfield 10, 3) := by decide +kernel
theorem dX6_earth_45 : decode cX6_earth 45 = .ok (.getfield 66, 3) := by decide +kernel
theorem dX6_earth_48 : decode cX6_earth 48 = .ok (.bipush 6, 2) := by decide +kernel
theorem dX6_earth_50 : decode cX6_earth 50 = .ok (.if_icmp .lt 13, 3) := by decide +kernel
theorem dX6_earth_53 : decode cX6_earth 53 = .ok (.new 70, 3) := by decide +kernel
theorem dX6_earth_56 : decode cX6_earth 56 = .ok (.dup, 1) := by decide +kernel
theorem dX6_earth_57 : decode cX6_earth 57 = .ok (.ldc 72, 2) := by decide +kernel
theorem dX6_earth_59 : decode cX6_earth 59 = .ok (.invokespecial 74, 3) := by decide +kernel
theorem dX6_earth_62 : decode cX6_earth 62 = .ok (.athrow, 1) := by decide +kernel
theorem dX6_earth_63 : decode cX6_earth 63 = .ok (.aload_n 0, 1) := by decide +kernel
theorem dX6_earth_64 : decode cX6_earth 64 = .ok (.getfield 10, 3) := by decide +kernel
theorem dX6_earth_67 : decode cX6_earth 67 = .ok (.iload_n 1, 1) := by decide +kernel
theorem dX6_earth_68 : decode cX6_earth 68 = .ok (.iload_n 2, 1) := by decide +kernel
theorem dX6_earth_69 : decode cX6_earth 69 = .ok (.iload_n 3, 1) := by decide +kernel
theorem dX6_earth_70 : decode cX6_earth 70 = .ok (.iload 4, 2) := by decide +kernel
theorem dX6_earth_72 : decode cX6_earth 72 = .ok (.invokevirtual 75, 3) := by decide +kernel
theorem dX6_earth_75 : decode cX6_earth 75 = .ok (.ireturn, 1) := by decide +kernel
set_option maxRecDepth 20000 in
theorem ggX6_bring_X6_isNumberOf : GoodIn wsX6_bring wsX6_isNumberOf := goodIn_r _ [11] (by decide +kernel) (by decide +kernel)
set_option maxRecDepth 20000 in
theorem gX6_bring_X6_isNumberOf : GoodIn wsX6_bring (va_wsS RX6 79 yX6_isNumberOf wsX6_isNumberOf) := goodIn_app (goodIn_of _ (by decide +kernel)) ggX6_bring_X6_isNumberOf
set_option maxRecDepth 20000 in
theorem ggX6_bring_X6_isWithin : GoodIn wsX6_bring wsX6_isWithin := goodIn_r _ [14] (by decide +kernel) (by decide +kernel)
set_option maxRecDepth 20000 in
theorem gX6_bring_X6_isWithin : GoodIn wsX6_bring (va_wsS RX6 55 yX6_isWithin wsX6_isWithin) := goodIn_app (goodIn_of _ (by decide +kernel)) ggX6_bring_X6_isWithin
theorem dX6_bring_0 : decode cX6_bring 0 = .ok (.iload_n 1, 1) := by decide +kernel
theorem dX6_bring_1 : decode cX6_bring 1 = .ok (.aload_n 0, 1) := by decide +kernel
theorem dX6_bring_2 : decode cX6_bring 2 = .ok (.getfield 10, 3) := by decide +kernel
theorem dX6_bring_5 : decode cX6_bring 5 = .ok (.getfield 66, 3) := by decide +kernel
theorem dX6_bring_8 : decode cX6_bring 8 = .ok (.invokestatic 79, 3) := by decide +kernel
theorem dX6_bring_11 : decode cX6_bring 11 = .ok (.ifCond .ne 13, 3) := by decide +kernel
theorem dX6_bring_14 : decode cX6_bring 14 = .ok (.new 82, 3) := by decide +kernel
theorem dX6_bring_17 : decode cX6_bring 17 = .ok (.dup, 1) := by decide +kernel
theorem dX6_bring_18 : decode cX6_bring 18 = .ok (.ldc 84, 2) := by decide +kernel
theorem dX6_bring_20 : decode cX6_bring 20 = .ok (.invokespecial 86, 3) := by decide +kernel
theorem dX6_bring_23 : decode cX6_bring 23 = .ok (.athrow, 1) := by decide +kernel
theorem dX6_bring_24 : decode cX6_bring 24 = .ok (.iload_n 2, 1) := by decide +kernel
theorem dX6_bring_25 : decode cX6_bring 25 = .ok (.iconst 0, 1) := by decide +kernel
theorem dX6_bring_26 : decode cX6_bring 26 = .ok (.sipush 1000, 3) := by decide +kernel
theorem dX6_bring_29 : decode cX6_bring 29 = .ok (.invokestatic 55, 3) := by decide +kernel
theorem dX6_bring_32 : decode cX6_bring 32 = .ok (.ifCond .eq 20, 3) := by decide +kernel
theorem dX6_bring_35 : decode cX6_bring 35 = .ok (.aload_n 0, 1) := by decide +kernel
theorem dX6_bring_36 : decode cX6_bring 36 = .ok (.getfield 10, 3) := by decide +kernel
theorem dX6_bring_39 : decode cX6_bring 39 = .ok (.getfield 87, 3) := by decide +kernel
theorem dX6_bring_42 : decode cX6_bring 42 = .ok (.iload_n 1, 1) := by decide +kernel
theorem dX6_bring_43 : decode cX6_bring 43 = .ok (.iaload, 1) := by decide +kernel
theorem dX6_bring_44 : decode cX6_bring 44 = .ok (.iload_n 2, 1) := by decide +kernel
theorem dX6_bring_45 : decode cX6_bring 45 = .ok (.iadd, 1) := by decide +kernel
theorem dX6_bring_46 : decode cX6_bring 46 = .ok (.sipush 1000, 3) := by decide +kernel
theorem dX6_bring_49 : decode cX6_bring 49 = .ok (.if_icmp .le 13, 3) := by decide +kernel
theorem dX6_bring_52 : decode cX6_bring 52 = .ok (.new 59, 3) := by decide +kernel
theorem dX6_bring_55 : decode cX6_bring 55 = .ok (.dup, 1) := by decide +kernel
theorem dX6_bring_56 : decode cX6_bring 56 = .ok (.ldc 91, 2) := by decide +kernel
theorem dX6_bring_58 : decode cX6_bring 58 = .ok (.invokespecial 63, 3) := by decide +kernel
theorem dX6_bring_61 : decode cX6_bring 61 = .ok (.athrow, 1) := by decide +kernel
theorem dX6_bring_62 : decode cX6_bring 62 = .ok (.aload_n 0, 1) := by decide +kernel
theorem dX6_bring_63 : decode cX6_bring 63 = .ok (.getfield 10, 3) := by decide +kernel
theorem dX6_bring_66 : decode cX6_bring 66 = .ok (.getfield 87, 3) := by decide +kernel
theorem dX6_bring_69 : decode cX6_bring 69 = .ok (.iload_n 1, 1) := by decide +kernel
theorem dX6_bring_70 : decode cX6_bring 70 = .ok (.dup2, 1) := by decide +kernel
theorem dX6_bring_71 : decode cX6_bring 71 = .ok (.iaload, 1) := by decide +kernel
theorem dX6_bring_72 : decode cX6_bring 72 = .ok (.iload_n 2, 1) := by decide +kernel
theorem dX6_bring_73 : decode cX6_bring 73 = .ok (.iadd, 1) := by decide +kernel
theorem dX6_bring_74 : decode cX6_bring 74 = .ok (.iastore, 1) := by decide +kernel
theorem dX6_bring_75 : decode cX6_bring 75 = .ok (.aload_n 0, 1) := by decide +kernel
theorem dX6_bring_76 : decode cX6_bring 76 = .ok (.getfield 10, 3) := by decide +kernel
theorem dX6_bring_79 : decode cX6_bring 79 = .ok (.getfield 87, 3) := by decide +kernel
theorem dX6_bring_82 : decode cX6_bring 82 = .ok (.iload_n 1, 1) := by decide +kernel
theorem dX6_bring_83 : decode cX6_bring 83 = .ok (.iaload, 1) := by decide +kernel
theorem dX6_bring_84 : decode cX6_bring 84 = .ok (.ireturn, 1) := by decide +kernel
set_option maxRecDepth 20000 in
theorem ggX6_blend_X6_isSpan : GoodIn wsX6_blend wsX6_isSpan := goodIn_r _ [8] (by decide +kernel) (by decide +kernel)
set_option maxRecDepth 20000 in
theorem gX6_blend_X6_isSpan : GoodIn wsX6_blend (va_wsS RX6 51 yX6_isSpan wsX6_isSpan) := goodIn_app (goodIn_of _ (by decide +kernel)) ggX6_blend_X6_isSpan
set_option maxRecDepth 20000 in
theorem ggX6_blend_X1_seek : GoodIn wsX6_blend wsX1_seek := goodIn_r _ [13, 14, 15, 16, 17, 18, 19, 12, 20, 21, 22, 23, 24, 25, 26, 27, 28, 29, 30, 31, 32, 33, 34, 35, 36, 37, 38, 39, 40, 41, 42, 43, 44, 45, 46, 47, 48, 49, 50, 51, 52, 53, 54, 55, 56, 63, 64, 65, 66, 67, 68, 69, 70, 71, 72, 73, 74, 75, 76, 77, 78] (by decide +kernel) (by decide +kernel)
set_option maxRecDepth 20000 in
theorem gX6_blend_X1_seek : GoodIn wsX6_blend (wsV RX6 95 RX1 yX1_seek wsX1_seek) := goodIn_app (goodIn_of _ (by decide +kernel)) ggX6_blend_X1_seek
theorem dX6_blend_0 : decode cX6_blend 0 = .ok (.iload_n 1, 1) := by decide +kernel
theorem dX6_blend_1 : decode cX6_blend 1 = .ok (.iload_n 2, 1) := by decide +kernel
theorem dX6_blend_2 : decode cX6_blend 2 = .ok (.invokestatic 51, 3) := by decide +kernel
theorem dX6_blend_5 : decode cX6_blend 5 = .ok (.ifCond .ne 13, 3) := by decide +kernel
theorem dX6_blend_8 : decode cX6_blend 8 = .ok (.new 59, 3) := by decide +kernel
theorem dX6_blend_11 : decode cX6_blend 11 = .ok (.dup, 1) := by decide +kernel
theorem dX6_blend_12 : decode cX6_blend 12 = .ok (.ldc 93, 2) := by decide +kernel
theorem dX6_blend_14 : decode cX6_blend 14 = .ok (.invokespecial 63, 3) := by decide +kernel
theorem dX6_blend_17 : decode cX6_blend 17 = .ok (.athrow, 1) := by decide +kernel
theorem dX6_blend_18 : decode cX6_blend 18 = .ok (.aload_n 0, 1) := by decide +kernel
theorem dX6_blend_19 : decode cX6_blend 19 = .ok (.getfield 10, 3) := by decide +kernel
theorem dX6_blend_22 : decode cX6_blend 22 = .ok (.iload_n 1, 1) := by decide +kernel
theorem dX6_blend_23 : decode cX6_blend 23 = .ok (.iload_n 2, 1) := by decide +kernel
theorem dX6_blend_24 : decode cX6_blend 24 = .ok (.invokevirtual 95, 3) := by decide +kernel
theorem dX6_blend_27 : decode cX6_blend 27 = .ok (.aload_n 0, 1) := by decide +kernel
theorem dX6_blend_28 : decode cX6_blend 28 = .ok (.getfield 10, 3) := by decide +kernel
theorem dX6_blend_31 : decode cX6_blend 31 = .ok (.getfield 99, 3) := by decide +kernel
theorem dX6_blend_34 : decode cX6_blend 34 = .ok (.ireturn, 1) := by decide +kernel
set_option maxRecDepth 20000 in
theorem ggX6_parts_X6_isNumberOf : GoodIn wsX6_parts wsX6_isNumberOf := goodIn_r _ [12] (by decide +kernel) (by decide +kernel)
set_option maxRecDepth 20000 in
theorem gX6_parts_X6_isNumberOf : GoodIn wsX6_parts (va_wsS RX6 79 yX6_isNumberOf wsX6_isNumberOf) := goodIn_app (goodIn_of _ (by decide +kernel)) ggX6_parts_X6_isNumberOf
set_option maxRecDepth 20000 in
theorem ggX6_parts_X6_isSpan : GoodIn wsX6_parts wsX6_isSpan := goodIn_r _ [15] (by decide +kernel) (by decide +kernel)
set_option maxRecDepth 20000 in
theorem gX6_parts_X6_isSpan : GoodIn wsX6_parts (va_wsS RX6 51 yX6_isSpan wsX6_isSpan) := goodIn_app (goodIn_of _ (by decide +kernel)) ggX6_parts_X6_isSpan
set_option maxRecDepth 20000 in
theorem ggX6_parts_X1_seek : GoodIn wsX6_parts wsX1_seek := goodIn_r _ [20, 21, 22, 23, 24, 25, 26, 19, 27, 28, 29, 30, 31, 32, 33, 34, 35, 36, 37, 38, 39, 40, 41, 42, 43, 44, 45, 46, 47, 48, 49, 50, 51, 52, 53, 54, 55, 56, 57, 58, 59, 60, 61, 62, 63, 70, 71, 72, 73, 74, 75, 76, 77, 78, 79, 80, 81, 82, 83, 84, 85] (by decide +kernel) (by decide +kernel)
set_option maxRecDepth 20000 in
theorem gX6_parts_X1_seek : GoodIn wsX6_parts (wsV RX6 95 RX1 yX1_seek wsX1_seek) := goodIn_app (goodIn_of _ (by decide +kernel)) ggX6_parts_X1_seek
theorem dX6_parts_0 : decode cX6_parts 0 = .ok (.iload_n 3, 1) := by decide +kernel
theorem dX6_parts_1 : decode cX6_parts 1 = .ok (.aload_n 0, 1) := by decide +kernel
theorem dX6_parts_2 : decode cX6_parts 2 = .ok (.getfield 10, 3) := by decide +kernel
theorem dX6_parts_5 : decode cX6_parts 5 = .ok (.getfield 66, 3) := by decide +kernel
theorem dX6_parts_8 : decode cX6_parts 8 = .ok (.invokestatic 79, 3) := by decide +kernel
theorem dX6_parts_11 : decode cX6_parts 11 = .ok (.ifCond .ne 13, 3) := by decide +kernel
theorem dX6_parts_14 : decode cX6_parts 14 = .ok (.new 82, 3) := by decide +kernel
theorem dX6_parts_17 : decode cX6_parts 17 = .ok (.dup, 1) := by decide +kernel
theorem dX6_parts_18 : decode cX6_parts 18 = .ok (.ldc 84, 2) := by decide +kernel
theorem dX6_parts_20 : decode cX6_parts 20 = .ok (.invokespecial 86, 3) := by decide +kernel
theorem dX6_parts_23 : decode cX6_parts 23 = .ok (.athrow, 1) := by decide +kernel
theorem dX6_parts_24 : decode cX6_parts 24 = .ok (.iload_n 1, 1) := by decide +kernel
theorem dX6_parts_25 : decode cX6_parts 25 = .ok (.iload_n 2, 1) := by decide +kernel
theorem dX6_parts_26 : decode cX6_parts 26 = .ok (.invokestatic 51, 3) := by decide +kernel
theorem dX6_parts_29 : decode cX6_parts 29 = .ok (.ifCond .ne 13, 3) := by decide +kernel
theorem dX6_parts_32 : decode cX6_parts 32 = .ok (.new 59, 3) := by decide +kernel
theorem dX6_parts_35 : decode cX6_parts 35 = .ok (.dup, 1) := by decide +kernel
theorem dX6_parts_36 : decode cX6_parts 36 = .ok (.ldc 93, 2) := by decide +kernel
theorem dX6_parts_38 : decode cX6_parts 38 = .ok (.invokespecial 63, 3) := by decide +kernel
theorem dX6_parts_41 : decode cX6_parts 41 = .ok (.athrow, 1) := by decide +kernel
theorem dX6_parts_42 : decode cX6_parts 42 = .ok (.aload_n 0, 1) := by decide +kernel
theorem dX6_parts_43 : decode cX6_parts 43 = .ok (.getfield 10, 3) := by decide +kernel
theorem dX6_parts_46 : decode cX6_parts 46 = .ok (.iload_n 1, 1) := by decide +kernel
theorem dX6_parts_47 : decode cX6_parts 47 = .ok (.iload_n 2, 1) := by decide +kernel
theorem dX6_parts_48 : decode cX6_parts 48 = .ok (.invokevirtual 95, 3) := by decide +kernel
theorem dX6_parts_51 : decode cX6_parts 51 = .ok (.aload_n 0, 1) := by decide +kernel
theorem dX6_parts_52 : decode cX6_parts 52 = .ok (.getfield 10, 3) := by decide +kernel
theorem dX6_parts_55 : decode cX6_parts 55 = .ok (.getfield 99, 3) := by decide +kernel
theorem dX6_parts_58 : decode cX6_parts 58 = .ok (.iconst (-1), 1) := by decide +kernel
theorem dX6_parts_59 : decode cX6_parts 59 = .ok (.if_icmp .ne 7, 3) := by decide +kernel
theorem dX6_parts_62 : decode cX6_parts 62 = .ok (.iconst (-1), 1) := by decide +kernel
theorem dX6_parts_63 : decode cX6_parts 63 = .ok (.goto 12, 3) := by decide +kernel
theorem dX6_parts_66 : decode cX6_parts 66 = .ok (.aload_n 0, 1) := by decide +kernel
theorem dX6_parts_67 : decode cX6_parts 67 = .ok (.getfield 10, 3) := by decide +kernel
theorem dX6_parts_70 : decode cX6_parts 70 = .ok (.getfield 102, 3) := by decide +kernel
theorem dX6_parts_73 : decode cX6_parts 73 = .ok (.iload_n 3, 1) := by decide +kernel
theorem dX6_parts_74 : decode cX6_parts 74 = .ok (.iaload, 1) := by decide +kernel
theorem dX6_parts_75 : decode cX6_parts 75 = .ok (.ireturn, 1) := by decide +kernel
set_option maxRecDepth 20000 in
theorem ggX6_cores_X6_isSpan : GoodIn wsX6_cores wsX6_isSpan := goodIn_r _ [12] (by decide +kernel) (by decide +kernel)
set_option maxRecDepth 20000 in
theorem gX6_cores_X6_isSpan : GoodIn wsX6_cores (va_wsS RX6 51 yX6_isSpan wsX6_isSpan) := goodIn_app (goodIn_of _ (by decide +kernel)) ggX6_cores_X6_isSpan
set_option maxRecDepth 20000 in
theorem ggX6_cores_X1_seek : GoodIn wsX6_cores wsX1_seek := goodIn_r _ [17, 18, 19, 20, 21, 22, 23, 16, 24, 25, 26, 27, 28, 29, 30, 31, 32, 33, 34, 35, 36, 37, 38, 39, 40, 41, 42, 43, 44, 45, 46, 47, 48, 49, 50, 51, 52, 53, 54, 55, 56, 57, 58, 59, 60, 90, 91, 92, 93, 94, 95, 96, 97, 98, 99, 100, 101, 102, 103, 104, 105] (by decide +kernel) (by decide +kernel)
set_option maxRecDepth 20000 in
theorem gX6_cores_X1_seek : GoodIn wsX6_cores (wsV RX6 95 RX1 yX1_seek wsX1_seek) := goodIn_app (goodIn_of _ (by decide +kernel)) ggX6_cores_X1_seek
set_option maxRecDepth 20000 in
theorem ggX6_cores_X1_takeBest : GoodIn wsX6_cores wsX1_takeBest := goodIn_r _ [64, 26, 30, 55, 90, 91, 92, 93, 94, 95, 96, 97, 98, 99, 100, 101, 102, 103, 104, 105] (by decide +kernel) (by decide +kernel)
set_option maxRecDepth 20000 in
theorem gX6_cores_X1_takeBest : GoodIn wsX6_cores (wsV RX6 106 RX1 yX1_takeBest wsX1_takeBest) := goodIn_app (goodIn_of _ (by decide +kernel)) ggX6_cores_X1_takeBest
set_option maxRecDepth 20000 in
theorem ggX6_cores_X3_add : GoodIn wsX6_cores wsX3_add := goodIn_r _ [69, 70, 71, 72, 73, 74, 81, 82, 83, 84, 85, 86, 87, 88, 89] (by decide +kernel) (by decide +kernel)
set_option maxRecDepth 20000 in
theorem gX6_cores_X3_add : GoodIn wsX6_cores (wsV RX6 115 RX3 yX3_add wsX3_add) := goodIn_app (goodIn_of _ (by decide +kernel)) ggX6_cores_X3_add
theorem dX6_cores_0 : decode cX6_cores 0 = .ok (.iload_n 1, 1) := by decide +kernel
theorem dX6_cores_1 : decode cX6_cores 1 = .ok (.iload_n 2, 1) := by decide +kernel
theorem dX6_cores_2 : decode cX6_cores 2 = .ok (.invokestatic 51, 3) := by decide +kernel
theorem dX6_cores_5 : decode cX6_cores 5 = .ok (.ifCond .ne 13, 3) := by decide +kernel
theorem dX6_cores_8 : decode cX6_cores 8 = .ok (.new 59, 3) := by decide +kernel
theorem dX6_cores_11 : decode cX6_cores 11 = .ok (.dup, 1) := by decide +kernel
theorem dX6_cores_12 : decode cX6_cores 12 = .ok (.ldc 93, 2) := by decide +kernel
theorem dX6_cores_14 : decode cX6_cores 14 = .ok (.invokespecial 63, 3) := by decide +kernel
theorem dX6_cores_17 : decode cX6_cores 17 = .ok (.athrow, 1) := by decide +kernel
theorem dX6_cores_18 : decode cX6_cores 18 = .ok (.aload_n 0, 1) := by decide +kernel
theorem dX6_cores_19 : decode cX6_cores 19 = .ok (.getfield 19, 3) := by decide +kernel
theorem dX6_cores_22 : decode cX6_cores 22 = .ok (.getfield 105, 3) := by decide +kernel
theorem dX6_cores_25 : decode cX6_cores 25 = .ok (.bipush 12, 2) := by decide +kernel
theorem dX6_cores_27 : decode cX6_cores 27 = .ok (.if_icmp .lt 5, 3) := by decide +kernel
theorem dX6_cores_30 : decode cX6_cores 30 = .ok (.iconst (-1), 1) := by decide +kernel
theorem dX6_cores_31 : decode cX6_cores 31 = .ok (.ireturn, 1) := by decide +kernel
theorem dX6_cores_32 : decode cX6_cores 32 = .ok (.aload_n 0, 1) := by decide +kernel
theorem dX6_cores_33 : decode cX6_cores 33 = .ok (.getfield 10, 3) := by decide +kernel
theorem dX6_cores_36 : decode cX6_cores 36 = .ok (.iload_n 1, 1) := by decide +kernel
theorem dX6_cores_37 : decode cX6_cores 37 = .ok (.iload_n 2, 1) := by decide +kernel
theorem dX6_cores_38 : decode cX6_cores 38 = .ok (.invokevirtual 95, 3) := by decide +kernel
theorem dX6_cores_41 : decode cX6_cores 41 = .ok (.aload_n 0, 1) := by decide +kernel
theorem dX6_cores_42 : decode cX6_cores 42 = .ok (.getfield 10, 3) := by decide +kernel
theorem dX6_cores_45 : decode cX6_cores 45 = .ok (.getfield 99, 3) := by decide +kernel
theorem dX6_cores_48 : decode cX6_cores 48 = .ok (.iconst (-1), 1) := by decide +kernel
theorem dX6_cores_49 : decode cX6_cores 49 = .ok (.if_icmp .ne 5, 3) := by decide +kernel
theorem dX6_cores_52 : decode cX6_cores 52 = .ok (.iconst (-1), 1) := by decide +kernel
theorem dX6_cores_53 : decode cX6_cores 53 = .ok (.ireturn, 1) := by decide +kernel
theorem dX6_cores_54 : decode cX6_cores 54 = .ok (.aload_n 0, 1) := by decide +kernel
theorem dX6_cores_55 : decode cX6_cores 55 = .ok (.getfield 10, 3) := by decide +kernel
theorem dX6_cores_58 : decode cX6_cores 58 = .ok (.invokevirtual 106, 3) := by decide +kernel
theorem dX6_cores_61 : decode cX6_cores 61 = .ok (.aload_n 0, 1) := by decide +kernel
theorem dX6_cores_62 : decode cX6_cores 62 = .ok (.getfield 19, 3) := by decide +kernel
theorem dX6_cores_65 : decode cX6_cores 65 = .ok (.iconst 0, 1) := by decide +kernel
theorem dX6_cores_66 : decode cX6_cores 66 = .ok (.bipush 40, 2) := by decide +kernel
theorem dX6_cores_68 : decode cX6_cores 68 = .ok (.aload_n 0, 1) := by decide +kernel
theorem dX6_cores_69 : decode cX6_cores 69 = .ok (.getfield 10, 3) := by decide +kernel
theorem dX6_cores_72 : decode cX6_cores 72 = .ok (.getfield 109, 3) := by decide +kernel
theorem dX6_cores_75 : decode cX6_cores 75 = .ok (.aload_n 0, 1) := by decide +kernel
theorem dX6_cores_76 : decode cX6_cores 76 = .ok (.getfield 10, 3) := by decide +kernel
theorem dX6_cores_79 : decode cX6_cores 79 = .ok (.getfield 112, 3) := by decide +kernel
theorem dX6_cores_82 : decode cX6_cores 82 = .ok (.invokevirtual 115, 3) := by decide +kernel
theorem dX6_cores_85 : decode cX6_cores 85 = .ok (.ireturn, 1) := by decide +kernel
set_option maxRecDepth 20000 in
theorem ggX6_lot_X6_isWithin : GoodIn wsX6_lot wsX6_isWithin := goodIn_r _ [10] (by decide +kernel) (by decide +kernel)
set_option maxRecDepth 20000 in
theorem gX6_lot_X6_isWithin : GoodIn wsX6_lot (va_wsS RX6 55 yX6_isWithin wsX6_isWithin) := goodIn_app (goodIn_of _ (by decide +kernel)) ggX6_lot_X6_isWithin
set_option maxRecDepth 20000 in
theorem ggX6_lot_X3_add : GoodIn wsX6_lot wsX3_add := goodIn_r _ [15, 16, 17, 18, 19, 20, 27, 28, 29, 30, 31, 32, 33, 34, 35] (by decide +kernel) (by decide +kernel)
set_option maxRecDepth 20000 in
theorem gX6_lot_X3_add : GoodIn wsX6_lot (wsV RX6 115 RX3 yX3_add wsX3_add) := goodIn_app (goodIn_of _ (by decide +kernel)) ggX6_lot_X3_add
theorem dX6_lot_0 : decode cX6_lot 0 = .ok (.iload_n 1, 1) := by decide +kernel
theorem dX6_lot_1 : decode cX6_lot 1 = .ok (.iconst 1, 1) := by decide +kernel
theorem dX6_lot_2 : decode cX6_lot 2 = .ok (.if_icmp .eq 8, 3) := by decide +kernel
theorem dX6_lot_5 : decode cX6_lot 5 = .ok (.iload_n 1, 1) := by decide +kernel
theorem dX6_lot_6 : decode cX6_lot 6 = .ok (.iconst 2, 1) := by decide +kernel
theorem dX6_lot_7 : decode cX6_lot 7 = .ok (.if_icmp .ne 14, 3) := by decide +kernel
theorem dX6_lot_10 : decode cX6_lot 10 = .ok (.iload_n 2, 1) := by decide +kernel
theorem dX6_lot_11 : decode cX6_lot 11 = .ok (.iconst 0, 1) := by decide +kernel
theorem dX6_lot_12 : decode cX6_lot 12 = .ok (.sipush 10000, 3) := by decide +kernel
theorem dX6_lot_15 : decode cX6_lot 15 = .ok (.invokestatic 55, 3) := by decide +kernel
theorem dX6_lot_18 : decode cX6_lot 18 = .ok (.ifCond .ne 13, 3) := by decide +kernel
theorem dX6_lot_21 : decode cX6_lot 21 = .ok (.new 59, 3) := by decide +kernel
theorem dX6_lot_24 : decode cX6_lot 24 = .ok (.dup, 1) := by decide +kernel
theorem dX6_lot_25 : decode cX6_lot 25 = .ok (.ldc 116, 2) := by decide +kernel
theorem dX6_lot_27 : decode cX6_lot 27 = .ok (.invokespecial 63, 3) := by decide +kernel
theorem dX6_lot_30 : decode cX6_lot 30 = .ok (.athrow, 1) := by decide +kernel
theorem dX6_lot_31 : decode cX6_lot 31 = .ok (.aload_n 0, 1) := by decide +kernel
theorem dX6_lot_32 : decode cX6_lot 32 = .ok (.getfield 19, 3) := by decide +kernel
theorem dX6_lot_35 : decode cX6_lot 35 = .ok (.getfield 105, 3) := by decide +kernel
theorem dX6_lot_38 : decode cX6_lot 38 = .ok (.bipush 12, 2) := by decide +kernel
theorem dX6_lot_40 : decode cX6_lot 40 = .ok (.if_icmp .lt 13, 3) := by decide +kernel
theorem dX6_lot_43 : decode cX6_lot 43 = .ok (.new 70, 3) := by decide +kernel
theorem dX6_lot_46 : decode cX6_lot 46 = .ok (.dup, 1) := by decide +kernel
theorem dX6_lot_47 : decode cX6_lot 47 = .ok (.ldc 118, 2) := by decide +kernel
theorem dX6_lot_49 : decode cX6_lot 49 = .ok (.invokespecial 74, 3) := by decide +kernel
theorem dX6_lot_52 : decode cX6_lot 52 = .ok (.athrow, 1) := by decide +kernel
theorem dX6_lot_53 : decode cX6_lot 53 = .ok (.aload_n 0, 1) := by decide +kernel
theorem dX6_lot_54 : decode cX6_lot 54 = .ok (.getfield 19, 3) := by decide +kernel
theorem dX6_lot_57 : decode cX6_lot 57 = .ok (.iload_n 1, 1) := by decide +kernel
theorem dX6_lot_58 : decode cX6_lot 58 = .ok (.iload_n 2, 1) := by decide +kernel
theorem dX6_lot_59 : decode cX6_lot 59 = .ok (.iconst (-1), 1) := by decide +kernel
theorem dX6_lot_60 : decode cX6_lot 60 = .ok (.iconst (-1), 1) := by decide +kernel
theorem dX6_lot_61 : decode cX6_lot 61 = .ok (.invokevirtual 115, 3) := by decide +kernel
theorem dX6_lot_64 : decode cX6_lot 64 = .ok (.ireturn, 1) := by decide +kernel
set_option maxRecDepth 20000 in
theorem ggX6_make_X6_isNumberOf : GoodIn wsX6_make wsX6_isNumberOf := goodIn_r _ [11] (by decide +kernel) (by decide +kernel)
set_option maxRecDepth 20000 in
theorem gX6_make_X6_isNumberOf : GoodIn wsX6_make (va_wsS RX6 79 yX6_isNumberOf wsX6_isNumberOf) := goodIn_app (goodIn_of _ (by decide +kernel)) ggX6_make_X6_isNumberOf
set_option maxRecDepth 20000 in
theorem ggX6_make_X6_isWithin : GoodIn wsX6_make wsX6_isWithin := goodIn_r _ [14] (by decide +kernel) (by decide +kernel)
set_option maxRecDepth 20000 in
theorem gX6_make_X6_isWithin : GoodIn wsX6_make (va_wsS RX6 55 yX6_isWithin wsX6_isWithin) := goodIn_app (goodIn_of _ (by decide +kernel)) ggX6_make_X6_isWithin
set_option maxRecDepth 20000 in
theorem ggX6_make_X3_areOfTheirKinds : GoodIn wsX6_make wsX3_areOfTheirKinds := goodIn_r _ [19, 20, 44, 45, 46, 47, 48, 49, 50, 51, 52] (by decide +kernel) (by decide +kernel)
set_option maxRecDepth 20000 in
theorem gX6_make_X3_areOfTheirKinds : GoodIn wsX6_make (wsV RX6 122 RX3 yX3_areOfTheirKinds wsX3_areOfTheirKinds) := goodIn_app (goodIn_of _ (by decide +kernel)) ggX6_make_X3_areOfTheirKinds
set_option maxRecDepth 20000 in
theorem ggX6_make_X3_haveAll : GoodIn wsX6_make wsX3_haveAll := goodIn_r _ [24, 25, 44, 45, 46, 47, 48, 49, 50, 51, 52] (by decide +kernel) (by decide +kernel)
set_option maxRecDepth 20000 in
theorem gX6_make_X3_haveAll : GoodIn wsX6_make (wsV RX6 130 RX3 yX3_haveAll wsX3_haveAll) := goodIn_app (goodIn_of _ (by decide +kernel)) ggX6_make_X3_haveAll
set_option maxRecDepth 20000 in
theorem ggX6_make_X3_addBatch : GoodIn wsX6_make wsX3_addBatch := goodIn_r _ [29, 30, 31, 32, 33, 34, 35, 18, 36, 25, 37, 44, 45, 46, 47, 48, 49, 50, 51, 52] (by decide +kernel) (by decide +kernel)
set_option maxRecDepth 20000 in
theorem gX6_make_X3_addBatch : GoodIn wsX6_make (wsV RX6 134 RX3 yX3_addBatch wsX3_addBatch) := goodIn_app (goodIn_of _ (by decide +kernel)) ggX6_make_X3_addBatch
theorem dX6_make_0 : decode cX6_make 0 = .ok (.iload_n 1, 1) := by decide +kernel
theorem dX6_make_1 : decode cX6_make 1 = .ok (.aload_n 0, 1) := by decide +kernel
theorem dX6_make_2 : decode cX6_make 2 = .ok (.getfield 19, 3) := by decide +kernel
theorem dX6_make_5 : decode cX6_make 5 = .ok (.getfield 105, 3) := by decide +kernel
theorem dX6_make_8 : decode cX6_make 8 = .ok (.invokestatic 79, 3) := by decide +kernel
theorem dX6_make_11 : decode cX6_make 11 = .ok (.ifCond .eq 31, 3) := by decide +kernel
theorem dX6_make_14 : decode cX6_make 14 = .ok (.iload_n 2, 1) := by decide +kernel
theorem dX6_make_15 : decode cX6_make 15 = .ok (.aload_n 0, 1) := by decide +kernel
theorem dX6_make_16 : decode cX6_make 16 = .ok (.getfield 19, 3) := by decide +kernel
theorem dX6_make_19 : decode cX6_make 19 = .ok (.getfield 105, 3) := by decide +kernel
theorem dX6_make_22 : decode cX6_make 22 = .ok (.invokestatic 79, 3) := by decide +kernel
theorem dX6_make_25 : decode cX6_make 25 = .ok (.ifCond .eq 17, 3) := by decide +kernel
theorem dX6_make_28 : decode cX6_make 28 = .ok (.iload_n 3, 1) := by decide +kernel
theorem dX6_make_29 : decode cX6_make 29 = .ok (.aload_n 0, 1) := by decide +kernel
theorem dX6_make_30 : decode cX6_make 30 = .ok (.getfield 19, 3) := by decide +kernel
theorem dX6_make_33 : decode cX6_make 33 = .ok (.getfield 105, 3) := by decide +kernel
theorem dX6_make_36 : decode cX6_make 36 = .ok (.invokestatic 79, 3) := by decide +kernel
theorem dX6_make_39 : decode cX6_make 39 = .ok (.ifCond .ne 13, 3) := by decide +kernel
theorem dX6_make_42 : decode cX6_make 42 = .ok (.new 82, 3) := by decide +kernel
theorem dX6_make_45 : decode cX6_make 45 = .ok (.dup, 1) := by decide +kernel
theorem dX6_make_46 : decode cX6_make 46 = .ok (.ldc 120, 2) := by decide +kernel
theorem dX6_make_48 : decode cX6_make 48 = .ok (.invokespecial 86, 3) := by decide +kernel
theorem dX6_make_51 : decode cX6_make 51 = .ok (.athrow, 1) := by decide +kernel
theorem dX6_make_52 : decode cX6_make 52 = .ok (.iload 4, 2) := by decide +kernel
theorem dX6_make_54 : decode cX6_make 54 = .ok (.iconst 1, 1) := by decide +kernel
theorem dX6_make_55 : decode cX6_make 55 = .ok (.sipush 1000, 3) := by decide +kernel
theorem dX6_make_58 : decode cX6_make 58 = .ok (.invokestatic 55, 3) := by decide +kernel
theorem dX6_make_61 : decode cX6_make 61 = .ok (.ifCond .eq 16, 3) := by decide +kernel
theorem dX6_make_64 : decode cX6_make 64 = .ok (.aload_n 0, 1) := by decide +kernel
theorem dX6_make_65 : decode cX6_make 65 = .ok (.getfield 19, 3) := by decide +kernel
theorem dX6_make_68 : decode cX6_make 68 = .ok (.iload_n 1, 1) := by decide +kernel
theorem dX6_make_69 : decode cX6_make 69 = .ok (.iload_n 2, 1) := by decide +kernel
theorem dX6_make_70 : decode cX6_make 70 = .ok (.iload_n 3, 1) := by decide +kernel
theorem dX6_make_71 : decode cX6_make 71 = .ok (.invokevirtual 122, 3) := by decide +kernel
theorem dX6_make_74 : decode cX6_make 74 = .ok (.ifCond .ne 13, 3) := by decide +kernel
theorem dX6_make_77 : decode cX6_make 77 = .ok (.new 59, 3) := by decide +kernel
theorem dX6_make_80 : decode cX6_make 80 = .ok (.dup, 1) := by decide +kernel
theorem dX6_make_81 : decode cX6_make 81 = .ok (.ldc 125, 2) := by decide +kernel
theorem dX6_make_83 : decode cX6_make 83 = .ok (.invokespecial 63, 3) := by decide +kernel
theorem dX6_make_86 : decode cX6_make 86 = .ok (.athrow, 1) := by decide +kernel
theorem dX6_make_87 : decode cX6_make 87 = .ok (.aload_n 0, 1) := by decide +kernel
theorem dX6_make_88 : decode cX6_make 88 = .ok (.getfield 19, 3) := by decide +kernel
theorem dX6_make_91 : decode cX6_make 91 = .ok (.getfield 127, 3) := by decide +kernel
theorem dX6_make_94 : decode cX6_make 94 = .ok (.bipush 60, 2) := by decide +kernel
theorem dX6_make_96 : decode cX6_make 96 = .ok (.if_icmp .ge 18, 3) := by decide +kernel
theorem dX6_make_99 : decode cX6_make 99 = .ok (.aload_n 0, 1) := by decide +kernel
theorem dX6_make_100 : decode cX6_make 100 = .ok (.getfield 19, 3) := by decide +kernel
theorem dX6_make_103 : decode cX6_make 103 = .ok (.iload_n 1, 1) := by decide +kernel
theorem dX6_make_104 : decode cX6_make 104 = .ok (.iload_n 2, 1) := by decide +kernel
theorem dX6_make_105 : decode cX6_make 105 = .ok (.iload_n 3, 1) := by decide +kernel
theorem dX6_make_106 : decode cX6_make 106 = .ok (.iload 4, 2) := by decide +kernel
theorem dX6_make_108 : decode cX6_make 108 = .ok (.invokevirtual 130, 3) := by decide +kernel
theorem dX6_make_111 : decode cX6_make 111 = .ok (.ifCond .ne 5, 3) := by decide +kernel
theorem dX6_make_114 : decode cX6_make 114 = .ok (.iconst (-1), 1) := by decide +kernel
theorem dX6_make_115 : decode cX6_make 115 = .ok (.ireturn, 1) := by decide +kernel
theorem dX6_make_116 : decode cX6_make 116 = .ok (.aload_n 0, 1) := by decide +kernel
theorem dX6_make_117 : decode cX6_make 117 = .ok (.getfield 19, 3) := by decide +kernel
theorem dX6_make_120 : decode cX6_make 120 = .ok (.iload_n 1, 1) := by decide +kernel
theorem dX6_make_121 : decode cX6_make 121 = .ok (.iload_n 2, 1) := by decide +kernel
theorem dX6_make_122 : decode cX6_make 122 = .ok (.iload_n 3, 1) := by decide +kernel
theorem dX6_make_123 : decode cX6_make 123 = .ok (.iload 4, 2) := by decide +kernel
theorem dX6_make_125 : decode cX6_make 125 = .ok (.invokevirtual 134, 3) := by decide +kernel
theorem dX6_make_128 : decode cX6_make 128 = .ok (.ireturn, 1) := by decide +kernel
set_option maxRecDepth 20000 in
theorem ggX6_look_X6_isNumberOf : GoodIn wsX6_look wsX6_isNumberOf := goodIn_r _ [17] (by decide +kernel) (by decide +kernel)
set_option maxRecDepth 20000 in
theorem gX6_look_X6_isNumberOf : GoodIn wsX6_look (va_wsS RX6 79 yX6_isNumberOf wsX6_isNumberOf) := goodIn_app (goodIn_of _ (by decide +kernel)) ggX6_look_X6_isNumberOf
set_option maxRecDepth 20000 in
theorem ggX6_look_X5_batchesThat : GoodIn wsX6_look wsX5_batchesThat := goodIn_r _ [22, 23, 24, 25, 26, 27, 28, 21, 29, 30, 31, 54, 55, 56, 57, 58, 59] (by decide +kernel) (by decide +kernel)
set_option maxRecDepth 20000 in
theorem gX6_look_X5_batchesThat : GoodIn wsX6_look (wsV RX6 155 RX5 yX5_batchesThat wsX5_batchesThat) := goodIn_app (goodIn_of _ (by decide +kernel)) ggX6_look_X5_batchesThat
set_option maxRecDepth 20000 in
theorem ggX6_look_X3_batchesOf : GoodIn wsX6_look wsX3_batchesOf := goodIn_r _ [36, 37, 38, 45, 46, 47, 48, 49, 50, 51, 52, 53] (by decide +kernel) (by decide +kernel)
set_option maxRecDepth 20000 in
theorem gX6_look_X3_batchesOf : GoodIn wsX6_look (wsV RX6 159 RX3 yX3_batchesOf wsX3_batchesOf) := goodIn_app (goodIn_of _ (by decide +kernel)) ggX6_look_X3_batchesOf
theorem dX6_look_0 : decode cX6_look 0 = .ok (.iload_n 1, 1) := by decide +kernel
theorem dX6_look_1 : decode cX6_look 1 = .ok (.aload_n 0, 1) := by decide +kernel
theorem dX6_look_2 : decode cX6_look 2 = .ok (.getfield 19, 3) := by decide +kernel
theorem dX6_look_5 : decode cX6_look 5 = .ok (.getfield 105, 3) := by decide +kernel
theorem dX6_look_8 : decode cX6_look 8 = .ok (.invokestatic 79, 3) := by decide +kernel
theorem dX6_look_11 : decode cX6_look 11 = .ok (.ifCond .ne 13, 3) := by decide +kernel
theorem dX6_look_14 : decode cX6_look 14 = .ok (.new 82, 3) := by decide +kernel
theorem dX6_look_17 : decode cX6_look 17 = .ok (.dup, 1) := by decide +kernel
theorem dX6_look_18 : decode cX6_look 18 = .ok (.ldc 120, 2) := by decide +kernel
theorem dX6_look_20 : decode cX6_look 20 = .ok (.invokespecial 86, 3) := by decide +kernel
theorem dX6_look_23 : decode cX6_look 23 = .ok (.athrow, 1) := by decide +kernel
theorem dX6_look_24 : decode cX6_look 24 = .ok (.iload_n 2, 1) := by decide +kernel
theorem dX6_look_25 : decode cX6_look 25 = .ok (.tableswitch 113 0 5 #[39, 49, 59, 69, 79, 89], 39) := by decide +kernel
theorem dX6_look_64 : decode cX6_look 64 = .ok (.aload_n 0, 1) := by decide +kernel
theorem dX6_look_65 : decode cX6_look 65 = .ok (.getfield 19, 3) := by decide +kernel
theorem dX6_look_68 : decode cX6_look 68 = .ok (.getfield 137, 3) := by decide +kernel
theorem dX6_look_71 : decode cX6_look 71 = .ok (.iload_n 1, 1) := by decide +kernel
theorem dX6_look_72 : decode cX6_look 72 = .ok (.iaload, 1) := by decide +kernel
theorem dX6_look_73 : decode cX6_look 73 = .ok (.ireturn, 1) := by decide +kernel
theorem dX6_look_74 : decode cX6_look 74 = .ok (.aload_n 0, 1) := by decide +kernel
theorem dX6_look_75 : decode cX6_look 75 = .ok (.getfield 19, 3) := by decide +kernel
theorem dX6_look_78 : decode cX6_look 78 = .ok (.getfield 140, 3) := by decide +kernel
theorem dX6_look_81 : decode cX6_look 81 = .ok (.iload_n 1, 1) := by decide +kernel
theorem dX6_look_82 : decode cX6_look 82 = .ok (.iaload, 1) := by decide +kernel
theorem dX6_look_83 : decode cX6_look 83 = .ok (.ireturn, 1) := by decide +kernel
theorem dX6_look_84 : decode cX6_look 84 = .ok (.aload_n 0, 1) := by decide +kernel
theorem dX6_look_85 : decode cX6_look 85 = .ok (.getfield 19, 3) := by decide +kernel
theorem dX6_look_88 : decode cX6_look 88 = .ok (.getfield 143, 3) := by decide +kernel
theorem dX6_look_91 : decode cX6_look 91 = .ok (.iload_n 1, 1) := by decide +kernel
theorem dX6_look_92 : decode cX6_look 92 = .ok (.iaload, 1) := by decide +kernel
theorem dX6_look_93 : decode cX6_look 93 = .ok (.ireturn, 1) := by decide +kernel
theorem dX6_look_94 : decode cX6_look 94 = .ok (.aload_n 0, 1) := by decide +kernel
theorem dX6_look_95 : decode cX6_look 95 = .ok (.getfield 19, 3) := by decide +kernel
theorem dX6_look_98 : decode cX6_look 98 = .ok (.getfield 146, 3) := by decide +kernel
theorem dX6_look_101 : decode cX6_look 101 = .ok (.iload_n 1, 1) := by decide +kernel
theorem dX6_look_102 : decode cX6_look 102 = .ok (.iaload, 1) := by decide +kernel
theorem dX6_look_103 : decode cX6_look 103 = .ok (.ireturn, 1) := by decide +kernel
theorem dX6_look_104 : decode cX6_look 104 = .ok (.aload_n 0, 1) := by decide +kernel
theorem dX6_look_105 : decode cX6_look 105 = .ok (.getfield 19, 3) := by decide +kernel
theorem dX6_look_108 : decode cX6_look 108 = .ok (.getfield 149, 3) := by decide +kernel
theorem dX6_look_111 : decode cX6_look 111 = .ok (.iload_n 1, 1) := by decide +kernel
theorem dX6_look_112 : decode cX6_look 112 = .ok (.iaload, 1) := by decide +kernel
theorem dX6_look_113 : decode cX6_look 113 = .ok (.ireturn, 1) := by decide +kernel
theorem dX6_look_114 : decode cX6_look 114 = .ok (.aload_n 0, 1) := by decide +kernel
theorem dX6_look_115 : decode cX6_look 115 = .ok (.getfield 19, 3) := by decide +kernel
theorem dX6_look_118 : decode cX6_look 118 = .ok (.iload_n 1, 1) := by decide +kernel
theorem dX6_look_119 : decode cX6_look 119 = .ok (.aload_n 0, 1) := by decide +kernel
theorem dX6_look_120 : decode cX6_look 120 = .ok (.getfield 26, 3) := by decide +kernel
theorem dX6_look_123 : decode cX6_look 123 = .ok (.iconst 1, 1) := by decide +kernel
theorem dX6_look_124 : decode cX6_look 124 = .ok (.aload_n 0, 1) := by decide +kernel
theorem dX6_look_125 : decode cX6_look 125 = .ok (.getfield 26, 3) := by decide +kernel
theorem dX6_look_128 : decode cX6_look 128 = .ok (.getfield 152, 3) := by decide +kernel
theorem dX6_look_131 : decode cX6_look 131 = .ok (.invokevirtual 155, 3) := by decide +kernel
theorem dX6_look_134 : decode cX6_look 134 = .ok (.invokevirtual 159, 3) := by decide +kernel
theorem dX6_look_137 : decode cX6_look 137 = .ok (.ireturn, 1) := by decide +kernel
theorem dX6_look_138 : decode cX6_look 138 = .ok (.new 163, 3) := by decide +kernel
theorem dX6_look_141 : decode cX6_look 141 = .ok (.dup, 1) := by decide +kernel
theorem dX6_look_142 : decode cX6_look 142 = .ok (.ldc 165, 2) := by decide +kernel
theorem dX6_look_144 : decode cX6_look 144 = .ok (.invokespecial 167, 3) := by decide +kernel
theorem dX6_look_147 : decode cX6_look 147 = .ok (.athrow, 1) := by decide +kernel
set_option maxRecDepth 20000 in
theorem ggX6_trial_X6_isNumberOf : GoodIn wsX6_trial wsX6_isNumberOf := goodIn_r _ [10] (by decide +kernel) (by decide +kernel)
set_option maxRecDepth 20000 in
theorem gX6_trial_X6_isNumberOf : GoodIn wsX6_trial (va_wsS RX6 79 yX6_isNumberOf wsX6_isNumberOf) := goodIn_app (goodIn_of _ (by decide +kernel)) ggX6_trial_X6_isNumberOf
set_option maxRecDepth 20000 in
theorem ggX6_trial_X5_add : GoodIn wsX6_trial wsX5_add := goodIn_r _ [15, 16, 17, 18, 19, 20, 21, 37, 38, 39, 40, 41, 42] (by decide +kernel) (by decide +kernel)
set_option maxRecDepth 20000 in
theorem gX6_trial_X5_add : GoodIn wsX6_trial (wsV RX6 171 RX5 yX5_add wsX5_add) := goodIn_app (goodIn_of _ (by decide +kernel)) ggX6_trial_X5_add
theorem dX6_trial_0 : decode cX6_trial 0 = .ok (.iload_n 1, 1) := by decide +kernel
theorem dX6_trial_1 : decode cX6_trial 1 = .ok (.aload_n 0, 1) := by decide +kernel
theorem dX6_trial_2 : decode cX6_trial 2 = .ok (.getfield 19, 3) := by decide +kernel
theorem dX6_trial_5 : decode cX6_trial 5 = .ok (.getfield 127, 3) := by decide +kernel
theorem dX6_trial_8 : decode cX6_trial 8 = .ok (.invokestatic 79, 3) := by decide +kernel
theorem dX6_trial_11 : decode cX6_trial 11 = .ok (.ifCond .ne 13, 3) := by decide +kernel
theorem dX6_trial_14 : decode cX6_trial 14 = .ok (.new 82, 3) := by decide +kernel
theorem dX6_trial_17 : decode cX6_trial 17 = .ok (.dup, 1) := by decide +kernel
theorem dX6_trial_18 : decode cX6_trial 18 = .ok (.ldc 168, 2) := by decide +kernel
theorem dX6_trial_20 : decode cX6_trial 20 = .ok (.invokespecial 86, 3) := by decide +kernel
theorem dX6_trial_23 : decode cX6_trial 23 = .ok (.athrow, 1) := by decide +kernel
theorem dX6_trial_24 : decode cX6_trial 24 = .ok (.aload_n 0, 1) := by decide +kernel
theorem dX6_trial_25 : decode cX6_trial 25 = .ok (.getfield 26, 3) := by decide +kernel
theorem dX6_trial_28 : decode cX6_trial 28 = .ok (.getfield 170, 3) := by decide +kernel
theorem dX6_trial_31 : decode cX6_trial 31 = .ok (.bipush 100, 2) := by decide +kernel
theorem dX6_trial_33 : decode cX6_trial 33 = .ok (.if_icmp .lt 7, 3) := by decide +kernel
theorem dX6_trial_36 : decode cX6_trial 36 = .ok (.iconst (-1), 1) := by decide +kernel
theorem dX6_trial_37 : decode cX6_trial 37 = .ok (.goto 12, 3) := by decide +kernel
theorem dX6_trial_40 : decode cX6_trial 40 = .ok (.aload_n 0, 1) := by decide +kernel
theorem dX6_trial_41 : decode cX6_trial 41 = .ok (.getfield 26, 3) := by decide +kernel
theorem dX6_trial_44 : decode cX6_trial 44 = .ok (.iload_n 1, 1) := by decide +kernel
theorem dX6_trial_45 : decode cX6_trial 45 = .ok (.iload_n 2, 1) := by decide +kernel
theorem dX6_trial_46 : decode cX6_trial 46 = .ok (.invokevirtual 171, 3) := by decide +kernel
theorem dX6_trial_49 : decode cX6_trial 49 = .ok (.ireturn, 1) := by decide +kernel
set_option maxRecDepth 20000 in
theorem ggX6_undo_X6_isNumberOf : GoodIn wsX6_undo wsX6_isNumberOf := goodIn_r _ [8] (by decide +kernel) (by decide +kernel)
set_option maxRecDepth 20000 in
theorem gX6_undo_X6_isNumberOf : GoodIn wsX6_undo (va_wsS RX6 79 yX6_isNumberOf wsX6_isNumberOf) := goodIn_app (goodIn_of _ (by decide +kernel)) ggX6_undo_X6_isNumberOf
set_option maxRecDepth 20000 in
theorem ggX6_undo_X5_takeBack : GoodIn wsX6_undo wsX5_takeBack := goodIn_r _ [13, 14, 15, 22, 23, 24, 25, 26, 27] (by decide +kernel) (by decide +kernel)
set_option maxRecDepth 20000 in
theorem gX6_undo_X5_takeBack : GoodIn wsX6_undo (wsV RX6 176 RX5 yX5_takeBack wsX5_takeBack) := goodIn_app (goodIn_of _ (by decide +kernel)) ggX6_undo_X5_takeBack
theorem dX6_undo_0 : decode cX6_undo 0 = .ok (.iload_n 1, 1) := by decide +kernel
theorem dX6_undo_1 : decode cX6_undo 1 = .ok (.aload_n 0, 1) := by decide +kernel
theorem dX6_undo_2 : decode cX6_undo 2 = .ok (.getfield 26, 3) := by decide +kernel
theorem dX6_undo_5 : decode cX6_undo 5 = .ok (.getfield 170, 3) := by decide +kernel
theorem dX6_undo_8 : decode cX6_undo 8 = .ok (.invokestatic 79, 3) := by decide +kernel
theorem dX6_undo_11 : decode cX6_undo 11 = .ok (.ifCond .ne 13, 3) := by decide +kernel
theorem dX6_undo_14 : decode cX6_undo 14 = .ok (.new 82, 3) := by decide +kernel
theorem dX6_undo_17 : decode cX6_undo 17 = .ok (.dup, 1) := by decide +kernel
theorem dX6_undo_18 : decode cX6_undo 18 = .ok (.ldc 174, 2) := by decide +kernel
theorem dX6_undo_20 : decode cX6_undo 20 = .ok (.invokespecial 86, 3) := by decide +kernel
theorem dX6_undo_23 : decode cX6_undo 23 = .ok (.athrow, 1) := by decide +kernel
theorem dX6_undo_24 : decode cX6_undo 24 = .ok (.aload_n 0, 1) := by decide +kernel
theorem dX6_undo_25 : decode cX6_undo 25 = .ok (.getfield 26, 3) := by decide +kernel
theorem dX6_undo_28 : decode cX6_undo 28 = .ok (.iload_n 1, 1) := by decide +kernel
theorem dX6_undo_29 : decode cX6_undo 29 = .ok (.invokevirtual 176, 3) := by decide +kernel
theorem dX6_undo_32 : decode cX6_undo 32 = .ok (.ireturn, 1) := by decide +kernel
set_option maxRecDepth 20000 in
theorem ggX6_days_X6_isWithin : GoodIn wsX6_days wsX6_isWithin := goodIn_r _ [12] (by decide +kernel) (by decide +kernel)
set_option maxRecDepth 20000 in
theorem gX6_days_X6_isWithin : GoodIn wsX6_days (va_wsS RX6 55 yX6_isWithin wsX6_isWithin) := goodIn_app (goodIn_of _ (by decide +kernel)) ggX6_days_X6_isWithin
theorem dX6_days_0 : decode cX6_days 0 = .ok (.iload_n 1, 1) := by decide +kernel
theorem dX6_days_1 : decode cX6_days 1 = .ok (.iconst 0, 1) := by decide +kernel
theorem dX6_days_2 : decode cX6_days 2 = .ok (.bipush 100, 2) := by decide +kernel
theorem dX6_days_4 : decode cX6_days 4 = .ok (.invokestatic 55, 3) := by decide +kernel
theorem dX6_days_7 : decode cX6_days 7 = .ok (.ifCond .ne 13, 3) := by decide +kernel
theorem dX6_days_10 : decode cX6_days 10 = .ok (.new 59, 3) := by decide +kernel
theorem dX6_days_13 : decode cX6_days 13 = .ok (.dup, 1) := by decide +kernel
theorem dX6_days_14 : decode cX6_days 14 = .ok (.ldc 180, 2) := by decide +kernel
theorem dX6_days_16 : decode cX6_days 16 = .ok (.invokespecial 63, 3) := by decide +kernel
theorem dX6_days_19 : decode cX6_days 19 = .ok (.athrow, 1) := by decide +kernel
theorem dX6_days_20 : decode cX6_days 20 = .ok (.aload_n 0, 1) := by decide +kernel
theorem dX6_days_21 : decode cX6_days 21 = .ok (.getfield 26, 3) := by decide +kernel
theorem dX6_days_24 : decode cX6_days 24 = .ok (.aload_n 0, 1) := by decide +kernel
theorem dX6_days_25 : decode cX6_days 25 = .ok (.getfield 26, 3) := by decide +kernel
theorem dX6_days_28 : decode cX6_days 28 = .ok (.getfield 152, 3) := by decide +kernel
theorem dX6_days_31 : decode cX6_days 31 = .ok (.iload_n 1, 1) := by decide +kernel
theorem dX6_days_32 : decode cX6_days 32 = .ok (.iadd, 1) := by decide +kernel
theorem dX6_days_33 : decode cX6_days 33 = .ok (.sipush 1000, 3) := by decide +kernel
theorem dX6_days_36 : decode cX6_days 36 = .ok (.invokestatic 182, 3) := by decide +kernel
theorem dX6_days_39 : decode cX6_days 39 = .ok (.putfield 152, 3) := by decide +kernel
theorem dX6_days_42 : decode cX6_days 42 = .ok (.aload_n 0, 1) := by decide +kernel
theorem dX6_days_43 : decode cX6_days 43 = .ok (.getfield 26, 3) := by decide +kernel
theorem dX6_days_46 : decode cX6_days 46 = .ok (.getfield 152, 3) := by decide +kernel
theorem dX6_days_49 : decode cX6_days 49 = .ok (.ireturn, 1) := by decide +kernel
set_option maxRecDepth 20000 in
theorem ggX6_explain_X6_isWithin : GoodIn wsX6_explain wsX6_isWithin := goodIn_r _ [12] (by decide +kernel) (by decide +kernel)
set_option maxRecDepth 20000 in
theorem gX6_explain_X6_isWithin : GoodIn wsX6_explain (va_wsS RX6 55 yX6_isWithin wsX6_isWithin) := goodIn_app (goodIn_of _ (by decide +kernel)) ggX6_explain_X6_isWithin
set_option maxRecDepth 20000 in
theorem ggX6_explain_X5_batchesThat : GoodIn wsX6_explain wsX5_batchesThat := goodIn_r _ [17, 18, 19, 20, 21, 22, 23, 16, 24, 25, 26, 77, 78, 79, 80, 81, 82] (by decide +kernel) (by decide +kernel)
set_option maxRecDepth 20000 in
theorem gX6_explain_X5_batchesThat : GoodIn wsX6_explain (wsV RX6 155 RX5 yX5_batchesThat wsX5_batchesThat) := goodIn_app (goodIn_of _ (by decide +kernel)) ggX6_explain_X5_batchesThat
set_option maxRecDepth 20000 in
theorem ggX6_explain_X0_seek : GoodIn wsX6_explain wsX0_seek := goodIn_r _ [31, 32, 33, 34, 35, 36, 37, 38, 39, 40, 41, 42, 43, 44, 30, 45, 46, 47, 48, 49, 50, 51, 52, 53, 54, 55, 56, 57, 58, 59, 60, 61, 62, 63, 64, 65, 72, 73, 74, 75, 76, 83, 84, 85, 86, 87, 88, 89, 90, 91] (by decide +kernel) (by decide +kernel)
set_option maxRecDepth 20000 in
theorem gX6_explain_X0_seek : GoodIn wsX6_explain (wsV RX6 188 RX0 yX0_seek wsX0_seek) := goodIn_app (goodIn_of _ (by decide +kernel)) ggX6_explain_X0_seek
theorem dX6_explain_0 : decode cX6_explain 0 = .ok (.iload_n 2, 1) := by decide +kernel
theorem dX6_explain_1 : decode cX6_explain 1 = .ok (.iconst 0, 1) := by decide +kernel
theorem dX6_explain_2 : decode cX6_explain 2 = .ok (.iconst 2, 1) := by decide +kernel
theorem dX6_explain_3 : decode cX6_explain 3 = .ok (.invokestatic 55, 3) := by decide +kernel
theorem dX6_explain_6 : decode cX6_explain 6 = .ok (.ifCond .ne 13, 3) := by decide +kernel
theorem dX6_explain_9 : decode cX6_explain 9 = .ok (.new 163, 3) := by decide +kernel
theorem dX6_explain_12 : decode cX6_explain 12 = .ok (.dup, 1) := by decide +kernel
theorem dX6_explain_13 : decode cX6_explain 13 = .ok (.ldc 165, 2) := by decide +kernel
theorem dX6_explain_15 : decode cX6_explain 15 = .ok (.invokespecial 167, 3) := by decide +kernel
theorem dX6_explain_18 : decode cX6_explain 18 = .ok (.athrow, 1) := by decide +kernel
theorem dX6_explain_19 : decode cX6_explain 19 = .ok (.aload_n 0, 1) := by decide +kernel
theorem dX6_explain_20 : decode cX6_explain 20 = .ok (.getfield 33, 3) := by decide +kernel
theorem dX6_explain_23 : decode cX6_explain 23 = .ok (.aload_n 0, 1) := by decide +kernel
theorem dX6_explain_24 : decode cX6_explain 24 = .ok (.getfield 19, 3) := by decide +kernel
theorem dX6_explain_27 : decode cX6_explain 27 = .ok (.aload_n 0, 1) := by decide +kernel
theorem dX6_explain_28 : decode cX6_explain 28 = .ok (.getfield 26, 3) := by decide +kernel
theorem dX6_explain_31 : decode cX6_explain 31 = .ok (.iconst 1, 1) := by decide +kernel
theorem dX6_explain_32 : decode cX6_explain 32 = .ok (.iload_n 1, 1) := by decide +kernel
theorem dX6_explain_33 : decode cX6_explain 33 = .ok (.invokevirtual 155, 3) := by decide +kernel
theorem dX6_explain_36 : decode cX6_explain 36 = .ok (.aload_n 0, 1) := by decide +kernel
theorem dX6_explain_37 : decode cX6_explain 37 = .ok (.getfield 26, 3) := by decide +kernel
theorem dX6_explain_40 : decode cX6_explain 40 = .ok (.iconst 0, 1) := by decide +kernel
theorem dX6_explain_41 : decode cX6_explain 41 = .ok (.iload_n 1, 1) := by decide +kernel
theorem dX6_explain_42 : decode cX6_explain 42 = .ok (.invokevirtual 155, 3) := by decide +kernel
theorem dX6_explain_45 : decode cX6_explain 45 = .ok (.invokevirtual 188, 3) := by decide +kernel
theorem dX6_explain_48 : decode cX6_explain 48 = .ok (.iload_n 2, 1) := by decide +kernel
theorem dX6_explain_49 : decode cX6_explain 49 = .ok (.ifCond .ne 11, 3) := by decide +kernel
theorem dX6_explain_52 : decode cX6_explain 52 = .ok (.aload_n 0, 1) := by decide +kernel
theorem dX6_explain_53 : decode cX6_explain 53 = .ok (.getfield 33, 3) := by decide +kernel
theorem dX6_explain_56 : decode cX6_explain 56 = .ok (.getfield 191, 3) := by decide +kernel
theorem dX6_explain_59 : decode cX6_explain 59 = .ok (.ireturn, 1) := by decide +kernel
theorem dX6_explain_60 : decode cX6_explain 60 = .ok (.iload_n 2, 1) := by decide +kernel
theorem dX6_explain_61 : decode cX6_explain 61 = .ok (.iconst 1, 1) := by decide +kernel
theorem dX6_explain_62 : decode cX6_explain 62 = .ok (.if_icmp .ne 13, 3) := by decide +kernel
theorem dX6_explain_65 : decode cX6_explain 65 = .ok (.aload_n 0, 1) := by decide +kernel
theorem dX6_explain_66 : decode cX6_explain 66 = .ok (.getfield 33, 3) := by decide +kernel
theorem dX6_explain_69 : decode cX6_explain 69 = .ok (.getfield 194, 3) := by decide +kernel
theorem dX6_explain_72 : decode cX6_explain 72 = .ok (.goto 10, 3) := by decide +kernel
theorem dX6_explain_75 : decode cX6_explain 75 = .ok (.aload_n 0, 1) := by decide +kernel
theorem dX6_explain_76 : decode cX6_explain 76 = .ok (.getfield 33, 3) := by decide +kernel
theorem dX6_explain_79 : decode cX6_explain 79 = .ok (.getfield 197, 3) := by decide +kernel
theorem dX6_explain_82 : decode cX6_explain 82 = .ok (.ireturn, 1) := by decide +kernel
set_option maxRecDepth 20000 in
theorem ggX6_slats_X6_isWithin : GoodIn wsX6_slats wsX6_isWithin := goodIn_r _ [7] (by decide +kernel) (by decide +kernel)
set_option maxRecDepth 20000 in
theorem gX6_slats_X6_isWithin : GoodIn wsX6_slats (va_wsS RX6 55 yX6_isWithin wsX6_isWithin) := goodIn_app (goodIn_of _ (by decide +kernel)) ggX6_slats_X6_isWithin
set_option maxRecDepth 20000 in
theorem ggX6_slats_X2_putSlats : GoodIn wsX6_slats wsX2_putSlats := goodIn_r _ [12, 13, 14, 21, 22, 23, 24, 25, 26, 27] (by decide +kernel) (by decide +kernel)
set_option maxRecDepth 20000 in
theorem gX6_slats_X2_putSlats : GoodIn wsX6_slats (wsV RX6 202 RX2 yX2_putSlats wsX2_putSlats) := goodIn_app (goodIn_of _ (by decide +kernel)) ggX6_slats_X2_putSlats
theorem dX6_slats_0 : decode cX6_slats 0 = .ok (.iload_n 1, 1) := by decide +kernel
theorem dX6_slats_1 : decode cX6_slats 1 = .ok (.iconst 0, 1) := by decide +kernel
theorem dX6_slats_2 : decode cX6_slats 2 = .ok (.bipush 9, 2) := by decide +kernel
theorem dX6_slats_4 : decode cX6_slats 4 = .ok (.invokestatic 55, 3) := by decide +kernel
theorem dX6_slats_7 : decode cX6_slats 7 = .ok (.ifCond .eq 14, 3) := by decide +kernel
theorem dX6_slats_10 : decode cX6_slats 10 = .ok (.iload_n 2, 1) := by decide +kernel
theorem dX6_slats_11 : decode cX6_slats 11 = .ok (.iconst 0, 1) := by decide +kernel
theorem dX6_slats_12 : decode cX6_slats 12 = .ok (.sipush 200, 3) := by decide +kernel
theorem dX6_slats_15 : decode cX6_slats 15 = .ok (.invokestatic 55, 3) := by decide +kernel
theorem dX6_slats_18 : decode cX6_slats 18 = .ok (.ifCond .ne 13, 3) := by decide +kernel
theorem dX6_slats_21 : decode cX6_slats 21 = .ok (.new 59, 3) := by decide +kernel
theorem dX6_slats_24 : decode cX6_slats 24 = .ok (.dup, 1) := by decide +kernel
theorem dX6_slats_25 : decode cX6_slats 25 = .ok (.ldc 200, 2) := by decide +kernel
theorem dX6_slats_27 : decode cX6_slats 27 = .ok (.invokespecial 63, 3) := by decide +kernel
theorem dX6_slats_30 : decode cX6_slats 30 = .ok (.athrow, 1) := by decide +kernel
theorem dX6_slats_31 : decode cX6_slats 31 = .ok (.aload_n 0, 1) := by decide +kernel
theorem dX6_slats_32 : decode cX6_slats 32 = .ok (.getfield 40, 3) := by decide +kernel
theorem dX6_slats_35 : decode cX6_slats 35 = .ok (.iload_n 1, 1) := by decide +kernel
theorem dX6_slats_36 : decode cX6_slats 36 = .ok (.iload_n 2, 1) := by decide +kernel
theorem dX6_slats_37 : decode cX6_slats 37 = .ok (.invokevirtual 202, 3) := by decide +kernel
theorem dX6_slats_40 : decode cX6_slats 40 = .ok (.ireturn, 1) := by decide +kernel
set_option maxRecDepth 20000 in
theorem ggX6_grade_X6_isWithin : GoodIn wsX6_grade wsX6_isWithin := goodIn_r _ [8] (by decide +kernel) (by decide +kernel)
set_option maxRecDepth 20000 in
theorem gX6_grade_X6_isWithin : GoodIn wsX6_grade (va_wsS RX6 55 yX6_isWithin wsX6_isWithin) := goodIn_app (goodIn_of _ (by decide +kernel)) ggX6_grade_X6_isWithin
set_option maxRecDepth 20000 in
theorem ggX6_grade_X2_add : GoodIn wsX6_grade wsX2_add := goodIn_r _ [13, 14, 15, 16, 17, 24, 25, 26, 27, 28, 29, 30] (by decide +kernel) (by decide +kernel)
set_option maxRecDepth 20000 in
theorem gX6_grade_X2_add : GoodIn wsX6_grade (wsV RX6 206 RX2 yX2_add wsX2_add) := goodIn_app (goodIn_of _ (by decide +kernel)) ggX6_grade_X2_add
theorem dX6_grade_0 : decode cX6_grade 0 = .ok (.iload_n 1, 1) := by decide +kernel
theorem dX6_grade_1 : decode cX6_grade 1 = .ok (.iconst 0, 1) := by decide +kernel
theorem dX6_grade_2 : decode cX6_grade 2 = .ok (.bipush 9, 2) := by decide +kernel
theorem dX6_grade_4 : decode cX6_grade 4 = .ok (.invokestatic 55, 3) := by decide +kernel
theorem dX6_grade_7 : decode cX6_grade 7 = .ok (.ifCond .eq 25, 3) := by decide +kernel
theorem dX6_grade_10 : decode cX6_grade 10 = .ok (.iload_n 2, 1) := by decide +kernel
theorem dX6_grade_11 : decode cX6_grade 11 = .ok (.iconst 1, 1) := by decide +kernel
theorem dX6_grade_12 : decode cX6_grade 12 = .ok (.sipush 1000, 3) := by decide +kernel
theorem dX6_grade_15 : decode cX6_grade 15 = .ok (.invokestatic 55, 3) := by decide +kernel
theorem dX6_grade_18 : decode cX6_grade 18 = .ok (.ifCond .eq 14, 3) := by decide +kernel
theorem dX6_grade_21 : decode cX6_grade 21 = .ok (.iload_n 3, 1) := by decide +kernel
theorem dX6_grade_22 : decode cX6_grade 22 = .ok (.iconst 0, 1) := by decide +kernel
theorem dX6_grade_23 : decode cX6_grade 23 = .ok (.sipush 500, 3) := by decide +kernel
theorem dX6_grade_26 : decode cX6_grade 26 = .ok (.invokestatic 55, 3) := by decide +kernel
theorem dX6_grade_29 : decode cX6_grade 29 = .ok (.ifCond .ne 13, 3) := by decide +kernel
theorem dX6_grade_32 : decode cX6_grade 32 = .ok (.new 59, 3) := by decide +kernel
theorem dX6_grade_35 : decode cX6_grade 35 = .ok (.dup, 1) := by decide +kernel
theorem dX6_grade_36 : decode cX6_grade 36 = .ok (.ldc 200, 2) := by decide +kernel
theorem dX6_grade_38 : decode cX6_grade 38 = .ok (.invokespecial 63, 3) := by decide +kernel
theorem dX6_grade_41 : decode cX6_grade 41 = .ok (.athrow, 1) := by decide +kernel
theorem dX6_grade_42 : decode cX6_grade 42 = .ok (.aload_n 0, 1) := by decide +kernel
theorem dX6_grade_43 : decode cX6_grade 43 = .ok (.getfield 40, 3) := by decide +kernel
theorem dX6_grade_46 : decode cX6_grade 46 = .ok (.getfield 205, 3) := by decide +kernel
theorem dX6_grade_49 : decode cX6_grade 49 = .ok (.bipush 6, 2) := by decide +kernel
theorem dX6_grade_51 : decode cX6_grade 51 = .ok (.if_icmp .lt 7, 3) := by decide +kernel
theorem dX6_grade_54 : decode cX6_grade 54 = .ok (.iconst (-1), 1) := by decide +kernel
theorem dX6_grade_55 : decode cX6_grade 55 = .ok (.goto 13, 3) := by decide +kernel
theorem dX6_grade_58 : decode cX6_grade 58 = .ok (.aload_n 0, 1) := by decide +kernel
theorem dX6_grade_59 : decode cX6_grade 59 = .ok (.getfield 40, 3) := by decide +kernel
theorem dX6_grade_62 : decode cX6_grade 62 = .ok (.iload_n 1, 1) := by decide +kernel
theorem dX6_grade_63 : decode cX6_grade 63 = .ok (.iload_n 2, 1) := by decide +kernel
theorem dX6_grade_64 : decode cX6_grade 64 = .ok (.iload_n 3, 1) := by decide +kernel
theorem dX6_grade_65 : decode cX6_grade 65 = .ok (.invokevirtual 206, 3) := by decide +kernel
theorem dX6_grade_68 : decode cX6_grade 68 = .ok (.ireturn, 1) := by decide +kernel
theorem dX6_ungrade_0 : decode cX6_ungrade 0 = .ok (.aload_n 0, 1) := by decide +kernel
theorem dX6_ungrade_1 : decode cX6_ungrade 1 = .ok (.getfield 40, 3) := by decide +kernel
theorem dX6_ungrade_4 : decode cX6_ungrade 4 = .ok (.getfield 205, 3) := by decide +kernel
theorem dX6_ungrade_7 : decode cX6_ungrade 7 = .ok (.istore_n 1, 1) := by decide +kernel
theorem dX6_ungrade_8 : decode cX6_ungrade 8 = .ok (.aload_n 0, 1) := by decide +kernel
theorem dX6_ungrade_9 : decode cX6_ungrade 9 = .ok (.getfield 40, 3) := by decide +kernel
theorem dX6_ungrade_12 : decode cX6_ungrade 12 = .ok (.iconst 0, 1) := by decide +kernel
theorem dX6_ungrade_13 : decode cX6_ungrade 13 = .ok (.putfield 205, 3) := by decide +kernel
theorem dX6_ungrade_16 : decode cX6_ungrade 16 = .ok (.iload_n 1, 1) := by decide +kernel
theorem dX6_ungrade_17 : decode cX6_ungrade 17 = .ok (.ireturn, 1) := by decide +kernel
set_option maxRecDepth 20000 in
theorem ggX6_most_X2_greatestWorth : GoodIn wsX6_most wsX2_greatestWorth := goodIn_r _ [6, 7, 8, 9, 10, 11, 12, 13, 5, 14, 15, 16, 17, 18, 19, 20, 27, 28, 29, 30, 31, 32, 33] (by decide +kernel) (by decide +kernel)
set_option maxRecDepth 20000 in
theorem gX6_most_X2_greatestWorth : GoodIn wsX6_most (wsV RX6 209 RX2 yX2_greatestWorth wsX2_greatestWorth) := goodIn_app (goodIn_of _ (by decide +kernel)) ggX6_most_X2_greatestWorth
theorem dX6_most_0 : decode cX6_most 0 = .ok (.aload_n 0, 1) := by decide +kernel
theorem dX6_most_1 : decode cX6_most 1 = .ok (.getfield 40, 3) := by decide +kernel
theorem dX6_most_4 : decode cX6_most 4 = .ok (.invokevirtual 209, 3) := by decide +kernel
theorem dX6_most_7 : decode cX6_most 7 = .ok (.ireturn, 1) := by decide +kernel
set_option maxRecDepth 20000 in
theorem ggX6_change_X6_isNumberOf : GoodIn wsX6_change wsX6_isNumberOf := goodIn_r _ [10] (by decide +kernel) (by decide +kernel)
set_option maxRecDepth 20000 in
theorem gX6_change_X6_isNumberOf : GoodIn wsX6_change (va_wsS RX6 79 yX6_isNumberOf wsX6_isNumberOf) := goodIn_app (goodIn_of _ (by decide +kernel)) ggX6_change_X6_isNumberOf
set_option maxRecDepth 20000 in
theorem ggX6_change_X6_isWithin : GoodIn wsX6_change wsX6_isWithin := goodIn_r _ [13] (by decide +kernel) (by decide +kernel)
set_option maxRecDepth 20000 in
theorem gX6_change_X6_isWithin : GoodIn wsX6_change (va_wsS RX6 55 yX6_isWithin wsX6_isWithin) := goodIn_app (goodIn_of _ (by decide +kernel)) ggX6_change_X6_isWithin
theorem dX6_change_0 : decode cX6_change 0 = .ok (.iload_n 1, 1) := by decide +kernel
theorem dX6_change_1 : decode cX6_change 1 = .ok (.bipush 6, 2) := by decide +kernel
theorem dX6_change_3 : decode cX6_change 3 = .ok (.invokestatic 79, 3) := by decide +kernel
theorem dX6_change_6 : decode cX6_change 6 = .ok (.ifCond .eq 12, 3) := by decide +kernel
theorem dX6_change_9 : decode cX6_change 9 = .ok (.iload_n 2, 1) := by decide +kernel
theorem dX6_change_10 : decode cX6_change 10 = .ok (.bipush 6, 2) := by decide +kernel
theorem dX6_change_12 : decode cX6_change 12 = .ok (.invokestatic 79, 3) := by decide +kernel
theorem dX6_change_15 : decode cX6_change 15 = .ok (.ifCond .ne 13, 3) := by decide +kernel
theorem dX6_change_18 : decode cX6_change 18 = .ok (.new 82, 3) := by decide +kernel
theorem dX6_change_21 : decode cX6_change 21 = .ok (.dup, 1) := by decide +kernel
theorem dX6_change_22 : decode cX6_change 22 = .ok (.ldc 213, 2) := by decide +kernel
theorem dX6_change_24 : decode cX6_change 24 = .ok (.invokespecial 86, 3) := by decide +kernel
theorem dX6_change_27 : decode cX6_change 27 = .ok (.athrow, 1) := by decide +kernel
theorem dX6_change_28 : decode cX6_change 28 = .ok (.iload_n 3, 1) := by decide +kernel
theorem dX6_change_29 : decode cX6_change 29 = .ok (.iconst 0, 1) := by decide +kernel
theorem dX6_change_30 : decode cX6_change 30 = .ok (.sipush 1000, 3) := by decide +kernel
theorem dX6_change_33 : decode cX6_change 33 = .ok (.invokestatic 55, 3) := by decide +kernel
theorem dX6_change_36 : decode cX6_change 36 = .ok (.ifCond .eq 8, 3) := by decide +kernel
theorem dX6_change_39 : decode cX6_change 39 = .ok (.iload_n 1, 1) := by decide +kernel
theorem dX6_change_40 : decode cX6_change 40 = .ok (.iload_n 2, 1) := by decide +kernel
theorem dX6_change_41 : decode cX6_change 41 = .ok (.if_icmp .ne 13, 3) := by decide +kernel
theorem dX6_change_44 : decode cX6_change 44 = .ok (.new 59, 3) := by decide +kernel
theorem dX6_change_47 : decode cX6_change 47 = .ok (.dup, 1) := by decide +kernel
theorem dX6_change_48 : decode cX6_change 48 = .ok (.ldc 215, 2) := by decide +kernel
theorem dX6_change_50 : decode cX6_change 50 = .ok (.invokespecial 63, 3) := by decide +kernel
theorem dX6_change_53 : decode cX6_change 53 = .ok (.athrow, 1) := by decide +kernel
theorem dX6_change_54 : decode cX6_change 54 = .ok (.aload_n 0, 1) := by decide +kernel
theorem dX6_change_55 : decode cX6_change 55 = .ok (.getfield 47, 3) := by decide +kernel
theorem dX6_change_58 : decode cX6_change 58 = .ok (.getfield 217, 3) := by decide +kernel
theorem dX6_change_61 : decode cX6_change 61 = .ok (.iload_n 1, 1) := by decide +kernel
theorem dX6_change_62 : decode cX6_change 62 = .ok (.bipush 6, 2) := by decide +kernel
theorem dX6_change_64 : decode cX6_change 64 = .ok (.imul, 1) := by decide +kernel
theorem dX6_change_65 : decode cX6_change 65 = .ok (.iload_n 2, 1) := by decide +kernel
theorem dX6_change_66 : decode cX6_change 66 = .ok (.iadd, 1) := by decide +kernel
theorem dX6_change_67 : decode cX6_change 67 = .ok (.iload_n 3, 1) := by decide +kernel
theorem dX6_change_68 : decode cX6_change 68 = .ok (.iastore, 1) := by decide +kernel
theorem dX6_change_69 : decode cX6_change 69 = .ok (.return_, 1) := by decide +kernel
set_option maxRecDepth 20000 in
theorem ggX6_job_X6_isNumberOf : GoodIn wsX6_job wsX6_isNumberOf := goodIn_r _ [8] (by decide +kernel) (by decide +kernel)
set_option maxRecDepth 20000 in
theorem gX6_job_X6_isNumberOf : GoodIn wsX6_job (va_wsS RX6 79 yX6_isNumberOf wsX6_isNumberOf) := goodIn_app (goodIn_of _ (by decide +kernel)) ggX6_job_X6_isNumberOf
set_option maxRecDepth 20000 in
theorem ggX6_job_X4_add : GoodIn wsX6_job wsX4_add := goodIn_r _ [13, 14, 15, 22, 23, 24, 25, 26, 27, 28] (by decide +kernel) (by decide +kernel)
set_option maxRecDepth 20000 in
theorem gX6_job_X4_add : GoodIn wsX6_job (wsV RX6 223 RX4 yX4_add wsX4_add) := goodIn_app (goodIn_of _ (by decide +kernel)) ggX6_job_X4_add
theorem dX6_job_0 : decode cX6_job 0 = .ok (.iload_n 1, 1) := by decide +kernel
theorem dX6_job_1 : decode cX6_job 1 = .ok (.bipush 6, 2) := by decide +kernel
theorem dX6_job_3 : decode cX6_job 3 = .ok (.invokestatic 79, 3) := by decide +kernel
theorem dX6_job_6 : decode cX6_job 6 = .ok (.ifCond .ne 13, 3) := by decide +kernel
theorem dX6_job_9 : decode cX6_job 9 = .ok (.new 82, 3) := by decide +kernel
theorem dX6_job_12 : decode cX6_job 12 = .ok (.dup, 1) := by decide +kernel
theorem dX6_job_13 : decode cX6_job 13 = .ok (.ldc 213, 2) := by decide +kernel
theorem dX6_job_15 : decode cX6_job 15 = .ok (.invokespecial 86, 3) := by decide +kernel
theorem dX6_job_18 : decode cX6_job 18 = .ok (.athrow, 1) := by decide +kernel
theorem dX6_job_19 : decode cX6_job 19 = .ok (.aload_n 0, 1) := by decide +kernel
theorem dX6_job_20 : decode cX6_job 20 = .ok (.getfield 47, 3) := by decide +kernel
theorem dX6_job_23 : decode cX6_job 23 = .ok (.getfield 220, 3) := by decide +kernel
theorem dX6_job_26 : decode cX6_job 26 = .ok (.bipush 10, 2) := by decide +kernel
theorem dX6_job_28 : decode cX6_job 28 = .ok (.if_icmp .lt 7, 3) := by decide +kernel
theorem dX6_job_31 : decode cX6_job 31 = .ok (.iconst (-1), 1) := by decide +kernel
theorem dX6_job_32 : decode cX6_job 32 = .ok (.goto 11, 3) := by decide +kernel
theorem dX6_job_35 : decode cX6_job 35 = .ok (.aload_n 0, 1) := by decide +kernel
theorem dX6_job_36 : decode cX6_job 36 = .ok (.getfield 47, 3) := by decide +kernel
theorem dX6_job_39 : decode cX6_job 39 = .ok (.iload_n 1, 1) := by decide +kernel
theorem dX6_job_40 : decode cX6_job 40 = .ok (.invokevirtual 223, 3) := by decide +kernel
theorem dX6_job_43 : decode cX6_job 43 = .ok (.ireturn, 1) := by decide +kernel
set_option maxRecDepth 20000 in
theorem ggX6_on_X6_isNumberOf : GoodIn wsX6_on wsX6_isNumberOf := goodIn_r _ [8] (by decide +kernel) (by decide +kernel)
set_option maxRecDepth 20000 in
theorem gX6_on_X6_isNumberOf : GoodIn wsX6_on (va_wsS RX6 79 yX6_isNumberOf wsX6_isNumberOf) := goodIn_app (goodIn_of _ (by decide +kernel)) ggX6_on_X6_isNumberOf
theorem dX6_on_0 : decode cX6_on 0 = .ok (.iload_n 1, 1) := by decide +kernel
theorem dX6_on_1 : decode cX6_on 1 = .ok (.iconst (-1), 1) := by decide +kernel
theorem dX6_on_2 : decode cX6_on 2 = .ok (.if_icmp .eq 22, 3) := by decide +kernel
theorem dX6_on_5 : decode cX6_on 5 = .ok (.iload_n 1, 1) := by decide +kernel
theorem dX6_on_6 : decode cX6_on 6 = .ok (.bipush 6, 2) := by decide +kernel
theorem dX6_on_8 : decode cX6_on 8 = .ok (.invokestatic 79, 3) := by decide +kernel
theorem dX6_on_11 : decode cX6_on 11 = .ok (.ifCond .ne 13, 3) := by decide +kernel
theorem dX6_on_14 : decode cX6_on 14 = .ok (.new 82, 3) := by decide +kernel
theorem dX6_on_17 : decode cX6_on 17 = .ok (.dup, 1) := by decide +kernel
theorem dX6_on_18 : decode cX6_on 18 = .ok (.ldc 213, 2) := by decide +kernel
theorem dX6_on_20 : decode cX6_on 20 = .ok (.invokespecial 86, 3) := by decide +kernel
theorem dX6_on_23 : decode cX6_on 23 = .ok (.athrow, 1) := by decide +kernel
theorem dX6_on_24 : decode cX6_on 24 = .ok (.aload_n 0, 1) := by decide +kernel
theorem dX6_on_25 : decode cX6_on 25 = .ok (.getfield 47, 3) := by decide +kernel
theorem dX6_on_28 : decode cX6_on 28 = .ok (.iload_n 1, 1) := by decide +kernel
theorem dX6_on_29 : decode cX6_on 29 = .ok (.putfield 226, 3) := by decide +kernel
theorem dX6_on_32 : decode cX6_on 32 = .ok (.return_, 1) := by decide +kernel
set_option maxRecDepth 20000 in
theorem ggX6_changes_X4_runJobs : GoodIn wsX6_changes wsX4_runJobs := goodIn_r _ [6, 7, 8, 9, 10, 5, 11, 12, 13, 14, 15, 16, 17, 18, 19, 20, 21, 22, 23, 24, 25, 26, 27, 28, 29, 30, 31, 32, 33, 34, 35, 36, 37, 38, 39, 40, 41, 48, 49, 50, 51, 52, 53, 54] (by decide +kernel) (by decide +kernel)
set_option maxRecDepth 20000 in
theorem gX6_changes_X4_runJobs : GoodIn wsX6_changes (wsV RX6 229 RX4 yX4_runJobs wsX4_runJobs) := goodIn_app (goodIn_of _ (by decide +kernel)) ggX6_changes_X4_runJobs
theorem dX6_changes_0 : decode cX6_changes 0 = .ok (.aload_n 0, 1) := by decide +kernel
theorem dX6_changes_1 : decode cX6_changes 1 = .ok (.getfield 47, 3) := by decide +kernel
theorem dX6_changes_4 : decode cX6_changes 4 = .ok (.invokevirtual 229, 3) := by decide +kernel
theorem dX6_changes_7 : decode cX6_changes 7 = .ok (.ireturn, 1) := by decide +kernel
theorem dX6_count_0 : decode cX6_count 0 = .ok (.iload_n 1, 1) := by decide +kernel
theorem dX6_count_1 : decode cX6_count 1 = .ok (.tableswitch 135 0 9 #[55, 63, 71, 79, 87, 95, 103, 111, 119, 127], 55) := by decide +kernel
theorem dX6_count_56 : decode cX6_count 56 = .ok (.aload_n 0, 1) := by decide +kernel
theorem dX6_count_57 : decode cX6_count 57 = .ok (.getfield 26, 3) := by decide +kernel
theorem dX6_count_60 : decode cX6_count 60 = .ok (.getfield 152, 3) := by decide +kernel
theorem dX6_count_63 : decode cX6_count 63 = .ok (.ireturn, 1) := by decide +kernel
theorem dX6_count_64 : decode cX6_count 64 = .ok (.aload_n 0, 1) := by decide +kernel
theorem dX6_count_65 : decode cX6_count 65 = .ok (.getfield 10, 3) := by decide +kernel
theorem dX6_count_68 : decode cX6_count 68 = .ok (.getfield 66, 3) := by decide +kernel
theorem dX6_count_71 : decode cX6_count 71 = .ok (.ireturn, 1) := by decide +kernel
theorem dX6_count_72 : decode cX6_count 72 = .ok (.aload_n 0, 1) := by decide +kernel
theorem dX6_count_73 : decode cX6_count 73 = .ok (.getfield 19, 3) := by decide +kernel
theorem dX6_count_76 : decode cX6_count 76 = .ok (.getfield 105, 3) := by decide +kernel
theorem dX6_count_79 : decode cX6_count 79 = .ok (.ireturn, 1) := by decide +kernel
theorem dX6_count_80 : decode cX6_count 80 = .ok (.aload_n 0, 1) := by decide +kernel
theorem dX6_count_81 : decode cX6_count 81 = .ok (.getfield 19, 3) := by decide +kernel
theorem dX6_count_84 : decode cX6_count 84 = .ok (.getfield 127, 3) := by decide +kernel
theorem dX6_count_87 : decode cX6_count 87 = .ok (.ireturn, 1) := by decide +kernel
theorem dX6_count_88 : decode cX6_count 88 = .ok (.aload_n 0, 1) := by decide +kernel
theorem dX6_count_89 : decode cX6_count 89 = .ok (.getfield 19, 3) := by decide +kernel
theorem dX6_count_92 : decode cX6_count 92 = .ok (.getfield 232, 3) := by decide +kernel
theorem dX6_count_95 : decode cX6_count 95 = .ok (.ireturn, 1) := by decide +kernel
theorem dX6_count_96 : decode cX6_count 96 = .ok (.aload_n 0, 1) := by decide +kernel
theorem dX6_count_97 : decode cX6_count 97 = .ok (.getfield 26, 3) := by decide +kernel
theorem dX6_count_100 : decode cX6_count 100 = .ok (.getfield 170, 3) := by decide +kernel
theorem dX6_count_103 : decode cX6_count 103 = .ok (.ireturn, 1) := by decide +kernel
theorem dX6_count_104 : decode cX6_count 104 = .ok (.aload_n 0, 1) := by decide +kernel
theorem dX6_count_105 : decode cX6_count 105 = .ok (.getfield 40, 3) := by decide +kernel
theorem dX6_count_108 : decode cX6_count 108 = .ok (.getfield 235, 3) := by decide +kernel
theorem dX6_count_111 : decode cX6_count 111 = .ok (.ireturn, 1) := by decide +kernel
theorem dX6_count_112 : decode cX6_count 112 = .ok (.aload_n 0, 1) := by decide +kernel
theorem dX6_count_113 : decode cX6_count 113 = .ok (.getfield 40, 3) := by decide +kernel
theorem dX6_count_116 : decode cX6_count 116 = .ok (.getfield 205, 3) := by decide +kernel
theorem dX6_count_119 : decode cX6_count 119 = .ok (.ireturn, 1) := by decide +kernel
theorem dX6_count_120 : decode cX6_count 120 = .ok (.aload_n 0, 1) := by decide +kernel
theorem dX6_count_121 : decode cX6_count 121 = .ok (.getfield 47, 3) := by decide +kernel
theorem dX6_count_124 : decode cX6_count 124 = .ok (.getfield 220, 3) := by decide +kernel
theorem dX6_count_127 : decode cX6_count 127 = .ok (.ireturn, 1) := by decide +kernel
theorem dX6_count_128 : decode cX6_count 128 = .ok (.aload_n 0, 1) := by decide +kernel
theorem dX6_count_129 : decode cX6_count 129 = .ok (.getfield 47, 3) := by decide +kernel
theorem dX6_count_132 : decode cX6_count 132 = .ok (.getfield 226, 3) := by decide +kernel
theorem dX6_count_135 : decode cX6_count 135 = .ok (.ireturn, 1) := by decide +kernel
theorem dX6_count_136 : decode cX6_count 136 = .ok (.iconst (-1), 1) := by decide +kernel
theorem dX6_count_137 : decode cX6_count 137 = .ok (.ireturn, 1) := by decide +kernel
theorem dX6_isWithin_0 : decode cX6_isWithin 0 = .ok (.iload_n 0, 1) := by decide +kernel
theorem dX6_isWithin_1 : decode cX6_isWithin 1 = .ok (.iload_n 1, 1) := by decide +kernel
theorem dX6_isWithin_2 : decode cX6_isWithin 2 = .ok (.if_icmp .lt 12, 3) := by decide +kernel
theorem dX6_isWithin_5 : decode cX6_isWithin 5 = .ok (.iload_n 0, 1) := by decide +kernel
theorem dX6_isWithin_6 : decode cX6_isWithin 6 = .ok (.iload_n 2, 1) := by decide +kernel
theorem dX6_isWithin_7 : decode cX6_isWithin 7 = .ok (.if_icmp .gt 7, 3) := by decide +kernel
theorem dX6_isWithin_10 : decode cX6_isWithin 10 = .ok (.iconst 1, 1) := by decide +kernel
theorem dX6_isWithin_11 : decode cX6_isWithin 11 = .ok (.goto 4, 3) := by decide +kernel
theorem dX6_isWithin_14 : decode cX6_isWithin 14 = .ok (.iconst 0, 1) := by decide +kernel
theorem dX6_isWithin_15 : decode cX6_isWithin 15 = .ok (.ireturn, 1) := by decide +kernel
theorem dX6_isNumberOf_0 : decode cX6_isNumberOf 0 = .ok (.iload_n 0, 1) := by decide +kernel
theorem dX6_isNumberOf_1 : decode cX6_isNumberOf 1 = .ok (.ifCond .lt 12, 3) := by decide +kernel
theorem dX6_isNumberOf_4 : decode cX6_isNumberOf 4 = .ok (.iload_n 0, 1) := by decide +kernel
theorem dX6_isNumberOf_5 : decode cX6_isNumberOf 5 = .ok (.iload_n 1, 1) := by decide +kernel
theorem dX6_isNumberOf_6 : decode cX6_isNumberOf 6 = .ok (.if_icmp .ge 7, 3) := by decide +kernel
theorem dX6_isNumberOf_9 : decode cX6_isNumberOf 9 = .ok (.iconst 1, 1) := by decide +kernel
theorem dX6_isNumberOf_10 : decode cX6_isNumberOf 10 = .ok (.goto 4, 3) := by decide +kernel
theorem dX6_isNumberOf_13 : decode cX6_isNumberOf 13 = .ok (.iconst 0, 1) := by decide +kernel
theorem dX6_isNumberOf_14 : decode cX6_isNumberOf 14 = .ok (.ireturn, 1) := by decide +kernel
theorem dX6_isSpan_0 : decode cX6_isSpan 0 = .ok (.iconst 0, 1) := by decide +kernel
theorem dX6_isSpan_1 : decode cX6_isSpan 1 = .ok (.iload_n 0, 1) := by decide +kernel
theorem dX6_isSpan_2 : decode cX6_isSpan 2 = .ok (.if_icmp .gt 19, 3) := by decide +kernel
theorem dX6_isSpan_5 : decode cX6_isSpan 5 = .ok (.iload_n 0, 1) := by decide +kernel
theorem dX6_isSpan_6 : decode cX6_isSpan 6 = .ok (.iload_n 1, 1) := by decide +kernel
theorem dX6_isSpan_7 : decode cX6_isSpan 7 = .ok (.if_icmp .gt 14, 3) := by decide +kernel
theorem dX6_isSpan_10 : decode cX6_isSpan 10 = .ok (.iload_n 1, 1) := by decide +kernel
theorem dX6_isSpan_11 : decode cX6_isSpan 11 = .ok (.sipush 1000, 3) := by decide +kernel
theorem dX6_isSpan_14 : decode cX6_isSpan 14 = .ok (.if_icmp .gt 7, 3) := by decide +kernel
theorem dX6_isSpan_17 : decode cX6_isSpan 17 = .ok (.iconst 1, 1) := by decide +kernel
theorem dX6_isSpan_18 : decode cX6_isSpan 18 = .ok (.goto 4, 3) := by decide +kernel
theorem dX6_isSpan_21 : decode cX6_isSpan 21 = .ok (.iconst 0, 1) := by decide +kernel
theorem dX6_isSpan_22 : decode cX6_isSpan 22 = .ok (.ireturn, 1) := by decide +kernel
theorem dJ6_bitCount_0f7a4_0 : decode cJ6_bitCount_0f7a4 0 = .ok (.iload_n 0, 1) := by decide +kernel
theorem dJ6_bitCount_0f7a4_1 : decode cJ6_bitCount_0f7a4 1 = .ok (.iload_n 0, 1) := by decide +kernel
theorem dJ6_bitCount_0f7a4_2 : decode cJ6_bitCount_0f7a4 2 = .ok (.iconst 1, 1) := by decide +kernel
theorem dJ6_bitCount_0f7a4_3 : decode cJ6_bitCount_0f7a4 3 = .ok (.iushr, 1) := by decide +kernel
theorem dJ6_bitCount_0f7a4_4 : decode cJ6_bitCount_0f7a4 4 = .ok (.ldc_w 265, 3) := by decide +kernel
theorem dJ6_bitCount_0f7a4_7 : decode cJ6_bitCount_0f7a4 7 = .ok (.iand, 1) := by decide +kernel
theorem dJ6_bitCount_0f7a4_8 : decode cJ6_bitCount_0f7a4 8 = .ok (.isub, 1) := by decide +kernel
theorem dJ6_bitCount_0f7a4_9 : decode cJ6_bitCount_0f7a4 9 = .ok (.istore_n 0, 1) := by decide +kernel
theorem dJ6_bitCount_0f7a4_10 : decode cJ6_bitCount_0f7a4 10 = .ok (.iload_n 0, 1) := by decide +kernel
theorem dJ6_bitCount_0f7a4_11 : decode cJ6_bitCount_0f7a4 11 = .ok (.ldc_w 266, 3) := by decide +kernel
theorem dJ6_bitCount_0f7a4_14 : decode cJ6_bitCount_0f7a4 14 = .ok (.iand, 1) := by decide +kernel
theorem dJ6_bitCount_0f7a4_15 : decode cJ6_bitCount_0f7a4 15 = .ok (.iload_n 0, 1) := by decide +kernel
theorem dJ6_bitCount_0f7a4_16 : decode cJ6_bitCount_0f7a4 16 = .ok (.iconst 2, 1) := by decide +kernel
theorem dJ6_bitCount_0f7a4_17 : decode cJ6_bitCount_0f7a4 17 = .ok (.iushr, 1) := by decide +kernel
theorem dJ6_bitCount_0f7a4_18 : decode cJ6_bitCount_0f7a4 18 = .ok (.ldc_w 266, 3) := by decide +kernel
theorem dJ6_bitCount_0f7a4_21 : decode cJ6_bitCount_0f7a4 21 = .ok (.iand, 1) := by decide +kernel
theorem dJ6_bitCount_0f7a4_22 : decode cJ6_bitCount_0f7a4 22 = .ok (.iadd, 1) := by decide +kernel
theorem dJ6_bitCount_0f7a4_23 : decode cJ6_bitCount_0f7a4 23 = .ok (.istore_n 0, 1) := by decide +kernel
theorem dJ6_bitCount_0f7a4_24 : decode cJ6_bitCount_0f7a4 24 = .ok (.iload_n 0, 1) := by decide +kernel
theorem dJ6_bitCount_0f7a4_25 : decode cJ6_bitCount_0f7a4 25 = .ok (.iload_n 0, 1) := by decide +kernel
theorem dJ6_bitCount_0f7a4_26 : decode cJ6_bitCount_0f7a4 26 = .ok (.iconst 4, 1) := by decide +kernel
theorem dJ6_bitCount_0f7a4_27 : decode cJ6_bitCount_0f7a4 27 = .ok (.iushr, 1) := by decide +kernel
theorem dJ6_bitCount_0f7a4_28 : decode cJ6_bitCount_0f7a4 28 = .ok (.iadd, 1) := by decide +kernel
theorem dJ6_bitCount_0f7a4_29 : decode cJ6_bitCount_0f7a4 29 = .ok (.ldc_w 267, 3) := by decide +kernel
theorem dJ6_bitCount_0f7a4_32 : decode cJ6_bitCount_0f7a4 32 = .ok (.iand, 1) := by decide +kernel
theorem dJ6_bitCount_0f7a4_33 : decode cJ6_bitCount_0f7a4 33 = .ok (.istore_n 0, 1) := by decide +kernel
theorem dJ6_bitCount_0f7a4_34 : decode cJ6_bitCount_0f7a4 34 = .ok (.iload_n 0, 1) := by decide +kernel
theorem dJ6_bitCount_0f7a4_35 : decode cJ6_bitCount_0f7a4 35 = .ok (.iload_n 0, 1) := by decide +kernel
theorem dJ6_bitCount_0f7a4_36 : decode cJ6_bitCount_0f7a4 36 = .ok (.bipush 8, 2) := by decide +kernel
theorem dJ6_bitCount_0f7a4_38 : decode cJ6_bitCount_0f7a4 38 = .ok (.iushr, 1) := by decide +kernel
theorem dJ6_bitCount_0f7a4_39 : decode cJ6_bitCount_0f7a4 39 = .ok (.iadd, 1) := by decide +kernel
theorem dJ6_bitCount_0f7a4_40 : decode cJ6_bitCount_0f7a4 40 = .ok (.istore_n 0, 1) := by decide +kernel
theorem dJ6_bitCount_0f7a4_41 : decode cJ6_bitCount_0f7a4 41 = .ok (.iload_n 0, 1) := by decide +kernel
theorem dJ6_bitCount_0f7a4_42 : decode cJ6_bitCount_0f7a4 42 = .ok (.iload_n 0, 1) := by decide +kernel
theorem dJ6_bitCount_0f7a4_43 : decode cJ6_bitCount_0f7a4 43 = .ok (.bipush 16, 2) := by decide +kernel
theorem dJ6_bitCount_0f7a4_45 : decode cJ6_bitCount_0f7a4 45 = .ok (.iushr, 1) := by decide +kernel
theorem dJ6_bitCount_0f7a4_46 : decode cJ6_bitCount_0f7a4 46 = .ok (.iadd, 1) := by decide +kernel
theorem dJ6_bitCount_0f7a4_47 : decode cJ6_bitCount_0f7a4 47 = .ok (.istore_n 0, 1) := by decide +kernel
theorem dJ6_bitCount_0f7a4_48 : decode cJ6_bitCount_0f7a4 48 = .ok (.iload_n 0, 1) := by decide +kernel
theorem dJ6_bitCount_0f7a4_49 : decode cJ6_bitCount_0f7a4 49 = .ok (.bipush 63, 2) := by decide +kernel
theorem dJ6_bitCount_0f7a4_51 : decode cJ6_bitCount_0f7a4 51 = .ok (.iand, 1) := by decide +kernel
theorem dJ6_bitCount_0f7a4_52 : decode cJ6_bitCount_0f7a4 52 = .ok (.ireturn, 1) := by decide +kernel
theorem dJ9_max_7cf53_0 : decode cJ9_max_7cf53 0 = .ok (.iload_n 0, 1) := by decide +kernel
theorem dJ9_max_7cf53_1 : decode cJ9_max_7cf53 1 = .ok (.iload_n 1, 1) := by decide +kernel
theorem dJ9_max_7cf53_2 : decode cJ9_max_7cf53 2 = .ok (.if_icmp .lt 7, 3) := by decide +kernel
theorem dJ9_max_7cf53_5 : decode cJ9_max_7cf53 5 = .ok (.iload_n 0, 1) := by decide +kernel
theorem dJ9_max_7cf53_6 : decode cJ9_max_7cf53 6 = .ok (.goto 4, 3) := by decide +kernel
theorem dJ9_max_7cf53_9 : decode cJ9_max_7cf53 9 = .ok (.iload_n 1, 1) := by decide +kernel
theorem dJ9_max_7cf53_10 : decode cJ9_max_7cf53 10 = .ok (.ireturn, 1) := by decide +kernel
theorem dJ9_min_7cf53_0 : decode cJ9_min_7cf53 0 = .ok (.iload_n 0, 1) := by decide +kernel
theorem dJ9_min_7cf53_1 : decode cJ9_min_7cf53 1 = .ok (.iload_n 1, 1) := by decide +kernel
theorem dJ9_min_7cf53_2 : decode cJ9_min_7cf53 2 = .ok (.if_icmp .gt 7, 3) := by decide +kernel
theorem dJ9_min_7cf53_5 : decode cJ9_min_7cf53 5 = .ok (.iload_n 0, 1) := by decide +kernel
theorem dJ9_min_7cf53_6 : decode cJ9_min_7cf53 6 = .ok (.goto 4, 3) := by decide +kernel
theorem dJ9_min_7cf53_9 : decode cJ9_min_7cf53 9 = .ok (.iload_n 1, 1) := by decide +kernel
theorem dJ9_min_7cf53_10 : decode cJ9_min_7cf53 10 = .ok (.ireturn, 1) := by decide +kernel
