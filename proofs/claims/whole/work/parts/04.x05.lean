theorem dX0_init_0 : decode cX0_init 0 = .ok (.aload_n 0, 1) := by decide +kernel
theorem dX0_init_1 : decode cX0_init 1 = .ok (.invokespecial 3, 3) := by decide +kernel
theorem dX0_init_4 : decode cX0_init 4 = .ok (.aload_n 0, 1) := by decide +kernel
theorem dX0_init_5 : decode cX0_init 5 = .ok (.bipush 60, 2) := by decide +kernel
theorem dX0_init_7 : decode cX0_init 7 = .ok (.newarray .int, 2) := by decide +kernel
theorem dX0_init_9 : decode cX0_init 9 = .ok (.putfield 9, 3) := by decide +kernel
theorem dX0_init_12 : decode cX0_init 12 = .ok (.return_, 1) := by decide +kernel
set_option maxRecDepth 20000 in
theorem ggX0_seek_X3_lotsOf : GoodIn wsX0_seek wsX3_lotsOf := goodIn_r _ [8, 9, 10, 41, 42, 43, 44, 45, 46, 47, 48, 49] (by decide +kernel) (by decide +kernel)
set_option maxRecDepth 20000 in
theorem gX0_seek_X3_lotsOf : GoodIn wsX0_seek (wsV RX0 25 RX3 yX3_lotsOf wsX3_lotsOf) := goodIn_app (goodIn_of _ (by decide +kernel)) ggX0_seek_X3_lotsOf
set_option maxRecDepth 20000 in
theorem ggX0_seek_X0_setSuspects : GoodIn wsX0_seek wsX0_setSuspects := goodIn_r _ [15, 16, 17, 18, 19, 36, 37, 38, 39, 40, 41, 42, 43, 44, 45, 46, 47, 48, 49] (by decide +kernel) (by decide +kernel)
set_option maxRecDepth 20000 in
theorem gX0_seek_X0_setSuspects : GoodIn wsX0_seek (wsV RX0 31 RX0 yX0_setSuspects wsX0_setSuspects) := goodIn_app (goodIn_of _ (by decide +kernel)) ggX0_seek_X0_setSuspects
set_option maxRecDepth 20000 in
theorem ggX0_seek_X0_blameMore : GoodIn wsX0_seek wsX0_blameMore := goodIn_r _ [23, 1, 24, 25, 26, 14, 27, 16, 18, 28, 29, 30, 31, 2, 3, 32, 33, 34, 35, 20, 21, 22, 36, 37, 38, 39, 40] (by decide +kernel) (by decide +kernel)
set_option maxRecDepth 20000 in
theorem gX0_seek_X0_blameMore : GoodIn wsX0_seek (wsV RX0 35 RX0 yX0_blameMore wsX0_blameMore) := goodIn_app (goodIn_of _ (by decide +kernel)) ggX0_seek_X0_blameMore
theorem dX0_seek_0 : decode cX0_seek 0 = .ok (.aload_n 0, 1) := by decide +kernel
theorem dX0_seek_1 : decode cX0_seek 1 = .ok (.iconst (-1), 1) := by decide +kernel
theorem dX0_seek_2 : decode cX0_seek 2 = .ok (.putfield 15, 3) := by decide +kernel
theorem dX0_seek_5 : decode cX0_seek 5 = .ok (.aload_n 0, 1) := by decide +kernel
theorem dX0_seek_6 : decode cX0_seek 6 = .ok (.iconst 0, 1) := by decide +kernel
theorem dX0_seek_7 : decode cX0_seek 7 = .ok (.putfield 19, 3) := by decide +kernel
theorem dX0_seek_10 : decode cX0_seek 10 = .ok (.aload_n 0, 1) := by decide +kernel
theorem dX0_seek_11 : decode cX0_seek 11 = .ok (.iconst 0, 1) := by decide +kernel
theorem dX0_seek_12 : decode cX0_seek 12 = .ok (.putfield 22, 3) := by decide +kernel
theorem dX0_seek_15 : decode cX0_seek 15 = .ok (.aload_n 0, 1) := by decide +kernel
theorem dX0_seek_16 : decode cX0_seek 16 = .ok (.aload_n 1, 1) := by decide +kernel
theorem dX0_seek_17 : decode cX0_seek 17 = .ok (.lload_n 2, 1) := by decide +kernel
theorem dX0_seek_18 : decode cX0_seek 18 = .ok (.aload_n 1, 1) := by decide +kernel
theorem dX0_seek_19 : decode cX0_seek 19 = .ok (.lload 4, 2) := by decide +kernel
theorem dX0_seek_21 : decode cX0_seek 21 = .ok (.invokevirtual 25, 3) := by decide +kernel
theorem dX0_seek_24 : decode cX0_seek 24 = .ok (.invokevirtual 31, 3) := by decide +kernel
theorem dX0_seek_27 : decode cX0_seek 27 = .ok (.aload_n 0, 1) := by decide +kernel
theorem dX0_seek_28 : decode cX0_seek 28 = .ok (.iconst 0, 1) := by decide +kernel
theorem dX0_seek_29 : decode cX0_seek 29 = .ok (.iconst 0, 1) := by decide +kernel
theorem dX0_seek_30 : decode cX0_seek 30 = .ok (.iconst 0, 1) := by decide +kernel
theorem dX0_seek_31 : decode cX0_seek 31 = .ok (.invokevirtual 35, 3) := by decide +kernel
theorem dX0_seek_34 : decode cX0_seek 34 = .ok (.return_, 1) := by decide +kernel
theorem dX0_setSuspects_0 : decode cX0_setSuspects 0 = .ok (.aload_n 0, 1) := by decide +kernel
theorem dX0_setSuspects_1 : decode cX0_setSuspects 1 = .ok (.iconst 0, 1) := by decide +kernel
theorem dX0_setSuspects_2 : decode cX0_setSuspects 2 = .ok (.putfield 39, 3) := by decide +kernel
theorem dX0_setSuspects_5 : decode cX0_setSuspects 5 = .ok (.iconst 0, 1) := by decide +kernel
theorem dX0_setSuspects_6 : decode cX0_setSuspects 6 = .ok (.istore 5, 2) := by decide +kernel
theorem dX0_setSuspects_8 : decode cX0_setSuspects 8 = .ok (.iload 5, 2) := by decide +kernel
theorem dX0_setSuspects_10 : decode cX0_setSuspects 10 = .ok (.aload_n 1, 1) := by decide +kernel
theorem dX0_setSuspects_11 : decode cX0_setSuspects 11 = .ok (.getfield 42, 3) := by decide +kernel
theorem dX0_setSuspects_14 : decode cX0_setSuspects 14 = .ok (.if_icmp .ge 51, 3) := by decide +kernel
theorem dX0_setSuspects_17 : decode cX0_setSuspects 17 = .ok (.lload_n 2, 1) := by decide +kernel
theorem dX0_setSuspects_18 : decode cX0_setSuspects 18 = .ok (.iload 5, 2) := by decide +kernel
theorem dX0_setSuspects_20 : decode cX0_setSuspects 20 = .ok (.lshr, 1) := by decide +kernel
theorem dX0_setSuspects_21 : decode cX0_setSuspects 21 = .ok (.lconst 1, 1) := by decide +kernel
theorem dX0_setSuspects_22 : decode cX0_setSuspects 22 = .ok (.land, 1) := by decide +kernel
theorem dX0_setSuspects_23 : decode cX0_setSuspects 23 = .ok (.lconst 0, 1) := by decide +kernel
theorem dX0_setSuspects_24 : decode cX0_setSuspects 24 = .ok (.lcmp, 1) := by decide +kernel
theorem dX0_setSuspects_25 : decode cX0_setSuspects 25 = .ok (.ifCond .eq 34, 3) := by decide +kernel
theorem dX0_setSuspects_28 : decode cX0_setSuspects 28 = .ok (.aload_n 0, 1) := by decide +kernel
theorem dX0_setSuspects_29 : decode cX0_setSuspects 29 = .ok (.getfield 9, 3) := by decide +kernel
theorem dX0_setSuspects_32 : decode cX0_setSuspects 32 = .ok (.aload_n 0, 1) := by decide +kernel
theorem dX0_setSuspects_33 : decode cX0_setSuspects 33 = .ok (.getfield 39, 3) := by decide +kernel
theorem dX0_setSuspects_36 : decode cX0_setSuspects 36 = .ok (.aload_n 1, 1) := by decide +kernel
theorem dX0_setSuspects_37 : decode cX0_setSuspects 37 = .ok (.getfield 45, 3) := by decide +kernel
theorem dX0_setSuspects_40 : decode cX0_setSuspects 40 = .ok (.iload 5, 2) := by decide +kernel
theorem dX0_setSuspects_42 : decode cX0_setSuspects 42 = .ok (.iaload, 1) := by decide +kernel
theorem dX0_setSuspects_43 : decode cX0_setSuspects 43 = .ok (.iload 4, 2) := by decide +kernel
theorem dX0_setSuspects_45 : decode cX0_setSuspects 45 = .ok (.iconst (-1), 1) := by decide +kernel
theorem dX0_setSuspects_46 : decode cX0_setSuspects 46 = .ok (.ixor, 1) := by decide +kernel
theorem dX0_setSuspects_47 : decode cX0_setSuspects 47 = .ok (.iand, 1) := by decide +kernel
theorem dX0_setSuspects_48 : decode cX0_setSuspects 48 = .ok (.iastore, 1) := by decide +kernel
theorem dX0_setSuspects_49 : decode cX0_setSuspects 49 = .ok (.aload_n 0, 1) := by decide +kernel
theorem dX0_setSuspects_50 : decode cX0_setSuspects 50 = .ok (.dup, 1) := by decide +kernel
theorem dX0_setSuspects_51 : decode cX0_setSuspects 51 = .ok (.getfield 39, 3) := by decide +kernel
theorem dX0_setSuspects_54 : decode cX0_setSuspects 54 = .ok (.iconst 1, 1) := by decide +kernel
theorem dX0_setSuspects_55 : decode cX0_setSuspects 55 = .ok (.iadd, 1) := by decide +kernel
theorem dX0_setSuspects_56 : decode cX0_setSuspects 56 = .ok (.putfield 39, 3) := by decide +kernel
theorem dX0_setSuspects_59 : decode cX0_setSuspects 59 = .ok (.iinc 5 1, 3) := by decide +kernel
theorem dX0_setSuspects_62 : decode cX0_setSuspects 62 = .ok (.goto (-54), 3) := by decide +kernel
theorem dX0_setSuspects_65 : decode cX0_setSuspects 65 = .ok (.return_, 1) := by decide +kernel
set_option maxRecDepth 20000 in
theorem ggX0_blameMore_X0_firstUnexplained : GoodIn wsX0_blameMore wsX0_firstUnexplained := goodIn_r _ [6, 7, 8, 22, 23, 24, 25, 26] (by decide +kernel) (by decide +kernel)
set_option maxRecDepth 20000 in
theorem gX0_blameMore_X0_firstUnexplained : GoodIn wsX0_blameMore (wsV RX0 48 RX0 yX0_firstUnexplained wsX0_firstUnexplained) := goodIn_app (goodIn_of _ (by decide +kernel)) ggX0_blameMore_X0_firstUnexplained
set_option maxRecDepth 20000 in
theorem ggX0_blameMore_X0_keep : GoodIn wsX0_blameMore wsX0_keep := goodIn_r _ [12, 1, 13, 14, 22, 23, 24, 25, 26] (by decide +kernel) (by decide +kernel)
set_option maxRecDepth 20000 in
theorem gX0_blameMore_X0_keep : GoodIn wsX0_blameMore (wsV RX0 52 RX0 yX0_keep wsX0_keep) := goodIn_app (goodIn_of _ (by decide +kernel)) ggX0_blameMore_X0_keep
set_option maxRecDepth 20000 in
theorem ggX0_blameMore_X0_blameEach : GoodIn wsX0_blameMore wsX0_blameEach := goodIn_r _ [18, 19, 20, 21, 5, 0, 1, 2, 3, 4, 6, 7, 8, 9, 10, 11, 12, 13, 14, 15, 16, 17, 22, 23, 24, 25, 26] (by decide +kernel) (by decide +kernel)
set_option maxRecDepth 20000 in
theorem gX0_blameMore_X0_blameEach : GoodIn wsX0_blameMore (wsV RX0 56 RX0 yX0_blameEach wsX0_blameEach) := goodIn_app (goodIn_of _ (by decide +kernel)) ggX0_blameMore_X0_blameEach
theorem dX0_blameMore_0 : decode cX0_blameMore 0 = .ok (.aload_n 0, 1) := by decide +kernel
theorem dX0_blameMore_1 : decode cX0_blameMore 1 = .ok (.iload_n 1, 1) := by decide +kernel
theorem dX0_blameMore_2 : decode cX0_blameMore 2 = .ok (.invokevirtual 48, 3) := by decide +kernel
theorem dX0_blameMore_5 : decode cX0_blameMore 5 = .ok (.istore 4, 2) := by decide +kernel
theorem dX0_blameMore_7 : decode cX0_blameMore 7 = .ok (.iload 4, 2) := by decide +kernel
theorem dX0_blameMore_9 : decode cX0_blameMore 9 = .ok (.iconst (-1), 1) := by decide +kernel
theorem dX0_blameMore_10 : decode cX0_blameMore 10 = .ok (.if_icmp .ne 12, 3) := by decide +kernel
theorem dX0_blameMore_13 : decode cX0_blameMore 13 = .ok (.aload_n 0, 1) := by decide +kernel
theorem dX0_blameMore_14 : decode cX0_blameMore 14 = .ok (.iload_n 1, 1) := by decide +kernel
theorem dX0_blameMore_15 : decode cX0_blameMore 15 = .ok (.iload_n 3, 1) := by decide +kernel
theorem dX0_blameMore_16 : decode cX0_blameMore 16 = .ok (.invokevirtual 52, 3) := by decide +kernel
theorem dX0_blameMore_19 : decode cX0_blameMore 19 = .ok (.goto 34, 3) := by decide +kernel
theorem dX0_blameMore_22 : decode cX0_blameMore 22 = .ok (.iload_n 3, 1) := by decide +kernel
theorem dX0_blameMore_23 : decode cX0_blameMore 23 = .ok (.bipush 12, 2) := by decide +kernel
theorem dX0_blameMore_25 : decode cX0_blameMore 25 = .ok (.if_icmp .ge 28, 3) := by decide +kernel
theorem dX0_blameMore_28 : decode cX0_blameMore 28 = .ok (.aload_n 0, 1) := by decide +kernel
theorem dX0_blameMore_29 : decode cX0_blameMore 29 = .ok (.getfield 15, 3) := by decide +kernel
theorem dX0_blameMore_32 : decode cX0_blameMore 32 = .ok (.iconst (-1), 1) := by decide +kernel
theorem dX0_blameMore_33 : decode cX0_blameMore 33 = .ok (.if_icmp .eq 11, 3) := by decide +kernel
theorem dX0_blameMore_36 : decode cX0_blameMore 36 = .ok (.iload_n 3, 1) := by decide +kernel
theorem dX0_blameMore_37 : decode cX0_blameMore 37 = .ok (.aload_n 0, 1) := by decide +kernel
theorem dX0_blameMore_38 : decode cX0_blameMore 38 = .ok (.getfield 15, 3) := by decide +kernel
theorem dX0_blameMore_41 : decode cX0_blameMore 41 = .ok (.if_icmp .ge 12, 3) := by decide +kernel
theorem dX0_blameMore_44 : decode cX0_blameMore 44 = .ok (.aload_n 0, 1) := by decide +kernel
theorem dX0_blameMore_45 : decode cX0_blameMore 45 = .ok (.iload 4, 2) := by decide +kernel
theorem dX0_blameMore_47 : decode cX0_blameMore 47 = .ok (.iload_n 1, 1) := by decide +kernel
theorem dX0_blameMore_48 : decode cX0_blameMore 48 = .ok (.iload_n 2, 1) := by decide +kernel
theorem dX0_blameMore_49 : decode cX0_blameMore 49 = .ok (.iload_n 3, 1) := by decide +kernel
theorem dX0_blameMore_50 : decode cX0_blameMore 50 = .ok (.invokevirtual 56, 3) := by decide +kernel
theorem dX0_blameMore_53 : decode cX0_blameMore 53 = .ok (.return_, 1) := by decide +kernel
set_option maxRecDepth 20000 in
theorem ggX0_blameEach_X0_blameMore : GoodIn wsX0_blameEach wsX0_blameMore := goodIn_r _ [5, 6, 7, 8, 9, 4, 10, 11, 12, 13, 14, 15, 16, 17, 18, 19, 20, 21, 0, 1, 2, 3, 22, 23, 24, 25, 26] (by decide +kernel) (by decide +kernel)
set_option maxRecDepth 20000 in
theorem gX0_blameEach_X0_blameMore : GoodIn wsX0_blameEach (wsV RX0 35 RX0 yX0_blameMore wsX0_blameMore) := goodIn_app (goodIn_of _ (by decide +kernel)) ggX0_blameEach_X0_blameMore
theorem dX0_blameEach_0 : decode cX0_blameEach 0 = .ok (.iload_n 3, 1) := by decide +kernel
theorem dX0_blameEach_1 : decode cX0_blameEach 1 = .ok (.istore 5, 2) := by decide +kernel
theorem dX0_blameEach_3 : decode cX0_blameEach 3 = .ok (.iconst 0, 1) := by decide +kernel
theorem dX0_blameEach_4 : decode cX0_blameEach 4 = .ok (.istore 6, 2) := by decide +kernel
theorem dX0_blameEach_6 : decode cX0_blameEach 6 = .ok (.iload 6, 2) := by decide +kernel
theorem dX0_blameEach_8 : decode cX0_blameEach 8 = .ok (.bipush 12, 2) := by decide +kernel
theorem dX0_blameEach_10 : decode cX0_blameEach 10 = .ok (.if_icmp .ge 48, 3) := by decide +kernel
theorem dX0_blameEach_13 : decode cX0_blameEach 13 = .ok (.iconst 1, 1) := by decide +kernel
theorem dX0_blameEach_14 : decode cX0_blameEach 14 = .ok (.iload 6, 2) := by decide +kernel
theorem dX0_blameEach_16 : decode cX0_blameEach 16 = .ok (.ishl, 1) := by decide +kernel
theorem dX0_blameEach_17 : decode cX0_blameEach 17 = .ok (.istore 7, 2) := by decide +kernel
theorem dX0_blameEach_19 : decode cX0_blameEach 19 = .ok (.iload_n 1, 1) := by decide +kernel
theorem dX0_blameEach_20 : decode cX0_blameEach 20 = .ok (.iload 5, 2) := by decide +kernel
theorem dX0_blameEach_22 : decode cX0_blameEach 22 = .ok (.iconst (-1), 1) := by decide +kernel
theorem dX0_blameEach_23 : decode cX0_blameEach 23 = .ok (.ixor, 1) := by decide +kernel
theorem dX0_blameEach_24 : decode cX0_blameEach 24 = .ok (.iand, 1) := by decide +kernel
theorem dX0_blameEach_25 : decode cX0_blameEach 25 = .ok (.iload 7, 2) := by decide +kernel
theorem dX0_blameEach_27 : decode cX0_blameEach 27 = .ok (.iand, 1) := by decide +kernel
theorem dX0_blameEach_28 : decode cX0_blameEach 28 = .ok (.ifCond .eq 24, 3) := by decide +kernel
theorem dX0_blameEach_31 : decode cX0_blameEach 31 = .ok (.aload_n 0, 1) := by decide +kernel
theorem dX0_blameEach_32 : decode cX0_blameEach 32 = .ok (.iload_n 2, 1) := by decide +kernel
theorem dX0_blameEach_33 : decode cX0_blameEach 33 = .ok (.iload 7, 2) := by decide +kernel
theorem dX0_blameEach_35 : decode cX0_blameEach 35 = .ok (.ior, 1) := by decide +kernel
theorem dX0_blameEach_36 : decode cX0_blameEach 36 = .ok (.iload 5, 2) := by decide +kernel
theorem dX0_blameEach_38 : decode cX0_blameEach 38 = .ok (.iload 4, 2) := by decide +kernel
theorem dX0_blameEach_40 : decode cX0_blameEach 40 = .ok (.iconst 1, 1) := by decide +kernel
theorem dX0_blameEach_41 : decode cX0_blameEach 41 = .ok (.iadd, 1) := by decide +kernel
theorem dX0_blameEach_42 : decode cX0_blameEach 42 = .ok (.invokevirtual 35, 3) := by decide +kernel
theorem dX0_blameEach_45 : decode cX0_blameEach 45 = .ok (.iload 5, 2) := by decide +kernel
theorem dX0_blameEach_47 : decode cX0_blameEach 47 = .ok (.iload 7, 2) := by decide +kernel
theorem dX0_blameEach_49 : decode cX0_blameEach 49 = .ok (.ior, 1) := by decide +kernel
theorem dX0_blameEach_50 : decode cX0_blameEach 50 = .ok (.istore 5, 2) := by decide +kernel
theorem dX0_blameEach_52 : decode cX0_blameEach 52 = .ok (.iinc 6 1, 3) := by decide +kernel
theorem dX0_blameEach_55 : decode cX0_blameEach 55 = .ok (.goto (-49), 3) := by decide +kernel
theorem dX0_blameEach_58 : decode cX0_blameEach 58 = .ok (.return_, 1) := by decide +kernel
theorem dX0_firstUnexplained_0 : decode cX0_firstUnexplained 0 = .ok (.iconst 0, 1) := by decide +kernel
theorem dX0_firstUnexplained_1 : decode cX0_firstUnexplained 1 = .ok (.istore_n 2, 1) := by decide +kernel
theorem dX0_firstUnexplained_2 : decode cX0_firstUnexplained 2 = .ok (.iload_n 2, 1) := by decide +kernel
theorem dX0_firstUnexplained_3 : decode cX0_firstUnexplained 3 = .ok (.aload_n 0, 1) := by decide +kernel
theorem dX0_firstUnexplained_4 : decode cX0_firstUnexplained 4 = .ok (.getfield 39, 3) := by decide +kernel
theorem dX0_firstUnexplained_7 : decode cX0_firstUnexplained 7 = .ok (.if_icmp .ge 27, 3) := by decide +kernel
theorem dX0_firstUnexplained_10 : decode cX0_firstUnexplained 10 = .ok (.aload_n 0, 1) := by decide +kernel
theorem dX0_firstUnexplained_11 : decode cX0_firstUnexplained 11 = .ok (.getfield 9, 3) := by decide +kernel
theorem dX0_firstUnexplained_14 : decode cX0_firstUnexplained 14 = .ok (.iload_n 2, 1) := by decide +kernel
theorem dX0_firstUnexplained_15 : decode cX0_firstUnexplained 15 = .ok (.iaload, 1) := by decide +kernel
theorem dX0_firstUnexplained_16 : decode cX0_firstUnexplained 16 = .ok (.iload_n 1, 1) := by decide +kernel
theorem dX0_firstUnexplained_17 : decode cX0_firstUnexplained 17 = .ok (.iand, 1) := by decide +kernel
theorem dX0_firstUnexplained_18 : decode cX0_firstUnexplained 18 = .ok (.ifCond .ne 10, 3) := by decide +kernel
theorem dX0_firstUnexplained_21 : decode cX0_firstUnexplained 21 = .ok (.aload_n 0, 1) := by decide +kernel
theorem dX0_firstUnexplained_22 : decode cX0_firstUnexplained 22 = .ok (.getfield 9, 3) := by decide +kernel
theorem dX0_firstUnexplained_25 : decode cX0_firstUnexplained 25 = .ok (.iload_n 2, 1) := by decide +kernel
theorem dX0_firstUnexplained_26 : decode cX0_firstUnexplained 26 = .ok (.iaload, 1) := by decide +kernel
theorem dX0_firstUnexplained_27 : decode cX0_firstUnexplained 27 = .ok (.ireturn, 1) := by decide +kernel
theorem dX0_firstUnexplained_28 : decode cX0_firstUnexplained 28 = .ok (.iinc 2 1, 3) := by decide +kernel
theorem dX0_firstUnexplained_31 : decode cX0_firstUnexplained 31 = .ok (.goto (-29), 3) := by decide +kernel
theorem dX0_firstUnexplained_34 : decode cX0_firstUnexplained 34 = .ok (.iconst (-1), 1) := by decide +kernel
theorem dX0_firstUnexplained_35 : decode cX0_firstUnexplained 35 = .ok (.ireturn, 1) := by decide +kernel
theorem dX0_keep_0 : decode cX0_keep 0 = .ok (.aload_n 0, 1) := by decide +kernel
theorem dX0_keep_1 : decode cX0_keep 1 = .ok (.getfield 15, 3) := by decide +kernel
theorem dX0_keep_4 : decode cX0_keep 4 = .ok (.iconst (-1), 1) := by decide +kernel
theorem dX0_keep_5 : decode cX0_keep 5 = .ok (.if_icmp .eq 11, 3) := by decide +kernel
theorem dX0_keep_8 : decode cX0_keep 8 = .ok (.iload_n 2, 1) := by decide +kernel
theorem dX0_keep_9 : decode cX0_keep 9 = .ok (.aload_n 0, 1) := by decide +kernel
theorem dX0_keep_10 : decode cX0_keep 10 = .ok (.getfield 15, 3) := by decide +kernel
theorem dX0_keep_13 : decode cX0_keep 13 = .ok (.if_icmp .ge 21, 3) := by decide +kernel
theorem dX0_keep_16 : decode cX0_keep 16 = .ok (.aload_n 0, 1) := by decide +kernel
theorem dX0_keep_17 : decode cX0_keep 17 = .ok (.iload_n 2, 1) := by decide +kernel
theorem dX0_keep_18 : decode cX0_keep 18 = .ok (.putfield 15, 3) := by decide +kernel
theorem dX0_keep_21 : decode cX0_keep 21 = .ok (.aload_n 0, 1) := by decide +kernel
theorem dX0_keep_22 : decode cX0_keep 22 = .ok (.iconst 1, 1) := by decide +kernel
theorem dX0_keep_23 : decode cX0_keep 23 = .ok (.putfield 19, 3) := by decide +kernel
theorem dX0_keep_26 : decode cX0_keep 26 = .ok (.aload_n 0, 1) := by decide +kernel
theorem dX0_keep_27 : decode cX0_keep 27 = .ok (.iload_n 1, 1) := by decide +kernel
theorem dX0_keep_28 : decode cX0_keep 28 = .ok (.putfield 22, 3) := by decide +kernel
theorem dX0_keep_31 : decode cX0_keep 31 = .ok (.goto 31, 3) := by decide +kernel
theorem dX0_keep_34 : decode cX0_keep 34 = .ok (.iload_n 2, 1) := by decide +kernel
theorem dX0_keep_35 : decode cX0_keep 35 = .ok (.aload_n 0, 1) := by decide +kernel
theorem dX0_keep_36 : decode cX0_keep 36 = .ok (.getfield 15, 3) := by decide +kernel
theorem dX0_keep_39 : decode cX0_keep 39 = .ok (.if_icmp .ne 23, 3) := by decide +kernel
theorem dX0_keep_42 : decode cX0_keep 42 = .ok (.aload_n 0, 1) := by decide +kernel
theorem dX0_keep_43 : decode cX0_keep 43 = .ok (.dup, 1) := by decide +kernel
theorem dX0_keep_44 : decode cX0_keep 44 = .ok (.getfield 19, 3) := by decide +kernel
theorem dX0_keep_47 : decode cX0_keep 47 = .ok (.iconst 1, 1) := by decide +kernel
theorem dX0_keep_48 : decode cX0_keep 48 = .ok (.iadd, 1) := by decide +kernel
theorem dX0_keep_49 : decode cX0_keep 49 = .ok (.putfield 19, 3) := by decide +kernel
theorem dX0_keep_52 : decode cX0_keep 52 = .ok (.aload_n 0, 1) := by decide +kernel
theorem dX0_keep_53 : decode cX0_keep 53 = .ok (.dup, 1) := by decide +kernel
theorem dX0_keep_54 : decode cX0_keep 54 = .ok (.getfield 22, 3) := by decide +kernel
theorem dX0_keep_57 : decode cX0_keep 57 = .ok (.iload_n 1, 1) := by decide +kernel
theorem dX0_keep_58 : decode cX0_keep 58 = .ok (.iand, 1) := by decide +kernel
theorem dX0_keep_59 : decode cX0_keep 59 = .ok (.putfield 22, 3) := by decide +kernel
theorem dX0_keep_62 : decode cX0_keep 62 = .ok (.return_, 1) := by decide +kernel
theorem dX1_init_0 : decode cX1_init 0 = .ok (.aload_n 0, 1) := by decide +kernel
theorem dX1_init_1 : decode cX1_init 1 = .ok (.invokespecial 3, 3) := by decide +kernel
theorem dX1_init_4 : decode cX1_init 4 = .ok (.aload_n 0, 1) := by decide +kernel
theorem dX1_init_5 : decode cX1_init 5 = .ok (.bipush 6, 2) := by decide +kernel
theorem dX1_init_7 : decode cX1_init 7 = .ok (.newarray .int, 2) := by decide +kernel
theorem dX1_init_9 : decode cX1_init 9 = .ok (.putfield 9, 3) := by decide +kernel
theorem dX1_init_12 : decode cX1_init 12 = .ok (.aload_n 0, 1) := by decide +kernel
theorem dX1_init_13 : decode cX1_init 13 = .ok (.bipush 6, 2) := by decide +kernel
theorem dX1_init_15 : decode cX1_init 15 = .ok (.newarray .int, 2) := by decide +kernel
theorem dX1_init_17 : decode cX1_init 17 = .ok (.putfield 15, 3) := by decide +kernel
theorem dX1_init_20 : decode cX1_init 20 = .ok (.aload_n 0, 1) := by decide +kernel
theorem dX1_init_21 : decode cX1_init 21 = .ok (.bipush 6, 2) := by decide +kernel
theorem dX1_init_23 : decode cX1_init 23 = .ok (.newarray .int, 2) := by decide +kernel
theorem dX1_init_25 : decode cX1_init 25 = .ok (.putfield 18, 3) := by decide +kernel
theorem dX1_init_28 : decode cX1_init 28 = .ok (.aload_n 0, 1) := by decide +kernel
theorem dX1_init_29 : decode cX1_init 29 = .ok (.bipush 6, 2) := by decide +kernel
theorem dX1_init_31 : decode cX1_init 31 = .ok (.newarray .int, 2) := by decide +kernel
theorem dX1_init_33 : decode cX1_init 33 = .ok (.putfield 21, 3) := by decide +kernel
theorem dX1_init_36 : decode cX1_init 36 = .ok (.aload_n 0, 1) := by decide +kernel
theorem dX1_init_37 : decode cX1_init 37 = .ok (.bipush 6, 2) := by decide +kernel
theorem dX1_init_39 : decode cX1_init 39 = .ok (.newarray .int, 2) := by decide +kernel
theorem dX1_init_41 : decode cX1_init 41 = .ok (.putfield 24, 3) := by decide +kernel
theorem dX1_init_44 : decode cX1_init 44 = .ok (.aload_n 0, 1) := by decide +kernel
theorem dX1_init_45 : decode cX1_init 45 = .ok (.iconst (-1), 1) := by decide +kernel
theorem dX1_init_46 : decode cX1_init 46 = .ok (.putfield 27, 3) := by decide +kernel
theorem dX1_init_49 : decode cX1_init 49 = .ok (.aload_n 0, 1) := by decide +kernel
theorem dX1_init_50 : decode cX1_init 50 = .ok (.bipush 6, 2) := by decide +kernel
theorem dX1_init_52 : decode cX1_init 52 = .ok (.newarray .int, 2) := by decide +kernel
theorem dX1_init_54 : decode cX1_init 54 = .ok (.putfield 31, 3) := by decide +kernel
theorem dX1_init_57 : decode cX1_init 57 = .ok (.aload_n 0, 1) := by decide +kernel
theorem dX1_init_58 : decode cX1_init 58 = .ok (.bipush 7, 2) := by decide +kernel
theorem dX1_init_60 : decode cX1_init 60 = .ok (.newarray .int, 2) := by decide +kernel
theorem dX1_init_62 : decode cX1_init 62 = .ok (.putfield 34, 3) := by decide +kernel
theorem dX1_init_65 : decode cX1_init 65 = .ok (.aload_n 0, 1) := by decide +kernel
theorem dX1_init_66 : decode cX1_init 66 = .ok (.bipush 7, 2) := by decide +kernel
theorem dX1_init_68 : decode cX1_init 68 = .ok (.newarray .int, 2) := by decide +kernel
theorem dX1_init_70 : decode cX1_init 70 = .ok (.putfield 37, 3) := by decide +kernel
theorem dX1_init_73 : decode cX1_init 73 = .ok (.aload_n 0, 1) := by decide +kernel
theorem dX1_init_74 : decode cX1_init 74 = .ok (.bipush 7, 2) := by decide +kernel
theorem dX1_init_76 : decode cX1_init 76 = .ok (.newarray .int, 2) := by decide +kernel
theorem dX1_init_78 : decode cX1_init 78 = .ok (.putfield 40, 3) := by decide +kernel
theorem dX1_init_81 : decode cX1_init 81 = .ok (.aload_n 0, 1) := by decide +kernel
theorem dX1_init_82 : decode cX1_init 82 = .ok (.bipush 7, 2) := by decide +kernel
theorem dX1_init_84 : decode cX1_init 84 = .ok (.newarray .int, 2) := by decide +kernel
theorem dX1_init_86 : decode cX1_init 86 = .ok (.putfield 43, 3) := by decide +kernel
theorem dX1_init_89 : decode cX1_init 89 = .ok (.return_, 1) := by decide +kernel
theorem dX1_add_0 : decode cX1_add 0 = .ok (.aload_n 0, 1) := by decide +kernel
theorem dX1_add_1 : decode cX1_add 1 = .ok (.getfield 46, 3) := by decide +kernel
theorem dX1_add_4 : decode cX1_add 4 = .ok (.istore 5, 2) := by decide +kernel
theorem dX1_add_6 : decode cX1_add 6 = .ok (.aload_n 0, 1) := by decide +kernel
theorem dX1_add_7 : decode cX1_add 7 = .ok (.getfield 9, 3) := by decide +kernel
theorem dX1_add_10 : decode cX1_add 10 = .ok (.iload 5, 2) := by decide +kernel
theorem dX1_add_12 : decode cX1_add 12 = .ok (.iload_n 1, 1) := by decide +kernel
theorem dX1_add_13 : decode cX1_add 13 = .ok (.iastore, 1) := by decide +kernel
theorem dX1_add_14 : decode cX1_add 14 = .ok (.aload_n 0, 1) := by decide +kernel
theorem dX1_add_15 : decode cX1_add 15 = .ok (.getfield 15, 3) := by decide +kernel
theorem dX1_add_18 : decode cX1_add 18 = .ok (.iload 5, 2) := by decide +kernel
theorem dX1_add_20 : decode cX1_add 20 = .ok (.iload_n 2, 1) := by decide +kernel
theorem dX1_add_21 : decode cX1_add 21 = .ok (.iastore, 1) := by decide +kernel
theorem dX1_add_22 : decode cX1_add 22 = .ok (.aload_n 0, 1) := by decide +kernel
theorem dX1_add_23 : decode cX1_add 23 = .ok (.getfield 18, 3) := by decide +kernel
theorem dX1_add_26 : decode cX1_add 26 = .ok (.iload 5, 2) := by decide +kernel
theorem dX1_add_28 : decode cX1_add 28 = .ok (.iload_n 3, 1) := by decide +kernel
theorem dX1_add_29 : decode cX1_add 29 = .ok (.iastore, 1) := by decide +kernel
theorem dX1_add_30 : decode cX1_add 30 = .ok (.aload_n 0, 1) := by decide +kernel
theorem dX1_add_31 : decode cX1_add 31 = .ok (.getfield 21, 3) := by decide +kernel
theorem dX1_add_34 : decode cX1_add 34 = .ok (.iload 5, 2) := by decide +kernel
theorem dX1_add_36 : decode cX1_add 36 = .ok (.iload 4, 2) := by decide +kernel
theorem dX1_add_38 : decode cX1_add 38 = .ok (.iastore, 1) := by decide +kernel
theorem dX1_add_39 : decode cX1_add 39 = .ok (.aload_n 0, 1) := by decide +kernel
theorem dX1_add_40 : decode cX1_add 40 = .ok (.dup, 1) := by decide +kernel
theorem dX1_add_41 : decode cX1_add 41 = .ok (.getfield 46, 3) := by decide +kernel
theorem dX1_add_44 : decode cX1_add 44 = .ok (.iconst 1, 1) := by decide +kernel
theorem dX1_add_45 : decode cX1_add 45 = .ok (.iadd, 1) := by decide +kernel
theorem dX1_add_46 : decode cX1_add 46 = .ok (.putfield 46, 3) := by decide +kernel
theorem dX1_add_49 : decode cX1_add 49 = .ok (.iload 5, 2) := by decide +kernel
theorem dX1_add_51 : decode cX1_add 51 = .ok (.ireturn, 1) := by decide +kernel
set_option maxRecDepth 20000 in
theorem ggX1_seek_X1_setBounds : GoodIn wsX1_seek wsX1_setBounds := goodIn_r _ [8, 9, 10, 11, 12, 13, 14, 15, 16, 17, 18, 19, 20, 21, 22, 23, 24, 45, 46, 47, 48, 49, 50, 51, 52, 53, 54, 55, 56, 57, 58, 59, 60] (by decide +kernel) (by decide +kernel)
set_option maxRecDepth 20000 in
theorem gX1_seek_X1_setBounds : GoodIn wsX1_seek (wsV RX1 55 RX1 yX1_setBounds wsX1_setBounds) := goodIn_app (goodIn_of _ (by decide +kernel)) ggX1_seek_X1_setBounds
set_option maxRecDepth 20000 in
theorem ggX1_seek_X1_choose : GoodIn wsX1_seek wsX1_choose := goodIn_r _ [28, 10, 29, 30, 31, 7, 32, 9, 1, 11, 12, 2, 13, 3, 33, 34, 35, 36, 37, 38, 39, 40, 41, 42, 43, 44, 14, 16, 17, 18, 19, 15, 20, 24, 25, 26, 27, 45, 46, 47, 48, 49, 50, 51, 52, 53, 54, 55, 56, 57, 58, 59, 60] (by decide +kernel) (by decide +kernel)
set_option maxRecDepth 20000 in
theorem gX1_seek_X1_choose : GoodIn wsX1_seek (wsV RX1 58 RX1 yX1_choose wsX1_choose) := goodIn_app (goodIn_of _ (by decide +kernel)) ggX1_seek_X1_choose
theorem dX1_seek_0 : decode cX1_seek 0 = .ok (.aload_n 0, 1) := by decide +kernel
theorem dX1_seek_1 : decode cX1_seek 1 = .ok (.iconst (-1), 1) := by decide +kernel
theorem dX1_seek_2 : decode cX1_seek 2 = .ok (.putfield 27, 3) := by decide +kernel
theorem dX1_seek_5 : decode cX1_seek 5 = .ok (.aload_n 0, 1) := by decide +kernel
theorem dX1_seek_6 : decode cX1_seek 6 = .ok (.iload_n 1, 1) := by decide +kernel
theorem dX1_seek_7 : decode cX1_seek 7 = .ok (.bipush 10, 2) := by decide +kernel
theorem dX1_seek_9 : decode cX1_seek 9 = .ok (.imul, 1) := by decide +kernel
theorem dX1_seek_10 : decode cX1_seek 10 = .ok (.putfield 49, 3) := by decide +kernel
theorem dX1_seek_13 : decode cX1_seek 13 = .ok (.aload_n 0, 1) := by decide +kernel
theorem dX1_seek_14 : decode cX1_seek 14 = .ok (.iload_n 2, 1) := by decide +kernel
theorem dX1_seek_15 : decode cX1_seek 15 = .ok (.bipush 10, 2) := by decide +kernel
theorem dX1_seek_17 : decode cX1_seek 17 = .ok (.imul, 1) := by decide +kernel
theorem dX1_seek_18 : decode cX1_seek 18 = .ok (.putfield 52, 3) := by decide +kernel
theorem dX1_seek_21 : decode cX1_seek 21 = .ok (.aload_n 0, 1) := by decide +kernel
theorem dX1_seek_22 : decode cX1_seek 22 = .ok (.invokevirtual 55, 3) := by decide +kernel
theorem dX1_seek_25 : decode cX1_seek 25 = .ok (.aload_n 0, 1) := by decide +kernel
theorem dX1_seek_26 : decode cX1_seek 26 = .ok (.iconst 0, 1) := by decide +kernel
theorem dX1_seek_27 : decode cX1_seek 27 = .ok (.bipush 10, 2) := by decide +kernel
theorem dX1_seek_29 : decode cX1_seek 29 = .ok (.iconst 0, 1) := by decide +kernel
theorem dX1_seek_30 : decode cX1_seek 30 = .ok (.iconst 0, 1) := by decide +kernel
theorem dX1_seek_31 : decode cX1_seek 31 = .ok (.iconst 0, 1) := by decide +kernel
theorem dX1_seek_32 : decode cX1_seek 32 = .ok (.invokevirtual 58, 3) := by decide +kernel
theorem dX1_seek_35 : decode cX1_seek 35 = .ok (.return_, 1) := by decide +kernel
theorem dX1_takeBest_0 : decode cX1_takeBest 0 = .ok (.iconst 0, 1) := by decide +kernel
theorem dX1_takeBest_1 : decode cX1_takeBest 1 = .ok (.istore_n 1, 1) := by decide +kernel
theorem dX1_takeBest_2 : decode cX1_takeBest 2 = .ok (.iload_n 1, 1) := by decide +kernel
theorem dX1_takeBest_3 : decode cX1_takeBest 3 = .ok (.aload_n 0, 1) := by decide +kernel
theorem dX1_takeBest_4 : decode cX1_takeBest 4 = .ok (.getfield 46, 3) := by decide +kernel
theorem dX1_takeBest_7 : decode cX1_takeBest 7 = .ok (.if_icmp .ge 24, 3) := by decide +kernel
theorem dX1_takeBest_10 : decode cX1_takeBest 10 = .ok (.aload_n 0, 1) := by decide +kernel
theorem dX1_takeBest_11 : decode cX1_takeBest 11 = .ok (.getfield 21, 3) := by decide +kernel
theorem dX1_takeBest_14 : decode cX1_takeBest 14 = .ok (.iload_n 1, 1) := by decide +kernel
theorem dX1_takeBest_15 : decode cX1_takeBest 15 = .ok (.dup2, 1) := by decide +kernel
theorem dX1_takeBest_16 : decode cX1_takeBest 16 = .ok (.iaload, 1) := by decide +kernel
theorem dX1_takeBest_17 : decode cX1_takeBest 17 = .ok (.aload_n 0, 1) := by decide +kernel
theorem dX1_takeBest_18 : decode cX1_takeBest 18 = .ok (.getfield 24, 3) := by decide +kernel
theorem dX1_takeBest_21 : decode cX1_takeBest 21 = .ok (.iload_n 1, 1) := by decide +kernel
theorem dX1_takeBest_22 : decode cX1_takeBest 22 = .ok (.iaload, 1) := by decide +kernel
theorem dX1_takeBest_23 : decode cX1_takeBest 23 = .ok (.isub, 1) := by decide +kernel
theorem dX1_takeBest_24 : decode cX1_takeBest 24 = .ok (.iastore, 1) := by decide +kernel
theorem dX1_takeBest_25 : decode cX1_takeBest 25 = .ok (.iinc 1 1, 3) := by decide +kernel
theorem dX1_takeBest_28 : decode cX1_takeBest 28 = .ok (.goto (-26), 3) := by decide +kernel
theorem dX1_takeBest_31 : decode cX1_takeBest 31 = .ok (.return_, 1) := by decide +kernel
theorem dX1_setBounds_0 : decode cX1_setBounds 0 = .ok (.aload_n 0, 1) := by decide +kernel
theorem dX1_setBounds_1 : decode cX1_setBounds 1 = .ok (.getfield 34, 3) := by decide +kernel
theorem dX1_setBounds_4 : decode cX1_setBounds 4 = .ok (.aload_n 0, 1) := by decide +kernel
theorem dX1_setBounds_5 : decode cX1_setBounds 5 = .ok (.getfield 46, 3) := by decide +kernel
theorem dX1_setBounds_8 : decode cX1_setBounds 8 = .ok (.iconst 0, 1) := by decide +kernel
theorem dX1_setBounds_9 : decode cX1_setBounds 9 = .ok (.iastore, 1) := by decide +kernel
theorem dX1_setBounds_10 : decode cX1_setBounds 10 = .ok (.aload_n 0, 1) := by decide +kernel
theorem dX1_setBounds_11 : decode cX1_setBounds 11 = .ok (.getfield 37, 3) := by decide +kernel
theorem dX1_setBounds_14 : decode cX1_setBounds 14 = .ok (.aload_n 0, 1) := by decide +kernel
theorem dX1_setBounds_15 : decode cX1_setBounds 15 = .ok (.getfield 46, 3) := by decide +kernel
theorem dX1_setBounds_18 : decode cX1_setBounds 18 = .ok (.sipush 1000, 3) := by decide +kernel
theorem dX1_setBounds_21 : decode cX1_setBounds 21 = .ok (.iastore, 1) := by decide +kernel
theorem dX1_setBounds_22 : decode cX1_setBounds 22 = .ok (.aload_n 0, 1) := by decide +kernel
theorem dX1_setBounds_23 : decode cX1_setBounds 23 = .ok (.getfield 40, 3) := by decide +kernel
theorem dX1_setBounds_26 : decode cX1_setBounds 26 = .ok (.aload_n 0, 1) := by decide +kernel
theorem dX1_setBounds_27 : decode cX1_setBounds 27 = .ok (.getfield 46, 3) := by decide +kernel
theorem dX1_setBounds_30 : decode cX1_setBounds 30 = .ok (.iconst 0, 1) := by decide +kernel
theorem dX1_setBounds_31 : decode cX1_setBounds 31 = .ok (.iastore, 1) := by decide +kernel
theorem dX1_setBounds_32 : decode cX1_setBounds 32 = .ok (.aload_n 0, 1) := by decide +kernel
theorem dX1_setBounds_33 : decode cX1_setBounds 33 = .ok (.getfield 43, 3) := by decide +kernel
theorem dX1_setBounds_36 : decode cX1_setBounds 36 = .ok (.aload_n 0, 1) := by decide +kernel
theorem dX1_setBounds_37 : decode cX1_setBounds 37 = .ok (.getfield 46, 3) := by decide +kernel
theorem dX1_setBounds_40 : decode cX1_setBounds 40 = .ok (.sipush 1000, 3) := by decide +kernel
theorem dX1_setBounds_43 : decode cX1_setBounds 43 = .ok (.iastore, 1) := by decide +kernel
theorem dX1_setBounds_44 : decode cX1_setBounds 44 = .ok (.aload_n 0, 1) := by decide +kernel
theorem dX1_setBounds_45 : decode cX1_setBounds 45 = .ok (.getfield 46, 3) := by decide +kernel
theorem dX1_setBounds_48 : decode cX1_setBounds 48 = .ok (.iconst 1, 1) := by decide +kernel
theorem dX1_setBounds_49 : decode cX1_setBounds 49 = .ok (.isub, 1) := by decide +kernel
theorem dX1_setBounds_50 : decode cX1_setBounds 50 = .ok (.istore_n 1, 1) := by decide +kernel
theorem dX1_setBounds_51 : decode cX1_setBounds 51 = .ok (.iload_n 1, 1) := by decide +kernel
theorem dX1_setBounds_52 : decode cX1_setBounds 52 = .ok (.ifCond .lt 99, 3) := by decide +kernel
theorem dX1_setBounds_55 : decode cX1_setBounds 55 = .ok (.aload_n 0, 1) := by decide +kernel
theorem dX1_setBounds_56 : decode cX1_setBounds 56 = .ok (.getfield 34, 3) := by decide +kernel
theorem dX1_setBounds_59 : decode cX1_setBounds 59 = .ok (.iload_n 1, 1) := by decide +kernel
theorem dX1_setBounds_60 : decode cX1_setBounds 60 = .ok (.aload_n 0, 1) := by decide +kernel
theorem dX1_setBounds_61 : decode cX1_setBounds 61 = .ok (.getfield 34, 3) := by decide +kernel
theorem dX1_setBounds_64 : decode cX1_setBounds 64 = .ok (.iload_n 1, 1) := by decide +kernel
theorem dX1_setBounds_65 : decode cX1_setBounds 65 = .ok (.iconst 1, 1) := by decide +kernel
theorem dX1_setBounds_66 : decode cX1_setBounds 66 = .ok (.iadd, 1) := by decide +kernel
theorem dX1_setBounds_67 : decode cX1_setBounds 67 = .ok (.iaload, 1) := by decide +kernel
theorem dX1_setBounds_68 : decode cX1_setBounds 68 = .ok (.aload_n 0, 1) := by decide +kernel
theorem dX1_setBounds_69 : decode cX1_setBounds 69 = .ok (.getfield 21, 3) := by decide +kernel
theorem dX1_setBounds_72 : decode cX1_setBounds 72 = .ok (.iload_n 1, 1) := by decide +kernel
theorem dX1_setBounds_73 : decode cX1_setBounds 73 = .ok (.iaload, 1) := by decide +kernel
theorem dX1_setBounds_74 : decode cX1_setBounds 74 = .ok (.iadd, 1) := by decide +kernel
theorem dX1_setBounds_75 : decode cX1_setBounds 75 = .ok (.iastore, 1) := by decide +kernel
theorem dX1_setBounds_76 : decode cX1_setBounds 76 = .ok (.aload_n 0, 1) := by decide +kernel
theorem dX1_setBounds_77 : decode cX1_setBounds 77 = .ok (.getfield 37, 3) := by decide +kernel
theorem dX1_setBounds_80 : decode cX1_setBounds 80 = .ok (.iload_n 1, 1) := by decide +kernel
theorem dX1_setBounds_81 : decode cX1_setBounds 81 = .ok (.aload_n 0, 1) := by decide +kernel
theorem dX1_setBounds_82 : decode cX1_setBounds 82 = .ok (.getfield 37, 3) := by decide +kernel
theorem dX1_setBounds_85 : decode cX1_setBounds 85 = .ok (.iload_n 1, 1) := by decide +kernel
theorem dX1_setBounds_86 : decode cX1_setBounds 86 = .ok (.iconst 1, 1) := by decide +kernel
theorem dX1_setBounds_87 : decode cX1_setBounds 87 = .ok (.iadd, 1) := by decide +kernel
theorem dX1_setBounds_88 : decode cX1_setBounds 88 = .ok (.iaload, 1) := by decide +kernel
theorem dX1_setBounds_89 : decode cX1_setBounds 89 = .ok (.aload_n 0, 1) := by decide +kernel
theorem dX1_setBounds_90 : decode cX1_setBounds 90 = .ok (.getfield 18, 3) := by decide +kernel
theorem dX1_setBounds_93 : decode cX1_setBounds 93 = .ok (.iload_n 1, 1) := by decide +kernel
theorem dX1_setBounds_94 : decode cX1_setBounds 94 = .ok (.iaload, 1) := by decide +kernel
theorem dX1_setBounds_95 : decode cX1_setBounds 95 = .ok (.invokestatic 62, 3) := by decide +kernel
theorem dX1_setBounds_98 : decode cX1_setBounds 98 = .ok (.iastore, 1) := by decide +kernel
theorem dX1_setBounds_99 : decode cX1_setBounds 99 = .ok (.aload_n 0, 1) := by decide +kernel
theorem dX1_setBounds_100 : decode cX1_setBounds 100 = .ok (.getfield 40, 3) := by decide +kernel
theorem dX1_setBounds_103 : decode cX1_setBounds 103 = .ok (.iload_n 1, 1) := by decide +kernel
theorem dX1_setBounds_104 : decode cX1_setBounds 104 = .ok (.aload_n 0, 1) := by decide +kernel
theorem dX1_setBounds_105 : decode cX1_setBounds 105 = .ok (.getfield 40, 3) := by decide +kernel
theorem dX1_setBounds_108 : decode cX1_setBounds 108 = .ok (.iload_n 1, 1) := by decide +kernel
theorem dX1_setBounds_109 : decode cX1_setBounds 109 = .ok (.iconst 1, 1) := by decide +kernel
theorem dX1_setBounds_110 : decode cX1_setBounds 110 = .ok (.iadd, 1) := by decide +kernel
theorem dX1_setBounds_111 : decode cX1_setBounds 111 = .ok (.iaload, 1) := by decide +kernel
theorem dX1_setBounds_112 : decode cX1_setBounds 112 = .ok (.aload_n 0, 1) := by decide +kernel
theorem dX1_setBounds_113 : decode cX1_setBounds 113 = .ok (.getfield 9, 3) := by decide +kernel
theorem dX1_setBounds_116 : decode cX1_setBounds 116 = .ok (.iload_n 1, 1) := by decide +kernel
theorem dX1_setBounds_117 : decode cX1_setBounds 117 = .ok (.iaload, 1) := by decide +kernel
theorem dX1_setBounds_118 : decode cX1_setBounds 118 = .ok (.invokestatic 68, 3) := by decide +kernel
theorem dX1_setBounds_121 : decode cX1_setBounds 121 = .ok (.iastore, 1) := by decide +kernel
theorem dX1_setBounds_122 : decode cX1_setBounds 122 = .ok (.aload_n 0, 1) := by decide +kernel
theorem dX1_setBounds_123 : decode cX1_setBounds 123 = .ok (.getfield 43, 3) := by decide +kernel
theorem dX1_setBounds_126 : decode cX1_setBounds 126 = .ok (.iload_n 1, 1) := by decide +kernel
theorem dX1_setBounds_127 : decode cX1_setBounds 127 = .ok (.aload_n 0, 1) := by decide +kernel
theorem dX1_setBounds_128 : decode cX1_setBounds 128 = .ok (.getfield 43, 3) := by decide +kernel
theorem dX1_setBounds_131 : decode cX1_setBounds 131 = .ok (.iload_n 1, 1) := by decide +kernel
theorem dX1_setBounds_132 : decode cX1_setBounds 132 = .ok (.iconst 1, 1) := by decide +kernel
theorem dX1_setBounds_133 : decode cX1_setBounds 133 = .ok (.iadd, 1) := by decide +kernel
theorem dX1_setBounds_134 : decode cX1_setBounds 134 = .ok (.iaload, 1) := by decide +kernel
theorem dX1_setBounds_135 : decode cX1_setBounds 135 = .ok (.aload_n 0, 1) := by decide +kernel
theorem dX1_setBounds_136 : decode cX1_setBounds 136 = .ok (.getfield 15, 3) := by decide +kernel
theorem dX1_setBounds_139 : decode cX1_setBounds 139 = .ok (.iload_n 1, 1) := by decide +kernel
theorem dX1_setBounds_140 : decode cX1_setBounds 140 = .ok (.iaload, 1) := by decide +kernel
theorem dX1_setBounds_141 : decode cX1_setBounds 141 = .ok (.invokestatic 62, 3) := by decide +kernel
theorem dX1_setBounds_144 : decode cX1_setBounds 144 = .ok (.iastore, 1) := by decide +kernel
theorem dX1_setBounds_145 : decode cX1_setBounds 145 = .ok (.iinc 1 (-1), 3) := by decide +kernel
theorem dX1_setBounds_148 : decode cX1_setBounds 148 = .ok (.goto (-97), 3) := by decide +kernel
theorem dX1_setBounds_151 : decode cX1_setBounds 151 = .ok (.return_, 1) := by decide +kernel
set_option maxRecDepth 20000 in
theorem ggX1_choose_X1_mayBeBetter : GoodIn wsX1_choose wsX1_mayBeBetter := goodIn_r _ [6, 7, 8, 9, 10, 11, 12, 13, 37, 38, 39, 40, 41, 42, 43, 44, 45, 46, 47, 48, 49, 50, 51, 52] (by decide +kernel) (by decide +kernel)
set_option maxRecDepth 20000 in
theorem gX1_choose_X1_mayBeBetter : GoodIn wsX1_choose (wsV RX1 71 RX1 yX1_mayBeBetter wsX1_mayBeBetter) := goodIn_app (goodIn_of _ (by decide +kernel)) ggX1_choose_X1_mayBeBetter
set_option maxRecDepth 20000 in
theorem ggX1_choose_X1_keep : GoodIn wsX1_choose wsX1_keep := goodIn_r _ [17, 8, 18, 19, 1, 20, 21, 37, 38, 39, 40, 41, 42, 43, 44, 45, 46, 47, 48, 49, 50, 51, 52] (by decide +kernel) (by decide +kernel)
set_option maxRecDepth 20000 in
theorem gX1_choose_X1_keep : GoodIn wsX1_choose (wsV RX1 75 RX1 yX1_keep wsX1_keep) := goodIn_app (goodIn_of _ (by decide +kernel)) ggX1_choose_X1_keep
set_option maxRecDepth 20000 in
theorem ggX1_choose_X1_chooseParts : GoodIn wsX1_choose wsX1_chooseParts := goodIn_r _ [25, 26, 27, 28, 29, 30, 21, 31, 32, 33, 34, 35, 36, 5, 0, 1, 2, 3, 4, 6, 7, 8, 9, 10, 11, 12, 13, 14, 15, 16, 17, 18, 19, 20, 22, 23, 24, 37, 38, 39, 40, 41, 42, 43, 44, 45, 46, 47, 48, 49, 50, 51, 52] (by decide +kernel) (by decide +kernel)
set_option maxRecDepth 20000 in
theorem gX1_choose_X1_chooseParts : GoodIn wsX1_choose (wsV RX1 79 RX1 yX1_chooseParts wsX1_chooseParts) := goodIn_app (goodIn_of _ (by decide +kernel)) ggX1_choose_X1_chooseParts
theorem dX1_choose_0 : decode cX1_choose 0 = .ok (.aload_n 0, 1) := by decide +kernel
theorem dX1_choose_1 : decode cX1_choose 1 = .ok (.iload_n 1, 1) := by decide +kernel
theorem dX1_choose_2 : decode cX1_choose 2 = .ok (.iload_n 2, 1) := by decide +kernel
theorem dX1_choose_3 : decode cX1_choose 3 = .ok (.iload_n 3, 1) := by decide +kernel
theorem dX1_choose_4 : decode cX1_choose 4 = .ok (.iload 4, 2) := by decide +kernel
theorem dX1_choose_6 : decode cX1_choose 6 = .ok (.iload 5, 2) := by decide +kernel
theorem dX1_choose_8 : decode cX1_choose 8 = .ok (.invokevirtual 71, 3) := by decide +kernel
theorem dX1_choose_11 : decode cX1_choose 11 = .ok (.ifCond .ne 4, 3) := by decide +kernel
theorem dX1_choose_14 : decode cX1_choose 14 = .ok (.return_, 1) := by decide +kernel
theorem dX1_choose_15 : decode cX1_choose 15 = .ok (.iload_n 1, 1) := by decide +kernel
theorem dX1_choose_16 : decode cX1_choose 16 = .ok (.aload_n 0, 1) := by decide +kernel
theorem dX1_choose_17 : decode cX1_choose 17 = .ok (.getfield 46, 3) := by decide +kernel
theorem dX1_choose_20 : decode cX1_choose 20 = .ok (.if_icmp .lt 15, 3) := by decide +kernel
theorem dX1_choose_23 : decode cX1_choose 23 = .ok (.aload_n 0, 1) := by decide +kernel
theorem dX1_choose_24 : decode cX1_choose 24 = .ok (.iload_n 3, 1) := by decide +kernel
theorem dX1_choose_25 : decode cX1_choose 25 = .ok (.iload 4, 2) := by decide +kernel
theorem dX1_choose_27 : decode cX1_choose 27 = .ok (.iload 5, 2) := by decide +kernel
theorem dX1_choose_29 : decode cX1_choose 29 = .ok (.invokevirtual 75, 3) := by decide +kernel
theorem dX1_choose_32 : decode cX1_choose 32 = .ok (.goto 14, 3) := by decide +kernel
theorem dX1_choose_35 : decode cX1_choose 35 = .ok (.aload_n 0, 1) := by decide +kernel
theorem dX1_choose_36 : decode cX1_choose 36 = .ok (.iload_n 1, 1) := by decide +kernel
theorem dX1_choose_37 : decode cX1_choose 37 = .ok (.iload_n 2, 1) := by decide +kernel
theorem dX1_choose_38 : decode cX1_choose 38 = .ok (.iload_n 3, 1) := by decide +kernel
theorem dX1_choose_39 : decode cX1_choose 39 = .ok (.iload 4, 2) := by decide +kernel
theorem dX1_choose_41 : decode cX1_choose 41 = .ok (.iload 5, 2) := by decide +kernel
theorem dX1_choose_43 : decode cX1_choose 43 = .ok (.invokevirtual 79, 3) := by decide +kernel
theorem dX1_choose_46 : decode cX1_choose 46 = .ok (.return_, 1) := by decide +kernel
set_option maxRecDepth 20000 in
theorem ggX1_chooseParts_X1_choose : GoodIn wsX1_chooseParts wsX1_choose := goodIn_r _ [14, 15, 16, 17, 18, 13, 19, 20, 21, 22, 23, 24, 25, 26, 27, 28, 29, 30, 31, 32, 33, 6, 34, 35, 36, 0, 1, 2, 3, 4, 5, 7, 8, 9, 10, 11, 12, 37, 38, 39, 40, 41, 42, 43, 44, 45, 46, 47, 48, 49, 50, 51, 52] (by decide +kernel) (by decide +kernel)
set_option maxRecDepth 20000 in
theorem gX1_chooseParts_X1_choose : GoodIn wsX1_chooseParts (wsV RX1 58 RX1 yX1_choose wsX1_choose) := goodIn_app (goodIn_of _ (by decide +kernel)) ggX1_chooseParts_X1_choose
theorem dX1_chooseParts_0 : decode cX1_chooseParts 0 = .ok (.iload_n 2, 1) := by decide +kernel
theorem dX1_chooseParts_1 : decode cX1_chooseParts 1 = .ok (.aload_n 0, 1) := by decide +kernel
theorem dX1_chooseParts_2 : decode cX1_chooseParts 2 = .ok (.getfield 21, 3) := by decide +kernel
theorem dX1_chooseParts_5 : decode cX1_chooseParts 5 = .ok (.iload_n 1, 1) := by decide +kernel
theorem dX1_chooseParts_6 : decode cX1_chooseParts 6 = .ok (.iaload, 1) := by decide +kernel
theorem dX1_chooseParts_7 : decode cX1_chooseParts 7 = .ok (.invokestatic 62, 3) := by decide +kernel
theorem dX1_chooseParts_10 : decode cX1_chooseParts 10 = .ok (.istore 6, 2) := by decide +kernel
theorem dX1_chooseParts_12 : decode cX1_chooseParts 12 = .ok (.iconst 0, 1) := by decide +kernel
theorem dX1_chooseParts_13 : decode cX1_chooseParts 13 = .ok (.istore 7, 2) := by decide +kernel
theorem dX1_chooseParts_15 : decode cX1_chooseParts 15 = .ok (.iload 7, 2) := by decide +kernel
theorem dX1_chooseParts_17 : decode cX1_chooseParts 17 = .ok (.iload 6, 2) := by decide +kernel
theorem dX1_chooseParts_19 : decode cX1_chooseParts 19 = .ok (.if_icmp .gt 63, 3) := by decide +kernel
theorem dX1_chooseParts_22 : decode cX1_chooseParts 22 = .ok (.aload_n 0, 1) := by decide +kernel
theorem dX1_chooseParts_23 : decode cX1_chooseParts 23 = .ok (.getfield 31, 3) := by decide +kernel
theorem dX1_chooseParts_26 : decode cX1_chooseParts 26 = .ok (.iload_n 1, 1) := by decide +kernel
theorem dX1_chooseParts_27 : decode cX1_chooseParts 27 = .ok (.iload 7, 2) := by decide +kernel
theorem dX1_chooseParts_29 : decode cX1_chooseParts 29 = .ok (.iastore, 1) := by decide +kernel
theorem dX1_chooseParts_30 : decode cX1_chooseParts 30 = .ok (.aload_n 0, 1) := by decide +kernel
theorem dX1_chooseParts_31 : decode cX1_chooseParts 31 = .ok (.iload_n 1, 1) := by decide +kernel
theorem dX1_chooseParts_32 : decode cX1_chooseParts 32 = .ok (.iconst 1, 1) := by decide +kernel
theorem dX1_chooseParts_33 : decode cX1_chooseParts 33 = .ok (.iadd, 1) := by decide +kernel
theorem dX1_chooseParts_34 : decode cX1_chooseParts 34 = .ok (.iload_n 2, 1) := by decide +kernel
theorem dX1_chooseParts_35 : decode cX1_chooseParts 35 = .ok (.iload 7, 2) := by decide +kernel
theorem dX1_chooseParts_37 : decode cX1_chooseParts 37 = .ok (.isub, 1) := by decide +kernel
theorem dX1_chooseParts_38 : decode cX1_chooseParts 38 = .ok (.iload_n 3, 1) := by decide +kernel
theorem dX1_chooseParts_39 : decode cX1_chooseParts 39 = .ok (.iload 7, 2) := by decide +kernel
theorem dX1_chooseParts_41 : decode cX1_chooseParts 41 = .ok (.aload_n 0, 1) := by decide +kernel
theorem dX1_chooseParts_42 : decode cX1_chooseParts 42 = .ok (.getfield 18, 3) := by decide +kernel
theorem dX1_chooseParts_45 : decode cX1_chooseParts 45 = .ok (.iload_n 1, 1) := by decide +kernel
theorem dX1_chooseParts_46 : decode cX1_chooseParts 46 = .ok (.iaload, 1) := by decide +kernel
theorem dX1_chooseParts_47 : decode cX1_chooseParts 47 = .ok (.imul, 1) := by decide +kernel
theorem dX1_chooseParts_48 : decode cX1_chooseParts 48 = .ok (.iadd, 1) := by decide +kernel
theorem dX1_chooseParts_49 : decode cX1_chooseParts 49 = .ok (.iload 4, 2) := by decide +kernel
theorem dX1_chooseParts_51 : decode cX1_chooseParts 51 = .ok (.iload 7, 2) := by decide +kernel
theorem dX1_chooseParts_53 : decode cX1_chooseParts 53 = .ok (.aload_n 0, 1) := by decide +kernel
theorem dX1_chooseParts_54 : decode cX1_chooseParts 54 = .ok (.getfield 9, 3) := by decide +kernel
theorem dX1_chooseParts_57 : decode cX1_chooseParts 57 = .ok (.iload_n 1, 1) := by decide +kernel
theorem dX1_chooseParts_58 : decode cX1_chooseParts 58 = .ok (.iaload, 1) := by decide +kernel
theorem dX1_chooseParts_59 : decode cX1_chooseParts 59 = .ok (.imul, 1) := by decide +kernel
theorem dX1_chooseParts_60 : decode cX1_chooseParts 60 = .ok (.iadd, 1) := by decide +kernel
theorem dX1_chooseParts_61 : decode cX1_chooseParts 61 = .ok (.iload 5, 2) := by decide +kernel
theorem dX1_chooseParts_63 : decode cX1_chooseParts 63 = .ok (.iload 7, 2) := by decide +kernel
theorem dX1_chooseParts_65 : decode cX1_chooseParts 65 = .ok (.aload_n 0, 1) := by decide +kernel
theorem dX1_chooseParts_66 : decode cX1_chooseParts 66 = .ok (.getfield 15, 3) := by decide +kernel
theorem dX1_chooseParts_69 : decode cX1_chooseParts 69 = .ok (.iload_n 1, 1) := by decide +kernel
theorem dX1_chooseParts_70 : decode cX1_chooseParts 70 = .ok (.iaload, 1) := by decide +kernel
theorem dX1_chooseParts_71 : decode cX1_chooseParts 71 = .ok (.imul, 1) := by decide +kernel
theorem dX1_chooseParts_72 : decode cX1_chooseParts 72 = .ok (.iadd, 1) := by decide +kernel
theorem dX1_chooseParts_73 : decode cX1_chooseParts 73 = .ok (.invokevirtual 58, 3) := by decide +kernel
theorem dX1_chooseParts_76 : decode cX1_chooseParts 76 = .ok (.iinc 7 1, 3) := by decide +kernel
theorem dX1_chooseParts_79 : decode cX1_chooseParts 79 = .ok (.goto (-64), 3) := by decide +kernel
theorem dX1_chooseParts_82 : decode cX1_chooseParts 82 = .ok (.return_, 1) := by decide +kernel
theorem dX1_mayBeBetter_0 : decode cX1_mayBeBetter 0 = .ok (.iload_n 2, 1) := by decide +kernel
theorem dX1_mayBeBetter_1 : decode cX1_mayBeBetter 1 = .ok (.aload_n 0, 1) := by decide +kernel
theorem dX1_mayBeBetter_2 : decode cX1_mayBeBetter 2 = .ok (.getfield 34, 3) := by decide +kernel
theorem dX1_mayBeBetter_5 : decode cX1_mayBeBetter 5 = .ok (.iload_n 1, 1) := by decide +kernel
theorem dX1_mayBeBetter_6 : decode cX1_mayBeBetter 6 = .ok (.iaload, 1) := by decide +kernel
theorem dX1_mayBeBetter_7 : decode cX1_mayBeBetter 7 = .ok (.if_icmp .gt 68, 3) := by decide +kernel
theorem dX1_mayBeBetter_10 : decode cX1_mayBeBetter 10 = .ok (.aload_n 0, 1) := by decide +kernel
theorem dX1_mayBeBetter_11 : decode cX1_mayBeBetter 11 = .ok (.getfield 27, 3) := by decide +kernel
theorem dX1_mayBeBetter_14 : decode cX1_mayBeBetter 14 = .ok (.iconst (-1), 1) := by decide +kernel
theorem dX1_mayBeBetter_15 : decode cX1_mayBeBetter 15 = .ok (.if_icmp .eq 20, 3) := by decide +kernel
theorem dX1_mayBeBetter_18 : decode cX1_mayBeBetter 18 = .ok (.iload_n 3, 1) := by decide +kernel
theorem dX1_mayBeBetter_19 : decode cX1_mayBeBetter 19 = .ok (.iload_n 2, 1) := by decide +kernel
theorem dX1_mayBeBetter_20 : decode cX1_mayBeBetter 20 = .ok (.aload_n 0, 1) := by decide +kernel
theorem dX1_mayBeBetter_21 : decode cX1_mayBeBetter 21 = .ok (.getfield 37, 3) := by decide +kernel
theorem dX1_mayBeBetter_24 : decode cX1_mayBeBetter 24 = .ok (.iload_n 1, 1) := by decide +kernel
theorem dX1_mayBeBetter_25 : decode cX1_mayBeBetter 25 = .ok (.iaload, 1) := by decide +kernel
theorem dX1_mayBeBetter_26 : decode cX1_mayBeBetter 26 = .ok (.imul, 1) := by decide +kernel
theorem dX1_mayBeBetter_27 : decode cX1_mayBeBetter 27 = .ok (.iadd, 1) := by decide +kernel
theorem dX1_mayBeBetter_28 : decode cX1_mayBeBetter 28 = .ok (.aload_n 0, 1) := by decide +kernel
theorem dX1_mayBeBetter_29 : decode cX1_mayBeBetter 29 = .ok (.getfield 27, 3) := by decide +kernel
theorem dX1_mayBeBetter_32 : decode cX1_mayBeBetter 32 = .ok (.if_icmp .ge 43, 3) := by decide +kernel
theorem dX1_mayBeBetter_35 : decode cX1_mayBeBetter 35 = .ok (.iload 4, 2) := by decide +kernel
theorem dX1_mayBeBetter_37 : decode cX1_mayBeBetter 37 = .ok (.iload_n 2, 1) := by decide +kernel
theorem dX1_mayBeBetter_38 : decode cX1_mayBeBetter 38 = .ok (.aload_n 0, 1) := by decide +kernel
theorem dX1_mayBeBetter_39 : decode cX1_mayBeBetter 39 = .ok (.getfield 40, 3) := by decide +kernel
theorem dX1_mayBeBetter_42 : decode cX1_mayBeBetter 42 = .ok (.iload_n 1, 1) := by decide +kernel
theorem dX1_mayBeBetter_43 : decode cX1_mayBeBetter 43 = .ok (.iaload, 1) := by decide +kernel
theorem dX1_mayBeBetter_44 : decode cX1_mayBeBetter 44 = .ok (.imul, 1) := by decide +kernel
theorem dX1_mayBeBetter_45 : decode cX1_mayBeBetter 45 = .ok (.iadd, 1) := by decide +kernel
theorem dX1_mayBeBetter_46 : decode cX1_mayBeBetter 46 = .ok (.aload_n 0, 1) := by decide +kernel
theorem dX1_mayBeBetter_47 : decode cX1_mayBeBetter 47 = .ok (.getfield 49, 3) := by decide +kernel
theorem dX1_mayBeBetter_50 : decode cX1_mayBeBetter 50 = .ok (.if_icmp .lt 25, 3) := by decide +kernel
theorem dX1_mayBeBetter_53 : decode cX1_mayBeBetter 53 = .ok (.iload 5, 2) := by decide +kernel
theorem dX1_mayBeBetter_55 : decode cX1_mayBeBetter 55 = .ok (.iload_n 2, 1) := by decide +kernel
theorem dX1_mayBeBetter_56 : decode cX1_mayBeBetter 56 = .ok (.aload_n 0, 1) := by decide +kernel
theorem dX1_mayBeBetter_57 : decode cX1_mayBeBetter 57 = .ok (.getfield 43, 3) := by decide +kernel
theorem dX1_mayBeBetter_60 : decode cX1_mayBeBetter 60 = .ok (.iload_n 1, 1) := by decide +kernel
theorem dX1_mayBeBetter_61 : decode cX1_mayBeBetter 61 = .ok (.iaload, 1) := by decide +kernel
theorem dX1_mayBeBetter_62 : decode cX1_mayBeBetter 62 = .ok (.imul, 1) := by decide +kernel
theorem dX1_mayBeBetter_63 : decode cX1_mayBeBetter 63 = .ok (.iadd, 1) := by decide +kernel
theorem dX1_mayBeBetter_64 : decode cX1_mayBeBetter 64 = .ok (.aload_n 0, 1) := by decide +kernel
theorem dX1_mayBeBetter_65 : decode cX1_mayBeBetter 65 = .ok (.getfield 52, 3) := by decide +kernel
theorem dX1_mayBeBetter_68 : decode cX1_mayBeBetter 68 = .ok (.if_icmp .gt 7, 3) := by decide +kernel
theorem dX1_mayBeBetter_71 : decode cX1_mayBeBetter 71 = .ok (.iconst 1, 1) := by decide +kernel
theorem dX1_mayBeBetter_72 : decode cX1_mayBeBetter 72 = .ok (.goto 4, 3) := by decide +kernel
theorem dX1_mayBeBetter_75 : decode cX1_mayBeBetter 75 = .ok (.iconst 0, 1) := by decide +kernel
theorem dX1_mayBeBetter_76 : decode cX1_mayBeBetter 76 = .ok (.ireturn, 1) := by decide +kernel
theorem dX1_keep_0 : decode cX1_keep 0 = .ok (.aload_n 0, 1) := by decide +kernel
theorem dX1_keep_1 : decode cX1_keep 1 = .ok (.iload_n 1, 1) := by decide +kernel
theorem dX1_keep_2 : decode cX1_keep 2 = .ok (.putfield 27, 3) := by decide +kernel
theorem dX1_keep_5 : decode cX1_keep 5 = .ok (.aload_n 0, 1) := by decide +kernel
theorem dX1_keep_6 : decode cX1_keep 6 = .ok (.iload_n 2, 1) := by decide +kernel
theorem dX1_keep_7 : decode cX1_keep 7 = .ok (.bipush 10, 2) := by decide +kernel
theorem dX1_keep_9 : decode cX1_keep 9 = .ok (.idiv, 1) := by decide +kernel
theorem dX1_keep_10 : decode cX1_keep 10 = .ok (.putfield 82, 3) := by decide +kernel
theorem dX1_keep_13 : decode cX1_keep 13 = .ok (.aload_n 0, 1) := by decide +kernel
theorem dX1_keep_14 : decode cX1_keep 14 = .ok (.iload_n 3, 1) := by decide +kernel
theorem dX1_keep_15 : decode cX1_keep 15 = .ok (.bipush 10, 2) := by decide +kernel
theorem dX1_keep_17 : decode cX1_keep 17 = .ok (.iadd, 1) := by decide +kernel
theorem dX1_keep_18 : decode cX1_keep 18 = .ok (.iconst 1, 1) := by decide +kernel
theorem dX1_keep_19 : decode cX1_keep 19 = .ok (.isub, 1) := by decide +kernel
theorem dX1_keep_20 : decode cX1_keep 20 = .ok (.bipush 10, 2) := by decide +kernel
theorem dX1_keep_22 : decode cX1_keep 22 = .ok (.idiv, 1) := by decide +kernel
theorem dX1_keep_23 : decode cX1_keep 23 = .ok (.putfield 85, 3) := by decide +kernel
theorem dX1_keep_26 : decode cX1_keep 26 = .ok (.iconst 0, 1) := by decide +kernel
theorem dX1_keep_27 : decode cX1_keep 27 = .ok (.istore 4, 2) := by decide +kernel
theorem dX1_keep_29 : decode cX1_keep 29 = .ok (.iload 4, 2) := by decide +kernel
theorem dX1_keep_31 : decode cX1_keep 31 = .ok (.aload_n 0, 1) := by decide +kernel
theorem dX1_keep_32 : decode cX1_keep 32 = .ok (.getfield 46, 3) := by decide +kernel
theorem dX1_keep_35 : decode cX1_keep 35 = .ok (.if_icmp .ge 23, 3) := by decide +kernel
theorem dX1_keep_38 : decode cX1_keep 38 = .ok (.aload_n 0, 1) := by decide +kernel
theorem dX1_keep_39 : decode cX1_keep 39 = .ok (.getfield 24, 3) := by decide +kernel
theorem dX1_keep_42 : decode cX1_keep 42 = .ok (.iload 4, 2) := by decide +kernel
theorem dX1_keep_44 : decode cX1_keep 44 = .ok (.aload_n 0, 1) := by decide +kernel
theorem dX1_keep_45 : decode cX1_keep 45 = .ok (.getfield 31, 3) := by decide +kernel
theorem dX1_keep_48 : decode cX1_keep 48 = .ok (.iload 4, 2) := by decide +kernel
theorem dX1_keep_50 : decode cX1_keep 50 = .ok (.iaload, 1) := by decide +kernel
theorem dX1_keep_51 : decode cX1_keep 51 = .ok (.iastore, 1) := by decide +kernel
theorem dX1_keep_52 : decode cX1_keep 52 = .ok (.iinc 4 1, 3) := by decide +kernel
theorem dX1_keep_55 : decode cX1_keep 55 = .ok (.goto (-26), 3) := by decide +kernel
theorem dX1_keep_58 : decode cX1_keep 58 = .ok (.return_, 1) := by decide +kernel
theorem dX2_init_0 : decode cX2_init 0 = .ok (.aload_n 0, 1) := by decide +kernel
theorem dX2_init_1 : decode cX2_init 1 = .ok (.invokespecial 3, 3) := by decide +kernel
theorem dX2_init_4 : decode cX2_init 4 = .ok (.aload_n 0, 1) := by decide +kernel
theorem dX2_init_5 : decode cX2_init 5 = .ok (.bipush 10, 2) := by decide +kernel
theorem dX2_init_7 : decode cX2_init 7 = .ok (.newarray .int, 2) := by decide +kernel
theorem dX2_init_9 : decode cX2_init 9 = .ok (.putfield 9, 3) := by decide +kernel
theorem dX2_init_12 : decode cX2_init 12 = .ok (.aload_n 0, 1) := by decide +kernel
theorem dX2_init_13 : decode cX2_init 13 = .ok (.bipush 6, 2) := by decide +kernel
theorem dX2_init_15 : decode cX2_init 15 = .ok (.newarray .int, 2) := by decide +kernel
theorem dX2_init_17 : decode cX2_init 17 = .ok (.putfield 15, 3) := by decide +kernel
theorem dX2_init_20 : decode cX2_init 20 = .ok (.aload_n 0, 1) := by decide +kernel
theorem dX2_init_21 : decode cX2_init 21 = .ok (.bipush 6, 2) := by decide +kernel
theorem dX2_init_23 : decode cX2_init 23 = .ok (.newarray .int, 2) := by decide +kernel
theorem dX2_init_25 : decode cX2_init 25 = .ok (.putfield 18, 3) := by decide +kernel
theorem dX2_init_28 : decode cX2_init 28 = .ok (.aload_n 0, 1) := by decide +kernel
theorem dX2_init_29 : decode cX2_init 29 = .ok (.bipush 6, 2) := by decide +kernel
theorem dX2_init_31 : decode cX2_init 31 = .ok (.newarray .int, 2) := by decide +kernel
theorem dX2_init_33 : decode cX2_init 33 = .ok (.putfield 21, 3) := by decide +kernel
theorem dX2_init_36 : decode cX2_init 36 = .ok (.aload_n 0, 1) := by decide +kernel
theorem dX2_init_37 : decode cX2_init 37 = .ok (.bipush 10, 2) := by decide +kernel
theorem dX2_init_39 : decode cX2_init 39 = .ok (.newarray .int, 2) := by decide +kernel
theorem dX2_init_41 : decode cX2_init 41 = .ok (.putfield 24, 3) := by decide +kernel
theorem dX2_init_44 : decode cX2_init 44 = .ok (.return_, 1) := by decide +kernel
theorem dX2_putSlats_0 : decode cX2_putSlats 0 = .ok (.aload_n 0, 1) := by decide +kernel
theorem dX2_putSlats_1 : decode cX2_putSlats 1 = .ok (.dup, 1) := by decide +kernel
theorem dX2_putSlats_2 : decode cX2_putSlats 2 = .ok (.getfield 27, 3) := by decide +kernel
theorem dX2_putSlats_5 : decode cX2_putSlats 5 = .ok (.iload_n 2, 1) := by decide +kernel
theorem dX2_putSlats_6 : decode cX2_putSlats 6 = .ok (.aload_n 0, 1) := by decide +kernel
theorem dX2_putSlats_7 : decode cX2_putSlats 7 = .ok (.getfield 9, 3) := by decide +kernel
theorem dX2_putSlats_10 : decode cX2_putSlats 10 = .ok (.iload_n 1, 1) := by decide +kernel
theorem dX2_putSlats_11 : decode cX2_putSlats 11 = .ok (.iaload, 1) := by decide +kernel
theorem dX2_putSlats_12 : decode cX2_putSlats 12 = .ok (.isub, 1) := by decide +kernel
theorem dX2_putSlats_13 : decode cX2_putSlats 13 = .ok (.iadd, 1) := by decide +kernel
theorem dX2_putSlats_14 : decode cX2_putSlats 14 = .ok (.putfield 27, 3) := by decide +kernel
theorem dX2_putSlats_17 : decode cX2_putSlats 17 = .ok (.aload_n 0, 1) := by decide +kernel
theorem dX2_putSlats_18 : decode cX2_putSlats 18 = .ok (.getfield 9, 3) := by decide +kernel
theorem dX2_putSlats_21 : decode cX2_putSlats 21 = .ok (.iload_n 1, 1) := by decide +kernel
theorem dX2_putSlats_22 : decode cX2_putSlats 22 = .ok (.iload_n 2, 1) := by decide +kernel
theorem dX2_putSlats_23 : decode cX2_putSlats 23 = .ok (.iastore, 1) := by decide +kernel
theorem dX2_putSlats_24 : decode cX2_putSlats 24 = .ok (.aload_n 0, 1) := by decide +kernel
theorem dX2_putSlats_25 : decode cX2_putSlats 25 = .ok (.getfield 27, 3) := by decide +kernel
theorem dX2_putSlats_28 : decode cX2_putSlats 28 = .ok (.ireturn, 1) := by decide +kernel
theorem dX2_add_0 : decode cX2_add 0 = .ok (.aload_n 0, 1) := by decide +kernel
theorem dX2_add_1 : decode cX2_add 1 = .ok (.getfield 31, 3) := by decide +kernel
theorem dX2_add_4 : decode cX2_add 4 = .ok (.istore 4, 2) := by decide +kernel
theorem dX2_add_6 : decode cX2_add 6 = .ok (.iload 4, 2) := by decide +kernel
theorem dX2_add_8 : decode cX2_add 8 = .ok (.ifCond .le 70, 3) := by decide +kernel
theorem dX2_add_11 : decode cX2_add 11 = .ok (.aload_n 0, 1) := by decide +kernel
theorem dX2_add_12 : decode cX2_add 12 = .ok (.getfield 18, 3) := by decide +kernel
theorem dX2_add_15 : decode cX2_add 15 = .ok (.iload 4, 2) := by decide +kernel
theorem dX2_add_17 : decode cX2_add 17 = .ok (.iconst 1, 1) := by decide +kernel
theorem dX2_add_18 : decode cX2_add 18 = .ok (.isub, 1) := by decide +kernel
theorem dX2_add_19 : decode cX2_add 19 = .ok (.iaload, 1) := by decide +kernel
theorem dX2_add_20 : decode cX2_add 20 = .ok (.iload_n 2, 1) := by decide +kernel
theorem dX2_add_21 : decode cX2_add 21 = .ok (.if_icmp .ge 57, 3) := by decide +kernel
theorem dX2_add_24 : decode cX2_add 24 = .ok (.aload_n 0, 1) := by decide +kernel
theorem dX2_add_25 : decode cX2_add 25 = .ok (.getfield 15, 3) := by decide +kernel
theorem dX2_add_28 : decode cX2_add 28 = .ok (.iload 4, 2) := by decide +kernel
theorem dX2_add_30 : decode cX2_add 30 = .ok (.aload_n 0, 1) := by decide +kernel
theorem dX2_add_31 : decode cX2_add 31 = .ok (.getfield 15, 3) := by decide +kernel
theorem dX2_add_34 : decode cX2_add 34 = .ok (.iload 4, 2) := by decide +kernel
theorem dX2_add_36 : decode cX2_add 36 = .ok (.iconst 1, 1) := by decide +kernel
theorem dX2_add_37 : decode cX2_add 37 = .ok (.isub, 1) := by decide +kernel
theorem dX2_add_38 : decode cX2_add 38 = .ok (.iaload, 1) := by decide +kernel
theorem dX2_add_39 : decode cX2_add 39 = .ok (.iastore, 1) := by decide +kernel
theorem dX2_add_40 : decode cX2_add 40 = .ok (.aload_n 0, 1) := by decide +kernel
theorem dX2_add_41 : decode cX2_add 41 = .ok (.getfield 18, 3) := by decide +kernel
theorem dX2_add_44 : decode cX2_add 44 = .ok (.iload 4, 2) := by decide +kernel
theorem dX2_add_46 : decode cX2_add 46 = .ok (.aload_n 0, 1) := by decide +kernel
theorem dX2_add_47 : decode cX2_add 47 = .ok (.getfield 18, 3) := by decide +kernel
theorem dX2_add_50 : decode cX2_add 50 = .ok (.iload 4, 2) := by decide +kernel
theorem dX2_add_52 : decode cX2_add 52 = .ok (.iconst 1, 1) := by decide +kernel
theorem dX2_add_53 : decode cX2_add 53 = .ok (.isub, 1) := by decide +kernel
theorem dX2_add_54 : decode cX2_add 54 = .ok (.iaload, 1) := by decide +kernel
theorem dX2_add_55 : decode cX2_add 55 = .ok (.iastore, 1) := by decide +kernel
theorem dX2_add_56 : decode cX2_add 56 = .ok (.aload_n 0, 1) := by decide +kernel
theorem dX2_add_57 : decode cX2_add 57 = .ok (.getfield 21, 3) := by decide +kernel
theorem dX2_add_60 : decode cX2_add 60 = .ok (.iload 4, 2) := by decide +kernel
theorem dX2_add_62 : decode cX2_add 62 = .ok (.aload_n 0, 1) := by decide +kernel
theorem dX2_add_63 : decode cX2_add 63 = .ok (.getfield 21, 3) := by decide +kernel
theorem dX2_add_66 : decode cX2_add 66 = .ok (.iload 4, 2) := by decide +kernel
theorem dX2_add_68 : decode cX2_add 68 = .ok (.iconst 1, 1) := by decide +kernel
theorem dX2_add_69 : decode cX2_add 69 = .ok (.isub, 1) := by decide +kernel
theorem dX2_add_70 : decode cX2_add 70 = .ok (.iaload, 1) := by decide +kernel
theorem dX2_add_71 : decode cX2_add 71 = .ok (.iastore, 1) := by decide +kernel
theorem dX2_add_72 : decode cX2_add 72 = .ok (.iinc 4 (-1), 3) := by decide +kernel
theorem dX2_add_75 : decode cX2_add 75 = .ok (.goto (-69), 3) := by decide +kernel
theorem dX2_add_78 : decode cX2_add 78 = .ok (.aload_n 0, 1) := by decide +kernel
theorem dX2_add_79 : decode cX2_add 79 = .ok (.getfield 15, 3) := by decide +kernel
theorem dX2_add_82 : decode cX2_add 82 = .ok (.iload 4, 2) := by decide +kernel
theorem dX2_add_84 : decode cX2_add 84 = .ok (.iload_n 1, 1) := by decide +kernel
theorem dX2_add_85 : decode cX2_add 85 = .ok (.iastore, 1) := by decide +kernel
theorem dX2_add_86 : decode cX2_add 86 = .ok (.aload_n 0, 1) := by decide +kernel
theorem dX2_add_87 : decode cX2_add 87 = .ok (.getfield 18, 3) := by decide +kernel
theorem dX2_add_90 : decode cX2_add 90 = .ok (.iload 4, 2) := by decide +kernel
theorem dX2_add_92 : decode cX2_add 92 = .ok (.iload_n 2, 1) := by decide +kernel
theorem dX2_add_93 : decode cX2_add 93 = .ok (.iastore, 1) := by decide +kernel
theorem dX2_add_94 : decode cX2_add 94 = .ok (.aload_n 0, 1) := by decide +kernel
theorem dX2_add_95 : decode cX2_add 95 = .ok (.getfield 21, 3) := by decide +kernel
theorem dX2_add_98 : decode cX2_add 98 = .ok (.iload 4, 2) := by decide +kernel
theorem dX2_add_100 : decode cX2_add 100 = .ok (.iload_n 3, 1) := by decide +kernel
theorem dX2_add_101 : decode cX2_add 101 = .ok (.iastore, 1) := by decide +kernel
theorem dX2_add_102 : decode cX2_add 102 = .ok (.aload_n 0, 1) := by decide +kernel
theorem dX2_add_103 : decode cX2_add 103 = .ok (.dup, 1) := by decide +kernel
theorem dX2_add_104 : decode cX2_add 104 = .ok (.getfield 31, 3) := by decide +kernel
theorem dX2_add_107 : decode cX2_add 107 = .ok (.iconst 1, 1) := by decide +kernel
theorem dX2_add_108 : decode cX2_add 108 = .ok (.iadd, 1) := by decide +kernel
theorem dX2_add_109 : decode cX2_add 109 = .ok (.putfield 31, 3) := by decide +kernel
theorem dX2_add_112 : decode cX2_add 112 = .ok (.aload_n 0, 1) := by decide +kernel
theorem dX2_add_113 : decode cX2_add 113 = .ok (.getfield 31, 3) := by decide +kernel
theorem dX2_add_116 : decode cX2_add 116 = .ok (.iconst 1, 1) := by decide +kernel
theorem dX2_add_117 : decode cX2_add 117 = .ok (.isub, 1) := by decide +kernel
theorem dX2_add_118 : decode cX2_add 118 = .ok (.ireturn, 1) := by decide +kernel
set_option maxRecDepth 20000 in
theorem ggX2_greatestWorth_X2_fill : GoodIn wsX2_greatestWorth wsX2_fill := goodIn_r _ [9, 10, 1, 11, 12, 13, 14, 15, 16, 17, 18, 19, 20, 21, 22] (by decide +kernel) (by decide +kernel)
set_option maxRecDepth 20000 in
theorem gX2_greatestWorth_X2_fill : GoodIn wsX2_greatestWorth (wsV RX2 34 RX2 yX2_fill wsX2_fill) := goodIn_app (goodIn_of _ (by decide +kernel)) ggX2_greatestWorth_X2_fill
theorem dX2_greatestWorth_0 : decode cX2_greatestWorth 0 = .ok (.iconst 0, 1) := by decide +kernel
theorem dX2_greatestWorth_1 : decode cX2_greatestWorth 1 = .ok (.istore_n 1, 1) := by decide +kernel
theorem dX2_greatestWorth_2 : decode cX2_greatestWorth 2 = .ok (.iload_n 1, 1) := by decide +kernel
theorem dX2_greatestWorth_3 : decode cX2_greatestWorth 3 = .ok (.bipush 10, 2) := by decide +kernel
theorem dX2_greatestWorth_5 : decode cX2_greatestWorth 5 = .ok (.if_icmp .ge 21, 3) := by decide +kernel
theorem dX2_greatestWorth_8 : decode cX2_greatestWorth 8 = .ok (.aload_n 0, 1) := by decide +kernel
theorem dX2_greatestWorth_9 : decode cX2_greatestWorth 9 = .ok (.getfield 24, 3) := by decide +kernel
theorem dX2_greatestWorth_12 : decode cX2_greatestWorth 12 = .ok (.iload_n 1, 1) := by decide +kernel
theorem dX2_greatestWorth_13 : decode cX2_greatestWorth 13 = .ok (.aload_n 0, 1) := by decide +kernel
theorem dX2_greatestWorth_14 : decode cX2_greatestWorth 14 = .ok (.getfield 9, 3) := by decide +kernel
theorem dX2_greatestWorth_17 : decode cX2_greatestWorth 17 = .ok (.iload_n 1, 1) := by decide +kernel
theorem dX2_greatestWorth_18 : decode cX2_greatestWorth 18 = .ok (.iaload, 1) := by decide +kernel
theorem dX2_greatestWorth_19 : decode cX2_greatestWorth 19 = .ok (.iastore, 1) := by decide +kernel
theorem dX2_greatestWorth_20 : decode cX2_greatestWorth 20 = .ok (.iinc 1 1, 3) := by decide +kernel
theorem dX2_greatestWorth_23 : decode cX2_greatestWorth 23 = .ok (.goto (-21), 3) := by decide +kernel
theorem dX2_greatestWorth_26 : decode cX2_greatestWorth 26 = .ok (.iconst 0, 1) := by decide +kernel
theorem dX2_greatestWorth_27 : decode cX2_greatestWorth 27 = .ok (.istore_n 1, 1) := by decide +kernel
theorem dX2_greatestWorth_28 : decode cX2_greatestWorth 28 = .ok (.iconst 0, 1) := by decide +kernel
theorem dX2_greatestWorth_29 : decode cX2_greatestWorth 29 = .ok (.istore_n 2, 1) := by decide +kernel
theorem dX2_greatestWorth_30 : decode cX2_greatestWorth 30 = .ok (.iload_n 2, 1) := by decide +kernel
theorem dX2_greatestWorth_31 : decode cX2_greatestWorth 31 = .ok (.aload_n 0, 1) := by decide +kernel
theorem dX2_greatestWorth_32 : decode cX2_greatestWorth 32 = .ok (.getfield 31, 3) := by decide +kernel
theorem dX2_greatestWorth_35 : decode cX2_greatestWorth 35 = .ok (.if_icmp .ge 24, 3) := by decide +kernel
theorem dX2_greatestWorth_38 : decode cX2_greatestWorth 38 = .ok (.iload_n 1, 1) := by decide +kernel
theorem dX2_greatestWorth_39 : decode cX2_greatestWorth 39 = .ok (.aload_n 0, 1) := by decide +kernel
theorem dX2_greatestWorth_40 : decode cX2_greatestWorth 40 = .ok (.getfield 18, 3) := by decide +kernel
theorem dX2_greatestWorth_43 : decode cX2_greatestWorth 43 = .ok (.iload_n 2, 1) := by decide +kernel
theorem dX2_greatestWorth_44 : decode cX2_greatestWorth 44 = .ok (.iaload, 1) := by decide +kernel
theorem dX2_greatestWorth_45 : decode cX2_greatestWorth 45 = .ok (.aload_n 0, 1) := by decide +kernel
theorem dX2_greatestWorth_46 : decode cX2_greatestWorth 46 = .ok (.iload_n 2, 1) := by decide +kernel
theorem dX2_greatestWorth_47 : decode cX2_greatestWorth 47 = .ok (.invokevirtual 34, 3) := by decide +kernel
theorem dX2_greatestWorth_50 : decode cX2_greatestWorth 50 = .ok (.imul, 1) := by decide +kernel
theorem dX2_greatestWorth_51 : decode cX2_greatestWorth 51 = .ok (.iadd, 1) := by decide +kernel
theorem dX2_greatestWorth_52 : decode cX2_greatestWorth 52 = .ok (.istore_n 1, 1) := by decide +kernel
theorem dX2_greatestWorth_53 : decode cX2_greatestWorth 53 = .ok (.iinc 2 1, 3) := by decide +kernel
theorem dX2_greatestWorth_56 : decode cX2_greatestWorth 56 = .ok (.goto (-26), 3) := by decide +kernel
theorem dX2_greatestWorth_59 : decode cX2_greatestWorth 59 = .ok (.iload_n 1, 1) := by decide +kernel
theorem dX2_greatestWorth_60 : decode cX2_greatestWorth 60 = .ok (.ireturn, 1) := by decide +kernel
theorem dX2_fill_0 : decode cX2_fill 0 = .ok (.iconst 0, 1) := by decide +kernel
theorem dX2_fill_1 : decode cX2_fill 1 = .ok (.istore_n 2, 1) := by decide +kernel
theorem dX2_fill_2 : decode cX2_fill 2 = .ok (.aload_n 0, 1) := by decide +kernel
theorem dX2_fill_3 : decode cX2_fill 3 = .ok (.getfield 15, 3) := by decide +kernel
theorem dX2_fill_6 : decode cX2_fill 6 = .ok (.iload_n 1, 1) := by decide +kernel
theorem dX2_fill_7 : decode cX2_fill 7 = .ok (.iaload, 1) := by decide +kernel
theorem dX2_fill_8 : decode cX2_fill 8 = .ok (.istore_n 3, 1) := by decide +kernel
theorem dX2_fill_9 : decode cX2_fill 9 = .ok (.iload_n 3, 1) := by decide +kernel
theorem dX2_fill_10 : decode cX2_fill 10 = .ok (.bipush 10, 2) := by decide +kernel
theorem dX2_fill_12 : decode cX2_fill 12 = .ok (.if_icmp .ge 44, 3) := by decide +kernel
theorem dX2_fill_15 : decode cX2_fill 15 = .ok (.aload_n 0, 1) := by decide +kernel
theorem dX2_fill_16 : decode cX2_fill 16 = .ok (.getfield 24, 3) := by decide +kernel
theorem dX2_fill_19 : decode cX2_fill 19 = .ok (.iload_n 3, 1) := by decide +kernel
theorem dX2_fill_20 : decode cX2_fill 20 = .ok (.iaload, 1) := by decide +kernel
theorem dX2_fill_21 : decode cX2_fill 21 = .ok (.aload_n 0, 1) := by decide +kernel
theorem dX2_fill_22 : decode cX2_fill 22 = .ok (.getfield 21, 3) := by decide +kernel
theorem dX2_fill_25 : decode cX2_fill 25 = .ok (.iload_n 1, 1) := by decide +kernel
theorem dX2_fill_26 : decode cX2_fill 26 = .ok (.iaload, 1) := by decide +kernel
theorem dX2_fill_27 : decode cX2_fill 27 = .ok (.iload_n 2, 1) := by decide +kernel
theorem dX2_fill_28 : decode cX2_fill 28 = .ok (.isub, 1) := by decide +kernel
theorem dX2_fill_29 : decode cX2_fill 29 = .ok (.invokestatic 38, 3) := by decide +kernel
theorem dX2_fill_32 : decode cX2_fill 32 = .ok (.istore 4, 2) := by decide +kernel
theorem dX2_fill_34 : decode cX2_fill 34 = .ok (.aload_n 0, 1) := by decide +kernel
theorem dX2_fill_35 : decode cX2_fill 35 = .ok (.getfield 24, 3) := by decide +kernel
theorem dX2_fill_38 : decode cX2_fill 38 = .ok (.iload_n 3, 1) := by decide +kernel
theorem dX2_fill_39 : decode cX2_fill 39 = .ok (.dup2, 1) := by decide +kernel
theorem dX2_fill_40 : decode cX2_fill 40 = .ok (.iaload, 1) := by decide +kernel
theorem dX2_fill_41 : decode cX2_fill 41 = .ok (.iload 4, 2) := by decide +kernel
theorem dX2_fill_43 : decode cX2_fill 43 = .ok (.isub, 1) := by decide +kernel
theorem dX2_fill_44 : decode cX2_fill 44 = .ok (.iastore, 1) := by decide +kernel
theorem dX2_fill_45 : decode cX2_fill 45 = .ok (.iload_n 2, 1) := by decide +kernel
theorem dX2_fill_46 : decode cX2_fill 46 = .ok (.iload 4, 2) := by decide +kernel
theorem dX2_fill_48 : decode cX2_fill 48 = .ok (.iadd, 1) := by decide +kernel
theorem dX2_fill_49 : decode cX2_fill 49 = .ok (.istore_n 2, 1) := by decide +kernel
theorem dX2_fill_50 : decode cX2_fill 50 = .ok (.iinc 3 1, 3) := by decide +kernel
theorem dX2_fill_53 : decode cX2_fill 53 = .ok (.goto (-44), 3) := by decide +kernel
theorem dX2_fill_56 : decode cX2_fill 56 = .ok (.iload_n 2, 1) := by decide +kernel
theorem dX2_fill_57 : decode cX2_fill 57 = .ok (.ireturn, 1) := by decide +kernel
theorem dX3_init_0 : decode cX3_init 0 = .ok (.aload_n 0, 1) := by decide +kernel
theorem dX3_init_1 : decode cX3_init 1 = .ok (.invokespecial 3, 3) := by decide +kernel
theorem dX3_init_4 : decode cX3_init 4 = .ok (.aload_n 0, 1) := by decide +kernel
theorem dX3_init_5 : decode cX3_init 5 = .ok (.bipush 12, 2) := by decide +kernel
theorem dX3_init_7 : decode cX3_init 7 = .ok (.newarray .int, 2) := by decide +kernel
theorem dX3_init_9 : decode cX3_init 9 = .ok (.putfield 9, 3) := by decide +kernel
theorem dX3_init_12 : decode cX3_init 12 = .ok (.aload_n 0, 1) := by decide +kernel
theorem dX3_init_13 : decode cX3_init 13 = .ok (.bipush 12, 2) := by decide +kernel
theorem dX3_init_15 : decode cX3_init 15 = .ok (.newarray .int, 2) := by decide +kernel
theorem dX3_init_17 : decode cX3_init 17 = .ok (.putfield 15, 3) := by decide +kernel
theorem dX3_init_20 : decode cX3_init 20 = .ok (.aload_n 0, 1) := by decide +kernel
theorem dX3_init_21 : decode cX3_init 21 = .ok (.bipush 12, 2) := by decide +kernel
theorem dX3_init_23 : decode cX3_init 23 = .ok (.newarray .int, 2) := by decide +kernel
theorem dX3_init_25 : decode cX3_init 25 = .ok (.putfield 18, 3) := by decide +kernel
theorem dX3_init_28 : decode cX3_init 28 = .ok (.aload_n 0, 1) := by decide +kernel
theorem dX3_init_29 : decode cX3_init 29 = .ok (.bipush 12, 2) := by decide +kernel
theorem dX3_init_31 : decode cX3_init 31 = .ok (.newarray .int, 2) := by decide +kernel
theorem dX3_init_33 : decode cX3_init 33 = .ok (.putfield 21, 3) := by decide +kernel
theorem dX3_init_36 : decode cX3_init 36 = .ok (.aload_n 0, 1) := by decide +kernel
theorem dX3_init_37 : decode cX3_init 37 = .ok (.bipush 12, 2) := by decide +kernel
theorem dX3_init_39 : decode cX3_init 39 = .ok (.newarray .int, 2) := by decide +kernel
theorem dX3_init_41 : decode cX3_init 41 = .ok (.putfield 24, 3) := by decide +kernel
theorem dX3_init_44 : decode cX3_init 44 = .ok (.aload_n 0, 1) := by decide +kernel
theorem dX3_init_45 : decode cX3_init 45 = .ok (.bipush 60, 2) := by decide +kernel
theorem dX3_init_47 : decode cX3_init 47 = .ok (.newarray .int, 2) := by decide +kernel
theorem dX3_init_49 : decode cX3_init 49 = .ok (.putfield 27, 3) := by decide +kernel
theorem dX3_init_52 : decode cX3_init 52 = .ok (.return_, 1) := by decide +kernel
theorem dX3_add_0 : decode cX3_add 0 = .ok (.aload_n 0, 1) := by decide +kernel
theorem dX3_add_1 : decode cX3_add 1 = .ok (.getfield 30, 3) := by decide +kernel
theorem dX3_add_4 : decode cX3_add 4 = .ok (.istore 5, 2) := by decide +kernel
theorem dX3_add_6 : decode cX3_add 6 = .ok (.aload_n 0, 1) := by decide +kernel
theorem dX3_add_7 : decode cX3_add 7 = .ok (.getfield 9, 3) := by decide +kernel
theorem dX3_add_10 : decode cX3_add 10 = .ok (.iload 5, 2) := by decide +kernel
theorem dX3_add_12 : decode cX3_add 12 = .ok (.iload_n 1, 1) := by decide +kernel
theorem dX3_add_13 : decode cX3_add 13 = .ok (.iastore, 1) := by decide +kernel
theorem dX3_add_14 : decode cX3_add 14 = .ok (.aload_n 0, 1) := by decide +kernel
theorem dX3_add_15 : decode cX3_add 15 = .ok (.getfield 15, 3) := by decide +kernel
theorem dX3_add_18 : decode cX3_add 18 = .ok (.iload 5, 2) := by decide +kernel
theorem dX3_add_20 : decode cX3_add 20 = .ok (.iload_n 2, 1) := by decide +kernel
theorem dX3_add_21 : decode cX3_add 21 = .ok (.iastore, 1) := by decide +kernel
theorem dX3_add_22 : decode cX3_add 22 = .ok (.aload_n 0, 1) := by decide +kernel
theorem dX3_add_23 : decode cX3_add 23 = .ok (.getfield 21, 3) := by decide +kernel
theorem dX3_add_26 : decode cX3_add 26 = .ok (.iload 5, 2) := by decide +kernel
theorem dX3_add_28 : decode cX3_add 28 = .ok (.iload_n 3, 1) := by decide +kernel
theorem dX3_add_29 : decode cX3_add 29 = .ok (.iastore, 1) := by decide +kernel
theorem dX3_add_30 : decode cX3_add 30 = .ok (.aload_n 0, 1) := by decide +kernel
theorem dX3_add_31 : decode cX3_add 31 = .ok (.getfield 24, 3) := by decide +kernel
theorem dX3_add_34 : decode cX3_add 34 = .ok (.iload 5, 2) := by decide +kernel
theorem dX3_add_36 : decode cX3_add 36 = .ok (.iload 4, 2) := by decide +kernel
theorem dX3_add_38 : decode cX3_add 38 = .ok (.iastore, 1) := by decide +kernel
theorem dX3_add_39 : decode cX3_add 39 = .ok (.aload_n 0, 1) := by decide +kernel
theorem dX3_add_40 : decode cX3_add 40 = .ok (.dup, 1) := by decide +kernel
theorem dX3_add_41 : decode cX3_add 41 = .ok (.getfield 30, 3) := by decide +kernel
theorem dX3_add_44 : decode cX3_add 44 = .ok (.iconst 1, 1) := by decide +kernel
theorem dX3_add_45 : decode cX3_add 45 = .ok (.iadd, 1) := by decide +kernel
theorem dX3_add_46 : decode cX3_add 46 = .ok (.putfield 30, 3) := by decide +kernel
theorem dX3_add_49 : decode cX3_add 49 = .ok (.iload 5, 2) := by decide +kernel
theorem dX3_add_51 : decode cX3_add 51 = .ok (.ireturn, 1) := by decide +kernel
theorem dX3_areOfTheirKinds_0 : decode cX3_areOfTheirKinds 0 = .ok (.aload_n 0, 1) := by decide +kernel
theorem dX3_areOfTheirKinds_1 : decode cX3_areOfTheirKinds 1 = .ok (.getfield 9, 3) := by decide +kernel
theorem dX3_areOfTheirKinds_4 : decode cX3_areOfTheirKinds 4 = .ok (.iload_n 1, 1) := by decide +kernel
theorem dX3_areOfTheirKinds_5 : decode cX3_areOfTheirKinds 5 = .ok (.iaload, 1) := by decide +kernel
theorem dX3_areOfTheirKinds_6 : decode cX3_areOfTheirKinds 6 = .ok (.ifCond .ne 27, 3) := by decide +kernel
theorem dX3_areOfTheirKinds_9 : decode cX3_areOfTheirKinds 9 = .ok (.aload_n 0, 1) := by decide +kernel
theorem dX3_areOfTheirKinds_10 : decode cX3_areOfTheirKinds 10 = .ok (.getfield 9, 3) := by decide +kernel
theorem dX3_areOfTheirKinds_13 : decode cX3_areOfTheirKinds 13 = .ok (.iload_n 2, 1) := by decide +kernel
theorem dX3_areOfTheirKinds_14 : decode cX3_areOfTheirKinds 14 = .ok (.iaload, 1) := by decide +kernel
theorem dX3_areOfTheirKinds_15 : decode cX3_areOfTheirKinds 15 = .ok (.iconst 1, 1) := by decide +kernel
theorem dX3_areOfTheirKinds_16 : decode cX3_areOfTheirKinds 16 = .ok (.if_icmp .ne 17, 3) := by decide +kernel
theorem dX3_areOfTheirKinds_19 : decode cX3_areOfTheirKinds 19 = .ok (.aload_n 0, 1) := by decide +kernel
theorem dX3_areOfTheirKinds_20 : decode cX3_areOfTheirKinds 20 = .ok (.getfield 9, 3) := by decide +kernel
theorem dX3_areOfTheirKinds_23 : decode cX3_areOfTheirKinds 23 = .ok (.iload_n 3, 1) := by decide +kernel
theorem dX3_areOfTheirKinds_24 : decode cX3_areOfTheirKinds 24 = .ok (.iaload, 1) := by decide +kernel
theorem dX3_areOfTheirKinds_25 : decode cX3_areOfTheirKinds 25 = .ok (.iconst 2, 1) := by decide +kernel
theorem dX3_areOfTheirKinds_26 : decode cX3_areOfTheirKinds 26 = .ok (.if_icmp .ne 7, 3) := by decide +kernel
theorem dX3_areOfTheirKinds_29 : decode cX3_areOfTheirKinds 29 = .ok (.iconst 1, 1) := by decide +kernel
theorem dX3_areOfTheirKinds_30 : decode cX3_areOfTheirKinds 30 = .ok (.goto 4, 3) := by decide +kernel
theorem dX3_areOfTheirKinds_33 : decode cX3_areOfTheirKinds 33 = .ok (.iconst 0, 1) := by decide +kernel
theorem dX3_areOfTheirKinds_34 : decode cX3_areOfTheirKinds 34 = .ok (.ireturn, 1) := by decide +kernel
theorem dX3_haveAll_0 : decode cX3_haveAll 0 = .ok (.aload_n 0, 1) := by decide +kernel
theorem dX3_haveAll_1 : decode cX3_haveAll 1 = .ok (.getfield 15, 3) := by decide +kernel
theorem dX3_haveAll_4 : decode cX3_haveAll 4 = .ok (.iload_n 1, 1) := by decide +kernel
theorem dX3_haveAll_5 : decode cX3_haveAll 5 = .ok (.iaload, 1) := by decide +kernel
theorem dX3_haveAll_6 : decode cX3_haveAll 6 = .ok (.iload 4, 2) := by decide +kernel
theorem dX3_haveAll_8 : decode cX3_haveAll 8 = .ok (.if_icmp .lt 29, 3) := by decide +kernel
theorem dX3_haveAll_11 : decode cX3_haveAll 11 = .ok (.aload_n 0, 1) := by decide +kernel
theorem dX3_haveAll_12 : decode cX3_haveAll 12 = .ok (.getfield 15, 3) := by decide +kernel
theorem dX3_haveAll_15 : decode cX3_haveAll 15 = .ok (.iload_n 2, 1) := by decide +kernel
theorem dX3_haveAll_16 : decode cX3_haveAll 16 = .ok (.iaload, 1) := by decide +kernel
theorem dX3_haveAll_17 : decode cX3_haveAll 17 = .ok (.iload 4, 2) := by decide +kernel
theorem dX3_haveAll_19 : decode cX3_haveAll 19 = .ok (.if_icmp .lt 18, 3) := by decide +kernel
theorem dX3_haveAll_22 : decode cX3_haveAll 22 = .ok (.aload_n 0, 1) := by decide +kernel
theorem dX3_haveAll_23 : decode cX3_haveAll 23 = .ok (.getfield 15, 3) := by decide +kernel
theorem dX3_haveAll_26 : decode cX3_haveAll 26 = .ok (.iload_n 3, 1) := by decide +kernel
theorem dX3_haveAll_27 : decode cX3_haveAll 27 = .ok (.iaload, 1) := by decide +kernel
theorem dX3_haveAll_28 : decode cX3_haveAll 28 = .ok (.iload 4, 2) := by decide +kernel
theorem dX3_haveAll_30 : decode cX3_haveAll 30 = .ok (.if_icmp .lt 7, 3) := by decide +kernel
theorem dX3_haveAll_33 : decode cX3_haveAll 33 = .ok (.iconst 1, 1) := by decide +kernel
theorem dX3_haveAll_34 : decode cX3_haveAll 34 = .ok (.goto 4, 3) := by decide +kernel
theorem dX3_haveAll_37 : decode cX3_haveAll 37 = .ok (.iconst 0, 1) := by decide +kernel
theorem dX3_haveAll_38 : decode cX3_haveAll 38 = .ok (.ireturn, 1) := by decide +kernel
set_option maxRecDepth 20000 in
theorem ggX3_addBatch_X3_use : GoodIn wsX3_addBatch wsX3_use := goodIn_r _ [8, 9, 10, 11, 12, 13, 14, 15, 16, 17, 18, 19] (by decide +kernel) (by decide +kernel)
set_option maxRecDepth 20000 in
theorem gX3_addBatch_X3_use : GoodIn wsX3_addBatch (wsV RX3 34 RX3 yX3_use wsX3_use) := goodIn_app (goodIn_of _ (by decide +kernel)) ggX3_addBatch_X3_use
theorem dX3_addBatch_0 : decode cX3_addBatch 0 = .ok (.aload_n 0, 1) := by decide +kernel
theorem dX3_addBatch_1 : decode cX3_addBatch 1 = .ok (.iload_n 1, 1) := by decide +kernel
theorem dX3_addBatch_2 : decode cX3_addBatch 2 = .ok (.iload 4, 2) := by decide +kernel
theorem dX3_addBatch_4 : decode cX3_addBatch 4 = .ok (.invokevirtual 34, 3) := by decide +kernel
theorem dX3_addBatch_7 : decode cX3_addBatch 7 = .ok (.aload_n 0, 1) := by decide +kernel
theorem dX3_addBatch_8 : decode cX3_addBatch 8 = .ok (.iload_n 2, 1) := by decide +kernel
theorem dX3_addBatch_9 : decode cX3_addBatch 9 = .ok (.iload 4, 2) := by decide +kernel
theorem dX3_addBatch_11 : decode cX3_addBatch 11 = .ok (.invokevirtual 34, 3) := by decide +kernel
theorem dX3_addBatch_14 : decode cX3_addBatch 14 = .ok (.aload_n 0, 1) := by decide +kernel
theorem dX3_addBatch_15 : decode cX3_addBatch 15 = .ok (.iload_n 3, 1) := by decide +kernel
theorem dX3_addBatch_16 : decode cX3_addBatch 16 = .ok (.iload 4, 2) := by decide +kernel
theorem dX3_addBatch_18 : decode cX3_addBatch 18 = .ok (.invokevirtual 34, 3) := by decide +kernel
theorem dX3_addBatch_21 : decode cX3_addBatch 21 = .ok (.aload_n 0, 1) := by decide +kernel
theorem dX3_addBatch_22 : decode cX3_addBatch 22 = .ok (.dup, 1) := by decide +kernel
theorem dX3_addBatch_23 : decode cX3_addBatch 23 = .ok (.getfield 38, 3) := by decide +kernel
theorem dX3_addBatch_26 : decode cX3_addBatch 26 = .ok (.iload 4, 2) := by decide +kernel
theorem dX3_addBatch_28 : decode cX3_addBatch 28 = .ok (.iadd, 1) := by decide +kernel
theorem dX3_addBatch_29 : decode cX3_addBatch 29 = .ok (.putfield 38, 3) := by decide +kernel
theorem dX3_addBatch_32 : decode cX3_addBatch 32 = .ok (.aload_n 0, 1) := by decide +kernel
theorem dX3_addBatch_33 : decode cX3_addBatch 33 = .ok (.getfield 41, 3) := by decide +kernel
theorem dX3_addBatch_36 : decode cX3_addBatch 36 = .ok (.istore 5, 2) := by decide +kernel
theorem dX3_addBatch_38 : decode cX3_addBatch 38 = .ok (.aload_n 0, 1) := by decide +kernel
theorem dX3_addBatch_39 : decode cX3_addBatch 39 = .ok (.getfield 27, 3) := by decide +kernel
theorem dX3_addBatch_42 : decode cX3_addBatch 42 = .ok (.iload 5, 2) := by decide +kernel
theorem dX3_addBatch_44 : decode cX3_addBatch 44 = .ok (.iconst 1, 1) := by decide +kernel
theorem dX3_addBatch_45 : decode cX3_addBatch 45 = .ok (.iload_n 1, 1) := by decide +kernel
theorem dX3_addBatch_46 : decode cX3_addBatch 46 = .ok (.ishl, 1) := by decide +kernel
theorem dX3_addBatch_47 : decode cX3_addBatch 47 = .ok (.iconst 1, 1) := by decide +kernel
theorem dX3_addBatch_48 : decode cX3_addBatch 48 = .ok (.iload_n 2, 1) := by decide +kernel
theorem dX3_addBatch_49 : decode cX3_addBatch 49 = .ok (.ishl, 1) := by decide +kernel
theorem dX3_addBatch_50 : decode cX3_addBatch 50 = .ok (.ior, 1) := by decide +kernel
theorem dX3_addBatch_51 : decode cX3_addBatch 51 = .ok (.iconst 1, 1) := by decide +kernel
theorem dX3_addBatch_52 : decode cX3_addBatch 52 = .ok (.iload_n 3, 1) := by decide +kernel
theorem dX3_addBatch_53 : decode cX3_addBatch 53 = .ok (.ishl, 1) := by decide +kernel
theorem dX3_addBatch_54 : decode cX3_addBatch 54 = .ok (.ior, 1) := by decide +kernel
theorem dX3_addBatch_55 : decode cX3_addBatch 55 = .ok (.iastore, 1) := by decide +kernel
theorem dX3_addBatch_56 : decode cX3_addBatch 56 = .ok (.aload_n 0, 1) := by decide +kernel
theorem dX3_addBatch_57 : decode cX3_addBatch 57 = .ok (.dup, 1) := by decide +kernel
theorem dX3_addBatch_58 : decode cX3_addBatch 58 = .ok (.getfield 41, 3) := by decide +kernel
theorem dX3_addBatch_61 : decode cX3_addBatch 61 = .ok (.iconst 1, 1) := by decide +kernel
theorem dX3_addBatch_62 : decode cX3_addBatch 62 = .ok (.iadd, 1) := by decide +kernel
theorem dX3_addBatch_63 : decode cX3_addBatch 63 = .ok (.putfield 41, 3) := by decide +kernel
theorem dX3_addBatch_66 : decode cX3_addBatch 66 = .ok (.iload 5, 2) := by decide +kernel
theorem dX3_addBatch_68 : decode cX3_addBatch 68 = .ok (.ireturn, 1) := by decide +kernel
theorem dX3_use_0 : decode cX3_use 0 = .ok (.aload_n 0, 1) := by decide +kernel
theorem dX3_use_1 : decode cX3_use 1 = .ok (.getfield 15, 3) := by decide +kernel
theorem dX3_use_4 : decode cX3_use 4 = .ok (.iload_n 1, 1) := by decide +kernel
theorem dX3_use_5 : decode cX3_use 5 = .ok (.dup2, 1) := by decide +kernel
theorem dX3_use_6 : decode cX3_use 6 = .ok (.iaload, 1) := by decide +kernel
theorem dX3_use_7 : decode cX3_use 7 = .ok (.iload_n 2, 1) := by decide +kernel
theorem dX3_use_8 : decode cX3_use 8 = .ok (.isub, 1) := by decide +kernel
theorem dX3_use_9 : decode cX3_use 9 = .ok (.iastore, 1) := by decide +kernel
theorem dX3_use_10 : decode cX3_use 10 = .ok (.aload_n 0, 1) := by decide +kernel
theorem dX3_use_11 : decode cX3_use 11 = .ok (.getfield 18, 3) := by decide +kernel
theorem dX3_use_14 : decode cX3_use 14 = .ok (.iload_n 1, 1) := by decide +kernel
theorem dX3_use_15 : decode cX3_use 15 = .ok (.dup2, 1) := by decide +kernel
theorem dX3_use_16 : decode cX3_use 16 = .ok (.iaload, 1) := by decide +kernel
theorem dX3_use_17 : decode cX3_use 17 = .ok (.iload_n 2, 1) := by decide +kernel
theorem dX3_use_18 : decode cX3_use 18 = .ok (.iadd, 1) := by decide +kernel
theorem dX3_use_19 : decode cX3_use 19 = .ok (.iastore, 1) := by decide +kernel
theorem dX3_use_20 : decode cX3_use 20 = .ok (.return_, 1) := by decide +kernel
theorem dX3_batchesOf_0 : decode cX3_batchesOf 0 = .ok (.iconst 0, 1) := by decide +kernel
theorem dX3_batchesOf_1 : decode cX3_batchesOf 1 = .ok (.istore 4, 2) := by decide +kernel
theorem dX3_batchesOf_3 : decode cX3_batchesOf 3 = .ok (.iconst 0, 1) := by decide +kernel
theorem dX3_batchesOf_4 : decode cX3_batchesOf 4 = .ok (.istore 5, 2) := by decide +kernel
theorem dX3_batchesOf_6 : decode cX3_batchesOf 6 = .ok (.iload 5, 2) := by decide +kernel
theorem dX3_batchesOf_8 : decode cX3_batchesOf 8 = .ok (.aload_n 0, 1) := by decide +kernel
theorem dX3_batchesOf_9 : decode cX3_batchesOf 9 = .ok (.getfield 41, 3) := by decide +kernel
theorem dX3_batchesOf_12 : decode cX3_batchesOf 12 = .ok (.if_icmp .ge 37, 3) := by decide +kernel
theorem dX3_batchesOf_15 : decode cX3_batchesOf 15 = .ok (.lload_n 2, 1) := by decide +kernel
theorem dX3_batchesOf_16 : decode cX3_batchesOf 16 = .ok (.iload 5, 2) := by decide +kernel
theorem dX3_batchesOf_18 : decode cX3_batchesOf 18 = .ok (.lshr, 1) := by decide +kernel
theorem dX3_batchesOf_19 : decode cX3_batchesOf 19 = .ok (.lconst 1, 1) := by decide +kernel
theorem dX3_batchesOf_20 : decode cX3_batchesOf 20 = .ok (.land, 1) := by decide +kernel
theorem dX3_batchesOf_21 : decode cX3_batchesOf 21 = .ok (.lconst 0, 1) := by decide +kernel
theorem dX3_batchesOf_22 : decode cX3_batchesOf 22 = .ok (.lcmp, 1) := by decide +kernel
theorem dX3_batchesOf_23 : decode cX3_batchesOf 23 = .ok (.ifCond .eq 20, 3) := by decide +kernel
theorem dX3_batchesOf_26 : decode cX3_batchesOf 26 = .ok (.aload_n 0, 1) := by decide +kernel
theorem dX3_batchesOf_27 : decode cX3_batchesOf 27 = .ok (.getfield 27, 3) := by decide +kernel
theorem dX3_batchesOf_30 : decode cX3_batchesOf 30 = .ok (.iload 5, 2) := by decide +kernel
theorem dX3_batchesOf_32 : decode cX3_batchesOf 32 = .ok (.iaload, 1) := by decide +kernel
theorem dX3_batchesOf_33 : decode cX3_batchesOf 33 = .ok (.iload_n 1, 1) := by decide +kernel
theorem dX3_batchesOf_34 : decode cX3_batchesOf 34 = .ok (.ishr, 1) := by decide +kernel
theorem dX3_batchesOf_35 : decode cX3_batchesOf 35 = .ok (.iconst 1, 1) := by decide +kernel
theorem dX3_batchesOf_36 : decode cX3_batchesOf 36 = .ok (.iand, 1) := by decide +kernel
theorem dX3_batchesOf_37 : decode cX3_batchesOf 37 = .ok (.ifCond .eq 6, 3) := by decide +kernel
theorem dX3_batchesOf_40 : decode cX3_batchesOf 40 = .ok (.iinc 4 1, 3) := by decide +kernel
theorem dX3_batchesOf_43 : decode cX3_batchesOf 43 = .ok (.iinc 5 1, 3) := by decide +kernel
theorem dX3_batchesOf_46 : decode cX3_batchesOf 46 = .ok (.goto (-40), 3) := by decide +kernel
theorem dX3_batchesOf_49 : decode cX3_batchesOf 49 = .ok (.iload 4, 2) := by decide +kernel
theorem dX3_batchesOf_51 : decode cX3_batchesOf 51 = .ok (.ireturn, 1) := by decide +kernel
theorem dX3_lotsOf_0 : decode cX3_lotsOf 0 = .ok (.iconst 0, 1) := by decide +kernel
theorem dX3_lotsOf_1 : decode cX3_lotsOf 1 = .ok (.istore_n 3, 1) := by decide +kernel
theorem dX3_lotsOf_2 : decode cX3_lotsOf 2 = .ok (.iconst 0, 1) := by decide +kernel
theorem dX3_lotsOf_3 : decode cX3_lotsOf 3 = .ok (.istore 4, 2) := by decide +kernel
theorem dX3_lotsOf_5 : decode cX3_lotsOf 5 = .ok (.iload 4, 2) := by decide +kernel
theorem dX3_lotsOf_7 : decode cX3_lotsOf 7 = .ok (.aload_n 0, 1) := by decide +kernel
theorem dX3_lotsOf_8 : decode cX3_lotsOf 8 = .ok (.getfield 41, 3) := by decide +kernel
theorem dX3_lotsOf_11 : decode cX3_lotsOf 11 = .ok (.if_icmp .ge 30, 3) := by decide +kernel
theorem dX3_lotsOf_14 : decode cX3_lotsOf 14 = .ok (.lload_n 1, 1) := by decide +kernel
theorem dX3_lotsOf_15 : decode cX3_lotsOf 15 = .ok (.iload 4, 2) := by decide +kernel
theorem dX3_lotsOf_17 : decode cX3_lotsOf 17 = .ok (.lshr, 1) := by decide +kernel
theorem dX3_lotsOf_18 : decode cX3_lotsOf 18 = .ok (.lconst 1, 1) := by decide +kernel
theorem dX3_lotsOf_19 : decode cX3_lotsOf 19 = .ok (.land, 1) := by decide +kernel
theorem dX3_lotsOf_20 : decode cX3_lotsOf 20 = .ok (.lconst 0, 1) := by decide +kernel
theorem dX3_lotsOf_21 : decode cX3_lotsOf 21 = .ok (.lcmp, 1) := by decide +kernel
theorem dX3_lotsOf_22 : decode cX3_lotsOf 22 = .ok (.ifCond .eq 13, 3) := by decide +kernel
theorem dX3_lotsOf_25 : decode cX3_lotsOf 25 = .ok (.iload_n 3, 1) := by decide +kernel
theorem dX3_lotsOf_26 : decode cX3_lotsOf 26 = .ok (.aload_n 0, 1) := by decide +kernel
theorem dX3_lotsOf_27 : decode cX3_lotsOf 27 = .ok (.getfield 27, 3) := by decide +kernel
theorem dX3_lotsOf_30 : decode cX3_lotsOf 30 = .ok (.iload 4, 2) := by decide +kernel
theorem dX3_lotsOf_32 : decode cX3_lotsOf 32 = .ok (.iaload, 1) := by decide +kernel
theorem dX3_lotsOf_33 : decode cX3_lotsOf 33 = .ok (.ior, 1) := by decide +kernel
theorem dX3_lotsOf_34 : decode cX3_lotsOf 34 = .ok (.istore_n 3, 1) := by decide +kernel
theorem dX3_lotsOf_35 : decode cX3_lotsOf 35 = .ok (.iinc 4 1, 3) := by decide +kernel
theorem dX3_lotsOf_38 : decode cX3_lotsOf 38 = .ok (.goto (-33), 3) := by decide +kernel
theorem dX3_lotsOf_41 : decode cX3_lotsOf 41 = .ok (.iload_n 3, 1) := by decide +kernel
theorem dX3_lotsOf_42 : decode cX3_lotsOf 42 = .ok (.ireturn, 1) := by decide +kernel
theorem dX4_init_0 : decode cX4_init 0 = .ok (.aload_n 0, 1) := by decide +kernel
theorem dX4_init_1 : decode cX4_init 1 = .ok (.invokespecial 3, 3) := by decide +kernel
theorem dX4_init_4 : decode cX4_init 4 = .ok (.aload_n 0, 1) := by decide +kernel
theorem dX4_init_5 : decode cX4_init 5 = .ok (.bipush 42, 2) := by decide +kernel
theorem dX4_init_7 : decode cX4_init 7 = .ok (.newarray .int, 2) := by decide +kernel
theorem dX4_init_9 : decode cX4_init 9 = .ok (.putfield 9, 3) := by decide +kernel
theorem dX4_init_12 : decode cX4_init 12 = .ok (.aload_n 0, 1) := by decide +kernel
theorem dX4_init_13 : decode cX4_init 13 = .ok (.iconst (-1), 1) := by decide +kernel
theorem dX4_init_14 : decode cX4_init 14 = .ok (.putfield 15, 3) := by decide +kernel
theorem dX4_init_17 : decode cX4_init 17 = .ok (.aload_n 0, 1) := by decide +kernel
theorem dX4_init_18 : decode cX4_init 18 = .ok (.bipush 6, 2) := by decide +kernel
theorem dX4_init_20 : decode cX4_init 20 = .ok (.newarray .int, 2) := by decide +kernel
theorem dX4_init_22 : decode cX4_init 22 = .ok (.putfield 19, 3) := by decide +kernel
theorem dX4_init_25 : decode cX4_init 25 = .ok (.aload_n 0, 1) := by decide +kernel
theorem dX4_init_26 : decode cX4_init 26 = .ok (.bipush 6, 2) := by decide +kernel
theorem dX4_init_28 : decode cX4_init 28 = .ok (.newarray .int, 2) := by decide +kernel
theorem dX4_init_30 : decode cX4_init 30 = .ok (.putfield 22, 3) := by decide +kernel
theorem dX4_init_33 : decode cX4_init 33 = .ok (.aload_n 0, 1) := by decide +kernel
theorem dX4_init_34 : decode cX4_init 34 = .ok (.bipush 6, 2) := by decide +kernel
theorem dX4_init_36 : decode cX4_init 36 = .ok (.newarray .int, 2) := by decide +kernel
theorem dX4_init_38 : decode cX4_init 38 = .ok (.putfield 25, 3) := by decide +kernel
theorem dX4_init_41 : decode cX4_init 41 = .ok (.aload_n 0, 1) := by decide +kernel
theorem dX4_init_42 : decode cX4_init 42 = .ok (.sipush 1944, 3) := by decide +kernel
theorem dX4_init_45 : decode cX4_init 45 = .ok (.newarray .int, 2) := by decide +kernel
theorem dX4_init_47 : decode cX4_init 47 = .ok (.putfield 28, 3) := by decide +kernel
theorem dX4_init_50 : decode cX4_init 50 = .ok (.return_, 1) := by decide +kernel
theorem dX4_add_0 : decode cX4_add 0 = .ok (.aload_n 0, 1) := by decide +kernel
theorem dX4_add_1 : decode cX4_add 1 = .ok (.getfield 19, 3) := by decide +kernel
theorem dX4_add_4 : decode cX4_add 4 = .ok (.iload_n 1, 1) := by decide +kernel
theorem dX4_add_5 : decode cX4_add 5 = .ok (.dup2, 1) := by decide +kernel
theorem dX4_add_6 : decode cX4_add 6 = .ok (.iaload, 1) := by decide +kernel
theorem dX4_add_7 : decode cX4_add 7 = .ok (.iconst 1, 1) := by decide +kernel
theorem dX4_add_8 : decode cX4_add 8 = .ok (.iadd, 1) := by decide +kernel
theorem dX4_add_9 : decode cX4_add 9 = .ok (.iastore, 1) := by decide +kernel
theorem dX4_add_10 : decode cX4_add 10 = .ok (.aload_n 0, 1) := by decide +kernel
theorem dX4_add_11 : decode cX4_add 11 = .ok (.dup, 1) := by decide +kernel
theorem dX4_add_12 : decode cX4_add 12 = .ok (.getfield 31, 3) := by decide +kernel
theorem dX4_add_15 : decode cX4_add 15 = .ok (.iconst 1, 1) := by decide +kernel
theorem dX4_add_16 : decode cX4_add 16 = .ok (.iadd, 1) := by decide +kernel
theorem dX4_add_17 : decode cX4_add 17 = .ok (.putfield 31, 3) := by decide +kernel
theorem dX4_add_20 : decode cX4_add 20 = .ok (.aload_n 0, 1) := by decide +kernel
theorem dX4_add_21 : decode cX4_add 21 = .ok (.getfield 31, 3) := by decide +kernel
theorem dX4_add_24 : decode cX4_add 24 = .ok (.ireturn, 1) := by decide +kernel
set_option maxRecDepth 20000 in
theorem ggX4_runJobs_X4_setWeights : GoodIn wsX4_runJobs wsX4_setWeights := goodIn_r _ [6, 7, 8, 9, 10, 11, 12, 37, 38, 39, 40, 41, 42, 43] (by decide +kernel) (by decide +kernel)
set_option maxRecDepth 20000 in
theorem gX4_runJobs_X4_setWeights : GoodIn wsX4_runJobs (wsV RX4 34 RX4 yX4_setWeights wsX4_setWeights) := goodIn_app (goodIn_of _ (by decide +kernel)) ggX4_runJobs_X4_setWeights
set_option maxRecDepth 20000 in
theorem ggX4_runJobs_X4_setLeft : GoodIn wsX4_runJobs wsX4_setLeft := goodIn_r _ [16, 8, 7, 17, 37, 38, 39, 40, 41, 42, 43] (by decide +kernel) (by decide +kernel)
set_option maxRecDepth 20000 in
theorem gX4_runJobs_X4_setLeft : GoodIn wsX4_runJobs (wsV RX4 38 RX4 yX4_setLeft wsX4_setLeft) := goodIn_app (goodIn_of _ (by decide +kernel)) ggX4_runJobs_X4_setLeft
set_option maxRecDepth 20000 in
theorem ggX4_runJobs_X4_bestNext : GoodIn wsX4_runJobs wsX4_bestNext := goodIn_r _ [21, 17, 22, 23, 24, 5, 25, 26, 1, 7, 37, 38, 39, 40, 41, 42, 43] (by decide +kernel) (by decide +kernel)
set_option maxRecDepth 20000 in
theorem gX4_runJobs_X4_bestNext : GoodIn wsX4_runJobs (wsV RX4 42 RX4 yX4_bestNext wsX4_bestNext) := goodIn_app (goodIn_of _ (by decide +kernel)) ggX4_runJobs_X4_bestNext
set_option maxRecDepth 20000 in
theorem ggX4_runJobs_X4_costThrough : GoodIn wsX4_runJobs wsX4_costThrough := goodIn_r _ [25, 26, 1, 7, 37, 38, 39, 40, 41, 42, 43] (by decide +kernel) (by decide +kernel)
set_option maxRecDepth 20000 in
theorem gX4_runJobs_X4_costThrough : GoodIn wsX4_runJobs (wsV RX4 46 RX4 yX4_costThrough wsX4_costThrough) := goodIn_app (goodIn_of _ (by decide +kernel)) ggX4_runJobs_X4_costThrough
set_option maxRecDepth 20000 in
theorem ggX4_runJobs_X4_walkBestOrder : GoodIn wsX4_runJobs wsX4_walkBestOrder := goodIn_r _ [30, 31, 32, 26, 7, 13, 14, 15, 5, 16, 8, 17, 18, 19, 20, 21, 22, 23, 24, 25, 1, 37, 38, 39, 40, 41, 42, 43] (by decide +kernel) (by decide +kernel)
set_option maxRecDepth 20000 in
theorem gX4_runJobs_X4_walkBestOrder : GoodIn wsX4_runJobs (wsV RX4 50 RX4 yX4_walkBestOrder wsX4_walkBestOrder) := goodIn_app (goodIn_of _ (by decide +kernel)) ggX4_runJobs_X4_walkBestOrder
set_option maxRecDepth 20000 in
theorem ggX4_runJobs_X4_clearJobs : GoodIn wsX4_runJobs wsX4_clearJobs := goodIn_r _ [36, 31, 8, 37, 38, 39, 40, 41, 42, 43] (by decide +kernel) (by decide +kernel)
set_option maxRecDepth 20000 in
theorem gX4_runJobs_X4_clearJobs : GoodIn wsX4_runJobs (wsV RX4 54 RX4 yX4_clearJobs wsX4_clearJobs) := goodIn_app (goodIn_of _ (by decide +kernel)) ggX4_runJobs_X4_clearJobs
theorem dX4_runJobs_0 : decode cX4_runJobs 0 = .ok (.aload_n 0, 1) := by decide +kernel
theorem dX4_runJobs_1 : decode cX4_runJobs 1 = .ok (.invokevirtual 34, 3) := by decide +kernel
theorem dX4_runJobs_4 : decode cX4_runJobs 4 = .ok (.istore_n 1, 1) := by decide +kernel
theorem dX4_runJobs_5 : decode cX4_runJobs 5 = .ok (.iconst 1, 1) := by decide +kernel
theorem dX4_runJobs_6 : decode cX4_runJobs 6 = .ok (.istore_n 2, 1) := by decide +kernel
theorem dX4_runJobs_7 : decode cX4_runJobs 7 = .ok (.iload_n 2, 1) := by decide +kernel
theorem dX4_runJobs_8 : decode cX4_runJobs 8 = .ok (.iload_n 1, 1) := by decide +kernel
theorem dX4_runJobs_9 : decode cX4_runJobs 9 = .ok (.if_icmp .ge 51, 3) := by decide +kernel
theorem dX4_runJobs_12 : decode cX4_runJobs 12 = .ok (.aload_n 0, 1) := by decide +kernel
theorem dX4_runJobs_13 : decode cX4_runJobs 13 = .ok (.iload_n 2, 1) := by decide +kernel
theorem dX4_runJobs_14 : decode cX4_runJobs 14 = .ok (.invokevirtual 38, 3) := by decide +kernel
theorem dX4_runJobs_17 : decode cX4_runJobs 17 = .ok (.iconst 0, 1) := by decide +kernel
theorem dX4_runJobs_18 : decode cX4_runJobs 18 = .ok (.istore_n 3, 1) := by decide +kernel
theorem dX4_runJobs_19 : decode cX4_runJobs 19 = .ok (.iload_n 3, 1) := by decide +kernel
theorem dX4_runJobs_20 : decode cX4_runJobs 20 = .ok (.bipush 6, 2) := by decide +kernel
theorem dX4_runJobs_22 : decode cX4_runJobs 22 = .ok (.if_icmp .ge 32, 3) := by decide +kernel
theorem dX4_runJobs_25 : decode cX4_runJobs 25 = .ok (.aload_n 0, 1) := by decide +kernel
theorem dX4_runJobs_26 : decode cX4_runJobs 26 = .ok (.getfield 28, 3) := by decide +kernel
theorem dX4_runJobs_29 : decode cX4_runJobs 29 = .ok (.iload_n 2, 1) := by decide +kernel
theorem dX4_runJobs_30 : decode cX4_runJobs 30 = .ok (.bipush 6, 2) := by decide +kernel
theorem dX4_runJobs_32 : decode cX4_runJobs 32 = .ok (.imul, 1) := by decide +kernel
theorem dX4_runJobs_33 : decode cX4_runJobs 33 = .ok (.iload_n 3, 1) := by decide +kernel
theorem dX4_runJobs_34 : decode cX4_runJobs 34 = .ok (.iadd, 1) := by decide +kernel
theorem dX4_runJobs_35 : decode cX4_runJobs 35 = .ok (.aload_n 0, 1) := by decide +kernel
theorem dX4_runJobs_36 : decode cX4_runJobs 36 = .ok (.iload_n 2, 1) := by decide +kernel
theorem dX4_runJobs_37 : decode cX4_runJobs 37 = .ok (.iload_n 3, 1) := by decide +kernel
theorem dX4_runJobs_38 : decode cX4_runJobs 38 = .ok (.aload_n 0, 1) := by decide +kernel
theorem dX4_runJobs_39 : decode cX4_runJobs 39 = .ok (.iload_n 2, 1) := by decide +kernel
theorem dX4_runJobs_40 : decode cX4_runJobs 40 = .ok (.iload_n 3, 1) := by decide +kernel
theorem dX4_runJobs_41 : decode cX4_runJobs 41 = .ok (.invokevirtual 42, 3) := by decide +kernel
theorem dX4_runJobs_44 : decode cX4_runJobs 44 = .ok (.invokevirtual 46, 3) := by decide +kernel
theorem dX4_runJobs_47 : decode cX4_runJobs 47 = .ok (.iastore, 1) := by decide +kernel
theorem dX4_runJobs_48 : decode cX4_runJobs 48 = .ok (.iinc 3 1, 3) := by decide +kernel
theorem dX4_runJobs_51 : decode cX4_runJobs 51 = .ok (.goto (-32), 3) := by decide +kernel
theorem dX4_runJobs_54 : decode cX4_runJobs 54 = .ok (.iinc 2 1, 3) := by decide +kernel
theorem dX4_runJobs_57 : decode cX4_runJobs 57 = .ok (.goto (-50), 3) := by decide +kernel
theorem dX4_runJobs_60 : decode cX4_runJobs 60 = .ok (.aload_n 0, 1) := by decide +kernel
theorem dX4_runJobs_61 : decode cX4_runJobs 61 = .ok (.iload_n 1, 1) := by decide +kernel
theorem dX4_runJobs_62 : decode cX4_runJobs 62 = .ok (.iconst 1, 1) := by decide +kernel
theorem dX4_runJobs_63 : decode cX4_runJobs 63 = .ok (.isub, 1) := by decide +kernel
theorem dX4_runJobs_64 : decode cX4_runJobs 64 = .ok (.invokevirtual 50, 3) := by decide +kernel
theorem dX4_runJobs_67 : decode cX4_runJobs 67 = .ok (.istore_n 2, 1) := by decide +kernel
theorem dX4_runJobs_68 : decode cX4_runJobs 68 = .ok (.aload_n 0, 1) := by decide +kernel
theorem dX4_runJobs_69 : decode cX4_runJobs 69 = .ok (.invokevirtual 54, 3) := by decide +kernel
theorem dX4_runJobs_72 : decode cX4_runJobs 72 = .ok (.iload_n 2, 1) := by decide +kernel
theorem dX4_runJobs_73 : decode cX4_runJobs 73 = .ok (.ireturn, 1) := by decide +kernel
theorem dX4_setWeights_0 : decode cX4_setWeights 0 = .ok (.iconst 1, 1) := by decide +kernel
theorem dX4_setWeights_1 : decode cX4_setWeights 1 = .ok (.istore_n 1, 1) := by decide +kernel
theorem dX4_setWeights_2 : decode cX4_setWeights 2 = .ok (.iconst 0, 1) := by decide +kernel
theorem dX4_setWeights_3 : decode cX4_setWeights 3 = .ok (.istore_n 2, 1) := by decide +kernel
theorem dX4_setWeights_4 : decode cX4_setWeights 4 = .ok (.iload_n 2, 1) := by decide +kernel
theorem dX4_setWeights_5 : decode cX4_setWeights 5 = .ok (.bipush 6, 2) := by decide +kernel
theorem dX4_setWeights_7 : decode cX4_setWeights 7 = .ok (.if_icmp .ge 27, 3) := by decide +kernel
theorem dX4_setWeights_10 : decode cX4_setWeights 10 = .ok (.aload_n 0, 1) := by decide +kernel
theorem dX4_setWeights_11 : decode cX4_setWeights 11 = .ok (.getfield 22, 3) := by decide +kernel
theorem dX4_setWeights_14 : decode cX4_setWeights 14 = .ok (.iload_n 2, 1) := by decide +kernel
theorem dX4_setWeights_15 : decode cX4_setWeights 15 = .ok (.iload_n 1, 1) := by decide +kernel
theorem dX4_setWeights_16 : decode cX4_setWeights 16 = .ok (.iastore, 1) := by decide +kernel
theorem dX4_setWeights_17 : decode cX4_setWeights 17 = .ok (.iload_n 1, 1) := by decide +kernel
theorem dX4_setWeights_18 : decode cX4_setWeights 18 = .ok (.aload_n 0, 1) := by decide +kernel
theorem dX4_setWeights_19 : decode cX4_setWeights 19 = .ok (.getfield 19, 3) := by decide +kernel
theorem dX4_setWeights_22 : decode cX4_setWeights 22 = .ok (.iload_n 2, 1) := by decide +kernel
theorem dX4_setWeights_23 : decode cX4_setWeights 23 = .ok (.iaload, 1) := by decide +kernel
theorem dX4_setWeights_24 : decode cX4_setWeights 24 = .ok (.iconst 1, 1) := by decide +kernel
theorem dX4_setWeights_25 : decode cX4_setWeights 25 = .ok (.iadd, 1) := by decide +kernel
theorem dX4_setWeights_26 : decode cX4_setWeights 26 = .ok (.imul, 1) := by decide +kernel
theorem dX4_setWeights_27 : decode cX4_setWeights 27 = .ok (.istore_n 1, 1) := by decide +kernel
theorem dX4_setWeights_28 : decode cX4_setWeights 28 = .ok (.iinc 2 1, 3) := by decide +kernel
theorem dX4_setWeights_31 : decode cX4_setWeights 31 = .ok (.goto (-27), 3) := by decide +kernel
theorem dX4_setWeights_34 : decode cX4_setWeights 34 = .ok (.iload_n 1, 1) := by decide +kernel
theorem dX4_setWeights_35 : decode cX4_setWeights 35 = .ok (.sipush 324, 3) := by decide +kernel
theorem dX4_setWeights_38 : decode cX4_setWeights 38 = .ok (.invokestatic 57, 3) := by decide +kernel
theorem dX4_setWeights_41 : decode cX4_setWeights 41 = .ok (.ireturn, 1) := by decide +kernel
theorem dX4_setLeft_0 : decode cX4_setLeft 0 = .ok (.iload_n 1, 1) := by decide +kernel
theorem dX4_setLeft_1 : decode cX4_setLeft 1 = .ok (.istore_n 2, 1) := by decide +kernel
theorem dX4_setLeft_2 : decode cX4_setLeft 2 = .ok (.iconst 5, 1) := by decide +kernel
theorem dX4_setLeft_3 : decode cX4_setLeft 3 = .ok (.istore_n 3, 1) := by decide +kernel
theorem dX4_setLeft_4 : decode cX4_setLeft 4 = .ok (.iload_n 3, 1) := by decide +kernel
theorem dX4_setLeft_5 : decode cX4_setLeft 5 = .ok (.ifCond .lt 56, 3) := by decide +kernel
theorem dX4_setLeft_8 : decode cX4_setLeft 8 = .ok (.iconst 0, 1) := by decide +kernel
theorem dX4_setLeft_9 : decode cX4_setLeft 9 = .ok (.istore 4, 2) := by decide +kernel
theorem dX4_setLeft_11 : decode cX4_setLeft 11 = .ok (.iload 4, 2) := by decide +kernel
theorem dX4_setLeft_13 : decode cX4_setLeft 13 = .ok (.aload_n 0, 1) := by decide +kernel
theorem dX4_setLeft_14 : decode cX4_setLeft 14 = .ok (.getfield 19, 3) := by decide +kernel
theorem dX4_setLeft_17 : decode cX4_setLeft 17 = .ok (.iload_n 3, 1) := by decide +kernel
theorem dX4_setLeft_18 : decode cX4_setLeft 18 = .ok (.iaload, 1) := by decide +kernel
theorem dX4_setLeft_19 : decode cX4_setLeft 19 = .ok (.if_icmp .ge 28, 3) := by decide +kernel
theorem dX4_setLeft_22 : decode cX4_setLeft 22 = .ok (.iload_n 2, 1) := by decide +kernel
theorem dX4_setLeft_23 : decode cX4_setLeft 23 = .ok (.aload_n 0, 1) := by decide +kernel
theorem dX4_setLeft_24 : decode cX4_setLeft 24 = .ok (.getfield 22, 3) := by decide +kernel
theorem dX4_setLeft_27 : decode cX4_setLeft 27 = .ok (.iload_n 3, 1) := by decide +kernel
theorem dX4_setLeft_28 : decode cX4_setLeft 28 = .ok (.iaload, 1) := by decide +kernel
theorem dX4_setLeft_29 : decode cX4_setLeft 29 = .ok (.if_icmp .lt 18, 3) := by decide +kernel
theorem dX4_setLeft_32 : decode cX4_setLeft 32 = .ok (.iload_n 2, 1) := by decide +kernel
theorem dX4_setLeft_33 : decode cX4_setLeft 33 = .ok (.aload_n 0, 1) := by decide +kernel
theorem dX4_setLeft_34 : decode cX4_setLeft 34 = .ok (.getfield 22, 3) := by decide +kernel
theorem dX4_setLeft_37 : decode cX4_setLeft 37 = .ok (.iload_n 3, 1) := by decide +kernel
theorem dX4_setLeft_38 : decode cX4_setLeft 38 = .ok (.iaload, 1) := by decide +kernel
theorem dX4_setLeft_39 : decode cX4_setLeft 39 = .ok (.isub, 1) := by decide +kernel
theorem dX4_setLeft_40 : decode cX4_setLeft 40 = .ok (.istore_n 2, 1) := by decide +kernel
theorem dX4_setLeft_41 : decode cX4_setLeft 41 = .ok (.iinc 4 1, 3) := by decide +kernel
theorem dX4_setLeft_44 : decode cX4_setLeft 44 = .ok (.goto (-33), 3) := by decide +kernel
theorem dX4_setLeft_47 : decode cX4_setLeft 47 = .ok (.aload_n 0, 1) := by decide +kernel
theorem dX4_setLeft_48 : decode cX4_setLeft 48 = .ok (.getfield 25, 3) := by decide +kernel
theorem dX4_setLeft_51 : decode cX4_setLeft 51 = .ok (.iload_n 3, 1) := by decide +kernel
theorem dX4_setLeft_52 : decode cX4_setLeft 52 = .ok (.iload 4, 2) := by decide +kernel
theorem dX4_setLeft_54 : decode cX4_setLeft 54 = .ok (.iastore, 1) := by decide +kernel
theorem dX4_setLeft_55 : decode cX4_setLeft 55 = .ok (.iinc 3 (-1), 3) := by decide +kernel
theorem dX4_setLeft_58 : decode cX4_setLeft 58 = .ok (.goto (-54), 3) := by decide +kernel
theorem dX4_setLeft_61 : decode cX4_setLeft 61 = .ok (.return_, 1) := by decide +kernel
set_option maxRecDepth 20000 in
theorem ggX4_bestNext_X4_costThrough : GoodIn wsX4_bestNext wsX4_costThrough := goodIn_r _ [6, 7, 8, 9, 10, 11, 12, 13, 14, 15, 16] (by decide +kernel) (by decide +kernel)
set_option maxRecDepth 20000 in
theorem gX4_bestNext_X4_costThrough : GoodIn wsX4_bestNext (wsV RX4 46 RX4 yX4_costThrough wsX4_costThrough) := goodIn_app (goodIn_of _ (by decide +kernel)) ggX4_bestNext_X4_costThrough
theorem dX4_bestNext_0 : decode cX4_bestNext 0 = .ok (.iconst (-1), 1) := by decide +kernel
theorem dX4_bestNext_1 : decode cX4_bestNext 1 = .ok (.istore_n 3, 1) := by decide +kernel
theorem dX4_bestNext_2 : decode cX4_bestNext 2 = .ok (.iconst 0, 1) := by decide +kernel
theorem dX4_bestNext_3 : decode cX4_bestNext 3 = .ok (.istore 4, 2) := by decide +kernel
theorem dX4_bestNext_5 : decode cX4_bestNext 5 = .ok (.iconst 0, 1) := by decide +kernel
theorem dX4_bestNext_6 : decode cX4_bestNext 6 = .ok (.istore 5, 2) := by decide +kernel
theorem dX4_bestNext_8 : decode cX4_bestNext 8 = .ok (.iload 5, 2) := by decide +kernel
theorem dX4_bestNext_10 : decode cX4_bestNext 10 = .ok (.bipush 6, 2) := by decide +kernel
theorem dX4_bestNext_12 : decode cX4_bestNext 12 = .ok (.if_icmp .ge 48, 3) := by decide +kernel
theorem dX4_bestNext_15 : decode cX4_bestNext 15 = .ok (.aload_n 0, 1) := by decide +kernel
theorem dX4_bestNext_16 : decode cX4_bestNext 16 = .ok (.getfield 25, 3) := by decide +kernel
theorem dX4_bestNext_19 : decode cX4_bestNext 19 = .ok (.iload 5, 2) := by decide +kernel
theorem dX4_bestNext_21 : decode cX4_bestNext 21 = .ok (.iaload, 1) := by decide +kernel
theorem dX4_bestNext_22 : decode cX4_bestNext 22 = .ok (.ifCond .le 32, 3) := by decide +kernel
theorem dX4_bestNext_25 : decode cX4_bestNext 25 = .ok (.aload_n 0, 1) := by decide +kernel
theorem dX4_bestNext_26 : decode cX4_bestNext 26 = .ok (.iload_n 1, 1) := by decide +kernel
theorem dX4_bestNext_27 : decode cX4_bestNext 27 = .ok (.iload_n 2, 1) := by decide +kernel
theorem dX4_bestNext_28 : decode cX4_bestNext 28 = .ok (.iload 5, 2) := by decide +kernel
theorem dX4_bestNext_30 : decode cX4_bestNext 30 = .ok (.invokevirtual 46, 3) := by decide +kernel
theorem dX4_bestNext_33 : decode cX4_bestNext 33 = .ok (.istore 6, 2) := by decide +kernel
theorem dX4_bestNext_35 : decode cX4_bestNext 35 = .ok (.iload_n 3, 1) := by decide +kernel
theorem dX4_bestNext_36 : decode cX4_bestNext 36 = .ok (.iconst (-1), 1) := by decide +kernel
theorem dX4_bestNext_37 : decode cX4_bestNext 37 = .ok (.if_icmp .eq 10, 3) := by decide +kernel
theorem dX4_bestNext_40 : decode cX4_bestNext 40 = .ok (.iload 6, 2) := by decide +kernel
theorem dX4_bestNext_42 : decode cX4_bestNext 42 = .ok (.iload 4, 2) := by decide +kernel
theorem dX4_bestNext_44 : decode cX4_bestNext 44 = .ok (.if_icmp .ge 10, 3) := by decide +kernel
theorem dX4_bestNext_47 : decode cX4_bestNext 47 = .ok (.iload 5, 2) := by decide +kernel
theorem dX4_bestNext_49 : decode cX4_bestNext 49 = .ok (.istore_n 3, 1) := by decide +kernel
theorem dX4_bestNext_50 : decode cX4_bestNext 50 = .ok (.iload 6, 2) := by decide +kernel
theorem dX4_bestNext_52 : decode cX4_bestNext 52 = .ok (.istore 4, 2) := by decide +kernel
theorem dX4_bestNext_54 : decode cX4_bestNext 54 = .ok (.iinc 5 1, 3) := by decide +kernel
theorem dX4_bestNext_57 : decode cX4_bestNext 57 = .ok (.goto (-49), 3) := by decide +kernel
theorem dX4_bestNext_60 : decode cX4_bestNext 60 = .ok (.iload_n 3, 1) := by decide +kernel
theorem dX4_bestNext_61 : decode cX4_bestNext 61 = .ok (.ireturn, 1) := by decide +kernel
theorem dX4_costThrough_0 : decode cX4_costThrough 0 = .ok (.iload_n 3, 1) := by decide +kernel
theorem dX4_costThrough_1 : decode cX4_costThrough 1 = .ok (.iconst (-1), 1) := by decide +kernel
theorem dX4_costThrough_2 : decode cX4_costThrough 2 = .ok (.if_icmp .ne 5, 3) := by decide +kernel
theorem dX4_costThrough_5 : decode cX4_costThrough 5 = .ok (.iconst 0, 1) := by decide +kernel
theorem dX4_costThrough_6 : decode cX4_costThrough 6 = .ok (.ireturn, 1) := by decide +kernel
theorem dX4_costThrough_7 : decode cX4_costThrough 7 = .ok (.aload_n 0, 1) := by decide +kernel
theorem dX4_costThrough_8 : decode cX4_costThrough 8 = .ok (.getfield 9, 3) := by decide +kernel
theorem dX4_costThrough_11 : decode cX4_costThrough 11 = .ok (.iload_n 2, 1) := by decide +kernel
theorem dX4_costThrough_12 : decode cX4_costThrough 12 = .ok (.bipush 6, 2) := by decide +kernel
theorem dX4_costThrough_14 : decode cX4_costThrough 14 = .ok (.imul, 1) := by decide +kernel
theorem dX4_costThrough_15 : decode cX4_costThrough 15 = .ok (.iload_n 3, 1) := by decide +kernel
theorem dX4_costThrough_16 : decode cX4_costThrough 16 = .ok (.iadd, 1) := by decide +kernel
theorem dX4_costThrough_17 : decode cX4_costThrough 17 = .ok (.iaload, 1) := by decide +kernel
theorem dX4_costThrough_18 : decode cX4_costThrough 18 = .ok (.aload_n 0, 1) := by decide +kernel
theorem dX4_costThrough_19 : decode cX4_costThrough 19 = .ok (.getfield 28, 3) := by decide +kernel
theorem dX4_costThrough_22 : decode cX4_costThrough 22 = .ok (.iload_n 1, 1) := by decide +kernel
theorem dX4_costThrough_23 : decode cX4_costThrough 23 = .ok (.aload_n 0, 1) := by decide +kernel
theorem dX4_costThrough_24 : decode cX4_costThrough 24 = .ok (.getfield 22, 3) := by decide +kernel
theorem dX4_costThrough_27 : decode cX4_costThrough 27 = .ok (.iload_n 3, 1) := by decide +kernel
theorem dX4_costThrough_28 : decode cX4_costThrough 28 = .ok (.iaload, 1) := by decide +kernel
theorem dX4_costThrough_29 : decode cX4_costThrough 29 = .ok (.isub, 1) := by decide +kernel
theorem dX4_costThrough_30 : decode cX4_costThrough 30 = .ok (.bipush 6, 2) := by decide +kernel
theorem dX4_costThrough_32 : decode cX4_costThrough 32 = .ok (.imul, 1) := by decide +kernel
theorem dX4_costThrough_33 : decode cX4_costThrough 33 = .ok (.iload_n 3, 1) := by decide +kernel
theorem dX4_costThrough_34 : decode cX4_costThrough 34 = .ok (.iadd, 1) := by decide +kernel
theorem dX4_costThrough_35 : decode cX4_costThrough 35 = .ok (.iaload, 1) := by decide +kernel
theorem dX4_costThrough_36 : decode cX4_costThrough 36 = .ok (.iadd, 1) := by decide +kernel
theorem dX4_costThrough_37 : decode cX4_costThrough 37 = .ok (.ireturn, 1) := by decide +kernel
set_option maxRecDepth 20000 in
theorem ggX4_walkBestOrder_X4_setLeft : GoodIn wsX4_walkBestOrder wsX4_setLeft := goodIn_r _ [9, 10, 4, 11, 21, 22, 23, 24, 25, 26, 27] (by decide +kernel) (by decide +kernel)
set_option maxRecDepth 20000 in
theorem gX4_walkBestOrder_X4_setLeft : GoodIn wsX4_walkBestOrder (wsV RX4 38 RX4 yX4_setLeft wsX4_setLeft) := goodIn_app (goodIn_of _ (by decide +kernel)) ggX4_walkBestOrder_X4_setLeft
set_option maxRecDepth 20000 in
theorem ggX4_walkBestOrder_X4_bestNext : GoodIn wsX4_walkBestOrder wsX4_bestNext := goodIn_r _ [15, 11, 16, 17, 18, 8, 19, 3, 20, 4, 21, 22, 23, 24, 25, 26, 27] (by decide +kernel) (by decide +kernel)
set_option maxRecDepth 20000 in
theorem gX4_walkBestOrder_X4_bestNext : GoodIn wsX4_walkBestOrder (wsV RX4 42 RX4 yX4_bestNext wsX4_bestNext) := goodIn_app (goodIn_of _ (by decide +kernel)) ggX4_walkBestOrder_X4_bestNext
theorem dX4_walkBestOrder_0 : decode cX4_walkBestOrder 0 = .ok (.iconst 0, 1) := by decide +kernel
theorem dX4_walkBestOrder_1 : decode cX4_walkBestOrder 1 = .ok (.istore_n 2, 1) := by decide +kernel
theorem dX4_walkBestOrder_2 : decode cX4_walkBestOrder 2 = .ok (.iload_n 1, 1) := by decide +kernel
theorem dX4_walkBestOrder_3 : decode cX4_walkBestOrder 3 = .ok (.istore_n 3, 1) := by decide +kernel
theorem dX4_walkBestOrder_4 : decode cX4_walkBestOrder 4 = .ok (.iconst 0, 1) := by decide +kernel
theorem dX4_walkBestOrder_5 : decode cX4_walkBestOrder 5 = .ok (.istore 4, 2) := by decide +kernel
theorem dX4_walkBestOrder_7 : decode cX4_walkBestOrder 7 = .ok (.iload 4, 2) := by decide +kernel
theorem dX4_walkBestOrder_9 : decode cX4_walkBestOrder 9 = .ok (.aload_n 0, 1) := by decide +kernel
theorem dX4_walkBestOrder_10 : decode cX4_walkBestOrder 10 = .ok (.getfield 31, 3) := by decide +kernel
theorem dX4_walkBestOrder_13 : decode cX4_walkBestOrder 13 = .ok (.if_icmp .ge 83, 3) := by decide +kernel
theorem dX4_walkBestOrder_16 : decode cX4_walkBestOrder 16 = .ok (.aload_n 0, 1) := by decide +kernel
theorem dX4_walkBestOrder_17 : decode cX4_walkBestOrder 17 = .ok (.iload_n 3, 1) := by decide +kernel
theorem dX4_walkBestOrder_18 : decode cX4_walkBestOrder 18 = .ok (.invokevirtual 38, 3) := by decide +kernel
theorem dX4_walkBestOrder_21 : decode cX4_walkBestOrder 21 = .ok (.aload_n 0, 1) := by decide +kernel
theorem dX4_walkBestOrder_22 : decode cX4_walkBestOrder 22 = .ok (.getfield 15, 3) := by decide +kernel
theorem dX4_walkBestOrder_25 : decode cX4_walkBestOrder 25 = .ok (.iconst (-1), 1) := by decide +kernel
theorem dX4_walkBestOrder_26 : decode cX4_walkBestOrder 26 = .ok (.if_icmp .ne 8, 3) := by decide +kernel
theorem dX4_walkBestOrder_29 : decode cX4_walkBestOrder 29 = .ok (.bipush 6, 2) := by decide +kernel
theorem dX4_walkBestOrder_31 : decode cX4_walkBestOrder 31 = .ok (.goto 7, 3) := by decide +kernel
theorem dX4_walkBestOrder_34 : decode cX4_walkBestOrder 34 = .ok (.aload_n 0, 1) := by decide +kernel
theorem dX4_walkBestOrder_35 : decode cX4_walkBestOrder 35 = .ok (.getfield 15, 3) := by decide +kernel
theorem dX4_walkBestOrder_38 : decode cX4_walkBestOrder 38 = .ok (.istore 5, 2) := by decide +kernel
theorem dX4_walkBestOrder_40 : decode cX4_walkBestOrder 40 = .ok (.aload_n 0, 1) := by decide +kernel
theorem dX4_walkBestOrder_41 : decode cX4_walkBestOrder 41 = .ok (.iload_n 3, 1) := by decide +kernel
theorem dX4_walkBestOrder_42 : decode cX4_walkBestOrder 42 = .ok (.iload 5, 2) := by decide +kernel
theorem dX4_walkBestOrder_44 : decode cX4_walkBestOrder 44 = .ok (.invokevirtual 42, 3) := by decide +kernel
theorem dX4_walkBestOrder_47 : decode cX4_walkBestOrder 47 = .ok (.istore 6, 2) := by decide +kernel
theorem dX4_walkBestOrder_49 : decode cX4_walkBestOrder 49 = .ok (.iload 6, 2) := by decide +kernel
theorem dX4_walkBestOrder_51 : decode cX4_walkBestOrder 51 = .ok (.iconst (-1), 1) := by decide +kernel
theorem dX4_walkBestOrder_52 : decode cX4_walkBestOrder 52 = .ok (.if_icmp .ne 6, 3) := by decide +kernel
theorem dX4_walkBestOrder_55 : decode cX4_walkBestOrder 55 = .ok (.goto 41, 3) := by decide +kernel
theorem dX4_walkBestOrder_58 : decode cX4_walkBestOrder 58 = .ok (.iload_n 2, 1) := by decide +kernel
theorem dX4_walkBestOrder_59 : decode cX4_walkBestOrder 59 = .ok (.aload_n 0, 1) := by decide +kernel
theorem dX4_walkBestOrder_60 : decode cX4_walkBestOrder 60 = .ok (.getfield 9, 3) := by decide +kernel
theorem dX4_walkBestOrder_63 : decode cX4_walkBestOrder 63 = .ok (.iload 5, 2) := by decide +kernel
theorem dX4_walkBestOrder_65 : decode cX4_walkBestOrder 65 = .ok (.bipush 6, 2) := by decide +kernel
theorem dX4_walkBestOrder_67 : decode cX4_walkBestOrder 67 = .ok (.imul, 1) := by decide +kernel
theorem dX4_walkBestOrder_68 : decode cX4_walkBestOrder 68 = .ok (.iload 6, 2) := by decide +kernel
theorem dX4_walkBestOrder_70 : decode cX4_walkBestOrder 70 = .ok (.iadd, 1) := by decide +kernel
theorem dX4_walkBestOrder_71 : decode cX4_walkBestOrder 71 = .ok (.iaload, 1) := by decide +kernel
theorem dX4_walkBestOrder_72 : decode cX4_walkBestOrder 72 = .ok (.iadd, 1) := by decide +kernel
theorem dX4_walkBestOrder_73 : decode cX4_walkBestOrder 73 = .ok (.istore_n 2, 1) := by decide +kernel
theorem dX4_walkBestOrder_74 : decode cX4_walkBestOrder 74 = .ok (.iload_n 3, 1) := by decide +kernel
theorem dX4_walkBestOrder_75 : decode cX4_walkBestOrder 75 = .ok (.aload_n 0, 1) := by decide +kernel
theorem dX4_walkBestOrder_76 : decode cX4_walkBestOrder 76 = .ok (.getfield 22, 3) := by decide +kernel
theorem dX4_walkBestOrder_79 : decode cX4_walkBestOrder 79 = .ok (.iload 6, 2) := by decide +kernel
theorem dX4_walkBestOrder_81 : decode cX4_walkBestOrder 81 = .ok (.iaload, 1) := by decide +kernel
theorem dX4_walkBestOrder_82 : decode cX4_walkBestOrder 82 = .ok (.isub, 1) := by decide +kernel
theorem dX4_walkBestOrder_83 : decode cX4_walkBestOrder 83 = .ok (.istore_n 3, 1) := by decide +kernel
theorem dX4_walkBestOrder_84 : decode cX4_walkBestOrder 84 = .ok (.aload_n 0, 1) := by decide +kernel
theorem dX4_walkBestOrder_85 : decode cX4_walkBestOrder 85 = .ok (.iload 6, 2) := by decide +kernel
theorem dX4_walkBestOrder_87 : decode cX4_walkBestOrder 87 = .ok (.putfield 15, 3) := by decide +kernel
theorem dX4_walkBestOrder_90 : decode cX4_walkBestOrder 90 = .ok (.iinc 4 1, 3) := by decide +kernel
theorem dX4_walkBestOrder_93 : decode cX4_walkBestOrder 93 = .ok (.goto (-86), 3) := by decide +kernel
theorem dX4_walkBestOrder_96 : decode cX4_walkBestOrder 96 = .ok (.iload_n 2, 1) := by decide +kernel
theorem dX4_walkBestOrder_97 : decode cX4_walkBestOrder 97 = .ok (.ireturn, 1) := by decide +kernel
theorem dX4_clearJobs_0 : decode cX4_clearJobs 0 = .ok (.aload_n 0, 1) := by decide +kernel
theorem dX4_clearJobs_1 : decode cX4_clearJobs 1 = .ok (.iconst 0, 1) := by decide +kernel
theorem dX4_clearJobs_2 : decode cX4_clearJobs 2 = .ok (.putfield 31, 3) := by decide +kernel
theorem dX4_clearJobs_5 : decode cX4_clearJobs 5 = .ok (.iconst 0, 1) := by decide +kernel
theorem dX4_clearJobs_6 : decode cX4_clearJobs 6 = .ok (.istore_n 1, 1) := by decide +kernel
theorem dX4_clearJobs_7 : decode cX4_clearJobs 7 = .ok (.iload_n 1, 1) := by decide +kernel
theorem dX4_clearJobs_8 : decode cX4_clearJobs 8 = .ok (.bipush 6, 2) := by decide +kernel
theorem dX4_clearJobs_10 : decode cX4_clearJobs 10 = .ok (.if_icmp .ge 16, 3) := by decide +kernel
theorem dX4_clearJobs_13 : decode cX4_clearJobs 13 = .ok (.aload_n 0, 1) := by decide +kernel
theorem dX4_clearJobs_14 : decode cX4_clearJobs 14 = .ok (.getfield 19, 3) := by decide +kernel
theorem dX4_clearJobs_17 : decode cX4_clearJobs 17 = .ok (.iload_n 1, 1) := by decide +kernel
theorem dX4_clearJobs_18 : decode cX4_clearJobs 18 = .ok (.iconst 0, 1) := by decide +kernel
theorem dX4_clearJobs_19 : decode cX4_clearJobs 19 = .ok (.iastore, 1) := by decide +kernel
theorem dX4_clearJobs_20 : decode cX4_clearJobs 20 = .ok (.iinc 1 1, 3) := by decide +kernel
theorem dX4_clearJobs_23 : decode cX4_clearJobs 23 = .ok (.goto (-16), 3) := by decide +kernel
theorem dX4_clearJobs_26 : decode cX4_clearJobs 26 = .ok (.return_, 1) := by decide +kernel
theorem dX5_init_0 : decode cX5_init 0 = .ok (.aload_n 0, 1) := by decide +kernel
theorem dX5_init_1 : decode cX5_init 1 = .ok (.invokespecial 3, 3) := by decide +kernel
theorem dX5_init_4 : decode cX5_init 4 = .ok (.aload_n 0, 1) := by decide +kernel
theorem dX5_init_5 : decode cX5_init 5 = .ok (.bipush 100, 2) := by decide +kernel
theorem dX5_init_7 : decode cX5_init 7 = .ok (.newarray .int, 2) := by decide +kernel
theorem dX5_init_9 : decode cX5_init 9 = .ok (.putfield 9, 3) := by decide +kernel
theorem dX5_init_12 : decode cX5_init 12 = .ok (.aload_n 0, 1) := by decide +kernel
theorem dX5_init_13 : decode cX5_init 13 = .ok (.bipush 100, 2) := by decide +kernel
theorem dX5_init_15 : decode cX5_init 15 = .ok (.newarray .boolean, 2) := by decide +kernel
theorem dX5_init_17 : decode cX5_init 17 = .ok (.putfield 15, 3) := by decide +kernel
theorem dX5_init_20 : decode cX5_init 20 = .ok (.aload_n 0, 1) := by decide +kernel
theorem dX5_init_21 : decode cX5_init 21 = .ok (.bipush 100, 2) := by decide +kernel
theorem dX5_init_23 : decode cX5_init 23 = .ok (.newarray .int, 2) := by decide +kernel
theorem dX5_init_25 : decode cX5_init 25 = .ok (.putfield 19, 3) := by decide +kernel
theorem dX5_init_28 : decode cX5_init 28 = .ok (.aload_n 0, 1) := by decide +kernel
theorem dX5_init_29 : decode cX5_init 29 = .ok (.bipush 100, 2) := by decide +kernel
theorem dX5_init_31 : decode cX5_init 31 = .ok (.newarray .int, 2) := by decide +kernel
theorem dX5_init_33 : decode cX5_init 33 = .ok (.putfield 22, 3) := by decide +kernel
theorem dX5_init_36 : decode cX5_init 36 = .ok (.return_, 1) := by decide +kernel
theorem dX5_add_0 : decode cX5_add 0 = .ok (.aload_n 0, 1) := by decide +kernel
theorem dX5_add_1 : decode cX5_add 1 = .ok (.getfield 25, 3) := by decide +kernel
theorem dX5_add_4 : decode cX5_add 4 = .ok (.istore_n 3, 1) := by decide +kernel
theorem dX5_add_5 : decode cX5_add 5 = .ok (.aload_n 0, 1) := by decide +kernel
theorem dX5_add_6 : decode cX5_add 6 = .ok (.getfield 9, 3) := by decide +kernel
theorem dX5_add_9 : decode cX5_add 9 = .ok (.iload_n 3, 1) := by decide +kernel
theorem dX5_add_10 : decode cX5_add 10 = .ok (.iload_n 1, 1) := by decide +kernel
theorem dX5_add_11 : decode cX5_add 11 = .ok (.iastore, 1) := by decide +kernel
theorem dX5_add_12 : decode cX5_add 12 = .ok (.aload_n 0, 1) := by decide +kernel
theorem dX5_add_13 : decode cX5_add 13 = .ok (.getfield 15, 3) := by decide +kernel
theorem dX5_add_16 : decode cX5_add 16 = .ok (.iload_n 3, 1) := by decide +kernel
theorem dX5_add_17 : decode cX5_add 17 = .ok (.iload_n 2, 1) := by decide +kernel
theorem dX5_add_18 : decode cX5_add 18 = .ok (.bastore, 1) := by decide +kernel
theorem dX5_add_19 : decode cX5_add 19 = .ok (.aload_n 0, 1) := by decide +kernel
theorem dX5_add_20 : decode cX5_add 20 = .ok (.getfield 19, 3) := by decide +kernel
theorem dX5_add_23 : decode cX5_add 23 = .ok (.iload_n 3, 1) := by decide +kernel
theorem dX5_add_24 : decode cX5_add 24 = .ok (.aload_n 0, 1) := by decide +kernel
theorem dX5_add_25 : decode cX5_add 25 = .ok (.getfield 29, 3) := by decide +kernel
theorem dX5_add_28 : decode cX5_add 28 = .ok (.iastore, 1) := by decide +kernel
theorem dX5_add_29 : decode cX5_add 29 = .ok (.aload_n 0, 1) := by decide +kernel
theorem dX5_add_30 : decode cX5_add 30 = .ok (.getfield 22, 3) := by decide +kernel
theorem dX5_add_33 : decode cX5_add 33 = .ok (.iload_n 3, 1) := by decide +kernel
theorem dX5_add_34 : decode cX5_add 34 = .ok (.iconst (-1), 1) := by decide +kernel
theorem dX5_add_35 : decode cX5_add 35 = .ok (.iastore, 1) := by decide +kernel
theorem dX5_add_36 : decode cX5_add 36 = .ok (.aload_n 0, 1) := by decide +kernel
theorem dX5_add_37 : decode cX5_add 37 = .ok (.dup, 1) := by decide +kernel
theorem dX5_add_38 : decode cX5_add 38 = .ok (.getfield 25, 3) := by decide +kernel
theorem dX5_add_41 : decode cX5_add 41 = .ok (.iconst 1, 1) := by decide +kernel
theorem dX5_add_42 : decode cX5_add 42 = .ok (.iadd, 1) := by decide +kernel
theorem dX5_add_43 : decode cX5_add 43 = .ok (.putfield 25, 3) := by decide +kernel
theorem dX5_add_46 : decode cX5_add 46 = .ok (.iload_n 3, 1) := by decide +kernel
theorem dX5_add_47 : decode cX5_add 47 = .ok (.ireturn, 1) := by decide +kernel
theorem dX5_takeBack_0 : decode cX5_takeBack 0 = .ok (.aload_n 0, 1) := by decide +kernel
theorem dX5_takeBack_1 : decode cX5_takeBack 1 = .ok (.getfield 22, 3) := by decide +kernel
theorem dX5_takeBack_4 : decode cX5_takeBack 4 = .ok (.iload_n 1, 1) := by decide +kernel
theorem dX5_takeBack_5 : decode cX5_takeBack 5 = .ok (.iaload, 1) := by decide +kernel
theorem dX5_takeBack_6 : decode cX5_takeBack 6 = .ok (.iconst (-1), 1) := by decide +kernel
theorem dX5_takeBack_7 : decode cX5_takeBack 7 = .ok (.if_icmp .eq 5, 3) := by decide +kernel
theorem dX5_takeBack_10 : decode cX5_takeBack 10 = .ok (.iconst 0, 1) := by decide +kernel
theorem dX5_takeBack_11 : decode cX5_takeBack 11 = .ok (.ireturn, 1) := by decide +kernel
theorem dX5_takeBack_12 : decode cX5_takeBack 12 = .ok (.aload_n 0, 1) := by decide +kernel
theorem dX5_takeBack_13 : decode cX5_takeBack 13 = .ok (.getfield 22, 3) := by decide +kernel
theorem dX5_takeBack_16 : decode cX5_takeBack 16 = .ok (.iload_n 1, 1) := by decide +kernel
theorem dX5_takeBack_17 : decode cX5_takeBack 17 = .ok (.aload_n 0, 1) := by decide +kernel
theorem dX5_takeBack_18 : decode cX5_takeBack 18 = .ok (.getfield 29, 3) := by decide +kernel
theorem dX5_takeBack_21 : decode cX5_takeBack 21 = .ok (.iastore, 1) := by decide +kernel
theorem dX5_takeBack_22 : decode cX5_takeBack 22 = .ok (.iconst 1, 1) := by decide +kernel
theorem dX5_takeBack_23 : decode cX5_takeBack 23 = .ok (.ireturn, 1) := by decide +kernel
set_option maxRecDepth 20000 in
theorem ggX5_batchesThat_X5_isKnown : GoodIn wsX5_batchesThat wsX5_isKnown := goodIn_r _ [8, 9, 10, 11, 12, 13, 14, 15, 16] (by decide +kernel) (by decide +kernel)
set_option maxRecDepth 20000 in
theorem gX5_batchesThat_X5_isKnown : GoodIn wsX5_batchesThat (wsV RX5 32 RX5 yX5_isKnown wsX5_isKnown) := goodIn_app (goodIn_of _ (by decide +kernel)) ggX5_batchesThat_X5_isKnown
theorem dX5_batchesThat_0 : decode cX5_batchesThat 0 = .ok (.lconst 0, 1) := by decide +kernel
theorem dX5_batchesThat_1 : decode cX5_batchesThat 1 = .ok (.lstore_n 3, 1) := by decide +kernel
theorem dX5_batchesThat_2 : decode cX5_batchesThat 2 = .ok (.iconst 0, 1) := by decide +kernel
theorem dX5_batchesThat_3 : decode cX5_batchesThat 3 = .ok (.istore 5, 2) := by decide +kernel
theorem dX5_batchesThat_5 : decode cX5_batchesThat 5 = .ok (.iload 5, 2) := by decide +kernel
theorem dX5_batchesThat_7 : decode cX5_batchesThat 7 = .ok (.aload_n 0, 1) := by decide +kernel
theorem dX5_batchesThat_8 : decode cX5_batchesThat 8 = .ok (.getfield 25, 3) := by decide +kernel
theorem dX5_batchesThat_11 : decode cX5_batchesThat 11 = .ok (.if_icmp .ge 42, 3) := by decide +kernel
theorem dX5_batchesThat_14 : decode cX5_batchesThat 14 = .ok (.aload_n 0, 1) := by decide +kernel
theorem dX5_batchesThat_15 : decode cX5_batchesThat 15 = .ok (.getfield 15, 3) := by decide +kernel
theorem dX5_batchesThat_18 : decode cX5_batchesThat 18 = .ok (.iload 5, 2) := by decide +kernel
theorem dX5_batchesThat_20 : decode cX5_batchesThat 20 = .ok (.baload, 1) := by decide +kernel
theorem dX5_batchesThat_21 : decode cX5_batchesThat 21 = .ok (.iload_n 1, 1) := by decide +kernel
theorem dX5_batchesThat_22 : decode cX5_batchesThat 22 = .ok (.if_icmp .ne 25, 3) := by decide +kernel
theorem dX5_batchesThat_25 : decode cX5_batchesThat 25 = .ok (.aload_n 0, 1) := by decide +kernel
theorem dX5_batchesThat_26 : decode cX5_batchesThat 26 = .ok (.iload 5, 2) := by decide +kernel
theorem dX5_batchesThat_28 : decode cX5_batchesThat 28 = .ok (.iload_n 2, 1) := by decide +kernel
theorem dX5_batchesThat_29 : decode cX5_batchesThat 29 = .ok (.invokevirtual 32, 3) := by decide +kernel
theorem dX5_batchesThat_32 : decode cX5_batchesThat 32 = .ok (.ifCond .eq 15, 3) := by decide +kernel
theorem dX5_batchesThat_35 : decode cX5_batchesThat 35 = .ok (.lload_n 3, 1) := by decide +kernel
theorem dX5_batchesThat_36 : decode cX5_batchesThat 36 = .ok (.lconst 1, 1) := by decide +kernel
theorem dX5_batchesThat_37 : decode cX5_batchesThat 37 = .ok (.aload_n 0, 1) := by decide +kernel
theorem dX5_batchesThat_38 : decode cX5_batchesThat 38 = .ok (.getfield 9, 3) := by decide +kernel
theorem dX5_batchesThat_41 : decode cX5_batchesThat 41 = .ok (.iload 5, 2) := by decide +kernel
theorem dX5_batchesThat_43 : decode cX5_batchesThat 43 = .ok (.iaload, 1) := by decide +kernel
theorem dX5_batchesThat_44 : decode cX5_batchesThat 44 = .ok (.lshl, 1) := by decide +kernel
theorem dX5_batchesThat_45 : decode cX5_batchesThat 45 = .ok (.lor, 1) := by decide +kernel
theorem dX5_batchesThat_46 : decode cX5_batchesThat 46 = .ok (.lstore_n 3, 1) := by decide +kernel
theorem dX5_batchesThat_47 : decode cX5_batchesThat 47 = .ok (.iinc 5 1, 3) := by decide +kernel
theorem dX5_batchesThat_50 : decode cX5_batchesThat 50 = .ok (.goto (-45), 3) := by decide +kernel
theorem dX5_batchesThat_53 : decode cX5_batchesThat 53 = .ok (.lload_n 3, 1) := by decide +kernel
theorem dX5_batchesThat_54 : decode cX5_batchesThat 54 = .ok (.lreturn, 1) := by decide +kernel
theorem dX5_isKnown_0 : decode cX5_isKnown 0 = .ok (.aload_n 0, 1) := by decide +kernel
theorem dX5_isKnown_1 : decode cX5_isKnown 1 = .ok (.getfield 19, 3) := by decide +kernel
theorem dX5_isKnown_4 : decode cX5_isKnown 4 = .ok (.iload_n 1, 1) := by decide +kernel
theorem dX5_isKnown_5 : decode cX5_isKnown 5 = .ok (.iaload, 1) := by decide +kernel
theorem dX5_isKnown_6 : decode cX5_isKnown 6 = .ok (.iload_n 2, 1) := by decide +kernel
theorem dX5_isKnown_7 : decode cX5_isKnown 7 = .ok (.if_icmp .gt 27, 3) := by decide +kernel
theorem dX5_isKnown_10 : decode cX5_isKnown 10 = .ok (.aload_n 0, 1) := by decide +kernel
theorem dX5_isKnown_11 : decode cX5_isKnown 11 = .ok (.getfield 22, 3) := by decide +kernel
theorem dX5_isKnown_14 : decode cX5_isKnown 14 = .ok (.iload_n 1, 1) := by decide +kernel
theorem dX5_isKnown_15 : decode cX5_isKnown 15 = .ok (.iaload, 1) := by decide +kernel
theorem dX5_isKnown_16 : decode cX5_isKnown 16 = .ok (.iconst (-1), 1) := by decide +kernel
theorem dX5_isKnown_17 : decode cX5_isKnown 17 = .ok (.if_icmp .eq 13, 3) := by decide +kernel
theorem dX5_isKnown_20 : decode cX5_isKnown 20 = .ok (.iload_n 2, 1) := by decide +kernel
theorem dX5_isKnown_21 : decode cX5_isKnown 21 = .ok (.aload_n 0, 1) := by decide +kernel
theorem dX5_isKnown_22 : decode cX5_isKnown 22 = .ok (.getfield 22, 3) := by decide +kernel
theorem dX5_isKnown_25 : decode cX5_isKnown 25 = .ok (.iload_n 1, 1) := by decide +kernel
theorem dX5_isKnown_26 : decode cX5_isKnown 26 = .ok (.iaload, 1) := by decide +kernel
theorem dX5_isKnown_27 : decode cX5_isKnown 27 = .ok (.if_icmp .ge 7, 3) := by decide +kernel
theorem dX5_isKnown_30 : decode cX5_isKnown 30 = .ok (.iconst 1, 1) := by decide +kernel
theorem dX5_isKnown_31 : decode cX5_isKnown 31 = .ok (.goto 4, 3) := by decide +kernel
theorem dX5_isKnown_34 : decode cX5_isKnown 34 = .ok (.iconst 0, 1) := by decide +kernel
theorem dX5_isKnown_35 : decode cX5_isKnown 35 = .ok (.ireturn, 1) := by decide +kernel
