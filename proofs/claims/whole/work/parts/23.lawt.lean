set_option maxRecDepth 20000 in
theorem wi_wsL_law0_r1 : ∀ w ∈ wsL_law0_r1, w ∈ lw_tbl := fun w h => (goodIn_r wsL_law0_r1 [51, 52, 34, 732, 733, 41, 1022, 53, 54, 55, 56, 57, 58, 59, 60, 35, 279, 121, 122, 36, 280, 165, 166, 37] rfl (by decide +kernel) w h).1
set_option maxRecDepth 20000 in
theorem wi_wsL_law0_r2 : ∀ w ∈ wsL_law0_r2, w ∈ lw_tbl := fun w h => (goodIn_r wsL_law0_r2 [281, 193, 194, 38, 282, 218, 219, 39, 283, 248, 249, 40, 284, 62, 63, 64, 120, 65, 66, 67, 68, 72, 74, 80] rfl (by decide +kernel) w h).1
set_option maxRecDepth 20000 in
theorem wi_wsL_law0_r3 : ∀ w ∈ wsL_law0_r3, w ∈ lw_tbl := fun w h => (goodIn_r wsL_law0_r3 [83, 84, 85, 86, 124, 125, 126, 127, 129, 131, 133, 135, 139, 168, 169, 170, 171, 192, 172, 173, 174, 196, 197, 198] rfl (by decide +kernel) w h).1
set_option maxRecDepth 20000 in
theorem wi_wsL_law0_r4 : ∀ w ∈ wsL_law0_r4, w ∈ lw_tbl := fun w h => (goodIn_r wsL_law0_r4 [205, 221, 222, 223, 224, 227, 228, 229, 232, 251, 252, 253, 254, 258, 260, 261, 262, 263, 734, 735, 736, 737, 740, 741] rfl (by decide +kernel) w h).1
set_option maxRecDepth 20000 in
theorem wi_wsL_law0_r5 : ∀ w ∈ wsL_law0_r5, w ∈ lw_tbl := fun w h => (goodIn_r wsL_law0_r5 [742, 743, 745, 746, 750, 751, 752, 753, 754, 756, 759, 760, 761, 762, 767, 768, 769, 770, 771, 773, 774, 775, 776, 778] rfl (by decide +kernel) w h).1
set_option maxRecDepth 20000 in
theorem wi_wsL_law0_r6 : ∀ w ∈ wsL_law0_r6, w ∈ lw_tbl := fun w h => (goodIn_r wsL_law0_r6 [779, 354, 355, 33, 356, 357, 358, 359, 360, 361, 362, 369, 45, 438, 46, 71, 363, 364, 365, 366, 367, 368, 454, 455] rfl (by decide +kernel) w h).1
set_option maxRecDepth 20000 in
theorem wi_wsL_law0_r7 : ∀ w ∈ wsL_law0_r7, w ∈ lw_tbl := fun w h => (goodIn_r wsL_law0_r7 [456, 457, 70, 869, 870, 871, 872, 738, 744, 873, 874, 875, 876, 878, 20, 879, 865, 866, 867, 868, 458, 459, 460, 461] rfl (by decide +kernel) w h).1
set_option maxRecDepth 20000 in
theorem wi_wsL_law0_r8 : ∀ w ∈ wsL_law0_r8, w ∈ lw_tbl := fun w h => (goodIn_r wsL_law0_r8 [462, 463, 464, 465, 469, 47, 69, 466, 467, 468, 880, 881, 882, 883, 884, 886, 21, 887, 486, 487, 488, 489, 490, 491] rfl (by decide +kernel) w h).1
set_option maxRecDepth 20000 in
theorem wi_wsL_law0_r9 : ∀ w ∈ wsL_law0_r9, w ∈ lw_tbl := fun w h => (goodIn_r wsL_law0_r9 [492, 75, 494, 495, 496, 497, 81, 82, 498, 500, 8, 501, 502, 315, 48, 316, 503, 504, 505, 506, 508, 9, 509, 510] rfl (by decide +kernel) w h).1
set_option maxRecDepth 20000 in
theorem wi_wsL_law0_r10 : ∀ w ∈ wsL_law0_r10, w ∈ lw_tbl := fun w h => (goodIn_r wsL_law0_r10 [512, 10, 513, 514, 516, 11, 517, 77, 79, 518, 520, 12, 521, 888, 889, 890, 891, 892, 893, 894, 895, 897, 22, 898] rfl (by decide +kernel) w h).1
set_option maxRecDepth 20000 in
theorem wi_wsL_law0_r11 : ∀ w ∈ wsL_law0_r11, w ∈ lw_tbl := fun w h => (goodIn_r wsL_law0_r11 [747, 899, 901, 23, 902, 748, 749, 522, 523, 524, 525, 526, 527, 528, 73, 903, 904, 905, 906, 529, 530, 531, 532, 533] rfl (by decide +kernel) w h).1
set_option maxRecDepth 20000 in
theorem wi_wsL_law0_r12 : ∀ w ∈ wsL_law0_r12, w ∈ lw_tbl := fun w h => (goodIn_r wsL_law0_r12 [534, 535, 138, 76, 78, 536, 537, 538, 539, 540, 541, 542, 543, 137, 907, 908, 909, 910, 755, 911, 913, 24, 914, 544] rfl (by decide +kernel) w h).1
set_option maxRecDepth 20000 in
theorem wi_wsL_law0_r13 : ∀ w ∈ wsL_law0_r13, w ∈ lw_tbl := fun w h => (goodIn_r wsL_law0_r13 [545, 546, 547, 548, 549, 550, 915, 916, 917, 918, 553, 554, 555, 556, 557, 558, 559, 143, 561, 562, 563, 564, 566, 567] rfl (by decide +kernel) w h).1
set_option maxRecDepth 20000 in
theorem wi_wsL_law0_r14 : ∀ w ∈ wsL_law0_r14, w ∈ lw_tbl := fun w h => (goodIn_r wsL_law0_r14 [568, 569, 570, 571, 572, 573, 144, 142, 574, 576, 13, 577, 919, 920, 921, 922, 757, 758, 923, 925, 25, 926, 927, 929] rfl (by decide +kernel) w h).1
set_option maxRecDepth 20000 in
theorem wi_wsL_law0_r15 : ∀ w ∈ wsL_law0_r15, w ∈ lw_tbl := fun w h => (goodIn_r wsL_law0_r15 [26, 930, 578, 579, 580, 581, 582, 583, 584, 585, 598, 49, 128, 130, 132, 134, 136, 178, 586, 587, 588, 589, 175, 590] rfl (by decide +kernel) w h).1
set_option maxRecDepth 20000 in
theorem wi_wsL_law0_r16 : ∀ w ∈ wsL_law0_r16, w ∈ lw_tbl := fun w h => (goodIn_r wsL_law0_r16 [592, 14, 593, 594, 595, 596, 597, 962, 963, 964, 965, 739, 952, 954, 28, 955, 763, 614, 615, 616, 617, 618, 619, 620] rfl (by decide +kernel) w h).1
set_option maxRecDepth 20000 in
theorem wi_wsL_law0_r17 : ∀ w ∈ wsL_law0_r17, w ∈ lw_tbl := fun w h => (goodIn_r wsL_law0_r17 [176, 622, 623, 624, 625, 177, 931, 932, 933, 934, 626, 627, 628, 629, 630, 631, 632, 634, 635, 636, 637, 935, 936, 937] rfl (by decide +kernel) w h).1
set_option maxRecDepth 20000 in
theorem wi_wsL_law0_r18 : ∀ w ∈ wsL_law0_r18, w ∈ lw_tbl := fun w h => (goodIn_r wsL_law0_r18 [938, 638, 639, 640, 641, 642, 643, 644, 646, 939, 940, 941, 942, 943, 647, 648, 649, 650, 651, 652, 653, 200, 202, 204] rfl (by decide +kernel) w h).1
set_option maxRecDepth 20000 in
theorem wi_wsL_law0_r19 : ∀ w ∈ wsL_law0_r19, w ∈ lw_tbl := fun w h => (goodIn_r wsL_law0_r19 [654, 655, 656, 657, 199, 201, 203, 658, 659, 660, 661, 662, 664, 15, 665, 206, 141, 140, 666, 668, 16, 669, 670, 672] rfl (by decide +kernel) w h).1
set_option maxRecDepth 20000 in
theorem wi_wsL_law0_r20 : ∀ w ∈ wsL_law0_r20, w ∈ lw_tbl := fun w h => (goodIn_r wsL_law0_r20 [17, 673, 674, 676, 18, 677, 678, 680, 19, 681, 944, 945, 946, 947, 764, 765, 766, 948, 950, 27, 951, 956, 957, 50] rfl (by decide +kernel) w h).1
set_option maxRecDepth 20000 in
theorem wi_wsL_law0_r21 : ∀ w ∈ wsL_law0_r21, w ∈ lw_tbl := fun w h => (goodIn_r wsL_law0_r21 [958, 959, 960, 961, 682, 683, 684, 685, 686, 687, 688, 690, 691, 692, 693, 225, 966, 967, 968, 969, 970, 972, 29, 973] rfl (by decide +kernel) w h).1
set_option maxRecDepth 20000 in
theorem wi_wsL_law0_r22 : ∀ w ∈ wsL_law0_r22, w ∈ lw_tbl := fun w h => (goodIn_r wsL_law0_r22 [694, 695, 696, 697, 698, 699, 700, 231, 701, 702, 703, 704, 230, 974, 975, 976, 977, 772, 298, 299, 300, 301, 978, 979] rfl (by decide +kernel) w h).1
set_option maxRecDepth 20000 in
theorem wi_wsL_law0_r23 : ∀ w ∈ wsL_law0_r23, w ∈ lw_tbl := fun w h => (goodIn_r wsL_law0_r23 [980, 981, 302, 303, 304, 305, 306, 307, 308, 309, 310, 312, 0, 313, 314, 982, 983, 984, 985, 986, 988, 30, 989, 705] rfl (by decide +kernel) w h).1
set_option maxRecDepth 20000 in
theorem wi_wsL_law0_r24 : ∀ w ∈ wsL_law0_r24, w ∈ lw_tbl := fun w h => (goodIn_r wsL_law0_r24 [706, 707, 708, 709, 710, 711, 255, 990, 991, 992, 993, 994, 995, 996, 714, 715, 716, 717, 718, 719, 720, 257, 721, 722] rfl (by decide +kernel) w h).1
set_option maxRecDepth 20000 in
theorem wi_wsL_law0_r25 : ∀ w ∈ wsL_law0_r25, w ∈ lw_tbl := fun w h => (goodIn_r wsL_law0_r25 [723, 724, 256, 997, 998, 999, 1000, 777, 725, 726, 727, 728, 729, 730, 731, 259, 1001, 1002, 1003, 1004, 317, 318, 319, 320] rfl (by decide +kernel) w h).1
set_option maxRecDepth 20000 in
theorem wi_wsL_law0_r26 : ∀ w ∈ wsL_law0_r26, w ∈ lw_tbl := fun w h => (goodIn_r wsL_law0_r26 [321, 322, 323, 324, 325, 327, 1, 328, 329, 330, 332, 2, 333, 334, 336, 3, 337, 338, 340, 4, 341, 342, 344, 5] rfl (by decide +kernel) w h).1
set_option maxRecDepth 20000 in
theorem wi_wsL_law0_r27 : ∀ w ∈ wsL_law0_r27, w ∈ lw_tbl := fun w h => (goodIn_r wsL_law0_r27 [345, 346, 348, 6, 349, 1005, 1006, 1007, 1008, 1009, 1010, 1012, 31, 1013, 1014, 1016, 32, 1017, 350, 351, 352, 353, 145, 226] rfl (by decide +kernel) w h).1
set_option maxRecDepth 20000 in
theorem wi_wsL_law0_r28 : ∀ w ∈ wsL_law0_r28, w ∈ lw_tbl := fun w h => (goodIn_r wsL_law0_r28 [1018, 1019, 1020, 1021] rfl (by decide +kernel) w h).1
set_option maxRecDepth 20000 in
theorem wi_wsX60 : ∀ w ∈ wsX60, w ∈ lw_tbl := fun w h => (goodIn_r wsX60 [285, 287, 289, 291, 293, 295] rfl (by decide +kernel) w h).1
set_option maxRecDepth 20000 in
theorem wi_wsX70 : ∀ w ∈ wsX70, w ∈ lw_tbl := fun w h => (goodIn_r wsX70 [780, 782, 784, 786, 788, 790, 792, 794, 796, 798, 800, 802, 804, 806, 808, 810, 812, 814, 816, 818, 820, 822, 824, 826, 828, 830, 832, 834, 836, 838, 840, 842, 844, 846, 848, 850, 852, 854, 856, 858, 860, 862] rfl (by decide +kernel) w h).1
set_option maxRecDepth 20000 in
theorem wi_wsX10 : ∀ w ∈ wsX10, w ∈ lw_tbl := fun w h => (goodIn_r wsX10 [87, 89, 91, 93, 95, 97, 99, 101, 103, 105, 107, 109, 111, 113, 115, 117] rfl (by decide +kernel) w h).1
set_option maxRecDepth 20000 in
theorem wi_wsX30 : ∀ w ∈ wsX30, w ∈ lw_tbl := fun w h => (goodIn_r wsX30 [146, 148, 150, 152, 154, 156, 158, 160, 162] rfl (by decide +kernel) w h).1
set_option maxRecDepth 20000 in
theorem wi_wsX50 : ∀ w ∈ wsX50, w ∈ lw_tbl := fun w h => (goodIn_r wsX50 [179, 181, 183, 185, 187, 189] rfl (by decide +kernel) w h).1
set_option maxRecDepth 20000 in
theorem wi_wsX00 : ∀ w ∈ wsX00, w ∈ lw_tbl := fun w h => (goodIn_r wsX00 [207, 209, 211, 213, 215] rfl (by decide +kernel) w h).1
set_option maxRecDepth 20000 in
theorem wi_wsX20 : ∀ w ∈ wsX20, w ∈ lw_tbl := fun w h => (goodIn_r wsX20 [233, 235, 237, 239, 241, 243, 245] rfl (by decide +kernel) w h).1
set_option maxRecDepth 20000 in
theorem wi_wsX40 : ∀ w ∈ wsX40, w ∈ lw_tbl := fun w h => (goodIn_r wsX40 [264, 266, 268, 270, 272, 274, 276] rfl (by decide +kernel) w h).1
theorem wsL_law_in0 : ∀ w ∈ wsL_law0, w ∈ lw_tbl := (List.forall_mem_append.mpr ⟨(List.forall_mem_append.mpr ⟨(List.forall_mem_append.mpr ⟨(List.forall_mem_append.mpr ⟨(List.forall_mem_append.mpr ⟨(List.forall_mem_append.mpr ⟨(List.forall_mem_append.mpr ⟨(List.forall_mem_append.mpr ⟨(List.forall_mem_append.mpr ⟨(List.forall_mem_append.mpr ⟨wi_wsL_law0_r1, (List.forall_mem_append.mpr ⟨wi_wsL_law0_r2, (List.forall_mem_append.mpr ⟨wi_wsL_law0_r3, (List.forall_mem_append.mpr ⟨wi_wsL_law0_r4, (List.forall_mem_append.mpr ⟨wi_wsL_law0_r5, (List.forall_mem_append.mpr ⟨wi_wsL_law0_r6, (List.forall_mem_append.mpr ⟨wi_wsL_law0_r7, (List.forall_mem_append.mpr ⟨wi_wsL_law0_r8, (List.forall_mem_append.mpr ⟨wi_wsL_law0_r9, (List.forall_mem_append.mpr ⟨wi_wsL_law0_r10, (List.forall_mem_append.mpr ⟨wi_wsL_law0_r11, (List.forall_mem_append.mpr ⟨wi_wsL_law0_r12, (List.forall_mem_append.mpr ⟨wi_wsL_law0_r13, (List.forall_mem_append.mpr ⟨wi_wsL_law0_r14, (List.forall_mem_append.mpr ⟨wi_wsL_law0_r15, (List.forall_mem_append.mpr ⟨wi_wsL_law0_r16, (List.forall_mem_append.mpr ⟨wi_wsL_law0_r17, (List.forall_mem_append.mpr ⟨wi_wsL_law0_r18, (List.forall_mem_append.mpr ⟨wi_wsL_law0_r19, (List.forall_mem_append.mpr ⟨wi_wsL_law0_r20, (List.forall_mem_append.mpr ⟨wi_wsL_law0_r21, (List.forall_mem_append.mpr ⟨wi_wsL_law0_r22, (List.forall_mem_append.mpr ⟨wi_wsL_law0_r23, (List.forall_mem_append.mpr ⟨wi_wsL_law0_r24, (List.forall_mem_append.mpr ⟨wi_wsL_law0_r25, (List.forall_mem_append.mpr ⟨wi_wsL_law0_r26, (List.forall_mem_append.mpr ⟨wi_wsL_law0_r27, wi_wsL_law0_r28⟩)⟩)⟩)⟩)⟩)⟩)⟩)⟩)⟩)⟩)⟩)⟩)⟩)⟩)⟩)⟩)⟩)⟩)⟩)⟩)⟩)⟩)⟩)⟩)⟩)⟩)⟩), wi_wsX60⟩), wi_wsX70⟩), wi_wsX10⟩), wi_wsX30⟩), wi_wsX50⟩), wi_wsX00⟩), wi_wsX20⟩), wi_wsX40⟩), (fun _ h => absurd h List.not_mem_nil)⟩)
set_option maxRecDepth 20000 in
theorem wsL_law_x0 : ∀ w ∈ (vx_atS RX6 63 "java/lang/IllegalArgumentException" ["java/lang/RuntimeException", "java/lang/Exception"]).filter goodWord, w ∈ lw_tbl := by decide +kernel
set_option maxRecDepth 20000 in
theorem wsL_law_x1 : ∀ w ∈ (vx_atS RX6 74 "java/lang/UnsupportedOperationException" ["java/lang/RuntimeException", "java/lang/Exception"]).filter goodWord, w ∈ lw_tbl := by decide +kernel
set_option maxRecDepth 20000 in
theorem wsL_law_x2 : ∀ w ∈ (vx_atS RX6 86 "java/lang/IndexOutOfBoundsException" ["java/lang/RuntimeException", "java/lang/Exception"]).filter goodWord, w ∈ lw_tbl := by decide +kernel
set_option maxRecDepth 20000 in
theorem wsL_law_x3 : ∀ w ∈ (zv_at13 RX6 167).filter goodWord, w ∈ lw_tbl := by decide +kernel
set_option maxRecDepth 20000 in
theorem wsL_law_in : ∀ w ∈ wsL_law, w ∈ lw_tbl := fun w h => (List.mem_append.mp h).elim (fun h => (List.mem_append.mp h).elim (fun h => (List.mem_append.mp h).elim (fun h => (List.mem_append.mp h).elim (fun h => wsL_law_in0 w h) (fun h => wsL_law_x0 w h)) (fun h => wsL_law_x1 w h)) (fun h => wsL_law_x2 w h)) (fun h => wsL_law_x3 w h)
theorem inlX0 : ∀ w ∈ wsX00, w ∈ wsL_law := fun _ h => List.mem_append_left _ (List.mem_append_left _ (List.mem_append_left _ (List.mem_append_left _ (List.mem_append_left _ (List.mem_append_left _ (List.mem_append_left _ (List.mem_append_right _ h)))))))
theorem inX0 : ∀ w ∈ wsX00, w ∈ lw_tbl := fun w h => wsL_law_in w (inlX0 w h)
theorem gB_X0 : GoodIn wsL_law wsX00 := goodIn_sub inlX0 (by decide +kernel)
theorem inlX1 : ∀ w ∈ wsX10, w ∈ wsL_law := fun _ h => List.mem_append_left _ (List.mem_append_left _ (List.mem_append_left _ (List.mem_append_left _ (List.mem_append_left _ (List.mem_append_left _ (List.mem_append_left _ (List.mem_append_left _ (List.mem_append_left _ (List.mem_append_left _ (List.mem_append_right _ h))))))))))
theorem inX1 : ∀ w ∈ wsX10, w ∈ lw_tbl := fun w h => wsL_law_in w (inlX1 w h)
theorem gB_X1 : GoodIn wsL_law wsX10 := goodIn_sub inlX1 (by decide +kernel)
theorem inlX2 : ∀ w ∈ wsX20, w ∈ wsL_law := fun _ h => List.mem_append_left _ (List.mem_append_left _ (List.mem_append_left _ (List.mem_append_left _ (List.mem_append_left _ (List.mem_append_left _ (List.mem_append_right _ h))))))
theorem inX2 : ∀ w ∈ wsX20, w ∈ lw_tbl := fun w h => wsL_law_in w (inlX2 w h)
theorem gB_X2 : GoodIn wsL_law wsX20 := goodIn_sub inlX2 (by decide +kernel)
theorem inlX3 : ∀ w ∈ wsX30, w ∈ wsL_law := fun _ h => List.mem_append_left _ (List.mem_append_left _ (List.mem_append_left _ (List.mem_append_left _ (List.mem_append_left _ (List.mem_append_left _ (List.mem_append_left _ (List.mem_append_left _ (List.mem_append_left _ (List.mem_append_right _ h)))))))))
theorem inX3 : ∀ w ∈ wsX30, w ∈ lw_tbl := fun w h => wsL_law_in w (inlX3 w h)
theorem gB_X3 : GoodIn wsL_law wsX30 := goodIn_sub inlX3 (by decide +kernel)
theorem inlX4 : ∀ w ∈ wsX40, w ∈ wsL_law := fun _ h => List.mem_append_left _ (List.mem_append_left _ (List.mem_append_left _ (List.mem_append_left _ (List.mem_append_left _ (List.mem_append_right _ h)))))
theorem inX4 : ∀ w ∈ wsX40, w ∈ lw_tbl := fun w h => wsL_law_in w (inlX4 w h)
theorem gB_X4 : GoodIn wsL_law wsX40 := goodIn_sub inlX4 (by decide +kernel)
theorem inlX5 : ∀ w ∈ wsX50, w ∈ wsL_law := fun _ h => List.mem_append_left _ (List.mem_append_left _ (List.mem_append_left _ (List.mem_append_left _ (List.mem_append_left _ (List.mem_append_left _ (List.mem_append_left _ (List.mem_append_left _ (List.mem_append_right _ h))))))))
theorem inX5 : ∀ w ∈ wsX50, w ∈ lw_tbl := fun w h => wsL_law_in w (inlX5 w h)
theorem gB_X5 : GoodIn wsL_law wsX50 := goodIn_sub inlX5 (by decide +kernel)
theorem inlX6 : ∀ w ∈ wsX60, w ∈ wsL_law := fun _ h => List.mem_append_left _ (List.mem_append_left _ (List.mem_append_left _ (List.mem_append_left _ (List.mem_append_left _ (List.mem_append_left _ (List.mem_append_left _ (List.mem_append_left _ (List.mem_append_left _ (List.mem_append_left _ (List.mem_append_left _ (List.mem_append_left _ (List.mem_append_right _ h))))))))))))
theorem inX6 : ∀ w ∈ wsX60, w ∈ lw_tbl := fun w h => wsL_law_in w (inlX6 w h)
theorem gB_X6 : GoodIn wsL_law wsX60 := goodIn_sub inlX6 (by decide +kernel)
theorem inlX7 : ∀ w ∈ wsX70, w ∈ wsL_law := fun _ h => List.mem_append_left _ (List.mem_append_left _ (List.mem_append_left _ (List.mem_append_left _ (List.mem_append_left _ (List.mem_append_left _ (List.mem_append_left _ (List.mem_append_left _ (List.mem_append_left _ (List.mem_append_left _ (List.mem_append_left _ (List.mem_append_right _ h)))))))))))
theorem inX7 : ∀ w ∈ wsX70, w ∈ lw_tbl := fun w h => wsL_law_in w (inlX7 w h)
theorem gB_X7 : GoodIn wsL_law wsX70 := goodIn_sub inlX7 (by decide +kernel)
theorem gB_63 : GoodIn wsL_law ((vx_atS RX6 63 "java/lang/IllegalArgumentException" ["java/lang/RuntimeException", "java/lang/Exception"]).filter goodWord) := goodIn_sub (fun _ h => List.mem_append_left _ (List.mem_append_left _ (List.mem_append_left _ (List.mem_append_right _ h)))) (by decide +kernel)
theorem gB_74 : GoodIn wsL_law ((vx_atS RX6 74 "java/lang/UnsupportedOperationException" ["java/lang/RuntimeException", "java/lang/Exception"]).filter goodWord) := goodIn_sub (fun _ h => List.mem_append_left _ (List.mem_append_left _ (List.mem_append_right _ h))) (by decide +kernel)
theorem gB_86 : GoodIn wsL_law ((vx_atS RX6 86 "java/lang/IndexOutOfBoundsException" ["java/lang/RuntimeException", "java/lang/Exception"]).filter goodWord) := goodIn_sub (fun _ h => List.mem_append_left _ (List.mem_append_right _ h)) (by decide +kernel)
theorem gB_167 : GoodIn wsL_law ((zv_at13 RX6 167).filter goodWord) := goodIn_sub (fun _ h => List.mem_append_right _ h) (by decide +kernel)
