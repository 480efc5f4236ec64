theorem dX7_days_2 : decode cX7_days 2 = .ok (.putfield 93, 3) := by decide +kernel
theorem dX7_days_5 : decode cX7_days 5 = .ok (.aload_n 0, 1) := by decide +kernel
theorem dX7_days_6 : decode cX7_days 6 = .ok (.iload_n 1, 1) := by decide +kernel
theorem dX7_days_7 : decode cX7_days 7 = .ok (.iconst 0, 1) := by decide +kernel
theorem dX7_days_8 : decode cX7_days 8 = .ok (.bipush 100, 2) := by decide +kernel
theorem dX7_days_10 : decode cX7_days 10 = .ok (.invokestatic 96, 3) := by decide +kernel
theorem dX7_days_13 : decode cX7_days 13 = .ok (.ifCond .ne 7, 3) := by decide +kernel
theorem dX7_days_16 : decode cX7_days 16 = .ok (.iconst 1, 1) := by decide +kernel
theorem dX7_days_17 : decode cX7_days 17 = .ok (.goto 4, 3) := by decide +kernel
theorem dX7_days_20 : decode cX7_days 20 = .ok (.iconst 0, 1) := by decide +kernel
theorem dX7_days_21 : decode cX7_days 21 = .ok (.iconst 1, 1) := by decide +kernel
theorem dX7_days_22 : decode cX7_days 22 = .ok (.invokevirtual 100, 3) := by decide +kernel
theorem dX7_days_25 : decode cX7_days 25 = .ok (.ifCond .eq 5, 3) := by decide +kernel
theorem dX7_days_28 : decode cX7_days 28 = .ok (.iconst 0, 1) := by decide +kernel
theorem dX7_days_29 : decode cX7_days 29 = .ok (.ireturn, 1) := by decide +kernel
theorem dX7_days_30 : decode cX7_days 30 = .ok (.aload_n 0, 1) := by decide +kernel
theorem dX7_days_31 : decode cX7_days 31 = .ok (.sipush 1000, 3) := by decide +kernel
theorem dX7_days_34 : decode cX7_days 34 = .ok (.aload_n 0, 1) := by decide +kernel
theorem dX7_days_35 : decode cX7_days 35 = .ok (.getfield 155, 3) := by decide +kernel
theorem dX7_days_38 : decode cX7_days 38 = .ok (.iload_n 1, 1) := by decide +kernel
theorem dX7_days_39 : decode cX7_days 39 = .ok (.iadd, 1) := by decide +kernel
theorem dX7_days_40 : decode cX7_days 40 = .ok (.invokestatic 158, 3) := by decide +kernel
theorem dX7_days_43 : decode cX7_days 43 = .ok (.putfield 155, 3) := by decide +kernel
theorem dX7_days_46 : decode cX7_days 46 = .ok (.aload_n 0, 1) := by decide +kernel
theorem dX7_days_47 : decode cX7_days 47 = .ok (.getfield 155, 3) := by decide +kernel
theorem dX7_days_50 : decode cX7_days 50 = .ok (.ireturn, 1) := by decide +kernel
theorem dX7_did_0 : decode cX7_did 0 = .ok (.iconst 0, 1) := by decide +kernel
theorem dX7_did_1 : decode cX7_did 1 = .ok (.istore 4, 2) := by decide +kernel
theorem dX7_did_3 : decode cX7_did 3 = .ok (.iload 4, 2) := by decide +kernel
theorem dX7_did_5 : decode cX7_did 5 = .ok (.aload_n 0, 1) := by decide +kernel
theorem dX7_did_6 : decode cX7_did 6 = .ok (.getfield 152, 3) := by decide +kernel
theorem dX7_did_9 : decode cX7_did 9 = .ok (.if_icmp .ge 65, 3) := by decide +kernel
theorem dX7_did_12 : decode cX7_did 12 = .ok (.aload_n 0, 1) := by decide +kernel
theorem dX7_did_13 : decode cX7_did 13 = .ok (.getfield 46, 3) := by decide +kernel
theorem dX7_did_16 : decode cX7_did 16 = .ok (.iload 4, 2) := by decide +kernel
theorem dX7_did_18 : decode cX7_did 18 = .ok (.iaload, 1) := by decide +kernel
theorem dX7_did_19 : decode cX7_did 19 = .ok (.iload_n 1, 1) := by decide +kernel
theorem dX7_did_20 : decode cX7_did 20 = .ok (.if_icmp .ne 48, 3) := by decide +kernel
theorem dX7_did_23 : decode cX7_did 23 = .ok (.aload_n 0, 1) := by decide +kernel
theorem dX7_did_24 : decode cX7_did 24 = .ok (.getfield 49, 3) := by decide +kernel
theorem dX7_did_27 : decode cX7_did 27 = .ok (.iload 4, 2) := by decide +kernel
theorem dX7_did_29 : decode cX7_did 29 = .ok (.baload, 1) := by decide +kernel
theorem dX7_did_30 : decode cX7_did 30 = .ok (.iload_n 2, 1) := by decide +kernel
theorem dX7_did_31 : decode cX7_did 31 = .ok (.if_icmp .ne 37, 3) := by decide +kernel
theorem dX7_did_34 : decode cX7_did 34 = .ok (.aload_n 0, 1) := by decide +kernel
theorem dX7_did_35 : decode cX7_did 35 = .ok (.getfield 53, 3) := by decide +kernel
theorem dX7_did_38 : decode cX7_did 38 = .ok (.iload 4, 2) := by decide +kernel
theorem dX7_did_40 : decode cX7_did 40 = .ok (.iaload, 1) := by decide +kernel
theorem dX7_did_41 : decode cX7_did 41 = .ok (.iload_n 3, 1) := by decide +kernel
theorem dX7_did_42 : decode cX7_did 42 = .ok (.if_icmp .gt 26, 3) := by decide +kernel
theorem dX7_did_45 : decode cX7_did 45 = .ok (.aload_n 0, 1) := by decide +kernel
theorem dX7_did_46 : decode cX7_did 46 = .ok (.getfield 56, 3) := by decide +kernel
theorem dX7_did_49 : decode cX7_did 49 = .ok (.iload 4, 2) := by decide +kernel
theorem dX7_did_51 : decode cX7_did 51 = .ok (.iaload, 1) := by decide +kernel
theorem dX7_did_52 : decode cX7_did 52 = .ok (.ifCond .lt 14, 3) := by decide +kernel
theorem dX7_did_55 : decode cX7_did 55 = .ok (.iload_n 3, 1) := by decide +kernel
theorem dX7_did_56 : decode cX7_did 56 = .ok (.aload_n 0, 1) := by decide +kernel
theorem dX7_did_57 : decode cX7_did 57 = .ok (.getfield 56, 3) := by decide +kernel
theorem dX7_did_60 : decode cX7_did 60 = .ok (.iload 4, 2) := by decide +kernel
theorem dX7_did_62 : decode cX7_did 62 = .ok (.iaload, 1) := by decide +kernel
theorem dX7_did_63 : decode cX7_did 63 = .ok (.if_icmp .ge 5, 3) := by decide +kernel
theorem dX7_did_66 : decode cX7_did 66 = .ok (.iconst 1, 1) := by decide +kernel
theorem dX7_did_67 : decode cX7_did 67 = .ok (.ireturn, 1) := by decide +kernel
theorem dX7_did_68 : decode cX7_did 68 = .ok (.iinc 4 1, 3) := by decide +kernel
theorem dX7_did_71 : decode cX7_did 71 = .ok (.goto (-68), 3) := by decide +kernel
theorem dX7_did_74 : decode cX7_did 74 = .ok (.iconst 0, 1) := by decide +kernel
theorem dX7_did_75 : decode cX7_did 75 = .ok (.ireturn, 1) := by decide +kernel
set_option maxRecDepth 20000 in
theorem ggX7_explains_X7_did : GoodIn wsX7_explains wsX7_did := goodIn_r _ [12, 13, 14, 15, 16, 17, 25, 26, 27, 28, 29, 30, 31, 32, 33, 34, 35, 36, 37, 38, 39, 40, 41, 42, 43, 44, 45, 46, 47, 48, 49, 50, 51, 52, 53, 54, 55, 56, 57, 58, 59, 60, 61, 62, 63, 64, 65, 66] (by decide +kernel) (by decide +kernel)
set_option maxRecDepth 20000 in
theorem gX7_explains_X7_did : GoodIn wsX7_explains (wsV RX7 163 RX7 yX7_did wsX7_did) := goodIn_app (goodIn_of _ (by decide +kernel)) ggX7_explains_X7_did
set_option maxRecDepth 20000 in
theorem ggX7_explains_J6_bitCount_0f7a4 : GoodIn wsX7_explains wsJ6_bitCount_0f7a4 := goodIn_r _ [21, 22, 23, 24] (by decide +kernel) (by decide +kernel)
set_option maxRecDepth 20000 in
theorem gX7_explains_J6_bitCount_0f7a4 : GoodIn wsX7_explains (va_wsS RX7 176 yJ6_bitCount_0f7a4 wsJ6_bitCount_0f7a4) := goodIn_app (goodIn_of _ (by decide +kernel)) ggX7_explains_J6_bitCount_0f7a4
theorem dX7_explains_0 : decode cX7_explains 0 = .ok (.iconst 1, 1) := by decide +kernel
theorem dX7_explains_1 : decode cX7_explains 1 = .ok (.aload_n 0, 1) := by decide +kernel
theorem dX7_explains_2 : decode cX7_explains 2 = .ok (.getfield 132, 3) := by decide +kernel
theorem dX7_explains_5 : decode cX7_explains 5 = .ok (.ishl, 1) := by decide +kernel
theorem dX7_explains_6 : decode cX7_explains 6 = .ok (.iconst 1, 1) := by decide +kernel
theorem dX7_explains_7 : decode cX7_explains 7 = .ok (.isub, 1) := by decide +kernel
theorem dX7_explains_8 : decode cX7_explains 8 = .ok (.istore_n 2, 1) := by decide +kernel
theorem dX7_explains_9 : decode cX7_explains 9 = .ok (.iconst 0, 1) := by decide +kernel
theorem dX7_explains_10 : decode cX7_explains 10 = .ok (.istore_n 3, 1) := by decide +kernel
theorem dX7_explains_11 : decode cX7_explains 11 = .ok (.iload_n 3, 1) := by decide +kernel
theorem dX7_explains_12 : decode cX7_explains 12 = .ok (.aload_n 0, 1) := by decide +kernel
theorem dX7_explains_13 : decode cX7_explains 13 = .ok (.getfield 142, 3) := by decide +kernel
theorem dX7_explains_16 : decode cX7_explains 16 = .ok (.if_icmp .ge 43, 3) := by decide +kernel
theorem dX7_explains_19 : decode cX7_explains 19 = .ok (.aload_n 0, 1) := by decide +kernel
theorem dX7_explains_20 : decode cX7_explains 20 = .ok (.getfield 59, 3) := by decide +kernel
theorem dX7_explains_23 : decode cX7_explains 23 = .ok (.iload_n 3, 1) := by decide +kernel
theorem dX7_explains_24 : decode cX7_explains 24 = .ok (.aload_n 0, 1) := by decide +kernel
theorem dX7_explains_25 : decode cX7_explains 25 = .ok (.iload_n 3, 1) := by decide +kernel
theorem dX7_explains_26 : decode cX7_explains 26 = .ok (.iconst 1, 1) := by decide +kernel
theorem dX7_explains_27 : decode cX7_explains 27 = .ok (.iload_n 1, 1) := by decide +kernel
theorem dX7_explains_28 : decode cX7_explains 28 = .ok (.invokevirtual 163, 3) := by decide +kernel
theorem dX7_explains_31 : decode cX7_explains 31 = .ok (.bastore, 1) := by decide +kernel
theorem dX7_explains_32 : decode cX7_explains 32 = .ok (.aload_n 0, 1) := by decide +kernel
theorem dX7_explains_33 : decode cX7_explains 33 = .ok (.iload_n 3, 1) := by decide +kernel
theorem dX7_explains_34 : decode cX7_explains 34 = .ok (.iconst 0, 1) := by decide +kernel
theorem dX7_explains_35 : decode cX7_explains 35 = .ok (.iload_n 1, 1) := by decide +kernel
theorem dX7_explains_36 : decode cX7_explains 36 = .ok (.invokevirtual 163, 3) := by decide +kernel
theorem dX7_explains_39 : decode cX7_explains 39 = .ok (.ifCond .eq 14, 3) := by decide +kernel
theorem dX7_explains_42 : decode cX7_explains 42 = .ok (.iload_n 2, 1) := by decide +kernel
theorem dX7_explains_43 : decode cX7_explains 43 = .ok (.aload_n 0, 1) := by decide +kernel
theorem dX7_explains_44 : decode cX7_explains 44 = .ok (.getfield 43, 3) := by decide +kernel
theorem dX7_explains_47 : decode cX7_explains 47 = .ok (.iload_n 3, 1) := by decide +kernel
theorem dX7_explains_48 : decode cX7_explains 48 = .ok (.iaload, 1) := by decide +kernel
theorem dX7_explains_49 : decode cX7_explains 49 = .ok (.iconst (-1), 1) := by decide +kernel
theorem dX7_explains_50 : decode cX7_explains 50 = .ok (.ixor, 1) := by decide +kernel
theorem dX7_explains_51 : decode cX7_explains 51 = .ok (.iand, 1) := by decide +kernel
theorem dX7_explains_52 : decode cX7_explains 52 = .ok (.istore_n 2, 1) := by decide +kernel
theorem dX7_explains_53 : decode cX7_explains 53 = .ok (.iinc 3 1, 3) := by decide +kernel
theorem dX7_explains_56 : decode cX7_explains 56 = .ok (.goto (-45), 3) := by decide +kernel
theorem dX7_explains_59 : decode cX7_explains 59 = .ok (.aload_n 0, 1) := by decide +kernel
theorem dX7_explains_60 : decode cX7_explains 60 = .ok (.iconst (-1), 1) := by decide +kernel
theorem dX7_explains_61 : decode cX7_explains 61 = .ok (.putfield 167, 3) := by decide +kernel
theorem dX7_explains_64 : decode cX7_explains 64 = .ok (.aload_n 0, 1) := by decide +kernel
theorem dX7_explains_65 : decode cX7_explains 65 = .ok (.iconst 0, 1) := by decide +kernel
theorem dX7_explains_66 : decode cX7_explains 66 = .ok (.putfield 170, 3) := by decide +kernel
theorem dX7_explains_69 : decode cX7_explains 69 = .ok (.aload_n 0, 1) := by decide +kernel
theorem dX7_explains_70 : decode cX7_explains 70 = .ok (.iconst 0, 1) := by decide +kernel
theorem dX7_explains_71 : decode cX7_explains 71 = .ok (.putfield 173, 3) := by decide +kernel
theorem dX7_explains_74 : decode cX7_explains 74 = .ok (.iconst 0, 1) := by decide +kernel
theorem dX7_explains_75 : decode cX7_explains 75 = .ok (.istore_n 3, 1) := by decide +kernel
theorem dX7_explains_76 : decode cX7_explains 76 = .ok (.iload_n 3, 1) := by decide +kernel
theorem dX7_explains_77 : decode cX7_explains 77 = .ok (.iconst 1, 1) := by decide +kernel
theorem dX7_explains_78 : decode cX7_explains 78 = .ok (.aload_n 0, 1) := by decide +kernel
theorem dX7_explains_79 : decode cX7_explains 79 = .ok (.getfield 132, 3) := by decide +kernel
theorem dX7_explains_82 : decode cX7_explains 82 = .ok (.ishl, 1) := by decide +kernel
theorem dX7_explains_83 : decode cX7_explains 83 = .ok (.if_icmp .ge 160, 3) := by decide +kernel
theorem dX7_explains_86 : decode cX7_explains 86 = .ok (.iload_n 3, 1) := by decide +kernel
theorem dX7_explains_87 : decode cX7_explains 87 = .ok (.iload_n 2, 1) := by decide +kernel
theorem dX7_explains_88 : decode cX7_explains 88 = .ok (.iconst (-1), 1) := by decide +kernel
theorem dX7_explains_89 : decode cX7_explains 89 = .ok (.ixor, 1) := by decide +kernel
theorem dX7_explains_90 : decode cX7_explains 90 = .ok (.iand, 1) := by decide +kernel
theorem dX7_explains_91 : decode cX7_explains 91 = .ok (.ifCond .eq 6, 3) := by decide +kernel
theorem dX7_explains_94 : decode cX7_explains 94 = .ok (.goto 143, 3) := by decide +kernel
theorem dX7_explains_97 : decode cX7_explains 97 = .ok (.iconst 1, 1) := by decide +kernel
theorem dX7_explains_98 : decode cX7_explains 98 = .ok (.istore 4, 2) := by decide +kernel
theorem dX7_explains_100 : decode cX7_explains 100 = .ok (.iconst 0, 1) := by decide +kernel
theorem dX7_explains_101 : decode cX7_explains 101 = .ok (.istore 5, 2) := by decide +kernel
theorem dX7_explains_103 : decode cX7_explains 103 = .ok (.iload 5, 2) := by decide +kernel
theorem dX7_explains_105 : decode cX7_explains 105 = .ok (.aload_n 0, 1) := by decide +kernel
theorem dX7_explains_106 : decode cX7_explains 106 = .ok (.getfield 142, 3) := by decide +kernel
theorem dX7_explains_109 : decode cX7_explains 109 = .ok (.if_icmp .ge 43, 3) := by decide +kernel
theorem dX7_explains_112 : decode cX7_explains 112 = .ok (.iload 4, 2) := by decide +kernel
theorem dX7_explains_114 : decode cX7_explains 114 = .ok (.ifCond .eq 38, 3) := by decide +kernel
theorem dX7_explains_117 : decode cX7_explains 117 = .ok (.aload_n 0, 1) := by decide +kernel
theorem dX7_explains_118 : decode cX7_explains 118 = .ok (.getfield 59, 3) := by decide +kernel
theorem dX7_explains_121 : decode cX7_explains 121 = .ok (.iload 5, 2) := by decide +kernel
theorem dX7_explains_123 : decode cX7_explains 123 = .ok (.baload, 1) := by decide +kernel
theorem dX7_explains_124 : decode cX7_explains 124 = .ok (.ifCond .eq 15, 3) := by decide +kernel
theorem dX7_explains_127 : decode cX7_explains 127 = .ok (.aload_n 0, 1) := by decide +kernel
theorem dX7_explains_128 : decode cX7_explains 128 = .ok (.getfield 43, 3) := by decide +kernel
theorem dX7_explains_131 : decode cX7_explains 131 = .ok (.iload 5, 2) := by decide +kernel
theorem dX7_explains_133 : decode cX7_explains 133 = .ok (.iaload, 1) := by decide +kernel
theorem dX7_explains_134 : decode cX7_explains 134 = .ok (.iload_n 3, 1) := by decide +kernel
theorem dX7_explains_135 : decode cX7_explains 135 = .ok (.iand, 1) := by decide +kernel
theorem dX7_explains_136 : decode cX7_explains 136 = .ok (.ifCond .eq 7, 3) := by decide +kernel
theorem dX7_explains_139 : decode cX7_explains 139 = .ok (.iconst 1, 1) := by decide +kernel
theorem dX7_explains_140 : decode cX7_explains 140 = .ok (.goto 4, 3) := by decide +kernel
theorem dX7_explains_143 : decode cX7_explains 143 = .ok (.iconst 0, 1) := by decide +kernel
theorem dX7_explains_144 : decode cX7_explains 144 = .ok (.istore 4, 2) := by decide +kernel
theorem dX7_explains_146 : decode cX7_explains 146 = .ok (.iinc 5 1, 3) := by decide +kernel
theorem dX7_explains_149 : decode cX7_explains 149 = .ok (.goto (-46), 3) := by decide +kernel
theorem dX7_explains_152 : decode cX7_explains 152 = .ok (.iload 4, 2) := by decide +kernel
theorem dX7_explains_154 : decode cX7_explains 154 = .ok (.ifCond .ne 6, 3) := by decide +kernel
theorem dX7_explains_157 : decode cX7_explains 157 = .ok (.goto 80, 3) := by decide +kernel
theorem dX7_explains_160 : decode cX7_explains 160 = .ok (.iload_n 3, 1) := by decide +kernel
theorem dX7_explains_161 : decode cX7_explains 161 = .ok (.invokestatic 176, 3) := by decide +kernel
theorem dX7_explains_164 : decode cX7_explains 164 = .ok (.istore 5, 2) := by decide +kernel
theorem dX7_explains_166 : decode cX7_explains 166 = .ok (.aload_n 0, 1) := by decide +kernel
theorem dX7_explains_167 : decode cX7_explains 167 = .ok (.getfield 167, 3) := by decide +kernel
theorem dX7_explains_170 : decode cX7_explains 170 = .ok (.ifCond .lt 15, 3) := by decide +kernel
theorem dX7_explains_173 : decode cX7_explains 173 = .ok (.iload 5, 2) := by decide +kernel
theorem dX7_explains_175 : decode cX7_explains 175 = .ok (.aload_n 0, 1) := by decide +kernel
theorem dX7_explains_176 : decode cX7_explains 176 = .ok (.getfield 167, 3) := by decide +kernel
theorem dX7_explains_179 : decode cX7_explains 179 = .ok (.if_icmp .le 6, 3) := by decide +kernel
theorem dX7_explains_182 : decode cX7_explains 182 = .ok (.goto 55, 3) := by decide +kernel
theorem dX7_explains_185 : decode cX7_explains 185 = .ok (.aload_n 0, 1) := by decide +kernel
theorem dX7_explains_186 : decode cX7_explains 186 = .ok (.getfield 167, 3) := by decide +kernel
theorem dX7_explains_189 : decode cX7_explains 189 = .ok (.ifCond .lt 12, 3) := by decide +kernel
theorem dX7_explains_192 : decode cX7_explains 192 = .ok (.iload 5, 2) := by decide +kernel
theorem dX7_explains_194 : decode cX7_explains 194 = .ok (.aload_n 0, 1) := by decide +kernel
theorem dX7_explains_195 : decode cX7_explains 195 = .ok (.getfield 167, 3) := by decide +kernel
theorem dX7_explains_198 : decode cX7_explains 198 = .ok (.if_icmp .ge 19, 3) := by decide +kernel
theorem dX7_explains_201 : decode cX7_explains 201 = .ok (.aload_n 0, 1) := by decide +kernel
theorem dX7_explains_202 : decode cX7_explains 202 = .ok (.iload 5, 2) := by decide +kernel
theorem dX7_explains_204 : decode cX7_explains 204 = .ok (.putfield 167, 3) := by decide +kernel
theorem dX7_explains_207 : decode cX7_explains 207 = .ok (.aload_n 0, 1) := by decide +kernel
theorem dX7_explains_208 : decode cX7_explains 208 = .ok (.iconst 0, 1) := by decide +kernel
theorem dX7_explains_209 : decode cX7_explains 209 = .ok (.putfield 170, 3) := by decide +kernel
theorem dX7_explains_212 : decode cX7_explains 212 = .ok (.aload_n 0, 1) := by decide +kernel
theorem dX7_explains_213 : decode cX7_explains 213 = .ok (.iload_n 3, 1) := by decide +kernel
theorem dX7_explains_214 : decode cX7_explains 214 = .ok (.putfield 173, 3) := by decide +kernel
theorem dX7_explains_217 : decode cX7_explains 217 = .ok (.aload_n 0, 1) := by decide +kernel
theorem dX7_explains_218 : decode cX7_explains 218 = .ok (.dup, 1) := by decide +kernel
theorem dX7_explains_219 : decode cX7_explains 219 = .ok (.getfield 170, 3) := by decide +kernel
theorem dX7_explains_222 : decode cX7_explains 222 = .ok (.iconst 1, 1) := by decide +kernel
theorem dX7_explains_223 : decode cX7_explains 223 = .ok (.iadd, 1) := by decide +kernel
theorem dX7_explains_224 : decode cX7_explains 224 = .ok (.putfield 170, 3) := by decide +kernel
theorem dX7_explains_227 : decode cX7_explains 227 = .ok (.aload_n 0, 1) := by decide +kernel
theorem dX7_explains_228 : decode cX7_explains 228 = .ok (.dup, 1) := by decide +kernel
theorem dX7_explains_229 : decode cX7_explains 229 = .ok (.getfield 173, 3) := by decide +kernel
theorem dX7_explains_232 : decode cX7_explains 232 = .ok (.iload_n 3, 1) := by decide +kernel
theorem dX7_explains_233 : decode cX7_explains 233 = .ok (.iand, 1) := by decide +kernel
theorem dX7_explains_234 : decode cX7_explains 234 = .ok (.putfield 173, 3) := by decide +kernel
theorem dX7_explains_237 : decode cX7_explains 237 = .ok (.iinc 3 1, 3) := by decide +kernel
theorem dX7_explains_240 : decode cX7_explains 240 = .ok (.goto (-164), 3) := by decide +kernel
theorem dX7_explains_243 : decode cX7_explains 243 = .ok (.return_, 1) := by decide +kernel
set_option maxRecDepth 20000 in
theorem ggX7_explain_X7_in : GoodIn wsX7_explain wsX7_in := goodIn_r _ [8] (by decide +kernel) (by decide +kernel)
set_option maxRecDepth 20000 in
theorem gX7_explain_X7_in : GoodIn wsX7_explain (va_wsS RX7 96 yX7_in wsX7_in) := goodIn_app (goodIn_of _ (by decide +kernel)) ggX7_explain_X7_in
set_option maxRecDepth 20000 in
theorem ggX7_explain_X7_throwsIf : GoodIn wsX7_explain wsX7_throwsIf := goodIn_r _ [12, 1, 37, 38, 39, 40, 41, 42, 43, 44, 45, 46, 47, 48, 49, 50, 51, 52, 53, 54, 55, 56, 57, 58, 59, 60, 61, 62, 63, 64, 65, 66, 67, 68, 69, 70, 71, 72, 73, 74, 75, 76, 77, 78] (by decide +kernel) (by decide +kernel)
set_option maxRecDepth 20000 in
theorem gX7_explain_X7_throwsIf : GoodIn wsX7_explain (wsV RX7 100 RX7 yX7_throwsIf wsX7_throwsIf) := goodIn_app (goodIn_of _ (by decide +kernel)) ggX7_explain_X7_throwsIf
set_option maxRecDepth 20000 in
theorem ggX7_explain_X7_explains : GoodIn wsX7_explain wsX7_explains := goodIn_r _ [16, 17, 18, 19, 20, 2, 3, 4, 21, 22, 23, 7, 24, 25, 26, 27, 28, 29, 30, 31, 32, 33, 34, 35, 36, 37, 38, 39, 40, 41, 42, 43, 44, 45, 46, 47, 48, 49, 50, 51, 52, 53, 54, 55, 56, 57, 58, 59, 60, 61, 62, 63, 64, 65, 66, 67, 68, 69, 70, 71, 72, 73, 74, 75, 76, 77, 78] (by decide +kernel) (by decide +kernel)
set_option maxRecDepth 20000 in
theorem gX7_explain_X7_explains : GoodIn wsX7_explain (wsV RX7 182 RX7 yX7_explains wsX7_explains) := goodIn_app (goodIn_of _ (by decide +kernel)) ggX7_explain_X7_explains
theorem dX7_explain_0 : decode cX7_explain 0 = .ok (.aload_n 0, 1) := by decide +kernel
theorem dX7_explain_1 : decode cX7_explain 1 = .ok (.iconst 0, 1) := by decide +kernel
theorem dX7_explain_2 : decode cX7_explain 2 = .ok (.putfield 93, 3) := by decide +kernel
theorem dX7_explain_5 : decode cX7_explain 5 = .ok (.aload_n 0, 1) := by decide +kernel
theorem dX7_explain_6 : decode cX7_explain 6 = .ok (.iload_n 2, 1) := by decide +kernel
theorem dX7_explain_7 : decode cX7_explain 7 = .ok (.iconst 0, 1) := by decide +kernel
theorem dX7_explain_8 : decode cX7_explain 8 = .ok (.iconst 2, 1) := by decide +kernel
theorem dX7_explain_9 : decode cX7_explain 9 = .ok (.invokestatic 96, 3) := by decide +kernel
theorem dX7_explain_12 : decode cX7_explain 12 = .ok (.ifCond .ne 7, 3) := by decide +kernel
theorem dX7_explain_15 : decode cX7_explain 15 = .ok (.iconst 1, 1) := by decide +kernel
theorem dX7_explain_16 : decode cX7_explain 16 = .ok (.goto 4, 3) := by decide +kernel
theorem dX7_explain_19 : decode cX7_explain 19 = .ok (.iconst 0, 1) := by decide +kernel
theorem dX7_explain_20 : decode cX7_explain 20 = .ok (.iconst 1, 1) := by decide +kernel
theorem dX7_explain_21 : decode cX7_explain 21 = .ok (.invokevirtual 100, 3) := by decide +kernel
theorem dX7_explain_24 : decode cX7_explain 24 = .ok (.ifCond .eq 5, 3) := by decide +kernel
theorem dX7_explain_27 : decode cX7_explain 27 = .ok (.iconst 0, 1) := by decide +kernel
theorem dX7_explain_28 : decode cX7_explain 28 = .ok (.ireturn, 1) := by decide +kernel
theorem dX7_explain_29 : decode cX7_explain 29 = .ok (.aload_n 0, 1) := by decide +kernel
theorem dX7_explain_30 : decode cX7_explain 30 = .ok (.iload_n 1, 1) := by decide +kernel
theorem dX7_explain_31 : decode cX7_explain 31 = .ok (.invokevirtual 182, 3) := by decide +kernel
theorem dX7_explain_34 : decode cX7_explain 34 = .ok (.iload_n 2, 1) := by decide +kernel
theorem dX7_explain_35 : decode cX7_explain 35 = .ok (.ifCond .ne 10, 3) := by decide +kernel
theorem dX7_explain_38 : decode cX7_explain 38 = .ok (.aload_n 0, 1) := by decide +kernel
theorem dX7_explain_39 : decode cX7_explain 39 = .ok (.getfield 167, 3) := by decide +kernel
theorem dX7_explain_42 : decode cX7_explain 42 = .ok (.goto 19, 3) := by decide +kernel
theorem dX7_explain_45 : decode cX7_explain 45 = .ok (.iload_n 2, 1) := by decide +kernel
theorem dX7_explain_46 : decode cX7_explain 46 = .ok (.iconst 1, 1) := by decide +kernel
theorem dX7_explain_47 : decode cX7_explain 47 = .ok (.if_icmp .ne 10, 3) := by decide +kernel
theorem dX7_explain_50 : decode cX7_explain 50 = .ok (.aload_n 0, 1) := by decide +kernel
theorem dX7_explain_51 : decode cX7_explain 51 = .ok (.getfield 170, 3) := by decide +kernel
theorem dX7_explain_54 : decode cX7_explain 54 = .ok (.goto 7, 3) := by decide +kernel
theorem dX7_explain_57 : decode cX7_explain 57 = .ok (.aload_n 0, 1) := by decide +kernel
theorem dX7_explain_58 : decode cX7_explain 58 = .ok (.getfield 173, 3) := by decide +kernel
theorem dX7_explain_61 : decode cX7_explain 61 = .ok (.ireturn, 1) := by decide +kernel
set_option maxRecDepth 20000 in
theorem ggX7_look_X7_noLot : GoodIn wsX7_look wsX7_noLot := goodIn_r _ [14, 15, 16, 17, 13, 18, 32, 33, 34, 35, 36, 37, 38, 39, 40, 41, 42, 43, 44, 45, 46, 47, 48, 49, 50, 51, 52, 53, 54, 55, 56, 57, 58, 59, 60, 61, 62, 63, 64, 65, 66, 67, 68, 69, 70, 71, 72, 73] (by decide +kernel) (by decide +kernel)
set_option maxRecDepth 20000 in
theorem gX7_look_X7_noLot : GoodIn wsX7_look (wsV RX7 139 RX7 yX7_noLot wsX7_noLot) := goodIn_app (goodIn_of _ (by decide +kernel)) ggX7_look_X7_noLot
set_option maxRecDepth 20000 in
theorem ggX7_look_X7_throwsIf : GoodIn wsX7_look wsX7_throwsIf := goodIn_r _ [22, 1, 32, 33, 34, 35, 36, 37, 38, 39, 40, 41, 42, 43, 44, 45, 46, 47, 48, 49, 50, 51, 52, 53, 54, 55, 56, 57, 58, 59, 60, 61, 62, 63, 64, 65, 66, 67, 68, 69, 70, 71, 72, 73] (by decide +kernel) (by decide +kernel)
set_option maxRecDepth 20000 in
theorem gX7_look_X7_throwsIf : GoodIn wsX7_look (wsV RX7 100 RX7 yX7_throwsIf wsX7_throwsIf) := goodIn_app (goodIn_of _ (by decide +kernel)) ggX7_look_X7_throwsIf
set_option maxRecDepth 20000 in
theorem ggX7_look_X7_did : GoodIn wsX7_look wsX7_did := goodIn_r _ [26, 27, 28, 29, 30, 31, 32, 33, 34, 35, 36, 37, 38, 39, 40, 41, 42, 43, 44, 45, 46, 47, 48, 49, 50, 51, 52, 53, 54, 55, 56, 57, 58, 59, 60, 61, 62, 63, 64, 65, 66, 67, 68, 69, 70, 71, 72, 73] (by decide +kernel) (by decide +kernel)
set_option maxRecDepth 20000 in
theorem gX7_look_X7_did : GoodIn wsX7_look (wsV RX7 163 RX7 yX7_did wsX7_did) := goodIn_app (goodIn_of _ (by decide +kernel)) ggX7_look_X7_did
theorem dX7_look_0 : decode cX7_look 0 = .ok (.aload_n 0, 1) := by decide +kernel
theorem dX7_look_1 : decode cX7_look 1 = .ok (.iconst 0, 1) := by decide +kernel
theorem dX7_look_2 : decode cX7_look 2 = .ok (.putfield 93, 3) := by decide +kernel
theorem dX7_look_5 : decode cX7_look 5 = .ok (.aload_n 0, 1) := by decide +kernel
theorem dX7_look_6 : decode cX7_look 6 = .ok (.aload_n 0, 1) := by decide +kernel
theorem dX7_look_7 : decode cX7_look 7 = .ok (.iload_n 1, 1) := by decide +kernel
theorem dX7_look_8 : decode cX7_look 8 = .ok (.invokevirtual 139, 3) := by decide +kernel
theorem dX7_look_11 : decode cX7_look 11 = .ok (.iconst 1, 1) := by decide +kernel
theorem dX7_look_12 : decode cX7_look 12 = .ok (.invokevirtual 100, 3) := by decide +kernel
theorem dX7_look_15 : decode cX7_look 15 = .ok (.ifCond .eq 5, 3) := by decide +kernel
theorem dX7_look_18 : decode cX7_look 18 = .ok (.iconst 0, 1) := by decide +kernel
theorem dX7_look_19 : decode cX7_look 19 = .ok (.ireturn, 1) := by decide +kernel
theorem dX7_look_20 : decode cX7_look 20 = .ok (.iload_n 2, 1) := by decide +kernel
theorem dX7_look_21 : decode cX7_look 21 = .ok (.tableswitch 133 0 5 #[39, 46, 53, 60, 67, 74], 39) := by decide +kernel
theorem dX7_look_60 : decode cX7_look 60 = .ok (.aload_n 0, 1) := by decide +kernel
theorem dX7_look_61 : decode cX7_look 61 = .ok (.getfield 28, 3) := by decide +kernel
theorem dX7_look_64 : decode cX7_look 64 = .ok (.iload_n 1, 1) := by decide +kernel
theorem dX7_look_65 : decode cX7_look 65 = .ok (.iaload, 1) := by decide +kernel
theorem dX7_look_66 : decode cX7_look 66 = .ok (.ireturn, 1) := by decide +kernel
theorem dX7_look_67 : decode cX7_look 67 = .ok (.aload_n 0, 1) := by decide +kernel
theorem dX7_look_68 : decode cX7_look 68 = .ok (.getfield 31, 3) := by decide +kernel
theorem dX7_look_71 : decode cX7_look 71 = .ok (.iload_n 1, 1) := by decide +kernel
theorem dX7_look_72 : decode cX7_look 72 = .ok (.iaload, 1) := by decide +kernel
theorem dX7_look_73 : decode cX7_look 73 = .ok (.ireturn, 1) := by decide +kernel
theorem dX7_look_74 : decode cX7_look 74 = .ok (.aload_n 0, 1) := by decide +kernel
theorem dX7_look_75 : decode cX7_look 75 = .ok (.getfield 34, 3) := by decide +kernel
theorem dX7_look_78 : decode cX7_look 78 = .ok (.iload_n 1, 1) := by decide +kernel
theorem dX7_look_79 : decode cX7_look 79 = .ok (.iaload, 1) := by decide +kernel
theorem dX7_look_80 : decode cX7_look 80 = .ok (.ireturn, 1) := by decide +kernel
theorem dX7_look_81 : decode cX7_look 81 = .ok (.aload_n 0, 1) := by decide +kernel
theorem dX7_look_82 : decode cX7_look 82 = .ok (.getfield 37, 3) := by decide +kernel
theorem dX7_look_85 : decode cX7_look 85 = .ok (.iload_n 1, 1) := by decide +kernel
theorem dX7_look_86 : decode cX7_look 86 = .ok (.iaload, 1) := by decide +kernel
theorem dX7_look_87 : decode cX7_look 87 = .ok (.ireturn, 1) := by decide +kernel
theorem dX7_look_88 : decode cX7_look 88 = .ok (.aload_n 0, 1) := by decide +kernel
theorem dX7_look_89 : decode cX7_look 89 = .ok (.getfield 40, 3) := by decide +kernel
theorem dX7_look_92 : decode cX7_look 92 = .ok (.iload_n 1, 1) := by decide +kernel
theorem dX7_look_93 : decode cX7_look 93 = .ok (.iaload, 1) := by decide +kernel
theorem dX7_look_94 : decode cX7_look 94 = .ok (.ireturn, 1) := by decide +kernel
theorem dX7_look_95 : decode cX7_look 95 = .ok (.iconst 0, 1) := by decide +kernel
theorem dX7_look_96 : decode cX7_look 96 = .ok (.istore_n 3, 1) := by decide +kernel
theorem dX7_look_97 : decode cX7_look 97 = .ok (.iconst 0, 1) := by decide +kernel
theorem dX7_look_98 : decode cX7_look 98 = .ok (.istore 4, 2) := by decide +kernel
theorem dX7_look_100 : decode cX7_look 100 = .ok (.iload 4, 2) := by decide +kernel
theorem dX7_look_102 : decode cX7_look 102 = .ok (.aload_n 0, 1) := by decide +kernel
theorem dX7_look_103 : decode cX7_look 103 = .ok (.getfield 142, 3) := by decide +kernel
theorem dX7_look_106 : decode cX7_look 106 = .ok (.if_icmp .ge 46, 3) := by decide +kernel
theorem dX7_look_109 : decode cX7_look 109 = .ok (.iload_n 3, 1) := by decide +kernel
theorem dX7_look_110 : decode cX7_look 110 = .ok (.aload_n 0, 1) := by decide +kernel
theorem dX7_look_111 : decode cX7_look 111 = .ok (.getfield 43, 3) := by decide +kernel
theorem dX7_look_114 : decode cX7_look 114 = .ok (.iload 4, 2) := by decide +kernel
theorem dX7_look_116 : decode cX7_look 116 = .ok (.iaload, 1) := by decide +kernel
theorem dX7_look_117 : decode cX7_look 117 = .ok (.iload_n 1, 1) := by decide +kernel
theorem dX7_look_118 : decode cX7_look 118 = .ok (.ishr, 1) := by decide +kernel
theorem dX7_look_119 : decode cX7_look 119 = .ok (.iconst 1, 1) := by decide +kernel
theorem dX7_look_120 : decode cX7_look 120 = .ok (.iand, 1) := by decide +kernel
theorem dX7_look_121 : decode cX7_look 121 = .ok (.iconst 1, 1) := by decide +kernel
theorem dX7_look_122 : decode cX7_look 122 = .ok (.if_icmp .ne 21, 3) := by decide +kernel
theorem dX7_look_125 : decode cX7_look 125 = .ok (.aload_n 0, 1) := by decide +kernel
theorem dX7_look_126 : decode cX7_look 126 = .ok (.iload 4, 2) := by decide +kernel
theorem dX7_look_128 : decode cX7_look 128 = .ok (.iconst 1, 1) := by decide +kernel
theorem dX7_look_129 : decode cX7_look 129 = .ok (.aload_n 0, 1) := by decide +kernel
theorem dX7_look_130 : decode cX7_look 130 = .ok (.getfield 155, 3) := by decide +kernel
theorem dX7_look_133 : decode cX7_look 133 = .ok (.invokevirtual 163, 3) := by decide +kernel
theorem dX7_look_136 : decode cX7_look 136 = .ok (.ifCond .eq 7, 3) := by decide +kernel
theorem dX7_look_139 : decode cX7_look 139 = .ok (.iconst 1, 1) := by decide +kernel
theorem dX7_look_140 : decode cX7_look 140 = .ok (.goto 4, 3) := by decide +kernel
theorem dX7_look_143 : decode cX7_look 143 = .ok (.iconst 0, 1) := by decide +kernel
theorem dX7_look_144 : decode cX7_look 144 = .ok (.iadd, 1) := by decide +kernel
theorem dX7_look_145 : decode cX7_look 145 = .ok (.istore_n 3, 1) := by decide +kernel
theorem dX7_look_146 : decode cX7_look 146 = .ok (.iinc 4 1, 3) := by decide +kernel
theorem dX7_look_149 : decode cX7_look 149 = .ok (.goto (-49), 3) := by decide +kernel
theorem dX7_look_152 : decode cX7_look 152 = .ok (.iload_n 3, 1) := by decide +kernel
theorem dX7_look_153 : decode cX7_look 153 = .ok (.ireturn, 1) := by decide +kernel
theorem dX7_look_154 : decode cX7_look 154 = .ok (.aload_n 0, 1) := by decide +kernel
theorem dX7_look_155 : decode cX7_look 155 = .ok (.iconst 2, 1) := by decide +kernel
theorem dX7_look_156 : decode cX7_look 156 = .ok (.putfield 93, 3) := by decide +kernel
theorem dX7_look_159 : decode cX7_look 159 = .ok (.iconst 0, 1) := by decide +kernel
theorem dX7_look_160 : decode cX7_look 160 = .ok (.ireturn, 1) := by decide +kernel
theorem dX7_slatsOfAll_0 : decode cX7_slatsOfAll 0 = .ok (.iconst 0, 1) := by decide +kernel
theorem dX7_slatsOfAll_1 : decode cX7_slatsOfAll 1 = .ok (.istore_n 1, 1) := by decide +kernel
theorem dX7_slatsOfAll_2 : decode cX7_slatsOfAll 2 = .ok (.iconst 0, 1) := by decide +kernel
theorem dX7_slatsOfAll_3 : decode cX7_slatsOfAll 3 = .ok (.istore_n 2, 1) := by decide +kernel
theorem dX7_slatsOfAll_4 : decode cX7_slatsOfAll 4 = .ok (.iload_n 2, 1) := by decide +kernel
theorem dX7_slatsOfAll_5 : decode cX7_slatsOfAll 5 = .ok (.bipush 10, 2) := by decide +kernel
theorem dX7_slatsOfAll_7 : decode cX7_slatsOfAll 7 = .ok (.if_icmp .ge 18, 3) := by decide +kernel
theorem dX7_slatsOfAll_10 : decode cX7_slatsOfAll 10 = .ok (.iload_n 1, 1) := by decide +kernel
theorem dX7_slatsOfAll_11 : decode cX7_slatsOfAll 11 = .ok (.aload_n 0, 1) := by decide +kernel
theorem dX7_slatsOfAll_12 : decode cX7_slatsOfAll 12 = .ok (.getfield 62, 3) := by decide +kernel
theorem dX7_slatsOfAll_15 : decode cX7_slatsOfAll 15 = .ok (.iload_n 2, 1) := by decide +kernel
theorem dX7_slatsOfAll_16 : decode cX7_slatsOfAll 16 = .ok (.iaload, 1) := by decide +kernel
theorem dX7_slatsOfAll_17 : decode cX7_slatsOfAll 17 = .ok (.iadd, 1) := by decide +kernel
theorem dX7_slatsOfAll_18 : decode cX7_slatsOfAll 18 = .ok (.istore_n 1, 1) := by decide +kernel
theorem dX7_slatsOfAll_19 : decode cX7_slatsOfAll 19 = .ok (.iinc 2 1, 3) := by decide +kernel
theorem dX7_slatsOfAll_22 : decode cX7_slatsOfAll 22 = .ok (.goto (-18), 3) := by decide +kernel
theorem dX7_slatsOfAll_25 : decode cX7_slatsOfAll 25 = .ok (.iload_n 1, 1) := by decide +kernel
theorem dX7_slatsOfAll_26 : decode cX7_slatsOfAll 26 = .ok (.ireturn, 1) := by decide +kernel
set_option maxRecDepth 20000 in
theorem ggX7_slats_X7_in : GoodIn wsX7_slats wsX7_in := goodIn_r _ [6] (by decide +kernel) (by decide +kernel)
set_option maxRecDepth 20000 in
theorem gX7_slats_X7_in : GoodIn wsX7_slats (va_wsS RX7 96 yX7_in wsX7_in) := goodIn_app (goodIn_of _ (by decide +kernel)) ggX7_slats_X7_in
set_option maxRecDepth 20000 in
theorem ggX7_slats_X7_throwsIf : GoodIn wsX7_slats wsX7_throwsIf := goodIn_r _ [10, 1, 15, 16, 17, 18, 19, 20, 21, 22, 23, 24, 25, 26, 27, 28, 29, 30, 31, 32, 33, 34, 35, 36, 37, 38, 39, 40, 41, 42, 43, 44, 45, 46, 47, 48, 49, 50, 51, 52, 53, 54, 55, 56] (by decide +kernel) (by decide +kernel)
set_option maxRecDepth 20000 in
theorem gX7_slats_X7_throwsIf : GoodIn wsX7_slats (wsV RX7 100 RX7 yX7_throwsIf wsX7_throwsIf) := goodIn_app (goodIn_of _ (by decide +kernel)) ggX7_slats_X7_throwsIf
set_option maxRecDepth 20000 in
theorem ggX7_slats_X7_slatsOfAll : GoodIn wsX7_slats wsX7_slatsOfAll := goodIn_r _ [14, 2, 15, 16, 17, 18, 19, 20, 21, 22, 23, 24, 25, 26, 27, 28, 29, 30, 31, 32, 33, 34, 35, 36, 37, 38, 39, 40, 41, 42, 43, 44, 45, 46, 47, 48, 49, 50, 51, 52, 53, 54, 55, 56] (by decide +kernel) (by decide +kernel)
set_option maxRecDepth 20000 in
theorem gX7_slats_X7_slatsOfAll : GoodIn wsX7_slats (wsV RX7 186 RX7 yX7_slatsOfAll wsX7_slatsOfAll) := goodIn_app (goodIn_of _ (by decide +kernel)) ggX7_slats_X7_slatsOfAll
theorem dX7_slats_0 : decode cX7_slats 0 = .ok (.aload_n 0, 1) := by decide +kernel
theorem dX7_slats_1 : decode cX7_slats 1 = .ok (.iconst 0, 1) := by decide +kernel
theorem dX7_slats_2 : decode cX7_slats 2 = .ok (.putfield 93, 3) := by decide +kernel
theorem dX7_slats_5 : decode cX7_slats 5 = .ok (.aload_n 0, 1) := by decide +kernel
theorem dX7_slats_6 : decode cX7_slats 6 = .ok (.iload_n 1, 1) := by decide +kernel
theorem dX7_slats_7 : decode cX7_slats 7 = .ok (.iconst 0, 1) := by decide +kernel
theorem dX7_slats_8 : decode cX7_slats 8 = .ok (.bipush 9, 2) := by decide +kernel
theorem dX7_slats_10 : decode cX7_slats 10 = .ok (.invokestatic 96, 3) := by decide +kernel
theorem dX7_slats_13 : decode cX7_slats 13 = .ok (.ifCond .eq 14, 3) := by decide +kernel
theorem dX7_slats_16 : decode cX7_slats 16 = .ok (.iload_n 2, 1) := by decide +kernel
theorem dX7_slats_17 : decode cX7_slats 17 = .ok (.iconst 0, 1) := by decide +kernel
theorem dX7_slats_18 : decode cX7_slats 18 = .ok (.sipush 200, 3) := by decide +kernel
theorem dX7_slats_21 : decode cX7_slats 21 = .ok (.invokestatic 96, 3) := by decide +kernel
theorem dX7_slats_24 : decode cX7_slats 24 = .ok (.ifCond .ne 7, 3) := by decide +kernel
theorem dX7_slats_27 : decode cX7_slats 27 = .ok (.iconst 1, 1) := by decide +kernel
theorem dX7_slats_28 : decode cX7_slats 28 = .ok (.goto 4, 3) := by decide +kernel
theorem dX7_slats_31 : decode cX7_slats 31 = .ok (.iconst 0, 1) := by decide +kernel
theorem dX7_slats_32 : decode cX7_slats 32 = .ok (.iconst 1, 1) := by decide +kernel
theorem dX7_slats_33 : decode cX7_slats 33 = .ok (.invokevirtual 100, 3) := by decide +kernel
theorem dX7_slats_36 : decode cX7_slats 36 = .ok (.ifCond .eq 5, 3) := by decide +kernel
theorem dX7_slats_39 : decode cX7_slats 39 = .ok (.iconst 0, 1) := by decide +kernel
theorem dX7_slats_40 : decode cX7_slats 40 = .ok (.ireturn, 1) := by decide +kernel
theorem dX7_slats_41 : decode cX7_slats 41 = .ok (.aload_n 0, 1) := by decide +kernel
theorem dX7_slats_42 : decode cX7_slats 42 = .ok (.getfield 62, 3) := by decide +kernel
theorem dX7_slats_45 : decode cX7_slats 45 = .ok (.iload_n 1, 1) := by decide +kernel
theorem dX7_slats_46 : decode cX7_slats 46 = .ok (.iload_n 2, 1) := by decide +kernel
theorem dX7_slats_47 : decode cX7_slats 47 = .ok (.iastore, 1) := by decide +kernel
theorem dX7_slats_48 : decode cX7_slats 48 = .ok (.aload_n 0, 1) := by decide +kernel
theorem dX7_slats_49 : decode cX7_slats 49 = .ok (.invokevirtual 186, 3) := by decide +kernel
theorem dX7_slats_52 : decode cX7_slats 52 = .ok (.ireturn, 1) := by decide +kernel
set_option maxRecDepth 20000 in
theorem ggX7_grade_X7_in : GoodIn wsX7_grade wsX7_in := goodIn_r _ [9] (by decide +kernel) (by decide +kernel)
set_option maxRecDepth 20000 in
theorem gX7_grade_X7_in : GoodIn wsX7_grade (va_wsS RX7 96 yX7_in wsX7_in) := goodIn_app (goodIn_of _ (by decide +kernel)) ggX7_grade_X7_in
set_option maxRecDepth 20000 in
theorem ggX7_grade_X7_throwsIf : GoodIn wsX7_grade wsX7_throwsIf := goodIn_r _ [13, 1, 14, 15, 16, 17, 18, 19, 20, 21, 22, 23, 24, 25, 26, 27, 28, 29, 30, 31, 32, 33, 34, 35, 36, 37, 38, 39, 40, 41, 42, 43, 44, 45, 46, 47, 48, 49, 50, 51, 52, 53, 54, 55] (by decide +kernel) (by decide +kernel)
set_option maxRecDepth 20000 in
theorem gX7_grade_X7_throwsIf : GoodIn wsX7_grade (wsV RX7 100 RX7 yX7_throwsIf wsX7_throwsIf) := goodIn_app (goodIn_of _ (by decide +kernel)) ggX7_grade_X7_throwsIf
theorem dX7_grade_0 : decode cX7_grade 0 = .ok (.aload_n 0, 1) := by decide +kernel
theorem dX7_grade_1 : decode cX7_grade 1 = .ok (.iconst 0, 1) := by decide +kernel
theorem dX7_grade_2 : decode cX7_grade 2 = .ok (.putfield 93, 3) := by decide +kernel
theorem dX7_grade_5 : decode cX7_grade 5 = .ok (.aload_n 0, 1) := by decide +kernel
theorem dX7_grade_6 : decode cX7_grade 6 = .ok (.iload_n 1, 1) := by decide +kernel
theorem dX7_grade_7 : decode cX7_grade 7 = .ok (.iconst 0, 1) := by decide +kernel
theorem dX7_grade_8 : decode cX7_grade 8 = .ok (.bipush 9, 2) := by decide +kernel
theorem dX7_grade_10 : decode cX7_grade 10 = .ok (.invokestatic 96, 3) := by decide +kernel
theorem dX7_grade_13 : decode cX7_grade 13 = .ok (.ifCond .eq 25, 3) := by decide +kernel
theorem dX7_grade_16 : decode cX7_grade 16 = .ok (.iload_n 2, 1) := by decide +kernel
theorem dX7_grade_17 : decode cX7_grade 17 = .ok (.iconst 1, 1) := by decide +kernel
theorem dX7_grade_18 : decode cX7_grade 18 = .ok (.sipush 1000, 3) := by decide +kernel
theorem dX7_grade_21 : decode cX7_grade 21 = .ok (.invokestatic 96, 3) := by decide +kernel
theorem dX7_grade_24 : decode cX7_grade 24 = .ok (.ifCond .eq 14, 3) := by decide +kernel
theorem dX7_grade_27 : decode cX7_grade 27 = .ok (.iload_n 3, 1) := by decide +kernel
theorem dX7_grade_28 : decode cX7_grade 28 = .ok (.iconst 0, 1) := by decide +kernel
theorem dX7_grade_29 : decode cX7_grade 29 = .ok (.sipush 500, 3) := by decide +kernel
theorem dX7_grade_32 : decode cX7_grade 32 = .ok (.invokestatic 96, 3) := by decide +kernel
theorem dX7_grade_35 : decode cX7_grade 35 = .ok (.ifCond .ne 7, 3) := by decide +kernel
theorem dX7_grade_38 : decode cX7_grade 38 = .ok (.iconst 1, 1) := by decide +kernel
theorem dX7_grade_39 : decode cX7_grade 39 = .ok (.goto 4, 3) := by decide +kernel
theorem dX7_grade_42 : decode cX7_grade 42 = .ok (.iconst 0, 1) := by decide +kernel
theorem dX7_grade_43 : decode cX7_grade 43 = .ok (.iconst 1, 1) := by decide +kernel
theorem dX7_grade_44 : decode cX7_grade 44 = .ok (.invokevirtual 100, 3) := by decide +kernel
theorem dX7_grade_47 : decode cX7_grade 47 = .ok (.ifCond .eq 5, 3) := by decide +kernel
theorem dX7_grade_50 : decode cX7_grade 50 = .ok (.iconst 0, 1) := by decide +kernel
theorem dX7_grade_51 : decode cX7_grade 51 = .ok (.ireturn, 1) := by decide +kernel
theorem dX7_grade_52 : decode cX7_grade 52 = .ok (.aload_n 0, 1) := by decide +kernel
theorem dX7_grade_53 : decode cX7_grade 53 = .ok (.getfield 190, 3) := by decide +kernel
theorem dX7_grade_56 : decode cX7_grade 56 = .ok (.bipush 6, 2) := by decide +kernel
theorem dX7_grade_58 : decode cX7_grade 58 = .ok (.if_icmp .ne 5, 3) := by decide +kernel
theorem dX7_grade_61 : decode cX7_grade 61 = .ok (.iconst (-1), 1) := by decide +kernel
theorem dX7_grade_62 : decode cX7_grade 62 = .ok (.ireturn, 1) := by decide +kernel
theorem dX7_grade_63 : decode cX7_grade 63 = .ok (.aload_n 0, 1) := by decide +kernel
theorem dX7_grade_64 : decode cX7_grade 64 = .ok (.getfield 65, 3) := by decide +kernel
theorem dX7_grade_67 : decode cX7_grade 67 = .ok (.aload_n 0, 1) := by decide +kernel
theorem dX7_grade_68 : decode cX7_grade 68 = .ok (.getfield 190, 3) := by decide +kernel
theorem dX7_grade_71 : decode cX7_grade 71 = .ok (.iload_n 1, 1) := by decide +kernel
theorem dX7_grade_72 : decode cX7_grade 72 = .ok (.iastore, 1) := by decide +kernel
theorem dX7_grade_73 : decode cX7_grade 73 = .ok (.aload_n 0, 1) := by decide +kernel
theorem dX7_grade_74 : decode cX7_grade 74 = .ok (.getfield 68, 3) := by decide +kernel
theorem dX7_grade_77 : decode cX7_grade 77 = .ok (.aload_n 0, 1) := by decide +kernel
theorem dX7_grade_78 : decode cX7_grade 78 = .ok (.getfield 190, 3) := by decide +kernel
theorem dX7_grade_81 : decode cX7_grade 81 = .ok (.iload_n 2, 1) := by decide +kernel
theorem dX7_grade_82 : decode cX7_grade 82 = .ok (.iastore, 1) := by decide +kernel
theorem dX7_grade_83 : decode cX7_grade 83 = .ok (.aload_n 0, 1) := by decide +kernel
theorem dX7_grade_84 : decode cX7_grade 84 = .ok (.getfield 71, 3) := by decide +kernel
theorem dX7_grade_87 : decode cX7_grade 87 = .ok (.aload_n 0, 1) := by decide +kernel
theorem dX7_grade_88 : decode cX7_grade 88 = .ok (.getfield 190, 3) := by decide +kernel
theorem dX7_grade_91 : decode cX7_grade 91 = .ok (.iload_n 3, 1) := by decide +kernel
theorem dX7_grade_92 : decode cX7_grade 92 = .ok (.iastore, 1) := by decide +kernel
theorem dX7_grade_93 : decode cX7_grade 93 = .ok (.aload_n 0, 1) := by decide +kernel
theorem dX7_grade_94 : decode cX7_grade 94 = .ok (.dup, 1) := by decide +kernel
theorem dX7_grade_95 : decode cX7_grade 95 = .ok (.getfield 190, 3) := by decide +kernel
theorem dX7_grade_98 : decode cX7_grade 98 = .ok (.iconst 1, 1) := by decide +kernel
theorem dX7_grade_99 : decode cX7_grade 99 = .ok (.iadd, 1) := by decide +kernel
theorem dX7_grade_100 : decode cX7_grade 100 = .ok (.putfield 190, 3) := by decide +kernel
theorem dX7_grade_103 : decode cX7_grade 103 = .ok (.aload_n 0, 1) := by decide +kernel
theorem dX7_grade_104 : decode cX7_grade 104 = .ok (.getfield 190, 3) := by decide +kernel
theorem dX7_grade_107 : decode cX7_grade 107 = .ok (.iconst 1, 1) := by decide +kernel
theorem dX7_grade_108 : decode cX7_grade 108 = .ok (.isub, 1) := by decide +kernel
theorem dX7_grade_109 : decode cX7_grade 109 = .ok (.ireturn, 1) := by decide +kernel
theorem dX7_ungrade_0 : decode cX7_ungrade 0 = .ok (.aload_n 0, 1) := by decide +kernel
theorem dX7_ungrade_1 : decode cX7_ungrade 1 = .ok (.iconst 0, 1) := by decide +kernel
theorem dX7_ungrade_2 : decode cX7_ungrade 2 = .ok (.putfield 93, 3) := by decide +kernel
theorem dX7_ungrade_5 : decode cX7_ungrade 5 = .ok (.aload_n 0, 1) := by decide +kernel
theorem dX7_ungrade_6 : decode cX7_ungrade 6 = .ok (.getfield 190, 3) := by decide +kernel
theorem dX7_ungrade_9 : decode cX7_ungrade 9 = .ok (.istore_n 1, 1) := by decide +kernel
theorem dX7_ungrade_10 : decode cX7_ungrade 10 = .ok (.aload_n 0, 1) := by decide +kernel
theorem dX7_ungrade_11 : decode cX7_ungrade 11 = .ok (.iconst 0, 1) := by decide +kernel
theorem dX7_ungrade_12 : decode cX7_ungrade 12 = .ok (.putfield 190, 3) := by decide +kernel
theorem dX7_ungrade_15 : decode cX7_ungrade 15 = .ok (.iload_n 1, 1) := by decide +kernel
theorem dX7_ungrade_16 : decode cX7_ungrade 16 = .ok (.ireturn, 1) := by decide +kernel
theorem dX7_dearest_0 : decode cX7_dearest 0 = .ok (.iconst (-1), 1) := by decide +kernel
theorem dX7_dearest_1 : decode cX7_dearest 1 = .ok (.istore_n 1, 1) := by decide +kernel
theorem dX7_dearest_2 : decode cX7_dearest 2 = .ok (.iconst 0, 1) := by decide +kernel
theorem dX7_dearest_3 : decode cX7_dearest 3 = .ok (.istore_n 2, 1) := by decide +kernel
theorem dX7_dearest_4 : decode cX7_dearest 4 = .ok (.iload_n 2, 1) := by decide +kernel
theorem dX7_dearest_5 : decode cX7_dearest 5 = .ok (.aload_n 0, 1) := by decide +kernel
theorem dX7_dearest_6 : decode cX7_dearest 6 = .ok (.getfield 190, 3) := by decide +kernel
theorem dX7_dearest_9 : decode cX7_dearest 9 = .ok (.if_icmp .ge 39, 3) := by decide +kernel
theorem dX7_dearest_12 : decode cX7_dearest 12 = .ok (.aload_n 0, 1) := by decide +kernel
theorem dX7_dearest_13 : decode cX7_dearest 13 = .ok (.getfield 77, 3) := by decide +kernel
theorem dX7_dearest_16 : decode cX7_dearest 16 = .ok (.iload_n 2, 1) := by decide +kernel
theorem dX7_dearest_17 : decode cX7_dearest 17 = .ok (.baload, 1) := by decide +kernel
theorem dX7_dearest_18 : decode cX7_dearest 18 = .ok (.ifCond .ne 24, 3) := by decide +kernel
theorem dX7_dearest_21 : decode cX7_dearest 21 = .ok (.iload_n 1, 1) := by decide +kernel
theorem dX7_dearest_22 : decode cX7_dearest 22 = .ok (.ifCond .lt 18, 3) := by decide +kernel
theorem dX7_dearest_25 : decode cX7_dearest 25 = .ok (.aload_n 0, 1) := by decide +kernel
theorem dX7_dearest_26 : decode cX7_dearest 26 = .ok (.getfield 68, 3) := by decide +kernel
theorem dX7_dearest_29 : decode cX7_dearest 29 = .ok (.iload_n 2, 1) := by decide +kernel
theorem dX7_dearest_30 : decode cX7_dearest 30 = .ok (.iaload, 1) := by decide +kernel
theorem dX7_dearest_31 : decode cX7_dearest 31 = .ok (.aload_n 0, 1) := by decide +kernel
theorem dX7_dearest_32 : decode cX7_dearest 32 = .ok (.getfield 68, 3) := by decide +kernel
theorem dX7_dearest_35 : decode cX7_dearest 35 = .ok (.iload_n 1, 1) := by decide +kernel
theorem dX7_dearest_36 : decode cX7_dearest 36 = .ok (.iaload, 1) := by decide +kernel
theorem dX7_dearest_37 : decode cX7_dearest 37 = .ok (.if_icmp .le 5, 3) := by decide +kernel
theorem dX7_dearest_40 : decode cX7_dearest 40 = .ok (.iload_n 2, 1) := by decide +kernel
theorem dX7_dearest_41 : decode cX7_dearest 41 = .ok (.istore_n 1, 1) := by decide +kernel
theorem dX7_dearest_42 : decode cX7_dearest 42 = .ok (.iinc 2 1, 3) := by decide +kernel
theorem dX7_dearest_45 : decode cX7_dearest 45 = .ok (.goto (-41), 3) := by decide +kernel
theorem dX7_dearest_48 : decode cX7_dearest 48 = .ok (.iload_n 1, 1) := by decide +kernel
theorem dX7_dearest_49 : decode cX7_dearest 49 = .ok (.ireturn, 1) := by decide +kernel
set_option maxRecDepth 20000 in
theorem ggX7_most_X7_dearest : GoodIn wsX7_most wsX7_dearest := goodIn_r _ [16, 17, 4, 11, 18, 19, 20, 21, 22, 23, 24, 25, 26, 27, 28, 29, 30, 31, 32, 33, 34, 35, 36, 37, 38, 39, 40, 41, 42, 43, 44, 45, 46, 47, 48, 49, 50, 51, 52, 53, 54, 55, 56, 57, 58, 59] (by decide +kernel) (by decide +kernel)
set_option maxRecDepth 20000 in
theorem gX7_most_X7_dearest : GoodIn wsX7_most (wsV RX7 193 RX7 yX7_dearest wsX7_dearest) := goodIn_app (goodIn_of _ (by decide +kernel)) ggX7_most_X7_dearest
theorem dX7_most_0 : decode cX7_most 0 = .ok (.aload_n 0, 1) := by decide +kernel
theorem dX7_most_1 : decode cX7_most 1 = .ok (.iconst 0, 1) := by decide +kernel
theorem dX7_most_2 : decode cX7_most 2 = .ok (.putfield 93, 3) := by decide +kernel
theorem dX7_most_5 : decode cX7_most 5 = .ok (.iconst 0, 1) := by decide +kernel
theorem dX7_most_6 : decode cX7_most 6 = .ok (.istore_n 1, 1) := by decide +kernel
theorem dX7_most_7 : decode cX7_most 7 = .ok (.bipush 9, 2) := by decide +kernel
theorem dX7_most_9 : decode cX7_most 9 = .ok (.istore_n 2, 1) := by decide +kernel
theorem dX7_most_10 : decode cX7_most 10 = .ok (.iload_n 2, 1) := by decide +kernel
theorem dX7_most_11 : decode cX7_most 11 = .ok (.ifCond .lt 25, 3) := by decide +kernel
theorem dX7_most_14 : decode cX7_most 14 = .ok (.iload_n 1, 1) := by decide +kernel
theorem dX7_most_15 : decode cX7_most 15 = .ok (.aload_n 0, 1) := by decide +kernel
theorem dX7_most_16 : decode cX7_most 16 = .ok (.getfield 62, 3) := by decide +kernel
theorem dX7_most_19 : decode cX7_most 19 = .ok (.iload_n 2, 1) := by decide +kernel
theorem dX7_most_20 : decode cX7_most 20 = .ok (.iaload, 1) := by decide +kernel
theorem dX7_most_21 : decode cX7_most 21 = .ok (.iadd, 1) := by decide +kernel
theorem dX7_most_22 : decode cX7_most 22 = .ok (.istore_n 1, 1) := by decide +kernel
theorem dX7_most_23 : decode cX7_most 23 = .ok (.aload_n 0, 1) := by decide +kernel
theorem dX7_most_24 : decode cX7_most 24 = .ok (.getfield 74, 3) := by decide +kernel
theorem dX7_most_27 : decode cX7_most 27 = .ok (.iload_n 2, 1) := by decide +kernel
theorem dX7_most_28 : decode cX7_most 28 = .ok (.iload_n 1, 1) := by decide +kernel
theorem dX7_most_29 : decode cX7_most 29 = .ok (.iastore, 1) := by decide +kernel
theorem dX7_most_30 : decode cX7_most 30 = .ok (.iinc 2 (-1), 3) := by decide +kernel
theorem dX7_most_33 : decode cX7_most 33 = .ok (.goto (-23), 3) := by decide +kernel
theorem dX7_most_36 : decode cX7_most 36 = .ok (.iconst 0, 1) := by decide +kernel
theorem dX7_most_37 : decode cX7_most 37 = .ok (.istore_n 2, 1) := by decide +kernel
theorem dX7_most_38 : decode cX7_most 38 = .ok (.iload_n 2, 1) := by decide +kernel
theorem dX7_most_39 : decode cX7_most 39 = .ok (.bipush 6, 2) := by decide +kernel
theorem dX7_most_41 : decode cX7_most 41 = .ok (.if_icmp .ge 16, 3) := by decide +kernel
theorem dX7_most_44 : decode cX7_most 44 = .ok (.aload_n 0, 1) := by decide +kernel
theorem dX7_most_45 : decode cX7_most 45 = .ok (.getfield 77, 3) := by decide +kernel
theorem dX7_most_48 : decode cX7_most 48 = .ok (.iload_n 2, 1) := by decide +kernel
theorem dX7_most_49 : decode cX7_most 49 = .ok (.iconst 0, 1) := by decide +kernel
theorem dX7_most_50 : decode cX7_most 50 = .ok (.bastore, 1) := by decide +kernel
theorem dX7_most_51 : decode cX7_most 51 = .ok (.iinc 2 1, 3) := by decide +kernel
theorem dX7_most_54 : decode cX7_most 54 = .ok (.goto (-16), 3) := by decide +kernel
theorem dX7_most_57 : decode cX7_most 57 = .ok (.iconst 0, 1) := by decide +kernel
theorem dX7_most_58 : decode cX7_most 58 = .ok (.istore_n 2, 1) := by decide +kernel
theorem dX7_most_59 : decode cX7_most 59 = .ok (.aload_n 0, 1) := by decide +kernel
theorem dX7_most_60 : decode cX7_most 60 = .ok (.invokevirtual 193, 3) := by decide +kernel
theorem dX7_most_63 : decode cX7_most 63 = .ok (.istore_n 3, 1) := by decide +kernel
theorem dX7_most_64 : decode cX7_most 64 = .ok (.iload_n 3, 1) := by decide +kernel
theorem dX7_most_65 : decode cX7_most 65 = .ok (.ifCond .lt 104, 3) := by decide +kernel
theorem dX7_most_68 : decode cX7_most 68 = .ok (.aload_n 0, 1) := by decide +kernel
theorem dX7_most_69 : decode cX7_most 69 = .ok (.getfield 77, 3) := by decide +kernel
theorem dX7_most_72 : decode cX7_most 72 = .ok (.iload_n 3, 1) := by decide +kernel
theorem dX7_most_73 : decode cX7_most 73 = .ok (.iconst 1, 1) := by decide +kernel
theorem dX7_most_74 : decode cX7_most 74 = .ok (.bastore, 1) := by decide +kernel
theorem dX7_most_75 : decode cX7_most 75 = .ok (.aload_n 0, 1) := by decide +kernel
theorem dX7_most_76 : decode cX7_most 76 = .ok (.getfield 71, 3) := by decide +kernel
theorem dX7_most_79 : decode cX7_most 79 = .ok (.iload_n 3, 1) := by decide +kernel
theorem dX7_most_80 : decode cX7_most 80 = .ok (.iaload, 1) := by decide +kernel
theorem dX7_most_81 : decode cX7_most 81 = .ok (.istore 4, 2) := by decide +kernel
theorem dX7_most_83 : decode cX7_most 83 = .ok (.iconst 0, 1) := by decide +kernel
theorem dX7_most_84 : decode cX7_most 84 = .ok (.istore 5, 2) := by decide +kernel
theorem dX7_most_86 : decode cX7_most 86 = .ok (.iload 5, 2) := by decide +kernel
theorem dX7_most_88 : decode cX7_most 88 = .ok (.aload_n 0, 1) := by decide +kernel
theorem dX7_most_89 : decode cX7_most 89 = .ok (.getfield 65, 3) := by decide +kernel
theorem dX7_most_92 : decode cX7_most 92 = .ok (.iload_n 3, 1) := by decide +kernel
theorem dX7_most_93 : decode cX7_most 93 = .ok (.iaload, 1) := by decide +kernel
theorem dX7_most_94 : decode cX7_most 94 = .ok (.if_icmp .gt 23, 3) := by decide +kernel
theorem dX7_most_97 : decode cX7_most 97 = .ok (.iload 4, 2) := by decide +kernel
theorem dX7_most_99 : decode cX7_most 99 = .ok (.aload_n 0, 1) := by decide +kernel
theorem dX7_most_100 : decode cX7_most 100 = .ok (.getfield 74, 3) := by decide +kernel
theorem dX7_most_103 : decode cX7_most 103 = .ok (.iload 5, 2) := by decide +kernel
theorem dX7_most_105 : decode cX7_most 105 = .ok (.iaload, 1) := by decide +kernel
theorem dX7_most_106 : decode cX7_most 106 = .ok (.invokestatic 158, 3) := by decide +kernel
theorem dX7_most_109 : decode cX7_most 109 = .ok (.istore 4, 2) := by decide +kernel
theorem dX7_most_111 : decode cX7_most 111 = .ok (.iinc 5 1, 3) := by decide +kernel
theorem dX7_most_114 : decode cX7_most 114 = .ok (.goto (-28), 3) := by decide +kernel
theorem dX7_most_117 : decode cX7_most 117 = .ok (.iconst 0, 1) := by decide +kernel
theorem dX7_most_118 : decode cX7_most 118 = .ok (.istore 5, 2) := by decide +kernel
theorem dX7_most_120 : decode cX7_most 120 = .ok (.iload 5, 2) := by decide +kernel
theorem dX7_most_122 : decode cX7_most 122 = .ok (.aload_n 0, 1) := by decide +kernel
theorem dX7_most_123 : decode cX7_most 123 = .ok (.getfield 65, 3) := by decide +kernel
theorem dX7_most_126 : decode cX7_most 126 = .ok (.iload_n 3, 1) := by decide +kernel
theorem dX7_most_127 : decode cX7_most 127 = .ok (.iaload, 1) := by decide +kernel
theorem dX7_most_128 : decode cX7_most 128 = .ok (.if_icmp .gt 21, 3) := by decide +kernel
theorem dX7_most_131 : decode cX7_most 131 = .ok (.aload_n 0, 1) := by decide +kernel
theorem dX7_most_132 : decode cX7_most 132 = .ok (.getfield 74, 3) := by decide +kernel
theorem dX7_most_135 : decode cX7_most 135 = .ok (.iload 5, 2) := by decide +kernel
theorem dX7_most_137 : decode cX7_most 137 = .ok (.dup2, 1) := by decide +kernel
theorem dX7_most_138 : decode cX7_most 138 = .ok (.iaload, 1) := by decide +kernel
theorem dX7_most_139 : decode cX7_most 139 = .ok (.iload 4, 2) := by decide +kernel
theorem dX7_most_141 : decode cX7_most 141 = .ok (.isub, 1) := by decide +kernel
theorem dX7_most_142 : decode cX7_most 142 = .ok (.iastore, 1) := by decide +kernel
theorem dX7_most_143 : decode cX7_most 143 = .ok (.iinc 5 1, 3) := by decide +kernel
theorem dX7_most_146 : decode cX7_most 146 = .ok (.goto (-26), 3) := by decide +kernel
theorem dX7_most_149 : decode cX7_most 149 = .ok (.iload_n 2, 1) := by decide +kernel
theorem dX7_most_150 : decode cX7_most 150 = .ok (.iload 4, 2) := by decide +kernel
theorem dX7_most_152 : decode cX7_most 152 = .ok (.aload_n 0, 1) := by decide +kernel
theorem dX7_most_153 : decode cX7_most 153 = .ok (.getfield 68, 3) := by decide +kernel
theorem dX7_most_156 : decode cX7_most 156 = .ok (.iload_n 3, 1) := by decide +kernel
theorem dX7_most_157 : decode cX7_most 157 = .ok (.iaload, 1) := by decide +kernel
theorem dX7_most_158 : decode cX7_most 158 = .ok (.imul, 1) := by decide +kernel
theorem dX7_most_159 : decode cX7_most 159 = .ok (.iadd, 1) := by decide +kernel
theorem dX7_most_160 : decode cX7_most 160 = .ok (.istore_n 2, 1) := by decide +kernel
theorem dX7_most_161 : decode cX7_most 161 = .ok (.aload_n 0, 1) := by decide +kernel
theorem dX7_most_162 : decode cX7_most 162 = .ok (.invokevirtual 193, 3) := by decide +kernel
theorem dX7_most_165 : decode cX7_most 165 = .ok (.istore_n 3, 1) := by decide +kernel
theorem dX7_most_166 : decode cX7_most 166 = .ok (.goto (-102), 3) := by decide +kernel
theorem dX7_most_169 : decode cX7_most 169 = .ok (.iload_n 2, 1) := by decide +kernel
theorem dX7_most_170 : decode cX7_most 170 = .ok (.ireturn, 1) := by decide +kernel
set_option maxRecDepth 20000 in
theorem ggX7_noColour_X7_in : GoodIn wsX7_noColour wsX7_in := goodIn_r _ [4] (by decide +kernel) (by decide +kernel)
set_option maxRecDepth 20000 in
theorem gX7_noColour_X7_in : GoodIn wsX7_noColour (va_wsS RX7 96 yX7_in wsX7_in) := goodIn_app (goodIn_of _ (by decide +kernel)) ggX7_noColour_X7_in
theorem dX7_noColour_0 : decode cX7_noColour 0 = .ok (.iload_n 0, 1) := by decide +kernel
theorem dX7_noColour_1 : decode cX7_noColour 1 = .ok (.iconst 0, 1) := by decide +kernel
theorem dX7_noColour_2 : decode cX7_noColour 2 = .ok (.iconst 5, 1) := by decide +kernel
theorem dX7_noColour_3 : decode cX7_noColour 3 = .ok (.invokestatic 96, 3) := by decide +kernel
theorem dX7_noColour_6 : decode cX7_noColour 6 = .ok (.ifCond .ne 7, 3) := by decide +kernel
theorem dX7_noColour_9 : decode cX7_noColour 9 = .ok (.iconst 1, 1) := by decide +kernel
theorem dX7_noColour_10 : decode cX7_noColour 10 = .ok (.goto 4, 3) := by decide +kernel
theorem dX7_noColour_13 : decode cX7_noColour 13 = .ok (.iconst 0, 1) := by decide +kernel
theorem dX7_noColour_14 : decode cX7_noColour 14 = .ok (.ireturn, 1) := by decide +kernel
set_option maxRecDepth 20000 in
theorem ggX7_change_X7_noColour : GoodIn wsX7_change wsX7_noColour := goodIn_r _ [6, 7, 8, 5, 9] (by decide +kernel) (by decide +kernel)
set_option maxRecDepth 20000 in
theorem gX7_change_X7_noColour : GoodIn wsX7_change (va_wsS RX7 196 yX7_noColour wsX7_noColour) := goodIn_app (goodIn_of _ (by decide +kernel)) ggX7_change_X7_noColour
set_option maxRecDepth 20000 in
theorem ggX7_change_X7_throwsIf : GoodIn wsX7_change wsX7_throwsIf := goodIn_r _ [13, 1, 14, 15, 16, 17, 18, 19, 20, 21, 22, 23, 24, 25, 26, 27, 28, 29, 30, 31, 32, 33, 34, 35, 36, 37, 38, 39, 40, 41, 42, 43, 44, 45, 46, 47, 48, 49, 50, 51, 52, 53, 54, 55] (by decide +kernel) (by decide +kernel)
set_option maxRecDepth 20000 in
theorem gX7_change_X7_throwsIf : GoodIn wsX7_change (wsV RX7 100 RX7 yX7_throwsIf wsX7_throwsIf) := goodIn_app (goodIn_of _ (by decide +kernel)) ggX7_change_X7_throwsIf
set_option maxRecDepth 20000 in
theorem ggX7_change_X7_in : GoodIn wsX7_change wsX7_in := goodIn_r _ [9] (by decide +kernel) (by decide +kernel)
set_option maxRecDepth 20000 in
theorem gX7_change_X7_in : GoodIn wsX7_change (va_wsS RX7 96 yX7_in wsX7_in) := goodIn_app (goodIn_of _ (by decide +kernel)) ggX7_change_X7_in
theorem dX7_change_0 : decode cX7_change 0 = .ok (.aload_n 0, 1) := by decide +kernel
theorem dX7_change_1 : decode cX7_change 1 = .ok (.iconst 0, 1) := by decide +kernel
theorem dX7_change_2 : decode cX7_change 2 = .ok (.putfield 93, 3) := by decide +kernel
theorem dX7_change_5 : decode cX7_change 5 = .ok (.aload_n 0, 1) := by decide +kernel
theorem dX7_change_6 : decode cX7_change 6 = .ok (.iload_n 1, 1) := by decide +kernel
theorem dX7_change_7 : decode cX7_change 7 = .ok (.invokestatic 196, 3) := by decide +kernel
theorem dX7_change_10 : decode cX7_change 10 = .ok (.ifCond .ne 10, 3) := by decide +kernel
theorem dX7_change_13 : decode cX7_change 13 = .ok (.iload_n 2, 1) := by decide +kernel
theorem dX7_change_14 : decode cX7_change 14 = .ok (.invokestatic 196, 3) := by decide +kernel
theorem dX7_change_17 : decode cX7_change 17 = .ok (.ifCond .eq 7, 3) := by decide +kernel
theorem dX7_change_20 : decode cX7_change 20 = .ok (.iconst 1, 1) := by decide +kernel
theorem dX7_change_21 : decode cX7_change 21 = .ok (.goto 4, 3) := by decide +kernel
theorem dX7_change_24 : decode cX7_change 24 = .ok (.iconst 0, 1) := by decide +kernel
theorem dX7_change_25 : decode cX7_change 25 = .ok (.iconst 1, 1) := by decide +kernel
theorem dX7_change_26 : decode cX7_change 26 = .ok (.invokevirtual 100, 3) := by decide +kernel
theorem dX7_change_29 : decode cX7_change 29 = .ok (.ifCond .ne 32, 3) := by decide +kernel
theorem dX7_change_32 : decode cX7_change 32 = .ok (.aload_n 0, 1) := by decide +kernel
theorem dX7_change_33 : decode cX7_change 33 = .ok (.iload_n 3, 1) := by decide +kernel
theorem dX7_change_34 : decode cX7_change 34 = .ok (.iconst 0, 1) := by decide +kernel
theorem dX7_change_35 : decode cX7_change 35 = .ok (.sipush 1000, 3) := by decide +kernel
theorem dX7_change_38 : decode cX7_change 38 = .ok (.invokestatic 96, 3) := by decide +kernel
theorem dX7_change_41 : decode cX7_change 41 = .ok (.ifCond .eq 8, 3) := by decide +kernel
theorem dX7_change_44 : decode cX7_change 44 = .ok (.iload_n 1, 1) := by decide +kernel
theorem dX7_change_45 : decode cX7_change 45 = .ok (.iload_n 2, 1) := by decide +kernel
theorem dX7_change_46 : decode cX7_change 46 = .ok (.if_icmp .ne 7, 3) := by decide +kernel
theorem dX7_change_49 : decode cX7_change 49 = .ok (.iconst 1, 1) := by decide +kernel
theorem dX7_change_50 : decode cX7_change 50 = .ok (.goto 4, 3) := by decide +kernel
theorem dX7_change_53 : decode cX7_change 53 = .ok (.iconst 0, 1) := by decide +kernel
theorem dX7_change_54 : decode cX7_change 54 = .ok (.iconst 2, 1) := by decide +kernel
theorem dX7_change_55 : decode cX7_change 55 = .ok (.invokevirtual 100, 3) := by decide +kernel
theorem dX7_change_58 : decode cX7_change 58 = .ok (.ifCond .eq 4, 3) := by decide +kernel
theorem dX7_change_61 : decode cX7_change 61 = .ok (.return_, 1) := by decide +kernel
theorem dX7_change_62 : decode cX7_change 62 = .ok (.aload_n 0, 1) := by decide +kernel
theorem dX7_change_63 : decode cX7_change 63 = .ok (.getfield 80, 3) := by decide +kernel
theorem dX7_change_66 : decode cX7_change 66 = .ok (.bipush 6, 2) := by decide +kernel
theorem dX7_change_68 : decode cX7_change 68 = .ok (.iload_n 1, 1) := by decide +kernel
theorem dX7_change_69 : decode cX7_change 69 = .ok (.imul, 1) := by decide +kernel
theorem dX7_change_70 : decode cX7_change 70 = .ok (.iload_n 2, 1) := by decide +kernel
theorem dX7_change_71 : decode cX7_change 71 = .ok (.iadd, 1) := by decide +kernel
theorem dX7_change_72 : decode cX7_change 72 = .ok (.iload_n 3, 1) := by decide +kernel
theorem dX7_change_73 : decode cX7_change 73 = .ok (.iastore, 1) := by decide +kernel
theorem dX7_change_74 : decode cX7_change 74 = .ok (.return_, 1) := by decide +kernel
set_option maxRecDepth 20000 in
theorem ggX7_job_X7_noColour : GoodIn wsX7_job wsX7_noColour := goodIn_r _ [7, 8, 9, 6, 10] (by decide +kernel) (by decide +kernel)
set_option maxRecDepth 20000 in
theorem gX7_job_X7_noColour : GoodIn wsX7_job (va_wsS RX7 196 yX7_noColour wsX7_noColour) := goodIn_app (goodIn_of _ (by decide +kernel)) ggX7_job_X7_noColour
set_option maxRecDepth 20000 in
theorem ggX7_job_X7_throwsIf : GoodIn wsX7_job wsX7_throwsIf := goodIn_r _ [14, 1, 15, 16, 17, 18, 19, 20, 21, 22, 23, 24, 25, 26, 27, 28, 29, 30, 31, 32, 33, 34, 35, 36, 37, 38, 39, 40, 41, 42, 43, 44, 45, 46, 47, 48, 49, 50, 51, 52, 53, 54, 55, 56] (by decide +kernel) (by decide +kernel)
set_option maxRecDepth 20000 in
theorem gX7_job_X7_throwsIf : GoodIn wsX7_job (wsV RX7 100 RX7 yX7_throwsIf wsX7_throwsIf) := goodIn_app (goodIn_of _ (by decide +kernel)) ggX7_job_X7_throwsIf
theorem dX7_job_0 : decode cX7_job 0 = .ok (.aload_n 0, 1) := by decide +kernel
theorem dX7_job_1 : decode cX7_job 1 = .ok (.iconst 0, 1) := by decide +kernel
theorem dX7_job_2 : decode cX7_job 2 = .ok (.putfield 93, 3) := by decide +kernel
theorem dX7_job_5 : decode cX7_job 5 = .ok (.aload_n 0, 1) := by decide +kernel
theorem dX7_job_6 : decode cX7_job 6 = .ok (.iload_n 1, 1) := by decide +kernel
theorem dX7_job_7 : decode cX7_job 7 = .ok (.invokestatic 196, 3) := by decide +kernel
theorem dX7_job_10 : decode cX7_job 10 = .ok (.iconst 1, 1) := by decide +kernel
theorem dX7_job_11 : decode cX7_job 11 = .ok (.invokevirtual 100, 3) := by decide +kernel
theorem dX7_job_14 : decode cX7_job 14 = .ok (.ifCond .eq 5, 3) := by decide +kernel
theorem dX7_job_17 : decode cX7_job 17 = .ok (.iconst 0, 1) := by decide +kernel
theorem dX7_job_18 : decode cX7_job 18 = .ok (.ireturn, 1) := by decide +kernel
theorem dX7_job_19 : decode cX7_job 19 = .ok (.aload_n 0, 1) := by decide +kernel
theorem dX7_job_20 : decode cX7_job 20 = .ok (.getfield 199, 3) := by decide +kernel
theorem dX7_job_23 : decode cX7_job 23 = .ok (.bipush 10, 2) := by decide +kernel
theorem dX7_job_25 : decode cX7_job 25 = .ok (.if_icmp .ne 5, 3) := by decide +kernel
theorem dX7_job_28 : decode cX7_job 28 = .ok (.iconst (-1), 1) := by decide +kernel
theorem dX7_job_29 : decode cX7_job 29 = .ok (.ireturn, 1) := by decide +kernel
theorem dX7_job_30 : decode cX7_job 30 = .ok (.aload_n 0, 1) := by decide +kernel
theorem dX7_job_31 : decode cX7_job 31 = .ok (.getfield 83, 3) := by decide +kernel
theorem dX7_job_34 : decode cX7_job 34 = .ok (.aload_n 0, 1) := by decide +kernel
theorem dX7_job_35 : decode cX7_job 35 = .ok (.getfield 199, 3) := by decide +kernel
theorem dX7_job_38 : decode cX7_job 38 = .ok (.iload_n 1, 1) := by decide +kernel
theorem dX7_job_39 : decode cX7_job 39 = .ok (.iastore, 1) := by decide +kernel
theorem dX7_job_40 : decode cX7_job 40 = .ok (.aload_n 0, 1) := by decide +kernel
theorem dX7_job_41 : decode cX7_job 41 = .ok (.dup, 1) := by decide +kernel
theorem dX7_job_42 : decode cX7_job 42 = .ok (.getfield 199, 3) := by decide +kernel
theorem dX7_job_45 : decode cX7_job 45 = .ok (.iconst 1, 1) := by decide +kernel
theorem dX7_job_46 : decode cX7_job 46 = .ok (.iadd, 1) := by decide +kernel
theorem dX7_job_47 : decode cX7_job 47 = .ok (.putfield 199, 3) := by decide +kernel
theorem dX7_job_50 : decode cX7_job 50 = .ok (.aload_n 0, 1) := by decide +kernel
theorem dX7_job_51 : decode cX7_job 51 = .ok (.getfield 199, 3) := by decide +kernel
theorem dX7_job_54 : decode cX7_job 54 = .ok (.ireturn, 1) := by decide +kernel
set_option maxRecDepth 20000 in
theorem ggX7_on_X7_noColour : GoodIn wsX7_on wsX7_noColour := goodIn_r _ [6, 7, 8, 5, 9] (by decide +kernel) (by decide +kernel)
set_option maxRecDepth 20000 in
theorem gX7_on_X7_noColour : GoodIn wsX7_on (va_wsS RX7 196 yX7_noColour wsX7_noColour) := goodIn_app (goodIn_of _ (by decide +kernel)) ggX7_on_X7_noColour
set_option maxRecDepth 20000 in
theorem ggX7_on_X7_throwsIf : GoodIn wsX7_on wsX7_throwsIf := goodIn_r _ [13, 1, 14, 15, 16, 17, 18, 19, 20, 21, 22, 23, 24, 25, 26, 27, 28, 29, 30, 31, 32, 33, 34, 35, 36, 37, 38, 39, 40, 41, 42, 43, 44, 45, 46, 47, 48, 49, 50, 51, 52, 53, 54, 55] (by decide +kernel) (by decide +kernel)
set_option maxRecDepth 20000 in
theorem gX7_on_X7_throwsIf : GoodIn wsX7_on (wsV RX7 100 RX7 yX7_throwsIf wsX7_throwsIf) := goodIn_app (goodIn_of _ (by decide +kernel)) ggX7_on_X7_throwsIf
theorem dX7_on_0 : decode cX7_on 0 = .ok (.aload_n 0, 1) := by decide +kernel
theorem dX7_on_1 : decode cX7_on 1 = .ok (.iconst 0, 1) := by decide +kernel
theorem dX7_on_2 : decode cX7_on 2 = .ok (.putfield 93, 3) := by decide +kernel
theorem dX7_on_5 : decode cX7_on 5 = .ok (.aload_n 0, 1) := by decide +kernel
theorem dX7_on_6 : decode cX7_on 6 = .ok (.iload_n 1, 1) := by decide +kernel
theorem dX7_on_7 : decode cX7_on 7 = .ok (.iconst (-1), 1) := by decide +kernel
theorem dX7_on_8 : decode cX7_on 8 = .ok (.if_icmp .eq 14, 3) := by decide +kernel
theorem dX7_on_11 : decode cX7_on 11 = .ok (.iload_n 1, 1) := by decide +kernel
theorem dX7_on_12 : decode cX7_on 12 = .ok (.invokestatic 196, 3) := by decide +kernel
theorem dX7_on_15 : decode cX7_on 15 = .ok (.ifCond .eq 7, 3) := by decide +kernel
theorem dX7_on_18 : decode cX7_on 18 = .ok (.iconst 1, 1) := by decide +kernel
theorem dX7_on_19 : decode cX7_on 19 = .ok (.goto 4, 3) := by decide +kernel
theorem dX7_on_22 : decode cX7_on 22 = .ok (.iconst 0, 1) := by decide +kernel
theorem dX7_on_23 : decode cX7_on 23 = .ok (.iconst 1, 1) := by decide +kernel
theorem dX7_on_24 : decode cX7_on 24 = .ok (.invokevirtual 100, 3) := by decide +kernel
theorem dX7_on_27 : decode cX7_on 27 = .ok (.ifCond .eq 4, 3) := by decide +kernel
theorem dX7_on_30 : decode cX7_on 30 = .ok (.return_, 1) := by decide +kernel
theorem dX7_on_31 : decode cX7_on 31 = .ok (.aload_n 0, 1) := by decide +kernel
theorem dX7_on_32 : decode cX7_on 32 = .ok (.iload_n 1, 1) := by decide +kernel
theorem dX7_on_33 : decode cX7_on 33 = .ok (.putfield 86, 3) := by decide +kernel
theorem dX7_on_36 : decode cX7_on 36 = .ok (.return_, 1) := by decide +kernel
theorem dX7_costs_0 : decode cX7_costs 0 = .ok (.iload_n 1, 1) := by decide +kernel
theorem dX7_costs_1 : decode cX7_costs 1 = .ok (.bipush 6, 2) := by decide +kernel
theorem dX7_costs_3 : decode cX7_costs 3 = .ok (.if_icmp .ne 7, 3) := by decide +kernel
theorem dX7_costs_6 : decode cX7_costs 6 = .ok (.iconst 0, 1) := by decide +kernel
theorem dX7_costs_7 : decode cX7_costs 7 = .ok (.goto 14, 3) := by decide +kernel
theorem dX7_costs_10 : decode cX7_costs 10 = .ok (.aload_n 0, 1) := by decide +kernel
theorem dX7_costs_11 : decode cX7_costs 11 = .ok (.getfield 80, 3) := by decide +kernel
theorem dX7_costs_14 : decode cX7_costs 14 = .ok (.bipush 6, 2) := by decide +kernel
theorem dX7_costs_16 : decode cX7_costs 16 = .ok (.iload_n 1, 1) := by decide +kernel
theorem dX7_costs_17 : decode cX7_costs 17 = .ok (.imul, 1) := by decide +kernel
theorem dX7_costs_18 : decode cX7_costs 18 = .ok (.iload_n 2, 1) := by decide +kernel
theorem dX7_costs_19 : decode cX7_costs 19 = .ok (.iadd, 1) := by decide +kernel
theorem dX7_costs_20 : decode cX7_costs 20 = .ok (.iaload, 1) := by decide +kernel
theorem dX7_costs_21 : decode cX7_costs 21 = .ok (.ireturn, 1) := by decide +kernel
set_option maxRecDepth 20000 in
theorem ggX7_next_X7_costs : GoodIn wsX7_next wsX7_costs := goodIn_r _ [7, 8, 9, 10, 11, 12, 13, 14, 15, 16, 17, 18, 19, 20, 21, 22, 23, 24, 25, 26, 27, 28, 29, 30, 31, 32, 33, 34, 35, 36, 37, 38, 39, 40, 41, 42, 43, 44, 45, 46, 47, 48, 49, 50] (by decide +kernel) (by decide +kernel)
set_option maxRecDepth 20000 in
theorem gX7_next_X7_costs : GoodIn wsX7_next (wsV RX7 202 RX7 yX7_costs wsX7_costs) := goodIn_app (goodIn_of _ (by decide +kernel)) ggX7_next_X7_costs
theorem dX7_next_0 : decode cX7_next 0 = .ok (.aload_n 0, 1) := by decide +kernel
theorem dX7_next_1 : decode cX7_next 1 = .ok (.iload_n 2, 1) := by decide +kernel
theorem dX7_next_2 : decode cX7_next 2 = .ok (.aload_n 0, 1) := by decide +kernel
theorem dX7_next_3 : decode cX7_next 3 = .ok (.getfield 83, 3) := by decide +kernel
theorem dX7_next_6 : decode cX7_next 6 = .ok (.iload_n 3, 1) := by decide +kernel
theorem dX7_next_7 : decode cX7_next 7 = .ok (.iaload, 1) := by decide +kernel
theorem dX7_next_8 : decode cX7_next 8 = .ok (.invokevirtual 202, 3) := by decide +kernel
theorem dX7_next_11 : decode cX7_next 11 = .ok (.aload_n 0, 1) := by decide +kernel
theorem dX7_next_12 : decode cX7_next 12 = .ok (.getfield 90, 3) := by decide +kernel
theorem dX7_next_15 : decode cX7_next 15 = .ok (.iload_n 1, 1) := by decide +kernel
theorem dX7_next_16 : decode cX7_next 16 = .ok (.iconst 1, 1) := by decide +kernel
theorem dX7_next_17 : decode cX7_next 17 = .ok (.iload_n 3, 1) := by decide +kernel
theorem dX7_next_18 : decode cX7_next 18 = .ok (.ishl, 1) := by decide +kernel
theorem dX7_next_19 : decode cX7_next 19 = .ok (.ior, 1) := by decide +kernel
theorem dX7_next_20 : decode cX7_next 20 = .ok (.bipush 7, 2) := by decide +kernel
theorem dX7_next_22 : decode cX7_next 22 = .ok (.imul, 1) := by decide +kernel
theorem dX7_next_23 : decode cX7_next 23 = .ok (.aload_n 0, 1) := by decide +kernel
theorem dX7_next_24 : decode cX7_next 24 = .ok (.getfield 83, 3) := by decide +kernel
theorem dX7_next_27 : decode cX7_next 27 = .ok (.iload_n 3, 1) := by decide +kernel
theorem dX7_next_28 : decode cX7_next 28 = .ok (.iaload, 1) := by decide +kernel
theorem dX7_next_29 : decode cX7_next 29 = .ok (.iadd, 1) := by decide +kernel
theorem dX7_next_30 : decode cX7_next 30 = .ok (.iaload, 1) := by decide +kernel
theorem dX7_next_31 : decode cX7_next 31 = .ok (.iadd, 1) := by decide +kernel
theorem dX7_next_32 : decode cX7_next 32 = .ok (.ireturn, 1) := by decide +kernel
set_option maxRecDepth 20000 in
theorem ggX7_changes_X7_next : GoodIn wsX7_changes wsX7_next := goodIn_r _ [15, 10, 8, 16, 17, 18, 14, 19, 20, 21, 22, 23, 24, 25, 26, 27, 28, 29, 30, 31, 32, 33, 34, 35, 36, 37, 38, 39, 40, 41, 42, 43, 44, 45, 46, 47, 48, 49, 50, 51, 52, 53, 54, 55, 56, 57, 58, 59, 60, 61, 62] (by decide +kernel) (by decide +kernel)
set_option maxRecDepth 20000 in
theorem gX7_changes_X7_next : GoodIn wsX7_changes (wsV RX7 206 RX7 yX7_next wsX7_next) := goodIn_app (goodIn_of _ (by decide +kernel)) ggX7_changes_X7_next
theorem dX7_changes_0 : decode cX7_changes 0 = .ok (.aload_n 0, 1) := by decide +kernel
theorem dX7_changes_1 : decode cX7_changes 1 = .ok (.iconst 0, 1) := by decide +kernel
theorem dX7_changes_2 : decode cX7_changes 2 = .ok (.putfield 93, 3) := by decide +kernel
theorem dX7_changes_5 : decode cX7_changes 5 = .ok (.iconst 1, 1) := by decide +kernel
theorem dX7_changes_6 : decode cX7_changes 6 = .ok (.aload_n 0, 1) := by decide +kernel
theorem dX7_changes_7 : decode cX7_changes 7 = .ok (.getfield 199, 3) := by decide +kernel
theorem dX7_changes_10 : decode cX7_changes 10 = .ok (.ishl, 1) := by decide +kernel
theorem dX7_changes_11 : decode cX7_changes 11 = .ok (.iconst 1, 1) := by decide +kernel
theorem dX7_changes_12 : decode cX7_changes 12 = .ok (.isub, 1) := by decide +kernel
theorem dX7_changes_13 : decode cX7_changes 13 = .ok (.istore_n 1, 1) := by decide +kernel
theorem dX7_changes_14 : decode cX7_changes 14 = .ok (.aload_n 0, 1) := by decide +kernel
theorem dX7_changes_15 : decode cX7_changes 15 = .ok (.getfield 199, 3) := by decide +kernel
theorem dX7_changes_18 : decode cX7_changes 18 = .ok (.ifCond .ne 5, 3) := by decide +kernel
theorem dX7_changes_21 : decode cX7_changes 21 = .ok (.iconst 0, 1) := by decide +kernel
theorem dX7_changes_22 : decode cX7_changes 22 = .ok (.ireturn, 1) := by decide +kernel
theorem dX7_changes_23 : decode cX7_changes 23 = .ok (.iload_n 1, 1) := by decide +kernel
theorem dX7_changes_24 : decode cX7_changes 24 = .ok (.istore_n 2, 1) := by decide +kernel
theorem dX7_changes_25 : decode cX7_changes 25 = .ok (.iload_n 2, 1) := by decide +kernel
theorem dX7_changes_26 : decode cX7_changes 26 = .ok (.ifCond .lt 91, 3) := by decide +kernel
theorem dX7_changes_29 : decode cX7_changes 29 = .ok (.iconst 0, 1) := by decide +kernel
theorem dX7_changes_30 : decode cX7_changes 30 = .ok (.istore_n 3, 1) := by decide +kernel
theorem dX7_changes_31 : decode cX7_changes 31 = .ok (.iload_n 3, 1) := by decide +kernel
theorem dX7_changes_32 : decode cX7_changes 32 = .ok (.bipush 6, 2) := by decide +kernel
theorem dX7_changes_34 : decode cX7_changes 34 = .ok (.if_icmp .gt 77, 3) := by decide +kernel
theorem dX7_changes_37 : decode cX7_changes 37 = .ok (.iload_n 2, 1) := by decide +kernel
theorem dX7_changes_38 : decode cX7_changes 38 = .ok (.iload_n 1, 1) := by decide +kernel
theorem dX7_changes_39 : decode cX7_changes 39 = .ok (.if_icmp .ne 7, 3) := by decide +kernel
theorem dX7_changes_42 : decode cX7_changes 42 = .ok (.iconst 0, 1) := by decide +kernel
theorem dX7_changes_43 : decode cX7_changes 43 = .ok (.goto 5, 3) := by decide +kernel
theorem dX7_changes_46 : decode cX7_changes 46 = .ok (.ldc 205, 2) := by decide +kernel
theorem dX7_changes_48 : decode cX7_changes 48 = .ok (.istore 4, 2) := by decide +kernel
theorem dX7_changes_50 : decode cX7_changes 50 = .ok (.iconst 0, 1) := by decide +kernel
theorem dX7_changes_51 : decode cX7_changes 51 = .ok (.istore 5, 2) := by decide +kernel
theorem dX7_changes_53 : decode cX7_changes 53 = .ok (.iload 5, 2) := by decide +kernel
theorem dX7_changes_55 : decode cX7_changes 55 = .ok (.aload_n 0, 1) := by decide +kernel
theorem dX7_changes_56 : decode cX7_changes 56 = .ok (.getfield 199, 3) := by decide +kernel
theorem dX7_changes_59 : decode cX7_changes 59 = .ok (.if_icmp .ge 33, 3) := by decide +kernel
theorem dX7_changes_62 : decode cX7_changes 62 = .ok (.iload_n 2, 1) := by decide +kernel
theorem dX7_changes_63 : decode cX7_changes 63 = .ok (.iload 5, 2) := by decide +kernel
theorem dX7_changes_65 : decode cX7_changes 65 = .ok (.ishr, 1) := by decide +kernel
theorem dX7_changes_66 : decode cX7_changes 66 = .ok (.iconst 1, 1) := by decide +kernel
theorem dX7_changes_67 : decode cX7_changes 67 = .ok (.iand, 1) := by decide +kernel
theorem dX7_changes_68 : decode cX7_changes 68 = .ok (.ifCond .ne 18, 3) := by decide +kernel
theorem dX7_changes_71 : decode cX7_changes 71 = .ok (.iload 4, 2) := by decide +kernel
theorem dX7_changes_73 : decode cX7_changes 73 = .ok (.aload_n 0, 1) := by decide +kernel
theorem dX7_changes_74 : decode cX7_changes 74 = .ok (.iload_n 2, 1) := by decide +kernel
theorem dX7_changes_75 : decode cX7_changes 75 = .ok (.iload_n 3, 1) := by decide +kernel
theorem dX7_changes_76 : decode cX7_changes 76 = .ok (.iload 5, 2) := by decide +kernel
theorem dX7_changes_78 : decode cX7_changes 78 = .ok (.invokevirtual 206, 3) := by decide +kernel
theorem dX7_changes_81 : decode cX7_changes 81 = .ok (.invokestatic 158, 3) := by decide +kernel
theorem dX7_changes_84 : decode cX7_changes 84 = .ok (.istore 4, 2) := by decide +kernel
theorem dX7_changes_86 : decode cX7_changes 86 = .ok (.iinc 5 1, 3) := by decide +kernel
theorem dX7_changes_89 : decode cX7_changes 89 = .ok (.goto (-36), 3) := by decide +kernel
theorem dX7_changes_92 : decode cX7_changes 92 = .ok (.aload_n 0, 1) := by decide +kernel
theorem dX7_changes_93 : decode cX7_changes 93 = .ok (.getfield 90, 3) := by decide +kernel
theorem dX7_changes_96 : decode cX7_changes 96 = .ok (.iload_n 2, 1) := by decide +kernel
theorem dX7_changes_97 : decode cX7_changes 97 = .ok (.bipush 7, 2) := by decide +kernel
theorem dX7_changes_99 : decode cX7_changes 99 = .ok (.imul, 1) := by decide +kernel
theorem dX7_changes_100 : decode cX7_changes 100 = .ok (.iload_n 3, 1) := by decide +kernel
theorem dX7_changes_101 : decode cX7_changes 101 = .ok (.iadd, 1) := by decide +kernel
theorem dX7_changes_102 : decode cX7_changes 102 = .ok (.iload 4, 2) := by decide +kernel
theorem dX7_changes_104 : decode cX7_changes 104 = .ok (.iastore, 1) := by decide +kernel
theorem dX7_changes_105 : decode cX7_changes 105 = .ok (.iinc 3 1, 3) := by decide +kernel
theorem dX7_changes_108 : decode cX7_changes 108 = .ok (.goto (-77), 3) := by decide +kernel
theorem dX7_changes_111 : decode cX7_changes 111 = .ok (.iinc 2 (-1), 3) := by decide +kernel
theorem dX7_changes_114 : decode cX7_changes 114 = .ok (.goto (-89), 3) := by decide +kernel
theorem dX7_changes_117 : decode cX7_changes 117 = .ok (.aload_n 0, 1) := by decide +kernel
theorem dX7_changes_118 : decode cX7_changes 118 = .ok (.getfield 86, 3) := by decide +kernel
theorem dX7_changes_121 : decode cX7_changes 121 = .ok (.ifCond .ge 8, 3) := by decide +kernel
theorem dX7_changes_124 : decode cX7_changes 124 = .ok (.bipush 6, 2) := by decide +kernel
theorem dX7_changes_126 : decode cX7_changes 126 = .ok (.goto 7, 3) := by decide +kernel
theorem dX7_changes_129 : decode cX7_changes 129 = .ok (.aload_n 0, 1) := by decide +kernel
theorem dX7_changes_130 : decode cX7_changes 130 = .ok (.getfield 86, 3) := by decide +kernel
theorem dX7_changes_133 : decode cX7_changes 133 = .ok (.istore_n 2, 1) := by decide +kernel
theorem dX7_changes_134 : decode cX7_changes 134 = .ok (.aload_n 0, 1) := by decide +kernel
theorem dX7_changes_135 : decode cX7_changes 135 = .ok (.getfield 90, 3) := by decide +kernel
theorem dX7_changes_138 : decode cX7_changes 138 = .ok (.iload_n 2, 1) := by decide +kernel
theorem dX7_changes_139 : decode cX7_changes 139 = .ok (.iaload, 1) := by decide +kernel
theorem dX7_changes_140 : decode cX7_changes 140 = .ok (.istore_n 3, 1) := by decide +kernel
theorem dX7_changes_141 : decode cX7_changes 141 = .ok (.iconst 0, 1) := by decide +kernel
theorem dX7_changes_142 : decode cX7_changes 142 = .ok (.istore 4, 2) := by decide +kernel
theorem dX7_changes_144 : decode cX7_changes 144 = .ok (.iload 4, 2) := by decide +kernel
theorem dX7_changes_146 : decode cX7_changes 146 = .ok (.iload_n 1, 1) := by decide +kernel
theorem dX7_changes_147 : decode cX7_changes 147 = .ok (.if_icmp .ge 104, 3) := by decide +kernel
theorem dX7_changes_150 : decode cX7_changes 150 = .ok (.iconst (-1), 1) := by decide +kernel
theorem dX7_changes_151 : decode cX7_changes 151 = .ok (.istore 5, 2) := by decide +kernel
theorem dX7_changes_153 : decode cX7_changes 153 = .ok (.iconst 0, 1) := by decide +kernel
theorem dX7_changes_154 : decode cX7_changes 154 = .ok (.istore 6, 2) := by decide +kernel
theorem dX7_changes_156 : decode cX7_changes 156 = .ok (.iload 6, 2) := by decide +kernel
theorem dX7_changes_158 : decode cX7_changes 158 = .ok (.aload_n 0, 1) := by decide +kernel
theorem dX7_changes_159 : decode cX7_changes 159 = .ok (.getfield 199, 3) := by decide +kernel
theorem dX7_changes_162 : decode cX7_changes 162 = .ok (.if_icmp .ge 69, 3) := by decide +kernel
theorem dX7_changes_165 : decode cX7_changes 165 = .ok (.iload 4, 2) := by decide +kernel
theorem dX7_changes_167 : decode cX7_changes 167 = .ok (.iload 6, 2) := by decide +kernel
theorem dX7_changes_169 : decode cX7_changes 169 = .ok (.ishr, 1) := by decide +kernel
theorem dX7_changes_170 : decode cX7_changes 170 = .ok (.iconst 1, 1) := by decide +kernel
theorem dX7_changes_171 : decode cX7_changes 171 = .ok (.iand, 1) := by decide +kernel
theorem dX7_changes_172 : decode cX7_changes 172 = .ok (.ifCond .ne 53, 3) := by decide +kernel
theorem dX7_changes_175 : decode cX7_changes 175 = .ok (.aload_n 0, 1) := by decide +kernel
theorem dX7_changes_176 : decode cX7_changes 176 = .ok (.iload 4, 2) := by decide +kernel
theorem dX7_changes_178 : decode cX7_changes 178 = .ok (.iload_n 2, 1) := by decide +kernel
theorem dX7_changes_179 : decode cX7_changes 179 = .ok (.iload 6, 2) := by decide +kernel
theorem dX7_changes_181 : decode cX7_changes 181 = .ok (.invokevirtual 206, 3) := by decide +kernel
theorem dX7_changes_184 : decode cX7_changes 184 = .ok (.aload_n 0, 1) := by decide +kernel
theorem dX7_changes_185 : decode cX7_changes 185 = .ok (.getfield 90, 3) := by decide +kernel
theorem dX7_changes_188 : decode cX7_changes 188 = .ok (.iload 4, 2) := by decide +kernel
theorem dX7_changes_190 : decode cX7_changes 190 = .ok (.bipush 7, 2) := by decide +kernel
theorem dX7_changes_192 : decode cX7_changes 192 = .ok (.imul, 1) := by decide +kernel
theorem dX7_changes_193 : decode cX7_changes 193 = .ok (.iload_n 2, 1) := by decide +kernel
theorem dX7_changes_194 : decode cX7_changes 194 = .ok (.iadd, 1) := by decide +kernel
theorem dX7_changes_195 : decode cX7_changes 195 = .ok (.iaload, 1) := by decide +kernel
theorem dX7_changes_196 : decode cX7_changes 196 = .ok (.if_icmp .ne 29, 3) := by decide +kernel
theorem dX7_changes_199 : decode cX7_changes 199 = .ok (.iload 5, 2) := by decide +kernel
theorem dX7_changes_201 : decode cX7_changes 201 = .ok (.ifCond .lt 20, 3) := by decide +kernel
theorem dX7_changes_204 : decode cX7_changes 204 = .ok (.aload_n 0, 1) := by decide +kernel
theorem dX7_changes_205 : decode cX7_changes 205 = .ok (.getfield 83, 3) := by decide +kernel
theorem dX7_changes_208 : decode cX7_changes 208 = .ok (.iload 6, 2) := by decide +kernel
theorem dX7_changes_210 : decode cX7_changes 210 = .ok (.iaload, 1) := by decide +kernel
theorem dX7_changes_211 : decode cX7_changes 211 = .ok (.aload_n 0, 1) := by decide +kernel
theorem dX7_changes_212 : decode cX7_changes 212 = .ok (.getfield 83, 3) := by decide +kernel
theorem dX7_changes_215 : decode cX7_changes 215 = .ok (.iload 5, 2) := by decide +kernel
theorem dX7_changes_217 : decode cX7_changes 217 = .ok (.iaload, 1) := by decide +kernel
theorem dX7_changes_218 : decode cX7_changes 218 = .ok (.if_icmp .ge 7, 3) := by decide +kernel
theorem dX7_changes_221 : decode cX7_changes 221 = .ok (.iload 6, 2) := by decide +kernel
theorem dX7_changes_223 : decode cX7_changes 223 = .ok (.istore 5, 2) := by decide +kernel
theorem dX7_changes_225 : decode cX7_changes 225 = .ok (.iinc 6 1, 3) := by decide +kernel
theorem dX7_changes_228 : decode cX7_changes 228 = .ok (.goto (-72), 3) := by decide +kernel
theorem dX7_changes_231 : decode cX7_changes 231 = .ok (.iload 4, 2) := by decide +kernel
theorem dX7_changes_233 : decode cX7_changes 233 = .ok (.iconst 1, 1) := by decide +kernel
theorem dX7_changes_234 : decode cX7_changes 234 = .ok (.iload 5, 2) := by decide +kernel
theorem dX7_changes_236 : decode cX7_changes 236 = .ok (.ishl, 1) := by decide +kernel
theorem dX7_changes_237 : decode cX7_changes 237 = .ok (.ior, 1) := by decide +kernel
theorem dX7_changes_238 : decode cX7_changes 238 = .ok (.istore 4, 2) := by decide +kernel
theorem dX7_changes_240 : decode cX7_changes 240 = .ok (.aload_n 0, 1) := by decide +kernel
theorem dX7_changes_241 : decode cX7_changes 241 = .ok (.getfield 83, 3) := by decide +kernel
theorem dX7_changes_244 : decode cX7_changes 244 = .ok (.iload 5, 2) := by decide +kernel
theorem dX7_changes_246 : decode cX7_changes 246 = .ok (.iaload, 1) := by decide +kernel
theorem dX7_changes_247 : decode cX7_changes 247 = .ok (.istore_n 2, 1) := by decide +kernel
theorem dX7_changes_248 : decode cX7_changes 248 = .ok (.goto (-104), 3) := by decide +kernel
theorem dX7_changes_251 : decode cX7_changes 251 = .ok (.aload_n 0, 1) := by decide +kernel
theorem dX7_changes_252 : decode cX7_changes 252 = .ok (.iload_n 2, 1) := by decide +kernel
theorem dX7_changes_253 : decode cX7_changes 253 = .ok (.putfield 86, 3) := by decide +kernel
theorem dX7_changes_256 : decode cX7_changes 256 = .ok (.aload_n 0, 1) := by decide +kernel
theorem dX7_changes_257 : decode cX7_changes 257 = .ok (.iconst 0, 1) := by decide +kernel
theorem dX7_changes_258 : decode cX7_changes 258 = .ok (.putfield 199, 3) := by decide +kernel
theorem dX7_changes_261 : decode cX7_changes 261 = .ok (.iload_n 3, 1) := by decide +kernel
theorem dX7_changes_262 : decode cX7_changes 262 = .ok (.ireturn, 1) := by decide +kernel
set_option maxRecDepth 20000 in
theorem ggX7_count_X7_slatsOfAll : GoodIn wsX7_count wsX7_slatsOfAll := goodIn_r _ [15, 16, 17, 18, 19, 20, 21, 22, 23, 24, 25, 26, 27, 28, 29, 30, 31, 32, 33, 34, 35, 36, 37, 38, 39, 40, 41, 42, 43, 44, 45, 46, 47, 48, 49, 50, 51, 52, 53, 54, 55, 56, 57, 58] (by decide +kernel) (by decide +kernel)
set_option maxRecDepth 20000 in
theorem gX7_count_X7_slatsOfAll : GoodIn wsX7_count (wsV RX7 186 RX7 yX7_slatsOfAll wsX7_slatsOfAll) := goodIn_app (goodIn_of _ (by decide +kernel)) ggX7_count_X7_slatsOfAll
theorem dX7_count_0 : decode cX7_count 0 = .ok (.aload_n 0, 1) := by decide +kernel
theorem dX7_count_1 : decode cX7_count 1 = .ok (.iconst 0, 1) := by decide +kernel
theorem dX7_count_2 : decode cX7_count 2 = .ok (.putfield 93, 3) := by decide +kernel
theorem dX7_count_5 : decode cX7_count 5 = .ok (.iload_n 1, 1) := by decide +kernel
theorem dX7_count_6 : decode cX7_count 6 = .ok (.tableswitch 104 0 9 #[54, 59, 64, 69, 74, 79, 84, 89, 94, 99], 54) := by decide +kernel
theorem dX7_count_60 : decode cX7_count 60 = .ok (.aload_n 0, 1) := by decide +kernel
theorem dX7_count_61 : decode cX7_count 61 = .ok (.getfield 155, 3) := by decide +kernel
theorem dX7_count_64 : decode cX7_count 64 = .ok (.ireturn, 1) := by decide +kernel
theorem dX7_count_65 : decode cX7_count 65 = .ok (.aload_n 0, 1) := by decide +kernel
theorem dX7_count_66 : decode cX7_count 66 = .ok (.getfield 104, 3) := by decide +kernel
theorem dX7_count_69 : decode cX7_count 69 = .ok (.ireturn, 1) := by decide +kernel
theorem dX7_count_70 : decode cX7_count 70 = .ok (.aload_n 0, 1) := by decide +kernel
theorem dX7_count_71 : decode cX7_count 71 = .ok (.getfield 132, 3) := by decide +kernel
theorem dX7_count_74 : decode cX7_count 74 = .ok (.ireturn, 1) := by decide +kernel
theorem dX7_count_75 : decode cX7_count 75 = .ok (.aload_n 0, 1) := by decide +kernel
theorem dX7_count_76 : decode cX7_count 76 = .ok (.getfield 142, 3) := by decide +kernel
theorem dX7_count_79 : decode cX7_count 79 = .ok (.ireturn, 1) := by decide +kernel
theorem dX7_count_80 : decode cX7_count 80 = .ok (.aload_n 0, 1) := by decide +kernel
theorem dX7_count_81 : decode cX7_count 81 = .ok (.getfield 149, 3) := by decide +kernel
theorem dX7_count_84 : decode cX7_count 84 = .ok (.ireturn, 1) := by decide +kernel
theorem dX7_count_85 : decode cX7_count 85 = .ok (.aload_n 0, 1) := by decide +kernel
theorem dX7_count_86 : decode cX7_count 86 = .ok (.getfield 152, 3) := by decide +kernel
theorem dX7_count_89 : decode cX7_count 89 = .ok (.ireturn, 1) := by decide +kernel
theorem dX7_count_90 : decode cX7_count 90 = .ok (.aload_n 0, 1) := by decide +kernel
theorem dX7_count_91 : decode cX7_count 91 = .ok (.invokevirtual 186, 3) := by decide +kernel
theorem dX7_count_94 : decode cX7_count 94 = .ok (.ireturn, 1) := by decide +kernel
theorem dX7_count_95 : decode cX7_count 95 = .ok (.aload_n 0, 1) := by decide +kernel
theorem dX7_count_96 : decode cX7_count 96 = .ok (.getfield 190, 3) := by decide +kernel
theorem dX7_count_99 : decode cX7_count 99 = .ok (.ireturn, 1) := by decide +kernel
theorem dX7_count_100 : decode cX7_count 100 = .ok (.aload_n 0, 1) := by decide +kernel
theorem dX7_count_101 : decode cX7_count 101 = .ok (.getfield 199, 3) := by decide +kernel
theorem dX7_count_104 : decode cX7_count 104 = .ok (.ireturn, 1) := by decide +kernel
theorem dX7_count_105 : decode cX7_count 105 = .ok (.aload_n 0, 1) := by decide +kernel
theorem dX7_count_106 : decode cX7_count 106 = .ok (.getfield 86, 3) := by decide +kernel
theorem dX7_count_109 : decode cX7_count 109 = .ok (.ireturn, 1) := by decide +kernel
theorem dX7_count_110 : decode cX7_count 110 = .ok (.iconst (-1), 1) := by decide +kernel
theorem dX7_count_111 : decode cX7_count 111 = .ok (.ireturn, 1) := by decide +kernel
