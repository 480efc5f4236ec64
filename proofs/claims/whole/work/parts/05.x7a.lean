theorem dX7_init_0 : decode cX7_init 0 = .ok (.aload_n 0, 1) := by decide +kernel
theorem dX7_init_1 : decode cX7_init 1 = .ok (.invokespecial 1, 3) := by decide +kernel
theorem dX7_init_4 : decode cX7_init 4 = .ok (.aload_n 0, 1) := by decide +kernel
theorem dX7_init_5 : decode cX7_init 5 = .ok (.bipush 6, 2) := by decide +kernel
theorem dX7_init_7 : decode cX7_init 7 = .ok (.newarray .int, 2) := by decide +kernel
theorem dX7_init_9 : decode cX7_init 9 = .ok (.putfield 9, 3) := by decide +kernel
theorem dX7_init_12 : decode cX7_init 12 = .ok (.aload_n 0, 1) := by decide +kernel
theorem dX7_init_13 : decode cX7_init 13 = .ok (.bipush 6, 2) := by decide +kernel
theorem dX7_init_15 : decode cX7_init 15 = .ok (.newarray .int, 2) := by decide +kernel
theorem dX7_init_17 : decode cX7_init 17 = .ok (.putfield 13, 3) := by decide +kernel
theorem dX7_init_20 : decode cX7_init 20 = .ok (.aload_n 0, 1) := by decide +kernel
theorem dX7_init_21 : decode cX7_init 21 = .ok (.bipush 6, 2) := by decide +kernel
theorem dX7_init_23 : decode cX7_init 23 = .ok (.newarray .int, 2) := by decide +kernel
theorem dX7_init_25 : decode cX7_init 25 = .ok (.putfield 16, 3) := by decide +kernel
theorem dX7_init_28 : decode cX7_init 28 = .ok (.aload_n 0, 1) := by decide +kernel
theorem dX7_init_29 : decode cX7_init 29 = .ok (.bipush 6, 2) := by decide +kernel
theorem dX7_init_31 : decode cX7_init 31 = .ok (.newarray .int, 2) := by decide +kernel
theorem dX7_init_33 : decode cX7_init 33 = .ok (.putfield 19, 3) := by decide +kernel
theorem dX7_init_36 : decode cX7_init 36 = .ok (.aload_n 0, 1) := by decide +kernel
theorem dX7_init_37 : decode cX7_init 37 = .ok (.bipush 6, 2) := by decide +kernel
theorem dX7_init_39 : decode cX7_init 39 = .ok (.newarray .int, 2) := by decide +kernel
theorem dX7_init_41 : decode cX7_init 41 = .ok (.putfield 22, 3) := by decide +kernel
theorem dX7_init_44 : decode cX7_init 44 = .ok (.aload_n 0, 1) := by decide +kernel
theorem dX7_init_45 : decode cX7_init 45 = .ok (.bipush 6, 2) := by decide +kernel
theorem dX7_init_47 : decode cX7_init 47 = .ok (.newarray .int, 2) := by decide +kernel
theorem dX7_init_49 : decode cX7_init 49 = .ok (.putfield 25, 3) := by decide +kernel
theorem dX7_init_52 : decode cX7_init 52 = .ok (.aload_n 0, 1) := by decide +kernel
theorem dX7_init_53 : decode cX7_init 53 = .ok (.bipush 12, 2) := by decide +kernel
theorem dX7_init_55 : decode cX7_init 55 = .ok (.newarray .int, 2) := by decide +kernel
theorem dX7_init_57 : decode cX7_init 57 = .ok (.putfield 28, 3) := by decide +kernel
theorem dX7_init_60 : decode cX7_init 60 = .ok (.aload_n 0, 1) := by decide +kernel
theorem dX7_init_61 : decode cX7_init 61 = .ok (.bipush 12, 2) := by decide +kernel
theorem dX7_init_63 : decode cX7_init 63 = .ok (.newarray .int, 2) := by decide +kernel
theorem dX7_init_65 : decode cX7_init 65 = .ok (.putfield 31, 3) := by decide +kernel
theorem dX7_init_68 : decode cX7_init 68 = .ok (.aload_n 0, 1) := by decide +kernel
theorem dX7_init_69 : decode cX7_init 69 = .ok (.bipush 12, 2) := by decide +kernel
theorem dX7_init_71 : decode cX7_init 71 = .ok (.newarray .int, 2) := by decide +kernel
theorem dX7_init_73 : decode cX7_init 73 = .ok (.putfield 34, 3) := by decide +kernel
theorem dX7_init_76 : decode cX7_init 76 = .ok (.aload_n 0, 1) := by decide +kernel
theorem dX7_init_77 : decode cX7_init 77 = .ok (.bipush 12, 2) := by decide +kernel
theorem dX7_init_79 : decode cX7_init 79 = .ok (.newarray .int, 2) := by decide +kernel
theorem dX7_init_81 : decode cX7_init 81 = .ok (.putfield 37, 3) := by decide +kernel
theorem dX7_init_84 : decode cX7_init 84 = .ok (.aload_n 0, 1) := by decide +kernel
theorem dX7_init_85 : decode cX7_init 85 = .ok (.bipush 12, 2) := by decide +kernel
theorem dX7_init_87 : decode cX7_init 87 = .ok (.newarray .int, 2) := by decide +kernel
theorem dX7_init_89 : decode cX7_init 89 = .ok (.putfield 40, 3) := by decide +kernel
theorem dX7_init_92 : decode cX7_init 92 = .ok (.aload_n 0, 1) := by decide +kernel
theorem dX7_init_93 : decode cX7_init 93 = .ok (.bipush 60, 2) := by decide +kernel
theorem dX7_init_95 : decode cX7_init 95 = .ok (.newarray .int, 2) := by decide +kernel
theorem dX7_init_97 : decode cX7_init 97 = .ok (.putfield 43, 3) := by decide +kernel
theorem dX7_init_100 : decode cX7_init 100 = .ok (.aload_n 0, 1) := by decide +kernel
theorem dX7_init_101 : decode cX7_init 101 = .ok (.bipush 100, 2) := by decide +kernel
theorem dX7_init_103 : decode cX7_init 103 = .ok (.newarray .int, 2) := by decide +kernel
theorem dX7_init_105 : decode cX7_init 105 = .ok (.putfield 46, 3) := by decide +kernel
theorem dX7_init_108 : decode cX7_init 108 = .ok (.aload_n 0, 1) := by decide +kernel
theorem dX7_init_109 : decode cX7_init 109 = .ok (.bipush 100, 2) := by decide +kernel
theorem dX7_init_111 : decode cX7_init 111 = .ok (.newarray .boolean, 2) := by decide +kernel
theorem dX7_init_113 : decode cX7_init 113 = .ok (.putfield 49, 3) := by decide +kernel
theorem dX7_init_116 : decode cX7_init 116 = .ok (.aload_n 0, 1) := by decide +kernel
theorem dX7_init_117 : decode cX7_init 117 = .ok (.bipush 100, 2) := by decide +kernel
theorem dX7_init_119 : decode cX7_init 119 = .ok (.newarray .int, 2) := by decide +kernel
theorem dX7_init_121 : decode cX7_init 121 = .ok (.putfield 53, 3) := by decide +kernel
theorem dX7_init_124 : decode cX7_init 124 = .ok (.aload_n 0, 1) := by decide +kernel
theorem dX7_init_125 : decode cX7_init 125 = .ok (.bipush 100, 2) := by decide +kernel
theorem dX7_init_127 : decode cX7_init 127 = .ok (.newarray .int, 2) := by decide +kernel
theorem dX7_init_129 : decode cX7_init 129 = .ok (.putfield 56, 3) := by decide +kernel
theorem dX7_init_132 : decode cX7_init 132 = .ok (.aload_n 0, 1) := by decide +kernel
theorem dX7_init_133 : decode cX7_init 133 = .ok (.bipush 60, 2) := by decide +kernel
theorem dX7_init_135 : decode cX7_init 135 = .ok (.newarray .boolean, 2) := by decide +kernel
theorem dX7_init_137 : decode cX7_init 137 = .ok (.putfield 59, 3) := by decide +kernel
theorem dX7_init_140 : decode cX7_init 140 = .ok (.aload_n 0, 1) := by decide +kernel
theorem dX7_init_141 : decode cX7_init 141 = .ok (.bipush 10, 2) := by decide +kernel
theorem dX7_init_143 : decode cX7_init 143 = .ok (.newarray .int, 2) := by decide +kernel
theorem dX7_init_145 : decode cX7_init 145 = .ok (.putfield 62, 3) := by decide +kernel
theorem dX7_init_148 : decode cX7_init 148 = .ok (.aload_n 0, 1) := by decide +kernel
theorem dX7_init_149 : decode cX7_init 149 = .ok (.bipush 6, 2) := by decide +kernel
theorem dX7_init_151 : decode cX7_init 151 = .ok (.newarray .int, 2) := by decide +kernel
theorem dX7_init_153 : decode cX7_init 153 = .ok (.putfield 65, 3) := by decide +kernel
theorem dX7_init_156 : decode cX7_init 156 = .ok (.aload_n 0, 1) := by decide +kernel
theorem dX7_init_157 : decode cX7_init 157 = .ok (.bipush 6, 2) := by decide +kernel
theorem dX7_init_159 : decode cX7_init 159 = .ok (.newarray .int, 2) := by decide +kernel
theorem dX7_init_161 : decode cX7_init 161 = .ok (.putfield 68, 3) := by decide +kernel
theorem dX7_init_164 : decode cX7_init 164 = .ok (.aload_n 0, 1) := by decide +kernel
theorem dX7_init_165 : decode cX7_init 165 = .ok (.bipush 6, 2) := by decide +kernel
theorem dX7_init_167 : decode cX7_init 167 = .ok (.newarray .int, 2) := by decide +kernel
theorem dX7_init_169 : decode cX7_init 169 = .ok (.putfield 71, 3) := by decide +kernel
theorem dX7_init_172 : decode cX7_init 172 = .ok (.aload_n 0, 1) := by decide +kernel
theorem dX7_init_173 : decode cX7_init 173 = .ok (.bipush 10, 2) := by decide +kernel
theorem dX7_init_175 : decode cX7_init 175 = .ok (.newarray .int, 2) := by decide +kernel
theorem dX7_init_177 : decode cX7_init 177 = .ok (.putfield 74, 3) := by decide +kernel
theorem dX7_init_180 : decode cX7_init 180 = .ok (.aload_n 0, 1) := by decide +kernel
theorem dX7_init_181 : decode cX7_init 181 = .ok (.bipush 6, 2) := by decide +kernel
theorem dX7_init_183 : decode cX7_init 183 = .ok (.newarray .boolean, 2) := by decide +kernel
theorem dX7_init_185 : decode cX7_init 185 = .ok (.putfield 77, 3) := by decide +kernel
theorem dX7_init_188 : decode cX7_init 188 = .ok (.aload_n 0, 1) := by decide +kernel
theorem dX7_init_189 : decode cX7_init 189 = .ok (.bipush 36, 2) := by decide +kernel
theorem dX7_init_191 : decode cX7_init 191 = .ok (.newarray .int, 2) := by decide +kernel
theorem dX7_init_193 : decode cX7_init 193 = .ok (.putfield 80, 3) := by decide +kernel
theorem dX7_init_196 : decode cX7_init 196 = .ok (.aload_n 0, 1) := by decide +kernel
theorem dX7_init_197 : decode cX7_init 197 = .ok (.bipush 10, 2) := by decide +kernel
theorem dX7_init_199 : decode cX7_init 199 = .ok (.newarray .int, 2) := by decide +kernel
theorem dX7_init_201 : decode cX7_init 201 = .ok (.putfield 83, 3) := by decide +kernel
theorem dX7_init_204 : decode cX7_init 204 = .ok (.aload_n 0, 1) := by decide +kernel
theorem dX7_init_205 : decode cX7_init 205 = .ok (.iconst (-1), 1) := by decide +kernel
theorem dX7_init_206 : decode cX7_init 206 = .ok (.putfield 86, 3) := by decide +kernel
theorem dX7_init_209 : decode cX7_init 209 = .ok (.aload_n 0, 1) := by decide +kernel
theorem dX7_init_210 : decode cX7_init 210 = .ok (.sipush 7168, 3) := by decide +kernel
theorem dX7_init_213 : decode cX7_init 213 = .ok (.newarray .int, 2) := by decide +kernel
theorem dX7_init_215 : decode cX7_init 215 = .ok (.putfield 90, 3) := by decide +kernel
theorem dX7_init_218 : decode cX7_init 218 = .ok (.return_, 1) := by decide +kernel
theorem dX7_thrown_0 : decode cX7_thrown 0 = .ok (.aload_n 0, 1) := by decide +kernel
theorem dX7_thrown_1 : decode cX7_thrown 1 = .ok (.getfield 93, 3) := by decide +kernel
theorem dX7_thrown_4 : decode cX7_thrown 4 = .ok (.ireturn, 1) := by decide +kernel
theorem dX7_throwsIf_0 : decode cX7_throwsIf 0 = .ok (.iload_n 1, 1) := by decide +kernel
theorem dX7_throwsIf_1 : decode cX7_throwsIf 1 = .ok (.ifCond .eq 8, 3) := by decide +kernel
theorem dX7_throwsIf_4 : decode cX7_throwsIf 4 = .ok (.aload_n 0, 1) := by decide +kernel
theorem dX7_throwsIf_5 : decode cX7_throwsIf 5 = .ok (.iload_n 2, 1) := by decide +kernel
theorem dX7_throwsIf_6 : decode cX7_throwsIf 6 = .ok (.putfield 93, 3) := by decide +kernel
theorem dX7_throwsIf_9 : decode cX7_throwsIf 9 = .ok (.iload_n 1, 1) := by decide +kernel
theorem dX7_throwsIf_10 : decode cX7_throwsIf 10 = .ok (.ireturn, 1) := by decide +kernel
theorem dX7_in_0 : decode cX7_in 0 = .ok (.iload_n 0, 1) := by decide +kernel
theorem dX7_in_1 : decode cX7_in 1 = .ok (.iload_n 1, 1) := by decide +kernel
theorem dX7_in_2 : decode cX7_in 2 = .ok (.if_icmp .lt 12, 3) := by decide +kernel
theorem dX7_in_5 : decode cX7_in 5 = .ok (.iload_n 0, 1) := by decide +kernel
theorem dX7_in_6 : decode cX7_in 6 = .ok (.iload_n 2, 1) := by decide +kernel
theorem dX7_in_7 : decode cX7_in 7 = .ok (.if_icmp .gt 7, 3) := by decide +kernel
theorem dX7_in_10 : decode cX7_in 10 = .ok (.iconst 1, 1) := by decide +kernel
theorem dX7_in_11 : decode cX7_in 11 = .ok (.goto 4, 3) := by decide +kernel
theorem dX7_in_14 : decode cX7_in 14 = .ok (.iconst 0, 1) := by decide +kernel
theorem dX7_in_15 : decode cX7_in 15 = .ok (.ireturn, 1) := by decide +kernel
set_option maxRecDepth 20000 in
theorem ggX7_earth_X7_in : GoodIn wsX7_earth wsX7_in := goodIn_r _ [10] (by decide +kernel) (by decide +kernel)
set_option maxRecDepth 20000 in
theorem gX7_earth_X7_in : GoodIn wsX7_earth (va_wsS RX7 96 yX7_in wsX7_in) := goodIn_app (goodIn_of _ (by decide +kernel)) ggX7_earth_X7_in
set_option maxRecDepth 20000 in
theorem ggX7_earth_X7_throwsIf : GoodIn wsX7_earth wsX7_throwsIf := goodIn_r _ [14, 1, 15, 16, 17, 18, 19, 20, 21, 22, 23, 24, 25, 26, 27, 28, 29, 30, 31, 32, 33, 34, 35, 36, 37, 38, 39, 40, 41, 42, 43, 44, 45, 46, 47, 48, 49, 50, 51, 52, 53, 54, 55, 56] (by decide +kernel) (by decide +kernel)
set_option maxRecDepth 20000 in
theorem gX7_earth_X7_throwsIf : GoodIn wsX7_earth (wsV RX7 100 RX7 yX7_throwsIf wsX7_throwsIf) := goodIn_app (goodIn_of _ (by decide +kernel)) ggX7_earth_X7_throwsIf
theorem dX7_earth_0 : decode cX7_earth 0 = .ok (.aload_n 0, 1) := by decide +kernel
theorem dX7_earth_1 : decode cX7_earth 1 = .ok (.iconst 0, 1) := by decide +kernel
theorem dX7_earth_2 : decode cX7_earth 2 = .ok (.putfield 93, 3) := by decide +kernel
theorem dX7_earth_5 : decode cX7_earth 5 = .ok (.aload_n 0, 1) := by decide +kernel
theorem dX7_earth_6 : decode cX7_earth 6 = .ok (.iload_n 1, 1) := by decide +kernel
theorem dX7_earth_7 : decode cX7_earth 7 = .ok (.ifCond .lt 38, 3) := by decide +kernel
theorem dX7_earth_10 : decode cX7_earth 10 = .ok (.iload_n 2, 1) := by decide +kernel
theorem dX7_earth_11 : decode cX7_earth 11 = .ok (.iload_n 1, 1) := by decide +kernel
theorem dX7_earth_12 : decode cX7_earth 12 = .ok (.if_icmp .lt 33, 3) := by decide +kernel
theorem dX7_earth_15 : decode cX7_earth 15 = .ok (.iload_n 2, 1) := by decide +kernel
theorem dX7_earth_16 : decode cX7_earth 16 = .ok (.sipush 1000, 3) := by decide +kernel
theorem dX7_earth_19 : decode cX7_earth 19 = .ok (.if_icmp .gt 26, 3) := by decide +kernel
theorem dX7_earth_22 : decode cX7_earth 22 = .ok (.iload_n 3, 1) := by decide +kernel
theorem dX7_earth_23 : decode cX7_earth 23 = .ok (.iconst 1, 1) := by decide +kernel
theorem dX7_earth_24 : decode cX7_earth 24 = .ok (.sipush 1000, 3) := by decide +kernel
theorem dX7_earth_27 : decode cX7_earth 27 = .ok (.invokestatic 96, 3) := by decide +kernel
theorem dX7_earth_30 : decode cX7_earth 30 = .ok (.ifCond .eq 15, 3) := by decide +kernel
theorem dX7_earth_33 : decode cX7_earth 33 = .ok (.iload 4, 2) := by decide +kernel
theorem dX7_earth_35 : decode cX7_earth 35 = .ok (.iconst 0, 1) := by decide +kernel
theorem dX7_earth_36 : decode cX7_earth 36 = .ok (.sipush 1000, 3) := by decide +kernel
theorem dX7_earth_39 : decode cX7_earth 39 = .ok (.invokestatic 96, 3) := by decide +kernel
theorem dX7_earth_42 : decode cX7_earth 42 = .ok (.ifCond .ne 7, 3) := by decide +kernel
theorem dX7_earth_45 : decode cX7_earth 45 = .ok (.iconst 1, 1) := by decide +kernel
theorem dX7_earth_46 : decode cX7_earth 46 = .ok (.goto 4, 3) := by decide +kernel
theorem dX7_earth_49 : decode cX7_earth 49 = .ok (.iconst 0, 1) := by decide +kernel
theorem dX7_earth_50 : decode cX7_earth 50 = .ok (.iconst 1, 1) := by decide +kernel
theorem dX7_earth_51 : decode cX7_earth 51 = .ok (.invokevirtual 100, 3) := by decide +kernel
theorem dX7_earth_54 : decode cX7_earth 54 = .ok (.ifCond .ne 25, 3) := by decide +kernel
theorem dX7_earth_57 : decode cX7_earth 57 = .ok (.aload_n 0, 1) := by decide +kernel
theorem dX7_earth_58 : decode cX7_earth 58 = .ok (.aload_n 0, 1) := by decide +kernel
theorem dX7_earth_59 : decode cX7_earth 59 = .ok (.getfield 104, 3) := by decide +kernel
theorem dX7_earth_62 : decode cX7_earth 62 = .ok (.bipush 6, 2) := by decide +kernel
theorem dX7_earth_64 : decode cX7_earth 64 = .ok (.if_icmp .ne 7, 3) := by decide +kernel
theorem dX7_earth_67 : decode cX7_earth 67 = .ok (.iconst 1, 1) := by decide +kernel
theorem dX7_earth_68 : decode cX7_earth 68 = .ok (.goto 4, 3) := by decide +kernel
theorem dX7_earth_71 : decode cX7_earth 71 = .ok (.iconst 0, 1) := by decide +kernel
theorem dX7_earth_72 : decode cX7_earth 72 = .ok (.iconst 2, 1) := by decide +kernel
theorem dX7_earth_73 : decode cX7_earth 73 = .ok (.invokevirtual 100, 3) := by decide +kernel
theorem dX7_earth_76 : decode cX7_earth 76 = .ok (.ifCond .eq 5, 3) := by decide +kernel
theorem dX7_earth_79 : decode cX7_earth 79 = .ok (.iconst 0, 1) := by decide +kernel
theorem dX7_earth_80 : decode cX7_earth 80 = .ok (.ireturn, 1) := by decide +kernel
theorem dX7_earth_81 : decode cX7_earth 81 = .ok (.aload_n 0, 1) := by decide +kernel
theorem dX7_earth_82 : decode cX7_earth 82 = .ok (.getfield 9, 3) := by decide +kernel
theorem dX7_earth_85 : decode cX7_earth 85 = .ok (.aload_n 0, 1) := by decide +kernel
theorem dX7_earth_86 : decode cX7_earth 86 = .ok (.getfield 104, 3) := by decide +kernel
theorem dX7_earth_89 : decode cX7_earth 89 = .ok (.iload_n 1, 1) := by decide +kernel
theorem dX7_earth_90 : decode cX7_earth 90 = .ok (.iastore, 1) := by decide +kernel
theorem dX7_earth_91 : decode cX7_earth 91 = .ok (.aload_n 0, 1) := by decide +kernel
theorem dX7_earth_92 : decode cX7_earth 92 = .ok (.getfield 13, 3) := by decide +kernel
theorem dX7_earth_95 : decode cX7_earth 95 = .ok (.aload_n 0, 1) := by decide +kernel
theorem dX7_earth_96 : decode cX7_earth 96 = .ok (.getfield 104, 3) := by decide +kernel
theorem dX7_earth_99 : decode cX7_earth 99 = .ok (.iload_n 2, 1) := by decide +kernel
theorem dX7_earth_100 : decode cX7_earth 100 = .ok (.iastore, 1) := by decide +kernel
theorem dX7_earth_101 : decode cX7_earth 101 = .ok (.aload_n 0, 1) := by decide +kernel
theorem dX7_earth_102 : decode cX7_earth 102 = .ok (.getfield 16, 3) := by decide +kernel
theorem dX7_earth_105 : decode cX7_earth 105 = .ok (.aload_n 0, 1) := by decide +kernel
theorem dX7_earth_106 : decode cX7_earth 106 = .ok (.getfield 104, 3) := by decide +kernel
theorem dX7_earth_109 : decode cX7_earth 109 = .ok (.iload_n 3, 1) := by decide +kernel
theorem dX7_earth_110 : decode cX7_earth 110 = .ok (.iastore, 1) := by decide +kernel
theorem dX7_earth_111 : decode cX7_earth 111 = .ok (.aload_n 0, 1) := by decide +kernel
theorem dX7_earth_112 : decode cX7_earth 112 = .ok (.getfield 19, 3) := by decide +kernel
theorem dX7_earth_115 : decode cX7_earth 115 = .ok (.aload_n 0, 1) := by decide +kernel
theorem dX7_earth_116 : decode cX7_earth 116 = .ok (.getfield 104, 3) := by decide +kernel
theorem dX7_earth_119 : decode cX7_earth 119 = .ok (.iload 4, 2) := by decide +kernel
theorem dX7_earth_121 : decode cX7_earth 121 = .ok (.iastore, 1) := by decide +kernel
theorem dX7_earth_122 : decode cX7_earth 122 = .ok (.aload_n 0, 1) := by decide +kernel
theorem dX7_earth_123 : decode cX7_earth 123 = .ok (.dup, 1) := by decide +kernel
theorem dX7_earth_124 : decode cX7_earth 124 = .ok (.getfield 104, 3) := by decide +kernel
theorem dX7_earth_127 : decode cX7_earth 127 = .ok (.iconst 1, 1) := by decide +kernel
theorem dX7_earth_128 : decode cX7_earth 128 = .ok (.iadd, 1) := by decide +kernel
theorem dX7_earth_129 : decode cX7_earth 129 = .ok (.putfield 104, 3) := by decide +kernel
theorem dX7_earth_132 : decode cX7_earth 132 = .ok (.aload_n 0, 1) := by decide +kernel
theorem dX7_earth_133 : decode cX7_earth 133 = .ok (.getfield 104, 3) := by decide +kernel
theorem dX7_earth_136 : decode cX7_earth 136 = .ok (.iconst 1, 1) := by decide +kernel
theorem dX7_earth_137 : decode cX7_earth 137 = .ok (.isub, 1) := by decide +kernel
theorem dX7_earth_138 : decode cX7_earth 138 = .ok (.ireturn, 1) := by decide +kernel
set_option maxRecDepth 20000 in
theorem ggX7_noEarth_X7_in : GoodIn wsX7_noEarth wsX7_in := goodIn_r _ [5] (by decide +kernel) (by decide +kernel)
set_option maxRecDepth 20000 in
theorem gX7_noEarth_X7_in : GoodIn wsX7_noEarth (va_wsS RX7 96 yX7_in wsX7_in) := goodIn_app (goodIn_of _ (by decide +kernel)) ggX7_noEarth_X7_in
theorem dX7_noEarth_0 : decode cX7_noEarth 0 = .ok (.iload_n 1, 1) := by decide +kernel
theorem dX7_noEarth_1 : decode cX7_noEarth 1 = .ok (.iconst 0, 1) := by decide +kernel
theorem dX7_noEarth_2 : decode cX7_noEarth 2 = .ok (.aload_n 0, 1) := by decide +kernel
theorem dX7_noEarth_3 : decode cX7_noEarth 3 = .ok (.getfield 104, 3) := by decide +kernel
theorem dX7_noEarth_6 : decode cX7_noEarth 6 = .ok (.iconst 1, 1) := by decide +kernel
theorem dX7_noEarth_7 : decode cX7_noEarth 7 = .ok (.isub, 1) := by decide +kernel
theorem dX7_noEarth_8 : decode cX7_noEarth 8 = .ok (.invokestatic 96, 3) := by decide +kernel
theorem dX7_noEarth_11 : decode cX7_noEarth 11 = .ok (.ifCond .ne 7, 3) := by decide +kernel
theorem dX7_noEarth_14 : decode cX7_noEarth 14 = .ok (.iconst 1, 1) := by decide +kernel
theorem dX7_noEarth_15 : decode cX7_noEarth 15 = .ok (.goto 4, 3) := by decide +kernel
theorem dX7_noEarth_18 : decode cX7_noEarth 18 = .ok (.iconst 0, 1) := by decide +kernel
theorem dX7_noEarth_19 : decode cX7_noEarth 19 = .ok (.ireturn, 1) := by decide +kernel
set_option maxRecDepth 20000 in
theorem ggX7_bring_X7_noEarth : GoodIn wsX7_bring wsX7_noEarth := goodIn_r _ [7, 8, 9, 10, 6, 11, 16, 17, 18, 19, 20, 21, 22, 23, 24, 25, 26, 27, 28, 29, 30, 31, 32, 33, 34, 35, 36, 37, 38, 39, 40, 41, 42, 43, 44, 45, 46, 47, 48, 49, 50, 51, 52, 53, 54, 55, 56, 57] (by decide +kernel) (by decide +kernel)
set_option maxRecDepth 20000 in
theorem gX7_bring_X7_noEarth : GoodIn wsX7_bring (wsV RX7 107 RX7 yX7_noEarth wsX7_noEarth) := goodIn_app (goodIn_of _ (by decide +kernel)) ggX7_bring_X7_noEarth
set_option maxRecDepth 20000 in
theorem ggX7_bring_X7_throwsIf : GoodIn wsX7_bring wsX7_throwsIf := goodIn_r _ [15, 1, 16, 17, 18, 19, 20, 21, 22, 23, 24, 25, 26, 27, 28, 29, 30, 31, 32, 33, 34, 35, 36, 37, 38, 39, 40, 41, 42, 43, 44, 45, 46, 47, 48, 49, 50, 51, 52, 53, 54, 55, 56, 57] (by decide +kernel) (by decide +kernel)
set_option maxRecDepth 20000 in
theorem gX7_bring_X7_throwsIf : GoodIn wsX7_bring (wsV RX7 100 RX7 yX7_throwsIf wsX7_throwsIf) := goodIn_app (goodIn_of _ (by decide +kernel)) ggX7_bring_X7_throwsIf
set_option maxRecDepth 20000 in
theorem ggX7_bring_X7_in : GoodIn wsX7_bring wsX7_in := goodIn_r _ [11] (by decide +kernel) (by decide +kernel)
set_option maxRecDepth 20000 in
theorem gX7_bring_X7_in : GoodIn wsX7_bring (va_wsS RX7 96 yX7_in wsX7_in) := goodIn_app (goodIn_of _ (by decide +kernel)) ggX7_bring_X7_in
theorem dX7_bring_0 : decode cX7_bring 0 = .ok (.aload_n 0, 1) := by decide +kernel
theorem dX7_bring_1 : decode cX7_bring 1 = .ok (.iconst 0, 1) := by decide +kernel
theorem dX7_bring_2 : decode cX7_bring 2 = .ok (.putfield 93, 3) := by decide +kernel
theorem dX7_bring_5 : decode cX7_bring 5 = .ok (.aload_n 0, 1) := by decide +kernel
theorem dX7_bring_6 : decode cX7_bring 6 = .ok (.aload_n 0, 1) := by decide +kernel
theorem dX7_bring_7 : decode cX7_bring 7 = .ok (.iload_n 1, 1) := by decide +kernel
theorem dX7_bring_8 : decode cX7_bring 8 = .ok (.invokevirtual 107, 3) := by decide +kernel
theorem dX7_bring_11 : decode cX7_bring 11 = .ok (.iconst 1, 1) := by decide +kernel
theorem dX7_bring_12 : decode cX7_bring 12 = .ok (.invokevirtual 100, 3) := by decide +kernel
theorem dX7_bring_15 : decode cX7_bring 15 = .ok (.ifCond .ne 41, 3) := by decide +kernel
theorem dX7_bring_18 : decode cX7_bring 18 = .ok (.aload_n 0, 1) := by decide +kernel
theorem dX7_bring_19 : decode cX7_bring 19 = .ok (.iload_n 2, 1) := by decide +kernel
theorem dX7_bring_20 : decode cX7_bring 20 = .ok (.iconst 0, 1) := by decide +kernel
theorem dX7_bring_21 : decode cX7_bring 21 = .ok (.sipush 1000, 3) := by decide +kernel
theorem dX7_bring_24 : decode cX7_bring 24 = .ok (.invokestatic 96, 3) := by decide +kernel
theorem dX7_bring_27 : decode cX7_bring 27 = .ok (.ifCond .eq 17, 3) := by decide +kernel
theorem dX7_bring_30 : decode cX7_bring 30 = .ok (.aload_n 0, 1) := by decide +kernel
theorem dX7_bring_31 : decode cX7_bring 31 = .ok (.getfield 19, 3) := by decide +kernel
theorem dX7_bring_34 : decode cX7_bring 34 = .ok (.iload_n 1, 1) := by decide +kernel
theorem dX7_bring_35 : decode cX7_bring 35 = .ok (.iaload, 1) := by decide +kernel
theorem dX7_bring_36 : decode cX7_bring 36 = .ok (.iload_n 2, 1) := by decide +kernel
theorem dX7_bring_37 : decode cX7_bring 37 = .ok (.iadd, 1) := by decide +kernel
theorem dX7_bring_38 : decode cX7_bring 38 = .ok (.sipush 1000, 3) := by decide +kernel
theorem dX7_bring_41 : decode cX7_bring 41 = .ok (.if_icmp .le 7, 3) := by decide +kernel
theorem dX7_bring_44 : decode cX7_bring 44 = .ok (.iconst 1, 1) := by decide +kernel
theorem dX7_bring_45 : decode cX7_bring 45 = .ok (.goto 4, 3) := by decide +kernel
theorem dX7_bring_48 : decode cX7_bring 48 = .ok (.iconst 0, 1) := by decide +kernel
theorem dX7_bring_49 : decode cX7_bring 49 = .ok (.iconst 2, 1) := by decide +kernel
theorem dX7_bring_50 : decode cX7_bring 50 = .ok (.invokevirtual 100, 3) := by decide +kernel
theorem dX7_bring_53 : decode cX7_bring 53 = .ok (.ifCond .eq 5, 3) := by decide +kernel
theorem dX7_bring_56 : decode cX7_bring 56 = .ok (.iconst 0, 1) := by decide +kernel
theorem dX7_bring_57 : decode cX7_bring 57 = .ok (.ireturn, 1) := by decide +kernel
theorem dX7_bring_58 : decode cX7_bring 58 = .ok (.aload_n 0, 1) := by decide +kernel
theorem dX7_bring_59 : decode cX7_bring 59 = .ok (.getfield 19, 3) := by decide +kernel
theorem dX7_bring_62 : decode cX7_bring 62 = .ok (.iload_n 1, 1) := by decide +kernel
theorem dX7_bring_63 : decode cX7_bring 63 = .ok (.dup2, 1) := by decide +kernel
theorem dX7_bring_64 : decode cX7_bring 64 = .ok (.iaload, 1) := by decide +kernel
theorem dX7_bring_65 : decode cX7_bring 65 = .ok (.iload_n 2, 1) := by decide +kernel
theorem dX7_bring_66 : decode cX7_bring 66 = .ok (.iadd, 1) := by decide +kernel
theorem dX7_bring_67 : decode cX7_bring 67 = .ok (.iastore, 1) := by decide +kernel
theorem dX7_bring_68 : decode cX7_bring 68 = .ok (.aload_n 0, 1) := by decide +kernel
theorem dX7_bring_69 : decode cX7_bring 69 = .ok (.getfield 19, 3) := by decide +kernel
theorem dX7_bring_72 : decode cX7_bring 72 = .ok (.iload_n 1, 1) := by decide +kernel
theorem dX7_bring_73 : decode cX7_bring 73 = .ok (.iaload, 1) := by decide +kernel
theorem dX7_bring_74 : decode cX7_bring 74 = .ok (.ireturn, 1) := by decide +kernel
set_option maxRecDepth 20000 in
theorem ggX7_goes_X7_goes : GoodIn wsX7_goes wsX7_goes := goodIn_r _ [0, 1, 2, 3, 4, 5, 6, 7, 8, 9, 10, 11, 12, 13, 14, 15, 16, 17, 18, 19, 20, 21, 22, 23, 24, 25, 26, 27, 28, 29, 30, 31, 32, 33, 34, 35, 36, 37, 38, 39, 40, 41, 42, 43, 44, 45, 46, 47, 48, 49, 50, 51, 52, 53, 54, 55, 56] (by decide +kernel) (by decide +kernel)
set_option maxRecDepth 20000 in
theorem gX7_goes_X7_goes : GoodIn wsX7_goes (wsV RX7 120 RX7 yX7_goes wsX7_goes) := goodIn_app (goodIn_of _ (by decide +kernel)) ggX7_goes_X7_goes
theorem dX7_goes_0 : decode cX7_goes 0 = .ok (.iload_n 1, 1) := by decide +kernel
theorem dX7_goes_1 : decode cX7_goes 1 = .ok (.aload_n 0, 1) := by decide +kernel
theorem dX7_goes_2 : decode cX7_goes 2 = .ok (.getfield 104, 3) := by decide +kernel
theorem dX7_goes_5 : decode cX7_goes 5 = .ok (.if_icmp .ne 110, 3) := by decide +kernel
theorem dX7_goes_8 : decode cX7_goes 8 = .ok (.iload_n 2, 1) := by decide +kernel
theorem dX7_goes_9 : decode cX7_goes 9 = .ok (.ifCond .gt 44, 3) := by decide +kernel
theorem dX7_goes_12 : decode cX7_goes 12 = .ok (.iload_n 3, 1) := by decide +kernel
theorem dX7_goes_13 : decode cX7_goes 13 = .ok (.bipush 10, 2) := by decide +kernel
theorem dX7_goes_15 : decode cX7_goes 15 = .ok (.idiv, 1) := by decide +kernel
theorem dX7_goes_16 : decode cX7_goes 16 = .ok (.iload 6, 2) := by decide +kernel
theorem dX7_goes_18 : decode cX7_goes 18 = .ok (.if_icmp .lt 35, 3) := by decide +kernel
theorem dX7_goes_21 : decode cX7_goes 21 = .ok (.iload 4, 2) := by decide +kernel
theorem dX7_goes_23 : decode cX7_goes 23 = .ok (.bipush 10, 2) := by decide +kernel
theorem dX7_goes_25 : decode cX7_goes 25 = .ok (.iadd, 1) := by decide +kernel
theorem dX7_goes_26 : decode cX7_goes 26 = .ok (.iconst 1, 1) := by decide +kernel
theorem dX7_goes_27 : decode cX7_goes 27 = .ok (.isub, 1) := by decide +kernel
theorem dX7_goes_28 : decode cX7_goes 28 = .ok (.bipush 10, 2) := by decide +kernel
theorem dX7_goes_30 : decode cX7_goes 30 = .ok (.idiv, 1) := by decide +kernel
theorem dX7_goes_31 : decode cX7_goes 31 = .ok (.iload 7, 2) := by decide +kernel
theorem dX7_goes_33 : decode cX7_goes 33 = .ok (.if_icmp .gt 20, 3) := by decide +kernel
theorem dX7_goes_36 : decode cX7_goes 36 = .ok (.aload_n 0, 1) := by decide +kernel
theorem dX7_goes_37 : decode cX7_goes 37 = .ok (.getfield 111, 3) := by decide +kernel
theorem dX7_goes_40 : decode cX7_goes 40 = .ok (.iconst (-1), 1) := by decide +kernel
theorem dX7_goes_41 : decode cX7_goes 41 = .ok (.if_icmp .eq 13, 3) := by decide +kernel
theorem dX7_goes_44 : decode cX7_goes 44 = .ok (.iload 5, 2) := by decide +kernel
theorem dX7_goes_46 : decode cX7_goes 46 = .ok (.aload_n 0, 1) := by decide +kernel
theorem dX7_goes_47 : decode cX7_goes 47 = .ok (.getfield 111, 3) := by decide +kernel
theorem dX7_goes_50 : decode cX7_goes 50 = .ok (.if_icmp .lt 4, 3) := by decide +kernel
theorem dX7_goes_53 : decode cX7_goes 53 = .ok (.return_, 1) := by decide +kernel
theorem dX7_goes_54 : decode cX7_goes 54 = .ok (.aload_n 0, 1) := by decide +kernel
theorem dX7_goes_55 : decode cX7_goes 55 = .ok (.iload 5, 2) := by decide +kernel
theorem dX7_goes_57 : decode cX7_goes 57 = .ok (.putfield 111, 3) := by decide +kernel
theorem dX7_goes_60 : decode cX7_goes 60 = .ok (.aload_n 0, 1) := by decide +kernel
theorem dX7_goes_61 : decode cX7_goes 61 = .ok (.iload_n 3, 1) := by decide +kernel
theorem dX7_goes_62 : decode cX7_goes 62 = .ok (.bipush 10, 2) := by decide +kernel
theorem dX7_goes_64 : decode cX7_goes 64 = .ok (.idiv, 1) := by decide +kernel
theorem dX7_goes_65 : decode cX7_goes 65 = .ok (.putfield 114, 3) := by decide +kernel
theorem dX7_goes_68 : decode cX7_goes 68 = .ok (.aload_n 0, 1) := by decide +kernel
theorem dX7_goes_69 : decode cX7_goes 69 = .ok (.iload 4, 2) := by decide +kernel
theorem dX7_goes_71 : decode cX7_goes 71 = .ok (.bipush 10, 2) := by decide +kernel
theorem dX7_goes_73 : decode cX7_goes 73 = .ok (.iadd, 1) := by decide +kernel
theorem dX7_goes_74 : decode cX7_goes 74 = .ok (.iconst 1, 1) := by decide +kernel
theorem dX7_goes_75 : decode cX7_goes 75 = .ok (.isub, 1) := by decide +kernel
theorem dX7_goes_76 : decode cX7_goes 76 = .ok (.bipush 10, 2) := by decide +kernel
theorem dX7_goes_78 : decode cX7_goes 78 = .ok (.idiv, 1) := by decide +kernel
theorem dX7_goes_79 : decode cX7_goes 79 = .ok (.putfield 117, 3) := by decide +kernel
theorem dX7_goes_82 : decode cX7_goes 82 = .ok (.iconst 0, 1) := by decide +kernel
theorem dX7_goes_83 : decode cX7_goes 83 = .ok (.istore 8, 2) := by decide +kernel
theorem dX7_goes_85 : decode cX7_goes 85 = .ok (.iload 8, 2) := by decide +kernel
theorem dX7_goes_87 : decode cX7_goes 87 = .ok (.aload_n 0, 1) := by decide +kernel
theorem dX7_goes_88 : decode cX7_goes 88 = .ok (.getfield 104, 3) := by decide +kernel
theorem dX7_goes_91 : decode cX7_goes 91 = .ok (.if_icmp .ge 23, 3) := by decide +kernel
theorem dX7_goes_94 : decode cX7_goes 94 = .ok (.aload_n 0, 1) := by decide +kernel
theorem dX7_goes_95 : decode cX7_goes 95 = .ok (.getfield 25, 3) := by decide +kernel
theorem dX7_goes_98 : decode cX7_goes 98 = .ok (.iload 8, 2) := by decide +kernel
theorem dX7_goes_100 : decode cX7_goes 100 = .ok (.aload_n 0, 1) := by decide +kernel
theorem dX7_goes_101 : decode cX7_goes 101 = .ok (.getfield 22, 3) := by decide +kernel
theorem dX7_goes_104 : decode cX7_goes 104 = .ok (.iload 8, 2) := by decide +kernel
theorem dX7_goes_106 : decode cX7_goes 106 = .ok (.iaload, 1) := by decide +kernel
theorem dX7_goes_107 : decode cX7_goes 107 = .ok (.iastore, 1) := by decide +kernel
theorem dX7_goes_108 : decode cX7_goes 108 = .ok (.iinc 8 1, 3) := by decide +kernel
theorem dX7_goes_111 : decode cX7_goes 111 = .ok (.goto (-26), 3) := by decide +kernel
theorem dX7_goes_114 : decode cX7_goes 114 = .ok (.return_, 1) := by decide +kernel
theorem dX7_goes_115 : decode cX7_goes 115 = .ok (.iconst 0, 1) := by decide +kernel
theorem dX7_goes_116 : decode cX7_goes 116 = .ok (.istore 8, 2) := by decide +kernel
theorem dX7_goes_118 : decode cX7_goes 118 = .ok (.iload 8, 2) := by decide +kernel
theorem dX7_goes_120 : decode cX7_goes 120 = .ok (.iload_n 2, 1) := by decide +kernel
theorem dX7_goes_121 : decode cX7_goes 121 = .ok (.if_icmp .gt 78, 3) := by decide +kernel
theorem dX7_goes_124 : decode cX7_goes 124 = .ok (.iload 8, 2) := by decide +kernel
theorem dX7_goes_126 : decode cX7_goes 126 = .ok (.aload_n 0, 1) := by decide +kernel
theorem dX7_goes_127 : decode cX7_goes 127 = .ok (.getfield 19, 3) := by decide +kernel
theorem dX7_goes_130 : decode cX7_goes 130 = .ok (.iload_n 1, 1) := by decide +kernel
theorem dX7_goes_131 : decode cX7_goes 131 = .ok (.iaload, 1) := by decide +kernel
theorem dX7_goes_132 : decode cX7_goes 132 = .ok (.if_icmp .gt 67, 3) := by decide +kernel
theorem dX7_goes_135 : decode cX7_goes 135 = .ok (.aload_n 0, 1) := by decide +kernel
theorem dX7_goes_136 : decode cX7_goes 136 = .ok (.getfield 22, 3) := by decide +kernel
theorem dX7_goes_139 : decode cX7_goes 139 = .ok (.iload_n 1, 1) := by decide +kernel
theorem dX7_goes_140 : decode cX7_goes 140 = .ok (.iload 8, 2) := by decide +kernel
theorem dX7_goes_142 : decode cX7_goes 142 = .ok (.iastore, 1) := by decide +kernel
theorem dX7_goes_143 : decode cX7_goes 143 = .ok (.aload_n 0, 1) := by decide +kernel
theorem dX7_goes_144 : decode cX7_goes 144 = .ok (.iload_n 1, 1) := by decide +kernel
theorem dX7_goes_145 : decode cX7_goes 145 = .ok (.iconst 1, 1) := by decide +kernel
theorem dX7_goes_146 : decode cX7_goes 146 = .ok (.iadd, 1) := by decide +kernel
theorem dX7_goes_147 : decode cX7_goes 147 = .ok (.iload_n 2, 1) := by decide +kernel
theorem dX7_goes_148 : decode cX7_goes 148 = .ok (.iload 8, 2) := by decide +kernel
theorem dX7_goes_150 : decode cX7_goes 150 = .ok (.isub, 1) := by decide +kernel
theorem dX7_goes_151 : decode cX7_goes 151 = .ok (.iload_n 3, 1) := by decide +kernel
theorem dX7_goes_152 : decode cX7_goes 152 = .ok (.iload 8, 2) := by decide +kernel
theorem dX7_goes_154 : decode cX7_goes 154 = .ok (.aload_n 0, 1) := by decide +kernel
theorem dX7_goes_155 : decode cX7_goes 155 = .ok (.getfield 9, 3) := by decide +kernel
theorem dX7_goes_158 : decode cX7_goes 158 = .ok (.iload_n 1, 1) := by decide +kernel
theorem dX7_goes_159 : decode cX7_goes 159 = .ok (.iaload, 1) := by decide +kernel
theorem dX7_goes_160 : decode cX7_goes 160 = .ok (.imul, 1) := by decide +kernel
theorem dX7_goes_161 : decode cX7_goes 161 = .ok (.iadd, 1) := by decide +kernel
theorem dX7_goes_162 : decode cX7_goes 162 = .ok (.iload 4, 2) := by decide +kernel
theorem dX7_goes_164 : decode cX7_goes 164 = .ok (.iload 8, 2) := by decide +kernel
theorem dX7_goes_166 : decode cX7_goes 166 = .ok (.aload_n 0, 1) := by decide +kernel
theorem dX7_goes_167 : decode cX7_goes 167 = .ok (.getfield 13, 3) := by decide +kernel
theorem dX7_goes_170 : decode cX7_goes 170 = .ok (.iload_n 1, 1) := by decide +kernel
theorem dX7_goes_171 : decode cX7_goes 171 = .ok (.iaload, 1) := by decide +kernel
theorem dX7_goes_172 : decode cX7_goes 172 = .ok (.imul, 1) := by decide +kernel
theorem dX7_goes_173 : decode cX7_goes 173 = .ok (.iadd, 1) := by decide +kernel
theorem dX7_goes_174 : decode cX7_goes 174 = .ok (.iload 5, 2) := by decide +kernel
theorem dX7_goes_176 : decode cX7_goes 176 = .ok (.iload 8, 2) := by decide +kernel
theorem dX7_goes_178 : decode cX7_goes 178 = .ok (.aload_n 0, 1) := by decide +kernel
theorem dX7_goes_179 : decode cX7_goes 179 = .ok (.getfield 16, 3) := by decide +kernel
theorem dX7_goes_182 : decode cX7_goes 182 = .ok (.iload_n 1, 1) := by decide +kernel
theorem dX7_goes_183 : decode cX7_goes 183 = .ok (.iaload, 1) := by decide +kernel
theorem dX7_goes_184 : decode cX7_goes 184 = .ok (.imul, 1) := by decide +kernel
theorem dX7_goes_185 : decode cX7_goes 185 = .ok (.iadd, 1) := by decide +kernel
theorem dX7_goes_186 : decode cX7_goes 186 = .ok (.iload 6, 2) := by decide +kernel
theorem dX7_goes_188 : decode cX7_goes 188 = .ok (.iload 7, 2) := by decide +kernel
theorem dX7_goes_190 : decode cX7_goes 190 = .ok (.invokevirtual 120, 3) := by decide +kernel
theorem dX7_goes_193 : decode cX7_goes 193 = .ok (.iinc 8 1, 3) := by decide +kernel
theorem dX7_goes_196 : decode cX7_goes 196 = .ok (.goto (-78), 3) := by decide +kernel
theorem dX7_goes_199 : decode cX7_goes 199 = .ok (.return_, 1) := by decide +kernel
set_option maxRecDepth 20000 in
theorem ggX7_blends_X7_goes : GoodIn wsX7_blends wsX7_goes := goodIn_r _ [6, 7, 1, 8, 9, 10, 11, 12, 13, 14, 15, 2, 3, 4, 5, 16, 17, 18, 19, 20, 21, 22, 23, 24, 25, 26, 27, 28, 29, 30, 31, 32, 33, 34, 35, 36, 37, 38, 39, 40, 41, 42, 43, 44, 45, 46, 47, 48, 49, 50, 51, 52, 53, 54, 55, 56, 57] (by decide +kernel) (by decide +kernel)
set_option maxRecDepth 20000 in
theorem gX7_blends_X7_goes : GoodIn wsX7_blends (wsV RX7 120 RX7 yX7_goes wsX7_goes) := goodIn_app (goodIn_of _ (by decide +kernel)) ggX7_blends_X7_goes
theorem dX7_blends_0 : decode cX7_blends 0 = .ok (.aload_n 0, 1) := by decide +kernel
theorem dX7_blends_1 : decode cX7_blends 1 = .ok (.iconst (-1), 1) := by decide +kernel
theorem dX7_blends_2 : decode cX7_blends 2 = .ok (.putfield 111, 3) := by decide +kernel
theorem dX7_blends_5 : decode cX7_blends 5 = .ok (.aload_n 0, 1) := by decide +kernel
theorem dX7_blends_6 : decode cX7_blends 6 = .ok (.iconst 0, 1) := by decide +kernel
theorem dX7_blends_7 : decode cX7_blends 7 = .ok (.bipush 10, 2) := by decide +kernel
theorem dX7_blends_9 : decode cX7_blends 9 = .ok (.iconst 0, 1) := by decide +kernel
theorem dX7_blends_10 : decode cX7_blends 10 = .ok (.iconst 0, 1) := by decide +kernel
theorem dX7_blends_11 : decode cX7_blends 11 = .ok (.iconst 0, 1) := by decide +kernel
theorem dX7_blends_12 : decode cX7_blends 12 = .ok (.iload_n 1, 1) := by decide +kernel
theorem dX7_blends_13 : decode cX7_blends 13 = .ok (.iload_n 2, 1) := by decide +kernel
theorem dX7_blends_14 : decode cX7_blends 14 = .ok (.invokevirtual 120, 3) := by decide +kernel
theorem dX7_blends_17 : decode cX7_blends 17 = .ok (.aload_n 0, 1) := by decide +kernel
theorem dX7_blends_18 : decode cX7_blends 18 = .ok (.getfield 111, 3) := by decide +kernel
theorem dX7_blends_21 : decode cX7_blends 21 = .ok (.ireturn, 1) := by decide +kernel
theorem dX7_noGrade_0 : decode cX7_noGrade 0 = .ok (.iload_n 0, 1) := by decide +kernel
theorem dX7_noGrade_1 : decode cX7_noGrade 1 = .ok (.ifCond .lt 15, 3) := by decide +kernel
theorem dX7_noGrade_4 : decode cX7_noGrade 4 = .ok (.iload_n 1, 1) := by decide +kernel
theorem dX7_noGrade_5 : decode cX7_noGrade 5 = .ok (.iload_n 0, 1) := by decide +kernel
theorem dX7_noGrade_6 : decode cX7_noGrade 6 = .ok (.if_icmp .lt 10, 3) := by decide +kernel
theorem dX7_noGrade_9 : decode cX7_noGrade 9 = .ok (.iload_n 1, 1) := by decide +kernel
theorem dX7_noGrade_10 : decode cX7_noGrade 10 = .ok (.sipush 1000, 3) := by decide +kernel
theorem dX7_noGrade_13 : decode cX7_noGrade 13 = .ok (.if_icmp .le 7, 3) := by decide +kernel
theorem dX7_noGrade_16 : decode cX7_noGrade 16 = .ok (.iconst 1, 1) := by decide +kernel
theorem dX7_noGrade_17 : decode cX7_noGrade 17 = .ok (.goto 4, 3) := by decide +kernel
theorem dX7_noGrade_20 : decode cX7_noGrade 20 = .ok (.iconst 0, 1) := by decide +kernel
theorem dX7_noGrade_21 : decode cX7_noGrade 21 = .ok (.ireturn, 1) := by decide +kernel
set_option maxRecDepth 20000 in
theorem ggX7_blend_X7_noGrade : GoodIn wsX7_blend wsX7_noGrade := goodIn_r _ [5] (by decide +kernel) (by decide +kernel)
set_option maxRecDepth 20000 in
theorem gX7_blend_X7_noGrade : GoodIn wsX7_blend (va_wsS RX7 124 yX7_noGrade wsX7_noGrade) := goodIn_app (goodIn_of _ (by decide +kernel)) ggX7_blend_X7_noGrade
set_option maxRecDepth 20000 in
theorem ggX7_blend_X7_throwsIf : GoodIn wsX7_blend wsX7_throwsIf := goodIn_r _ [9, 1, 28, 29, 30, 31, 32, 33, 34, 35, 36, 37, 38, 39, 40, 41, 42, 43, 44, 45, 46, 47, 48, 49, 50, 51, 52, 53, 54, 55, 56, 57, 58, 59, 60, 61, 62, 63, 64, 65, 66, 67, 68, 69] (by decide +kernel) (by decide +kernel)
set_option maxRecDepth 20000 in
theorem gX7_blend_X7_throwsIf : GoodIn wsX7_blend (wsV RX7 100 RX7 yX7_throwsIf wsX7_throwsIf) := goodIn_app (goodIn_of _ (by decide +kernel)) ggX7_blend_X7_throwsIf
set_option maxRecDepth 20000 in
theorem ggX7_blend_X7_blends : GoodIn wsX7_blend wsX7_blends := goodIn_r _ [13, 14, 15, 16, 17, 4, 18, 19, 20, 21, 22, 23, 24, 25, 26, 27, 28, 29, 30, 31, 32, 33, 34, 35, 36, 37, 38, 39, 40, 41, 42, 43, 44, 45, 46, 47, 48, 49, 50, 51, 52, 53, 54, 55, 56, 57, 58, 59, 60, 61, 62, 63, 64, 65, 66, 67, 68, 69] (by decide +kernel) (by decide +kernel)
set_option maxRecDepth 20000 in
theorem gX7_blend_X7_blends : GoodIn wsX7_blend (wsV RX7 128 RX7 yX7_blends wsX7_blends) := goodIn_app (goodIn_of _ (by decide +kernel)) ggX7_blend_X7_blends
theorem dX7_blend_0 : decode cX7_blend 0 = .ok (.aload_n 0, 1) := by decide +kernel
theorem dX7_blend_1 : decode cX7_blend 1 = .ok (.iconst 0, 1) := by decide +kernel
theorem dX7_blend_2 : decode cX7_blend 2 = .ok (.putfield 93, 3) := by decide +kernel
theorem dX7_blend_5 : decode cX7_blend 5 = .ok (.aload_n 0, 1) := by decide +kernel
theorem dX7_blend_6 : decode cX7_blend 6 = .ok (.iload_n 1, 1) := by decide +kernel
theorem dX7_blend_7 : decode cX7_blend 7 = .ok (.iload_n 2, 1) := by decide +kernel
theorem dX7_blend_8 : decode cX7_blend 8 = .ok (.invokestatic 124, 3) := by decide +kernel
theorem dX7_blend_11 : decode cX7_blend 11 = .ok (.iconst 1, 1) := by decide +kernel
theorem dX7_blend_12 : decode cX7_blend 12 = .ok (.invokevirtual 100, 3) := by decide +kernel
theorem dX7_blend_15 : decode cX7_blend 15 = .ok (.ifCond .eq 7, 3) := by decide +kernel
theorem dX7_blend_18 : decode cX7_blend 18 = .ok (.iconst 0, 1) := by decide +kernel
theorem dX7_blend_19 : decode cX7_blend 19 = .ok (.goto 9, 3) := by decide +kernel
theorem dX7_blend_22 : decode cX7_blend 22 = .ok (.aload_n 0, 1) := by decide +kernel
theorem dX7_blend_23 : decode cX7_blend 23 = .ok (.iload_n 1, 1) := by decide +kernel
theorem dX7_blend_24 : decode cX7_blend 24 = .ok (.iload_n 2, 1) := by decide +kernel
theorem dX7_blend_25 : decode cX7_blend 25 = .ok (.invokevirtual 128, 3) := by decide +kernel
theorem dX7_blend_28 : decode cX7_blend 28 = .ok (.ireturn, 1) := by decide +kernel
set_option maxRecDepth 20000 in
theorem ggX7_parts_X7_noEarth : GoodIn wsX7_parts wsX7_noEarth := goodIn_r _ [7, 8, 9, 10, 6, 11, 35, 36, 37, 38, 39, 40, 41, 42, 43, 44, 45, 46, 47, 48, 49, 50, 51, 52, 53, 54, 55, 56, 57, 58, 59, 60, 61, 62, 63, 64, 65, 66, 67, 68, 69, 70, 71, 72, 73, 74, 75, 76] (by decide +kernel) (by decide +kernel)
set_option maxRecDepth 20000 in
theorem gX7_parts_X7_noEarth : GoodIn wsX7_parts (wsV RX7 107 RX7 yX7_noEarth wsX7_noEarth) := goodIn_app (goodIn_of _ (by decide +kernel)) ggX7_parts_X7_noEarth
set_option maxRecDepth 20000 in
theorem ggX7_parts_X7_throwsIf : GoodIn wsX7_parts wsX7_throwsIf := goodIn_r _ [15, 1, 35, 36, 37, 38, 39, 40, 41, 42, 43, 44, 45, 46, 47, 48, 49, 50, 51, 52, 53, 54, 55, 56, 57, 58, 59, 60, 61, 62, 63, 64, 65, 66, 67, 68, 69, 70, 71, 72, 73, 74, 75, 76] (by decide +kernel) (by decide +kernel)
set_option maxRecDepth 20000 in
theorem gX7_parts_X7_throwsIf : GoodIn wsX7_parts (wsV RX7 100 RX7 yX7_throwsIf wsX7_throwsIf) := goodIn_app (goodIn_of _ (by decide +kernel)) ggX7_parts_X7_throwsIf
set_option maxRecDepth 20000 in
theorem ggX7_parts_X7_noGrade : GoodIn wsX7_parts wsX7_noGrade := goodIn_r _ [18] (by decide +kernel) (by decide +kernel)
set_option maxRecDepth 20000 in
theorem gX7_parts_X7_noGrade : GoodIn wsX7_parts (va_wsS RX7 124 yX7_noGrade wsX7_noGrade) := goodIn_app (goodIn_of _ (by decide +kernel)) ggX7_parts_X7_noGrade
set_option maxRecDepth 20000 in
theorem ggX7_parts_X7_blends : GoodIn wsX7_parts wsX7_blends := goodIn_r _ [22, 23, 24, 25, 26, 6, 27, 8, 28, 29, 2, 30, 31, 32, 33, 34, 35, 36, 37, 38, 39, 40, 41, 42, 43, 44, 45, 46, 47, 48, 49, 50, 51, 52, 53, 54, 55, 56, 57, 58, 59, 60, 61, 62, 63, 64, 65, 66, 67, 68, 69, 70, 71, 72, 73, 74, 75, 76] (by decide +kernel) (by decide +kernel)
set_option maxRecDepth 20000 in
theorem gX7_parts_X7_blends : GoodIn wsX7_parts (wsV RX7 128 RX7 yX7_blends wsX7_blends) := goodIn_app (goodIn_of _ (by decide +kernel)) ggX7_parts_X7_blends
theorem dX7_parts_0 : decode cX7_parts 0 = .ok (.aload_n 0, 1) := by decide +kernel
theorem dX7_parts_1 : decode cX7_parts 1 = .ok (.iconst 0, 1) := by decide +kernel
theorem dX7_parts_2 : decode cX7_parts 2 = .ok (.putfield 93, 3) := by decide +kernel
theorem dX7_parts_5 : decode cX7_parts 5 = .ok (.aload_n 0, 1) := by decide +kernel
theorem dX7_parts_6 : decode cX7_parts 6 = .ok (.aload_n 0, 1) := by decide +kernel
theorem dX7_parts_7 : decode cX7_parts 7 = .ok (.iload_n 3, 1) := by decide +kernel
theorem dX7_parts_8 : decode cX7_parts 8 = .ok (.invokevirtual 107, 3) := by decide +kernel
theorem dX7_parts_11 : decode cX7_parts 11 = .ok (.iconst 1, 1) := by decide +kernel
theorem dX7_parts_12 : decode cX7_parts 12 = .ok (.invokevirtual 100, 3) := by decide +kernel
theorem dX7_parts_15 : decode cX7_parts 15 = .ok (.ifCond .ne 16, 3) := by decide +kernel
theorem dX7_parts_18 : decode cX7_parts 18 = .ok (.aload_n 0, 1) := by decide +kernel
theorem dX7_parts_19 : decode cX7_parts 19 = .ok (.iload_n 1, 1) := by decide +kernel
theorem dX7_parts_20 : decode cX7_parts 20 = .ok (.iload_n 2, 1) := by decide +kernel
theorem dX7_parts_21 : decode cX7_parts 21 = .ok (.invokestatic 124, 3) := by decide +kernel
theorem dX7_parts_24 : decode cX7_parts 24 = .ok (.iconst 2, 1) := by decide +kernel
theorem dX7_parts_25 : decode cX7_parts 25 = .ok (.invokevirtual 100, 3) := by decide +kernel
theorem dX7_parts_28 : decode cX7_parts 28 = .ok (.ifCond .eq 5, 3) := by decide +kernel
theorem dX7_parts_31 : decode cX7_parts 31 = .ok (.iconst 0, 1) := by decide +kernel
theorem dX7_parts_32 : decode cX7_parts 32 = .ok (.ireturn, 1) := by decide +kernel
theorem dX7_parts_33 : decode cX7_parts 33 = .ok (.aload_n 0, 1) := by decide +kernel
theorem dX7_parts_34 : decode cX7_parts 34 = .ok (.iload_n 1, 1) := by decide +kernel
theorem dX7_parts_35 : decode cX7_parts 35 = .ok (.iload_n 2, 1) := by decide +kernel
theorem dX7_parts_36 : decode cX7_parts 36 = .ok (.invokevirtual 128, 3) := by decide +kernel
theorem dX7_parts_39 : decode cX7_parts 39 = .ok (.iconst (-1), 1) := by decide +kernel
theorem dX7_parts_40 : decode cX7_parts 40 = .ok (.if_icmp .ne 7, 3) := by decide +kernel
theorem dX7_parts_43 : decode cX7_parts 43 = .ok (.iconst (-1), 1) := by decide +kernel
theorem dX7_parts_44 : decode cX7_parts 44 = .ok (.goto 9, 3) := by decide +kernel
theorem dX7_parts_47 : decode cX7_parts 47 = .ok (.aload_n 0, 1) := by decide +kernel
theorem dX7_parts_48 : decode cX7_parts 48 = .ok (.getfield 25, 3) := by decide +kernel
theorem dX7_parts_51 : decode cX7_parts 51 = .ok (.iload_n 3, 1) := by decide +kernel
theorem dX7_parts_52 : decode cX7_parts 52 = .ok (.iaload, 1) := by decide +kernel
theorem dX7_parts_53 : decode cX7_parts 53 = .ok (.ireturn, 1) := by decide +kernel
set_option maxRecDepth 20000 in
theorem ggX7_noLot_X7_in : GoodIn wsX7_noLot wsX7_in := goodIn_r _ [5] (by decide +kernel) (by decide +kernel)
set_option maxRecDepth 20000 in
theorem gX7_noLot_X7_in : GoodIn wsX7_noLot (va_wsS RX7 96 yX7_in wsX7_in) := goodIn_app (goodIn_of _ (by decide +kernel)) ggX7_noLot_X7_in
theorem dX7_noLot_0 : decode cX7_noLot 0 = .ok (.iload_n 1, 1) := by decide +kernel
theorem dX7_noLot_1 : decode cX7_noLot 1 = .ok (.iconst 0, 1) := by decide +kernel
theorem dX7_noLot_2 : decode cX7_noLot 2 = .ok (.aload_n 0, 1) := by decide +kernel
theorem dX7_noLot_3 : decode cX7_noLot 3 = .ok (.getfield 132, 3) := by decide +kernel
theorem dX7_noLot_6 : decode cX7_noLot 6 = .ok (.iconst 1, 1) := by decide +kernel
theorem dX7_noLot_7 : decode cX7_noLot 7 = .ok (.isub, 1) := by decide +kernel
theorem dX7_noLot_8 : decode cX7_noLot 8 = .ok (.invokestatic 96, 3) := by decide +kernel
theorem dX7_noLot_11 : decode cX7_noLot 11 = .ok (.ifCond .ne 7, 3) := by decide +kernel
theorem dX7_noLot_14 : decode cX7_noLot 14 = .ok (.iconst 1, 1) := by decide +kernel
theorem dX7_noLot_15 : decode cX7_noLot 15 = .ok (.goto 4, 3) := by decide +kernel
theorem dX7_noLot_18 : decode cX7_noLot 18 = .ok (.iconst 0, 1) := by decide +kernel
theorem dX7_noLot_19 : decode cX7_noLot 19 = .ok (.ireturn, 1) := by decide +kernel
theorem dX7_adds_0 : decode cX7_adds 0 = .ok (.aload_n 0, 1) := by decide +kernel
theorem dX7_adds_1 : decode cX7_adds 1 = .ok (.getfield 28, 3) := by decide +kernel
theorem dX7_adds_4 : decode cX7_adds 4 = .ok (.aload_n 0, 1) := by decide +kernel
theorem dX7_adds_5 : decode cX7_adds 5 = .ok (.getfield 132, 3) := by decide +kernel
theorem dX7_adds_8 : decode cX7_adds 8 = .ok (.iload_n 1, 1) := by decide +kernel
theorem dX7_adds_9 : decode cX7_adds 9 = .ok (.iastore, 1) := by decide +kernel
theorem dX7_adds_10 : decode cX7_adds 10 = .ok (.aload_n 0, 1) := by decide +kernel
theorem dX7_adds_11 : decode cX7_adds 11 = .ok (.getfield 31, 3) := by decide +kernel
theorem dX7_adds_14 : decode cX7_adds 14 = .ok (.aload_n 0, 1) := by decide +kernel
theorem dX7_adds_15 : decode cX7_adds 15 = .ok (.getfield 132, 3) := by decide +kernel
theorem dX7_adds_18 : decode cX7_adds 18 = .ok (.iload_n 2, 1) := by decide +kernel
theorem dX7_adds_19 : decode cX7_adds 19 = .ok (.iastore, 1) := by decide +kernel
theorem dX7_adds_20 : decode cX7_adds 20 = .ok (.aload_n 0, 1) := by decide +kernel
theorem dX7_adds_21 : decode cX7_adds 21 = .ok (.getfield 37, 3) := by decide +kernel
theorem dX7_adds_24 : decode cX7_adds 24 = .ok (.aload_n 0, 1) := by decide +kernel
theorem dX7_adds_25 : decode cX7_adds 25 = .ok (.getfield 132, 3) := by decide +kernel
theorem dX7_adds_28 : decode cX7_adds 28 = .ok (.iload_n 3, 1) := by decide +kernel
theorem dX7_adds_29 : decode cX7_adds 29 = .ok (.iastore, 1) := by decide +kernel
theorem dX7_adds_30 : decode cX7_adds 30 = .ok (.aload_n 0, 1) := by decide +kernel
theorem dX7_adds_31 : decode cX7_adds 31 = .ok (.getfield 40, 3) := by decide +kernel
theorem dX7_adds_34 : decode cX7_adds 34 = .ok (.aload_n 0, 1) := by decide +kernel
theorem dX7_adds_35 : decode cX7_adds 35 = .ok (.getfield 132, 3) := by decide +kernel
theorem dX7_adds_38 : decode cX7_adds 38 = .ok (.iload 4, 2) := by decide +kernel
theorem dX7_adds_40 : decode cX7_adds 40 = .ok (.iastore, 1) := by decide +kernel
theorem dX7_adds_41 : decode cX7_adds 41 = .ok (.aload_n 0, 1) := by decide +kernel
theorem dX7_adds_42 : decode cX7_adds 42 = .ok (.dup, 1) := by decide +kernel
theorem dX7_adds_43 : decode cX7_adds 43 = .ok (.getfield 132, 3) := by decide +kernel
theorem dX7_adds_46 : decode cX7_adds 46 = .ok (.iconst 1, 1) := by decide +kernel
theorem dX7_adds_47 : decode cX7_adds 47 = .ok (.iadd, 1) := by decide +kernel
theorem dX7_adds_48 : decode cX7_adds 48 = .ok (.putfield 132, 3) := by decide +kernel
theorem dX7_adds_51 : decode cX7_adds 51 = .ok (.aload_n 0, 1) := by decide +kernel
theorem dX7_adds_52 : decode cX7_adds 52 = .ok (.getfield 132, 3) := by decide +kernel
theorem dX7_adds_55 : decode cX7_adds 55 = .ok (.iconst 1, 1) := by decide +kernel
theorem dX7_adds_56 : decode cX7_adds 56 = .ok (.isub, 1) := by decide +kernel
theorem dX7_adds_57 : decode cX7_adds 57 = .ok (.ireturn, 1) := by decide +kernel
set_option maxRecDepth 20000 in
theorem ggX7_cores_X7_noGrade : GoodIn wsX7_cores wsX7_noGrade := goodIn_r _ [11] (by decide +kernel) (by decide +kernel)
set_option maxRecDepth 20000 in
theorem gX7_cores_X7_noGrade : GoodIn wsX7_cores (va_wsS RX7 124 yX7_noGrade wsX7_noGrade) := goodIn_app (goodIn_of _ (by decide +kernel)) ggX7_cores_X7_noGrade
set_option maxRecDepth 20000 in
theorem ggX7_cores_X7_throwsIf : GoodIn wsX7_cores wsX7_throwsIf := goodIn_r _ [15, 1, 37, 38, 39, 40, 41, 42, 43, 44, 45, 46, 47, 48, 49, 50, 51, 52, 53, 54, 55, 56, 57, 58, 59, 60, 61, 62, 63, 64, 65, 66, 67, 68, 69, 70, 71, 72, 73, 74, 75, 76, 77, 78] (by decide +kernel) (by decide +kernel)
set_option maxRecDepth 20000 in
theorem gX7_cores_X7_throwsIf : GoodIn wsX7_cores (wsV RX7 100 RX7 yX7_throwsIf wsX7_throwsIf) := goodIn_app (goodIn_of _ (by decide +kernel)) ggX7_cores_X7_throwsIf
set_option maxRecDepth 20000 in
theorem ggX7_cores_X7_blends : GoodIn wsX7_cores wsX7_blends := goodIn_r _ [19, 20, 21, 22, 23, 10, 24, 3, 6, 7, 5, 25, 4, 26, 27, 28, 37, 38, 39, 40, 41, 42, 43, 44, 45, 46, 47, 48, 49, 50, 51, 52, 53, 54, 55, 56, 57, 58, 59, 60, 61, 62, 63, 64, 65, 66, 67, 68, 69, 70, 71, 72, 73, 74, 75, 76, 77, 78] (by decide +kernel) (by decide +kernel)
set_option maxRecDepth 20000 in
theorem gX7_cores_X7_blends : GoodIn wsX7_cores (wsV RX7 128 RX7 yX7_blends wsX7_blends) := goodIn_app (goodIn_of _ (by decide +kernel)) ggX7_cores_X7_blends
set_option maxRecDepth 20000 in
theorem ggX7_cores_X7_adds : GoodIn wsX7_cores wsX7_adds := goodIn_r _ [32, 33, 2, 34, 35, 36, 37, 38, 39, 40, 41, 42, 43, 44, 45, 46, 47, 48, 49, 50, 51, 52, 53, 54, 55, 56, 57, 58, 59, 60, 61, 62, 63, 64, 65, 66, 67, 68, 69, 70, 71, 72, 73, 74, 75, 76, 77, 78] (by decide +kernel) (by decide +kernel)
set_option maxRecDepth 20000 in
theorem gX7_cores_X7_adds : GoodIn wsX7_cores (wsV RX7 135 RX7 yX7_adds wsX7_adds) := goodIn_app (goodIn_of _ (by decide +kernel)) ggX7_cores_X7_adds
theorem dX7_cores_0 : decode cX7_cores 0 = .ok (.aload_n 0, 1) := by decide +kernel
theorem dX7_cores_1 : decode cX7_cores 1 = .ok (.iconst 0, 1) := by decide +kernel
theorem dX7_cores_2 : decode cX7_cores 2 = .ok (.putfield 93, 3) := by decide +kernel
theorem dX7_cores_5 : decode cX7_cores 5 = .ok (.aload_n 0, 1) := by decide +kernel
theorem dX7_cores_6 : decode cX7_cores 6 = .ok (.iload_n 1, 1) := by decide +kernel
theorem dX7_cores_7 : decode cX7_cores 7 = .ok (.iload_n 2, 1) := by decide +kernel
theorem dX7_cores_8 : decode cX7_cores 8 = .ok (.invokestatic 124, 3) := by decide +kernel
theorem dX7_cores_11 : decode cX7_cores 11 = .ok (.iconst 1, 1) := by decide +kernel
theorem dX7_cores_12 : decode cX7_cores 12 = .ok (.invokevirtual 100, 3) := by decide +kernel
theorem dX7_cores_15 : decode cX7_cores 15 = .ok (.ifCond .ne 22, 3) := by decide +kernel
theorem dX7_cores_18 : decode cX7_cores 18 = .ok (.aload_n 0, 1) := by decide +kernel
theorem dX7_cores_19 : decode cX7_cores 19 = .ok (.getfield 132, 3) := by decide +kernel
theorem dX7_cores_22 : decode cX7_cores 22 = .ok (.bipush 12, 2) := by decide +kernel
theorem dX7_cores_24 : decode cX7_cores 24 = .ok (.if_icmp .eq 13, 3) := by decide +kernel
theorem dX7_cores_27 : decode cX7_cores 27 = .ok (.aload_n 0, 1) := by decide +kernel
theorem dX7_cores_28 : decode cX7_cores 28 = .ok (.iload_n 1, 1) := by decide +kernel
theorem dX7_cores_29 : decode cX7_cores 29 = .ok (.iload_n 2, 1) := by decide +kernel
theorem dX7_cores_30 : decode cX7_cores 30 = .ok (.invokevirtual 128, 3) := by decide +kernel
theorem dX7_cores_33 : decode cX7_cores 33 = .ok (.iconst (-1), 1) := by decide +kernel
theorem dX7_cores_34 : decode cX7_cores 34 = .ok (.if_icmp .ne 16, 3) := by decide +kernel
theorem dX7_cores_37 : decode cX7_cores 37 = .ok (.aload_n 0, 1) := by decide +kernel
theorem dX7_cores_38 : decode cX7_cores 38 = .ok (.getfield 93, 3) := by decide +kernel
theorem dX7_cores_41 : decode cX7_cores 41 = .ok (.ifCond .eq 7, 3) := by decide +kernel
theorem dX7_cores_44 : decode cX7_cores 44 = .ok (.iconst 0, 1) := by decide +kernel
theorem dX7_cores_45 : decode cX7_cores 45 = .ok (.goto 4, 3) := by decide +kernel
theorem dX7_cores_48 : decode cX7_cores 48 = .ok (.iconst (-1), 1) := by decide +kernel
theorem dX7_cores_49 : decode cX7_cores 49 = .ok (.ireturn, 1) := by decide +kernel
theorem dX7_cores_50 : decode cX7_cores 50 = .ok (.iconst 0, 1) := by decide +kernel
theorem dX7_cores_51 : decode cX7_cores 51 = .ok (.istore_n 3, 1) := by decide +kernel
theorem dX7_cores_52 : decode cX7_cores 52 = .ok (.iload_n 3, 1) := by decide +kernel
theorem dX7_cores_53 : decode cX7_cores 53 = .ok (.aload_n 0, 1) := by decide +kernel
theorem dX7_cores_54 : decode cX7_cores 54 = .ok (.getfield 104, 3) := by decide +kernel
theorem dX7_cores_57 : decode cX7_cores 57 = .ok (.if_icmp .ge 24, 3) := by decide +kernel
theorem dX7_cores_60 : decode cX7_cores 60 = .ok (.aload_n 0, 1) := by decide +kernel
theorem dX7_cores_61 : decode cX7_cores 61 = .ok (.getfield 19, 3) := by decide +kernel
theorem dX7_cores_64 : decode cX7_cores 64 = .ok (.iload_n 3, 1) := by decide +kernel
theorem dX7_cores_65 : decode cX7_cores 65 = .ok (.dup2, 1) := by decide +kernel
theorem dX7_cores_66 : decode cX7_cores 66 = .ok (.iaload, 1) := by decide +kernel
theorem dX7_cores_67 : decode cX7_cores 67 = .ok (.aload_n 0, 1) := by decide +kernel
theorem dX7_cores_68 : decode cX7_cores 68 = .ok (.getfield 25, 3) := by decide +kernel
theorem dX7_cores_71 : decode cX7_cores 71 = .ok (.iload_n 3, 1) := by decide +kernel
theorem dX7_cores_72 : decode cX7_cores 72 = .ok (.iaload, 1) := by decide +kernel
theorem dX7_cores_73 : decode cX7_cores 73 = .ok (.isub, 1) := by decide +kernel
theorem dX7_cores_74 : decode cX7_cores 74 = .ok (.iastore, 1) := by decide +kernel
theorem dX7_cores_75 : decode cX7_cores 75 = .ok (.iinc 3 1, 3) := by decide +kernel
theorem dX7_cores_78 : decode cX7_cores 78 = .ok (.goto (-26), 3) := by decide +kernel
theorem dX7_cores_81 : decode cX7_cores 81 = .ok (.aload_n 0, 1) := by decide +kernel
theorem dX7_cores_82 : decode cX7_cores 82 = .ok (.iconst 0, 1) := by decide +kernel
theorem dX7_cores_83 : decode cX7_cores 83 = .ok (.bipush 40, 2) := by decide +kernel
theorem dX7_cores_85 : decode cX7_cores 85 = .ok (.aload_n 0, 1) := by decide +kernel
theorem dX7_cores_86 : decode cX7_cores 86 = .ok (.getfield 114, 3) := by decide +kernel
theorem dX7_cores_89 : decode cX7_cores 89 = .ok (.aload_n 0, 1) := by decide +kernel
theorem dX7_cores_90 : decode cX7_cores 90 = .ok (.getfield 117, 3) := by decide +kernel
theorem dX7_cores_93 : decode cX7_cores 93 = .ok (.invokevirtual 135, 3) := by decide +kernel
theorem dX7_cores_96 : decode cX7_cores 96 = .ok (.ireturn, 1) := by decide +kernel
set_option maxRecDepth 20000 in
theorem ggX7_lot_X7_in : GoodIn wsX7_lot wsX7_in := goodIn_r _ [6] (by decide +kernel) (by decide +kernel)
set_option maxRecDepth 20000 in
theorem gX7_lot_X7_in : GoodIn wsX7_lot (va_wsS RX7 96 yX7_in wsX7_in) := goodIn_app (goodIn_of _ (by decide +kernel)) ggX7_lot_X7_in
set_option maxRecDepth 20000 in
theorem ggX7_lot_X7_throwsIf : GoodIn wsX7_lot wsX7_throwsIf := goodIn_r _ [10, 1, 19, 20, 21, 22, 23, 24, 25, 26, 27, 28, 29, 30, 31, 32, 33, 34, 35, 36, 37, 38, 39, 40, 41, 42, 43, 44, 45, 46, 47, 48, 49, 50, 51, 52, 53, 54, 55, 56, 57, 58, 59, 60] (by decide +kernel) (by decide +kernel)
set_option maxRecDepth 20000 in
theorem gX7_lot_X7_throwsIf : GoodIn wsX7_lot (wsV RX7 100 RX7 yX7_throwsIf wsX7_throwsIf) := goodIn_app (goodIn_of _ (by decide +kernel)) ggX7_lot_X7_throwsIf
set_option maxRecDepth 20000 in
theorem ggX7_lot_X7_adds : GoodIn wsX7_lot wsX7_adds := goodIn_r _ [14, 15, 2, 16, 17, 18, 19, 20, 21, 22, 23, 24, 25, 26, 27, 28, 29, 30, 31, 32, 33, 34, 35, 36, 37, 38, 39, 40, 41, 42, 43, 44, 45, 46, 47, 48, 49, 50, 51, 52, 53, 54, 55, 56, 57, 58, 59, 60] (by decide +kernel) (by decide +kernel)
set_option maxRecDepth 20000 in
theorem gX7_lot_X7_adds : GoodIn wsX7_lot (wsV RX7 135 RX7 yX7_adds wsX7_adds) := goodIn_app (goodIn_of _ (by decide +kernel)) ggX7_lot_X7_adds
theorem dX7_lot_0 : decode cX7_lot 0 = .ok (.aload_n 0, 1) := by decide +kernel
theorem dX7_lot_1 : decode cX7_lot 1 = .ok (.iconst 0, 1) := by decide +kernel
theorem dX7_lot_2 : decode cX7_lot 2 = .ok (.putfield 93, 3) := by decide +kernel
theorem dX7_lot_5 : decode cX7_lot 5 = .ok (.aload_n 0, 1) := by decide +kernel
theorem dX7_lot_6 : decode cX7_lot 6 = .ok (.iload_n 1, 1) := by decide +kernel
theorem dX7_lot_7 : decode cX7_lot 7 = .ok (.iconst 1, 1) := by decide +kernel
theorem dX7_lot_8 : decode cX7_lot 8 = .ok (.iconst 2, 1) := by decide +kernel
theorem dX7_lot_9 : decode cX7_lot 9 = .ok (.invokestatic 96, 3) := by decide +kernel
theorem dX7_lot_12 : decode cX7_lot 12 = .ok (.ifCond .eq 14, 3) := by decide +kernel
theorem dX7_lot_15 : decode cX7_lot 15 = .ok (.iload_n 2, 1) := by decide +kernel
theorem dX7_lot_16 : decode cX7_lot 16 = .ok (.iconst 0, 1) := by decide +kernel
theorem dX7_lot_17 : decode cX7_lot 17 = .ok (.sipush 10000, 3) := by decide +kernel
theorem dX7_lot_20 : decode cX7_lot 20 = .ok (.invokestatic 96, 3) := by decide +kernel
theorem dX7_lot_23 : decode cX7_lot 23 = .ok (.ifCond .ne 7, 3) := by decide +kernel
theorem dX7_lot_26 : decode cX7_lot 26 = .ok (.iconst 1, 1) := by decide +kernel
theorem dX7_lot_27 : decode cX7_lot 27 = .ok (.goto 4, 3) := by decide +kernel
theorem dX7_lot_30 : decode cX7_lot 30 = .ok (.iconst 0, 1) := by decide +kernel
theorem dX7_lot_31 : decode cX7_lot 31 = .ok (.iconst 1, 1) := by decide +kernel
theorem dX7_lot_32 : decode cX7_lot 32 = .ok (.invokevirtual 100, 3) := by decide +kernel
theorem dX7_lot_35 : decode cX7_lot 35 = .ok (.ifCond .ne 25, 3) := by decide +kernel
theorem dX7_lot_38 : decode cX7_lot 38 = .ok (.aload_n 0, 1) := by decide +kernel
theorem dX7_lot_39 : decode cX7_lot 39 = .ok (.aload_n 0, 1) := by decide +kernel
theorem dX7_lot_40 : decode cX7_lot 40 = .ok (.getfield 132, 3) := by decide +kernel
theorem dX7_lot_43 : decode cX7_lot 43 = .ok (.bipush 12, 2) := by decide +kernel
theorem dX7_lot_45 : decode cX7_lot 45 = .ok (.if_icmp .ne 7, 3) := by decide +kernel
theorem dX7_lot_48 : decode cX7_lot 48 = .ok (.iconst 1, 1) := by decide +kernel
theorem dX7_lot_49 : decode cX7_lot 49 = .ok (.goto 4, 3) := by decide +kernel
theorem dX7_lot_52 : decode cX7_lot 52 = .ok (.iconst 0, 1) := by decide +kernel
theorem dX7_lot_53 : decode cX7_lot 53 = .ok (.iconst 2, 1) := by decide +kernel
theorem dX7_lot_54 : decode cX7_lot 54 = .ok (.invokevirtual 100, 3) := by decide +kernel
theorem dX7_lot_57 : decode cX7_lot 57 = .ok (.ifCond .eq 5, 3) := by decide +kernel
theorem dX7_lot_60 : decode cX7_lot 60 = .ok (.iconst 0, 1) := by decide +kernel
theorem dX7_lot_61 : decode cX7_lot 61 = .ok (.ireturn, 1) := by decide +kernel
theorem dX7_lot_62 : decode cX7_lot 62 = .ok (.aload_n 0, 1) := by decide +kernel
theorem dX7_lot_63 : decode cX7_lot 63 = .ok (.iload_n 1, 1) := by decide +kernel
theorem dX7_lot_64 : decode cX7_lot 64 = .ok (.iload_n 2, 1) := by decide +kernel
theorem dX7_lot_65 : decode cX7_lot 65 = .ok (.iconst (-1), 1) := by decide +kernel
theorem dX7_lot_66 : decode cX7_lot 66 = .ok (.iconst (-1), 1) := by decide +kernel
theorem dX7_lot_67 : decode cX7_lot 67 = .ok (.invokevirtual 135, 3) := by decide +kernel
theorem dX7_lot_70 : decode cX7_lot 70 = .ok (.ireturn, 1) := by decide +kernel
theorem dX7_uses_0 : decode cX7_uses 0 = .ok (.aload_n 0, 1) := by decide +kernel
theorem dX7_uses_1 : decode cX7_uses 1 = .ok (.getfield 31, 3) := by decide +kernel
theorem dX7_uses_4 : decode cX7_uses 4 = .ok (.iload_n 1, 1) := by decide +kernel
theorem dX7_uses_5 : decode cX7_uses 5 = .ok (.dup2, 1) := by decide +kernel
theorem dX7_uses_6 : decode cX7_uses 6 = .ok (.iaload, 1) := by decide +kernel
theorem dX7_uses_7 : decode cX7_uses 7 = .ok (.iload_n 2, 1) := by decide +kernel
theorem dX7_uses_8 : decode cX7_uses 8 = .ok (.isub, 1) := by decide +kernel
theorem dX7_uses_9 : decode cX7_uses 9 = .ok (.iastore, 1) := by decide +kernel
theorem dX7_uses_10 : decode cX7_uses 10 = .ok (.aload_n 0, 1) := by decide +kernel
theorem dX7_uses_11 : decode cX7_uses 11 = .ok (.getfield 34, 3) := by decide +kernel
theorem dX7_uses_14 : decode cX7_uses 14 = .ok (.iload_n 1, 1) := by decide +kernel
theorem dX7_uses_15 : decode cX7_uses 15 = .ok (.dup2, 1) := by decide +kernel
theorem dX7_uses_16 : decode cX7_uses 16 = .ok (.iaload, 1) := by decide +kernel
theorem dX7_uses_17 : decode cX7_uses 17 = .ok (.iload_n 2, 1) := by decide +kernel
theorem dX7_uses_18 : decode cX7_uses 18 = .ok (.iadd, 1) := by decide +kernel
theorem dX7_uses_19 : decode cX7_uses 19 = .ok (.iastore, 1) := by decide +kernel
theorem dX7_uses_20 : decode cX7_uses 20 = .ok (.return_, 1) := by decide +kernel
set_option maxRecDepth 20000 in
theorem ggX7_make_X7_noLot : GoodIn wsX7_make wsX7_noLot := goodIn_r _ [11, 12, 13, 14, 10, 15, 25, 26, 27, 28, 29, 30, 31, 32, 33, 34, 35, 36, 37, 38, 39, 40, 41, 42, 43, 44, 45, 46, 47, 48, 49, 50, 51, 52, 53, 54, 55, 56, 57, 58, 59, 60, 61, 62, 63, 64, 65, 66] (by decide +kernel) (by decide +kernel)
set_option maxRecDepth 20000 in
theorem gX7_make_X7_noLot : GoodIn wsX7_make (wsV RX7 139 RX7 yX7_noLot wsX7_noLot) := goodIn_app (goodIn_of _ (by decide +kernel)) ggX7_make_X7_noLot
set_option maxRecDepth 20000 in
theorem ggX7_make_X7_throwsIf : GoodIn wsX7_make wsX7_throwsIf := goodIn_r _ [19, 1, 25, 26, 27, 28, 29, 30, 31, 32, 33, 34, 35, 36, 37, 38, 39, 40, 41, 42, 43, 44, 45, 46, 47, 48, 49, 50, 51, 52, 53, 54, 55, 56, 57, 58, 59, 60, 61, 62, 63, 64, 65, 66] (by decide +kernel) (by decide +kernel)
set_option maxRecDepth 20000 in
theorem gX7_make_X7_throwsIf : GoodIn wsX7_make (wsV RX7 100 RX7 yX7_throwsIf wsX7_throwsIf) := goodIn_app (goodIn_of _ (by decide +kernel)) ggX7_make_X7_throwsIf
set_option maxRecDepth 20000 in
theorem ggX7_make_X7_in : GoodIn wsX7_make wsX7_in := goodIn_r _ [15] (by decide +kernel) (by decide +kernel)
set_option maxRecDepth 20000 in
theorem gX7_make_X7_in : GoodIn wsX7_make (va_wsS RX7 96 yX7_in wsX7_in) := goodIn_app (goodIn_of _ (by decide +kernel)) ggX7_make_X7_in
set_option maxRecDepth 20000 in
theorem ggX7_make_X7_uses : GoodIn wsX7_make wsX7_uses := goodIn_r _ [23, 3, 24, 25, 26, 27, 28, 29, 30, 31, 32, 33, 34, 35, 36, 37, 38, 39, 40, 41, 42, 43, 44, 45, 46, 47, 48, 49, 50, 51, 52, 53, 54, 55, 56, 57, 58, 59, 60, 61, 62, 63, 64, 65, 66] (by decide +kernel) (by decide +kernel)
set_option maxRecDepth 20000 in
theorem gX7_make_X7_uses : GoodIn wsX7_make (wsV RX7 145 RX7 yX7_uses wsX7_uses) := goodIn_app (goodIn_of _ (by decide +kernel)) ggX7_make_X7_uses
theorem dX7_make_0 : decode cX7_make 0 = .ok (.aload_n 0, 1) := by decide +kernel
theorem dX7_make_1 : decode cX7_make 1 = .ok (.iconst 0, 1) := by decide +kernel
theorem dX7_make_2 : decode cX7_make 2 = .ok (.putfield 93, 3) := by decide +kernel
theorem dX7_make_5 : decode cX7_make 5 = .ok (.aload_n 0, 1) := by decide +kernel
theorem dX7_make_6 : decode cX7_make 6 = .ok (.aload_n 0, 1) := by decide +kernel
theorem dX7_make_7 : decode cX7_make 7 = .ok (.iload_n 1, 1) := by decide +kernel
theorem dX7_make_8 : decode cX7_make 8 = .ok (.invokevirtual 139, 3) := by decide +kernel
theorem dX7_make_11 : decode cX7_make 11 = .ok (.ifCond .ne 19, 3) := by decide +kernel
theorem dX7_make_14 : decode cX7_make 14 = .ok (.aload_n 0, 1) := by decide +kernel
theorem dX7_make_15 : decode cX7_make 15 = .ok (.iload_n 2, 1) := by decide +kernel
theorem dX7_make_16 : decode cX7_make 16 = .ok (.invokevirtual 139, 3) := by decide +kernel
theorem dX7_make_19 : decode cX7_make 19 = .ok (.ifCond .ne 11, 3) := by decide +kernel
theorem dX7_make_22 : decode cX7_make 22 = .ok (.aload_n 0, 1) := by decide +kernel
theorem dX7_make_23 : decode cX7_make 23 = .ok (.iload_n 3, 1) := by decide +kernel
theorem dX7_make_24 : decode cX7_make 24 = .ok (.invokevirtual 139, 3) := by decide +kernel
theorem dX7_make_27 : decode cX7_make 27 = .ok (.ifCond .eq 7, 3) := by decide +kernel
theorem dX7_make_30 : decode cX7_make 30 = .ok (.iconst 1, 1) := by decide +kernel
theorem dX7_make_31 : decode cX7_make 31 = .ok (.goto 4, 3) := by decide +kernel
theorem dX7_make_34 : decode cX7_make 34 = .ok (.iconst 0, 1) := by decide +kernel
theorem dX7_make_35 : decode cX7_make 35 = .ok (.iconst 1, 1) := by decide +kernel
theorem dX7_make_36 : decode cX7_make 36 = .ok (.invokevirtual 100, 3) := by decide +kernel
theorem dX7_make_39 : decode cX7_make 39 = .ok (.ifCond .ne 57, 3) := by decide +kernel
theorem dX7_make_42 : decode cX7_make 42 = .ok (.aload_n 0, 1) := by decide +kernel
theorem dX7_make_43 : decode cX7_make 43 = .ok (.iload 4, 2) := by decide +kernel
theorem dX7_make_45 : decode cX7_make 45 = .ok (.iconst 1, 1) := by decide +kernel
theorem dX7_make_46 : decode cX7_make 46 = .ok (.sipush 1000, 3) := by decide +kernel
theorem dX7_make_49 : decode cX7_make 49 = .ok (.invokestatic 96, 3) := by decide +kernel
theorem dX7_make_52 : decode cX7_make 52 = .ok (.ifCond .eq 32, 3) := by decide +kernel
theorem dX7_make_55 : decode cX7_make 55 = .ok (.aload_n 0, 1) := by decide +kernel
theorem dX7_make_56 : decode cX7_make 56 = .ok (.getfield 28, 3) := by decide +kernel
theorem dX7_make_59 : decode cX7_make 59 = .ok (.iload_n 1, 1) := by decide +kernel
theorem dX7_make_60 : decode cX7_make 60 = .ok (.iaload, 1) := by decide +kernel
theorem dX7_make_61 : decode cX7_make 61 = .ok (.ifCond .ne 23, 3) := by decide +kernel
theorem dX7_make_64 : decode cX7_make 64 = .ok (.aload_n 0, 1) := by decide +kernel
theorem dX7_make_65 : decode cX7_make 65 = .ok (.getfield 28, 3) := by decide +kernel
theorem dX7_make_68 : decode cX7_make 68 = .ok (.iload_n 2, 1) := by decide +kernel
theorem dX7_make_69 : decode cX7_make 69 = .ok (.iaload, 1) := by decide +kernel
theorem dX7_make_70 : decode cX7_make 70 = .ok (.iconst 1, 1) := by decide +kernel
theorem dX7_make_71 : decode cX7_make 71 = .ok (.if_icmp .ne 13, 3) := by decide +kernel
theorem dX7_make_74 : decode cX7_make 74 = .ok (.aload_n 0, 1) := by decide +kernel
theorem dX7_make_75 : decode cX7_make 75 = .ok (.getfield 28, 3) := by decide +kernel
theorem dX7_make_78 : decode cX7_make 78 = .ok (.iload_n 3, 1) := by decide +kernel
theorem dX7_make_79 : decode cX7_make 79 = .ok (.iaload, 1) := by decide +kernel
theorem dX7_make_80 : decode cX7_make 80 = .ok (.iconst 2, 1) := by decide +kernel
theorem dX7_make_81 : decode cX7_make 81 = .ok (.if_icmp .eq 7, 3) := by decide +kernel
theorem dX7_make_84 : decode cX7_make 84 = .ok (.iconst 1, 1) := by decide +kernel
theorem dX7_make_85 : decode cX7_make 85 = .ok (.goto 4, 3) := by decide +kernel
theorem dX7_make_88 : decode cX7_make 88 = .ok (.iconst 0, 1) := by decide +kernel
theorem dX7_make_89 : decode cX7_make 89 = .ok (.iconst 2, 1) := by decide +kernel
theorem dX7_make_90 : decode cX7_make 90 = .ok (.invokevirtual 100, 3) := by decide +kernel
theorem dX7_make_93 : decode cX7_make 93 = .ok (.ifCond .eq 5, 3) := by decide +kernel
theorem dX7_make_96 : decode cX7_make 96 = .ok (.iconst 0, 1) := by decide +kernel
theorem dX7_make_97 : decode cX7_make 97 = .ok (.ireturn, 1) := by decide +kernel
theorem dX7_make_98 : decode cX7_make 98 = .ok (.aload_n 0, 1) := by decide +kernel
theorem dX7_make_99 : decode cX7_make 99 = .ok (.getfield 31, 3) := by decide +kernel
theorem dX7_make_102 : decode cX7_make 102 = .ok (.iload_n 1, 1) := by decide +kernel
theorem dX7_make_103 : decode cX7_make 103 = .ok (.iaload, 1) := by decide +kernel
theorem dX7_make_104 : decode cX7_make 104 = .ok (.iload 4, 2) := by decide +kernel
theorem dX7_make_106 : decode cX7_make 106 = .ok (.if_icmp .lt 34, 3) := by decide +kernel
theorem dX7_make_109 : decode cX7_make 109 = .ok (.aload_n 0, 1) := by decide +kernel
theorem dX7_make_110 : decode cX7_make 110 = .ok (.getfield 31, 3) := by decide +kernel
theorem dX7_make_113 : decode cX7_make 113 = .ok (.iload_n 2, 1) := by decide +kernel
theorem dX7_make_114 : decode cX7_make 114 = .ok (.iaload, 1) := by decide +kernel
theorem dX7_make_115 : decode cX7_make 115 = .ok (.iload 4, 2) := by decide +kernel
theorem dX7_make_117 : decode cX7_make 117 = .ok (.if_icmp .lt 23, 3) := by decide +kernel
theorem dX7_make_120 : decode cX7_make 120 = .ok (.aload_n 0, 1) := by decide +kernel
theorem dX7_make_121 : decode cX7_make 121 = .ok (.getfield 31, 3) := by decide +kernel
theorem dX7_make_124 : decode cX7_make 124 = .ok (.iload_n 3, 1) := by decide +kernel
theorem dX7_make_125 : decode cX7_make 125 = .ok (.iaload, 1) := by decide +kernel
theorem dX7_make_126 : decode cX7_make 126 = .ok (.iload 4, 2) := by decide +kernel
theorem dX7_make_128 : decode cX7_make 128 = .ok (.if_icmp .lt 12, 3) := by decide +kernel
theorem dX7_make_131 : decode cX7_make 131 = .ok (.aload_n 0, 1) := by decide +kernel
theorem dX7_make_132 : decode cX7_make 132 = .ok (.getfield 142, 3) := by decide +kernel
theorem dX7_make_135 : decode cX7_make 135 = .ok (.bipush 60, 2) := by decide +kernel
theorem dX7_make_137 : decode cX7_make 137 = .ok (.if_icmp .ne 5, 3) := by decide +kernel
theorem dX7_make_140 : decode cX7_make 140 = .ok (.iconst (-1), 1) := by decide +kernel
theorem dX7_make_141 : decode cX7_make 141 = .ok (.ireturn, 1) := by decide +kernel
theorem dX7_make_142 : decode cX7_make 142 = .ok (.aload_n 0, 1) := by decide +kernel
theorem dX7_make_143 : decode cX7_make 143 = .ok (.iload_n 1, 1) := by decide +kernel
theorem dX7_make_144 : decode cX7_make 144 = .ok (.iload 4, 2) := by decide +kernel
theorem dX7_make_146 : decode cX7_make 146 = .ok (.invokevirtual 145, 3) := by decide +kernel
theorem dX7_make_149 : decode cX7_make 149 = .ok (.aload_n 0, 1) := by decide +kernel
theorem dX7_make_150 : decode cX7_make 150 = .ok (.iload_n 2, 1) := by decide +kernel
theorem dX7_make_151 : decode cX7_make 151 = .ok (.iload 4, 2) := by decide +kernel
theorem dX7_make_153 : decode cX7_make 153 = .ok (.invokevirtual 145, 3) := by decide +kernel
theorem dX7_make_156 : decode cX7_make 156 = .ok (.aload_n 0, 1) := by decide +kernel
theorem dX7_make_157 : decode cX7_make 157 = .ok (.iload_n 3, 1) := by decide +kernel
theorem dX7_make_158 : decode cX7_make 158 = .ok (.iload 4, 2) := by decide +kernel
theorem dX7_make_160 : decode cX7_make 160 = .ok (.invokevirtual 145, 3) := by decide +kernel
theorem dX7_make_163 : decode cX7_make 163 = .ok (.aload_n 0, 1) := by decide +kernel
theorem dX7_make_164 : decode cX7_make 164 = .ok (.dup, 1) := by decide +kernel
theorem dX7_make_165 : decode cX7_make 165 = .ok (.getfield 149, 3) := by decide +kernel
theorem dX7_make_168 : decode cX7_make 168 = .ok (.iload 4, 2) := by decide +kernel
theorem dX7_make_170 : decode cX7_make 170 = .ok (.iadd, 1) := by decide +kernel
theorem dX7_make_171 : decode cX7_make 171 = .ok (.putfield 149, 3) := by decide +kernel
theorem dX7_make_174 : decode cX7_make 174 = .ok (.aload_n 0, 1) := by decide +kernel
theorem dX7_make_175 : decode cX7_make 175 = .ok (.getfield 43, 3) := by decide +kernel
theorem dX7_make_178 : decode cX7_make 178 = .ok (.aload_n 0, 1) := by decide +kernel
theorem dX7_make_179 : decode cX7_make 179 = .ok (.getfield 142, 3) := by decide +kernel
theorem dX7_make_182 : decode cX7_make 182 = .ok (.iconst 1, 1) := by decide +kernel
theorem dX7_make_183 : decode cX7_make 183 = .ok (.iload_n 1, 1) := by decide +kernel
theorem dX7_make_184 : decode cX7_make 184 = .ok (.ishl, 1) := by decide +kernel
theorem dX7_make_185 : decode cX7_make 185 = .ok (.iconst 1, 1) := by decide +kernel
theorem dX7_make_186 : decode cX7_make 186 = .ok (.iload_n 2, 1) := by decide +kernel
theorem dX7_make_187 : decode cX7_make 187 = .ok (.ishl, 1) := by decide +kernel
theorem dX7_make_188 : decode cX7_make 188 = .ok (.ior, 1) := by decide +kernel
theorem dX7_make_189 : decode cX7_make 189 = .ok (.iconst 1, 1) := by decide +kernel
theorem dX7_make_190 : decode cX7_make 190 = .ok (.iload_n 3, 1) := by decide +kernel
theorem dX7_make_191 : decode cX7_make 191 = .ok (.ishl, 1) := by decide +kernel
theorem dX7_make_192 : decode cX7_make 192 = .ok (.ior, 1) := by decide +kernel
theorem dX7_make_193 : decode cX7_make 193 = .ok (.iastore, 1) := by decide +kernel
theorem dX7_make_194 : decode cX7_make 194 = .ok (.aload_n 0, 1) := by decide +kernel
theorem dX7_make_195 : decode cX7_make 195 = .ok (.dup, 1) := by decide +kernel
theorem dX7_make_196 : decode cX7_make 196 = .ok (.getfield 142, 3) := by decide +kernel
theorem dX7_make_199 : decode cX7_make 199 = .ok (.iconst 1, 1) := by decide +kernel
theorem dX7_make_200 : decode cX7_make 200 = .ok (.iadd, 1) := by decide +kernel
theorem dX7_make_201 : decode cX7_make 201 = .ok (.putfield 142, 3) := by decide +kernel
theorem dX7_make_204 : decode cX7_make 204 = .ok (.aload_n 0, 1) := by decide +kernel
theorem dX7_make_205 : decode cX7_make 205 = .ok (.getfield 142, 3) := by decide +kernel
theorem dX7_make_208 : decode cX7_make 208 = .ok (.iconst 1, 1) := by decide +kernel
theorem dX7_make_209 : decode cX7_make 209 = .ok (.isub, 1) := by decide +kernel
theorem dX7_make_210 : decode cX7_make 210 = .ok (.ireturn, 1) := by decide +kernel
set_option maxRecDepth 20000 in
theorem ggX7_trial_X7_in : GoodIn wsX7_trial wsX7_in := goodIn_r _ [12] (by decide +kernel) (by decide +kernel)
set_option maxRecDepth 20000 in
theorem gX7_trial_X7_in : GoodIn wsX7_trial (va_wsS RX7 96 yX7_in wsX7_in) := goodIn_app (goodIn_of _ (by decide +kernel)) ggX7_trial_X7_in
set_option maxRecDepth 20000 in
theorem ggX7_trial_X7_throwsIf : GoodIn wsX7_trial wsX7_throwsIf := goodIn_r _ [16, 1, 17, 18, 19, 20, 21, 22, 23, 24, 25, 26, 27, 28, 29, 30, 31, 32, 33, 34, 35, 36, 37, 38, 39, 40, 41, 42, 43, 44, 45, 46, 47, 48, 49, 50, 51, 52, 53, 54, 55, 56, 57, 58] (by decide +kernel) (by decide +kernel)
set_option maxRecDepth 20000 in
theorem gX7_trial_X7_throwsIf : GoodIn wsX7_trial (wsV RX7 100 RX7 yX7_throwsIf wsX7_throwsIf) := goodIn_app (goodIn_of _ (by decide +kernel)) ggX7_trial_X7_throwsIf
theorem dX7_trial_0 : decode cX7_trial 0 = .ok (.aload_n 0, 1) := by decide +kernel
theorem dX7_trial_1 : decode cX7_trial 1 = .ok (.iconst 0, 1) := by decide +kernel
theorem dX7_trial_2 : decode cX7_trial 2 = .ok (.putfield 93, 3) := by decide +kernel
theorem dX7_trial_5 : decode cX7_trial 5 = .ok (.aload_n 0, 1) := by decide +kernel
theorem dX7_trial_6 : decode cX7_trial 6 = .ok (.iload_n 1, 1) := by decide +kernel
theorem dX7_trial_7 : decode cX7_trial 7 = .ok (.iconst 0, 1) := by decide +kernel
theorem dX7_trial_8 : decode cX7_trial 8 = .ok (.aload_n 0, 1) := by decide +kernel
theorem dX7_trial_9 : decode cX7_trial 9 = .ok (.getfield 142, 3) := by decide +kernel
theorem dX7_trial_12 : decode cX7_trial 12 = .ok (.iconst 1, 1) := by decide +kernel
theorem dX7_trial_13 : decode cX7_trial 13 = .ok (.isub, 1) := by decide +kernel
theorem dX7_trial_14 : decode cX7_trial 14 = .ok (.invokestatic 96, 3) := by decide +kernel
theorem dX7_trial_17 : decode cX7_trial 17 = .ok (.ifCond .ne 7, 3) := by decide +kernel
theorem dX7_trial_20 : decode cX7_trial 20 = .ok (.iconst 1, 1) := by decide +kernel
theorem dX7_trial_21 : decode cX7_trial 21 = .ok (.goto 4, 3) := by decide +kernel
theorem dX7_trial_24 : decode cX7_trial 24 = .ok (.iconst 0, 1) := by decide +kernel
theorem dX7_trial_25 : decode cX7_trial 25 = .ok (.iconst 1, 1) := by decide +kernel
theorem dX7_trial_26 : decode cX7_trial 26 = .ok (.invokevirtual 100, 3) := by decide +kernel
theorem dX7_trial_29 : decode cX7_trial 29 = .ok (.ifCond .eq 5, 3) := by decide +kernel
theorem dX7_trial_32 : decode cX7_trial 32 = .ok (.iconst 0, 1) := by decide +kernel
theorem dX7_trial_33 : decode cX7_trial 33 = .ok (.ireturn, 1) := by decide +kernel
theorem dX7_trial_34 : decode cX7_trial 34 = .ok (.aload_n 0, 1) := by decide +kernel
theorem dX7_trial_35 : decode cX7_trial 35 = .ok (.getfield 152, 3) := by decide +kernel
theorem dX7_trial_38 : decode cX7_trial 38 = .ok (.bipush 100, 2) := by decide +kernel
theorem dX7_trial_40 : decode cX7_trial 40 = .ok (.if_icmp .ne 5, 3) := by decide +kernel
theorem dX7_trial_43 : decode cX7_trial 43 = .ok (.iconst (-1), 1) := by decide +kernel
theorem dX7_trial_44 : decode cX7_trial 44 = .ok (.ireturn, 1) := by decide +kernel
theorem dX7_trial_45 : decode cX7_trial 45 = .ok (.aload_n 0, 1) := by decide +kernel
theorem dX7_trial_46 : decode cX7_trial 46 = .ok (.getfield 46, 3) := by decide +kernel
theorem dX7_trial_49 : decode cX7_trial 49 = .ok (.aload_n 0, 1) := by decide +kernel
theorem dX7_trial_50 : decode cX7_trial 50 = .ok (.getfield 152, 3) := by decide +kernel
theorem dX7_trial_53 : decode cX7_trial 53 = .ok (.iload_n 1, 1) := by decide +kernel
theorem dX7_trial_54 : decode cX7_trial 54 = .ok (.iastore, 1) := by decide +kernel
theorem dX7_trial_55 : decode cX7_trial 55 = .ok (.aload_n 0, 1) := by decide +kernel
theorem dX7_trial_56 : decode cX7_trial 56 = .ok (.getfield 49, 3) := by decide +kernel
theorem dX7_trial_59 : decode cX7_trial 59 = .ok (.aload_n 0, 1) := by decide +kernel
theorem dX7_trial_60 : decode cX7_trial 60 = .ok (.getfield 152, 3) := by decide +kernel
theorem dX7_trial_63 : decode cX7_trial 63 = .ok (.iload_n 2, 1) := by decide +kernel
theorem dX7_trial_64 : decode cX7_trial 64 = .ok (.bastore, 1) := by decide +kernel
theorem dX7_trial_65 : decode cX7_trial 65 = .ok (.aload_n 0, 1) := by decide +kernel
theorem dX7_trial_66 : decode cX7_trial 66 = .ok (.getfield 53, 3) := by decide +kernel
theorem dX7_trial_69 : decode cX7_trial 69 = .ok (.aload_n 0, 1) := by decide +kernel
theorem dX7_trial_70 : decode cX7_trial 70 = .ok (.getfield 152, 3) := by decide +kernel
theorem dX7_trial_73 : decode cX7_trial 73 = .ok (.aload_n 0, 1) := by decide +kernel
theorem dX7_trial_74 : decode cX7_trial 74 = .ok (.getfield 155, 3) := by decide +kernel
theorem dX7_trial_77 : decode cX7_trial 77 = .ok (.iastore, 1) := by decide +kernel
theorem dX7_trial_78 : decode cX7_trial 78 = .ok (.aload_n 0, 1) := by decide +kernel
theorem dX7_trial_79 : decode cX7_trial 79 = .ok (.getfield 56, 3) := by decide +kernel
theorem dX7_trial_82 : decode cX7_trial 82 = .ok (.aload_n 0, 1) := by decide +kernel
theorem dX7_trial_83 : decode cX7_trial 83 = .ok (.getfield 152, 3) := by decide +kernel
theorem dX7_trial_86 : decode cX7_trial 86 = .ok (.iconst (-1), 1) := by decide +kernel
theorem dX7_trial_87 : decode cX7_trial 87 = .ok (.iastore, 1) := by decide +kernel
theorem dX7_trial_88 : decode cX7_trial 88 = .ok (.aload_n 0, 1) := by decide +kernel
theorem dX7_trial_89 : decode cX7_trial 89 = .ok (.dup, 1) := by decide +kernel
theorem dX7_trial_90 : decode cX7_trial 90 = .ok (.getfield 152, 3) := by decide +kernel
theorem dX7_trial_93 : decode cX7_trial 93 = .ok (.iconst 1, 1) := by decide +kernel
theorem dX7_trial_94 : decode cX7_trial 94 = .ok (.iadd, 1) := by decide +kernel
theorem dX7_trial_95 : decode cX7_trial 95 = .ok (.putfield 152, 3) := by decide +kernel
theorem dX7_trial_98 : decode cX7_trial 98 = .ok (.aload_n 0, 1) := by decide +kernel
theorem dX7_trial_99 : decode cX7_trial 99 = .ok (.getfield 152, 3) := by decide +kernel
theorem dX7_trial_102 : decode cX7_trial 102 = .ok (.iconst 1, 1) := by decide +kernel
theorem dX7_trial_103 : decode cX7_trial 103 = .ok (.isub, 1) := by decide +kernel
theorem dX7_trial_104 : decode cX7_trial 104 = .ok (.ireturn, 1) := by decide +kernel
set_option maxRecDepth 20000 in
theorem ggX7_undo_X7_in : GoodIn wsX7_undo wsX7_in := goodIn_r _ [8] (by decide +kernel) (by decide +kernel)
set_option maxRecDepth 20000 in
theorem gX7_undo_X7_in : GoodIn wsX7_undo (va_wsS RX7 96 yX7_in wsX7_in) := goodIn_app (goodIn_of _ (by decide +kernel)) ggX7_undo_X7_in
set_option maxRecDepth 20000 in
theorem ggX7_undo_X7_throwsIf : GoodIn wsX7_undo wsX7_throwsIf := goodIn_r _ [12, 1, 13, 14, 15, 16, 17, 18, 19, 20, 21, 22, 23, 24, 25, 26, 27, 28, 29, 30, 31, 32, 33, 34, 35, 36, 37, 38, 39, 40, 41, 42, 43, 44, 45, 46, 47, 48, 49, 50, 51, 52, 53, 54] (by decide +kernel) (by decide +kernel)
set_option maxRecDepth 20000 in
theorem gX7_undo_X7_throwsIf : GoodIn wsX7_undo (wsV RX7 100 RX7 yX7_throwsIf wsX7_throwsIf) := goodIn_app (goodIn_of _ (by decide +kernel)) ggX7_undo_X7_throwsIf
theorem dX7_undo_0 : decode cX7_undo 0 = .ok (.aload_n 0, 1) := by decide +kernel
theorem dX7_undo_1 : decode cX7_undo 1 = .ok (.iconst 0, 1) := by decide +kernel
theorem dX7_undo_2 : decode cX7_undo 2 = .ok (.putfield 93, 3) := by decide +kernel
theorem dX7_undo_5 : decode cX7_undo 5 = .ok (.aload_n 0, 1) := by decide +kernel
theorem dX7_undo_6 : decode cX7_undo 6 = .ok (.iload_n 1, 1) := by decide +kernel
theorem dX7_undo_7 : decode cX7_undo 7 = .ok (.iconst 0, 1) := by decide +kernel
theorem dX7_undo_8 : decode cX7_undo 8 = .ok (.aload_n 0, 1) := by decide +kernel
theorem dX7_undo_9 : decode cX7_undo 9 = .ok (.getfield 152, 3) := by decide +kernel
theorem dX7_undo_12 : decode cX7_undo 12 = .ok (.iconst 1, 1) := by decide +kernel
theorem dX7_undo_13 : decode cX7_undo 13 = .ok (.isub, 1) := by decide +kernel
theorem dX7_undo_14 : decode cX7_undo 14 = .ok (.invokestatic 96, 3) := by decide +kernel
theorem dX7_undo_17 : decode cX7_undo 17 = .ok (.ifCond .ne 7, 3) := by decide +kernel
theorem dX7_undo_20 : decode cX7_undo 20 = .ok (.iconst 1, 1) := by decide +kernel
theorem dX7_undo_21 : decode cX7_undo 21 = .ok (.goto 4, 3) := by decide +kernel
theorem dX7_undo_24 : decode cX7_undo 24 = .ok (.iconst 0, 1) := by decide +kernel
theorem dX7_undo_25 : decode cX7_undo 25 = .ok (.iconst 1, 1) := by decide +kernel
theorem dX7_undo_26 : decode cX7_undo 26 = .ok (.invokevirtual 100, 3) := by decide +kernel
theorem dX7_undo_29 : decode cX7_undo 29 = .ok (.ifCond .ne 12, 3) := by decide +kernel
theorem dX7_undo_32 : decode cX7_undo 32 = .ok (.aload_n 0, 1) := by decide +kernel
theorem dX7_undo_33 : decode cX7_undo 33 = .ok (.getfield 56, 3) := by decide +kernel
theorem dX7_undo_36 : decode cX7_undo 36 = .ok (.iload_n 1, 1) := by decide +kernel
theorem dX7_undo_37 : decode cX7_undo 37 = .ok (.iaload, 1) := by decide +kernel
theorem dX7_undo_38 : decode cX7_undo 38 = .ok (.ifCond .lt 5, 3) := by decide +kernel
theorem dX7_undo_41 : decode cX7_undo 41 = .ok (.iconst 0, 1) := by decide +kernel
theorem dX7_undo_42 : decode cX7_undo 42 = .ok (.ireturn, 1) := by decide +kernel
theorem dX7_undo_43 : decode cX7_undo 43 = .ok (.aload_n 0, 1) := by decide +kernel
theorem dX7_undo_44 : decode cX7_undo 44 = .ok (.getfield 56, 3) := by decide +kernel
theorem dX7_undo_47 : decode cX7_undo 47 = .ok (.iload_n 1, 1) := by decide +kernel
theorem dX7_undo_48 : decode cX7_undo 48 = .ok (.aload_n 0, 1) := by decide +kernel
theorem dX7_undo_49 : decode cX7_undo 49 = .ok (.getfield 155, 3) := by decide +kernel
theorem dX7_undo_52 : decode cX7_undo 52 = .ok (.iastore, 1) := by decide +kernel
theorem dX7_undo_53 : decode cX7_undo 53 = .ok (.iconst 1, 1) := by decide +kernel
theorem dX7_undo_54 : decode cX7_undo 54 = .ok (.ireturn, 1) := by decide +kernel
set_option maxRecDepth 20000 in
theorem ggX7_days_X7_in : GoodIn wsX7_days wsX7_in := goodIn_r _ [10] (by decide +kernel) (by decide +kernel)
set_option maxRecDepth 20000 in
theorem gX7_days_X7_in : GoodIn wsX7_days (va_wsS RX7 96 yX7_in wsX7_in) := goodIn_app (goodIn_of _ (by decide +kernel)) ggX7_days_X7_in
set_option maxRecDepth 20000 in
theorem ggX7_days_X7_throwsIf : GoodIn wsX7_days wsX7_throwsIf := goodIn_r _ [14, 1, 15, 16, 17, 18, 19, 20, 21, 22, 23, 24, 25, 26, 27, 28, 29, 30, 31, 32, 33, 34, 35, 36, 37, 38, 39, 40, 41, 42, 43, 44, 45, 46, 47, 48, 49, 50, 51, 52, 53, 54, 55, 56] (by decide +kernel) (by decide +kernel)
set_option maxRecDepth 20000 in
theorem gX7_days_X7_throwsIf : GoodIn wsX7_days (wsV RX7 100 RX7 yX7_throwsIf wsX7_throwsIf) := goodIn_app (goodIn_of _ (by decide +kernel)) ggX7_days_X7_throwsIf
theorem dX7_days_0 : decode cX7_days 0 = .ok (.aload_n 0, 1) := by decide +kernel
theorem dX7_days_1 : decode cX7_days 1 = .ok (.iconst 0, 1) := by decide +kernel
