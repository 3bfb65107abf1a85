theorem dX8_copyElements_115 : decode cX8_copyElements 115 = .ok (.ifCond .le 6, 3) := by decide +kernel
theorem dX8_copyElements_118 : decode cX8_copyElements 118 = .ok (.bipush (-13), 2) := by decide +kernel
theorem dX8_copyElements_120 : decode cX8_copyElements 120 = .ok (.ireturn, 1) := by decide +kernel
theorem dX8_copyElements_121 : decode cX8_copyElements 121 = .ok (.bipush 40, 2) := by decide +kernel
theorem dX8_copyElements_123 : decode cX8_copyElements 123 = .ok (.iload_n 1, 1) := by decide +kernel
theorem dX8_copyElements_124 : decode cX8_copyElements 124 = .ok (.imul, 1) := by decide +kernel
theorem dX8_copyElements_125 : decode cX8_copyElements 125 = .ok (.iload_n 2, 1) := by decide +kernel
theorem dX8_copyElements_126 : decode cX8_copyElements 126 = .ok (.iadd, 1) := by decide +kernel
theorem dX8_copyElements_127 : decode cX8_copyElements 127 = .ok (.istore 7, 2) := by decide +kernel
theorem dX8_copyElements_129 : decode cX8_copyElements 129 = .ok (.bipush 40, 2) := by decide +kernel
theorem dX8_copyElements_131 : decode cX8_copyElements 131 = .ok (.iload_n 3, 1) := by decide +kernel
theorem dX8_copyElements_132 : decode cX8_copyElements 132 = .ok (.imul, 1) := by decide +kernel
theorem dX8_copyElements_133 : decode cX8_copyElements 133 = .ok (.iload 4, 2) := by decide +kernel
theorem dX8_copyElements_135 : decode cX8_copyElements 135 = .ok (.iadd, 1) := by decide +kernel
theorem dX8_copyElements_136 : decode cX8_copyElements 136 = .ok (.istore 8, 2) := by decide +kernel
theorem dX8_copyElements_138 : decode cX8_copyElements 138 = .ok (.iconst 0, 1) := by decide +kernel
theorem dX8_copyElements_139 : decode cX8_copyElements 139 = .ok (.istore 9, 2) := by decide +kernel
theorem dX8_copyElements_141 : decode cX8_copyElements 141 = .ok (.iload 9, 2) := by decide +kernel
theorem dX8_copyElements_143 : decode cX8_copyElements 143 = .ok (.iload 5, 2) := by decide +kernel
theorem dX8_copyElements_145 : decode cX8_copyElements 145 = .ok (.if_icmp .ge 70, 3) := by decide +kernel
theorem dX8_copyElements_148 : decode cX8_copyElements 148 = .ok (.iload 7, 2) := by decide +kernel
theorem dX8_copyElements_150 : decode cX8_copyElements 150 = .ok (.iload 8, 2) := by decide +kernel
theorem dX8_copyElements_152 : decode cX8_copyElements 152 = .ok (.if_icmp .ge 13, 3) := by decide +kernel
theorem dX8_copyElements_155 : decode cX8_copyElements 155 = .ok (.iload 5, 2) := by decide +kernel
theorem dX8_copyElements_157 : decode cX8_copyElements 157 = .ok (.iconst 1, 1) := by decide +kernel
theorem dX8_copyElements_158 : decode cX8_copyElements 158 = .ok (.isub, 1) := by decide +kernel
theorem dX8_copyElements_159 : decode cX8_copyElements 159 = .ok (.iload 9, 2) := by decide +kernel
theorem dX8_copyElements_161 : decode cX8_copyElements 161 = .ok (.isub, 1) := by decide +kernel
theorem dX8_copyElements_162 : decode cX8_copyElements 162 = .ok (.goto 5, 3) := by decide +kernel
theorem dX8_copyElements_165 : decode cX8_copyElements 165 = .ok (.iload 9, 2) := by decide +kernel
theorem dX8_copyElements_167 : decode cX8_copyElements 167 = .ok (.istore 10, 2) := by decide +kernel
theorem dX8_copyElements_169 : decode cX8_copyElements 169 = .ok (.aload_n 0, 1) := by decide +kernel
theorem dX8_copyElements_170 : decode cX8_copyElements 170 = .ok (.getfield 38, 3) := by decide +kernel
theorem dX8_copyElements_173 : decode cX8_copyElements 173 = .ok (.iload 8, 2) := by decide +kernel
theorem dX8_copyElements_175 : decode cX8_copyElements 175 = .ok (.iload 10, 2) := by decide +kernel
theorem dX8_copyElements_177 : decode cX8_copyElements 177 = .ok (.iadd, 1) := by decide +kernel
theorem dX8_copyElements_178 : decode cX8_copyElements 178 = .ok (.aload_n 0, 1) := by decide +kernel
theorem dX8_copyElements_179 : decode cX8_copyElements 179 = .ok (.getfield 38, 3) := by decide +kernel
theorem dX8_copyElements_182 : decode cX8_copyElements 182 = .ok (.iload 7, 2) := by decide +kernel
theorem dX8_copyElements_184 : decode cX8_copyElements 184 = .ok (.iload 10, 2) := by decide +kernel
theorem dX8_copyElements_186 : decode cX8_copyElements 186 = .ok (.iadd, 1) := by decide +kernel
theorem dX8_copyElements_187 : decode cX8_copyElements 187 = .ok (.laload, 1) := by decide +kernel
theorem dX8_copyElements_188 : decode cX8_copyElements 188 = .ok (.lastore, 1) := by decide +kernel
theorem dX8_copyElements_189 : decode cX8_copyElements 189 = .ok (.aload_n 0, 1) := by decide +kernel
theorem dX8_copyElements_190 : decode cX8_copyElements 190 = .ok (.getfield 42, 3) := by decide +kernel
theorem dX8_copyElements_193 : decode cX8_copyElements 193 = .ok (.iload 8, 2) := by decide +kernel
theorem dX8_copyElements_195 : decode cX8_copyElements 195 = .ok (.iload 10, 2) := by decide +kernel
theorem dX8_copyElements_197 : decode cX8_copyElements 197 = .ok (.iadd, 1) := by decide +kernel
theorem dX8_copyElements_198 : decode cX8_copyElements 198 = .ok (.aload_n 0, 1) := by decide +kernel
theorem dX8_copyElements_199 : decode cX8_copyElements 199 = .ok (.getfield 42, 3) := by decide +kernel
theorem dX8_copyElements_202 : decode cX8_copyElements 202 = .ok (.iload 7, 2) := by decide +kernel
theorem dX8_copyElements_204 : decode cX8_copyElements 204 = .ok (.iload 10, 2) := by decide +kernel
theorem dX8_copyElements_206 : decode cX8_copyElements 206 = .ok (.iadd, 1) := by decide +kernel
theorem dX8_copyElements_207 : decode cX8_copyElements 207 = .ok (.daload, 1) := by decide +kernel
theorem dX8_copyElements_208 : decode cX8_copyElements 208 = .ok (.dastore, 1) := by decide +kernel
theorem dX8_copyElements_209 : decode cX8_copyElements 209 = .ok (.iinc 9 1, 3) := by decide +kernel
theorem dX8_copyElements_212 : decode cX8_copyElements 212 = .ok (.goto (-71), 3) := by decide +kernel
theorem dX8_copyElements_215 : decode cX8_copyElements 215 = .ok (.iload 5, 2) := by decide +kernel
theorem dX8_copyElements_217 : decode cX8_copyElements 217 = .ok (.ireturn, 1) := by decide +kernel
set_option maxRecDepth 20000 in
theorem ggX8_loadClass_X8_isSlot : GoodIn wsX8_loadClass wsX8_isSlot := goodIn_r _ [9, 10, 11, 12, 8, 13] (by decide +kernel) (by decide +kernel)
set_option maxRecDepth 20000 in
theorem gX8_loadClass_X8_isSlot : GoodIn wsX8_loadClass (va_wsS RX8 147 yX8_isSlot wsX8_isSlot) := goodIn_app (goodIn_of _ (by decide +kernel)) ggX8_loadClass_X8_isSlot
set_option maxRecDepth 20000 in
theorem ggX8_loadClass_X8_isSet : GoodIn wsX8_loadClass wsX8_isSet := goodIn_r _ [17, 18, 11, 12, 8, 13, 30, 31, 32, 33, 34, 35, 36, 37, 38, 39, 40, 41, 42, 43, 44, 45, 46, 47, 48, 49, 50, 51] (by decide +kernel) (by decide +kernel)
set_option maxRecDepth 20000 in
theorem gX8_loadClass_X8_isSet : GoodIn wsX8_loadClass (wsV RX8 83 RX8 yX8_isSet wsX8_isSet) := goodIn_app (goodIn_of _ (by decide +kernel)) ggX8_loadClass_X8_isSet
set_option maxRecDepth 20000 in
theorem ggX8_loadClass_X8_placeOf : GoodIn wsX8_loadClass wsX8_placeOf := goodIn_r _ [22, 2, 23, 30, 31, 32, 33, 34, 35, 36, 37, 38, 39, 40, 41, 42, 43, 44, 45, 46, 47, 48, 49, 50, 51] (by decide +kernel) (by decide +kernel)
set_option maxRecDepth 20000 in
theorem gX8_loadClass_X8_placeOf : GoodIn wsX8_loadClass (wsV RX8 87 RX8 yX8_placeOf wsX8_placeOf) := goodIn_app (goodIn_of _ (by decide +kernel)) ggX8_loadClass_X8_placeOf
set_option maxRecDepth 20000 in
theorem ggX8_loadClass_X8_comes : GoodIn wsX8_loadClass wsX8_comes := goodIn_r _ [27, 23, 2, 28, 29, 30, 31, 32, 33, 34, 35, 36, 37, 38, 39, 40, 41, 42, 43, 44, 45, 46, 47, 48, 49, 50, 51] (by decide +kernel) (by decide +kernel)
set_option maxRecDepth 20000 in
theorem gX8_loadClass_X8_comes : GoodIn wsX8_loadClass (wsV RX8 90 RX8 yX8_comes wsX8_comes) := goodIn_app (goodIn_of _ (by decide +kernel)) ggX8_loadClass_X8_comes
theorem dX8_loadClass_0 : decode cX8_loadClass 0 = .ok (.iload_n 1, 1) := by decide +kernel
theorem dX8_loadClass_1 : decode cX8_loadClass 1 = .ok (.invokestatic 147, 3) := by decide +kernel
theorem dX8_loadClass_4 : decode cX8_loadClass 4 = .ok (.ifCond .ne 5, 3) := by decide +kernel
theorem dX8_loadClass_7 : decode cX8_loadClass 7 = .ok (.iconst (-1), 1) := by decide +kernel
theorem dX8_loadClass_8 : decode cX8_loadClass 8 = .ok (.ireturn, 1) := by decide +kernel
theorem dX8_loadClass_9 : decode cX8_loadClass 9 = .ok (.aload_n 0, 1) := by decide +kernel
theorem dX8_loadClass_10 : decode cX8_loadClass 10 = .ok (.getfield 32, 3) := by decide +kernel
theorem dX8_loadClass_13 : decode cX8_loadClass 13 = .ok (.iload_n 1, 1) := by decide +kernel
theorem dX8_loadClass_14 : decode cX8_loadClass 14 = .ok (.iaload, 1) := by decide +kernel
theorem dX8_loadClass_15 : decode cX8_loadClass 15 = .ok (.iconst (-1), 1) := by decide +kernel
theorem dX8_loadClass_16 : decode cX8_loadClass 16 = .ok (.if_icmp .ne 6, 3) := by decide +kernel
theorem dX8_loadClass_19 : decode cX8_loadClass 19 = .ok (.bipush (-11), 2) := by decide +kernel
theorem dX8_loadClass_21 : decode cX8_loadClass 21 = .ok (.ireturn, 1) := by decide +kernel
theorem dX8_loadClass_22 : decode cX8_loadClass 22 = .ok (.aload_n 0, 1) := by decide +kernel
theorem dX8_loadClass_23 : decode cX8_loadClass 23 = .ok (.getfield 32, 3) := by decide +kernel
theorem dX8_loadClass_26 : decode cX8_loadClass 26 = .ok (.iload_n 1, 1) := by decide +kernel
theorem dX8_loadClass_27 : decode cX8_loadClass 27 = .ok (.iaload, 1) := by decide +kernel
theorem dX8_loadClass_28 : decode cX8_loadClass 28 = .ok (.iconst 1, 1) := by decide +kernel
theorem dX8_loadClass_29 : decode cX8_loadClass 29 = .ok (.if_icmp .eq 6, 3) := by decide +kernel
theorem dX8_loadClass_32 : decode cX8_loadClass 32 = .ok (.bipush (-12), 2) := by decide +kernel
theorem dX8_loadClass_34 : decode cX8_loadClass 34 = .ok (.ireturn, 1) := by decide +kernel
theorem dX8_loadClass_35 : decode cX8_loadClass 35 = .ok (.aload_n 0, 1) := by decide +kernel
theorem dX8_loadClass_36 : decode cX8_loadClass 36 = .ok (.iconst 0, 1) := by decide +kernel
theorem dX8_loadClass_37 : decode cX8_loadClass 37 = .ok (.putfield 67, 3) := by decide +kernel
theorem dX8_loadClass_40 : decode cX8_loadClass 40 = .ok (.aload_n 0, 1) := by decide +kernel
theorem dX8_loadClass_41 : decode cX8_loadClass 41 = .ok (.iconst 0, 1) := by decide +kernel
theorem dX8_loadClass_42 : decode cX8_loadClass 42 = .ok (.putfield 76, 3) := by decide +kernel
theorem dX8_loadClass_45 : decode cX8_loadClass 45 = .ok (.iconst 0, 1) := by decide +kernel
theorem dX8_loadClass_46 : decode cX8_loadClass 46 = .ok (.istore_n 2, 1) := by decide +kernel
theorem dX8_loadClass_47 : decode cX8_loadClass 47 = .ok (.iload_n 2, 1) := by decide +kernel
theorem dX8_loadClass_48 : decode cX8_loadClass 48 = .ok (.aload_n 0, 1) := by decide +kernel
theorem dX8_loadClass_49 : decode cX8_loadClass 49 = .ok (.getfield 35, 3) := by decide +kernel
theorem dX8_loadClass_52 : decode cX8_loadClass 52 = .ok (.iload_n 1, 1) := by decide +kernel
theorem dX8_loadClass_53 : decode cX8_loadClass 53 = .ok (.iaload, 1) := by decide +kernel
theorem dX8_loadClass_54 : decode cX8_loadClass 54 = .ok (.if_icmp .ge 55, 3) := by decide +kernel
theorem dX8_loadClass_57 : decode cX8_loadClass 57 = .ok (.aload_n 0, 1) := by decide +kernel
theorem dX8_loadClass_58 : decode cX8_loadClass 58 = .ok (.getfield 67, 3) := by decide +kernel
theorem dX8_loadClass_61 : decode cX8_loadClass 61 = .ok (.bipush 20, 2) := by decide +kernel
theorem dX8_loadClass_63 : decode cX8_loadClass 63 = .ok (.if_icmp .ge 46, 3) := by decide +kernel
theorem dX8_loadClass_66 : decode cX8_loadClass 66 = .ok (.aload_n 0, 1) := by decide +kernel
theorem dX8_loadClass_67 : decode cX8_loadClass 67 = .ok (.getfield 38, 3) := by decide +kernel
theorem dX8_loadClass_70 : decode cX8_loadClass 70 = .ok (.bipush 40, 2) := by decide +kernel
theorem dX8_loadClass_72 : decode cX8_loadClass 72 = .ok (.iload_n 1, 1) := by decide +kernel
theorem dX8_loadClass_73 : decode cX8_loadClass 73 = .ok (.imul, 1) := by decide +kernel
theorem dX8_loadClass_74 : decode cX8_loadClass 74 = .ok (.iload_n 2, 1) := by decide +kernel
theorem dX8_loadClass_75 : decode cX8_loadClass 75 = .ok (.iadd, 1) := by decide +kernel
theorem dX8_loadClass_76 : decode cX8_loadClass 76 = .ok (.laload, 1) := by decide +kernel
theorem dX8_loadClass_77 : decode cX8_loadClass 77 = .ok (.l2i, 1) := by decide +kernel
theorem dX8_loadClass_78 : decode cX8_loadClass 78 = .ok (.istore_n 3, 1) := by decide +kernel
theorem dX8_loadClass_79 : decode cX8_loadClass 79 = .ok (.aload_n 0, 1) := by decide +kernel
theorem dX8_loadClass_80 : decode cX8_loadClass 80 = .ok (.iload_n 3, 1) := by decide +kernel
theorem dX8_loadClass_81 : decode cX8_loadClass 81 = .ok (.invokevirtual 83, 3) := by decide +kernel
theorem dX8_loadClass_84 : decode cX8_loadClass 84 = .ok (.ifCond .eq 19, 3) := by decide +kernel
theorem dX8_loadClass_87 : decode cX8_loadClass 87 = .ok (.aload_n 0, 1) := by decide +kernel
theorem dX8_loadClass_88 : decode cX8_loadClass 88 = .ok (.iload_n 3, 1) := by decide +kernel
theorem dX8_loadClass_89 : decode cX8_loadClass 89 = .ok (.invokevirtual 87, 3) := by decide +kernel
theorem dX8_loadClass_92 : decode cX8_loadClass 92 = .ok (.bipush (-6), 2) := by decide +kernel
theorem dX8_loadClass_94 : decode cX8_loadClass 94 = .ok (.if_icmp .ne 9, 3) := by decide +kernel
theorem dX8_loadClass_97 : decode cX8_loadClass 97 = .ok (.aload_n 0, 1) := by decide +kernel
theorem dX8_loadClass_98 : decode cX8_loadClass 98 = .ok (.iload_n 3, 1) := by decide +kernel
theorem dX8_loadClass_99 : decode cX8_loadClass 99 = .ok (.invokevirtual 90, 3) := by decide +kernel
theorem dX8_loadClass_102 : decode cX8_loadClass 102 = .ok (.pop, 1) := by decide +kernel
theorem dX8_loadClass_103 : decode cX8_loadClass 103 = .ok (.iinc 2 1, 3) := by decide +kernel
theorem dX8_loadClass_106 : decode cX8_loadClass 106 = .ok (.goto (-59), 3) := by decide +kernel
theorem dX8_loadClass_109 : decode cX8_loadClass 109 = .ok (.aload_n 0, 1) := by decide +kernel
theorem dX8_loadClass_110 : decode cX8_loadClass 110 = .ok (.getfield 67, 3) := by decide +kernel
theorem dX8_loadClass_113 : decode cX8_loadClass 113 = .ok (.ireturn, 1) := by decide +kernel
set_option maxRecDepth 20000 in
theorem ggX8_storeScores_X8_isSlot : GoodIn wsX8_storeScores wsX8_isSlot := goodIn_r _ [9, 10, 11, 12, 8, 13] (by decide +kernel) (by decide +kernel)
set_option maxRecDepth 20000 in
theorem gX8_storeScores_X8_isSlot : GoodIn wsX8_storeScores (va_wsS RX8 147 yX8_isSlot wsX8_isSlot) := goodIn_app (goodIn_of _ (by decide +kernel)) ggX8_storeScores_X8_isSlot
theorem dX8_storeScores_0 : decode cX8_storeScores 0 = .ok (.iload_n 1, 1) := by decide +kernel
theorem dX8_storeScores_1 : decode cX8_storeScores 1 = .ok (.invokestatic 147, 3) := by decide +kernel
theorem dX8_storeScores_4 : decode cX8_storeScores 4 = .ok (.ifCond .ne 5, 3) := by decide +kernel
theorem dX8_storeScores_7 : decode cX8_storeScores 7 = .ok (.iconst (-1), 1) := by decide +kernel
theorem dX8_storeScores_8 : decode cX8_storeScores 8 = .ok (.ireturn, 1) := by decide +kernel
theorem dX8_storeScores_9 : decode cX8_storeScores 9 = .ok (.aload_n 0, 1) := by decide +kernel
theorem dX8_storeScores_10 : decode cX8_storeScores 10 = .ok (.getfield 32, 3) := by decide +kernel
theorem dX8_storeScores_13 : decode cX8_storeScores 13 = .ok (.iload_n 1, 1) := by decide +kernel
theorem dX8_storeScores_14 : decode cX8_storeScores 14 = .ok (.iaload, 1) := by decide +kernel
theorem dX8_storeScores_15 : decode cX8_storeScores 15 = .ok (.iconst (-1), 1) := by decide +kernel
theorem dX8_storeScores_16 : decode cX8_storeScores 16 = .ok (.if_icmp .ne 6, 3) := by decide +kernel
theorem dX8_storeScores_19 : decode cX8_storeScores 19 = .ok (.bipush (-11), 2) := by decide +kernel
theorem dX8_storeScores_21 : decode cX8_storeScores 21 = .ok (.ireturn, 1) := by decide +kernel
theorem dX8_storeScores_22 : decode cX8_storeScores 22 = .ok (.aload_n 0, 1) := by decide +kernel
theorem dX8_storeScores_23 : decode cX8_storeScores 23 = .ok (.getfield 32, 3) := by decide +kernel
theorem dX8_storeScores_26 : decode cX8_storeScores 26 = .ok (.iload_n 1, 1) := by decide +kernel
theorem dX8_storeScores_27 : decode cX8_storeScores 27 = .ok (.iaload, 1) := by decide +kernel
theorem dX8_storeScores_28 : decode cX8_storeScores 28 = .ok (.iconst 3, 1) := by decide +kernel
theorem dX8_storeScores_29 : decode cX8_storeScores 29 = .ok (.if_icmp .eq 6, 3) := by decide +kernel
theorem dX8_storeScores_32 : decode cX8_storeScores 32 = .ok (.bipush (-12), 2) := by decide +kernel
theorem dX8_storeScores_34 : decode cX8_storeScores 34 = .ok (.ireturn, 1) := by decide +kernel
theorem dX8_storeScores_35 : decode cX8_storeScores 35 = .ok (.aload_n 0, 1) := by decide +kernel
theorem dX8_storeScores_36 : decode cX8_storeScores 36 = .ok (.getfield 35, 3) := by decide +kernel
theorem dX8_storeScores_39 : decode cX8_storeScores 39 = .ok (.iload_n 1, 1) := by decide +kernel
theorem dX8_storeScores_40 : decode cX8_storeScores 40 = .ok (.iaload, 1) := by decide +kernel
theorem dX8_storeScores_41 : decode cX8_storeScores 41 = .ok (.aload_n 0, 1) := by decide +kernel
theorem dX8_storeScores_42 : decode cX8_storeScores 42 = .ok (.getfield 67, 3) := by decide +kernel
theorem dX8_storeScores_45 : decode cX8_storeScores 45 = .ok (.if_icmp .ge 6, 3) := by decide +kernel
theorem dX8_storeScores_48 : decode cX8_storeScores 48 = .ok (.bipush (-13), 2) := by decide +kernel
theorem dX8_storeScores_50 : decode cX8_storeScores 50 = .ok (.ireturn, 1) := by decide +kernel
theorem dX8_storeScores_51 : decode cX8_storeScores 51 = .ok (.iconst 0, 1) := by decide +kernel
theorem dX8_storeScores_52 : decode cX8_storeScores 52 = .ok (.istore_n 2, 1) := by decide +kernel
theorem dX8_storeScores_53 : decode cX8_storeScores 53 = .ok (.iload_n 2, 1) := by decide +kernel
theorem dX8_storeScores_54 : decode cX8_storeScores 54 = .ok (.aload_n 0, 1) := by decide +kernel
theorem dX8_storeScores_55 : decode cX8_storeScores 55 = .ok (.getfield 67, 3) := by decide +kernel
theorem dX8_storeScores_58 : decode cX8_storeScores 58 = .ok (.if_icmp .ge 26, 3) := by decide +kernel
theorem dX8_storeScores_61 : decode cX8_storeScores 61 = .ok (.aload_n 0, 1) := by decide +kernel
theorem dX8_storeScores_62 : decode cX8_storeScores 62 = .ok (.getfield 42, 3) := by decide +kernel
theorem dX8_storeScores_65 : decode cX8_storeScores 65 = .ok (.bipush 40, 2) := by decide +kernel
theorem dX8_storeScores_67 : decode cX8_storeScores 67 = .ok (.iload_n 1, 1) := by decide +kernel
theorem dX8_storeScores_68 : decode cX8_storeScores 68 = .ok (.imul, 1) := by decide +kernel
theorem dX8_storeScores_69 : decode cX8_storeScores 69 = .ok (.iload_n 2, 1) := by decide +kernel
theorem dX8_storeScores_70 : decode cX8_storeScores 70 = .ok (.iadd, 1) := by decide +kernel
theorem dX8_storeScores_71 : decode cX8_storeScores 71 = .ok (.aload_n 0, 1) := by decide +kernel
theorem dX8_storeScores_72 : decode cX8_storeScores 72 = .ok (.getfield 22, 3) := by decide +kernel
theorem dX8_storeScores_75 : decode cX8_storeScores 75 = .ok (.iload_n 2, 1) := by decide +kernel
theorem dX8_storeScores_76 : decode cX8_storeScores 76 = .ok (.daload, 1) := by decide +kernel
theorem dX8_storeScores_77 : decode cX8_storeScores 77 = .ok (.dastore, 1) := by decide +kernel
theorem dX8_storeScores_78 : decode cX8_storeScores 78 = .ok (.iinc 2 1, 3) := by decide +kernel
theorem dX8_storeScores_81 : decode cX8_storeScores 81 = .ok (.goto (-28), 3) := by decide +kernel
theorem dX8_storeScores_84 : decode cX8_storeScores 84 = .ok (.aload_n 0, 1) := by decide +kernel
theorem dX8_storeScores_85 : decode cX8_storeScores 85 = .ok (.getfield 67, 3) := by decide +kernel
theorem dX8_storeScores_88 : decode cX8_storeScores 88 = .ok (.ireturn, 1) := by decide +kernel
theorem dX8_snapshot_0 : decode cX8_snapshot 0 = .ok (.aload_n 0, 1) := by decide +kernel
theorem dX8_snapshot_1 : decode cX8_snapshot 1 = .ok (.iconst 1, 1) := by decide +kernel
theorem dX8_snapshot_2 : decode cX8_snapshot 2 = .ok (.putfield 155, 3) := by decide +kernel
theorem dX8_snapshot_5 : decode cX8_snapshot 5 = .ok (.aload_n 0, 1) := by decide +kernel
theorem dX8_snapshot_6 : decode cX8_snapshot 6 = .ok (.aload_n 0, 1) := by decide +kernel
theorem dX8_snapshot_7 : decode cX8_snapshot 7 = .ok (.getfield 9, 3) := by decide +kernel
theorem dX8_snapshot_10 : decode cX8_snapshot 10 = .ok (.putfield 159, 3) := by decide +kernel
theorem dX8_snapshot_13 : decode cX8_snapshot 13 = .ok (.aload_n 0, 1) := by decide +kernel
theorem dX8_snapshot_14 : decode cX8_snapshot 14 = .ok (.aload_n 0, 1) := by decide +kernel
theorem dX8_snapshot_15 : decode cX8_snapshot 15 = .ok (.getfield 67, 3) := by decide +kernel
theorem dX8_snapshot_18 : decode cX8_snapshot 18 = .ok (.putfield 162, 3) := by decide +kernel
theorem dX8_snapshot_21 : decode cX8_snapshot 21 = .ok (.aload_n 0, 1) := by decide +kernel
theorem dX8_snapshot_22 : decode cX8_snapshot 22 = .ok (.aload_n 0, 1) := by decide +kernel
theorem dX8_snapshot_23 : decode cX8_snapshot 23 = .ok (.getfield 76, 3) := by decide +kernel
theorem dX8_snapshot_26 : decode cX8_snapshot 26 = .ok (.putfield 165, 3) := by decide +kernel
theorem dX8_snapshot_29 : decode cX8_snapshot 29 = .ok (.iconst 0, 1) := by decide +kernel
theorem dX8_snapshot_30 : decode cX8_snapshot 30 = .ok (.istore_n 1, 1) := by decide +kernel
theorem dX8_snapshot_31 : decode cX8_snapshot 31 = .ok (.iload_n 1, 1) := by decide +kernel
theorem dX8_snapshot_32 : decode cX8_snapshot 32 = .ok (.bipush 20, 2) := by decide +kernel
theorem dX8_snapshot_34 : decode cX8_snapshot 34 = .ok (.if_icmp .ge 33, 3) := by decide +kernel
theorem dX8_snapshot_37 : decode cX8_snapshot 37 = .ok (.aload_n 0, 1) := by decide +kernel
theorem dX8_snapshot_38 : decode cX8_snapshot 38 = .ok (.getfield 45, 3) := by decide +kernel
theorem dX8_snapshot_41 : decode cX8_snapshot 41 = .ok (.iload_n 1, 1) := by decide +kernel
theorem dX8_snapshot_42 : decode cX8_snapshot 42 = .ok (.aload_n 0, 1) := by decide +kernel
theorem dX8_snapshot_43 : decode cX8_snapshot 43 = .ok (.getfield 19, 3) := by decide +kernel
theorem dX8_snapshot_46 : decode cX8_snapshot 46 = .ok (.iload_n 1, 1) := by decide +kernel
theorem dX8_snapshot_47 : decode cX8_snapshot 47 = .ok (.iaload, 1) := by decide +kernel
theorem dX8_snapshot_48 : decode cX8_snapshot 48 = .ok (.iastore, 1) := by decide +kernel
theorem dX8_snapshot_49 : decode cX8_snapshot 49 = .ok (.aload_n 0, 1) := by decide +kernel
theorem dX8_snapshot_50 : decode cX8_snapshot 50 = .ok (.getfield 48, 3) := by decide +kernel
theorem dX8_snapshot_53 : decode cX8_snapshot 53 = .ok (.iload_n 1, 1) := by decide +kernel
theorem dX8_snapshot_54 : decode cX8_snapshot 54 = .ok (.aload_n 0, 1) := by decide +kernel
theorem dX8_snapshot_55 : decode cX8_snapshot 55 = .ok (.getfield 22, 3) := by decide +kernel
theorem dX8_snapshot_58 : decode cX8_snapshot 58 = .ok (.iload_n 1, 1) := by decide +kernel
theorem dX8_snapshot_59 : decode cX8_snapshot 59 = .ok (.daload, 1) := by decide +kernel
theorem dX8_snapshot_60 : decode cX8_snapshot 60 = .ok (.dastore, 1) := by decide +kernel
theorem dX8_snapshot_61 : decode cX8_snapshot 61 = .ok (.iinc 1 1, 3) := by decide +kernel
theorem dX8_snapshot_64 : decode cX8_snapshot 64 = .ok (.goto (-33), 3) := by decide +kernel
theorem dX8_snapshot_67 : decode cX8_snapshot 67 = .ok (.iconst 0, 1) := by decide +kernel
theorem dX8_snapshot_68 : decode cX8_snapshot 68 = .ok (.istore_n 1, 1) := by decide +kernel
theorem dX8_snapshot_69 : decode cX8_snapshot 69 = .ok (.iload_n 1, 1) := by decide +kernel
theorem dX8_snapshot_70 : decode cX8_snapshot 70 = .ok (.bipush 12, 2) := by decide +kernel
theorem dX8_snapshot_72 : decode cX8_snapshot 72 = .ok (.if_icmp .ge 33, 3) := by decide +kernel
theorem dX8_snapshot_75 : decode cX8_snapshot 75 = .ok (.aload_n 0, 1) := by decide +kernel
theorem dX8_snapshot_76 : decode cX8_snapshot 76 = .ok (.getfield 51, 3) := by decide +kernel
theorem dX8_snapshot_79 : decode cX8_snapshot 79 = .ok (.iload_n 1, 1) := by decide +kernel
theorem dX8_snapshot_80 : decode cX8_snapshot 80 = .ok (.aload_n 0, 1) := by decide +kernel
theorem dX8_snapshot_81 : decode cX8_snapshot 81 = .ok (.getfield 26, 3) := by decide +kernel
theorem dX8_snapshot_84 : decode cX8_snapshot 84 = .ok (.iload_n 1, 1) := by decide +kernel
theorem dX8_snapshot_85 : decode cX8_snapshot 85 = .ok (.iaload, 1) := by decide +kernel
theorem dX8_snapshot_86 : decode cX8_snapshot 86 = .ok (.iastore, 1) := by decide +kernel
theorem dX8_snapshot_87 : decode cX8_snapshot 87 = .ok (.aload_n 0, 1) := by decide +kernel
theorem dX8_snapshot_88 : decode cX8_snapshot 88 = .ok (.getfield 54, 3) := by decide +kernel
theorem dX8_snapshot_91 : decode cX8_snapshot 91 = .ok (.iload_n 1, 1) := by decide +kernel
theorem dX8_snapshot_92 : decode cX8_snapshot 92 = .ok (.aload_n 0, 1) := by decide +kernel
theorem dX8_snapshot_93 : decode cX8_snapshot 93 = .ok (.getfield 29, 3) := by decide +kernel
theorem dX8_snapshot_96 : decode cX8_snapshot 96 = .ok (.iload_n 1, 1) := by decide +kernel
theorem dX8_snapshot_97 : decode cX8_snapshot 97 = .ok (.iaload, 1) := by decide +kernel
theorem dX8_snapshot_98 : decode cX8_snapshot 98 = .ok (.iastore, 1) := by decide +kernel
theorem dX8_snapshot_99 : decode cX8_snapshot 99 = .ok (.iinc 1 1, 3) := by decide +kernel
theorem dX8_snapshot_102 : decode cX8_snapshot 102 = .ok (.goto (-33), 3) := by decide +kernel
theorem dX8_snapshot_105 : decode cX8_snapshot 105 = .ok (.aload_n 0, 1) := by decide +kernel
theorem dX8_snapshot_106 : decode cX8_snapshot 106 = .ok (.getfield 67, 3) := by decide +kernel
theorem dX8_snapshot_109 : decode cX8_snapshot 109 = .ok (.ireturn, 1) := by decide +kernel
theorem dX8_restore_0 : decode cX8_restore 0 = .ok (.aload_n 0, 1) := by decide +kernel
theorem dX8_restore_1 : decode cX8_restore 1 = .ok (.getfield 155, 3) := by decide +kernel
theorem dX8_restore_4 : decode cX8_restore 4 = .ok (.ifCond .ne 6, 3) := by decide +kernel
theorem dX8_restore_7 : decode cX8_restore 7 = .ok (.bipush (-6), 2) := by decide +kernel
theorem dX8_restore_9 : decode cX8_restore 9 = .ok (.ireturn, 1) := by decide +kernel
theorem dX8_restore_10 : decode cX8_restore 10 = .ok (.aload_n 0, 1) := by decide +kernel
theorem dX8_restore_11 : decode cX8_restore 11 = .ok (.aload_n 0, 1) := by decide +kernel
theorem dX8_restore_12 : decode cX8_restore 12 = .ok (.getfield 159, 3) := by decide +kernel
theorem dX8_restore_15 : decode cX8_restore 15 = .ok (.putfield 9, 3) := by decide +kernel
theorem dX8_restore_18 : decode cX8_restore 18 = .ok (.aload_n 0, 1) := by decide +kernel
theorem dX8_restore_19 : decode cX8_restore 19 = .ok (.aload_n 0, 1) := by decide +kernel
theorem dX8_restore_20 : decode cX8_restore 20 = .ok (.getfield 162, 3) := by decide +kernel
theorem dX8_restore_23 : decode cX8_restore 23 = .ok (.putfield 67, 3) := by decide +kernel
theorem dX8_restore_26 : decode cX8_restore 26 = .ok (.aload_n 0, 1) := by decide +kernel
theorem dX8_restore_27 : decode cX8_restore 27 = .ok (.aload_n 0, 1) := by decide +kernel
theorem dX8_restore_28 : decode cX8_restore 28 = .ok (.getfield 165, 3) := by decide +kernel
theorem dX8_restore_31 : decode cX8_restore 31 = .ok (.putfield 76, 3) := by decide +kernel
theorem dX8_restore_34 : decode cX8_restore 34 = .ok (.iconst 0, 1) := by decide +kernel
theorem dX8_restore_35 : decode cX8_restore 35 = .ok (.istore_n 1, 1) := by decide +kernel
theorem dX8_restore_36 : decode cX8_restore 36 = .ok (.iload_n 1, 1) := by decide +kernel
theorem dX8_restore_37 : decode cX8_restore 37 = .ok (.bipush 20, 2) := by decide +kernel
theorem dX8_restore_39 : decode cX8_restore 39 = .ok (.if_icmp .ge 33, 3) := by decide +kernel
theorem dX8_restore_42 : decode cX8_restore 42 = .ok (.aload_n 0, 1) := by decide +kernel
theorem dX8_restore_43 : decode cX8_restore 43 = .ok (.getfield 19, 3) := by decide +kernel
theorem dX8_restore_46 : decode cX8_restore 46 = .ok (.iload_n 1, 1) := by decide +kernel
theorem dX8_restore_47 : decode cX8_restore 47 = .ok (.aload_n 0, 1) := by decide +kernel
theorem dX8_restore_48 : decode cX8_restore 48 = .ok (.getfield 45, 3) := by decide +kernel
theorem dX8_restore_51 : decode cX8_restore 51 = .ok (.iload_n 1, 1) := by decide +kernel
theorem dX8_restore_52 : decode cX8_restore 52 = .ok (.iaload, 1) := by decide +kernel
theorem dX8_restore_53 : decode cX8_restore 53 = .ok (.iastore, 1) := by decide +kernel
theorem dX8_restore_54 : decode cX8_restore 54 = .ok (.aload_n 0, 1) := by decide +kernel
theorem dX8_restore_55 : decode cX8_restore 55 = .ok (.getfield 22, 3) := by decide +kernel
theorem dX8_restore_58 : decode cX8_restore 58 = .ok (.iload_n 1, 1) := by decide +kernel
theorem dX8_restore_59 : decode cX8_restore 59 = .ok (.aload_n 0, 1) := by decide +kernel
theorem dX8_restore_60 : decode cX8_restore 60 = .ok (.getfield 48, 3) := by decide +kernel
theorem dX8_restore_63 : decode cX8_restore 63 = .ok (.iload_n 1, 1) := by decide +kernel
theorem dX8_restore_64 : decode cX8_restore 64 = .ok (.daload, 1) := by decide +kernel
theorem dX8_restore_65 : decode cX8_restore 65 = .ok (.dastore, 1) := by decide +kernel
theorem dX8_restore_66 : decode cX8_restore 66 = .ok (.iinc 1 1, 3) := by decide +kernel
theorem dX8_restore_69 : decode cX8_restore 69 = .ok (.goto (-33), 3) := by decide +kernel
theorem dX8_restore_72 : decode cX8_restore 72 = .ok (.iconst 0, 1) := by decide +kernel
theorem dX8_restore_73 : decode cX8_restore 73 = .ok (.istore_n 1, 1) := by decide +kernel
theorem dX8_restore_74 : decode cX8_restore 74 = .ok (.iload_n 1, 1) := by decide +kernel
theorem dX8_restore_75 : decode cX8_restore 75 = .ok (.bipush 12, 2) := by decide +kernel
theorem dX8_restore_77 : decode cX8_restore 77 = .ok (.if_icmp .ge 33, 3) := by decide +kernel
theorem dX8_restore_80 : decode cX8_restore 80 = .ok (.aload_n 0, 1) := by decide +kernel
theorem dX8_restore_81 : decode cX8_restore 81 = .ok (.getfield 26, 3) := by decide +kernel
theorem dX8_restore_84 : decode cX8_restore 84 = .ok (.iload_n 1, 1) := by decide +kernel
theorem dX8_restore_85 : decode cX8_restore 85 = .ok (.aload_n 0, 1) := by decide +kernel
theorem dX8_restore_86 : decode cX8_restore 86 = .ok (.getfield 51, 3) := by decide +kernel
theorem dX8_restore_89 : decode cX8_restore 89 = .ok (.iload_n 1, 1) := by decide +kernel
theorem dX8_restore_90 : decode cX8_restore 90 = .ok (.iaload, 1) := by decide +kernel
theorem dX8_restore_91 : decode cX8_restore 91 = .ok (.iastore, 1) := by decide +kernel
theorem dX8_restore_92 : decode cX8_restore 92 = .ok (.aload_n 0, 1) := by decide +kernel
theorem dX8_restore_93 : decode cX8_restore 93 = .ok (.getfield 29, 3) := by decide +kernel
theorem dX8_restore_96 : decode cX8_restore 96 = .ok (.iload_n 1, 1) := by decide +kernel
theorem dX8_restore_97 : decode cX8_restore 97 = .ok (.aload_n 0, 1) := by decide +kernel
theorem dX8_restore_98 : decode cX8_restore 98 = .ok (.getfield 54, 3) := by decide +kernel
theorem dX8_restore_101 : decode cX8_restore 101 = .ok (.iload_n 1, 1) := by decide +kernel
theorem dX8_restore_102 : decode cX8_restore 102 = .ok (.iaload, 1) := by decide +kernel
theorem dX8_restore_103 : decode cX8_restore 103 = .ok (.iastore, 1) := by decide +kernel
theorem dX8_restore_104 : decode cX8_restore 104 = .ok (.iinc 1 1, 3) := by decide +kernel
theorem dX8_restore_107 : decode cX8_restore 107 = .ok (.goto (-33), 3) := by decide +kernel
theorem dX8_restore_110 : decode cX8_restore 110 = .ok (.aload_n 0, 1) := by decide +kernel
theorem dX8_restore_111 : decode cX8_restore 111 = .ok (.getfield 67, 3) := by decide +kernel
theorem dX8_restore_114 : decode cX8_restore 114 = .ok (.ireturn, 1) := by decide +kernel
theorem dJ6_bitCount_0f7a4_0 : decode cJ6_bitCount_0f7a4 0 = .ok (.iload_n 0, 1) := by decide +kernel
theorem dJ6_bitCount_0f7a4_1 : decode cJ6_bitCount_0f7a4 1 = .ok (.iload_n 0, 1) := by decide +kernel
theorem dJ6_bitCount_0f7a4_2 : decode cJ6_bitCount_0f7a4 2 = .ok (.iconst 1, 1) := by decide +kernel
theorem dJ6_bitCount_0f7a4_3 : decode cJ6_bitCount_0f7a4 3 = .ok (.iushr, 1) := by decide +kernel
theorem dJ6_bitCount_0f7a4_4 : decode cJ6_bitCount_0f7a4 4 = .ok (.ldc_w 265, 3) := by decide +kernel
theorem dJ6_bitCount_0f7a4_7 : decode cJ6_bitCount_0f7a4 7 = .ok (.iand, 1) := by decide +kernel
theorem dJ6_bitCount_0f7a4_8 : decode cJ6_bitCount_0f7a4 8 = .ok (.isub, 1) := by decide +kernel
theorem dJ6_bitCount_0f7a4_9 : decode cJ6_bitCount_0f7a4 9 = .ok (.istore_n 0, 1) := by decide +kernel
theorem dJ6_bitCount_0f7a4_10 : decode cJ6_bitCount_0f7a4 10 = .ok (.iload_n 0, 1) := by decide +kernel
theorem dJ6_bitCount_0f7a4_11 : decode cJ6_bitCount_0f7a4 11 = .ok (.ldc_w 266, 3) := by decide +kernel
theorem dJ6_bitCount_0f7a4_14 : decode cJ6_bitCount_0f7a4 14 = .ok (.iand, 1) := by decide +kernel
theorem dJ6_bitCount_0f7a4_15 : decode cJ6_bitCount_0f7a4 15 = .ok (.iload_n 0, 1) := by decide +kernel
theorem dJ6_bitCount_0f7a4_16 : decode cJ6_bitCount_0f7a4 16 = .ok (.iconst 2, 1) := by decide +kernel
theorem dJ6_bitCount_0f7a4_17 : decode cJ6_bitCount_0f7a4 17 = .ok (.iushr, 1) := by decide +kernel
theorem dJ6_bitCount_0f7a4_18 : decode cJ6_bitCount_0f7a4 18 = .ok (.ldc_w 266, 3) := by decide +kernel
theorem dJ6_bitCount_0f7a4_21 : decode cJ6_bitCount_0f7a4 21 = .ok (.iand, 1) := by decide +kernel
theorem dJ6_bitCount_0f7a4_22 : decode cJ6_bitCount_0f7a4 22 = .ok (.iadd, 1) := by decide +kernel
theorem dJ6_bitCount_0f7a4_23 : decode cJ6_bitCount_0f7a4 23 = .ok (.istore_n 0, 1) := by decide +kernel
theorem dJ6_bitCount_0f7a4_24 : decode cJ6_bitCount_0f7a4 24 = .ok (.iload_n 0, 1) := by decide +kernel
theorem dJ6_bitCount_0f7a4_25 : decode cJ6_bitCount_0f7a4 25 = .ok (.iload_n 0, 1) := by decide +kernel
theorem dJ6_bitCount_0f7a4_26 : decode cJ6_bitCount_0f7a4 26 = .ok (.iconst 4, 1) := by decide +kernel
theorem dJ6_bitCount_0f7a4_27 : decode cJ6_bitCount_0f7a4 27 = .ok (.iushr, 1) := by decide +kernel
theorem dJ6_bitCount_0f7a4_28 : decode cJ6_bitCount_0f7a4 28 = .ok (.iadd, 1) := by decide +kernel
theorem dJ6_bitCount_0f7a4_29 : decode cJ6_bitCount_0f7a4 29 = .ok (.ldc_w 267, 3) := by decide +kernel
theorem dJ6_bitCount_0f7a4_32 : decode cJ6_bitCount_0f7a4 32 = .ok (.iand, 1) := by decide +kernel
theorem dJ6_bitCount_0f7a4_33 : decode cJ6_bitCount_0f7a4 33 = .ok (.istore_n 0, 1) := by decide +kernel
theorem dJ6_bitCount_0f7a4_34 : decode cJ6_bitCount_0f7a4 34 = .ok (.iload_n 0, 1) := by decide +kernel
theorem dJ6_bitCount_0f7a4_35 : decode cJ6_bitCount_0f7a4 35 = .ok (.iload_n 0, 1) := by decide +kernel
theorem dJ6_bitCount_0f7a4_36 : decode cJ6_bitCount_0f7a4 36 = .ok (.bipush 8, 2) := by decide +kernel
theorem dJ6_bitCount_0f7a4_38 : decode cJ6_bitCount_0f7a4 38 = .ok (.iushr, 1) := by decide +kernel
theorem dJ6_bitCount_0f7a4_39 : decode cJ6_bitCount_0f7a4 39 = .ok (.iadd, 1) := by decide +kernel
theorem dJ6_bitCount_0f7a4_40 : decode cJ6_bitCount_0f7a4 40 = .ok (.istore_n 0, 1) := by decide +kernel
theorem dJ6_bitCount_0f7a4_41 : decode cJ6_bitCount_0f7a4 41 = .ok (.iload_n 0, 1) := by decide +kernel
theorem dJ6_bitCount_0f7a4_42 : decode cJ6_bitCount_0f7a4 42 = .ok (.iload_n 0, 1) := by decide +kernel
theorem dJ6_bitCount_0f7a4_43 : decode cJ6_bitCount_0f7a4 43 = .ok (.bipush 16, 2) := by decide +kernel
theorem dJ6_bitCount_0f7a4_45 : decode cJ6_bitCount_0f7a4 45 = .ok (.iushr, 1) := by decide +kernel
theorem dJ6_bitCount_0f7a4_46 : decode cJ6_bitCount_0f7a4 46 = .ok (.iadd, 1) := by decide +kernel
theorem dJ6_bitCount_0f7a4_47 : decode cJ6_bitCount_0f7a4 47 = .ok (.istore_n 0, 1) := by decide +kernel
theorem dJ6_bitCount_0f7a4_48 : decode cJ6_bitCount_0f7a4 48 = .ok (.iload_n 0, 1) := by decide +kernel
theorem dJ6_bitCount_0f7a4_49 : decode cJ6_bitCount_0f7a4 49 = .ok (.bipush 63, 2) := by decide +kernel
theorem dJ6_bitCount_0f7a4_51 : decode cJ6_bitCount_0f7a4 51 = .ok (.iand, 1) := by decide +kernel
theorem dJ6_bitCount_0f7a4_52 : decode cJ6_bitCount_0f7a4 52 = .ok (.ireturn, 1) := by decide +kernel
theorem dJ13_bitCount_95d88_0 : decode cJ13_bitCount_95d88 0 = .ok (.lload_n 0, 1) := by decide +kernel
theorem dJ13_bitCount_95d88_1 : decode cJ13_bitCount_95d88 1 = .ok (.lload_n 0, 1) := by decide +kernel
theorem dJ13_bitCount_95d88_2 : decode cJ13_bitCount_95d88 2 = .ok (.iconst 1, 1) := by decide +kernel
theorem dJ13_bitCount_95d88_3 : decode cJ13_bitCount_95d88 3 = .ok (.lushr, 1) := by decide +kernel
theorem dJ13_bitCount_95d88_4 : decode cJ13_bitCount_95d88 4 = .ok (.ldc2_w 314, 3) := by decide +kernel
theorem dJ13_bitCount_95d88_7 : decode cJ13_bitCount_95d88 7 = .ok (.land, 1) := by decide +kernel
theorem dJ13_bitCount_95d88_8 : decode cJ13_bitCount_95d88 8 = .ok (.lsub, 1) := by decide +kernel
theorem dJ13_bitCount_95d88_9 : decode cJ13_bitCount_95d88 9 = .ok (.lstore_n 0, 1) := by decide +kernel
theorem dJ13_bitCount_95d88_10 : decode cJ13_bitCount_95d88 10 = .ok (.lload_n 0, 1) := by decide +kernel
theorem dJ13_bitCount_95d88_11 : decode cJ13_bitCount_95d88 11 = .ok (.ldc2_w 316, 3) := by decide +kernel
theorem dJ13_bitCount_95d88_14 : decode cJ13_bitCount_95d88 14 = .ok (.land, 1) := by decide +kernel
theorem dJ13_bitCount_95d88_15 : decode cJ13_bitCount_95d88 15 = .ok (.lload_n 0, 1) := by decide +kernel
theorem dJ13_bitCount_95d88_16 : decode cJ13_bitCount_95d88 16 = .ok (.iconst 2, 1) := by decide +kernel
theorem dJ13_bitCount_95d88_17 : decode cJ13_bitCount_95d88 17 = .ok (.lushr, 1) := by decide +kernel
theorem dJ13_bitCount_95d88_18 : decode cJ13_bitCount_95d88 18 = .ok (.ldc2_w 316, 3) := by decide +kernel
theorem dJ13_bitCount_95d88_21 : decode cJ13_bitCount_95d88 21 = .ok (.land, 1) := by decide +kernel
theorem dJ13_bitCount_95d88_22 : decode cJ13_bitCount_95d88 22 = .ok (.ladd, 1) := by decide +kernel
theorem dJ13_bitCount_95d88_23 : decode cJ13_bitCount_95d88 23 = .ok (.lstore_n 0, 1) := by decide +kernel
theorem dJ13_bitCount_95d88_24 : decode cJ13_bitCount_95d88 24 = .ok (.lload_n 0, 1) := by decide +kernel
theorem dJ13_bitCount_95d88_25 : decode cJ13_bitCount_95d88 25 = .ok (.lload_n 0, 1) := by decide +kernel
theorem dJ13_bitCount_95d88_26 : decode cJ13_bitCount_95d88 26 = .ok (.iconst 4, 1) := by decide +kernel
theorem dJ13_bitCount_95d88_27 : decode cJ13_bitCount_95d88 27 = .ok (.lushr, 1) := by decide +kernel
theorem dJ13_bitCount_95d88_28 : decode cJ13_bitCount_95d88 28 = .ok (.ladd, 1) := by decide +kernel
theorem dJ13_bitCount_95d88_29 : decode cJ13_bitCount_95d88 29 = .ok (.ldc2_w 318, 3) := by decide +kernel
theorem dJ13_bitCount_95d88_32 : decode cJ13_bitCount_95d88 32 = .ok (.land, 1) := by decide +kernel
theorem dJ13_bitCount_95d88_33 : decode cJ13_bitCount_95d88 33 = .ok (.lstore_n 0, 1) := by decide +kernel
theorem dJ13_bitCount_95d88_34 : decode cJ13_bitCount_95d88 34 = .ok (.lload_n 0, 1) := by decide +kernel
theorem dJ13_bitCount_95d88_35 : decode cJ13_bitCount_95d88 35 = .ok (.lload_n 0, 1) := by decide +kernel
theorem dJ13_bitCount_95d88_36 : decode cJ13_bitCount_95d88 36 = .ok (.bipush 8, 2) := by decide +kernel
theorem dJ13_bitCount_95d88_38 : decode cJ13_bitCount_95d88 38 = .ok (.lushr, 1) := by decide +kernel
theorem dJ13_bitCount_95d88_39 : decode cJ13_bitCount_95d88 39 = .ok (.ladd, 1) := by decide +kernel
theorem dJ13_bitCount_95d88_40 : decode cJ13_bitCount_95d88 40 = .ok (.lstore_n 0, 1) := by decide +kernel
theorem dJ13_bitCount_95d88_41 : decode cJ13_bitCount_95d88 41 = .ok (.lload_n 0, 1) := by decide +kernel
theorem dJ13_bitCount_95d88_42 : decode cJ13_bitCount_95d88 42 = .ok (.lload_n 0, 1) := by decide +kernel
theorem dJ13_bitCount_95d88_43 : decode cJ13_bitCount_95d88 43 = .ok (.bipush 16, 2) := by decide +kernel
theorem dJ13_bitCount_95d88_45 : decode cJ13_bitCount_95d88 45 = .ok (.lushr, 1) := by decide +kernel
theorem dJ13_bitCount_95d88_46 : decode cJ13_bitCount_95d88 46 = .ok (.ladd, 1) := by decide +kernel
theorem dJ13_bitCount_95d88_47 : decode cJ13_bitCount_95d88 47 = .ok (.lstore_n 0, 1) := by decide +kernel
theorem dJ13_bitCount_95d88_48 : decode cJ13_bitCount_95d88 48 = .ok (.lload_n 0, 1) := by decide +kernel
theorem dJ13_bitCount_95d88_49 : decode cJ13_bitCount_95d88 49 = .ok (.lload_n 0, 1) := by decide +kernel
theorem dJ13_bitCount_95d88_50 : decode cJ13_bitCount_95d88 50 = .ok (.bipush 32, 2) := by decide +kernel
theorem dJ13_bitCount_95d88_52 : decode cJ13_bitCount_95d88 52 = .ok (.lushr, 1) := by decide +kernel
theorem dJ13_bitCount_95d88_53 : decode cJ13_bitCount_95d88 53 = .ok (.ladd, 1) := by decide +kernel
theorem dJ13_bitCount_95d88_54 : decode cJ13_bitCount_95d88 54 = .ok (.lstore_n 0, 1) := by decide +kernel
theorem dJ13_bitCount_95d88_55 : decode cJ13_bitCount_95d88 55 = .ok (.lload_n 0, 1) := by decide +kernel
theorem dJ13_bitCount_95d88_56 : decode cJ13_bitCount_95d88 56 = .ok (.l2i, 1) := by decide +kernel
theorem dJ13_bitCount_95d88_57 : decode cJ13_bitCount_95d88 57 = .ok (.bipush 127, 2) := by decide +kernel
theorem dJ13_bitCount_95d88_59 : decode cJ13_bitCount_95d88 59 = .ok (.iand, 1) := by decide +kernel
theorem dJ13_bitCount_95d88_60 : decode cJ13_bitCount_95d88 60 = .ok (.ireturn, 1) := by decide +kernel
theorem dJ9_max_7cf53_0 : decode cJ9_max_7cf53 0 = .ok (.iload_n 0, 1) := by decide +kernel
theorem dJ9_max_7cf53_1 : decode cJ9_max_7cf53 1 = .ok (.iload_n 1, 1) := by decide +kernel
theorem dJ9_max_7cf53_2 : decode cJ9_max_7cf53 2 = .ok (.if_icmp .lt 7, 3) := by decide +kernel
theorem dJ9_max_7cf53_5 : decode cJ9_max_7cf53 5 = .ok (.iload_n 0, 1) := by decide +kernel
theorem dJ9_max_7cf53_6 : decode cJ9_max_7cf53 6 = .ok (.goto 4, 3) := by decide +kernel
theorem dJ9_max_7cf53_9 : decode cJ9_max_7cf53 9 = .ok (.iload_n 1, 1) := by decide +kernel
theorem dJ9_max_7cf53_10 : decode cJ9_max_7cf53 10 = .ok (.ireturn, 1) := by decide +kernel
theorem dJ9_min_7cf53_0 : decode cJ9_min_7cf53 0 = .ok (.iload_n 0, 1) := by decide +kernel
theorem dJ9_min_7cf53_1 : decode cJ9_min_7cf53 1 = .ok (.iload_n 1, 1) := by decide +kernel
theorem dJ9_min_7cf53_2 : decode cJ9_min_7cf53 2 = .ok (.if_icmp .gt 7, 3) := by decide +kernel
theorem dJ9_min_7cf53_5 : decode cJ9_min_7cf53 5 = .ok (.iload_n 0, 1) := by decide +kernel
theorem dJ9_min_7cf53_6 : decode cJ9_min_7cf53 6 = .ok (.goto 4, 3) := by decide +kernel
theorem dJ9_min_7cf53_9 : decode cJ9_min_7cf53 9 = .ok (.iload_n 1, 1) := by decide +kernel
theorem dJ9_min_7cf53_10 : decode cJ9_min_7cf53 10 = .ok (.ireturn, 1) := by decide +kernel
theorem dJ7_fill_d0a16_0 : decode cJ7_fill_d0a16 0 = .ok (.iconst 0, 1) := by decide +kernel
theorem dJ7_fill_d0a16_1 : decode cJ7_fill_d0a16 1 = .ok (.istore_n 3, 1) := by decide +kernel
theorem dJ7_fill_d0a16_2 : decode cJ7_fill_d0a16 2 = .ok (.aload_n 0, 1) := by decide +kernel
theorem dJ7_fill_d0a16_3 : decode cJ7_fill_d0a16 3 = .ok (.arraylength, 1) := by decide +kernel
theorem dJ7_fill_d0a16_4 : decode cJ7_fill_d0a16 4 = .ok (.istore 4, 2) := by decide +kernel
theorem dJ7_fill_d0a16_6 : decode cJ7_fill_d0a16 6 = .ok (.iload_n 3, 1) := by decide +kernel
theorem dJ7_fill_d0a16_7 : decode cJ7_fill_d0a16 7 = .ok (.iload 4, 2) := by decide +kernel
theorem dJ7_fill_d0a16_9 : decode cJ7_fill_d0a16 9 = .ok (.if_icmp .ge 13, 3) := by decide +kernel
theorem dJ7_fill_d0a16_12 : decode cJ7_fill_d0a16 12 = .ok (.aload_n 0, 1) := by decide +kernel
theorem dJ7_fill_d0a16_13 : decode cJ7_fill_d0a16 13 = .ok (.iload_n 3, 1) := by decide +kernel
theorem dJ7_fill_d0a16_14 : decode cJ7_fill_d0a16 14 = .ok (.lload_n 1, 1) := by decide +kernel
theorem dJ7_fill_d0a16_15 : decode cJ7_fill_d0a16 15 = .ok (.lastore, 1) := by decide +kernel
theorem dJ7_fill_d0a16_16 : decode cJ7_fill_d0a16 16 = .ok (.iinc 3 1, 3) := by decide +kernel
theorem dJ7_fill_d0a16_19 : decode cJ7_fill_d0a16 19 = .ok (.goto (-13), 3) := by decide +kernel
theorem dJ7_fill_d0a16_22 : decode cJ7_fill_d0a16 22 = .ok (.return_, 1) := by decide +kernel
theorem dJ7_fill_53178_0 : decode cJ7_fill_53178 0 = .ok (.iconst 0, 1) := by decide +kernel
theorem dJ7_fill_53178_1 : decode cJ7_fill_53178 1 = .ok (.istore_n 2, 1) := by decide +kernel
theorem dJ7_fill_53178_2 : decode cJ7_fill_53178 2 = .ok (.aload_n 0, 1) := by decide +kernel
theorem dJ7_fill_53178_3 : decode cJ7_fill_53178 3 = .ok (.arraylength, 1) := by decide +kernel
theorem dJ7_fill_53178_4 : decode cJ7_fill_53178 4 = .ok (.istore_n 3, 1) := by decide +kernel
theorem dJ7_fill_53178_5 : decode cJ7_fill_53178 5 = .ok (.iload_n 2, 1) := by decide +kernel
theorem dJ7_fill_53178_6 : decode cJ7_fill_53178 6 = .ok (.iload_n 3, 1) := by decide +kernel
theorem dJ7_fill_53178_7 : decode cJ7_fill_53178 7 = .ok (.if_icmp .ge 13, 3) := by decide +kernel
theorem dJ7_fill_53178_10 : decode cJ7_fill_53178 10 = .ok (.aload_n 0, 1) := by decide +kernel
theorem dJ7_fill_53178_11 : decode cJ7_fill_53178 11 = .ok (.iload_n 2, 1) := by decide +kernel
theorem dJ7_fill_53178_12 : decode cJ7_fill_53178 12 = .ok (.iload_n 1, 1) := by decide +kernel
theorem dJ7_fill_53178_13 : decode cJ7_fill_53178 13 = .ok (.iastore, 1) := by decide +kernel
theorem dJ7_fill_53178_14 : decode cJ7_fill_53178 14 = .ok (.iinc 2 1, 3) := by decide +kernel
theorem dJ7_fill_53178_17 : decode cJ7_fill_53178 17 = .ok (.goto (-12), 3) := by decide +kernel
theorem dJ7_fill_53178_20 : decode cJ7_fill_53178 20 = .ok (.return_, 1) := by decide +kernel
theorem dJ7_fill_7f8df_0 : decode cJ7_fill_7f8df 0 = .ok (.iconst 0, 1) := by decide +kernel
theorem dJ7_fill_7f8df_1 : decode cJ7_fill_7f8df 1 = .ok (.istore_n 3, 1) := by decide +kernel
theorem dJ7_fill_7f8df_2 : decode cJ7_fill_7f8df 2 = .ok (.aload_n 0, 1) := by decide +kernel
theorem dJ7_fill_7f8df_3 : decode cJ7_fill_7f8df 3 = .ok (.arraylength, 1) := by decide +kernel
theorem dJ7_fill_7f8df_4 : decode cJ7_fill_7f8df 4 = .ok (.istore 4, 2) := by decide +kernel
theorem dJ7_fill_7f8df_6 : decode cJ7_fill_7f8df 6 = .ok (.iload_n 3, 1) := by decide +kernel
theorem dJ7_fill_7f8df_7 : decode cJ7_fill_7f8df 7 = .ok (.iload 4, 2) := by decide +kernel
theorem dJ7_fill_7f8df_9 : decode cJ7_fill_7f8df 9 = .ok (.if_icmp .ge 13, 3) := by decide +kernel
theorem dJ7_fill_7f8df_12 : decode cJ7_fill_7f8df 12 = .ok (.aload_n 0, 1) := by decide +kernel
theorem dJ7_fill_7f8df_13 : decode cJ7_fill_7f8df 13 = .ok (.iload_n 3, 1) := by decide +kernel
theorem dJ7_fill_7f8df_14 : decode cJ7_fill_7f8df 14 = .ok (.dload_n 1, 1) := by decide +kernel
theorem dJ7_fill_7f8df_15 : decode cJ7_fill_7f8df 15 = .ok (.dastore, 1) := by decide +kernel
theorem dJ7_fill_7f8df_16 : decode cJ7_fill_7f8df 16 = .ok (.iinc 3 1, 3) := by decide +kernel
theorem dJ7_fill_7f8df_19 : decode cJ7_fill_7f8df 19 = .ok (.goto (-13), 3) := by decide +kernel
theorem dJ7_fill_7f8df_22 : decode cJ7_fill_7f8df 22 = .ok (.return_, 1) := by decide +kernel
abbrev vwCl : List vw_C := [(RX0, TX0, 7), (RX1, TX1, 7), (RX2, TX2, 2), (RX3, TX3, 2), (RX4, TX4, 2), (RX5, TX5, 4), (RX6, TX6, 2), (RX7, TX7, 10), (RX8, TX8, 22)]
