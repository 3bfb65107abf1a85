theorem dX8_plans_129 : decode cX8_plans 129 = .ok (.if_icmp .le 10, 3) := by decide +kernel
theorem dX8_plans_132 : decode cX8_plans 132 = .ok (.iconst 1, 1) := by decide +kernel
theorem dX8_plans_133 : decode cX8_plans 133 = .ok (.iload 5, 2) := by decide +kernel
theorem dX8_plans_135 : decode cX8_plans 135 = .ok (.ishl, 1) := by decide +kernel
theorem dX8_plans_136 : decode cX8_plans 136 = .ok (.goto 4, 3) := by decide +kernel
theorem dX8_plans_139 : decode cX8_plans 139 = .ok (.iconst 0, 1) := by decide +kernel
theorem dX8_plans_140 : decode cX8_plans 140 = .ok (.ior, 1) := by decide +kernel
theorem dX8_plans_141 : decode cX8_plans 141 = .ok (.istore 4, 2) := by decide +kernel
theorem dX8_plans_143 : decode cX8_plans 143 = .ok (.iinc 5 1, 3) := by decide +kernel
theorem dX8_plans_146 : decode cX8_plans 146 = .ok (.goto (-48), 3) := by decide +kernel
theorem dX8_plans_149 : decode cX8_plans 149 = .ok (.iload 4, 2) := by decide +kernel
theorem dX8_plans_151 : decode cX8_plans 151 = .ok (.istore_n 1, 1) := by decide +kernel
theorem dX8_plans_152 : decode cX8_plans 152 = .ok (.iinc 2 1, 3) := by decide +kernel
theorem dX8_plans_155 : decode cX8_plans 155 = .ok (.goto (-148), 3) := by decide +kernel
theorem dX8_plans_158 : decode cX8_plans 158 = .ok (.iload_n 2, 1) := by decide +kernel
theorem dX8_plans_159 : decode cX8_plans 159 = .ok (.ireturn, 1) := by decide +kernel
set_option maxRecDepth 20000 in
theorem ggX8_recursiveDimension_X8_plans : GoodIn wsX8_recursiveDimension wsX8_plans := goodIn_r _ [7, 8, 1, 9, 2, 10, 11, 12, 6, 13, 14, 15, 16, 17, 18, 19, 20, 21, 22, 23, 24, 25, 26, 27, 28, 29, 30, 31, 32, 33, 34, 35, 36, 37, 38, 39, 40, 41, 42, 43, 44, 45, 46, 47, 48, 49, 50, 51] (by decide +kernel) (by decide +kernel)
set_option maxRecDepth 20000 in
theorem gX8_recursiveDimension_X8_plans : GoodIn wsX8_recursiveDimension (wsV RX8 115 RX8 yX8_plans wsX8_plans) := goodIn_app (goodIn_of _ (by decide +kernel)) ggX8_recursiveDimension_X8_plans
set_option maxRecDepth 20000 in
theorem ggX8_recursiveDimension_X8_sizeOf : GoodIn wsX8_recursiveDimension wsX8_sizeOf := goodIn_r _ [29] (by decide +kernel) (by decide +kernel)
set_option maxRecDepth 20000 in
theorem gX8_recursiveDimension_X8_sizeOf : GoodIn wsX8_recursiveDimension (va_wsS RX8 63 yX8_sizeOf wsX8_sizeOf) := goodIn_app (goodIn_of _ (by decide +kernel)) ggX8_recursiveDimension_X8_sizeOf
theorem dX8_recursiveDimension_0 : decode cX8_recursiveDimension 0 = .ok (.aload_n 0, 1) := by decide +kernel
theorem dX8_recursiveDimension_1 : decode cX8_recursiveDimension 1 = .ok (.getfield 67, 3) := by decide +kernel
theorem dX8_recursiveDimension_4 : decode cX8_recursiveDimension 4 = .ok (.ifCond .ne 6, 3) := by decide +kernel
theorem dX8_recursiveDimension_7 : decode cX8_recursiveDimension 7 = .ok (.bipush (-7), 2) := by decide +kernel
theorem dX8_recursiveDimension_9 : decode cX8_recursiveDimension 9 = .ok (.ireturn, 1) := by decide +kernel
theorem dX8_recursiveDimension_10 : decode cX8_recursiveDimension 10 = .ok (.aload_n 0, 1) := by decide +kernel
theorem dX8_recursiveDimension_11 : decode cX8_recursiveDimension 11 = .ok (.invokevirtual 115, 3) := by decide +kernel
theorem dX8_recursiveDimension_14 : decode cX8_recursiveDimension 14 = .ok (.pop, 1) := by decide +kernel
theorem dX8_recursiveDimension_15 : decode cX8_recursiveDimension 15 = .ok (.iconst 0, 1) := by decide +kernel
theorem dX8_recursiveDimension_16 : decode cX8_recursiveDimension 16 = .ok (.istore_n 1, 1) := by decide +kernel
theorem dX8_recursiveDimension_17 : decode cX8_recursiveDimension 17 = .ok (.iconst 0, 1) := by decide +kernel
theorem dX8_recursiveDimension_18 : decode cX8_recursiveDimension 18 = .ok (.istore_n 2, 1) := by decide +kernel
theorem dX8_recursiveDimension_19 : decode cX8_recursiveDimension 19 = .ok (.iload_n 2, 1) := by decide +kernel
theorem dX8_recursiveDimension_20 : decode cX8_recursiveDimension 20 = .ok (.aload_n 0, 1) := by decide +kernel
theorem dX8_recursiveDimension_21 : decode cX8_recursiveDimension 21 = .ok (.getfield 67, 3) := by decide +kernel
theorem dX8_recursiveDimension_24 : decode cX8_recursiveDimension 24 = .ok (.if_icmp .ge 30, 3) := by decide +kernel
theorem dX8_recursiveDimension_27 : decode cX8_recursiveDimension 27 = .ok (.aload_n 0, 1) := by decide +kernel
theorem dX8_recursiveDimension_28 : decode cX8_recursiveDimension 28 = .ok (.getfield 60, 3) := by decide +kernel
theorem dX8_recursiveDimension_31 : decode cX8_recursiveDimension 31 = .ok (.iload_n 2, 1) := by decide +kernel
theorem dX8_recursiveDimension_32 : decode cX8_recursiveDimension 32 = .ok (.iaload, 1) := by decide +kernel
theorem dX8_recursiveDimension_33 : decode cX8_recursiveDimension 33 = .ok (.invokestatic 63, 3) := by decide +kernel
theorem dX8_recursiveDimension_36 : decode cX8_recursiveDimension 36 = .ok (.istore_n 3, 1) := by decide +kernel
theorem dX8_recursiveDimension_37 : decode cX8_recursiveDimension 37 = .ok (.iload_n 3, 1) := by decide +kernel
theorem dX8_recursiveDimension_38 : decode cX8_recursiveDimension 38 = .ok (.iload_n 1, 1) := by decide +kernel
theorem dX8_recursiveDimension_39 : decode cX8_recursiveDimension 39 = .ok (.if_icmp .le 7, 3) := by decide +kernel
theorem dX8_recursiveDimension_42 : decode cX8_recursiveDimension 42 = .ok (.iload_n 3, 1) := by decide +kernel
theorem dX8_recursiveDimension_43 : decode cX8_recursiveDimension 43 = .ok (.goto 4, 3) := by decide +kernel
theorem dX8_recursiveDimension_46 : decode cX8_recursiveDimension 46 = .ok (.iload_n 1, 1) := by decide +kernel
theorem dX8_recursiveDimension_47 : decode cX8_recursiveDimension 47 = .ok (.istore_n 1, 1) := by decide +kernel
theorem dX8_recursiveDimension_48 : decode cX8_recursiveDimension 48 = .ok (.iinc 2 1, 3) := by decide +kernel
theorem dX8_recursiveDimension_51 : decode cX8_recursiveDimension 51 = .ok (.goto (-32), 3) := by decide +kernel
theorem dX8_recursiveDimension_54 : decode cX8_recursiveDimension 54 = .ok (.iload_n 1, 1) := by decide +kernel
theorem dX8_recursiveDimension_55 : decode cX8_recursiveDimension 55 = .ok (.ireturn, 1) := by decide +kernel
set_option maxRecDepth 20000 in
theorem ggX8_layerCount_X8_plans : GoodIn wsX8_layerCount wsX8_plans := goodIn_r _ [5, 6, 7, 8, 9, 10, 11, 12, 4, 13, 14, 15, 16, 17, 18, 19, 20, 21, 22, 23, 24, 25, 26, 27, 28, 29, 30, 31, 32, 33, 34, 35, 36, 37, 38, 39, 40, 41, 42, 43, 44, 45, 46, 47, 48, 49, 50, 51] (by decide +kernel) (by decide +kernel)
set_option maxRecDepth 20000 in
theorem gX8_layerCount_X8_plans : GoodIn wsX8_layerCount (wsV RX8 115 RX8 yX8_plans wsX8_plans) := goodIn_app (goodIn_of _ (by decide +kernel)) ggX8_layerCount_X8_plans
theorem dX8_layerCount_0 : decode cX8_layerCount 0 = .ok (.aload_n 0, 1) := by decide +kernel
theorem dX8_layerCount_1 : decode cX8_layerCount 1 = .ok (.invokevirtual 115, 3) := by decide +kernel
theorem dX8_layerCount_4 : decode cX8_layerCount 4 = .ok (.ireturn, 1) := by decide +kernel
set_option maxRecDepth 20000 in
theorem ggX8_layer_X8_isConcept : GoodIn wsX8_layer wsX8_isConcept := goodIn_r _ [6, 7, 8, 9, 5, 10, 37, 38, 39, 40, 41, 42, 43, 44, 45, 46, 47, 48, 49, 50, 51, 52, 53, 54, 55, 56, 57, 58] (by decide +kernel) (by decide +kernel)
set_option maxRecDepth 20000 in
theorem gX8_layer_X8_isConcept : GoodIn wsX8_layer (wsV RX8 93 RX8 yX8_isConcept wsX8_isConcept) := goodIn_app (goodIn_of _ (by decide +kernel)) ggX8_layer_X8_isConcept
set_option maxRecDepth 20000 in
theorem ggX8_layer_X8_plans : GoodIn wsX8_layer wsX8_plans := goodIn_r _ [14, 15, 7, 1, 16, 17, 18, 19, 5, 20, 21, 22, 23, 24, 25, 26, 27, 28, 29, 30, 31, 32, 33, 34, 35, 36, 37, 38, 39, 40, 41, 42, 43, 44, 45, 46, 47, 48, 49, 50, 51, 52, 53, 54, 55, 56, 57, 58] (by decide +kernel) (by decide +kernel)
set_option maxRecDepth 20000 in
theorem gX8_layer_X8_plans : GoodIn wsX8_layer (wsV RX8 115 RX8 yX8_plans wsX8_plans) := goodIn_app (goodIn_of _ (by decide +kernel)) ggX8_layer_X8_plans
theorem dX8_layer_0 : decode cX8_layer 0 = .ok (.aload_n 0, 1) := by decide +kernel
theorem dX8_layer_1 : decode cX8_layer 1 = .ok (.iload_n 1, 1) := by decide +kernel
theorem dX8_layer_2 : decode cX8_layer 2 = .ok (.invokevirtual 93, 3) := by decide +kernel
theorem dX8_layer_5 : decode cX8_layer 5 = .ok (.ifCond .ne 6, 3) := by decide +kernel
theorem dX8_layer_8 : decode cX8_layer 8 = .ok (.bipush (-2), 2) := by decide +kernel
theorem dX8_layer_10 : decode cX8_layer 10 = .ok (.ireturn, 1) := by decide +kernel
theorem dX8_layer_11 : decode cX8_layer 11 = .ok (.aload_n 0, 1) := by decide +kernel
theorem dX8_layer_12 : decode cX8_layer 12 = .ok (.invokevirtual 115, 3) := by decide +kernel
theorem dX8_layer_15 : decode cX8_layer 15 = .ok (.pop, 1) := by decide +kernel
theorem dX8_layer_16 : decode cX8_layer 16 = .ok (.aload_n 0, 1) := by decide +kernel
theorem dX8_layer_17 : decode cX8_layer 17 = .ok (.getfield 57, 3) := by decide +kernel
theorem dX8_layer_20 : decode cX8_layer 20 = .ok (.iload_n 1, 1) := by decide +kernel
theorem dX8_layer_21 : decode cX8_layer 21 = .ok (.iaload, 1) := by decide +kernel
theorem dX8_layer_22 : decode cX8_layer 22 = .ok (.ireturn, 1) := by decide +kernel
set_option maxRecDepth 20000 in
theorem ggX8_planSet_X8_isConcept : GoodIn wsX8_planSet wsX8_isConcept := goodIn_r _ [6, 7, 8, 9, 5, 10, 37, 38, 39, 40, 41, 42, 43, 44, 45, 46, 47, 48, 49, 50, 51, 52, 53, 54, 55, 56, 57, 58] (by decide +kernel) (by decide +kernel)
set_option maxRecDepth 20000 in
theorem gX8_planSet_X8_isConcept : GoodIn wsX8_planSet (wsV RX8 93 RX8 yX8_isConcept wsX8_isConcept) := goodIn_app (goodIn_of _ (by decide +kernel)) ggX8_planSet_X8_isConcept
set_option maxRecDepth 20000 in
theorem ggX8_planSet_X8_plans : GoodIn wsX8_planSet wsX8_plans := goodIn_r _ [14, 15, 7, 16, 1, 17, 18, 19, 5, 20, 21, 22, 23, 24, 25, 26, 27, 28, 29, 30, 31, 32, 33, 34, 35, 36, 37, 38, 39, 40, 41, 42, 43, 44, 45, 46, 47, 48, 49, 50, 51, 52, 53, 54, 55, 56, 57, 58] (by decide +kernel) (by decide +kernel)
set_option maxRecDepth 20000 in
theorem gX8_planSet_X8_plans : GoodIn wsX8_planSet (wsV RX8 115 RX8 yX8_plans wsX8_plans) := goodIn_app (goodIn_of _ (by decide +kernel)) ggX8_planSet_X8_plans
theorem dX8_planSet_0 : decode cX8_planSet 0 = .ok (.aload_n 0, 1) := by decide +kernel
theorem dX8_planSet_1 : decode cX8_planSet 1 = .ok (.iload_n 1, 1) := by decide +kernel
theorem dX8_planSet_2 : decode cX8_planSet 2 = .ok (.invokevirtual 93, 3) := by decide +kernel
theorem dX8_planSet_5 : decode cX8_planSet 5 = .ok (.ifCond .ne 6, 3) := by decide +kernel
theorem dX8_planSet_8 : decode cX8_planSet 8 = .ok (.bipush (-2), 2) := by decide +kernel
theorem dX8_planSet_10 : decode cX8_planSet 10 = .ok (.ireturn, 1) := by decide +kernel
theorem dX8_planSet_11 : decode cX8_planSet 11 = .ok (.aload_n 0, 1) := by decide +kernel
theorem dX8_planSet_12 : decode cX8_planSet 12 = .ok (.invokevirtual 115, 3) := by decide +kernel
theorem dX8_planSet_15 : decode cX8_planSet 15 = .ok (.pop, 1) := by decide +kernel
theorem dX8_planSet_16 : decode cX8_planSet 16 = .ok (.aload_n 0, 1) := by decide +kernel
theorem dX8_planSet_17 : decode cX8_planSet 17 = .ok (.getfield 60, 3) := by decide +kernel
theorem dX8_planSet_20 : decode cX8_planSet 20 = .ok (.iload_n 1, 1) := by decide +kernel
theorem dX8_planSet_21 : decode cX8_planSet 21 = .ok (.iaload, 1) := by decide +kernel
theorem dX8_planSet_22 : decode cX8_planSet 22 = .ok (.ireturn, 1) := by decide +kernel
set_option maxRecDepth 20000 in
theorem ggX8_setScore_X8_isConcept : GoodIn wsX8_setScore wsX8_isConcept := goodIn_r _ [6, 7, 8, 9, 5, 10, 11, 12, 13, 14, 15, 16, 17, 18, 19, 20, 21, 22, 23, 24, 25, 26, 27, 28, 29, 30, 31, 32] (by decide +kernel) (by decide +kernel)
set_option maxRecDepth 20000 in
theorem gX8_setScore_X8_isConcept : GoodIn wsX8_setScore (wsV RX8 93 RX8 yX8_isConcept wsX8_isConcept) := goodIn_app (goodIn_of _ (by decide +kernel)) ggX8_setScore_X8_isConcept
theorem dX8_setScore_0 : decode cX8_setScore 0 = .ok (.aload_n 0, 1) := by decide +kernel
theorem dX8_setScore_1 : decode cX8_setScore 1 = .ok (.iload_n 1, 1) := by decide +kernel
theorem dX8_setScore_2 : decode cX8_setScore 2 = .ok (.invokevirtual 93, 3) := by decide +kernel
theorem dX8_setScore_5 : decode cX8_setScore 5 = .ok (.ifCond .ne 6, 3) := by decide +kernel
theorem dX8_setScore_8 : decode cX8_setScore 8 = .ok (.bipush (-2), 2) := by decide +kernel
theorem dX8_setScore_10 : decode cX8_setScore 10 = .ok (.ireturn, 1) := by decide +kernel
theorem dX8_setScore_11 : decode cX8_setScore 11 = .ok (.iload_n 2, 1) := by decide +kernel
theorem dX8_setScore_12 : decode cX8_setScore 12 = .ok (.i2d, 1) := by decide +kernel
theorem dX8_setScore_13 : decode cX8_setScore 13 = .ok (.iload_n 3, 1) := by decide +kernel
theorem dX8_setScore_14 : decode cX8_setScore 14 = .ok (.i2d, 1) := by decide +kernel
theorem dX8_setScore_15 : decode cX8_setScore 15 = .ok (.ddiv, 1) := by decide +kernel
theorem dX8_setScore_16 : decode cX8_setScore 16 = .ok (.dstore 4, 2) := by decide +kernel
theorem dX8_setScore_18 : decode cX8_setScore 18 = .ok (.dload 4, 2) := by decide +kernel
theorem dX8_setScore_20 : decode cX8_setScore 20 = .ok (.aload_n 0, 1) := by decide +kernel
theorem dX8_setScore_21 : decode cX8_setScore 21 = .ok (.getfield 22, 3) := by decide +kernel
theorem dX8_setScore_24 : decode cX8_setScore 24 = .ok (.iload_n 1, 1) := by decide +kernel
theorem dX8_setScore_25 : decode cX8_setScore 25 = .ok (.daload, 1) := by decide +kernel
theorem dX8_setScore_26 : decode cX8_setScore 26 = .ok (.dcmp .l, 1) := by decide +kernel
theorem dX8_setScore_27 : decode cX8_setScore 27 = .ok (.ifCond .ne 7, 3) := by decide +kernel
theorem dX8_setScore_30 : decode cX8_setScore 30 = .ok (.iconst 1, 1) := by decide +kernel
theorem dX8_setScore_31 : decode cX8_setScore 31 = .ok (.goto 4, 3) := by decide +kernel
theorem dX8_setScore_34 : decode cX8_setScore 34 = .ok (.iconst 0, 1) := by decide +kernel
theorem dX8_setScore_35 : decode cX8_setScore 35 = .ok (.istore 6, 2) := by decide +kernel
theorem dX8_setScore_37 : decode cX8_setScore 37 = .ok (.aload_n 0, 1) := by decide +kernel
theorem dX8_setScore_38 : decode cX8_setScore 38 = .ok (.getfield 22, 3) := by decide +kernel
theorem dX8_setScore_41 : decode cX8_setScore 41 = .ok (.iload_n 1, 1) := by decide +kernel
theorem dX8_setScore_42 : decode cX8_setScore 42 = .ok (.dload 4, 2) := by decide +kernel
theorem dX8_setScore_44 : decode cX8_setScore 44 = .ok (.dastore, 1) := by decide +kernel
theorem dX8_setScore_45 : decode cX8_setScore 45 = .ok (.iload 6, 2) := by decide +kernel
theorem dX8_setScore_47 : decode cX8_setScore 47 = .ok (.ireturn, 1) := by decide +kernel
set_option maxRecDepth 20000 in
theorem ggX8_compareScores_X8_isConcept : GoodIn wsX8_compareScores wsX8_isConcept := goodIn_r _ [6, 7, 8, 9, 5, 10, 11, 12, 13, 14, 15, 16, 17, 18, 19, 20, 21, 22, 23, 24, 25, 26, 27, 28, 29, 30, 31, 32] (by decide +kernel) (by decide +kernel)
set_option maxRecDepth 20000 in
theorem gX8_compareScores_X8_isConcept : GoodIn wsX8_compareScores (wsV RX8 93 RX8 yX8_isConcept wsX8_isConcept) := goodIn_app (goodIn_of _ (by decide +kernel)) ggX8_compareScores_X8_isConcept
theorem dX8_compareScores_0 : decode cX8_compareScores 0 = .ok (.aload_n 0, 1) := by decide +kernel
theorem dX8_compareScores_1 : decode cX8_compareScores 1 = .ok (.iload_n 1, 1) := by decide +kernel
theorem dX8_compareScores_2 : decode cX8_compareScores 2 = .ok (.invokevirtual 93, 3) := by decide +kernel
theorem dX8_compareScores_5 : decode cX8_compareScores 5 = .ok (.ifCond .eq 11, 3) := by decide +kernel
theorem dX8_compareScores_8 : decode cX8_compareScores 8 = .ok (.aload_n 0, 1) := by decide +kernel
theorem dX8_compareScores_9 : decode cX8_compareScores 9 = .ok (.iload_n 2, 1) := by decide +kernel
theorem dX8_compareScores_10 : decode cX8_compareScores 10 = .ok (.invokevirtual 93, 3) := by decide +kernel
theorem dX8_compareScores_13 : decode cX8_compareScores 13 = .ok (.ifCond .ne 6, 3) := by decide +kernel
theorem dX8_compareScores_16 : decode cX8_compareScores 16 = .ok (.bipush (-2), 2) := by decide +kernel
theorem dX8_compareScores_18 : decode cX8_compareScores 18 = .ok (.ireturn, 1) := by decide +kernel
theorem dX8_compareScores_19 : decode cX8_compareScores 19 = .ok (.aload_n 0, 1) := by decide +kernel
theorem dX8_compareScores_20 : decode cX8_compareScores 20 = .ok (.getfield 22, 3) := by decide +kernel
theorem dX8_compareScores_23 : decode cX8_compareScores 23 = .ok (.iload_n 1, 1) := by decide +kernel
theorem dX8_compareScores_24 : decode cX8_compareScores 24 = .ok (.daload, 1) := by decide +kernel
theorem dX8_compareScores_25 : decode cX8_compareScores 25 = .ok (.dstore_n 3, 1) := by decide +kernel
theorem dX8_compareScores_26 : decode cX8_compareScores 26 = .ok (.aload_n 0, 1) := by decide +kernel
theorem dX8_compareScores_27 : decode cX8_compareScores 27 = .ok (.getfield 22, 3) := by decide +kernel
theorem dX8_compareScores_30 : decode cX8_compareScores 30 = .ok (.iload_n 2, 1) := by decide +kernel
theorem dX8_compareScores_31 : decode cX8_compareScores 31 = .ok (.daload, 1) := by decide +kernel
theorem dX8_compareScores_32 : decode cX8_compareScores 32 = .ok (.dstore 5, 2) := by decide +kernel
theorem dX8_compareScores_34 : decode cX8_compareScores 34 = .ok (.dload_n 3, 1) := by decide +kernel
theorem dX8_compareScores_35 : decode cX8_compareScores 35 = .ok (.dload 5, 2) := by decide +kernel
theorem dX8_compareScores_37 : decode cX8_compareScores 37 = .ok (.dcmp .g, 1) := by decide +kernel
theorem dX8_compareScores_38 : decode cX8_compareScores 38 = .ok (.ifCond .ge 7, 3) := by decide +kernel
theorem dX8_compareScores_41 : decode cX8_compareScores 41 = .ok (.iconst 0, 1) := by decide +kernel
theorem dX8_compareScores_42 : decode cX8_compareScores 42 = .ok (.goto 26, 3) := by decide +kernel
theorem dX8_compareScores_45 : decode cX8_compareScores 45 = .ok (.dload_n 3, 1) := by decide +kernel
theorem dX8_compareScores_46 : decode cX8_compareScores 46 = .ok (.dload 5, 2) := by decide +kernel
theorem dX8_compareScores_48 : decode cX8_compareScores 48 = .ok (.dcmp .l, 1) := by decide +kernel
theorem dX8_compareScores_49 : decode cX8_compareScores 49 = .ok (.ifCond .ne 7, 3) := by decide +kernel
theorem dX8_compareScores_52 : decode cX8_compareScores 52 = .ok (.iconst 1, 1) := by decide +kernel
theorem dX8_compareScores_53 : decode cX8_compareScores 53 = .ok (.goto 15, 3) := by decide +kernel
theorem dX8_compareScores_56 : decode cX8_compareScores 56 = .ok (.dload_n 3, 1) := by decide +kernel
theorem dX8_compareScores_57 : decode cX8_compareScores 57 = .ok (.dload 5, 2) := by decide +kernel
theorem dX8_compareScores_59 : decode cX8_compareScores 59 = .ok (.dcmp .l, 1) := by decide +kernel
theorem dX8_compareScores_60 : decode cX8_compareScores 60 = .ok (.ifCond .le 7, 3) := by decide +kernel
theorem dX8_compareScores_63 : decode cX8_compareScores 63 = .ok (.iconst 2, 1) := by decide +kernel
theorem dX8_compareScores_64 : decode cX8_compareScores 64 = .ok (.goto 4, 3) := by decide +kernel
theorem dX8_compareScores_67 : decode cX8_compareScores 67 = .ok (.iconst 3, 1) := by decide +kernel
theorem dX8_compareScores_68 : decode cX8_compareScores 68 = .ok (.ireturn, 1) := by decide +kernel
theorem dX8_prefers_0 : decode cX8_prefers 0 = .ok (.iconst 1, 1) := by decide +kernel
theorem dX8_prefers_1 : decode cX8_prefers 1 = .ok (.istore_n 3, 1) := by decide +kernel
theorem dX8_prefers_2 : decode cX8_prefers 2 = .ok (.iconst 0, 1) := by decide +kernel
theorem dX8_prefers_3 : decode cX8_prefers 3 = .ok (.istore 4, 2) := by decide +kernel
theorem dX8_prefers_5 : decode cX8_prefers 5 = .ok (.iload 4, 2) := by decide +kernel
theorem dX8_prefers_7 : decode cX8_prefers 7 = .ok (.aload_n 0, 1) := by decide +kernel
theorem dX8_prefers_8 : decode cX8_prefers 8 = .ok (.getfield 67, 3) := by decide +kernel
theorem dX8_prefers_11 : decode cX8_prefers 11 = .ok (.if_icmp .ge 62, 3) := by decide +kernel
theorem dX8_prefers_14 : decode cX8_prefers 14 = .ok (.iload_n 3, 1) := by decide +kernel
theorem dX8_prefers_15 : decode cX8_prefers 15 = .ok (.ifCond .eq 50, 3) := by decide +kernel
theorem dX8_prefers_18 : decode cX8_prefers 18 = .ok (.iload 4, 2) := by decide +kernel
theorem dX8_prefers_20 : decode cX8_prefers 20 = .ok (.iload_n 1, 1) := by decide +kernel
theorem dX8_prefers_21 : decode cX8_prefers 21 = .ok (.if_icmp .eq 40, 3) := by decide +kernel
theorem dX8_prefers_24 : decode cX8_prefers 24 = .ok (.aload_n 0, 1) := by decide +kernel
theorem dX8_prefers_25 : decode cX8_prefers 25 = .ok (.getfield 19, 3) := by decide +kernel
theorem dX8_prefers_28 : decode cX8_prefers 28 = .ok (.iload 4, 2) := by decide +kernel
theorem dX8_prefers_30 : decode cX8_prefers 30 = .ok (.iaload, 1) := by decide +kernel
theorem dX8_prefers_31 : decode cX8_prefers 31 = .ok (.iload_n 2, 1) := by decide +kernel
theorem dX8_prefers_32 : decode cX8_prefers 32 = .ok (.iand, 1) := by decide +kernel
theorem dX8_prefers_33 : decode cX8_prefers 33 = .ok (.aload_n 0, 1) := by decide +kernel
theorem dX8_prefers_34 : decode cX8_prefers 34 = .ok (.getfield 19, 3) := by decide +kernel
theorem dX8_prefers_37 : decode cX8_prefers 37 = .ok (.iload_n 1, 1) := by decide +kernel
theorem dX8_prefers_38 : decode cX8_prefers 38 = .ok (.iaload, 1) := by decide +kernel
theorem dX8_prefers_39 : decode cX8_prefers 39 = .ok (.iload_n 2, 1) := by decide +kernel
theorem dX8_prefers_40 : decode cX8_prefers 40 = .ok (.iand, 1) := by decide +kernel
theorem dX8_prefers_41 : decode cX8_prefers 41 = .ok (.if_icmp .ne 20, 3) := by decide +kernel
theorem dX8_prefers_44 : decode cX8_prefers 44 = .ok (.aload_n 0, 1) := by decide +kernel
theorem dX8_prefers_45 : decode cX8_prefers 45 = .ok (.getfield 22, 3) := by decide +kernel
theorem dX8_prefers_48 : decode cX8_prefers 48 = .ok (.iload 4, 2) := by decide +kernel
theorem dX8_prefers_50 : decode cX8_prefers 50 = .ok (.daload, 1) := by decide +kernel
theorem dX8_prefers_51 : decode cX8_prefers 51 = .ok (.aload_n 0, 1) := by decide +kernel
theorem dX8_prefers_52 : decode cX8_prefers 52 = .ok (.getfield 22, 3) := by decide +kernel
theorem dX8_prefers_55 : decode cX8_prefers 55 = .ok (.iload_n 1, 1) := by decide +kernel
theorem dX8_prefers_56 : decode cX8_prefers 56 = .ok (.daload, 1) := by decide +kernel
theorem dX8_prefers_57 : decode cX8_prefers 57 = .ok (.dcmp .g, 1) := by decide +kernel
theorem dX8_prefers_58 : decode cX8_prefers 58 = .ok (.ifCond .ge 7, 3) := by decide +kernel
theorem dX8_prefers_61 : decode cX8_prefers 61 = .ok (.iconst 1, 1) := by decide +kernel
theorem dX8_prefers_62 : decode cX8_prefers 62 = .ok (.goto 4, 3) := by decide +kernel
theorem dX8_prefers_65 : decode cX8_prefers 65 = .ok (.iconst 0, 1) := by decide +kernel
theorem dX8_prefers_66 : decode cX8_prefers 66 = .ok (.istore_n 3, 1) := by decide +kernel
theorem dX8_prefers_67 : decode cX8_prefers 67 = .ok (.iinc 4 1, 3) := by decide +kernel
theorem dX8_prefers_70 : decode cX8_prefers 70 = .ok (.goto (-65), 3) := by decide +kernel
theorem dX8_prefers_73 : decode cX8_prefers 73 = .ok (.iload_n 3, 1) := by decide +kernel
theorem dX8_prefers_74 : decode cX8_prefers 74 = .ok (.ireturn, 1) := by decide +kernel
set_option maxRecDepth 20000 in
theorem ggX8_preferenceSet_X8_isConcept : GoodIn wsX8_preferenceSet wsX8_isConcept := goodIn_r _ [7, 8, 9, 10, 6, 11, 18, 19, 20, 21, 22, 23, 24, 25, 26, 27, 28, 29, 30, 31, 32, 33, 34, 35, 36, 37, 38, 39] (by decide +kernel) (by decide +kernel)
set_option maxRecDepth 20000 in
theorem gX8_preferenceSet_X8_isConcept : GoodIn wsX8_preferenceSet (wsV RX8 93 RX8 yX8_isConcept wsX8_isConcept) := goodIn_app (goodIn_of _ (by decide +kernel)) ggX8_preferenceSet_X8_isConcept
set_option maxRecDepth 20000 in
theorem ggX8_preferenceSet_X8_prefers : GoodIn wsX8_preferenceSet wsX8_prefers := goodIn_r _ [15, 8, 16, 17, 18, 19, 20, 21, 22, 23, 24, 25, 26, 27, 28, 29, 30, 31, 32, 33, 34, 35, 36, 37, 38, 39] (by decide +kernel) (by decide +kernel)
set_option maxRecDepth 20000 in
theorem gX8_preferenceSet_X8_prefers : GoodIn wsX8_preferenceSet (wsV RX8 118 RX8 yX8_prefers wsX8_prefers) := goodIn_app (goodIn_of _ (by decide +kernel)) ggX8_preferenceSet_X8_prefers
theorem dX8_preferenceSet_0 : decode cX8_preferenceSet 0 = .ok (.aload_n 0, 1) := by decide +kernel
theorem dX8_preferenceSet_1 : decode cX8_preferenceSet 1 = .ok (.iload_n 1, 1) := by decide +kernel
theorem dX8_preferenceSet_2 : decode cX8_preferenceSet 2 = .ok (.invokevirtual 93, 3) := by decide +kernel
theorem dX8_preferenceSet_5 : decode cX8_preferenceSet 5 = .ok (.ifCond .ne 6, 3) := by decide +kernel
theorem dX8_preferenceSet_8 : decode cX8_preferenceSet 8 = .ok (.bipush (-2), 2) := by decide +kernel
theorem dX8_preferenceSet_10 : decode cX8_preferenceSet 10 = .ok (.ireturn, 1) := by decide +kernel
theorem dX8_preferenceSet_11 : decode cX8_preferenceSet 11 = .ok (.iconst 0, 1) := by decide +kernel
theorem dX8_preferenceSet_12 : decode cX8_preferenceSet 12 = .ok (.istore_n 2, 1) := by decide +kernel
theorem dX8_preferenceSet_13 : decode cX8_preferenceSet 13 = .ok (.iload_n 2, 1) := by decide +kernel
theorem dX8_preferenceSet_14 : decode cX8_preferenceSet 14 = .ok (.sipush 256, 3) := by decide +kernel
theorem dX8_preferenceSet_17 : decode cX8_preferenceSet 17 = .ok (.if_icmp .ge 45, 3) := by decide +kernel
theorem dX8_preferenceSet_20 : decode cX8_preferenceSet 20 = .ok (.aload_n 0, 1) := by decide +kernel
theorem dX8_preferenceSet_21 : decode cX8_preferenceSet 21 = .ok (.getfield 15, 3) := by decide +kernel
theorem dX8_preferenceSet_24 : decode cX8_preferenceSet 24 = .ok (.iload_n 2, 1) := by decide +kernel
theorem dX8_preferenceSet_25 : decode cX8_preferenceSet 25 = .ok (.iaload, 1) := by decide +kernel
theorem dX8_preferenceSet_26 : decode cX8_preferenceSet 26 = .ok (.iconst 1, 1) := by decide +kernel
theorem dX8_preferenceSet_27 : decode cX8_preferenceSet 27 = .ok (.aload_n 0, 1) := by decide +kernel
theorem dX8_preferenceSet_28 : decode cX8_preferenceSet 28 = .ok (.getfield 9, 3) := by decide +kernel
theorem dX8_preferenceSet_31 : decode cX8_preferenceSet 31 = .ok (.ishl, 1) := by decide +kernel
theorem dX8_preferenceSet_32 : decode cX8_preferenceSet 32 = .ok (.if_icmp .ge 24, 3) := by decide +kernel
theorem dX8_preferenceSet_35 : decode cX8_preferenceSet 35 = .ok (.aload_n 0, 1) := by decide +kernel
theorem dX8_preferenceSet_36 : decode cX8_preferenceSet 36 = .ok (.iload_n 1, 1) := by decide +kernel
theorem dX8_preferenceSet_37 : decode cX8_preferenceSet 37 = .ok (.aload_n 0, 1) := by decide +kernel
theorem dX8_preferenceSet_38 : decode cX8_preferenceSet 38 = .ok (.getfield 15, 3) := by decide +kernel
theorem dX8_preferenceSet_41 : decode cX8_preferenceSet 41 = .ok (.iload_n 2, 1) := by decide +kernel
theorem dX8_preferenceSet_42 : decode cX8_preferenceSet 42 = .ok (.iaload, 1) := by decide +kernel
theorem dX8_preferenceSet_43 : decode cX8_preferenceSet 43 = .ok (.invokevirtual 118, 3) := by decide +kernel
theorem dX8_preferenceSet_46 : decode cX8_preferenceSet 46 = .ok (.ifCond .eq 10, 3) := by decide +kernel
theorem dX8_preferenceSet_49 : decode cX8_preferenceSet 49 = .ok (.aload_n 0, 1) := by decide +kernel
theorem dX8_preferenceSet_50 : decode cX8_preferenceSet 50 = .ok (.getfield 15, 3) := by decide +kernel
theorem dX8_preferenceSet_53 : decode cX8_preferenceSet 53 = .ok (.iload_n 2, 1) := by decide +kernel
theorem dX8_preferenceSet_54 : decode cX8_preferenceSet 54 = .ok (.iaload, 1) := by decide +kernel
theorem dX8_preferenceSet_55 : decode cX8_preferenceSet 55 = .ok (.ireturn, 1) := by decide +kernel
theorem dX8_preferenceSet_56 : decode cX8_preferenceSet 56 = .ok (.iinc 2 1, 3) := by decide +kernel
theorem dX8_preferenceSet_59 : decode cX8_preferenceSet 59 = .ok (.goto (-46), 3) := by decide +kernel
theorem dX8_preferenceSet_62 : decode cX8_preferenceSet 62 = .ok (.iconst 1, 1) := by decide +kernel
theorem dX8_preferenceSet_63 : decode cX8_preferenceSet 63 = .ok (.aload_n 0, 1) := by decide +kernel
theorem dX8_preferenceSet_64 : decode cX8_preferenceSet 64 = .ok (.getfield 9, 3) := by decide +kernel
theorem dX8_preferenceSet_67 : decode cX8_preferenceSet 67 = .ok (.ishl, 1) := by decide +kernel
theorem dX8_preferenceSet_68 : decode cX8_preferenceSet 68 = .ok (.iconst 1, 1) := by decide +kernel
theorem dX8_preferenceSet_69 : decode cX8_preferenceSet 69 = .ok (.isub, 1) := by decide +kernel
theorem dX8_preferenceSet_70 : decode cX8_preferenceSet 70 = .ok (.ireturn, 1) := by decide +kernel
theorem dX8_tracesOn_0 : decode cX8_tracesOn 0 = .ok (.iconst 0, 1) := by decide +kernel
theorem dX8_tracesOn_1 : decode cX8_tracesOn 1 = .ok (.istore_n 2, 1) := by decide +kernel
theorem dX8_tracesOn_2 : decode cX8_tracesOn 2 = .ok (.iconst 0, 1) := by decide +kernel
theorem dX8_tracesOn_3 : decode cX8_tracesOn 3 = .ok (.istore_n 3, 1) := by decide +kernel
theorem dX8_tracesOn_4 : decode cX8_tracesOn 4 = .ok (.iload_n 3, 1) := by decide +kernel
theorem dX8_tracesOn_5 : decode cX8_tracesOn 5 = .ok (.aload_n 0, 1) := by decide +kernel
theorem dX8_tracesOn_6 : decode cX8_tracesOn 6 = .ok (.getfield 67, 3) := by decide +kernel
theorem dX8_tracesOn_9 : decode cX8_tracesOn 9 = .ok (.if_icmp .ge 72, 3) := by decide +kernel
theorem dX8_tracesOn_12 : decode cX8_tracesOn 12 = .ok (.iconst 1, 1) := by decide +kernel
theorem dX8_tracesOn_13 : decode cX8_tracesOn 13 = .ok (.istore 4, 2) := by decide +kernel
theorem dX8_tracesOn_15 : decode cX8_tracesOn 15 = .ok (.iconst 0, 1) := by decide +kernel
theorem dX8_tracesOn_16 : decode cX8_tracesOn 16 = .ok (.istore 5, 2) := by decide +kernel
theorem dX8_tracesOn_18 : decode cX8_tracesOn 18 = .ok (.iload 5, 2) := by decide +kernel
theorem dX8_tracesOn_20 : decode cX8_tracesOn 20 = .ok (.iload_n 3, 1) := by decide +kernel
theorem dX8_tracesOn_21 : decode cX8_tracesOn 21 = .ok (.if_icmp .ge 41, 3) := by decide +kernel
theorem dX8_tracesOn_24 : decode cX8_tracesOn 24 = .ok (.iload 4, 2) := by decide +kernel
theorem dX8_tracesOn_26 : decode cX8_tracesOn 26 = .ok (.ifCond .eq 27, 3) := by decide +kernel
theorem dX8_tracesOn_29 : decode cX8_tracesOn 29 = .ok (.aload_n 0, 1) := by decide +kernel
theorem dX8_tracesOn_30 : decode cX8_tracesOn 30 = .ok (.getfield 19, 3) := by decide +kernel
theorem dX8_tracesOn_33 : decode cX8_tracesOn 33 = .ok (.iload 5, 2) := by decide +kernel
theorem dX8_tracesOn_35 : decode cX8_tracesOn 35 = .ok (.iaload, 1) := by decide +kernel
theorem dX8_tracesOn_36 : decode cX8_tracesOn 36 = .ok (.iload_n 1, 1) := by decide +kernel
theorem dX8_tracesOn_37 : decode cX8_tracesOn 37 = .ok (.iand, 1) := by decide +kernel
theorem dX8_tracesOn_38 : decode cX8_tracesOn 38 = .ok (.aload_n 0, 1) := by decide +kernel
theorem dX8_tracesOn_39 : decode cX8_tracesOn 39 = .ok (.getfield 19, 3) := by decide +kernel
theorem dX8_tracesOn_42 : decode cX8_tracesOn 42 = .ok (.iload_n 3, 1) := by decide +kernel
theorem dX8_tracesOn_43 : decode cX8_tracesOn 43 = .ok (.iaload, 1) := by decide +kernel
theorem dX8_tracesOn_44 : decode cX8_tracesOn 44 = .ok (.iload_n 1, 1) := by decide +kernel
theorem dX8_tracesOn_45 : decode cX8_tracesOn 45 = .ok (.iand, 1) := by decide +kernel
theorem dX8_tracesOn_46 : decode cX8_tracesOn 46 = .ok (.if_icmp .eq 7, 3) := by decide +kernel
theorem dX8_tracesOn_49 : decode cX8_tracesOn 49 = .ok (.iconst 1, 1) := by decide +kernel
theorem dX8_tracesOn_50 : decode cX8_tracesOn 50 = .ok (.goto 4, 3) := by decide +kernel
theorem dX8_tracesOn_53 : decode cX8_tracesOn 53 = .ok (.iconst 0, 1) := by decide +kernel
theorem dX8_tracesOn_54 : decode cX8_tracesOn 54 = .ok (.istore 4, 2) := by decide +kernel
theorem dX8_tracesOn_56 : decode cX8_tracesOn 56 = .ok (.iinc 5 1, 3) := by decide +kernel
theorem dX8_tracesOn_59 : decode cX8_tracesOn 59 = .ok (.goto (-41), 3) := by decide +kernel
theorem dX8_tracesOn_62 : decode cX8_tracesOn 62 = .ok (.iload_n 2, 1) := by decide +kernel
theorem dX8_tracesOn_63 : decode cX8_tracesOn 63 = .ok (.iload 4, 2) := by decide +kernel
theorem dX8_tracesOn_65 : decode cX8_tracesOn 65 = .ok (.ifCond .eq 7, 3) := by decide +kernel
theorem dX8_tracesOn_68 : decode cX8_tracesOn 68 = .ok (.iconst 1, 1) := by decide +kernel
theorem dX8_tracesOn_69 : decode cX8_tracesOn 69 = .ok (.goto 4, 3) := by decide +kernel
theorem dX8_tracesOn_72 : decode cX8_tracesOn 72 = .ok (.iconst 0, 1) := by decide +kernel
theorem dX8_tracesOn_73 : decode cX8_tracesOn 73 = .ok (.iadd, 1) := by decide +kernel
theorem dX8_tracesOn_74 : decode cX8_tracesOn 74 = .ok (.istore_n 2, 1) := by decide +kernel
theorem dX8_tracesOn_75 : decode cX8_tracesOn 75 = .ok (.iinc 3 1, 3) := by decide +kernel
theorem dX8_tracesOn_78 : decode cX8_tracesOn 78 = .ok (.goto (-74), 3) := by decide +kernel
theorem dX8_tracesOn_81 : decode cX8_tracesOn 81 = .ok (.iload_n 2, 1) := by decide +kernel
theorem dX8_tracesOn_82 : decode cX8_tracesOn 82 = .ok (.ireturn, 1) := by decide +kernel
set_option maxRecDepth 20000 in
theorem ggX8_traceCount_X8_isSet : GoodIn wsX8_traceCount wsX8_isSet := goodIn_r _ [5, 6, 7, 8, 4, 9, 16, 17, 18, 19, 20, 21, 22, 23, 24, 25, 26, 27, 28, 29, 30, 31, 32, 33, 34, 35, 36, 37] (by decide +kernel) (by decide +kernel)
set_option maxRecDepth 20000 in
theorem gX8_traceCount_X8_isSet : GoodIn wsX8_traceCount (wsV RX8 83 RX8 yX8_isSet wsX8_isSet) := goodIn_app (goodIn_of _ (by decide +kernel)) ggX8_traceCount_X8_isSet
set_option maxRecDepth 20000 in
theorem ggX8_traceCount_X8_tracesOn : GoodIn wsX8_traceCount wsX8_tracesOn := goodIn_r _ [13, 14, 15, 16, 17, 18, 19, 20, 21, 22, 23, 24, 25, 26, 27, 28, 29, 30, 31, 32, 33, 34, 35, 36, 37] (by decide +kernel) (by decide +kernel)
set_option maxRecDepth 20000 in
theorem gX8_traceCount_X8_tracesOn : GoodIn wsX8_traceCount (wsV RX8 121 RX8 yX8_tracesOn wsX8_tracesOn) := goodIn_app (goodIn_of _ (by decide +kernel)) ggX8_traceCount_X8_tracesOn
theorem dX8_traceCount_0 : decode cX8_traceCount 0 = .ok (.aload_n 0, 1) := by decide +kernel
theorem dX8_traceCount_1 : decode cX8_traceCount 1 = .ok (.iload_n 1, 1) := by decide +kernel
theorem dX8_traceCount_2 : decode cX8_traceCount 2 = .ok (.invokevirtual 83, 3) := by decide +kernel
theorem dX8_traceCount_5 : decode cX8_traceCount 5 = .ok (.ifCond .eq 11, 3) := by decide +kernel
theorem dX8_traceCount_8 : decode cX8_traceCount 8 = .ok (.aload_n 0, 1) := by decide +kernel
theorem dX8_traceCount_9 : decode cX8_traceCount 9 = .ok (.iload_n 1, 1) := by decide +kernel
theorem dX8_traceCount_10 : decode cX8_traceCount 10 = .ok (.invokevirtual 121, 3) := by decide +kernel
theorem dX8_traceCount_13 : decode cX8_traceCount 13 = .ok (.goto 4, 3) := by decide +kernel
theorem dX8_traceCount_16 : decode cX8_traceCount 16 = .ok (.iconst (-1), 1) := by decide +kernel
theorem dX8_traceCount_17 : decode cX8_traceCount 17 = .ok (.ireturn, 1) := by decide +kernel
set_option maxRecDepth 20000 in
theorem ggX8_isShattered_X8_tracesOn : GoodIn wsX8_isShattered wsX8_tracesOn := goodIn_r _ [5, 6, 7, 11, 12, 13, 14, 15, 16, 17, 18, 19, 20, 21, 22, 23, 24, 25, 26, 27, 28, 29, 30, 31, 32] (by decide +kernel) (by decide +kernel)
set_option maxRecDepth 20000 in
theorem gX8_isShattered_X8_tracesOn : GoodIn wsX8_isShattered (wsV RX8 121 RX8 yX8_tracesOn wsX8_tracesOn) := goodIn_app (goodIn_of _ (by decide +kernel)) ggX8_isShattered_X8_tracesOn
set_option maxRecDepth 20000 in
theorem ggX8_isShattered_X8_sizeOf : GoodIn wsX8_isShattered wsX8_sizeOf := goodIn_r _ [10] (by decide +kernel) (by decide +kernel)
set_option maxRecDepth 20000 in
theorem gX8_isShattered_X8_sizeOf : GoodIn wsX8_isShattered (va_wsS RX8 63 yX8_sizeOf wsX8_sizeOf) := goodIn_app (goodIn_of _ (by decide +kernel)) ggX8_isShattered_X8_sizeOf
theorem dX8_isShattered_0 : decode cX8_isShattered 0 = .ok (.aload_n 0, 1) := by decide +kernel
theorem dX8_isShattered_1 : decode cX8_isShattered 1 = .ok (.iload_n 1, 1) := by decide +kernel
theorem dX8_isShattered_2 : decode cX8_isShattered 2 = .ok (.invokevirtual 121, 3) := by decide +kernel
theorem dX8_isShattered_5 : decode cX8_isShattered 5 = .ok (.iconst 1, 1) := by decide +kernel
theorem dX8_isShattered_6 : decode cX8_isShattered 6 = .ok (.iload_n 1, 1) := by decide +kernel
theorem dX8_isShattered_7 : decode cX8_isShattered 7 = .ok (.invokestatic 63, 3) := by decide +kernel
theorem dX8_isShattered_10 : decode cX8_isShattered 10 = .ok (.ishl, 1) := by decide +kernel
theorem dX8_isShattered_11 : decode cX8_isShattered 11 = .ok (.if_icmp .ne 7, 3) := by decide +kernel
theorem dX8_isShattered_14 : decode cX8_isShattered 14 = .ok (.iconst 1, 1) := by decide +kernel
theorem dX8_isShattered_15 : decode cX8_isShattered 15 = .ok (.goto 4, 3) := by decide +kernel
theorem dX8_isShattered_18 : decode cX8_isShattered 18 = .ok (.iconst 0, 1) := by decide +kernel
theorem dX8_isShattered_19 : decode cX8_isShattered 19 = .ok (.ireturn, 1) := by decide +kernel
set_option maxRecDepth 20000 in
theorem ggX8_dimension_X8_sizeOf : GoodIn wsX8_dimension wsX8_sizeOf := goodIn_r _ [5] (by decide +kernel) (by decide +kernel)
set_option maxRecDepth 20000 in
theorem gX8_dimension_X8_sizeOf : GoodIn wsX8_dimension (va_wsS RX8 63 yX8_sizeOf wsX8_sizeOf) := goodIn_app (goodIn_of _ (by decide +kernel)) ggX8_dimension_X8_sizeOf
set_option maxRecDepth 20000 in
theorem ggX8_dimension_X8_isShattered : GoodIn wsX8_dimension wsX8_isShattered := goodIn_r _ [9, 10, 11, 12, 4, 13, 14, 15, 2, 3, 5, 16, 17, 18, 19, 20, 21, 22, 23, 24, 25, 26, 27, 28, 29, 30, 31, 32, 33, 34, 35, 36, 37] (by decide +kernel) (by decide +kernel)
set_option maxRecDepth 20000 in
theorem gX8_dimension_X8_isShattered : GoodIn wsX8_dimension (wsV RX8 124 RX8 yX8_isShattered wsX8_isShattered) := goodIn_app (goodIn_of _ (by decide +kernel)) ggX8_dimension_X8_isShattered
theorem dX8_dimension_0 : decode cX8_dimension 0 = .ok (.iconst (-1), 1) := by decide +kernel
theorem dX8_dimension_1 : decode cX8_dimension 1 = .ok (.istore_n 1, 1) := by decide +kernel
theorem dX8_dimension_2 : decode cX8_dimension 2 = .ok (.iconst 0, 1) := by decide +kernel
theorem dX8_dimension_3 : decode cX8_dimension 3 = .ok (.istore_n 2, 1) := by decide +kernel
theorem dX8_dimension_4 : decode cX8_dimension 4 = .ok (.iload_n 2, 1) := by decide +kernel
theorem dX8_dimension_5 : decode cX8_dimension 5 = .ok (.iconst 1, 1) := by decide +kernel
theorem dX8_dimension_6 : decode cX8_dimension 6 = .ok (.aload_n 0, 1) := by decide +kernel
theorem dX8_dimension_7 : decode cX8_dimension 7 = .ok (.getfield 9, 3) := by decide +kernel
theorem dX8_dimension_10 : decode cX8_dimension 10 = .ok (.ishl, 1) := by decide +kernel
theorem dX8_dimension_11 : decode cX8_dimension 11 = .ok (.if_icmp .ge 33, 3) := by decide +kernel
theorem dX8_dimension_14 : decode cX8_dimension 14 = .ok (.iload_n 2, 1) := by decide +kernel
theorem dX8_dimension_15 : decode cX8_dimension 15 = .ok (.invokestatic 63, 3) := by decide +kernel
theorem dX8_dimension_18 : decode cX8_dimension 18 = .ok (.istore_n 3, 1) := by decide +kernel
theorem dX8_dimension_19 : decode cX8_dimension 19 = .ok (.iload_n 3, 1) := by decide +kernel
theorem dX8_dimension_20 : decode cX8_dimension 20 = .ok (.iload_n 1, 1) := by decide +kernel
theorem dX8_dimension_21 : decode cX8_dimension 21 = .ok (.if_icmp .le 15, 3) := by decide +kernel
theorem dX8_dimension_24 : decode cX8_dimension 24 = .ok (.aload_n 0, 1) := by decide +kernel
theorem dX8_dimension_25 : decode cX8_dimension 25 = .ok (.iload_n 2, 1) := by decide +kernel
theorem dX8_dimension_26 : decode cX8_dimension 26 = .ok (.invokevirtual 124, 3) := by decide +kernel
theorem dX8_dimension_29 : decode cX8_dimension 29 = .ok (.ifCond .eq 7, 3) := by decide +kernel
theorem dX8_dimension_32 : decode cX8_dimension 32 = .ok (.iload_n 3, 1) := by decide +kernel
theorem dX8_dimension_33 : decode cX8_dimension 33 = .ok (.goto 4, 3) := by decide +kernel
theorem dX8_dimension_36 : decode cX8_dimension 36 = .ok (.iload_n 1, 1) := by decide +kernel
theorem dX8_dimension_37 : decode cX8_dimension 37 = .ok (.istore_n 1, 1) := by decide +kernel
theorem dX8_dimension_38 : decode cX8_dimension 38 = .ok (.iinc 2 1, 3) := by decide +kernel
theorem dX8_dimension_41 : decode cX8_dimension 41 = .ok (.goto (-37), 3) := by decide +kernel
theorem dX8_dimension_44 : decode cX8_dimension 44 = .ok (.iload_n 1, 1) := by decide +kernel
theorem dX8_dimension_45 : decode cX8_dimension 45 = .ok (.ireturn, 1) := by decide +kernel
set_option maxRecDepth 20000 in
theorem ggX8_shatteredSet_X8_in : GoodIn wsX8_shatteredSet wsX8_in := goodIn_r _ [5] (by decide +kernel) (by decide +kernel)
set_option maxRecDepth 20000 in
theorem gX8_shatteredSet_X8_in : GoodIn wsX8_shatteredSet (va_wsS RX8 70 yX8_in wsX8_in) := goodIn_app (goodIn_of _ (by decide +kernel)) ggX8_shatteredSet_X8_in
set_option maxRecDepth 20000 in
theorem ggX8_shatteredSet_X8_sizeOf : GoodIn wsX8_shatteredSet wsX8_sizeOf := goodIn_r _ [8] (by decide +kernel) (by decide +kernel)
set_option maxRecDepth 20000 in
theorem gX8_shatteredSet_X8_sizeOf : GoodIn wsX8_shatteredSet (va_wsS RX8 63 yX8_sizeOf wsX8_sizeOf) := goodIn_app (goodIn_of _ (by decide +kernel)) ggX8_shatteredSet_X8_sizeOf
set_option maxRecDepth 20000 in
theorem ggX8_shatteredSet_X8_isShattered : GoodIn wsX8_shatteredSet wsX8_isShattered := goodIn_r _ [12, 13, 14, 15, 4, 16, 17, 18, 6, 7, 8, 19, 20, 21, 22, 23, 24, 25, 26, 27, 28, 29, 30, 31, 32, 33, 34, 35, 36, 37, 38, 39, 40] (by decide +kernel) (by decide +kernel)
set_option maxRecDepth 20000 in
theorem gX8_shatteredSet_X8_isShattered : GoodIn wsX8_shatteredSet (wsV RX8 124 RX8 yX8_isShattered wsX8_isShattered) := goodIn_app (goodIn_of _ (by decide +kernel)) ggX8_shatteredSet_X8_isShattered
theorem dX8_shatteredSet_0 : decode cX8_shatteredSet 0 = .ok (.iload_n 1, 1) := by decide +kernel
theorem dX8_shatteredSet_1 : decode cX8_shatteredSet 1 = .ok (.i2l, 1) := by decide +kernel
theorem dX8_shatteredSet_2 : decode cX8_shatteredSet 2 = .ok (.lconst 0, 1) := by decide +kernel
theorem dX8_shatteredSet_3 : decode cX8_shatteredSet 3 = .ok (.aload_n 0, 1) := by decide +kernel
theorem dX8_shatteredSet_4 : decode cX8_shatteredSet 4 = .ok (.getfield 9, 3) := by decide +kernel
theorem dX8_shatteredSet_7 : decode cX8_shatteredSet 7 = .ok (.i2l, 1) := by decide +kernel
theorem dX8_shatteredSet_8 : decode cX8_shatteredSet 8 = .ok (.invokestatic 70, 3) := by decide +kernel
theorem dX8_shatteredSet_11 : decode cX8_shatteredSet 11 = .ok (.ifCond .ne 5, 3) := by decide +kernel
theorem dX8_shatteredSet_14 : decode cX8_shatteredSet 14 = .ok (.iconst (-1), 1) := by decide +kernel
theorem dX8_shatteredSet_15 : decode cX8_shatteredSet 15 = .ok (.ireturn, 1) := by decide +kernel
theorem dX8_shatteredSet_16 : decode cX8_shatteredSet 16 = .ok (.iconst 0, 1) := by decide +kernel
theorem dX8_shatteredSet_17 : decode cX8_shatteredSet 17 = .ok (.istore_n 2, 1) := by decide +kernel
theorem dX8_shatteredSet_18 : decode cX8_shatteredSet 18 = .ok (.iload_n 2, 1) := by decide +kernel
theorem dX8_shatteredSet_19 : decode cX8_shatteredSet 19 = .ok (.iconst 1, 1) := by decide +kernel
theorem dX8_shatteredSet_20 : decode cX8_shatteredSet 20 = .ok (.aload_n 0, 1) := by decide +kernel
theorem dX8_shatteredSet_21 : decode cX8_shatteredSet 21 = .ok (.getfield 9, 3) := by decide +kernel
theorem dX8_shatteredSet_24 : decode cX8_shatteredSet 24 = .ok (.ishl, 1) := by decide +kernel
theorem dX8_shatteredSet_25 : decode cX8_shatteredSet 25 = .ok (.if_icmp .ge 27, 3) := by decide +kernel
theorem dX8_shatteredSet_28 : decode cX8_shatteredSet 28 = .ok (.iload_n 2, 1) := by decide +kernel
theorem dX8_shatteredSet_29 : decode cX8_shatteredSet 29 = .ok (.invokestatic 63, 3) := by decide +kernel
theorem dX8_shatteredSet_32 : decode cX8_shatteredSet 32 = .ok (.iload_n 1, 1) := by decide +kernel
theorem dX8_shatteredSet_33 : decode cX8_shatteredSet 33 = .ok (.if_icmp .ne 13, 3) := by decide +kernel
theorem dX8_shatteredSet_36 : decode cX8_shatteredSet 36 = .ok (.aload_n 0, 1) := by decide +kernel
theorem dX8_shatteredSet_37 : decode cX8_shatteredSet 37 = .ok (.iload_n 2, 1) := by decide +kernel
theorem dX8_shatteredSet_38 : decode cX8_shatteredSet 38 = .ok (.invokevirtual 124, 3) := by decide +kernel
theorem dX8_shatteredSet_41 : decode cX8_shatteredSet 41 = .ok (.ifCond .eq 5, 3) := by decide +kernel
theorem dX8_shatteredSet_44 : decode cX8_shatteredSet 44 = .ok (.iload_n 2, 1) := by decide +kernel
theorem dX8_shatteredSet_45 : decode cX8_shatteredSet 45 = .ok (.ireturn, 1) := by decide +kernel
theorem dX8_shatteredSet_46 : decode cX8_shatteredSet 46 = .ok (.iinc 2 1, 3) := by decide +kernel
theorem dX8_shatteredSet_49 : decode cX8_shatteredSet 49 = .ok (.goto (-31), 3) := by decide +kernel
theorem dX8_shatteredSet_52 : decode cX8_shatteredSet 52 = .ok (.bipush (-6), 2) := by decide +kernel
theorem dX8_shatteredSet_54 : decode cX8_shatteredSet 54 = .ok (.ireturn, 1) := by decide +kernel
set_option maxRecDepth 20000 in
theorem ggX8_shatteredCount_X8_in : GoodIn wsX8_shatteredCount wsX8_in := goodIn_r _ [5] (by decide +kernel) (by decide +kernel)
set_option maxRecDepth 20000 in
theorem gX8_shatteredCount_X8_in : GoodIn wsX8_shatteredCount (va_wsS RX8 70 yX8_in wsX8_in) := goodIn_app (goodIn_of _ (by decide +kernel)) ggX8_shatteredCount_X8_in
set_option maxRecDepth 20000 in
theorem ggX8_shatteredCount_X8_sizeOf : GoodIn wsX8_shatteredCount wsX8_sizeOf := goodIn_r _ [8] (by decide +kernel) (by decide +kernel)
set_option maxRecDepth 20000 in
theorem gX8_shatteredCount_X8_sizeOf : GoodIn wsX8_shatteredCount (va_wsS RX8 63 yX8_sizeOf wsX8_sizeOf) := goodIn_app (goodIn_of _ (by decide +kernel)) ggX8_shatteredCount_X8_sizeOf
set_option maxRecDepth 20000 in
theorem ggX8_shatteredCount_X8_isShattered : GoodIn wsX8_shatteredCount wsX8_isShattered := goodIn_r _ [12, 13, 14, 15, 4, 16, 17, 18, 6, 7, 8, 19, 20, 21, 22, 23, 24, 25, 26, 27, 28, 29, 30, 31, 32, 33, 34, 35, 36, 37, 38, 39, 40] (by decide +kernel) (by decide +kernel)
set_option maxRecDepth 20000 in
theorem gX8_shatteredCount_X8_isShattered : GoodIn wsX8_shatteredCount (wsV RX8 124 RX8 yX8_isShattered wsX8_isShattered) := goodIn_app (goodIn_of _ (by decide +kernel)) ggX8_shatteredCount_X8_isShattered
theorem dX8_shatteredCount_0 : decode cX8_shatteredCount 0 = .ok (.iload_n 1, 1) := by decide +kernel
theorem dX8_shatteredCount_1 : decode cX8_shatteredCount 1 = .ok (.i2l, 1) := by decide +kernel
theorem dX8_shatteredCount_2 : decode cX8_shatteredCount 2 = .ok (.lconst 0, 1) := by decide +kernel
theorem dX8_shatteredCount_3 : decode cX8_shatteredCount 3 = .ok (.aload_n 0, 1) := by decide +kernel
theorem dX8_shatteredCount_4 : decode cX8_shatteredCount 4 = .ok (.getfield 9, 3) := by decide +kernel
theorem dX8_shatteredCount_7 : decode cX8_shatteredCount 7 = .ok (.i2l, 1) := by decide +kernel
theorem dX8_shatteredCount_8 : decode cX8_shatteredCount 8 = .ok (.invokestatic 70, 3) := by decide +kernel
theorem dX8_shatteredCount_11 : decode cX8_shatteredCount 11 = .ok (.ifCond .ne 5, 3) := by decide +kernel
theorem dX8_shatteredCount_14 : decode cX8_shatteredCount 14 = .ok (.iconst (-1), 1) := by decide +kernel
theorem dX8_shatteredCount_15 : decode cX8_shatteredCount 15 = .ok (.ireturn, 1) := by decide +kernel
theorem dX8_shatteredCount_16 : decode cX8_shatteredCount 16 = .ok (.iconst 0, 1) := by decide +kernel
theorem dX8_shatteredCount_17 : decode cX8_shatteredCount 17 = .ok (.istore_n 2, 1) := by decide +kernel
theorem dX8_shatteredCount_18 : decode cX8_shatteredCount 18 = .ok (.iconst 0, 1) := by decide +kernel
theorem dX8_shatteredCount_19 : decode cX8_shatteredCount 19 = .ok (.istore_n 3, 1) := by decide +kernel
theorem dX8_shatteredCount_20 : decode cX8_shatteredCount 20 = .ok (.iload_n 3, 1) := by decide +kernel
theorem dX8_shatteredCount_21 : decode cX8_shatteredCount 21 = .ok (.iconst 1, 1) := by decide +kernel
theorem dX8_shatteredCount_22 : decode cX8_shatteredCount 22 = .ok (.aload_n 0, 1) := by decide +kernel
theorem dX8_shatteredCount_23 : decode cX8_shatteredCount 23 = .ok (.getfield 9, 3) := by decide +kernel
theorem dX8_shatteredCount_26 : decode cX8_shatteredCount 26 = .ok (.ishl, 1) := by decide +kernel
theorem dX8_shatteredCount_27 : decode cX8_shatteredCount 27 = .ok (.if_icmp .ge 33, 3) := by decide +kernel
theorem dX8_shatteredCount_30 : decode cX8_shatteredCount 30 = .ok (.iload_n 2, 1) := by decide +kernel
theorem dX8_shatteredCount_31 : decode cX8_shatteredCount 31 = .ok (.iload_n 3, 1) := by decide +kernel
theorem dX8_shatteredCount_32 : decode cX8_shatteredCount 32 = .ok (.invokestatic 63, 3) := by decide +kernel
theorem dX8_shatteredCount_35 : decode cX8_shatteredCount 35 = .ok (.iload_n 1, 1) := by decide +kernel
theorem dX8_shatteredCount_36 : decode cX8_shatteredCount 36 = .ok (.if_icmp .ne 15, 3) := by decide +kernel
theorem dX8_shatteredCount_39 : decode cX8_shatteredCount 39 = .ok (.aload_n 0, 1) := by decide +kernel
theorem dX8_shatteredCount_40 : decode cX8_shatteredCount 40 = .ok (.iload_n 3, 1) := by decide +kernel
theorem dX8_shatteredCount_41 : decode cX8_shatteredCount 41 = .ok (.invokevirtual 124, 3) := by decide +kernel
theorem dX8_shatteredCount_44 : decode cX8_shatteredCount 44 = .ok (.ifCond .eq 7, 3) := by decide +kernel
theorem dX8_shatteredCount_47 : decode cX8_shatteredCount 47 = .ok (.iconst 1, 1) := by decide +kernel
theorem dX8_shatteredCount_48 : decode cX8_shatteredCount 48 = .ok (.goto 4, 3) := by decide +kernel
theorem dX8_shatteredCount_51 : decode cX8_shatteredCount 51 = .ok (.iconst 0, 1) := by decide +kernel
theorem dX8_shatteredCount_52 : decode cX8_shatteredCount 52 = .ok (.iadd, 1) := by decide +kernel
theorem dX8_shatteredCount_53 : decode cX8_shatteredCount 53 = .ok (.istore_n 2, 1) := by decide +kernel
theorem dX8_shatteredCount_54 : decode cX8_shatteredCount 54 = .ok (.iinc 3 1, 3) := by decide +kernel
theorem dX8_shatteredCount_57 : decode cX8_shatteredCount 57 = .ok (.goto (-37), 3) := by decide +kernel
theorem dX8_shatteredCount_60 : decode cX8_shatteredCount 60 = .ok (.iload_n 2, 1) := by decide +kernel
theorem dX8_shatteredCount_61 : decode cX8_shatteredCount 61 = .ok (.ireturn, 1) := by decide +kernel
set_option maxRecDepth 20000 in
theorem ggX8_growth_X8_in : GoodIn wsX8_growth wsX8_in := goodIn_r _ [5] (by decide +kernel) (by decide +kernel)
set_option maxRecDepth 20000 in
theorem gX8_growth_X8_in : GoodIn wsX8_growth (va_wsS RX8 70 yX8_in wsX8_in) := goodIn_app (goodIn_of _ (by decide +kernel)) ggX8_growth_X8_in
set_option maxRecDepth 20000 in
theorem ggX8_growth_X8_sizeOf : GoodIn wsX8_growth wsX8_sizeOf := goodIn_r _ [8] (by decide +kernel) (by decide +kernel)
set_option maxRecDepth 20000 in
theorem gX8_growth_X8_sizeOf : GoodIn wsX8_growth (va_wsS RX8 63 yX8_sizeOf wsX8_sizeOf) := goodIn_app (goodIn_of _ (by decide +kernel)) ggX8_growth_X8_sizeOf
set_option maxRecDepth 20000 in
theorem ggX8_growth_X8_tracesOn : GoodIn wsX8_growth wsX8_tracesOn := goodIn_r _ [12, 13, 14, 15, 16, 17, 18, 19, 20, 21, 22, 23, 24, 25, 26, 27, 28, 29, 30, 31, 32, 33, 34, 35, 36] (by decide +kernel) (by decide +kernel)
set_option maxRecDepth 20000 in
theorem gX8_growth_X8_tracesOn : GoodIn wsX8_growth (wsV RX8 121 RX8 yX8_tracesOn wsX8_tracesOn) := goodIn_app (goodIn_of _ (by decide +kernel)) ggX8_growth_X8_tracesOn
theorem dX8_growth_0 : decode cX8_growth 0 = .ok (.iload_n 1, 1) := by decide +kernel
theorem dX8_growth_1 : decode cX8_growth 1 = .ok (.i2l, 1) := by decide +kernel
theorem dX8_growth_2 : decode cX8_growth 2 = .ok (.lconst 0, 1) := by decide +kernel
theorem dX8_growth_3 : decode cX8_growth 3 = .ok (.aload_n 0, 1) := by decide +kernel
theorem dX8_growth_4 : decode cX8_growth 4 = .ok (.getfield 9, 3) := by decide +kernel
theorem dX8_growth_7 : decode cX8_growth 7 = .ok (.i2l, 1) := by decide +kernel
theorem dX8_growth_8 : decode cX8_growth 8 = .ok (.invokestatic 70, 3) := by decide +kernel
theorem dX8_growth_11 : decode cX8_growth 11 = .ok (.ifCond .ne 5, 3) := by decide +kernel
theorem dX8_growth_14 : decode cX8_growth 14 = .ok (.iconst (-1), 1) := by decide +kernel
theorem dX8_growth_15 : decode cX8_growth 15 = .ok (.ireturn, 1) := by decide +kernel
theorem dX8_growth_16 : decode cX8_growth 16 = .ok (.iconst 0, 1) := by decide +kernel
theorem dX8_growth_17 : decode cX8_growth 17 = .ok (.istore_n 2, 1) := by decide +kernel
theorem dX8_growth_18 : decode cX8_growth 18 = .ok (.iconst 0, 1) := by decide +kernel
theorem dX8_growth_19 : decode cX8_growth 19 = .ok (.istore_n 3, 1) := by decide +kernel
theorem dX8_growth_20 : decode cX8_growth 20 = .ok (.iload_n 3, 1) := by decide +kernel
theorem dX8_growth_21 : decode cX8_growth 21 = .ok (.iconst 1, 1) := by decide +kernel
theorem dX8_growth_22 : decode cX8_growth 22 = .ok (.aload_n 0, 1) := by decide +kernel
theorem dX8_growth_23 : decode cX8_growth 23 = .ok (.getfield 9, 3) := by decide +kernel
theorem dX8_growth_26 : decode cX8_growth 26 = .ok (.ishl, 1) := by decide +kernel
theorem dX8_growth_27 : decode cX8_growth 27 = .ok (.if_icmp .ge 41, 3) := by decide +kernel
theorem dX8_growth_30 : decode cX8_growth 30 = .ok (.iload_n 3, 1) := by decide +kernel
theorem dX8_growth_31 : decode cX8_growth 31 = .ok (.invokestatic 63, 3) := by decide +kernel
theorem dX8_growth_34 : decode cX8_growth 34 = .ok (.iload_n 1, 1) := by decide +kernel
theorem dX8_growth_35 : decode cX8_growth 35 = .ok (.if_icmp .ne 11, 3) := by decide +kernel
theorem dX8_growth_38 : decode cX8_growth 38 = .ok (.aload_n 0, 1) := by decide +kernel
theorem dX8_growth_39 : decode cX8_growth 39 = .ok (.iload_n 3, 1) := by decide +kernel
theorem dX8_growth_40 : decode cX8_growth 40 = .ok (.invokevirtual 121, 3) := by decide +kernel
theorem dX8_growth_43 : decode cX8_growth 43 = .ok (.goto 4, 3) := by decide +kernel
theorem dX8_growth_46 : decode cX8_growth 46 = .ok (.iconst 0, 1) := by decide +kernel
theorem dX8_growth_47 : decode cX8_growth 47 = .ok (.istore 4, 2) := by decide +kernel
theorem dX8_growth_49 : decode cX8_growth 49 = .ok (.iload 4, 2) := by decide +kernel
theorem dX8_growth_51 : decode cX8_growth 51 = .ok (.iload_n 2, 1) := by decide +kernel
theorem dX8_growth_52 : decode cX8_growth 52 = .ok (.if_icmp .le 8, 3) := by decide +kernel
theorem dX8_growth_55 : decode cX8_growth 55 = .ok (.iload 4, 2) := by decide +kernel
theorem dX8_growth_57 : decode cX8_growth 57 = .ok (.goto 4, 3) := by decide +kernel
theorem dX8_growth_60 : decode cX8_growth 60 = .ok (.iload_n 2, 1) := by decide +kernel
theorem dX8_growth_61 : decode cX8_growth 61 = .ok (.istore_n 2, 1) := by decide +kernel
theorem dX8_growth_62 : decode cX8_growth 62 = .ok (.iinc 3 1, 3) := by decide +kernel
theorem dX8_growth_65 : decode cX8_growth 65 = .ok (.goto (-45), 3) := by decide +kernel
theorem dX8_growth_68 : decode cX8_growth 68 = .ok (.iload_n 2, 1) := by decide +kernel
theorem dX8_growth_69 : decode cX8_growth 69 = .ok (.ireturn, 1) := by decide +kernel
theorem dX8_shown_0 : decode cX8_shown 0 = .ok (.aload_n 0, 1) := by decide +kernel
theorem dX8_shown_1 : decode cX8_shown 1 = .ok (.getfield 26, 3) := by decide +kernel
theorem dX8_shown_4 : decode cX8_shown 4 = .ok (.aload_n 0, 1) := by decide +kernel
theorem dX8_shown_5 : decode cX8_shown 5 = .ok (.getfield 76, 3) := by decide +kernel
theorem dX8_shown_8 : decode cX8_shown 8 = .ok (.iload_n 1, 1) := by decide +kernel
theorem dX8_shown_9 : decode cX8_shown 9 = .ok (.iastore, 1) := by decide +kernel
theorem dX8_shown_10 : decode cX8_shown 10 = .ok (.aload_n 0, 1) := by decide +kernel
theorem dX8_shown_11 : decode cX8_shown 11 = .ok (.getfield 29, 3) := by decide +kernel
theorem dX8_shown_14 : decode cX8_shown 14 = .ok (.aload_n 0, 1) := by decide +kernel
theorem dX8_shown_15 : decode cX8_shown 15 = .ok (.getfield 76, 3) := by decide +kernel
theorem dX8_shown_18 : decode cX8_shown 18 = .ok (.iload_n 2, 1) := by decide +kernel
theorem dX8_shown_19 : decode cX8_shown 19 = .ok (.iastore, 1) := by decide +kernel
theorem dX8_shown_20 : decode cX8_shown 20 = .ok (.aload_n 0, 1) := by decide +kernel
theorem dX8_shown_21 : decode cX8_shown 21 = .ok (.dup, 1) := by decide +kernel
theorem dX8_shown_22 : decode cX8_shown 22 = .ok (.getfield 76, 3) := by decide +kernel
theorem dX8_shown_25 : decode cX8_shown 25 = .ok (.iconst 1, 1) := by decide +kernel
theorem dX8_shown_26 : decode cX8_shown 26 = .ok (.iadd, 1) := by decide +kernel
theorem dX8_shown_27 : decode cX8_shown 27 = .ok (.putfield 76, 3) := by decide +kernel
theorem dX8_shown_30 : decode cX8_shown 30 = .ok (.return_, 1) := by decide +kernel
set_option maxRecDepth 20000 in
theorem ggX8_addExample_X8_in : GoodIn wsX8_addExample wsX8_in := goodIn_r _ [6] (by decide +kernel) (by decide +kernel)
set_option maxRecDepth 20000 in
theorem gX8_addExample_X8_in : GoodIn wsX8_addExample (va_wsS RX8 70 yX8_in wsX8_in) := goodIn_app (goodIn_of _ (by decide +kernel)) ggX8_addExample_X8_in
set_option maxRecDepth 20000 in
theorem ggX8_addExample_X8_shown : GoodIn wsX8_addExample wsX8_shown := goodIn_r _ [10, 11, 2, 12, 13, 14, 15, 16, 17, 18, 19, 20, 21, 22, 23, 24, 25, 26, 27, 28, 29, 30, 31, 32, 33, 34] (by decide +kernel) (by decide +kernel)
set_option maxRecDepth 20000 in
theorem gX8_addExample_X8_shown : GoodIn wsX8_addExample (wsV RX8 127 RX8 yX8_shown wsX8_shown) := goodIn_app (goodIn_of _ (by decide +kernel)) ggX8_addExample_X8_shown
theorem dX8_addExample_0 : decode cX8_addExample 0 = .ok (.iload_n 1, 1) := by decide +kernel
theorem dX8_addExample_1 : decode cX8_addExample 1 = .ok (.i2l, 1) := by decide +kernel
theorem dX8_addExample_2 : decode cX8_addExample 2 = .ok (.lconst 0, 1) := by decide +kernel
theorem dX8_addExample_3 : decode cX8_addExample 3 = .ok (.aload_n 0, 1) := by decide +kernel
theorem dX8_addExample_4 : decode cX8_addExample 4 = .ok (.getfield 9, 3) := by decide +kernel
theorem dX8_addExample_7 : decode cX8_addExample 7 = .ok (.iconst 1, 1) := by decide +kernel
theorem dX8_addExample_8 : decode cX8_addExample 8 = .ok (.isub, 1) := by decide +kernel
theorem dX8_addExample_9 : decode cX8_addExample 9 = .ok (.i2l, 1) := by decide +kernel
theorem dX8_addExample_10 : decode cX8_addExample 10 = .ok (.invokestatic 70, 3) := by decide +kernel
theorem dX8_addExample_13 : decode cX8_addExample 13 = .ok (.ifCond .ne 6, 3) := by decide +kernel
theorem dX8_addExample_16 : decode cX8_addExample 16 = .ok (.bipush (-3), 2) := by decide +kernel
theorem dX8_addExample_18 : decode cX8_addExample 18 = .ok (.ireturn, 1) := by decide +kernel
theorem dX8_addExample_19 : decode cX8_addExample 19 = .ok (.iload_n 2, 1) := by decide +kernel
theorem dX8_addExample_20 : decode cX8_addExample 20 = .ok (.i2l, 1) := by decide +kernel
theorem dX8_addExample_21 : decode cX8_addExample 21 = .ok (.lconst 0, 1) := by decide +kernel
theorem dX8_addExample_22 : decode cX8_addExample 22 = .ok (.lconst 1, 1) := by decide +kernel
theorem dX8_addExample_23 : decode cX8_addExample 23 = .ok (.invokestatic 70, 3) := by decide +kernel
theorem dX8_addExample_26 : decode cX8_addExample 26 = .ok (.ifCond .ne 5, 3) := by decide +kernel
theorem dX8_addExample_29 : decode cX8_addExample 29 = .ok (.iconst (-1), 1) := by decide +kernel
theorem dX8_addExample_30 : decode cX8_addExample 30 = .ok (.ireturn, 1) := by decide +kernel
theorem dX8_addExample_31 : decode cX8_addExample 31 = .ok (.aload_n 0, 1) := by decide +kernel
theorem dX8_addExample_32 : decode cX8_addExample 32 = .ok (.getfield 76, 3) := by decide +kernel
theorem dX8_addExample_35 : decode cX8_addExample 35 = .ok (.bipush 12, 2) := by decide +kernel
theorem dX8_addExample_37 : decode cX8_addExample 37 = .ok (.if_icmp .ne 6, 3) := by decide +kernel
theorem dX8_addExample_40 : decode cX8_addExample 40 = .ok (.bipush (-4), 2) := by decide +kernel
theorem dX8_addExample_42 : decode cX8_addExample 42 = .ok (.ireturn, 1) := by decide +kernel
theorem dX8_addExample_43 : decode cX8_addExample 43 = .ok (.aload_n 0, 1) := by decide +kernel
theorem dX8_addExample_44 : decode cX8_addExample 44 = .ok (.iload_n 1, 1) := by decide +kernel
theorem dX8_addExample_45 : decode cX8_addExample 45 = .ok (.iload_n 2, 1) := by decide +kernel
theorem dX8_addExample_46 : decode cX8_addExample 46 = .ok (.invokevirtual 127, 3) := by decide +kernel
theorem dX8_addExample_49 : decode cX8_addExample 49 = .ok (.aload_n 0, 1) := by decide +kernel
theorem dX8_addExample_50 : decode cX8_addExample 50 = .ok (.getfield 76, 3) := by decide +kernel
theorem dX8_addExample_53 : decode cX8_addExample 53 = .ok (.ireturn, 1) := by decide +kernel
set_option maxRecDepth 20000 in
theorem ggX8_addExamples_X8_isConcept : GoodIn wsX8_addExamples wsX8_isConcept := goodIn_r _ [8, 9, 10, 11, 7, 12, 29, 30, 31, 32, 33, 34, 35, 36, 37, 38, 39, 40, 41, 42, 43, 44, 45, 46, 47, 48, 49, 50] (by decide +kernel) (by decide +kernel)
set_option maxRecDepth 20000 in
theorem gX8_addExamples_X8_isConcept : GoodIn wsX8_addExamples (wsV RX8 93 RX8 yX8_isConcept wsX8_isConcept) := goodIn_app (goodIn_of _ (by decide +kernel)) ggX8_addExamples_X8_isConcept
set_option maxRecDepth 20000 in
theorem ggX8_addExamples_X8_isSet : GoodIn wsX8_addExamples wsX8_isSet := goodIn_r _ [16, 2, 10, 11, 7, 12, 29, 30, 31, 32, 33, 34, 35, 36, 37, 38, 39, 40, 41, 42, 43, 44, 45, 46, 47, 48, 49, 50] (by decide +kernel) (by decide +kernel)
set_option maxRecDepth 20000 in
theorem gX8_addExamples_X8_isSet : GoodIn wsX8_addExamples (wsV RX8 83 RX8 yX8_isSet wsX8_isSet) := goodIn_app (goodIn_of _ (by decide +kernel)) ggX8_addExamples_X8_isSet
set_option maxRecDepth 20000 in
theorem ggX8_addExamples_X8_sizeOf : GoodIn wsX8_addExamples wsX8_sizeOf := goodIn_r _ [19] (by decide +kernel) (by decide +kernel)
set_option maxRecDepth 20000 in
theorem gX8_addExamples_X8_sizeOf : GoodIn wsX8_addExamples (va_wsS RX8 63 yX8_sizeOf wsX8_sizeOf) := goodIn_app (goodIn_of _ (by decide +kernel)) ggX8_addExamples_X8_sizeOf
set_option maxRecDepth 20000 in
theorem ggX8_addExamples_X8_has : GoodIn wsX8_addExamples wsX8_has := goodIn_r _ [22] (by decide +kernel) (by decide +kernel)
set_option maxRecDepth 20000 in
theorem gX8_addExamples_X8_has : GoodIn wsX8_addExamples (va_wsS RX8 96 yX8_has wsX8_has) := goodIn_app (goodIn_of _ (by decide +kernel)) ggX8_addExamples_X8_has
set_option maxRecDepth 20000 in
theorem ggX8_addExamples_X8_shown : GoodIn wsX8_addExamples wsX8_shown := goodIn_r _ [26, 27, 1, 28, 29, 30, 31, 32, 33, 34, 35, 36, 37, 38, 39, 40, 41, 42, 43, 44, 45, 46, 47, 48, 49, 50] (by decide +kernel) (by decide +kernel)
set_option maxRecDepth 20000 in
theorem gX8_addExamples_X8_shown : GoodIn wsX8_addExamples (wsV RX8 127 RX8 yX8_shown wsX8_shown) := goodIn_app (goodIn_of _ (by decide +kernel)) ggX8_addExamples_X8_shown
theorem dX8_addExamples_0 : decode cX8_addExamples 0 = .ok (.aload_n 0, 1) := by decide +kernel
theorem dX8_addExamples_1 : decode cX8_addExamples 1 = .ok (.iload_n 1, 1) := by decide +kernel
theorem dX8_addExamples_2 : decode cX8_addExamples 2 = .ok (.invokevirtual 93, 3) := by decide +kernel
theorem dX8_addExamples_5 : decode cX8_addExamples 5 = .ok (.ifCond .ne 6, 3) := by decide +kernel
theorem dX8_addExamples_8 : decode cX8_addExamples 8 = .ok (.bipush (-2), 2) := by decide +kernel
theorem dX8_addExamples_10 : decode cX8_addExamples 10 = .ok (.ireturn, 1) := by decide +kernel
theorem dX8_addExamples_11 : decode cX8_addExamples 11 = .ok (.aload_n 0, 1) := by decide +kernel
theorem dX8_addExamples_12 : decode cX8_addExamples 12 = .ok (.iload_n 2, 1) := by decide +kernel
theorem dX8_addExamples_13 : decode cX8_addExamples 13 = .ok (.invokevirtual 83, 3) := by decide +kernel
theorem dX8_addExamples_16 : decode cX8_addExamples 16 = .ok (.ifCond .ne 5, 3) := by decide +kernel
theorem dX8_addExamples_19 : decode cX8_addExamples 19 = .ok (.iconst (-1), 1) := by decide +kernel
theorem dX8_addExamples_20 : decode cX8_addExamples 20 = .ok (.ireturn, 1) := by decide +kernel
theorem dX8_addExamples_21 : decode cX8_addExamples 21 = .ok (.aload_n 0, 1) := by decide +kernel
theorem dX8_addExamples_22 : decode cX8_addExamples 22 = .ok (.getfield 76, 3) := by decide +kernel
theorem dX8_addExamples_25 : decode cX8_addExamples 25 = .ok (.iload_n 2, 1) := by decide +kernel
theorem dX8_addExamples_26 : decode cX8_addExamples 26 = .ok (.invokestatic 63, 3) := by decide +kernel
theorem dX8_addExamples_29 : decode cX8_addExamples 29 = .ok (.iadd, 1) := by decide +kernel
theorem dX8_addExamples_30 : decode cX8_addExamples 30 = .ok (.bipush 12, 2) := by decide +kernel
theorem dX8_addExamples_32 : decode cX8_addExamples 32 = .ok (.if_icmp .le 6, 3) := by decide +kernel
theorem dX8_addExamples_35 : decode cX8_addExamples 35 = .ok (.bipush (-4), 2) := by decide +kernel
theorem dX8_addExamples_37 : decode cX8_addExamples 37 = .ok (.ireturn, 1) := by decide +kernel
theorem dX8_addExamples_38 : decode cX8_addExamples 38 = .ok (.iconst 0, 1) := by decide +kernel
theorem dX8_addExamples_39 : decode cX8_addExamples 39 = .ok (.istore_n 3, 1) := by decide +kernel
theorem dX8_addExamples_40 : decode cX8_addExamples 40 = .ok (.iload_n 3, 1) := by decide +kernel
theorem dX8_addExamples_41 : decode cX8_addExamples 41 = .ok (.aload_n 0, 1) := by decide +kernel
theorem dX8_addExamples_42 : decode cX8_addExamples 42 = .ok (.getfield 9, 3) := by decide +kernel
theorem dX8_addExamples_45 : decode cX8_addExamples 45 = .ok (.if_icmp .ge 32, 3) := by decide +kernel
theorem dX8_addExamples_48 : decode cX8_addExamples 48 = .ok (.iload_n 2, 1) := by decide +kernel
theorem dX8_addExamples_49 : decode cX8_addExamples 49 = .ok (.iload_n 3, 1) := by decide +kernel
theorem dX8_addExamples_50 : decode cX8_addExamples 50 = .ok (.invokestatic 96, 3) := by decide +kernel
theorem dX8_addExamples_53 : decode cX8_addExamples 53 = .ok (.ifCond .eq 18, 3) := by decide +kernel
theorem dX8_addExamples_56 : decode cX8_addExamples 56 = .ok (.aload_n 0, 1) := by decide +kernel
theorem dX8_addExamples_57 : decode cX8_addExamples 57 = .ok (.iload_n 3, 1) := by decide +kernel
theorem dX8_addExamples_58 : decode cX8_addExamples 58 = .ok (.aload_n 0, 1) := by decide +kernel
theorem dX8_addExamples_59 : decode cX8_addExamples 59 = .ok (.getfield 19, 3) := by decide +kernel
theorem dX8_addExamples_62 : decode cX8_addExamples 62 = .ok (.iload_n 1, 1) := by decide +kernel
theorem dX8_addExamples_63 : decode cX8_addExamples 63 = .ok (.iaload, 1) := by decide +kernel
theorem dX8_addExamples_64 : decode cX8_addExamples 64 = .ok (.iload_n 3, 1) := by decide +kernel
theorem dX8_addExamples_65 : decode cX8_addExamples 65 = .ok (.ishr, 1) := by decide +kernel
theorem dX8_addExamples_66 : decode cX8_addExamples 66 = .ok (.iconst 1, 1) := by decide +kernel
theorem dX8_addExamples_67 : decode cX8_addExamples 67 = .ok (.iand, 1) := by decide +kernel
theorem dX8_addExamples_68 : decode cX8_addExamples 68 = .ok (.invokevirtual 127, 3) := by decide +kernel
theorem dX8_addExamples_71 : decode cX8_addExamples 71 = .ok (.iinc 3 1, 3) := by decide +kernel
theorem dX8_addExamples_74 : decode cX8_addExamples 74 = .ok (.goto (-34), 3) := by decide +kernel
theorem dX8_addExamples_77 : decode cX8_addExamples 77 = .ok (.aload_n 0, 1) := by decide +kernel
theorem dX8_addExamples_78 : decode cX8_addExamples 78 = .ok (.getfield 76, 3) := by decide +kernel
theorem dX8_addExamples_81 : decode cX8_addExamples 81 = .ok (.ireturn, 1) := by decide +kernel
theorem dX8_clearSample_0 : decode cX8_clearSample 0 = .ok (.aload_n 0, 1) := by decide +kernel
theorem dX8_clearSample_1 : decode cX8_clearSample 1 = .ok (.getfield 76, 3) := by decide +kernel
theorem dX8_clearSample_4 : decode cX8_clearSample 4 = .ok (.istore_n 1, 1) := by decide +kernel
theorem dX8_clearSample_5 : decode cX8_clearSample 5 = .ok (.aload_n 0, 1) := by decide +kernel
theorem dX8_clearSample_6 : decode cX8_clearSample 6 = .ok (.iconst 0, 1) := by decide +kernel
theorem dX8_clearSample_7 : decode cX8_clearSample 7 = .ok (.putfield 76, 3) := by decide +kernel
theorem dX8_clearSample_10 : decode cX8_clearSample 10 = .ok (.iload_n 1, 1) := by decide +kernel
theorem dX8_clearSample_11 : decode cX8_clearSample 11 = .ok (.ireturn, 1) := by decide +kernel
set_option maxRecDepth 20000 in
theorem ggX8_example_X8_in : GoodIn wsX8_example wsX8_in := goodIn_r _ [7] (by decide +kernel) (by decide +kernel)
set_option maxRecDepth 20000 in
theorem gX8_example_X8_in : GoodIn wsX8_example (va_wsS RX8 70 yX8_in wsX8_in) := goodIn_app (goodIn_of _ (by decide +kernel)) ggX8_example_X8_in
theorem dX8_example_0 : decode cX8_example 0 = .ok (.iload_n 1, 1) := by decide +kernel
theorem dX8_example_1 : decode cX8_example 1 = .ok (.i2l, 1) := by decide +kernel
theorem dX8_example_2 : decode cX8_example 2 = .ok (.lconst 0, 1) := by decide +kernel
theorem dX8_example_3 : decode cX8_example 3 = .ok (.aload_n 0, 1) := by decide +kernel
theorem dX8_example_4 : decode cX8_example 4 = .ok (.getfield 76, 3) := by decide +kernel
theorem dX8_example_7 : decode cX8_example 7 = .ok (.iconst 1, 1) := by decide +kernel
theorem dX8_example_8 : decode cX8_example 8 = .ok (.isub, 1) := by decide +kernel
theorem dX8_example_9 : decode cX8_example 9 = .ok (.i2l, 1) := by decide +kernel
theorem dX8_example_10 : decode cX8_example 10 = .ok (.invokestatic 70, 3) := by decide +kernel
theorem dX8_example_13 : decode cX8_example 13 = .ok (.ifCond .eq 21, 3) := by decide +kernel
theorem dX8_example_16 : decode cX8_example 16 = .ok (.iconst 2, 1) := by decide +kernel
theorem dX8_example_17 : decode cX8_example 17 = .ok (.aload_n 0, 1) := by decide +kernel
theorem dX8_example_18 : decode cX8_example 18 = .ok (.getfield 26, 3) := by decide +kernel
theorem dX8_example_21 : decode cX8_example 21 = .ok (.iload_n 1, 1) := by decide +kernel
theorem dX8_example_22 : decode cX8_example 22 = .ok (.iaload, 1) := by decide +kernel
theorem dX8_example_23 : decode cX8_example 23 = .ok (.imul, 1) := by decide +kernel
theorem dX8_example_24 : decode cX8_example 24 = .ok (.aload_n 0, 1) := by decide +kernel
theorem dX8_example_25 : decode cX8_example 25 = .ok (.getfield 29, 3) := by decide +kernel
theorem dX8_example_28 : decode cX8_example 28 = .ok (.iload_n 1, 1) := by decide +kernel
theorem dX8_example_29 : decode cX8_example 29 = .ok (.iaload, 1) := by decide +kernel
theorem dX8_example_30 : decode cX8_example 30 = .ok (.iadd, 1) := by decide +kernel
theorem dX8_example_31 : decode cX8_example 31 = .ok (.goto 5, 3) := by decide +kernel
theorem dX8_example_34 : decode cX8_example 34 = .ok (.bipush (-6), 2) := by decide +kernel
theorem dX8_example_36 : decode cX8_example 36 = .ok (.ireturn, 1) := by decide +kernel
theorem dX8_versions_0 : decode cX8_versions 0 = .ok (.iconst 0, 1) := by decide +kernel
theorem dX8_versions_1 : decode cX8_versions 1 = .ok (.istore_n 1, 1) := by decide +kernel
theorem dX8_versions_2 : decode cX8_versions 2 = .ok (.iconst 0, 1) := by decide +kernel
theorem dX8_versions_3 : decode cX8_versions 3 = .ok (.istore_n 2, 1) := by decide +kernel
theorem dX8_versions_4 : decode cX8_versions 4 = .ok (.iload_n 2, 1) := by decide +kernel
theorem dX8_versions_5 : decode cX8_versions 5 = .ok (.aload_n 0, 1) := by decide +kernel
theorem dX8_versions_6 : decode cX8_versions 6 = .ok (.getfield 67, 3) := by decide +kernel
theorem dX8_versions_9 : decode cX8_versions 9 = .ok (.if_icmp .ge 79, 3) := by decide +kernel
theorem dX8_versions_12 : decode cX8_versions 12 = .ok (.iconst 1, 1) := by decide +kernel
theorem dX8_versions_13 : decode cX8_versions 13 = .ok (.istore_n 3, 1) := by decide +kernel
theorem dX8_versions_14 : decode cX8_versions 14 = .ok (.iconst 0, 1) := by decide +kernel
theorem dX8_versions_15 : decode cX8_versions 15 = .ok (.istore 4, 2) := by decide +kernel
theorem dX8_versions_17 : decode cX8_versions 17 = .ok (.iload 4, 2) := by decide +kernel
theorem dX8_versions_19 : decode cX8_versions 19 = .ok (.aload_n 0, 1) := by decide +kernel
theorem dX8_versions_20 : decode cX8_versions 20 = .ok (.getfield 76, 3) := by decide +kernel
theorem dX8_versions_23 : decode cX8_versions 23 = .ok (.if_icmp .ge 45, 3) := by decide +kernel
theorem dX8_versions_26 : decode cX8_versions 26 = .ok (.iload_n 3, 1) := by decide +kernel
theorem dX8_versions_27 : decode cX8_versions 27 = .ok (.ifCond .eq 33, 3) := by decide +kernel
theorem dX8_versions_30 : decode cX8_versions 30 = .ok (.aload_n 0, 1) := by decide +kernel
theorem dX8_versions_31 : decode cX8_versions 31 = .ok (.getfield 19, 3) := by decide +kernel
theorem dX8_versions_34 : decode cX8_versions 34 = .ok (.iload_n 2, 1) := by decide +kernel
theorem dX8_versions_35 : decode cX8_versions 35 = .ok (.iaload, 1) := by decide +kernel
theorem dX8_versions_36 : decode cX8_versions 36 = .ok (.aload_n 0, 1) := by decide +kernel
theorem dX8_versions_37 : decode cX8_versions 37 = .ok (.getfield 26, 3) := by decide +kernel
theorem dX8_versions_40 : decode cX8_versions 40 = .ok (.iload 4, 2) := by decide +kernel
theorem dX8_versions_42 : decode cX8_versions 42 = .ok (.iaload, 1) := by decide +kernel
theorem dX8_versions_43 : decode cX8_versions 43 = .ok (.ishr, 1) := by decide +kernel
theorem dX8_versions_44 : decode cX8_versions 44 = .ok (.iconst 1, 1) := by decide +kernel
theorem dX8_versions_45 : decode cX8_versions 45 = .ok (.iand, 1) := by decide +kernel
theorem dX8_versions_46 : decode cX8_versions 46 = .ok (.aload_n 0, 1) := by decide +kernel
theorem dX8_versions_47 : decode cX8_versions 47 = .ok (.getfield 29, 3) := by decide +kernel
theorem dX8_versions_50 : decode cX8_versions 50 = .ok (.iload 4, 2) := by decide +kernel
theorem dX8_versions_52 : decode cX8_versions 52 = .ok (.iaload, 1) := by decide +kernel
theorem dX8_versions_53 : decode cX8_versions 53 = .ok (.if_icmp .ne 7, 3) := by decide +kernel
theorem dX8_versions_56 : decode cX8_versions 56 = .ok (.iconst 1, 1) := by decide +kernel
theorem dX8_versions_57 : decode cX8_versions 57 = .ok (.goto 4, 3) := by decide +kernel
theorem dX8_versions_60 : decode cX8_versions 60 = .ok (.iconst 0, 1) := by decide +kernel
theorem dX8_versions_61 : decode cX8_versions 61 = .ok (.istore_n 3, 1) := by decide +kernel
theorem dX8_versions_62 : decode cX8_versions 62 = .ok (.iinc 4 1, 3) := by decide +kernel
theorem dX8_versions_65 : decode cX8_versions 65 = .ok (.goto (-48), 3) := by decide +kernel
theorem dX8_versions_68 : decode cX8_versions 68 = .ok (.iload_n 1, 1) := by decide +kernel
theorem dX8_versions_69 : decode cX8_versions 69 = .ok (.iload_n 3, 1) := by decide +kernel
theorem dX8_versions_70 : decode cX8_versions 70 = .ok (.ifCond .eq 9, 3) := by decide +kernel
theorem dX8_versions_73 : decode cX8_versions 73 = .ok (.iconst 1, 1) := by decide +kernel
theorem dX8_versions_74 : decode cX8_versions 74 = .ok (.iload_n 2, 1) := by decide +kernel
theorem dX8_versions_75 : decode cX8_versions 75 = .ok (.ishl, 1) := by decide +kernel
theorem dX8_versions_76 : decode cX8_versions 76 = .ok (.goto 4, 3) := by decide +kernel
theorem dX8_versions_79 : decode cX8_versions 79 = .ok (.iconst 0, 1) := by decide +kernel
theorem dX8_versions_80 : decode cX8_versions 80 = .ok (.ior, 1) := by decide +kernel
theorem dX8_versions_81 : decode cX8_versions 81 = .ok (.istore_n 1, 1) := by decide +kernel
theorem dX8_versions_82 : decode cX8_versions 82 = .ok (.iinc 2 1, 3) := by decide +kernel
theorem dX8_versions_85 : decode cX8_versions 85 = .ok (.goto (-81), 3) := by decide +kernel
theorem dX8_versions_88 : decode cX8_versions 88 = .ok (.iload_n 1, 1) := by decide +kernel
theorem dX8_versions_89 : decode cX8_versions 89 = .ok (.ireturn, 1) := by decide +kernel
set_option maxRecDepth 20000 in
theorem ggX8_versionCount_X8_versions : GoodIn wsX8_versionCount wsX8_versions := goodIn_r _ [5, 6, 7, 8, 9, 10, 14, 15, 16, 17, 18, 19, 20, 21, 22, 23, 24, 25, 26, 27, 28, 29, 30, 31, 32, 33, 34, 35] (by decide +kernel) (by decide +kernel)
set_option maxRecDepth 20000 in
theorem gX8_versionCount_X8_versions : GoodIn wsX8_versionCount (wsV RX8 131 RX8 yX8_versions wsX8_versions) := goodIn_app (goodIn_of _ (by decide +kernel)) ggX8_versionCount_X8_versions
set_option maxRecDepth 20000 in
theorem ggX8_versionCount_X8_sizeOf : GoodIn wsX8_versionCount wsX8_sizeOf := goodIn_r _ [13] (by decide +kernel) (by decide +kernel)
set_option maxRecDepth 20000 in
theorem gX8_versionCount_X8_sizeOf : GoodIn wsX8_versionCount (va_wsS RX8 63 yX8_sizeOf wsX8_sizeOf) := goodIn_app (goodIn_of _ (by decide +kernel)) ggX8_versionCount_X8_sizeOf
theorem dX8_versionCount_0 : decode cX8_versionCount 0 = .ok (.aload_n 0, 1) := by decide +kernel
theorem dX8_versionCount_1 : decode cX8_versionCount 1 = .ok (.invokevirtual 131, 3) := by decide +kernel
theorem dX8_versionCount_4 : decode cX8_versionCount 4 = .ok (.invokestatic 63, 3) := by decide +kernel
theorem dX8_versionCount_7 : decode cX8_versionCount 7 = .ok (.ireturn, 1) := by decide +kernel
set_option maxRecDepth 20000 in
theorem ggX8_version_X8_versions : GoodIn wsX8_version wsX8_versions := goodIn_r _ [6, 1, 7, 8, 9, 10, 14, 15, 16, 17, 18, 19, 20, 21, 22, 23, 24, 25, 26, 27, 28, 29, 30, 31, 32, 33, 34, 35] (by decide +kernel) (by decide +kernel)
set_option maxRecDepth 20000 in
theorem gX8_version_X8_versions : GoodIn wsX8_version (wsV RX8 131 RX8 yX8_versions wsX8_versions) := goodIn_app (goodIn_of _ (by decide +kernel)) ggX8_version_X8_versions
set_option maxRecDepth 20000 in
theorem ggX8_version_X8_has : GoodIn wsX8_version wsX8_has := goodIn_r _ [13] (by decide +kernel) (by decide +kernel)
set_option maxRecDepth 20000 in
theorem gX8_version_X8_has : GoodIn wsX8_version (va_wsS RX8 96 yX8_has wsX8_has) := goodIn_app (goodIn_of _ (by decide +kernel)) ggX8_version_X8_has
theorem dX8_version_0 : decode cX8_version 0 = .ok (.aload_n 0, 1) := by decide +kernel
theorem dX8_version_1 : decode cX8_version 1 = .ok (.invokevirtual 131, 3) := by decide +kernel
theorem dX8_version_4 : decode cX8_version 4 = .ok (.istore_n 2, 1) := by decide +kernel
theorem dX8_version_5 : decode cX8_version 5 = .ok (.iload_n 1, 1) := by decide +kernel
theorem dX8_version_6 : decode cX8_version 6 = .ok (.istore_n 3, 1) := by decide +kernel
theorem dX8_version_7 : decode cX8_version 7 = .ok (.iconst 0, 1) := by decide +kernel
theorem dX8_version_8 : decode cX8_version 8 = .ok (.istore 4, 2) := by decide +kernel
theorem dX8_version_10 : decode cX8_version 10 = .ok (.iload 4, 2) := by decide +kernel
theorem dX8_version_12 : decode cX8_version 12 = .ok (.aload_n 0, 1) := by decide +kernel
theorem dX8_version_13 : decode cX8_version 13 = .ok (.getfield 67, 3) := by decide +kernel
theorem dX8_version_16 : decode cX8_version 16 = .ok (.if_icmp .ge 32, 3) := by decide +kernel
theorem dX8_version_19 : decode cX8_version 19 = .ok (.iload_n 1, 1) := by decide +kernel
theorem dX8_version_20 : decode cX8_version 20 = .ok (.ifCond .lt 28, 3) := by decide +kernel
theorem dX8_version_23 : decode cX8_version 23 = .ok (.iload_n 2, 1) := by decide +kernel
theorem dX8_version_24 : decode cX8_version 24 = .ok (.iload 4, 2) := by decide +kernel
theorem dX8_version_26 : decode cX8_version 26 = .ok (.invokestatic 96, 3) := by decide +kernel
theorem dX8_version_29 : decode cX8_version 29 = .ok (.ifCond .eq 13, 3) := by decide +kernel
theorem dX8_version_32 : decode cX8_version 32 = .ok (.iload_n 3, 1) := by decide +kernel
theorem dX8_version_33 : decode cX8_version 33 = .ok (.ifCond .ne 6, 3) := by decide +kernel
theorem dX8_version_36 : decode cX8_version 36 = .ok (.iload 4, 2) := by decide +kernel
theorem dX8_version_38 : decode cX8_version 38 = .ok (.ireturn, 1) := by decide +kernel
theorem dX8_version_39 : decode cX8_version 39 = .ok (.iinc 3 (-1), 3) := by decide +kernel
theorem dX8_version_42 : decode cX8_version 42 = .ok (.iinc 4 1, 3) := by decide +kernel
theorem dX8_version_45 : decode cX8_version 45 = .ok (.goto (-35), 3) := by decide +kernel
theorem dX8_version_48 : decode cX8_version 48 = .ok (.bipush (-6), 2) := by decide +kernel
theorem dX8_version_50 : decode cX8_version 50 = .ok (.ireturn, 1) := by decide +kernel
set_option maxRecDepth 20000 in
theorem ggX8_decode_X8_versions : GoodIn wsX8_decode wsX8_versions := goodIn_r _ [7, 1, 8, 9, 10, 11, 37, 38, 39, 40, 41, 42, 43, 44, 45, 46, 47, 48, 49, 50, 51, 52, 53, 54, 55, 56, 57, 58] (by decide +kernel) (by decide +kernel)
set_option maxRecDepth 20000 in
theorem gX8_decode_X8_versions : GoodIn wsX8_decode (wsV RX8 131 RX8 yX8_versions wsX8_versions) := goodIn_app (goodIn_of _ (by decide +kernel)) ggX8_decode_X8_versions
set_option maxRecDepth 20000 in
theorem ggX8_decode_X8_plans : GoodIn wsX8_decode wsX8_plans := goodIn_r _ [15, 16, 1, 2, 17, 18, 19, 20, 6, 21, 22, 23, 24, 25, 26, 27, 28, 29, 30, 31, 32, 33, 9, 34, 35, 36, 37, 38, 39, 40, 41, 42, 43, 44, 45, 46, 47, 48, 49, 50, 51, 52, 53, 54, 55, 56, 57, 58] (by decide +kernel) (by decide +kernel)
set_option maxRecDepth 20000 in
theorem gX8_decode_X8_plans : GoodIn wsX8_decode (wsV RX8 115 RX8 yX8_plans wsX8_plans) := goodIn_app (goodIn_of _ (by decide +kernel)) ggX8_decode_X8_plans
set_option maxRecDepth 20000 in
theorem ggX8_decode_X8_has : GoodIn wsX8_decode wsX8_has := goodIn_r _ [24] (by decide +kernel) (by decide +kernel)
set_option maxRecDepth 20000 in
theorem gX8_decode_X8_has : GoodIn wsX8_decode (va_wsS RX8 96 yX8_has wsX8_has) := goodIn_app (goodIn_of _ (by decide +kernel)) ggX8_decode_X8_has
theorem dX8_decode_0 : decode cX8_decode 0 = .ok (.aload_n 0, 1) := by decide +kernel
theorem dX8_decode_1 : decode cX8_decode 1 = .ok (.invokevirtual 131, 3) := by decide +kernel
theorem dX8_decode_4 : decode cX8_decode 4 = .ok (.istore_n 1, 1) := by decide +kernel
theorem dX8_decode_5 : decode cX8_decode 5 = .ok (.iload_n 1, 1) := by decide +kernel
theorem dX8_decode_6 : decode cX8_decode 6 = .ok (.ifCond .ne 6, 3) := by decide +kernel
theorem dX8_decode_9 : decode cX8_decode 9 = .ok (.bipush (-7), 2) := by decide +kernel
theorem dX8_decode_11 : decode cX8_decode 11 = .ok (.ireturn, 1) := by decide +kernel
theorem dX8_decode_12 : decode cX8_decode 12 = .ok (.aload_n 0, 1) := by decide +kernel
theorem dX8_decode_13 : decode cX8_decode 13 = .ok (.invokevirtual 115, 3) := by decide +kernel
theorem dX8_decode_16 : decode cX8_decode 16 = .ok (.pop, 1) := by decide +kernel
theorem dX8_decode_17 : decode cX8_decode 17 = .ok (.iconst (-1), 1) := by decide +kernel
theorem dX8_decode_18 : decode cX8_decode 18 = .ok (.istore_n 2, 1) := by decide +kernel
theorem dX8_decode_19 : decode cX8_decode 19 = .ok (.iconst 0, 1) := by decide +kernel
theorem dX8_decode_20 : decode cX8_decode 20 = .ok (.istore_n 3, 1) := by decide +kernel
theorem dX8_decode_21 : decode cX8_decode 21 = .ok (.iload_n 3, 1) := by decide +kernel
theorem dX8_decode_22 : decode cX8_decode 22 = .ok (.aload_n 0, 1) := by decide +kernel
theorem dX8_decode_23 : decode cX8_decode 23 = .ok (.getfield 67, 3) := by decide +kernel
theorem dX8_decode_26 : decode cX8_decode 26 = .ok (.if_icmp .ge 43, 3) := by decide +kernel
theorem dX8_decode_29 : decode cX8_decode 29 = .ok (.iload_n 1, 1) := by decide +kernel
theorem dX8_decode_30 : decode cX8_decode 30 = .ok (.iload_n 3, 1) := by decide +kernel
theorem dX8_decode_31 : decode cX8_decode 31 = .ok (.invokestatic 96, 3) := by decide +kernel
theorem dX8_decode_34 : decode cX8_decode 34 = .ok (.ifCond .eq 27, 3) := by decide +kernel
theorem dX8_decode_37 : decode cX8_decode 37 = .ok (.iload_n 2, 1) := by decide +kernel
theorem dX8_decode_38 : decode cX8_decode 38 = .ok (.iconst (-1), 1) := by decide +kernel
theorem dX8_decode_39 : decode cX8_decode 39 = .ok (.if_icmp .eq 18, 3) := by decide +kernel
theorem dX8_decode_42 : decode cX8_decode 42 = .ok (.aload_n 0, 1) := by decide +kernel
theorem dX8_decode_43 : decode cX8_decode 43 = .ok (.getfield 57, 3) := by decide +kernel
theorem dX8_decode_46 : decode cX8_decode 46 = .ok (.iload_n 3, 1) := by decide +kernel
theorem dX8_decode_47 : decode cX8_decode 47 = .ok (.iaload, 1) := by decide +kernel
theorem dX8_decode_48 : decode cX8_decode 48 = .ok (.aload_n 0, 1) := by decide +kernel
theorem dX8_decode_49 : decode cX8_decode 49 = .ok (.getfield 57, 3) := by decide +kernel
theorem dX8_decode_52 : decode cX8_decode 52 = .ok (.iload_n 2, 1) := by decide +kernel
theorem dX8_decode_53 : decode cX8_decode 53 = .ok (.iaload, 1) := by decide +kernel
theorem dX8_decode_54 : decode cX8_decode 54 = .ok (.if_icmp .ge 7, 3) := by decide +kernel
theorem dX8_decode_57 : decode cX8_decode 57 = .ok (.iload_n 3, 1) := by decide +kernel
theorem dX8_decode_58 : decode cX8_decode 58 = .ok (.goto 4, 3) := by decide +kernel
theorem dX8_decode_61 : decode cX8_decode 61 = .ok (.iload_n 2, 1) := by decide +kernel
theorem dX8_decode_62 : decode cX8_decode 62 = .ok (.istore_n 2, 1) := by decide +kernel
theorem dX8_decode_63 : decode cX8_decode 63 = .ok (.iinc 3 1, 3) := by decide +kernel
theorem dX8_decode_66 : decode cX8_decode 66 = .ok (.goto (-45), 3) := by decide +kernel
theorem dX8_decode_69 : decode cX8_decode 69 = .ok (.iload_n 2, 1) := by decide +kernel
theorem dX8_decode_70 : decode cX8_decode 70 = .ok (.ireturn, 1) := by decide +kernel
set_option maxRecDepth 20000 in
theorem ggX8_with_X8_has : GoodIn wsX8_with wsX8_has := goodIn_r _ [6] (by decide +kernel) (by decide +kernel)
set_option maxRecDepth 20000 in
theorem gX8_with_X8_has : GoodIn wsX8_with (va_wsS RX8 96 yX8_has wsX8_has) := goodIn_app (goodIn_of _ (by decide +kernel)) ggX8_with_X8_has
theorem dX8_with_0 : decode cX8_with 0 = .ok (.iconst 0, 1) := by decide +kernel
theorem dX8_with_1 : decode cX8_with 1 = .ok (.istore_n 3, 1) := by decide +kernel
theorem dX8_with_2 : decode cX8_with 2 = .ok (.iconst 0, 1) := by decide +kernel
theorem dX8_with_3 : decode cX8_with 3 = .ok (.istore 4, 2) := by decide +kernel
theorem dX8_with_5 : decode cX8_with 5 = .ok (.iload 4, 2) := by decide +kernel
theorem dX8_with_7 : decode cX8_with 7 = .ok (.aload_n 0, 1) := by decide +kernel
theorem dX8_with_8 : decode cX8_with 8 = .ok (.getfield 67, 3) := by decide +kernel
theorem dX8_with_11 : decode cX8_with 11 = .ok (.if_icmp .ge 43, 3) := by decide +kernel
theorem dX8_with_14 : decode cX8_with 14 = .ok (.iload_n 3, 1) := by decide +kernel
theorem dX8_with_15 : decode cX8_with 15 = .ok (.iload_n 1, 1) := by decide +kernel
theorem dX8_with_16 : decode cX8_with 16 = .ok (.iload 4, 2) := by decide +kernel
theorem dX8_with_18 : decode cX8_with 18 = .ok (.invokestatic 96, 3) := by decide +kernel
theorem dX8_with_21 : decode cX8_with 21 = .ok (.ifCond .eq 24, 3) := by decide +kernel
theorem dX8_with_24 : decode cX8_with 24 = .ok (.aload_n 0, 1) := by decide +kernel
theorem dX8_with_25 : decode cX8_with 25 = .ok (.getfield 19, 3) := by decide +kernel
theorem dX8_with_28 : decode cX8_with 28 = .ok (.iload 4, 2) := by decide +kernel
theorem dX8_with_30 : decode cX8_with 30 = .ok (.iaload, 1) := by decide +kernel
theorem dX8_with_31 : decode cX8_with 31 = .ok (.iload_n 2, 1) := by decide +kernel
theorem dX8_with_32 : decode cX8_with 32 = .ok (.invokestatic 96, 3) := by decide +kernel
theorem dX8_with_35 : decode cX8_with 35 = .ok (.ifCond .eq 10, 3) := by decide +kernel
theorem dX8_with_38 : decode cX8_with 38 = .ok (.iconst 1, 1) := by decide +kernel
theorem dX8_with_39 : decode cX8_with 39 = .ok (.iload 4, 2) := by decide +kernel
theorem dX8_with_41 : decode cX8_with 41 = .ok (.ishl, 1) := by decide +kernel
theorem dX8_with_42 : decode cX8_with 42 = .ok (.goto 4, 3) := by decide +kernel
theorem dX8_with_45 : decode cX8_with 45 = .ok (.iconst 0, 1) := by decide +kernel
theorem dX8_with_46 : decode cX8_with 46 = .ok (.ior, 1) := by decide +kernel
theorem dX8_with_47 : decode cX8_with 47 = .ok (.istore_n 3, 1) := by decide +kernel
theorem dX8_with_48 : decode cX8_with 48 = .ok (.iinc 4 1, 3) := by decide +kernel
theorem dX8_with_51 : decode cX8_with 51 = .ok (.goto (-46), 3) := by decide +kernel
theorem dX8_with_54 : decode cX8_with 54 = .ok (.iload_n 3, 1) := by decide +kernel
theorem dX8_with_55 : decode cX8_with 55 = .ok (.ireturn, 1) := by decide +kernel
set_option maxRecDepth 20000 in
theorem ggX8_majority_X8_in : GoodIn wsX8_majority wsX8_in := goodIn_r _ [5] (by decide +kernel) (by decide +kernel)
set_option maxRecDepth 20000 in
theorem gX8_majority_X8_in : GoodIn wsX8_majority (va_wsS RX8 70 yX8_in wsX8_in) := goodIn_app (goodIn_of _ (by decide +kernel)) ggX8_majority_X8_in
set_option maxRecDepth 20000 in
theorem ggX8_majority_X8_versions : GoodIn wsX8_majority wsX8_versions := goodIn_r _ [9, 10, 11, 12, 13, 14, 25, 26, 27, 28, 29, 30, 31, 32, 33, 34, 35, 36, 37, 38, 39, 40, 41, 42, 43, 44, 45, 46] (by decide +kernel) (by decide +kernel)
set_option maxRecDepth 20000 in
theorem gX8_majority_X8_versions : GoodIn wsX8_majority (wsV RX8 131 RX8 yX8_versions wsX8_versions) := goodIn_app (goodIn_of _ (by decide +kernel)) ggX8_majority_X8_versions
set_option maxRecDepth 20000 in
theorem ggX8_majority_X8_with : GoodIn wsX8_majority wsX8_with := goodIn_r _ [18, 10, 12, 19, 20, 4, 21, 25, 26, 27, 28, 29, 30, 31, 32, 33, 34, 35, 36, 37, 38, 39, 40, 41, 42, 43, 44, 45, 46] (by decide +kernel) (by decide +kernel)
set_option maxRecDepth 20000 in
theorem gX8_majority_X8_with : GoodIn wsX8_majority (wsV RX8 134 RX8 yX8_with wsX8_with) := goodIn_app (goodIn_of _ (by decide +kernel)) ggX8_majority_X8_with
set_option maxRecDepth 20000 in
theorem ggX8_majority_X8_sizeOf : GoodIn wsX8_majority wsX8_sizeOf := goodIn_r _ [24] (by decide +kernel) (by decide +kernel)
set_option maxRecDepth 20000 in
theorem gX8_majority_X8_sizeOf : GoodIn wsX8_majority (va_wsS RX8 63 yX8_sizeOf wsX8_sizeOf) := goodIn_app (goodIn_of _ (by decide +kernel)) ggX8_majority_X8_sizeOf
theorem dX8_majority_0 : decode cX8_majority 0 = .ok (.iload_n 1, 1) := by decide +kernel
theorem dX8_majority_1 : decode cX8_majority 1 = .ok (.i2l, 1) := by decide +kernel
theorem dX8_majority_2 : decode cX8_majority 2 = .ok (.lconst 0, 1) := by decide +kernel
theorem dX8_majority_3 : decode cX8_majority 3 = .ok (.aload_n 0, 1) := by decide +kernel
theorem dX8_majority_4 : decode cX8_majority 4 = .ok (.getfield 9, 3) := by decide +kernel
theorem dX8_majority_7 : decode cX8_majority 7 = .ok (.iconst 1, 1) := by decide +kernel
theorem dX8_majority_8 : decode cX8_majority 8 = .ok (.isub, 1) := by decide +kernel
theorem dX8_majority_9 : decode cX8_majority 9 = .ok (.i2l, 1) := by decide +kernel
theorem dX8_majority_10 : decode cX8_majority 10 = .ok (.invokestatic 70, 3) := by decide +kernel
theorem dX8_majority_13 : decode cX8_majority 13 = .ok (.ifCond .ne 6, 3) := by decide +kernel
theorem dX8_majority_16 : decode cX8_majority 16 = .ok (.bipush (-3), 2) := by decide +kernel
theorem dX8_majority_18 : decode cX8_majority 18 = .ok (.ireturn, 1) := by decide +kernel
theorem dX8_majority_19 : decode cX8_majority 19 = .ok (.aload_n 0, 1) := by decide +kernel
theorem dX8_majority_20 : decode cX8_majority 20 = .ok (.invokevirtual 131, 3) := by decide +kernel
theorem dX8_majority_23 : decode cX8_majority 23 = .ok (.istore_n 2, 1) := by decide +kernel
theorem dX8_majority_24 : decode cX8_majority 24 = .ok (.iload_n 2, 1) := by decide +kernel
theorem dX8_majority_25 : decode cX8_majority 25 = .ok (.ifCond .ne 6, 3) := by decide +kernel
theorem dX8_majority_28 : decode cX8_majority 28 = .ok (.bipush (-7), 2) := by decide +kernel
theorem dX8_majority_30 : decode cX8_majority 30 = .ok (.ireturn, 1) := by decide +kernel
theorem dX8_majority_31 : decode cX8_majority 31 = .ok (.aload_n 0, 1) := by decide +kernel
theorem dX8_majority_32 : decode cX8_majority 32 = .ok (.iload_n 2, 1) := by decide +kernel
theorem dX8_majority_33 : decode cX8_majority 33 = .ok (.iload_n 1, 1) := by decide +kernel
theorem dX8_majority_34 : decode cX8_majority 34 = .ok (.invokevirtual 134, 3) := by decide +kernel
theorem dX8_majority_37 : decode cX8_majority 37 = .ok (.invokestatic 63, 3) := by decide +kernel
theorem dX8_majority_40 : decode cX8_majority 40 = .ok (.istore_n 3, 1) := by decide +kernel
theorem dX8_majority_41 : decode cX8_majority 41 = .ok (.iload_n 2, 1) := by decide +kernel
theorem dX8_majority_42 : decode cX8_majority 42 = .ok (.invokestatic 63, 3) := by decide +kernel
theorem dX8_majority_45 : decode cX8_majority 45 = .ok (.iload_n 3, 1) := by decide +kernel
theorem dX8_majority_46 : decode cX8_majority 46 = .ok (.isub, 1) := by decide +kernel
theorem dX8_majority_47 : decode cX8_majority 47 = .ok (.istore 4, 2) := by decide +kernel
theorem dX8_majority_49 : decode cX8_majority 49 = .ok (.iload_n 3, 1) := by decide +kernel
theorem dX8_majority_50 : decode cX8_majority 50 = .ok (.iload 4, 2) := by decide +kernel
theorem dX8_majority_52 : decode cX8_majority 52 = .ok (.if_icmp .le 7, 3) := by decide +kernel
theorem dX8_majority_55 : decode cX8_majority 55 = .ok (.iconst 1, 1) := by decide +kernel
theorem dX8_majority_56 : decode cX8_majority 56 = .ok (.goto 14, 3) := by decide +kernel
theorem dX8_majority_59 : decode cX8_majority 59 = .ok (.iload_n 3, 1) := by decide +kernel
theorem dX8_majority_60 : decode cX8_majority 60 = .ok (.iload 4, 2) := by decide +kernel
theorem dX8_majority_62 : decode cX8_majority 62 = .ok (.if_icmp .ge 7, 3) := by decide +kernel
theorem dX8_majority_65 : decode cX8_majority 65 = .ok (.iconst 0, 1) := by decide +kernel
theorem dX8_majority_66 : decode cX8_majority 66 = .ok (.goto 4, 3) := by decide +kernel
theorem dX8_majority_69 : decode cX8_majority 69 = .ok (.iconst 2, 1) := by decide +kernel
theorem dX8_majority_70 : decode cX8_majority 70 = .ok (.ireturn, 1) := by decide +kernel
set_option maxRecDepth 20000 in
theorem ggX8_depth_X8_sizeOf : GoodIn wsX8_depth wsX8_sizeOf := goodIn_r _ [5] (by decide +kernel) (by decide +kernel)
set_option maxRecDepth 20000 in
theorem gX8_depth_X8_sizeOf : GoodIn wsX8_depth (va_wsS RX8 63 yX8_sizeOf wsX8_sizeOf) := goodIn_app (goodIn_of _ (by decide +kernel)) ggX8_depth_X8_sizeOf
set_option maxRecDepth 20000 in
theorem ggX8_depth_X8_asked : GoodIn wsX8_depth wsX8_asked := goodIn_r _ [8, 9, 10, 11, 4, 12, 13, 14, 15, 16, 17, 18, 19, 0, 1, 2, 3, 5, 6, 7, 20, 21, 22, 23, 24, 25, 26, 27, 28, 29, 30, 31, 32, 33, 34, 35, 36, 37, 38, 39, 40, 41] (by decide +kernel) (by decide +kernel)
set_option maxRecDepth 20000 in
theorem gX8_depth_X8_asked : GoodIn wsX8_depth (va_wsS RX8 137 yX8_asked wsX8_asked) := goodIn_app (goodIn_of _ (by decide +kernel)) ggX8_depth_X8_asked
theorem dX8_depth_0 : decode cX8_depth 0 = .ok (.iload_n 1, 1) := by decide +kernel
theorem dX8_depth_1 : decode cX8_depth 1 = .ok (.invokestatic 63, 3) := by decide +kernel
theorem dX8_depth_4 : decode cX8_depth 4 = .ok (.iconst 1, 1) := by decide +kernel
theorem dX8_depth_5 : decode cX8_depth 5 = .ok (.if_icmp .gt 5, 3) := by decide +kernel
theorem dX8_depth_8 : decode cX8_depth 8 = .ok (.iconst 0, 1) := by decide +kernel
theorem dX8_depth_9 : decode cX8_depth 9 = .ok (.ireturn, 1) := by decide +kernel
theorem dX8_depth_10 : decode cX8_depth 10 = .ok (.bipush 9, 2) := by decide +kernel
theorem dX8_depth_12 : decode cX8_depth 12 = .ok (.istore_n 2, 1) := by decide +kernel
theorem dX8_depth_13 : decode cX8_depth 13 = .ok (.iconst 0, 1) := by decide +kernel
theorem dX8_depth_14 : decode cX8_depth 14 = .ok (.istore_n 3, 1) := by decide +kernel
theorem dX8_depth_15 : decode cX8_depth 15 = .ok (.iload_n 3, 1) := by decide +kernel
theorem dX8_depth_16 : decode cX8_depth 16 = .ok (.aload_n 0, 1) := by decide +kernel
theorem dX8_depth_17 : decode cX8_depth 17 = .ok (.getfield 9, 3) := by decide +kernel
theorem dX8_depth_20 : decode cX8_depth 20 = .ok (.if_icmp .ge 30, 3) := by decide +kernel
theorem dX8_depth_23 : decode cX8_depth 23 = .ok (.aload_n 0, 1) := by decide +kernel
theorem dX8_depth_24 : decode cX8_depth 24 = .ok (.iload_n 1, 1) := by decide +kernel
theorem dX8_depth_25 : decode cX8_depth 25 = .ok (.iload_n 3, 1) := by decide +kernel
theorem dX8_depth_26 : decode cX8_depth 26 = .ok (.invokestatic 137, 3) := by decide +kernel
theorem dX8_depth_29 : decode cX8_depth 29 = .ok (.istore 4, 2) := by decide +kernel
theorem dX8_depth_31 : decode cX8_depth 31 = .ok (.iload 4, 2) := by decide +kernel
theorem dX8_depth_33 : decode cX8_depth 33 = .ok (.iload_n 2, 1) := by decide +kernel
theorem dX8_depth_34 : decode cX8_depth 34 = .ok (.if_icmp .ge 8, 3) := by decide +kernel
theorem dX8_depth_37 : decode cX8_depth 37 = .ok (.iload 4, 2) := by decide +kernel
theorem dX8_depth_39 : decode cX8_depth 39 = .ok (.goto 4, 3) := by decide +kernel
theorem dX8_depth_42 : decode cX8_depth 42 = .ok (.iload_n 2, 1) := by decide +kernel
theorem dX8_depth_43 : decode cX8_depth 43 = .ok (.istore_n 2, 1) := by decide +kernel
theorem dX8_depth_44 : decode cX8_depth 44 = .ok (.iinc 3 1, 3) := by decide +kernel
theorem dX8_depth_47 : decode cX8_depth 47 = .ok (.goto (-32), 3) := by decide +kernel
theorem dX8_depth_50 : decode cX8_depth 50 = .ok (.iload_n 2, 1) := by decide +kernel
theorem dX8_depth_51 : decode cX8_depth 51 = .ok (.ireturn, 1) := by decide +kernel
set_option maxRecDepth 20000 in
theorem ggX8_asked_X8_with : GoodIn wsX8_asked wsX8_with := goodIn_r _ [5, 6, 7, 8, 9, 4, 10, 20, 21, 22, 23, 24, 25, 26, 27, 28, 29, 30, 31, 32, 33, 34, 35, 36, 37, 38, 39, 40, 41] (by decide +kernel) (by decide +kernel)
set_option maxRecDepth 20000 in
theorem gX8_asked_X8_with : GoodIn wsX8_asked (wsV RX8 134 RX8 yX8_with wsX8_with) := goodIn_app (goodIn_of _ (by decide +kernel)) ggX8_asked_X8_with
set_option maxRecDepth 20000 in
theorem ggX8_asked_X8_depth : GoodIn wsX8_asked wsX8_depth := goodIn_r _ [13, 14, 15, 16, 4, 17, 18, 19, 0, 1, 2, 3, 5, 6, 7, 8, 9, 10, 11, 12, 20, 21, 22, 23, 24, 25, 26, 27, 28, 29, 30, 31, 32, 33, 34, 35, 36, 37, 38, 39, 40, 41] (by decide +kernel) (by decide +kernel)
set_option maxRecDepth 20000 in
theorem gX8_asked_X8_depth : GoodIn wsX8_asked (va_wsS RX8 141 yX8_depth wsX8_depth) := goodIn_app (goodIn_of _ (by decide +kernel)) ggX8_asked_X8_depth
theorem dX8_asked_0 : decode cX8_asked 0 = .ok (.aload_n 0, 1) := by decide +kernel
theorem dX8_asked_1 : decode cX8_asked 1 = .ok (.iload_n 1, 1) := by decide +kernel
theorem dX8_asked_2 : decode cX8_asked 2 = .ok (.iload_n 2, 1) := by decide +kernel
theorem dX8_asked_3 : decode cX8_asked 3 = .ok (.invokevirtual 134, 3) := by decide +kernel
theorem dX8_asked_6 : decode cX8_asked 6 = .ok (.istore_n 3, 1) := by decide +kernel
theorem dX8_asked_7 : decode cX8_asked 7 = .ok (.iload_n 3, 1) := by decide +kernel
theorem dX8_asked_8 : decode cX8_asked 8 = .ok (.ifCond .eq 8, 3) := by decide +kernel
theorem dX8_asked_11 : decode cX8_asked 11 = .ok (.iload_n 3, 1) := by decide +kernel
theorem dX8_asked_12 : decode cX8_asked 12 = .ok (.iload_n 1, 1) := by decide +kernel
theorem dX8_asked_13 : decode cX8_asked 13 = .ok (.if_icmp .ne 6, 3) := by decide +kernel
theorem dX8_asked_16 : decode cX8_asked 16 = .ok (.bipush 9, 2) := by decide +kernel
theorem dX8_asked_18 : decode cX8_asked 18 = .ok (.ireturn, 1) := by decide +kernel
theorem dX8_asked_19 : decode cX8_asked 19 = .ok (.aload_n 0, 1) := by decide +kernel
theorem dX8_asked_20 : decode cX8_asked 20 = .ok (.iload_n 3, 1) := by decide +kernel
theorem dX8_asked_21 : decode cX8_asked 21 = .ok (.invokestatic 141, 3) := by decide +kernel
theorem dX8_asked_24 : decode cX8_asked 24 = .ok (.istore 4, 2) := by decide +kernel
theorem dX8_asked_26 : decode cX8_asked 26 = .ok (.aload_n 0, 1) := by decide +kernel
theorem dX8_asked_27 : decode cX8_asked 27 = .ok (.iload_n 1, 1) := by decide +kernel
theorem dX8_asked_28 : decode cX8_asked 28 = .ok (.iload_n 3, 1) := by decide +kernel
theorem dX8_asked_29 : decode cX8_asked 29 = .ok (.iconst (-1), 1) := by decide +kernel
theorem dX8_asked_30 : decode cX8_asked 30 = .ok (.ixor, 1) := by decide +kernel
theorem dX8_asked_31 : decode cX8_asked 31 = .ok (.iand, 1) := by decide +kernel
theorem dX8_asked_32 : decode cX8_asked 32 = .ok (.invokestatic 141, 3) := by decide +kernel
theorem dX8_asked_35 : decode cX8_asked 35 = .ok (.istore 5, 2) := by decide +kernel
theorem dX8_asked_37 : decode cX8_asked 37 = .ok (.iconst 1, 1) := by decide +kernel
theorem dX8_asked_38 : decode cX8_asked 38 = .ok (.iload 4, 2) := by decide +kernel
theorem dX8_asked_40 : decode cX8_asked 40 = .ok (.iload 5, 2) := by decide +kernel
theorem dX8_asked_42 : decode cX8_asked 42 = .ok (.if_icmp .le 8, 3) := by decide +kernel
theorem dX8_asked_45 : decode cX8_asked 45 = .ok (.iload 4, 2) := by decide +kernel
theorem dX8_asked_47 : decode cX8_asked 47 = .ok (.goto 5, 3) := by decide +kernel
theorem dX8_asked_50 : decode cX8_asked 50 = .ok (.iload 5, 2) := by decide +kernel
theorem dX8_asked_52 : decode cX8_asked 52 = .ok (.iadd, 1) := by decide +kernel
theorem dX8_asked_53 : decode cX8_asked 53 = .ok (.ireturn, 1) := by decide +kernel
set_option maxRecDepth 20000 in
theorem ggX8_queryDepth_X8_versions : GoodIn wsX8_queryDepth wsX8_versions := goodIn_r _ [5, 6, 7, 8, 9, 10, 28, 29, 30, 31, 32, 33, 34, 35, 36, 37, 38, 39, 40, 41, 42, 43, 44, 45, 46, 47, 48, 49] (by decide +kernel) (by decide +kernel)
set_option maxRecDepth 20000 in
theorem gX8_queryDepth_X8_versions : GoodIn wsX8_queryDepth (wsV RX8 131 RX8 yX8_versions wsX8_versions) := goodIn_app (goodIn_of _ (by decide +kernel)) ggX8_queryDepth_X8_versions
set_option maxRecDepth 20000 in
theorem ggX8_queryDepth_X8_depth : GoodIn wsX8_queryDepth wsX8_depth := goodIn_r _ [13, 14, 15, 16, 4, 17, 18, 19, 20, 21, 22, 23, 24, 6, 8, 25, 26, 27, 11, 12, 28, 29, 30, 31, 32, 33, 34, 35, 36, 37, 38, 39, 40, 41, 42, 43, 44, 45, 46, 47, 48, 49] (by decide +kernel) (by decide +kernel)
set_option maxRecDepth 20000 in
theorem gX8_queryDepth_X8_depth : GoodIn wsX8_queryDepth (va_wsS RX8 141 yX8_depth wsX8_depth) := goodIn_app (goodIn_of _ (by decide +kernel)) ggX8_queryDepth_X8_depth
theorem dX8_queryDepth_0 : decode cX8_queryDepth 0 = .ok (.aload_n 0, 1) := by decide +kernel
theorem dX8_queryDepth_1 : decode cX8_queryDepth 1 = .ok (.invokevirtual 131, 3) := by decide +kernel
theorem dX8_queryDepth_4 : decode cX8_queryDepth 4 = .ok (.istore_n 1, 1) := by decide +kernel
theorem dX8_queryDepth_5 : decode cX8_queryDepth 5 = .ok (.iload_n 1, 1) := by decide +kernel
theorem dX8_queryDepth_6 : decode cX8_queryDepth 6 = .ok (.ifCond .ne 8, 3) := by decide +kernel
theorem dX8_queryDepth_9 : decode cX8_queryDepth 9 = .ok (.bipush (-7), 2) := by decide +kernel
theorem dX8_queryDepth_11 : decode cX8_queryDepth 11 = .ok (.goto 8, 3) := by decide +kernel
theorem dX8_queryDepth_14 : decode cX8_queryDepth 14 = .ok (.aload_n 0, 1) := by decide +kernel
theorem dX8_queryDepth_15 : decode cX8_queryDepth 15 = .ok (.iload_n 1, 1) := by decide +kernel
theorem dX8_queryDepth_16 : decode cX8_queryDepth 16 = .ok (.invokestatic 141, 3) := by decide +kernel
theorem dX8_queryDepth_19 : decode cX8_queryDepth 19 = .ok (.ireturn, 1) := by decide +kernel
set_option maxRecDepth 20000 in
theorem ggX8_bestQuery_X8_versions : GoodIn wsX8_bestQuery wsX8_versions := goodIn_r _ [6, 7, 8, 9, 10, 11, 28, 29, 30, 31, 32, 33, 34, 35, 36, 37, 38, 39, 40, 41, 42, 43, 44, 45, 46, 47, 48, 49] (by decide +kernel) (by decide +kernel)
set_option maxRecDepth 20000 in
theorem gX8_bestQuery_X8_versions : GoodIn wsX8_bestQuery (wsV RX8 131 RX8 yX8_versions wsX8_versions) := goodIn_app (goodIn_of _ (by decide +kernel)) ggX8_bestQuery_X8_versions
set_option maxRecDepth 20000 in
theorem ggX8_bestQuery_X8_sizeOf : GoodIn wsX8_bestQuery wsX8_sizeOf := goodIn_r _ [14] (by decide +kernel) (by decide +kernel)
set_option maxRecDepth 20000 in
theorem gX8_bestQuery_X8_sizeOf : GoodIn wsX8_bestQuery (va_wsS RX8 63 yX8_sizeOf wsX8_sizeOf) := goodIn_app (goodIn_of _ (by decide +kernel)) ggX8_bestQuery_X8_sizeOf
set_option maxRecDepth 20000 in
theorem ggX8_bestQuery_X8_asked : GoodIn wsX8_bestQuery wsX8_asked := goodIn_r _ [17, 18, 19, 20, 5, 21, 7, 9, 22, 23, 24, 25, 26, 27, 1, 12, 13, 14, 15, 16, 28, 29, 30, 31, 32, 33, 34, 35, 36, 37, 38, 39, 40, 41, 42, 43, 44, 45, 46, 47, 48, 49] (by decide +kernel) (by decide +kernel)
set_option maxRecDepth 20000 in
theorem gX8_bestQuery_X8_asked : GoodIn wsX8_bestQuery (va_wsS RX8 137 yX8_asked wsX8_asked) := goodIn_app (goodIn_of _ (by decide +kernel)) ggX8_bestQuery_X8_asked
theorem dX8_bestQuery_0 : decode cX8_bestQuery 0 = .ok (.aload_n 0, 1) := by decide +kernel
theorem dX8_bestQuery_1 : decode cX8_bestQuery 1 = .ok (.invokevirtual 131, 3) := by decide +kernel
theorem dX8_bestQuery_4 : decode cX8_bestQuery 4 = .ok (.istore_n 1, 1) := by decide +kernel
theorem dX8_bestQuery_5 : decode cX8_bestQuery 5 = .ok (.iload_n 1, 1) := by decide +kernel
theorem dX8_bestQuery_6 : decode cX8_bestQuery 6 = .ok (.ifCond .ne 6, 3) := by decide +kernel
theorem dX8_bestQuery_9 : decode cX8_bestQuery 9 = .ok (.bipush (-7), 2) := by decide +kernel
theorem dX8_bestQuery_11 : decode cX8_bestQuery 11 = .ok (.ireturn, 1) := by decide +kernel
theorem dX8_bestQuery_12 : decode cX8_bestQuery 12 = .ok (.iload_n 1, 1) := by decide +kernel
theorem dX8_bestQuery_13 : decode cX8_bestQuery 13 = .ok (.invokestatic 63, 3) := by decide +kernel
theorem dX8_bestQuery_16 : decode cX8_bestQuery 16 = .ok (.iconst 1, 1) := by decide +kernel
theorem dX8_bestQuery_17 : decode cX8_bestQuery 17 = .ok (.if_icmp .ne 6, 3) := by decide +kernel
theorem dX8_bestQuery_20 : decode cX8_bestQuery 20 = .ok (.bipush (-6), 2) := by decide +kernel
theorem dX8_bestQuery_22 : decode cX8_bestQuery 22 = .ok (.ireturn, 1) := by decide +kernel
theorem dX8_bestQuery_23 : decode cX8_bestQuery 23 = .ok (.iconst 0, 1) := by decide +kernel
theorem dX8_bestQuery_24 : decode cX8_bestQuery 24 = .ok (.istore_n 2, 1) := by decide +kernel
theorem dX8_bestQuery_25 : decode cX8_bestQuery 25 = .ok (.bipush 10, 2) := by decide +kernel
theorem dX8_bestQuery_27 : decode cX8_bestQuery 27 = .ok (.istore_n 3, 1) := by decide +kernel
theorem dX8_bestQuery_28 : decode cX8_bestQuery 28 = .ok (.iconst 0, 1) := by decide +kernel
theorem dX8_bestQuery_29 : decode cX8_bestQuery 29 = .ok (.istore 4, 2) := by decide +kernel
theorem dX8_bestQuery_31 : decode cX8_bestQuery 31 = .ok (.iload 4, 2) := by decide +kernel
theorem dX8_bestQuery_33 : decode cX8_bestQuery 33 = .ok (.aload_n 0, 1) := by decide +kernel
theorem dX8_bestQuery_34 : decode cX8_bestQuery 34 = .ok (.getfield 9, 3) := by decide +kernel
theorem dX8_bestQuery_37 : decode cX8_bestQuery 37 = .ok (.if_icmp .ge 44, 3) := by decide +kernel
theorem dX8_bestQuery_40 : decode cX8_bestQuery 40 = .ok (.aload_n 0, 1) := by decide +kernel
theorem dX8_bestQuery_41 : decode cX8_bestQuery 41 = .ok (.iload_n 1, 1) := by decide +kernel
theorem dX8_bestQuery_42 : decode cX8_bestQuery 42 = .ok (.iload 4, 2) := by decide +kernel
theorem dX8_bestQuery_44 : decode cX8_bestQuery 44 = .ok (.invokestatic 137, 3) := by decide +kernel
theorem dX8_bestQuery_47 : decode cX8_bestQuery 47 = .ok (.istore 5, 2) := by decide +kernel
theorem dX8_bestQuery_49 : decode cX8_bestQuery 49 = .ok (.iload 5, 2) := by decide +kernel
theorem dX8_bestQuery_51 : decode cX8_bestQuery 51 = .ok (.iload_n 3, 1) := by decide +kernel
theorem dX8_bestQuery_52 : decode cX8_bestQuery 52 = .ok (.if_icmp .ge 8, 3) := by decide +kernel
theorem dX8_bestQuery_55 : decode cX8_bestQuery 55 = .ok (.iload 4, 2) := by decide +kernel
theorem dX8_bestQuery_57 : decode cX8_bestQuery 57 = .ok (.goto 4, 3) := by decide +kernel
theorem dX8_bestQuery_60 : decode cX8_bestQuery 60 = .ok (.iload_n 2, 1) := by decide +kernel
theorem dX8_bestQuery_61 : decode cX8_bestQuery 61 = .ok (.istore_n 2, 1) := by decide +kernel
theorem dX8_bestQuery_62 : decode cX8_bestQuery 62 = .ok (.iload 5, 2) := by decide +kernel
theorem dX8_bestQuery_64 : decode cX8_bestQuery 64 = .ok (.iload_n 3, 1) := by decide +kernel
theorem dX8_bestQuery_65 : decode cX8_bestQuery 65 = .ok (.if_icmp .ge 8, 3) := by decide +kernel
theorem dX8_bestQuery_68 : decode cX8_bestQuery 68 = .ok (.iload 5, 2) := by decide +kernel
theorem dX8_bestQuery_70 : decode cX8_bestQuery 70 = .ok (.goto 4, 3) := by decide +kernel
theorem dX8_bestQuery_73 : decode cX8_bestQuery 73 = .ok (.iload_n 3, 1) := by decide +kernel
theorem dX8_bestQuery_74 : decode cX8_bestQuery 74 = .ok (.istore_n 3, 1) := by decide +kernel
theorem dX8_bestQuery_75 : decode cX8_bestQuery 75 = .ok (.iinc 4 1, 3) := by decide +kernel
theorem dX8_bestQuery_78 : decode cX8_bestQuery 78 = .ok (.goto (-47), 3) := by decide +kernel
theorem dX8_bestQuery_81 : decode cX8_bestQuery 81 = .ok (.iload_n 2, 1) := by decide +kernel
theorem dX8_bestQuery_82 : decode cX8_bestQuery 82 = .ok (.ireturn, 1) := by decide +kernel
set_option maxRecDepth 20000 in
theorem ggX8_halvingMistakes_X8_isConcept : GoodIn wsX8_halvingMistakes wsX8_isConcept := goodIn_r _ [7, 8, 9, 10, 6, 11, 26, 27, 28, 29, 30, 31, 32, 33, 34, 35, 36, 37, 38, 39, 40, 41, 42, 43, 44, 45, 46, 47] (by decide +kernel) (by decide +kernel)
set_option maxRecDepth 20000 in
theorem gX8_halvingMistakes_X8_isConcept : GoodIn wsX8_halvingMistakes (wsV RX8 93 RX8 yX8_isConcept wsX8_isConcept) := goodIn_app (goodIn_of _ (by decide +kernel)) ggX8_halvingMistakes_X8_isConcept
set_option maxRecDepth 20000 in
theorem ggX8_halvingMistakes_X8_all : GoodIn wsX8_halvingMistakes wsX8_all := goodIn_r _ [15, 8, 26, 27, 28, 29, 30, 31, 32, 33, 34, 35, 36, 37, 38, 39, 40, 41, 42, 43, 44, 45, 46, 47] (by decide +kernel) (by decide +kernel)
set_option maxRecDepth 20000 in
theorem gX8_halvingMistakes_X8_all : GoodIn wsX8_halvingMistakes (wsV RX8 108 RX8 yX8_all wsX8_all) := goodIn_app (goodIn_of _ (by decide +kernel)) ggX8_halvingMistakes_X8_all
set_option maxRecDepth 20000 in
theorem ggX8_halvingMistakes_X8_with : GoodIn wsX8_halvingMistakes wsX8_with := goodIn_r _ [19, 8, 2, 20, 21, 6, 22, 26, 27, 28, 29, 30, 31, 32, 33, 34, 35, 36, 37, 38, 39, 40, 41, 42, 43, 44, 45, 46, 47] (by decide +kernel) (by decide +kernel)
set_option maxRecDepth 20000 in
theorem gX8_halvingMistakes_X8_with : GoodIn wsX8_halvingMistakes (wsV RX8 134 RX8 yX8_with wsX8_with) := goodIn_app (goodIn_of _ (by decide +kernel)) ggX8_halvingMistakes_X8_with
set_option maxRecDepth 20000 in
theorem ggX8_halvingMistakes_X8_sizeOf : GoodIn wsX8_halvingMistakes wsX8_sizeOf := goodIn_r _ [25] (by decide +kernel) (by decide +kernel)
set_option maxRecDepth 20000 in
theorem gX8_halvingMistakes_X8_sizeOf : GoodIn wsX8_halvingMistakes (va_wsS RX8 63 yX8_sizeOf wsX8_sizeOf) := goodIn_app (goodIn_of _ (by decide +kernel)) ggX8_halvingMistakes_X8_sizeOf
set_option maxRecDepth 20000 in
theorem ggX8_halvingMistakes_X8_has : GoodIn wsX8_halvingMistakes wsX8_has := goodIn_r _ [22] (by decide +kernel) (by decide +kernel)
set_option maxRecDepth 20000 in
theorem gX8_halvingMistakes_X8_has : GoodIn wsX8_halvingMistakes (va_wsS RX8 96 yX8_has wsX8_has) := goodIn_app (goodIn_of _ (by decide +kernel)) ggX8_halvingMistakes_X8_has
theorem dX8_halvingMistakes_0 : decode cX8_halvingMistakes 0 = .ok (.aload_n 0, 1) := by decide +kernel
theorem dX8_halvingMistakes_1 : decode cX8_halvingMistakes 1 = .ok (.iload_n 1, 1) := by decide +kernel
theorem dX8_halvingMistakes_2 : decode cX8_halvingMistakes 2 = .ok (.invokevirtual 93, 3) := by decide +kernel
theorem dX8_halvingMistakes_5 : decode cX8_halvingMistakes 5 = .ok (.ifCond .ne 6, 3) := by decide +kernel
theorem dX8_halvingMistakes_8 : decode cX8_halvingMistakes 8 = .ok (.bipush (-2), 2) := by decide +kernel
theorem dX8_halvingMistakes_10 : decode cX8_halvingMistakes 10 = .ok (.ireturn, 1) := by decide +kernel
theorem dX8_halvingMistakes_11 : decode cX8_halvingMistakes 11 = .ok (.aload_n 0, 1) := by decide +kernel
theorem dX8_halvingMistakes_12 : decode cX8_halvingMistakes 12 = .ok (.invokevirtual 108, 3) := by decide +kernel
theorem dX8_halvingMistakes_15 : decode cX8_halvingMistakes 15 = .ok (.istore_n 2, 1) := by decide +kernel
theorem dX8_halvingMistakes_16 : decode cX8_halvingMistakes 16 = .ok (.iconst 0, 1) := by decide +kernel
theorem dX8_halvingMistakes_17 : decode cX8_halvingMistakes 17 = .ok (.istore_n 3, 1) := by decide +kernel
theorem dX8_halvingMistakes_18 : decode cX8_halvingMistakes 18 = .ok (.iconst 0, 1) := by decide +kernel
theorem dX8_halvingMistakes_19 : decode cX8_halvingMistakes 19 = .ok (.istore 4, 2) := by decide +kernel
theorem dX8_halvingMistakes_21 : decode cX8_halvingMistakes 21 = .ok (.iload 4, 2) := by decide +kernel
theorem dX8_halvingMistakes_23 : decode cX8_halvingMistakes 23 = .ok (.aload_n 0, 1) := by decide +kernel
theorem dX8_halvingMistakes_24 : decode cX8_halvingMistakes 24 = .ok (.getfield 9, 3) := by decide +kernel
theorem dX8_halvingMistakes_27 : decode cX8_halvingMistakes 27 = .ok (.if_icmp .ge 84, 3) := by decide +kernel
theorem dX8_halvingMistakes_30 : decode cX8_halvingMistakes 30 = .ok (.aload_n 0, 1) := by decide +kernel
theorem dX8_halvingMistakes_31 : decode cX8_halvingMistakes 31 = .ok (.iload_n 2, 1) := by decide +kernel
theorem dX8_halvingMistakes_32 : decode cX8_halvingMistakes 32 = .ok (.iload 4, 2) := by decide +kernel
theorem dX8_halvingMistakes_34 : decode cX8_halvingMistakes 34 = .ok (.invokevirtual 134, 3) := by decide +kernel
theorem dX8_halvingMistakes_37 : decode cX8_halvingMistakes 37 = .ok (.istore 5, 2) := by decide +kernel
theorem dX8_halvingMistakes_39 : decode cX8_halvingMistakes 39 = .ok (.iconst 2, 1) := by decide +kernel
theorem dX8_halvingMistakes_40 : decode cX8_halvingMistakes 40 = .ok (.iload 5, 2) := by decide +kernel
theorem dX8_halvingMistakes_42 : decode cX8_halvingMistakes 42 = .ok (.invokestatic 63, 3) := by decide +kernel
theorem dX8_halvingMistakes_45 : decode cX8_halvingMistakes 45 = .ok (.imul, 1) := by decide +kernel
theorem dX8_halvingMistakes_46 : decode cX8_halvingMistakes 46 = .ok (.iload_n 2, 1) := by decide +kernel
theorem dX8_halvingMistakes_47 : decode cX8_halvingMistakes 47 = .ok (.invokestatic 63, 3) := by decide +kernel
theorem dX8_halvingMistakes_50 : decode cX8_halvingMistakes 50 = .ok (.if_icmp .le 7, 3) := by decide +kernel
theorem dX8_halvingMistakes_53 : decode cX8_halvingMistakes 53 = .ok (.iconst 1, 1) := by decide +kernel
theorem dX8_halvingMistakes_54 : decode cX8_halvingMistakes 54 = .ok (.goto 4, 3) := by decide +kernel
theorem dX8_halvingMistakes_57 : decode cX8_halvingMistakes 57 = .ok (.iconst 0, 1) := by decide +kernel
theorem dX8_halvingMistakes_58 : decode cX8_halvingMistakes 58 = .ok (.istore 6, 2) := by decide +kernel
theorem dX8_halvingMistakes_60 : decode cX8_halvingMistakes 60 = .ok (.aload_n 0, 1) := by decide +kernel
theorem dX8_halvingMistakes_61 : decode cX8_halvingMistakes 61 = .ok (.getfield 19, 3) := by decide +kernel
theorem dX8_halvingMistakes_64 : decode cX8_halvingMistakes 64 = .ok (.iload_n 1, 1) := by decide +kernel
theorem dX8_halvingMistakes_65 : decode cX8_halvingMistakes 65 = .ok (.iaload, 1) := by decide +kernel
theorem dX8_halvingMistakes_66 : decode cX8_halvingMistakes 66 = .ok (.iload 4, 2) := by decide +kernel
theorem dX8_halvingMistakes_68 : decode cX8_halvingMistakes 68 = .ok (.invokestatic 96, 3) := by decide +kernel
theorem dX8_halvingMistakes_71 : decode cX8_halvingMistakes 71 = .ok (.istore 7, 2) := by decide +kernel
theorem dX8_halvingMistakes_73 : decode cX8_halvingMistakes 73 = .ok (.iload_n 3, 1) := by decide +kernel
theorem dX8_halvingMistakes_74 : decode cX8_halvingMistakes 74 = .ok (.iload 6, 2) := by decide +kernel
theorem dX8_halvingMistakes_76 : decode cX8_halvingMistakes 76 = .ok (.iload 7, 2) := by decide +kernel
theorem dX8_halvingMistakes_78 : decode cX8_halvingMistakes 78 = .ok (.if_icmp .eq 7, 3) := by decide +kernel
theorem dX8_halvingMistakes_81 : decode cX8_halvingMistakes 81 = .ok (.iconst 1, 1) := by decide +kernel
theorem dX8_halvingMistakes_82 : decode cX8_halvingMistakes 82 = .ok (.goto 4, 3) := by decide +kernel
theorem dX8_halvingMistakes_85 : decode cX8_halvingMistakes 85 = .ok (.iconst 0, 1) := by decide +kernel
theorem dX8_halvingMistakes_86 : decode cX8_halvingMistakes 86 = .ok (.iadd, 1) := by decide +kernel
theorem dX8_halvingMistakes_87 : decode cX8_halvingMistakes 87 = .ok (.istore_n 3, 1) := by decide +kernel
theorem dX8_halvingMistakes_88 : decode cX8_halvingMistakes 88 = .ok (.iload 7, 2) := by decide +kernel
theorem dX8_halvingMistakes_90 : decode cX8_halvingMistakes 90 = .ok (.ifCond .eq 8, 3) := by decide +kernel
theorem dX8_halvingMistakes_93 : decode cX8_halvingMistakes 93 = .ok (.iload 5, 2) := by decide +kernel
theorem dX8_halvingMistakes_95 : decode cX8_halvingMistakes 95 = .ok (.goto 9, 3) := by decide +kernel
theorem dX8_halvingMistakes_98 : decode cX8_halvingMistakes 98 = .ok (.iload_n 2, 1) := by decide +kernel
theorem dX8_halvingMistakes_99 : decode cX8_halvingMistakes 99 = .ok (.iload 5, 2) := by decide +kernel
theorem dX8_halvingMistakes_101 : decode cX8_halvingMistakes 101 = .ok (.iconst (-1), 1) := by decide +kernel
theorem dX8_halvingMistakes_102 : decode cX8_halvingMistakes 102 = .ok (.ixor, 1) := by decide +kernel
theorem dX8_halvingMistakes_103 : decode cX8_halvingMistakes 103 = .ok (.iand, 1) := by decide +kernel
theorem dX8_halvingMistakes_104 : decode cX8_halvingMistakes 104 = .ok (.istore_n 2, 1) := by decide +kernel
theorem dX8_halvingMistakes_105 : decode cX8_halvingMistakes 105 = .ok (.iinc 4 1, 3) := by decide +kernel
theorem dX8_halvingMistakes_108 : decode cX8_halvingMistakes 108 = .ok (.goto (-87), 3) := by decide +kernel
theorem dX8_halvingMistakes_111 : decode cX8_halvingMistakes 111 = .ok (.iload_n 3, 1) := by decide +kernel
theorem dX8_halvingMistakes_112 : decode cX8_halvingMistakes 112 = .ok (.ireturn, 1) := by decide +kernel
set_option maxRecDepth 20000 in
theorem ggX8_isSlot_X8_in : GoodIn wsX8_isSlot wsX8_in := goodIn_r _ [5] (by decide +kernel) (by decide +kernel)
set_option maxRecDepth 20000 in
theorem gX8_isSlot_X8_in : GoodIn wsX8_isSlot (va_wsS RX8 70 yX8_in wsX8_in) := goodIn_app (goodIn_of _ (by decide +kernel)) ggX8_isSlot_X8_in
theorem dX8_isSlot_0 : decode cX8_isSlot 0 = .ok (.iload_n 0, 1) := by decide +kernel
theorem dX8_isSlot_1 : decode cX8_isSlot 1 = .ok (.i2l, 1) := by decide +kernel
theorem dX8_isSlot_2 : decode cX8_isSlot 2 = .ok (.lconst 0, 1) := by decide +kernel
theorem dX8_isSlot_3 : decode cX8_isSlot 3 = .ok (.ldc2_w 145, 3) := by decide +kernel
theorem dX8_isSlot_6 : decode cX8_isSlot 6 = .ok (.invokestatic 70, 3) := by decide +kernel
theorem dX8_isSlot_9 : decode cX8_isSlot 9 = .ok (.ireturn, 1) := by decide +kernel
set_option maxRecDepth 20000 in
theorem ggX8_allocate_X8_isSlot : GoodIn wsX8_allocate wsX8_isSlot := goodIn_r _ [9, 1, 10, 11, 8, 12] (by decide +kernel) (by decide +kernel)
set_option maxRecDepth 20000 in
theorem gX8_allocate_X8_isSlot : GoodIn wsX8_allocate (va_wsS RX8 147 yX8_isSlot wsX8_isSlot) := goodIn_app (goodIn_of _ (by decide +kernel)) ggX8_allocate_X8_isSlot
set_option maxRecDepth 20000 in
theorem ggX8_allocate_X8_in : GoodIn wsX8_allocate wsX8_in := goodIn_r _ [12] (by decide +kernel) (by decide +kernel)
set_option maxRecDepth 20000 in
theorem gX8_allocate_X8_in : GoodIn wsX8_allocate (va_wsS RX8 70 yX8_in wsX8_in) := goodIn_app (goodIn_of _ (by decide +kernel)) ggX8_allocate_X8_in
theorem dX8_allocate_0 : decode cX8_allocate 0 = .ok (.iload_n 1, 1) := by decide +kernel
theorem dX8_allocate_1 : decode cX8_allocate 1 = .ok (.invokestatic 147, 3) := by decide +kernel
theorem dX8_allocate_4 : decode cX8_allocate 4 = .ok (.ifCond .eq 21, 3) := by decide +kernel
theorem dX8_allocate_7 : decode cX8_allocate 7 = .ok (.iload_n 2, 1) := by decide +kernel
theorem dX8_allocate_8 : decode cX8_allocate 8 = .ok (.i2l, 1) := by decide +kernel
theorem dX8_allocate_9 : decode cX8_allocate 9 = .ok (.lconst 0, 1) := by decide +kernel
theorem dX8_allocate_10 : decode cX8_allocate 10 = .ok (.ldc2_w 145, 3) := by decide +kernel
theorem dX8_allocate_13 : decode cX8_allocate 13 = .ok (.invokestatic 70, 3) := by decide +kernel
theorem dX8_allocate_16 : decode cX8_allocate 16 = .ok (.ifCond .eq 9, 3) := by decide +kernel
theorem dX8_allocate_19 : decode cX8_allocate 19 = .ok (.iload_n 3, 1) := by decide +kernel
theorem dX8_allocate_20 : decode cX8_allocate 20 = .ok (.bipush 40, 2) := by decide +kernel
theorem dX8_allocate_22 : decode cX8_allocate 22 = .ok (.if_icmp .le 5, 3) := by decide +kernel
theorem dX8_allocate_25 : decode cX8_allocate 25 = .ok (.iconst (-1), 1) := by decide +kernel
theorem dX8_allocate_26 : decode cX8_allocate 26 = .ok (.ireturn, 1) := by decide +kernel
theorem dX8_allocate_27 : decode cX8_allocate 27 = .ok (.iload_n 3, 1) := by decide +kernel
theorem dX8_allocate_28 : decode cX8_allocate 28 = .ok (.ifCond .ge 6, 3) := by decide +kernel
theorem dX8_allocate_31 : decode cX8_allocate 31 = .ok (.bipush (-14), 2) := by decide +kernel
theorem dX8_allocate_33 : decode cX8_allocate 33 = .ok (.ireturn, 1) := by decide +kernel
theorem dX8_allocate_34 : decode cX8_allocate 34 = .ok (.aload_n 0, 1) := by decide +kernel
theorem dX8_allocate_35 : decode cX8_allocate 35 = .ok (.getfield 32, 3) := by decide +kernel
theorem dX8_allocate_38 : decode cX8_allocate 38 = .ok (.iload_n 1, 1) := by decide +kernel
theorem dX8_allocate_39 : decode cX8_allocate 39 = .ok (.iload_n 2, 1) := by decide +kernel
theorem dX8_allocate_40 : decode cX8_allocate 40 = .ok (.iastore, 1) := by decide +kernel
theorem dX8_allocate_41 : decode cX8_allocate 41 = .ok (.aload_n 0, 1) := by decide +kernel
theorem dX8_allocate_42 : decode cX8_allocate 42 = .ok (.getfield 35, 3) := by decide +kernel
theorem dX8_allocate_45 : decode cX8_allocate 45 = .ok (.iload_n 1, 1) := by decide +kernel
theorem dX8_allocate_46 : decode cX8_allocate 46 = .ok (.iload_n 3, 1) := by decide +kernel
theorem dX8_allocate_47 : decode cX8_allocate 47 = .ok (.iastore, 1) := by decide +kernel
theorem dX8_allocate_48 : decode cX8_allocate 48 = .ok (.iconst 0, 1) := by decide +kernel
theorem dX8_allocate_49 : decode cX8_allocate 49 = .ok (.istore 4, 2) := by decide +kernel
theorem dX8_allocate_51 : decode cX8_allocate 51 = .ok (.iload 4, 2) := by decide +kernel
theorem dX8_allocate_53 : decode cX8_allocate 53 = .ok (.bipush 40, 2) := by decide +kernel
theorem dX8_allocate_55 : decode cX8_allocate 55 = .ok (.if_icmp .ge 35, 3) := by decide +kernel
theorem dX8_allocate_58 : decode cX8_allocate 58 = .ok (.aload_n 0, 1) := by decide +kernel
theorem dX8_allocate_59 : decode cX8_allocate 59 = .ok (.getfield 38, 3) := by decide +kernel
theorem dX8_allocate_62 : decode cX8_allocate 62 = .ok (.bipush 40, 2) := by decide +kernel
theorem dX8_allocate_64 : decode cX8_allocate 64 = .ok (.iload_n 1, 1) := by decide +kernel
theorem dX8_allocate_65 : decode cX8_allocate 65 = .ok (.imul, 1) := by decide +kernel
theorem dX8_allocate_66 : decode cX8_allocate 66 = .ok (.iload 4, 2) := by decide +kernel
theorem dX8_allocate_68 : decode cX8_allocate 68 = .ok (.iadd, 1) := by decide +kernel
theorem dX8_allocate_69 : decode cX8_allocate 69 = .ok (.lconst 0, 1) := by decide +kernel
theorem dX8_allocate_70 : decode cX8_allocate 70 = .ok (.lastore, 1) := by decide +kernel
theorem dX8_allocate_71 : decode cX8_allocate 71 = .ok (.aload_n 0, 1) := by decide +kernel
theorem dX8_allocate_72 : decode cX8_allocate 72 = .ok (.getfield 42, 3) := by decide +kernel
theorem dX8_allocate_75 : decode cX8_allocate 75 = .ok (.bipush 40, 2) := by decide +kernel
theorem dX8_allocate_77 : decode cX8_allocate 77 = .ok (.iload_n 1, 1) := by decide +kernel
theorem dX8_allocate_78 : decode cX8_allocate 78 = .ok (.imul, 1) := by decide +kernel
theorem dX8_allocate_79 : decode cX8_allocate 79 = .ok (.iload 4, 2) := by decide +kernel
theorem dX8_allocate_81 : decode cX8_allocate 81 = .ok (.iadd, 1) := by decide +kernel
theorem dX8_allocate_82 : decode cX8_allocate 82 = .ok (.dconst 0, 1) := by decide +kernel
theorem dX8_allocate_83 : decode cX8_allocate 83 = .ok (.dastore, 1) := by decide +kernel
theorem dX8_allocate_84 : decode cX8_allocate 84 = .ok (.iinc 4 1, 3) := by decide +kernel
theorem dX8_allocate_87 : decode cX8_allocate 87 = .ok (.goto (-36), 3) := by decide +kernel
theorem dX8_allocate_90 : decode cX8_allocate 90 = .ok (.iload_n 3, 1) := by decide +kernel
theorem dX8_allocate_91 : decode cX8_allocate 91 = .ok (.ireturn, 1) := by decide +kernel
set_option maxRecDepth 20000 in
theorem ggX8_release_X8_isSlot : GoodIn wsX8_release wsX8_isSlot := goodIn_r _ [5, 6, 7, 8, 4, 9] (by decide +kernel) (by decide +kernel)
set_option maxRecDepth 20000 in
theorem gX8_release_X8_isSlot : GoodIn wsX8_release (va_wsS RX8 147 yX8_isSlot wsX8_isSlot) := goodIn_app (goodIn_of _ (by decide +kernel)) ggX8_release_X8_isSlot
theorem dX8_release_0 : decode cX8_release 0 = .ok (.iload_n 1, 1) := by decide +kernel
theorem dX8_release_1 : decode cX8_release 1 = .ok (.invokestatic 147, 3) := by decide +kernel
theorem dX8_release_4 : decode cX8_release 4 = .ok (.ifCond .ne 5, 3) := by decide +kernel
theorem dX8_release_7 : decode cX8_release 7 = .ok (.iconst (-1), 1) := by decide +kernel
theorem dX8_release_8 : decode cX8_release 8 = .ok (.ireturn, 1) := by decide +kernel
theorem dX8_release_9 : decode cX8_release 9 = .ok (.aload_n 0, 1) := by decide +kernel
theorem dX8_release_10 : decode cX8_release 10 = .ok (.getfield 32, 3) := by decide +kernel
theorem dX8_release_13 : decode cX8_release 13 = .ok (.iload_n 1, 1) := by decide +kernel
theorem dX8_release_14 : decode cX8_release 14 = .ok (.iaload, 1) := by decide +kernel
theorem dX8_release_15 : decode cX8_release 15 = .ok (.iconst (-1), 1) := by decide +kernel
theorem dX8_release_16 : decode cX8_release 16 = .ok (.if_icmp .ne 7, 3) := by decide +kernel
theorem dX8_release_19 : decode cX8_release 19 = .ok (.iconst 0, 1) := by decide +kernel
theorem dX8_release_20 : decode cX8_release 20 = .ok (.goto 4, 3) := by decide +kernel
theorem dX8_release_23 : decode cX8_release 23 = .ok (.iconst 1, 1) := by decide +kernel
theorem dX8_release_24 : decode cX8_release 24 = .ok (.istore_n 2, 1) := by decide +kernel
theorem dX8_release_25 : decode cX8_release 25 = .ok (.aload_n 0, 1) := by decide +kernel
theorem dX8_release_26 : decode cX8_release 26 = .ok (.getfield 32, 3) := by decide +kernel
theorem dX8_release_29 : decode cX8_release 29 = .ok (.iload_n 1, 1) := by decide +kernel
theorem dX8_release_30 : decode cX8_release 30 = .ok (.iconst (-1), 1) := by decide +kernel
theorem dX8_release_31 : decode cX8_release 31 = .ok (.iastore, 1) := by decide +kernel
theorem dX8_release_32 : decode cX8_release 32 = .ok (.iload_n 2, 1) := by decide +kernel
theorem dX8_release_33 : decode cX8_release 33 = .ok (.ireturn, 1) := by decide +kernel
set_option maxRecDepth 20000 in
theorem ggX8_isPlace_X8_in : GoodIn wsX8_isPlace wsX8_in := goodIn_r _ [5] (by decide +kernel) (by decide +kernel)
set_option maxRecDepth 20000 in
theorem gX8_isPlace_X8_in : GoodIn wsX8_isPlace (va_wsS RX8 70 yX8_in wsX8_in) := goodIn_app (goodIn_of _ (by decide +kernel)) ggX8_isPlace_X8_in
theorem dX8_isPlace_0 : decode cX8_isPlace 0 = .ok (.iload_n 2, 1) := by decide +kernel
theorem dX8_isPlace_1 : decode cX8_isPlace 1 = .ok (.i2l, 1) := by decide +kernel
theorem dX8_isPlace_2 : decode cX8_isPlace 2 = .ok (.lconst 0, 1) := by decide +kernel
theorem dX8_isPlace_3 : decode cX8_isPlace 3 = .ok (.aload_n 0, 1) := by decide +kernel
theorem dX8_isPlace_4 : decode cX8_isPlace 4 = .ok (.getfield 35, 3) := by decide +kernel
theorem dX8_isPlace_7 : decode cX8_isPlace 7 = .ok (.iload_n 1, 1) := by decide +kernel
theorem dX8_isPlace_8 : decode cX8_isPlace 8 = .ok (.iaload, 1) := by decide +kernel
theorem dX8_isPlace_9 : decode cX8_isPlace 9 = .ok (.iconst 1, 1) := by decide +kernel
theorem dX8_isPlace_10 : decode cX8_isPlace 10 = .ok (.isub, 1) := by decide +kernel
theorem dX8_isPlace_11 : decode cX8_isPlace 11 = .ok (.i2l, 1) := by decide +kernel
theorem dX8_isPlace_12 : decode cX8_isPlace 12 = .ok (.invokestatic 70, 3) := by decide +kernel
theorem dX8_isPlace_15 : decode cX8_isPlace 15 = .ok (.ireturn, 1) := by decide +kernel
set_option maxRecDepth 20000 in
theorem ggX8_putElement_X8_isSlot : GoodIn wsX8_putElement wsX8_isSlot := goodIn_r _ [7, 8, 9, 10, 6, 11] (by decide +kernel) (by decide +kernel)
set_option maxRecDepth 20000 in
theorem gX8_putElement_X8_isSlot : GoodIn wsX8_putElement (va_wsS RX8 147 yX8_isSlot wsX8_isSlot) := goodIn_app (goodIn_of _ (by decide +kernel)) ggX8_putElement_X8_isSlot
set_option maxRecDepth 20000 in
theorem ggX8_putElement_X8_isPlace : GoodIn wsX8_putElement wsX8_isPlace := goodIn_r _ [15, 16, 9, 10, 6, 11, 17, 18, 19, 20, 21, 22, 23, 24, 25, 26, 27, 28, 29, 30, 31, 32, 33, 34, 35, 36, 37, 38] (by decide +kernel) (by decide +kernel)
set_option maxRecDepth 20000 in
theorem gX8_putElement_X8_isPlace : GoodIn wsX8_putElement (wsV RX8 150 RX8 yX8_isPlace wsX8_isPlace) := goodIn_app (goodIn_of _ (by decide +kernel)) ggX8_putElement_X8_isPlace
theorem dX8_putElement_0 : decode cX8_putElement 0 = .ok (.iload_n 1, 1) := by decide +kernel
theorem dX8_putElement_1 : decode cX8_putElement 1 = .ok (.invokestatic 147, 3) := by decide +kernel
theorem dX8_putElement_4 : decode cX8_putElement 4 = .ok (.ifCond .ne 5, 3) := by decide +kernel
theorem dX8_putElement_7 : decode cX8_putElement 7 = .ok (.iconst (-1), 1) := by decide +kernel
theorem dX8_putElement_8 : decode cX8_putElement 8 = .ok (.ireturn, 1) := by decide +kernel
theorem dX8_putElement_9 : decode cX8_putElement 9 = .ok (.aload_n 0, 1) := by decide +kernel
theorem dX8_putElement_10 : decode cX8_putElement 10 = .ok (.getfield 32, 3) := by decide +kernel
theorem dX8_putElement_13 : decode cX8_putElement 13 = .ok (.iload_n 1, 1) := by decide +kernel
theorem dX8_putElement_14 : decode cX8_putElement 14 = .ok (.iaload, 1) := by decide +kernel
theorem dX8_putElement_15 : decode cX8_putElement 15 = .ok (.iconst (-1), 1) := by decide +kernel
theorem dX8_putElement_16 : decode cX8_putElement 16 = .ok (.if_icmp .ne 6, 3) := by decide +kernel
theorem dX8_putElement_19 : decode cX8_putElement 19 = .ok (.bipush (-11), 2) := by decide +kernel
theorem dX8_putElement_21 : decode cX8_putElement 21 = .ok (.ireturn, 1) := by decide +kernel
theorem dX8_putElement_22 : decode cX8_putElement 22 = .ok (.aload_n 0, 1) := by decide +kernel
theorem dX8_putElement_23 : decode cX8_putElement 23 = .ok (.iload_n 1, 1) := by decide +kernel
theorem dX8_putElement_24 : decode cX8_putElement 24 = .ok (.iload_n 2, 1) := by decide +kernel
theorem dX8_putElement_25 : decode cX8_putElement 25 = .ok (.invokevirtual 150, 3) := by decide +kernel
theorem dX8_putElement_28 : decode cX8_putElement 28 = .ok (.ifCond .ne 6, 3) := by decide +kernel
theorem dX8_putElement_31 : decode cX8_putElement 31 = .ok (.bipush (-13), 2) := by decide +kernel
theorem dX8_putElement_33 : decode cX8_putElement 33 = .ok (.ireturn, 1) := by decide +kernel
theorem dX8_putElement_34 : decode cX8_putElement 34 = .ok (.bipush 40, 2) := by decide +kernel
theorem dX8_putElement_36 : decode cX8_putElement 36 = .ok (.iload_n 1, 1) := by decide +kernel
theorem dX8_putElement_37 : decode cX8_putElement 37 = .ok (.imul, 1) := by decide +kernel
theorem dX8_putElement_38 : decode cX8_putElement 38 = .ok (.iload_n 2, 1) := by decide +kernel
theorem dX8_putElement_39 : decode cX8_putElement 39 = .ok (.iadd, 1) := by decide +kernel
theorem dX8_putElement_40 : decode cX8_putElement 40 = .ok (.istore 5, 2) := by decide +kernel
theorem dX8_putElement_42 : decode cX8_putElement 42 = .ok (.aload_n 0, 1) := by decide +kernel
theorem dX8_putElement_43 : decode cX8_putElement 43 = .ok (.getfield 38, 3) := by decide +kernel
theorem dX8_putElement_46 : decode cX8_putElement 46 = .ok (.iload 5, 2) := by decide +kernel
theorem dX8_putElement_48 : decode cX8_putElement 48 = .ok (.aload_n 0, 1) := by decide +kernel
theorem dX8_putElement_49 : decode cX8_putElement 49 = .ok (.getfield 32, 3) := by decide +kernel
theorem dX8_putElement_52 : decode cX8_putElement 52 = .ok (.iload_n 1, 1) := by decide +kernel
theorem dX8_putElement_53 : decode cX8_putElement 53 = .ok (.iaload, 1) := by decide +kernel
theorem dX8_putElement_54 : decode cX8_putElement 54 = .ok (.ifCond .ne 10, 3) := by decide +kernel
theorem dX8_putElement_57 : decode cX8_putElement 57 = .ok (.lload_n 3, 1) := by decide +kernel
theorem dX8_putElement_58 : decode cX8_putElement 58 = .ok (.l2i, 1) := by decide +kernel
theorem dX8_putElement_59 : decode cX8_putElement 59 = .ok (.i2b, 1) := by decide +kernel
theorem dX8_putElement_60 : decode cX8_putElement 60 = .ok (.i2l, 1) := by decide +kernel
theorem dX8_putElement_61 : decode cX8_putElement 61 = .ok (.goto 21, 3) := by decide +kernel
theorem dX8_putElement_64 : decode cX8_putElement 64 = .ok (.aload_n 0, 1) := by decide +kernel
theorem dX8_putElement_65 : decode cX8_putElement 65 = .ok (.getfield 32, 3) := by decide +kernel
theorem dX8_putElement_68 : decode cX8_putElement 68 = .ok (.iload_n 1, 1) := by decide +kernel
theorem dX8_putElement_69 : decode cX8_putElement 69 = .ok (.iaload, 1) := by decide +kernel
theorem dX8_putElement_70 : decode cX8_putElement 70 = .ok (.iconst 1, 1) := by decide +kernel
theorem dX8_putElement_71 : decode cX8_putElement 71 = .ok (.if_icmp .ne 10, 3) := by decide +kernel
theorem dX8_putElement_74 : decode cX8_putElement 74 = .ok (.lload_n 3, 1) := by decide +kernel
theorem dX8_putElement_75 : decode cX8_putElement 75 = .ok (.l2i, 1) := by decide +kernel
theorem dX8_putElement_76 : decode cX8_putElement 76 = .ok (.i2s, 1) := by decide +kernel
theorem dX8_putElement_77 : decode cX8_putElement 77 = .ok (.i2l, 1) := by decide +kernel
theorem dX8_putElement_78 : decode cX8_putElement 78 = .ok (.goto 4, 3) := by decide +kernel
theorem dX8_putElement_81 : decode cX8_putElement 81 = .ok (.lload_n 3, 1) := by decide +kernel
theorem dX8_putElement_82 : decode cX8_putElement 82 = .ok (.lastore, 1) := by decide +kernel
theorem dX8_putElement_83 : decode cX8_putElement 83 = .ok (.aload_n 0, 1) := by decide +kernel
theorem dX8_putElement_84 : decode cX8_putElement 84 = .ok (.getfield 42, 3) := by decide +kernel
theorem dX8_putElement_87 : decode cX8_putElement 87 = .ok (.iload 5, 2) := by decide +kernel
theorem dX8_putElement_89 : decode cX8_putElement 89 = .ok (.lload_n 3, 1) := by decide +kernel
theorem dX8_putElement_90 : decode cX8_putElement 90 = .ok (.l2d, 1) := by decide +kernel
theorem dX8_putElement_91 : decode cX8_putElement 91 = .ok (.dastore, 1) := by decide +kernel
theorem dX8_putElement_92 : decode cX8_putElement 92 = .ok (.iconst 1, 1) := by decide +kernel
theorem dX8_putElement_93 : decode cX8_putElement 93 = .ok (.ireturn, 1) := by decide +kernel
set_option maxRecDepth 20000 in
theorem ggX8_element_X8_isSlot : GoodIn wsX8_element wsX8_isSlot := goodIn_r _ [8, 9, 10, 11, 7, 12] (by decide +kernel) (by decide +kernel)
set_option maxRecDepth 20000 in
theorem gX8_element_X8_isSlot : GoodIn wsX8_element (va_wsS RX8 147 yX8_isSlot wsX8_isSlot) := goodIn_app (goodIn_of _ (by decide +kernel)) ggX8_element_X8_isSlot
set_option maxRecDepth 20000 in
theorem ggX8_element_X8_isPlace : GoodIn wsX8_element wsX8_isPlace := goodIn_r _ [16, 17, 10, 11, 7, 12, 18, 19, 20, 21, 22, 23, 24, 25, 26, 27, 28, 29, 30, 31, 32, 33, 34, 35, 36, 37, 38, 39] (by decide +kernel) (by decide +kernel)
set_option maxRecDepth 20000 in
theorem gX8_element_X8_isPlace : GoodIn wsX8_element (wsV RX8 150 RX8 yX8_isPlace wsX8_isPlace) := goodIn_app (goodIn_of _ (by decide +kernel)) ggX8_element_X8_isPlace
theorem dX8_element_0 : decode cX8_element 0 = .ok (.iload_n 1, 1) := by decide +kernel
theorem dX8_element_1 : decode cX8_element 1 = .ok (.invokestatic 147, 3) := by decide +kernel
theorem dX8_element_4 : decode cX8_element 4 = .ok (.ifCond .eq 22, 3) := by decide +kernel
theorem dX8_element_7 : decode cX8_element 7 = .ok (.aload_n 0, 1) := by decide +kernel
theorem dX8_element_8 : decode cX8_element 8 = .ok (.getfield 32, 3) := by decide +kernel
theorem dX8_element_11 : decode cX8_element 11 = .ok (.iload_n 1, 1) := by decide +kernel
theorem dX8_element_12 : decode cX8_element 12 = .ok (.iaload, 1) := by decide +kernel
theorem dX8_element_13 : decode cX8_element 13 = .ok (.iconst (-1), 1) := by decide +kernel
theorem dX8_element_14 : decode cX8_element 14 = .ok (.if_icmp .eq 12, 3) := by decide +kernel
theorem dX8_element_17 : decode cX8_element 17 = .ok (.aload_n 0, 1) := by decide +kernel
theorem dX8_element_18 : decode cX8_element 18 = .ok (.iload_n 1, 1) := by decide +kernel
theorem dX8_element_19 : decode cX8_element 19 = .ok (.iload_n 2, 1) := by decide +kernel
theorem dX8_element_20 : decode cX8_element 20 = .ok (.invokevirtual 150, 3) := by decide +kernel
theorem dX8_element_23 : decode cX8_element 23 = .ok (.ifCond .ne 7, 3) := by decide +kernel
theorem dX8_element_26 : decode cX8_element 26 = .ok (.ldc2_w 153, 3) := by decide +kernel
theorem dX8_element_29 : decode cX8_element 29 = .ok (.lreturn, 1) := by decide +kernel
theorem dX8_element_30 : decode cX8_element 30 = .ok (.bipush 40, 2) := by decide +kernel
theorem dX8_element_32 : decode cX8_element 32 = .ok (.iload_n 1, 1) := by decide +kernel
theorem dX8_element_33 : decode cX8_element 33 = .ok (.imul, 1) := by decide +kernel
theorem dX8_element_34 : decode cX8_element 34 = .ok (.iload_n 2, 1) := by decide +kernel
theorem dX8_element_35 : decode cX8_element 35 = .ok (.iadd, 1) := by decide +kernel
theorem dX8_element_36 : decode cX8_element 36 = .ok (.istore_n 3, 1) := by decide +kernel
theorem dX8_element_37 : decode cX8_element 37 = .ok (.aload_n 0, 1) := by decide +kernel
theorem dX8_element_38 : decode cX8_element 38 = .ok (.getfield 32, 3) := by decide +kernel
theorem dX8_element_41 : decode cX8_element 41 = .ok (.iload_n 1, 1) := by decide +kernel
theorem dX8_element_42 : decode cX8_element 42 = .ok (.iaload, 1) := by decide +kernel
theorem dX8_element_43 : decode cX8_element 43 = .ok (.iconst 3, 1) := by decide +kernel
theorem dX8_element_44 : decode cX8_element 44 = .ok (.if_icmp .ge 12, 3) := by decide +kernel
theorem dX8_element_47 : decode cX8_element 47 = .ok (.aload_n 0, 1) := by decide +kernel
theorem dX8_element_48 : decode cX8_element 48 = .ok (.getfield 38, 3) := by decide +kernel
theorem dX8_element_51 : decode cX8_element 51 = .ok (.iload_n 3, 1) := by decide +kernel
theorem dX8_element_52 : decode cX8_element 52 = .ok (.laload, 1) := by decide +kernel
theorem dX8_element_53 : decode cX8_element 53 = .ok (.goto 10, 3) := by decide +kernel
theorem dX8_element_56 : decode cX8_element 56 = .ok (.aload_n 0, 1) := by decide +kernel
theorem dX8_element_57 : decode cX8_element 57 = .ok (.getfield 42, 3) := by decide +kernel
theorem dX8_element_60 : decode cX8_element 60 = .ok (.iload_n 3, 1) := by decide +kernel
theorem dX8_element_61 : decode cX8_element 61 = .ok (.daload, 1) := by decide +kernel
theorem dX8_element_62 : decode cX8_element 62 = .ok (.d2l, 1) := by decide +kernel
theorem dX8_element_63 : decode cX8_element 63 = .ok (.lreturn, 1) := by decide +kernel
set_option maxRecDepth 20000 in
theorem ggX8_copyElements_X8_isSlot : GoodIn wsX8_copyElements wsX8_isSlot := goodIn_r _ [8, 9, 10, 11, 7, 12] (by decide +kernel) (by decide +kernel)
set_option maxRecDepth 20000 in
theorem gX8_copyElements_X8_isSlot : GoodIn wsX8_copyElements (va_wsS RX8 147 yX8_isSlot wsX8_isSlot) := goodIn_app (goodIn_of _ (by decide +kernel)) ggX8_copyElements_X8_isSlot
theorem dX8_copyElements_0 : decode cX8_copyElements 0 = .ok (.iload_n 1, 1) := by decide +kernel
theorem dX8_copyElements_1 : decode cX8_copyElements 1 = .ok (.invokestatic 147, 3) := by decide +kernel
theorem dX8_copyElements_4 : decode cX8_copyElements 4 = .ok (.ifCond .eq 10, 3) := by decide +kernel
theorem dX8_copyElements_7 : decode cX8_copyElements 7 = .ok (.iload_n 3, 1) := by decide +kernel
theorem dX8_copyElements_8 : decode cX8_copyElements 8 = .ok (.invokestatic 147, 3) := by decide +kernel
theorem dX8_copyElements_11 : decode cX8_copyElements 11 = .ok (.ifCond .ne 5, 3) := by decide +kernel
theorem dX8_copyElements_14 : decode cX8_copyElements 14 = .ok (.iconst (-1), 1) := by decide +kernel
theorem dX8_copyElements_15 : decode cX8_copyElements 15 = .ok (.ireturn, 1) := by decide +kernel
theorem dX8_copyElements_16 : decode cX8_copyElements 16 = .ok (.aload_n 0, 1) := by decide +kernel
theorem dX8_copyElements_17 : decode cX8_copyElements 17 = .ok (.getfield 32, 3) := by decide +kernel
theorem dX8_copyElements_20 : decode cX8_copyElements 20 = .ok (.iload_n 1, 1) := by decide +kernel
theorem dX8_copyElements_21 : decode cX8_copyElements 21 = .ok (.iaload, 1) := by decide +kernel
theorem dX8_copyElements_22 : decode cX8_copyElements 22 = .ok (.iconst (-1), 1) := by decide +kernel
theorem dX8_copyElements_23 : decode cX8_copyElements 23 = .ok (.if_icmp .eq 13, 3) := by decide +kernel
theorem dX8_copyElements_26 : decode cX8_copyElements 26 = .ok (.aload_n 0, 1) := by decide +kernel
theorem dX8_copyElements_27 : decode cX8_copyElements 27 = .ok (.getfield 32, 3) := by decide +kernel
theorem dX8_copyElements_30 : decode cX8_copyElements 30 = .ok (.iload_n 3, 1) := by decide +kernel
theorem dX8_copyElements_31 : decode cX8_copyElements 31 = .ok (.iaload, 1) := by decide +kernel
theorem dX8_copyElements_32 : decode cX8_copyElements 32 = .ok (.iconst (-1), 1) := by decide +kernel
theorem dX8_copyElements_33 : decode cX8_copyElements 33 = .ok (.if_icmp .ne 6, 3) := by decide +kernel
theorem dX8_copyElements_36 : decode cX8_copyElements 36 = .ok (.bipush (-11), 2) := by decide +kernel
theorem dX8_copyElements_38 : decode cX8_copyElements 38 = .ok (.ireturn, 1) := by decide +kernel
theorem dX8_copyElements_39 : decode cX8_copyElements 39 = .ok (.aload_n 0, 1) := by decide +kernel
theorem dX8_copyElements_40 : decode cX8_copyElements 40 = .ok (.getfield 32, 3) := by decide +kernel
theorem dX8_copyElements_43 : decode cX8_copyElements 43 = .ok (.iload_n 1, 1) := by decide +kernel
theorem dX8_copyElements_44 : decode cX8_copyElements 44 = .ok (.iaload, 1) := by decide +kernel
theorem dX8_copyElements_45 : decode cX8_copyElements 45 = .ok (.aload_n 0, 1) := by decide +kernel
theorem dX8_copyElements_46 : decode cX8_copyElements 46 = .ok (.getfield 32, 3) := by decide +kernel
theorem dX8_copyElements_49 : decode cX8_copyElements 49 = .ok (.iload_n 3, 1) := by decide +kernel
theorem dX8_copyElements_50 : decode cX8_copyElements 50 = .ok (.iaload, 1) := by decide +kernel
theorem dX8_copyElements_51 : decode cX8_copyElements 51 = .ok (.if_icmp .eq 6, 3) := by decide +kernel
theorem dX8_copyElements_54 : decode cX8_copyElements 54 = .ok (.bipush (-12), 2) := by decide +kernel
theorem dX8_copyElements_56 : decode cX8_copyElements 56 = .ok (.ireturn, 1) := by decide +kernel
theorem dX8_copyElements_57 : decode cX8_copyElements 57 = .ok (.iload_n 2, 1) := by decide +kernel
theorem dX8_copyElements_58 : decode cX8_copyElements 58 = .ok (.ifCond .lt 17, 3) := by decide +kernel
theorem dX8_copyElements_61 : decode cX8_copyElements 61 = .ok (.iload 4, 2) := by decide +kernel
theorem dX8_copyElements_63 : decode cX8_copyElements 63 = .ok (.ifCond .lt 12, 3) := by decide +kernel
theorem dX8_copyElements_66 : decode cX8_copyElements 66 = .ok (.iload 5, 2) := by decide +kernel
theorem dX8_copyElements_68 : decode cX8_copyElements 68 = .ok (.ifCond .lt 7, 3) := by decide +kernel
theorem dX8_copyElements_71 : decode cX8_copyElements 71 = .ok (.iconst 1, 1) := by decide +kernel
theorem dX8_copyElements_72 : decode cX8_copyElements 72 = .ok (.goto 4, 3) := by decide +kernel
theorem dX8_copyElements_75 : decode cX8_copyElements 75 = .ok (.iconst 0, 1) := by decide +kernel
theorem dX8_copyElements_76 : decode cX8_copyElements 76 = .ok (.istore 6, 2) := by decide +kernel
theorem dX8_copyElements_78 : decode cX8_copyElements 78 = .ok (.iload 6, 2) := by decide +kernel
theorem dX8_copyElements_80 : decode cX8_copyElements 80 = .ok (.ifCond .eq 38, 3) := by decide +kernel
theorem dX8_copyElements_83 : decode cX8_copyElements 83 = .ok (.iload_n 2, 1) := by decide +kernel
theorem dX8_copyElements_84 : decode cX8_copyElements 84 = .ok (.i2l, 1) := by decide +kernel
theorem dX8_copyElements_85 : decode cX8_copyElements 85 = .ok (.iload 5, 2) := by decide +kernel
theorem dX8_copyElements_87 : decode cX8_copyElements 87 = .ok (.i2l, 1) := by decide +kernel
theorem dX8_copyElements_88 : decode cX8_copyElements 88 = .ok (.ladd, 1) := by decide +kernel
theorem dX8_copyElements_89 : decode cX8_copyElements 89 = .ok (.aload_n 0, 1) := by decide +kernel
theorem dX8_copyElements_90 : decode cX8_copyElements 90 = .ok (.getfield 35, 3) := by decide +kernel
theorem dX8_copyElements_93 : decode cX8_copyElements 93 = .ok (.iload_n 1, 1) := by decide +kernel
theorem dX8_copyElements_94 : decode cX8_copyElements 94 = .ok (.iaload, 1) := by decide +kernel
theorem dX8_copyElements_95 : decode cX8_copyElements 95 = .ok (.i2l, 1) := by decide +kernel
theorem dX8_copyElements_96 : decode cX8_copyElements 96 = .ok (.lcmp, 1) := by decide +kernel
theorem dX8_copyElements_97 : decode cX8_copyElements 97 = .ok (.ifCond .gt 21, 3) := by decide +kernel
theorem dX8_copyElements_100 : decode cX8_copyElements 100 = .ok (.iload 4, 2) := by decide +kernel
theorem dX8_copyElements_102 : decode cX8_copyElements 102 = .ok (.i2l, 1) := by decide +kernel
theorem dX8_copyElements_103 : decode cX8_copyElements 103 = .ok (.iload 5, 2) := by decide +kernel
theorem dX8_copyElements_105 : decode cX8_copyElements 105 = .ok (.i2l, 1) := by decide +kernel
theorem dX8_copyElements_106 : decode cX8_copyElements 106 = .ok (.ladd, 1) := by decide +kernel
theorem dX8_copyElements_107 : decode cX8_copyElements 107 = .ok (.aload_n 0, 1) := by decide +kernel
theorem dX8_copyElements_108 : decode cX8_copyElements 108 = .ok (.getfield 35, 3) := by decide +kernel
theorem dX8_copyElements_111 : decode cX8_copyElements 111 = .ok (.iload_n 3, 1) := by decide +kernel
theorem dX8_copyElements_112 : decode cX8_copyElements 112 = .ok (.iaload, 1) := by decide +kernel
theorem dX8_copyElements_113 : decode cX8_copyElements 113 = .ok (.i2l, 1) := by decide +kernel
theorem dX8_copyElements_114 : decode cX8_copyElements 114 = .ok (.lcmp, 1) := by decide +kernel
