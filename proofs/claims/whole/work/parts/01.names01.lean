theorem dX0_init_0 : decode cX0_init 0 = .ok (.aload_n 0, 1) := by decide +kernel
theorem dX0_init_1 : decode cX0_init 1 = .ok (.invokespecial 3, 3) := by decide +kernel
theorem dX0_init_4 : decode cX0_init 4 = .ok (.aload_n 0, 1) := by decide +kernel
theorem dX0_init_5 : decode cX0_init 5 = .ok (.iconst 3, 1) := by decide +kernel
theorem dX0_init_6 : decode cX0_init 6 = .ok (.putfield 9, 3) := by decide +kernel
theorem dX0_init_9 : decode cX0_init 9 = .ok (.aload_n 0, 1) := by decide +kernel
theorem dX0_init_10 : decode cX0_init 10 = .ok (.iconst 0, 1) := by decide +kernel
theorem dX0_init_11 : decode cX0_init 11 = .ok (.putfield 15, 3) := by decide +kernel
theorem dX0_init_14 : decode cX0_init 14 = .ok (.aload_n 0, 1) := by decide +kernel
theorem dX0_init_15 : decode cX0_init 15 = .ok (.bipush 20, 2) := by decide +kernel
theorem dX0_init_17 : decode cX0_init 17 = .ok (.newarray .int, 2) := by decide +kernel
theorem dX0_init_19 : decode cX0_init 19 = .ok (.putfield 18, 3) := by decide +kernel
theorem dX0_init_22 : decode cX0_init 22 = .ok (.aload_n 0, 1) := by decide +kernel
theorem dX0_init_23 : decode cX0_init 23 = .ok (.bipush 20, 2) := by decide +kernel
theorem dX0_init_25 : decode cX0_init 25 = .ok (.newarray .double, 2) := by decide +kernel
theorem dX0_init_27 : decode cX0_init 27 = .ok (.putfield 22, 3) := by decide +kernel
theorem dX0_init_30 : decode cX0_init 30 = .ok (.aload_n 0, 1) := by decide +kernel
theorem dX0_init_31 : decode cX0_init 31 = .ok (.bipush 20, 2) := by decide +kernel
theorem dX0_init_33 : decode cX0_init 33 = .ok (.newarray .boolean, 2) := by decide +kernel
theorem dX0_init_35 : decode cX0_init 35 = .ok (.putfield 26, 3) := by decide +kernel
theorem dX0_init_38 : decode cX0_init 38 = .ok (.aload_n 0, 1) := by decide +kernel
theorem dX0_init_39 : decode cX0_init 39 = .ok (.bipush 8, 2) := by decide +kernel
theorem dX0_init_41 : decode cX0_init 41 = .ok (.newarray .int, 2) := by decide +kernel
theorem dX0_init_43 : decode cX0_init 43 = .ok (.putfield 30, 3) := by decide +kernel
theorem dX0_init_46 : decode cX0_init 46 = .ok (.aload_n 0, 1) := by decide +kernel
theorem dX0_init_47 : decode cX0_init 47 = .ok (.iconst 0, 1) := by decide +kernel
theorem dX0_init_48 : decode cX0_init 48 = .ok (.putfield 33, 3) := by decide +kernel
theorem dX0_init_51 : decode cX0_init 51 = .ok (.return_, 1) := by decide +kernel
theorem dX0_allPoints_0 : decode cX0_allPoints 0 = .ok (.iconst 1, 1) := by decide +kernel
theorem dX0_allPoints_1 : decode cX0_allPoints 1 = .ok (.aload_n 0, 1) := by decide +kernel
theorem dX0_allPoints_2 : decode cX0_allPoints 2 = .ok (.getfield 9, 3) := by decide +kernel
theorem dX0_allPoints_5 : decode cX0_allPoints 5 = .ok (.ishl, 1) := by decide +kernel
theorem dX0_allPoints_6 : decode cX0_allPoints 6 = .ok (.iconst 1, 1) := by decide +kernel
theorem dX0_allPoints_7 : decode cX0_allPoints 7 = .ok (.isub, 1) := by decide +kernel
theorem dX0_allPoints_8 : decode cX0_allPoints 8 = .ok (.ireturn, 1) := by decide +kernel
theorem dX0_allNumbers_0 : decode cX0_allNumbers 0 = .ok (.iconst 1, 1) := by decide +kernel
theorem dX0_allNumbers_1 : decode cX0_allNumbers 1 = .ok (.aload_n 0, 1) := by decide +kernel
theorem dX0_allNumbers_2 : decode cX0_allNumbers 2 = .ok (.getfield 15, 3) := by decide +kernel
theorem dX0_allNumbers_5 : decode cX0_allNumbers 5 = .ok (.ishl, 1) := by decide +kernel
theorem dX0_allNumbers_6 : decode cX0_allNumbers 6 = .ok (.iconst 1, 1) := by decide +kernel
theorem dX0_allNumbers_7 : decode cX0_allNumbers 7 = .ok (.isub, 1) := by decide +kernel
theorem dX0_allNumbers_8 : decode cX0_allNumbers 8 = .ok (.ireturn, 1) := by decide +kernel
set_option maxRecDepth 20000 in
theorem ggX0_others_X0_allNumbers : GoodIn wsX0_others wsX0_allNumbers := goodIn_r _ [5, 6, 7, 8, 9, 10, 11, 12, 13] (by decide +kernel) (by decide +kernel)
set_option maxRecDepth 20000 in
theorem gX0_others_X0_allNumbers : GoodIn wsX0_others (wsV RX0 36 RX0 yX0_allNumbers wsX0_allNumbers) := goodIn_app (goodIn_of _ (by decide +kernel)) ggX0_others_X0_allNumbers
theorem dX0_others_0 : decode cX0_others 0 = .ok (.aload_n 0, 1) := by decide +kernel
theorem dX0_others_1 : decode cX0_others 1 = .ok (.invokevirtual 36, 3) := by decide +kernel
theorem dX0_others_4 : decode cX0_others 4 = .ok (.iconst 1, 1) := by decide +kernel
theorem dX0_others_5 : decode cX0_others 5 = .ok (.iload_n 1, 1) := by decide +kernel
theorem dX0_others_6 : decode cX0_others 6 = .ok (.ishl, 1) := by decide +kernel
theorem dX0_others_7 : decode cX0_others 7 = .ok (.iconst (-1), 1) := by decide +kernel
theorem dX0_others_8 : decode cX0_others 8 = .ok (.ixor, 1) := by decide +kernel
theorem dX0_others_9 : decode cX0_others 9 = .ok (.iand, 1) := by decide +kernel
theorem dX0_others_10 : decode cX0_others 10 = .ok (.ireturn, 1) := by decide +kernel
theorem dX0_has_0 : decode cX0_has 0 = .ok (.iload_n 1, 1) := by decide +kernel
theorem dX0_has_1 : decode cX0_has 1 = .ok (.ifCond .lt 15, 3) := by decide +kernel
theorem dX0_has_4 : decode cX0_has 4 = .ok (.iload_n 1, 1) := by decide +kernel
theorem dX0_has_5 : decode cX0_has 5 = .ok (.aload_n 0, 1) := by decide +kernel
theorem dX0_has_6 : decode cX0_has 6 = .ok (.getfield 15, 3) := by decide +kernel
theorem dX0_has_9 : decode cX0_has 9 = .ok (.if_icmp .ge 7, 3) := by decide +kernel
theorem dX0_has_12 : decode cX0_has 12 = .ok (.iconst 1, 1) := by decide +kernel
theorem dX0_has_13 : decode cX0_has 13 = .ok (.goto 4, 3) := by decide +kernel
theorem dX0_has_16 : decode cX0_has 16 = .ok (.iconst 0, 1) := by decide +kernel
theorem dX0_has_17 : decode cX0_has 17 = .ok (.ireturn, 1) := by decide +kernel
theorem dX0_isPoint_0 : decode cX0_isPoint 0 = .ok (.iload_n 1, 1) := by decide +kernel
theorem dX0_isPoint_1 : decode cX0_isPoint 1 = .ok (.ifCond .lt 15, 3) := by decide +kernel
theorem dX0_isPoint_4 : decode cX0_isPoint 4 = .ok (.iload_n 1, 1) := by decide +kernel
theorem dX0_isPoint_5 : decode cX0_isPoint 5 = .ok (.aload_n 0, 1) := by decide +kernel
theorem dX0_isPoint_6 : decode cX0_isPoint 6 = .ok (.getfield 9, 3) := by decide +kernel
theorem dX0_isPoint_9 : decode cX0_isPoint 9 = .ok (.if_icmp .ge 7, 3) := by decide +kernel
theorem dX0_isPoint_12 : decode cX0_isPoint 12 = .ok (.iconst 1, 1) := by decide +kernel
theorem dX0_isPoint_13 : decode cX0_isPoint 13 = .ok (.goto 4, 3) := by decide +kernel
theorem dX0_isPoint_16 : decode cX0_isPoint 16 = .ok (.iconst 0, 1) := by decide +kernel
theorem dX0_isPoint_17 : decode cX0_isPoint 17 = .ok (.ireturn, 1) := by decide +kernel
set_option maxRecDepth 20000 in
theorem ggX0_isSet_X0_allPoints : GoodIn wsX0_isSet wsX0_allPoints := goodIn_r _ [5, 6, 7, 8, 9, 10, 11, 12, 13] (by decide +kernel) (by decide +kernel)
set_option maxRecDepth 20000 in
theorem gX0_isSet_X0_allPoints : GoodIn wsX0_isSet (wsV RX0 40 RX0 yX0_allPoints wsX0_allPoints) := goodIn_app (goodIn_of _ (by decide +kernel)) ggX0_isSet_X0_allPoints
theorem dX0_isSet_0 : decode cX0_isSet 0 = .ok (.iload_n 1, 1) := by decide +kernel
theorem dX0_isSet_1 : decode cX0_isSet 1 = .ok (.ifCond .lt 15, 3) := by decide +kernel
theorem dX0_isSet_4 : decode cX0_isSet 4 = .ok (.iload_n 1, 1) := by decide +kernel
theorem dX0_isSet_5 : decode cX0_isSet 5 = .ok (.aload_n 0, 1) := by decide +kernel
theorem dX0_isSet_6 : decode cX0_isSet 6 = .ok (.invokevirtual 40, 3) := by decide +kernel
theorem dX0_isSet_9 : decode cX0_isSet 9 = .ok (.if_icmp .gt 7, 3) := by decide +kernel
theorem dX0_isSet_12 : decode cX0_isSet 12 = .ok (.iconst 1, 1) := by decide +kernel
theorem dX0_isSet_13 : decode cX0_isSet 13 = .ok (.goto 4, 3) := by decide +kernel
theorem dX0_isSet_16 : decode cX0_isSet 16 = .ok (.iconst 0, 1) := by decide +kernel
theorem dX0_isSet_17 : decode cX0_isSet 17 = .ok (.ireturn, 1) := by decide +kernel
theorem dX0_isSize_0 : decode cX0_isSize 0 = .ok (.iload_n 1, 1) := by decide +kernel
theorem dX0_isSize_1 : decode cX0_isSize 1 = .ok (.ifCond .lt 15, 3) := by decide +kernel
theorem dX0_isSize_4 : decode cX0_isSize 4 = .ok (.iload_n 1, 1) := by decide +kernel
theorem dX0_isSize_5 : decode cX0_isSize 5 = .ok (.aload_n 0, 1) := by decide +kernel
theorem dX0_isSize_6 : decode cX0_isSize 6 = .ok (.getfield 9, 3) := by decide +kernel
theorem dX0_isSize_9 : decode cX0_isSize 9 = .ok (.if_icmp .gt 7, 3) := by decide +kernel
theorem dX0_isSize_12 : decode cX0_isSize 12 = .ok (.iconst 1, 1) := by decide +kernel
theorem dX0_isSize_13 : decode cX0_isSize 13 = .ok (.goto 4, 3) := by decide +kernel
theorem dX0_isSize_16 : decode cX0_isSize 16 = .ok (.iconst 0, 1) := by decide +kernel
theorem dX0_isSize_17 : decode cX0_isSize 17 = .ok (.ireturn, 1) := by decide +kernel
theorem dX0_find_0 : decode cX0_find 0 = .ok (.iconst 0, 1) := by decide +kernel
theorem dX0_find_1 : decode cX0_find 1 = .ok (.istore_n 2, 1) := by decide +kernel
theorem dX0_find_2 : decode cX0_find 2 = .ok (.iload_n 2, 1) := by decide +kernel
theorem dX0_find_3 : decode cX0_find 3 = .ok (.aload_n 0, 1) := by decide +kernel
theorem dX0_find_4 : decode cX0_find 4 = .ok (.getfield 15, 3) := by decide +kernel
theorem dX0_find_7 : decode cX0_find 7 = .ok (.if_icmp .ge 21, 3) := by decide +kernel
theorem dX0_find_10 : decode cX0_find 10 = .ok (.aload_n 0, 1) := by decide +kernel
theorem dX0_find_11 : decode cX0_find 11 = .ok (.getfield 18, 3) := by decide +kernel
theorem dX0_find_14 : decode cX0_find 14 = .ok (.iload_n 2, 1) := by decide +kernel
theorem dX0_find_15 : decode cX0_find 15 = .ok (.iaload, 1) := by decide +kernel
theorem dX0_find_16 : decode cX0_find 16 = .ok (.iload_n 1, 1) := by decide +kernel
theorem dX0_find_17 : decode cX0_find 17 = .ok (.if_icmp .ne 5, 3) := by decide +kernel
theorem dX0_find_20 : decode cX0_find 20 = .ok (.iload_n 2, 1) := by decide +kernel
theorem dX0_find_21 : decode cX0_find 21 = .ok (.ireturn, 1) := by decide +kernel
theorem dX0_find_22 : decode cX0_find 22 = .ok (.iinc 2 1, 3) := by decide +kernel
theorem dX0_find_25 : decode cX0_find 25 = .ok (.goto (-23), 3) := by decide +kernel
theorem dX0_find_28 : decode cX0_find 28 = .ok (.bipush (-6), 2) := by decide +kernel
theorem dX0_find_30 : decode cX0_find 30 = .ok (.ireturn, 1) := by decide +kernel
set_option maxRecDepth 20000 in
theorem ggX0_labelOf_X7_hasBit : GoodIn wsX0_labelOf wsX7_hasBit := goodIn_r _ [4] (by decide +kernel) (by decide +kernel)
set_option maxRecDepth 20000 in
theorem gX0_labelOf_X7_hasBit_n43 : GoodIn wsX0_labelOf (wsX7_hasBit) := ggX0_labelOf_X7_hasBit
theorem dX0_labelOf_0 : decode cX0_labelOf 0 = .ok (.aload_n 0, 1) := by decide +kernel
theorem dX0_labelOf_1 : decode cX0_labelOf 1 = .ok (.getfield 18, 3) := by decide +kernel
theorem dX0_labelOf_4 : decode cX0_labelOf 4 = .ok (.iload_n 1, 1) := by decide +kernel
theorem dX0_labelOf_5 : decode cX0_labelOf 5 = .ok (.iaload, 1) := by decide +kernel
theorem dX0_labelOf_6 : decode cX0_labelOf 6 = .ok (.iload_n 2, 1) := by decide +kernel
theorem dX0_labelOf_7 : decode cX0_labelOf 7 = .ok (.invokestatic 43, 3) := by decide +kernel
theorem dX0_labelOf_10 : decode cX0_labelOf 10 = .ok (.ifCond .eq 7, 3) := by decide +kernel
theorem dX0_labelOf_13 : decode cX0_labelOf 13 = .ok (.iconst 1, 1) := by decide +kernel
theorem dX0_labelOf_14 : decode cX0_labelOf 14 = .ok (.goto 4, 3) := by decide +kernel
theorem dX0_labelOf_17 : decode cX0_labelOf 17 = .ok (.iconst 0, 1) := by decide +kernel
theorem dX0_labelOf_18 : decode cX0_labelOf 18 = .ok (.ireturn, 1) := by decide +kernel
set_option maxRecDepth 20000 in
theorem ggX0_labelling_X0_allNumbers : GoodIn wsX0_labelling wsX0_allNumbers := goodIn_r _ [6, 7, 8, 9, 10, 11, 12, 13, 14] (by decide +kernel) (by decide +kernel)
set_option maxRecDepth 20000 in
theorem gX0_labelling_X0_allNumbers : GoodIn wsX0_labelling (wsV RX0 36 RX0 yX0_allNumbers wsX0_allNumbers) := goodIn_app (goodIn_of _ (by decide +kernel)) ggX0_labelling_X0_allNumbers
theorem dX0_labelling_0 : decode cX0_labelling 0 = .ok (.iload_n 2, 1) := by decide +kernel
theorem dX0_labelling_1 : decode cX0_labelling 1 = .ok (.iconst 1, 1) := by decide +kernel
theorem dX0_labelling_2 : decode cX0_labelling 2 = .ok (.if_icmp .ne 12, 3) := by decide +kernel
theorem dX0_labelling_5 : decode cX0_labelling 5 = .ok (.aload_n 0, 1) := by decide +kernel
theorem dX0_labelling_6 : decode cX0_labelling 6 = .ok (.getfield 30, 3) := by decide +kernel
theorem dX0_labelling_9 : decode cX0_labelling 9 = .ok (.iload_n 1, 1) := by decide +kernel
theorem dX0_labelling_10 : decode cX0_labelling 10 = .ok (.iaload, 1) := by decide +kernel
theorem dX0_labelling_11 : decode cX0_labelling 11 = .ok (.goto 16, 3) := by decide +kernel
theorem dX0_labelling_14 : decode cX0_labelling 14 = .ok (.aload_n 0, 1) := by decide +kernel
theorem dX0_labelling_15 : decode cX0_labelling 15 = .ok (.invokevirtual 36, 3) := by decide +kernel
theorem dX0_labelling_18 : decode cX0_labelling 18 = .ok (.aload_n 0, 1) := by decide +kernel
theorem dX0_labelling_19 : decode cX0_labelling 19 = .ok (.getfield 30, 3) := by decide +kernel
theorem dX0_labelling_22 : decode cX0_labelling 22 = .ok (.iload_n 1, 1) := by decide +kernel
theorem dX0_labelling_23 : decode cX0_labelling 23 = .ok (.iaload, 1) := by decide +kernel
theorem dX0_labelling_24 : decode cX0_labelling 24 = .ok (.iconst (-1), 1) := by decide +kernel
theorem dX0_labelling_25 : decode cX0_labelling 25 = .ok (.ixor, 1) := by decide +kernel
theorem dX0_labelling_26 : decode cX0_labelling 26 = .ok (.iand, 1) := by decide +kernel
theorem dX0_labelling_27 : decode cX0_labelling 27 = .ok (.ireturn, 1) := by decide +kernel
set_option maxRecDepth 20000 in
theorem ggX0_leadOfOnes_X0_labelling : GoodIn wsX0_leadOfOnes wsX0_labelling := goodIn_r _ [5, 6, 7, 8, 9, 4, 10, 11, 19, 20, 21, 22, 23, 24, 25] (by decide +kernel) (by decide +kernel)
set_option maxRecDepth 20000 in
theorem gX0_leadOfOnes_X0_labelling : GoodIn wsX0_leadOfOnes (wsV RX0 47 RX0 yX0_labelling wsX0_labelling) := goodIn_app (goodIn_of _ (by decide +kernel)) ggX0_leadOfOnes_X0_labelling
set_option maxRecDepth 20000 in
theorem ggX0_leadOfOnes_J6_bitCount_0f7a4 : GoodIn wsX0_leadOfOnes wsJ6_bitCount_0f7a4 := goodIn_r _ [15, 16, 17, 18] (by decide +kernel) (by decide +kernel)
set_option maxRecDepth 20000 in
theorem gX0_leadOfOnes_J6_bitCount_0f7a4 : GoodIn wsX0_leadOfOnes (va_wsS RX0 51 yJ6_bitCount_0f7a4 wsJ6_bitCount_0f7a4) := goodIn_app (goodIn_of _ (by decide +kernel)) ggX0_leadOfOnes_J6_bitCount_0f7a4
theorem dX0_leadOfOnes_0 : decode cX0_leadOfOnes 0 = .ok (.iload_n 1, 1) := by decide +kernel
theorem dX0_leadOfOnes_1 : decode cX0_leadOfOnes 1 = .ok (.aload_n 0, 1) := by decide +kernel
theorem dX0_leadOfOnes_2 : decode cX0_leadOfOnes 2 = .ok (.iload_n 2, 1) := by decide +kernel
theorem dX0_leadOfOnes_3 : decode cX0_leadOfOnes 3 = .ok (.iconst 1, 1) := by decide +kernel
theorem dX0_leadOfOnes_4 : decode cX0_leadOfOnes 4 = .ok (.invokevirtual 47, 3) := by decide +kernel
theorem dX0_leadOfOnes_7 : decode cX0_leadOfOnes 7 = .ok (.iand, 1) := by decide +kernel
theorem dX0_leadOfOnes_8 : decode cX0_leadOfOnes 8 = .ok (.invokestatic 51, 3) := by decide +kernel
theorem dX0_leadOfOnes_11 : decode cX0_leadOfOnes 11 = .ok (.iload_n 1, 1) := by decide +kernel
theorem dX0_leadOfOnes_12 : decode cX0_leadOfOnes 12 = .ok (.aload_n 0, 1) := by decide +kernel
theorem dX0_leadOfOnes_13 : decode cX0_leadOfOnes 13 = .ok (.iload_n 2, 1) := by decide +kernel
theorem dX0_leadOfOnes_14 : decode cX0_leadOfOnes 14 = .ok (.iconst 0, 1) := by decide +kernel
theorem dX0_leadOfOnes_15 : decode cX0_leadOfOnes 15 = .ok (.invokevirtual 47, 3) := by decide +kernel
theorem dX0_leadOfOnes_18 : decode cX0_leadOfOnes 18 = .ok (.iand, 1) := by decide +kernel
theorem dX0_leadOfOnes_19 : decode cX0_leadOfOnes 19 = .ok (.invokestatic 51, 3) := by decide +kernel
theorem dX0_leadOfOnes_22 : decode cX0_leadOfOnes 22 = .ok (.isub, 1) := by decide +kernel
theorem dX0_leadOfOnes_23 : decode cX0_leadOfOnes 23 = .ok (.ireturn, 1) := by decide +kernel
theorem dX0_isLess_0 : decode cX0_isLess 0 = .ok (.aload_n 0, 1) := by decide +kernel
theorem dX0_isLess_1 : decode cX0_isLess 1 = .ok (.getfield 26, 3) := by decide +kernel
theorem dX0_isLess_4 : decode cX0_isLess 4 = .ok (.iload_n 1, 1) := by decide +kernel
theorem dX0_isLess_5 : decode cX0_isLess 5 = .ok (.baload, 1) := by decide +kernel
theorem dX0_isLess_6 : decode cX0_isLess 6 = .ok (.ifCond .eq 32, 3) := by decide +kernel
theorem dX0_isLess_9 : decode cX0_isLess 9 = .ok (.aload_n 0, 1) := by decide +kernel
theorem dX0_isLess_10 : decode cX0_isLess 10 = .ok (.getfield 26, 3) := by decide +kernel
theorem dX0_isLess_13 : decode cX0_isLess 13 = .ok (.iload_n 2, 1) := by decide +kernel
theorem dX0_isLess_14 : decode cX0_isLess 14 = .ok (.baload, 1) := by decide +kernel
theorem dX0_isLess_15 : decode cX0_isLess 15 = .ok (.ifCond .eq 23, 3) := by decide +kernel
theorem dX0_isLess_18 : decode cX0_isLess 18 = .ok (.aload_n 0, 1) := by decide +kernel
theorem dX0_isLess_19 : decode cX0_isLess 19 = .ok (.getfield 22, 3) := by decide +kernel
theorem dX0_isLess_22 : decode cX0_isLess 22 = .ok (.iload_n 1, 1) := by decide +kernel
theorem dX0_isLess_23 : decode cX0_isLess 23 = .ok (.daload, 1) := by decide +kernel
theorem dX0_isLess_24 : decode cX0_isLess 24 = .ok (.aload_n 0, 1) := by decide +kernel
theorem dX0_isLess_25 : decode cX0_isLess 25 = .ok (.getfield 22, 3) := by decide +kernel
theorem dX0_isLess_28 : decode cX0_isLess 28 = .ok (.iload_n 2, 1) := by decide +kernel
theorem dX0_isLess_29 : decode cX0_isLess 29 = .ok (.daload, 1) := by decide +kernel
theorem dX0_isLess_30 : decode cX0_isLess 30 = .ok (.dcmp .g, 1) := by decide +kernel
theorem dX0_isLess_31 : decode cX0_isLess 31 = .ok (.ifCond .ge 7, 3) := by decide +kernel
theorem dX0_isLess_34 : decode cX0_isLess 34 = .ok (.iconst 1, 1) := by decide +kernel
theorem dX0_isLess_35 : decode cX0_isLess 35 = .ok (.goto 4, 3) := by decide +kernel
theorem dX0_isLess_38 : decode cX0_isLess 38 = .ok (.iconst 0, 1) := by decide +kernel
theorem dX0_isLess_39 : decode cX0_isLess 39 = .ok (.ireturn, 1) := by decide +kernel
set_option maxRecDepth 20000 in
theorem ggX0_begin_X0_reindex : GoodIn wsX0_begin wsX0_reindex := goodIn_r _ [7, 8, 2, 9, 10, 11, 12, 13, 14, 15, 16, 6, 17, 1, 18, 19, 20, 21, 22, 23, 24, 25, 26, 27, 28] (by decide +kernel) (by decide +kernel)
set_option maxRecDepth 20000 in
theorem gX0_begin_X0_reindex : GoodIn wsX0_begin (wsV RX0 57 RX0 yX0_reindex wsX0_reindex) := goodIn_app (goodIn_of _ (by decide +kernel)) ggX0_begin_X0_reindex
theorem dX0_begin_0 : decode cX0_begin 0 = .ok (.aload_n 0, 1) := by decide +kernel
theorem dX0_begin_1 : decode cX0_begin 1 = .ok (.iload_n 1, 1) := by decide +kernel
theorem dX0_begin_2 : decode cX0_begin 2 = .ok (.putfield 9, 3) := by decide +kernel
theorem dX0_begin_5 : decode cX0_begin 5 = .ok (.aload_n 0, 1) := by decide +kernel
theorem dX0_begin_6 : decode cX0_begin 6 = .ok (.iconst 0, 1) := by decide +kernel
theorem dX0_begin_7 : decode cX0_begin 7 = .ok (.putfield 15, 3) := by decide +kernel
theorem dX0_begin_10 : decode cX0_begin 10 = .ok (.aload_n 0, 1) := by decide +kernel
theorem dX0_begin_11 : decode cX0_begin 11 = .ok (.invokevirtual 57, 3) := by decide +kernel
theorem dX0_begin_14 : decode cX0_begin 14 = .ok (.return_, 1) := by decide +kernel
set_option maxRecDepth 20000 in
theorem ggX0_addIfNew_X0_find : GoodIn wsX0_addIfNew wsX0_find := goodIn_r _ [8, 1, 2, 24, 25, 26, 27, 28, 29, 30] (by decide +kernel) (by decide +kernel)
set_option maxRecDepth 20000 in
theorem gX0_addIfNew_X0_find : GoodIn wsX0_addIfNew (wsV RX0 60 RX0 yX0_find wsX0_find) := goodIn_app (goodIn_of _ (by decide +kernel)) ggX0_addIfNew_X0_find
set_option maxRecDepth 20000 in
theorem ggX0_addIfNew_X0_unrate : GoodIn wsX0_addIfNew wsX0_unrate := goodIn_r _ [12, 13, 14, 24, 25, 26, 27, 28, 29, 30] (by decide +kernel) (by decide +kernel)
set_option maxRecDepth 20000 in
theorem gX0_addIfNew_X0_unrate : GoodIn wsX0_addIfNew (wsV RX0 63 RX0 yX0_unrate wsX0_unrate) := goodIn_app (goodIn_of _ (by decide +kernel)) ggX0_addIfNew_X0_unrate
set_option maxRecDepth 20000 in
theorem ggX0_addIfNew_X0_index : GoodIn wsX0_addIfNew wsX0_index := goodIn_r _ [18, 19, 2, 20, 21, 22, 23, 24, 25, 26, 27, 28, 29, 30] (by decide +kernel) (by decide +kernel)
set_option maxRecDepth 20000 in
theorem gX0_addIfNew_X0_index : GoodIn wsX0_addIfNew (wsV RX0 67 RX0 yX0_index wsX0_index) := goodIn_app (goodIn_of _ (by decide +kernel)) ggX0_addIfNew_X0_index
theorem dX0_addIfNew_0 : decode cX0_addIfNew 0 = .ok (.aload_n 0, 1) := by decide +kernel
theorem dX0_addIfNew_1 : decode cX0_addIfNew 1 = .ok (.getfield 15, 3) := by decide +kernel
theorem dX0_addIfNew_4 : decode cX0_addIfNew 4 = .ok (.bipush 20, 2) := by decide +kernel
theorem dX0_addIfNew_6 : decode cX0_addIfNew 6 = .ok (.if_icmp .ge 13, 3) := by decide +kernel
theorem dX0_addIfNew_9 : decode cX0_addIfNew 9 = .ok (.aload_n 0, 1) := by decide +kernel
theorem dX0_addIfNew_10 : decode cX0_addIfNew 10 = .ok (.iload_n 1, 1) := by decide +kernel
theorem dX0_addIfNew_11 : decode cX0_addIfNew 11 = .ok (.invokevirtual 60, 3) := by decide +kernel
theorem dX0_addIfNew_14 : decode cX0_addIfNew 14 = .ok (.bipush (-6), 2) := by decide +kernel
theorem dX0_addIfNew_16 : decode cX0_addIfNew 16 = .ok (.if_icmp .eq 5, 3) := by decide +kernel
theorem dX0_addIfNew_19 : decode cX0_addIfNew 19 = .ok (.iconst 0, 1) := by decide +kernel
theorem dX0_addIfNew_20 : decode cX0_addIfNew 20 = .ok (.ireturn, 1) := by decide +kernel
theorem dX0_addIfNew_21 : decode cX0_addIfNew 21 = .ok (.aload_n 0, 1) := by decide +kernel
theorem dX0_addIfNew_22 : decode cX0_addIfNew 22 = .ok (.getfield 18, 3) := by decide +kernel
theorem dX0_addIfNew_25 : decode cX0_addIfNew 25 = .ok (.aload_n 0, 1) := by decide +kernel
theorem dX0_addIfNew_26 : decode cX0_addIfNew 26 = .ok (.getfield 15, 3) := by decide +kernel
theorem dX0_addIfNew_29 : decode cX0_addIfNew 29 = .ok (.iload_n 1, 1) := by decide +kernel
theorem dX0_addIfNew_30 : decode cX0_addIfNew 30 = .ok (.iastore, 1) := by decide +kernel
theorem dX0_addIfNew_31 : decode cX0_addIfNew 31 = .ok (.aload_n 0, 1) := by decide +kernel
theorem dX0_addIfNew_32 : decode cX0_addIfNew 32 = .ok (.aload_n 0, 1) := by decide +kernel
theorem dX0_addIfNew_33 : decode cX0_addIfNew 33 = .ok (.getfield 15, 3) := by decide +kernel
theorem dX0_addIfNew_36 : decode cX0_addIfNew 36 = .ok (.invokevirtual 63, 3) := by decide +kernel
theorem dX0_addIfNew_39 : decode cX0_addIfNew 39 = .ok (.aload_n 0, 1) := by decide +kernel
theorem dX0_addIfNew_40 : decode cX0_addIfNew 40 = .ok (.aload_n 0, 1) := by decide +kernel
theorem dX0_addIfNew_41 : decode cX0_addIfNew 41 = .ok (.getfield 15, 3) := by decide +kernel
theorem dX0_addIfNew_44 : decode cX0_addIfNew 44 = .ok (.invokevirtual 67, 3) := by decide +kernel
theorem dX0_addIfNew_47 : decode cX0_addIfNew 47 = .ok (.aload_n 0, 1) := by decide +kernel
theorem dX0_addIfNew_48 : decode cX0_addIfNew 48 = .ok (.dup, 1) := by decide +kernel
theorem dX0_addIfNew_49 : decode cX0_addIfNew 49 = .ok (.getfield 15, 3) := by decide +kernel
theorem dX0_addIfNew_52 : decode cX0_addIfNew 52 = .ok (.iconst 1, 1) := by decide +kernel
theorem dX0_addIfNew_53 : decode cX0_addIfNew 53 = .ok (.iadd, 1) := by decide +kernel
theorem dX0_addIfNew_54 : decode cX0_addIfNew 54 = .ok (.putfield 15, 3) := by decide +kernel
theorem dX0_addIfNew_57 : decode cX0_addIfNew 57 = .ok (.aload_n 0, 1) := by decide +kernel
theorem dX0_addIfNew_58 : decode cX0_addIfNew 58 = .ok (.dup, 1) := by decide +kernel
theorem dX0_addIfNew_59 : decode cX0_addIfNew 59 = .ok (.getfield 33, 3) := by decide +kernel
theorem dX0_addIfNew_62 : decode cX0_addIfNew 62 = .ok (.iconst 1, 1) := by decide +kernel
theorem dX0_addIfNew_63 : decode cX0_addIfNew 63 = .ok (.iadd, 1) := by decide +kernel
theorem dX0_addIfNew_64 : decode cX0_addIfNew 64 = .ok (.putfield 33, 3) := by decide +kernel
theorem dX0_addIfNew_67 : decode cX0_addIfNew 67 = .ok (.iconst 1, 1) := by decide +kernel
theorem dX0_addIfNew_68 : decode cX0_addIfNew 68 = .ok (.ireturn, 1) := by decide +kernel
set_option maxRecDepth 20000 in
theorem ggX0_drop_X0_move : GoodIn wsX0_drop wsX0_move := goodIn_r _ [7, 2, 8, 9, 28, 29, 30, 31, 32, 33, 34] (by decide +kernel) (by decide +kernel)
set_option maxRecDepth 20000 in
theorem gX0_drop_X0_move : GoodIn wsX0_drop (wsV RX0 70 RX0 yX0_move wsX0_move) := goodIn_app (goodIn_of _ (by decide +kernel)) ggX0_drop_X0_move
set_option maxRecDepth 20000 in
theorem ggX0_drop_X0_reindex : GoodIn wsX0_drop wsX0_reindex := goodIn_r _ [13, 14, 1, 15, 16, 17, 18, 19, 20, 21, 22, 6, 23, 24, 2, 25, 26, 27, 28, 29, 30, 31, 32, 33, 34] (by decide +kernel) (by decide +kernel)
set_option maxRecDepth 20000 in
theorem gX0_drop_X0_reindex : GoodIn wsX0_drop (wsV RX0 57 RX0 yX0_reindex wsX0_reindex) := goodIn_app (goodIn_of _ (by decide +kernel)) ggX0_drop_X0_reindex
theorem dX0_drop_0 : decode cX0_drop 0 = .ok (.iload_n 1, 1) := by decide +kernel
theorem dX0_drop_1 : decode cX0_drop 1 = .ok (.iconst 1, 1) := by decide +kernel
theorem dX0_drop_2 : decode cX0_drop 2 = .ok (.iadd, 1) := by decide +kernel
theorem dX0_drop_3 : decode cX0_drop 3 = .ok (.istore_n 2, 1) := by decide +kernel
theorem dX0_drop_4 : decode cX0_drop 4 = .ok (.iload_n 2, 1) := by decide +kernel
theorem dX0_drop_5 : decode cX0_drop 5 = .ok (.aload_n 0, 1) := by decide +kernel
theorem dX0_drop_6 : decode cX0_drop 6 = .ok (.getfield 15, 3) := by decide +kernel
theorem dX0_drop_9 : decode cX0_drop 9 = .ok (.if_icmp .ge 23, 3) := by decide +kernel
theorem dX0_drop_12 : decode cX0_drop 12 = .ok (.aload_n 0, 1) := by decide +kernel
theorem dX0_drop_13 : decode cX0_drop 13 = .ok (.iload_n 2, 1) := by decide +kernel
theorem dX0_drop_14 : decode cX0_drop 14 = .ok (.iload_n 2, 1) := by decide +kernel
theorem dX0_drop_15 : decode cX0_drop 15 = .ok (.iconst 1, 1) := by decide +kernel
theorem dX0_drop_16 : decode cX0_drop 16 = .ok (.isub, 1) := by decide +kernel
theorem dX0_drop_17 : decode cX0_drop 17 = .ok (.aload_n 0, 1) := by decide +kernel
theorem dX0_drop_18 : decode cX0_drop 18 = .ok (.getfield 18, 3) := by decide +kernel
theorem dX0_drop_21 : decode cX0_drop 21 = .ok (.iload_n 2, 1) := by decide +kernel
theorem dX0_drop_22 : decode cX0_drop 22 = .ok (.iaload, 1) := by decide +kernel
theorem dX0_drop_23 : decode cX0_drop 23 = .ok (.invokevirtual 70, 3) := by decide +kernel
theorem dX0_drop_26 : decode cX0_drop 26 = .ok (.iinc 2 1, 3) := by decide +kernel
theorem dX0_drop_29 : decode cX0_drop 29 = .ok (.goto (-25), 3) := by decide +kernel
theorem dX0_drop_32 : decode cX0_drop 32 = .ok (.aload_n 0, 1) := by decide +kernel
theorem dX0_drop_33 : decode cX0_drop 33 = .ok (.dup, 1) := by decide +kernel
theorem dX0_drop_34 : decode cX0_drop 34 = .ok (.getfield 15, 3) := by decide +kernel
theorem dX0_drop_37 : decode cX0_drop 37 = .ok (.iconst 1, 1) := by decide +kernel
theorem dX0_drop_38 : decode cX0_drop 38 = .ok (.isub, 1) := by decide +kernel
theorem dX0_drop_39 : decode cX0_drop 39 = .ok (.putfield 15, 3) := by decide +kernel
theorem dX0_drop_42 : decode cX0_drop 42 = .ok (.aload_n 0, 1) := by decide +kernel
theorem dX0_drop_43 : decode cX0_drop 43 = .ok (.invokevirtual 57, 3) := by decide +kernel
theorem dX0_drop_46 : decode cX0_drop 46 = .ok (.return_, 1) := by decide +kernel
set_option maxRecDepth 20000 in
theorem ggX0_flip_X0_allPoints : GoodIn wsX0_flip wsX0_allPoints := goodIn_r _ [7, 8, 26, 27, 28, 29, 30, 31, 32] (by decide +kernel) (by decide +kernel)
set_option maxRecDepth 20000 in
theorem gX0_flip_X0_allPoints : GoodIn wsX0_flip (wsV RX0 40 RX0 yX0_allPoints wsX0_allPoints) := goodIn_app (goodIn_of _ (by decide +kernel)) ggX0_flip_X0_allPoints
set_option maxRecDepth 20000 in
theorem ggX0_flip_X0_reindex : GoodIn wsX0_flip wsX0_reindex := goodIn_r _ [12, 13, 1, 14, 15, 16, 17, 18, 19, 20, 21, 6, 22, 8, 2, 23, 24, 25, 26, 27, 28, 29, 30, 31, 32] (by decide +kernel) (by decide +kernel)
set_option maxRecDepth 20000 in
theorem gX0_flip_X0_reindex : GoodIn wsX0_flip (wsV RX0 57 RX0 yX0_reindex wsX0_reindex) := goodIn_app (goodIn_of _ (by decide +kernel)) ggX0_flip_X0_reindex
theorem dX0_flip_0 : decode cX0_flip 0 = .ok (.iconst 0, 1) := by decide +kernel
theorem dX0_flip_1 : decode cX0_flip 1 = .ok (.istore_n 1, 1) := by decide +kernel
theorem dX0_flip_2 : decode cX0_flip 2 = .ok (.iload_n 1, 1) := by decide +kernel
theorem dX0_flip_3 : decode cX0_flip 3 = .ok (.aload_n 0, 1) := by decide +kernel
theorem dX0_flip_4 : decode cX0_flip 4 = .ok (.getfield 15, 3) := by decide +kernel
theorem dX0_flip_7 : decode cX0_flip 7 = .ok (.if_icmp .ge 22, 3) := by decide +kernel
theorem dX0_flip_10 : decode cX0_flip 10 = .ok (.aload_n 0, 1) := by decide +kernel
theorem dX0_flip_11 : decode cX0_flip 11 = .ok (.getfield 18, 3) := by decide +kernel
theorem dX0_flip_14 : decode cX0_flip 14 = .ok (.iload_n 1, 1) := by decide +kernel
theorem dX0_flip_15 : decode cX0_flip 15 = .ok (.dup2, 1) := by decide +kernel
theorem dX0_flip_16 : decode cX0_flip 16 = .ok (.iaload, 1) := by decide +kernel
theorem dX0_flip_17 : decode cX0_flip 17 = .ok (.aload_n 0, 1) := by decide +kernel
theorem dX0_flip_18 : decode cX0_flip 18 = .ok (.invokevirtual 40, 3) := by decide +kernel
theorem dX0_flip_21 : decode cX0_flip 21 = .ok (.ixor, 1) := by decide +kernel
theorem dX0_flip_22 : decode cX0_flip 22 = .ok (.iastore, 1) := by decide +kernel
theorem dX0_flip_23 : decode cX0_flip 23 = .ok (.iinc 1 1, 3) := by decide +kernel
theorem dX0_flip_26 : decode cX0_flip 26 = .ok (.goto (-24), 3) := by decide +kernel
theorem dX0_flip_29 : decode cX0_flip 29 = .ok (.aload_n 0, 1) := by decide +kernel
theorem dX0_flip_30 : decode cX0_flip 30 = .ok (.invokevirtual 57, 3) := by decide +kernel
theorem dX0_flip_33 : decode cX0_flip 33 = .ok (.return_, 1) := by decide +kernel
set_option maxRecDepth 20000 in
theorem ggX0_narrow_X0_squeeze : GoodIn wsX0_narrow wsX0_squeeze := goodIn_r _ [7, 8, 9, 10] (by decide +kernel) (by decide +kernel)
set_option maxRecDepth 20000 in
theorem gX0_narrow_X0_squeeze : GoodIn wsX0_narrow (va_wsS RX0 74 yX0_squeeze wsX0_squeeze) := goodIn_app (goodIn_of _ (by decide +kernel)) ggX0_narrow_X0_squeeze
set_option maxRecDepth 20000 in
theorem ggX0_narrow_X0_find : GoodIn wsX0_narrow wsX0_find := goodIn_r _ [14, 1, 2, 42, 43, 44, 45, 46, 47, 48] (by decide +kernel) (by decide +kernel)
set_option maxRecDepth 20000 in
theorem gX0_narrow_X0_find : GoodIn wsX0_narrow (wsV RX0 60 RX0 yX0_find wsX0_find) := goodIn_app (goodIn_of _ (by decide +kernel)) ggX0_narrow_X0_find
set_option maxRecDepth 20000 in
theorem ggX0_narrow_X0_move : GoodIn wsX0_narrow wsX0_move := goodIn_r _ [18, 2, 19, 20, 42, 43, 44, 45, 46, 47, 48] (by decide +kernel) (by decide +kernel)
set_option maxRecDepth 20000 in
theorem gX0_narrow_X0_move : GoodIn wsX0_narrow (wsV RX0 70 RX0 yX0_move wsX0_move) := goodIn_app (goodIn_of _ (by decide +kernel)) ggX0_narrow_X0_move
set_option maxRecDepth 20000 in
theorem ggX0_narrow_J6_bitCount_0f7a4 : GoodIn wsX0_narrow wsJ6_bitCount_0f7a4 := goodIn_r _ [24, 25, 26, 27] (by decide +kernel) (by decide +kernel)
set_option maxRecDepth 20000 in
theorem gX0_narrow_J6_bitCount_0f7a4 : GoodIn wsX0_narrow (va_wsS RX0 51 yJ6_bitCount_0f7a4 wsJ6_bitCount_0f7a4) := goodIn_app (goodIn_of _ (by decide +kernel)) ggX0_narrow_J6_bitCount_0f7a4
set_option maxRecDepth 20000 in
theorem ggX0_narrow_X0_reindex : GoodIn wsX0_narrow wsX0_reindex := goodIn_r _ [31, 32, 1, 33, 34, 35, 36, 37, 38, 39, 40, 6, 41, 3, 2, 8, 9, 10, 42, 43, 44, 45, 46, 47, 48] (by decide +kernel) (by decide +kernel)
set_option maxRecDepth 20000 in
theorem gX0_narrow_X0_reindex : GoodIn wsX0_narrow (wsV RX0 57 RX0 yX0_reindex wsX0_reindex) := goodIn_app (goodIn_of _ (by decide +kernel)) ggX0_narrow_X0_reindex
theorem dX0_narrow_0 : decode cX0_narrow 0 = .ok (.aload_n 0, 1) := by decide +kernel
theorem dX0_narrow_1 : decode cX0_narrow 1 = .ok (.getfield 15, 3) := by decide +kernel
theorem dX0_narrow_4 : decode cX0_narrow 4 = .ok (.istore_n 2, 1) := by decide +kernel
theorem dX0_narrow_5 : decode cX0_narrow 5 = .ok (.aload_n 0, 1) := by decide +kernel
theorem dX0_narrow_6 : decode cX0_narrow 6 = .ok (.iconst 0, 1) := by decide +kernel
theorem dX0_narrow_7 : decode cX0_narrow 7 = .ok (.putfield 15, 3) := by decide +kernel
theorem dX0_narrow_10 : decode cX0_narrow 10 = .ok (.iconst 0, 1) := by decide +kernel
theorem dX0_narrow_11 : decode cX0_narrow 11 = .ok (.istore_n 3, 1) := by decide +kernel
theorem dX0_narrow_12 : decode cX0_narrow 12 = .ok (.iload_n 3, 1) := by decide +kernel
theorem dX0_narrow_13 : decode cX0_narrow 13 = .ok (.iload_n 2, 1) := by decide +kernel
theorem dX0_narrow_14 : decode cX0_narrow 14 = .ok (.if_icmp .ge 53, 3) := by decide +kernel
theorem dX0_narrow_17 : decode cX0_narrow 17 = .ok (.aload_n 0, 1) := by decide +kernel
theorem dX0_narrow_18 : decode cX0_narrow 18 = .ok (.getfield 18, 3) := by decide +kernel
theorem dX0_narrow_21 : decode cX0_narrow 21 = .ok (.iload_n 3, 1) := by decide +kernel
theorem dX0_narrow_22 : decode cX0_narrow 22 = .ok (.iaload, 1) := by decide +kernel
theorem dX0_narrow_23 : decode cX0_narrow 23 = .ok (.iload_n 1, 1) := by decide +kernel
theorem dX0_narrow_24 : decode cX0_narrow 24 = .ok (.invokestatic 74, 3) := by decide +kernel
theorem dX0_narrow_27 : decode cX0_narrow 27 = .ok (.istore 4, 2) := by decide +kernel
theorem dX0_narrow_29 : decode cX0_narrow 29 = .ok (.aload_n 0, 1) := by decide +kernel
theorem dX0_narrow_30 : decode cX0_narrow 30 = .ok (.iload 4, 2) := by decide +kernel
theorem dX0_narrow_32 : decode cX0_narrow 32 = .ok (.invokevirtual 60, 3) := by decide +kernel
theorem dX0_narrow_35 : decode cX0_narrow 35 = .ok (.bipush (-6), 2) := by decide +kernel
theorem dX0_narrow_37 : decode cX0_narrow 37 = .ok (.if_icmp .ne 24, 3) := by decide +kernel
theorem dX0_narrow_40 : decode cX0_narrow 40 = .ok (.aload_n 0, 1) := by decide +kernel
theorem dX0_narrow_41 : decode cX0_narrow 41 = .ok (.iload_n 3, 1) := by decide +kernel
theorem dX0_narrow_42 : decode cX0_narrow 42 = .ok (.aload_n 0, 1) := by decide +kernel
theorem dX0_narrow_43 : decode cX0_narrow 43 = .ok (.getfield 15, 3) := by decide +kernel
theorem dX0_narrow_46 : decode cX0_narrow 46 = .ok (.iload 4, 2) := by decide +kernel
theorem dX0_narrow_48 : decode cX0_narrow 48 = .ok (.invokevirtual 70, 3) := by decide +kernel
theorem dX0_narrow_51 : decode cX0_narrow 51 = .ok (.aload_n 0, 1) := by decide +kernel
theorem dX0_narrow_52 : decode cX0_narrow 52 = .ok (.dup, 1) := by decide +kernel
theorem dX0_narrow_53 : decode cX0_narrow 53 = .ok (.getfield 15, 3) := by decide +kernel
theorem dX0_narrow_56 : decode cX0_narrow 56 = .ok (.iconst 1, 1) := by decide +kernel
theorem dX0_narrow_57 : decode cX0_narrow 57 = .ok (.iadd, 1) := by decide +kernel
theorem dX0_narrow_58 : decode cX0_narrow 58 = .ok (.putfield 15, 3) := by decide +kernel
theorem dX0_narrow_61 : decode cX0_narrow 61 = .ok (.iinc 3 1, 3) := by decide +kernel
theorem dX0_narrow_64 : decode cX0_narrow 64 = .ok (.goto (-52), 3) := by decide +kernel
theorem dX0_narrow_67 : decode cX0_narrow 67 = .ok (.aload_n 0, 1) := by decide +kernel
theorem dX0_narrow_68 : decode cX0_narrow 68 = .ok (.iload_n 1, 1) := by decide +kernel
theorem dX0_narrow_69 : decode cX0_narrow 69 = .ok (.invokestatic 51, 3) := by decide +kernel
theorem dX0_narrow_72 : decode cX0_narrow 72 = .ok (.putfield 9, 3) := by decide +kernel
theorem dX0_narrow_75 : decode cX0_narrow 75 = .ok (.aload_n 0, 1) := by decide +kernel
theorem dX0_narrow_76 : decode cX0_narrow 76 = .ok (.invokevirtual 57, 3) := by decide +kernel
theorem dX0_narrow_79 : decode cX0_narrow 79 = .ok (.return_, 1) := by decide +kernel
set_option maxRecDepth 20000 in
theorem ggX0_squeeze_X7_hasBit : GoodIn wsX0_squeeze wsX7_hasBit := goodIn_r _ [3] (by decide +kernel) (by decide +kernel)
set_option maxRecDepth 20000 in
theorem gX0_squeeze_X7_hasBit_n43 : GoodIn wsX0_squeeze (wsX7_hasBit) := ggX0_squeeze_X7_hasBit
theorem dX0_squeeze_0 : decode cX0_squeeze 0 = .ok (.iconst 0, 1) := by decide +kernel
theorem dX0_squeeze_1 : decode cX0_squeeze 1 = .ok (.istore_n 2, 1) := by decide +kernel
theorem dX0_squeeze_2 : decode cX0_squeeze 2 = .ok (.iconst 0, 1) := by decide +kernel
theorem dX0_squeeze_3 : decode cX0_squeeze 3 = .ok (.istore_n 3, 1) := by decide +kernel
theorem dX0_squeeze_4 : decode cX0_squeeze 4 = .ok (.iconst 0, 1) := by decide +kernel
theorem dX0_squeeze_5 : decode cX0_squeeze 5 = .ok (.istore 4, 2) := by decide +kernel
theorem dX0_squeeze_7 : decode cX0_squeeze 7 = .ok (.iload 4, 2) := by decide +kernel
theorem dX0_squeeze_9 : decode cX0_squeeze 9 = .ok (.bipush 8, 2) := by decide +kernel
theorem dX0_squeeze_11 : decode cX0_squeeze 11 = .ok (.if_icmp .ge 36, 3) := by decide +kernel
theorem dX0_squeeze_14 : decode cX0_squeeze 14 = .ok (.iload_n 1, 1) := by decide +kernel
theorem dX0_squeeze_15 : decode cX0_squeeze 15 = .ok (.iload 4, 2) := by decide +kernel
theorem dX0_squeeze_17 : decode cX0_squeeze 17 = .ok (.invokestatic 43, 3) := by decide +kernel
theorem dX0_squeeze_20 : decode cX0_squeeze 20 = .ok (.ifCond .eq 21, 3) := by decide +kernel
theorem dX0_squeeze_23 : decode cX0_squeeze 23 = .ok (.iload_n 0, 1) := by decide +kernel
theorem dX0_squeeze_24 : decode cX0_squeeze 24 = .ok (.iload 4, 2) := by decide +kernel
theorem dX0_squeeze_26 : decode cX0_squeeze 26 = .ok (.invokestatic 43, 3) := by decide +kernel
theorem dX0_squeeze_29 : decode cX0_squeeze 29 = .ok (.ifCond .eq 9, 3) := by decide +kernel
theorem dX0_squeeze_32 : decode cX0_squeeze 32 = .ok (.iload_n 2, 1) := by decide +kernel
theorem dX0_squeeze_33 : decode cX0_squeeze 33 = .ok (.iconst 1, 1) := by decide +kernel
theorem dX0_squeeze_34 : decode cX0_squeeze 34 = .ok (.iload_n 3, 1) := by decide +kernel
theorem dX0_squeeze_35 : decode cX0_squeeze 35 = .ok (.ishl, 1) := by decide +kernel
theorem dX0_squeeze_36 : decode cX0_squeeze 36 = .ok (.ior, 1) := by decide +kernel
theorem dX0_squeeze_37 : decode cX0_squeeze 37 = .ok (.istore_n 2, 1) := by decide +kernel
theorem dX0_squeeze_38 : decode cX0_squeeze 38 = .ok (.iinc 3 1, 3) := by decide +kernel
theorem dX0_squeeze_41 : decode cX0_squeeze 41 = .ok (.iinc 4 1, 3) := by decide +kernel
theorem dX0_squeeze_44 : decode cX0_squeeze 44 = .ok (.goto (-37), 3) := by decide +kernel
theorem dX0_squeeze_47 : decode cX0_squeeze 47 = .ok (.iload_n 2, 1) := by decide +kernel
theorem dX0_squeeze_48 : decode cX0_squeeze 48 = .ok (.ireturn, 1) := by decide +kernel
theorem dX0_move_0 : decode cX0_move 0 = .ok (.aload_n 0, 1) := by decide +kernel
theorem dX0_move_1 : decode cX0_move 1 = .ok (.getfield 18, 3) := by decide +kernel
theorem dX0_move_4 : decode cX0_move 4 = .ok (.iload_n 2, 1) := by decide +kernel
theorem dX0_move_5 : decode cX0_move 5 = .ok (.iload_n 3, 1) := by decide +kernel
theorem dX0_move_6 : decode cX0_move 6 = .ok (.iastore, 1) := by decide +kernel
theorem dX0_move_7 : decode cX0_move 7 = .ok (.aload_n 0, 1) := by decide +kernel
theorem dX0_move_8 : decode cX0_move 8 = .ok (.getfield 22, 3) := by decide +kernel
theorem dX0_move_11 : decode cX0_move 11 = .ok (.iload_n 2, 1) := by decide +kernel
theorem dX0_move_12 : decode cX0_move 12 = .ok (.aload_n 0, 1) := by decide +kernel
theorem dX0_move_13 : decode cX0_move 13 = .ok (.getfield 22, 3) := by decide +kernel
theorem dX0_move_16 : decode cX0_move 16 = .ok (.iload_n 1, 1) := by decide +kernel
theorem dX0_move_17 : decode cX0_move 17 = .ok (.daload, 1) := by decide +kernel
theorem dX0_move_18 : decode cX0_move 18 = .ok (.dastore, 1) := by decide +kernel
theorem dX0_move_19 : decode cX0_move 19 = .ok (.aload_n 0, 1) := by decide +kernel
theorem dX0_move_20 : decode cX0_move 20 = .ok (.getfield 26, 3) := by decide +kernel
theorem dX0_move_23 : decode cX0_move 23 = .ok (.iload_n 2, 1) := by decide +kernel
theorem dX0_move_24 : decode cX0_move 24 = .ok (.aload_n 0, 1) := by decide +kernel
theorem dX0_move_25 : decode cX0_move 25 = .ok (.getfield 26, 3) := by decide +kernel
theorem dX0_move_28 : decode cX0_move 28 = .ok (.iload_n 1, 1) := by decide +kernel
theorem dX0_move_29 : decode cX0_move 29 = .ok (.baload, 1) := by decide +kernel
theorem dX0_move_30 : decode cX0_move 30 = .ok (.bastore, 1) := by decide +kernel
theorem dX0_move_31 : decode cX0_move 31 = .ok (.return_, 1) := by decide +kernel
set_option maxRecDepth 20000 in
theorem ggX0_reindex_J7_fill_53178 : GoodIn wsX0_reindex wsJ7_fill_53178 := goodIn_r _ [7] (by decide +kernel) (by decide +kernel)
set_option maxRecDepth 20000 in
theorem gX0_reindex_J7_fill_53178 : GoodIn wsX0_reindex (va_wsS RX0 77 yJ7_fill_53178 wsJ7_fill_53178) := goodIn_app (goodIn_of _ (by decide +kernel)) ggX0_reindex_J7_fill_53178
set_option maxRecDepth 20000 in
theorem ggX0_reindex_X0_index : GoodIn wsX0_reindex wsX0_index := goodIn_r _ [12, 13, 14, 1, 15, 16, 17, 18, 19, 20, 21, 22, 23, 24] (by decide +kernel) (by decide +kernel)
set_option maxRecDepth 20000 in
theorem gX0_reindex_X0_index : GoodIn wsX0_reindex (wsV RX0 67 RX0 yX0_index wsX0_index) := goodIn_app (goodIn_of _ (by decide +kernel)) ggX0_reindex_X0_index
theorem dX0_reindex_0 : decode cX0_reindex 0 = .ok (.aload_n 0, 1) := by decide +kernel
theorem dX0_reindex_1 : decode cX0_reindex 1 = .ok (.getfield 30, 3) := by decide +kernel
theorem dX0_reindex_4 : decode cX0_reindex 4 = .ok (.iconst 0, 1) := by decide +kernel
theorem dX0_reindex_5 : decode cX0_reindex 5 = .ok (.invokestatic 77, 3) := by decide +kernel
theorem dX0_reindex_8 : decode cX0_reindex 8 = .ok (.iconst 0, 1) := by decide +kernel
theorem dX0_reindex_9 : decode cX0_reindex 9 = .ok (.istore_n 1, 1) := by decide +kernel
theorem dX0_reindex_10 : decode cX0_reindex 10 = .ok (.iload_n 1, 1) := by decide +kernel
theorem dX0_reindex_11 : decode cX0_reindex 11 = .ok (.aload_n 0, 1) := by decide +kernel
theorem dX0_reindex_12 : decode cX0_reindex 12 = .ok (.getfield 15, 3) := by decide +kernel
theorem dX0_reindex_15 : decode cX0_reindex 15 = .ok (.if_icmp .ge 14, 3) := by decide +kernel
theorem dX0_reindex_18 : decode cX0_reindex 18 = .ok (.aload_n 0, 1) := by decide +kernel
theorem dX0_reindex_19 : decode cX0_reindex 19 = .ok (.iload_n 1, 1) := by decide +kernel
theorem dX0_reindex_20 : decode cX0_reindex 20 = .ok (.invokevirtual 67, 3) := by decide +kernel
theorem dX0_reindex_23 : decode cX0_reindex 23 = .ok (.iinc 1 1, 3) := by decide +kernel
theorem dX0_reindex_26 : decode cX0_reindex 26 = .ok (.goto (-16), 3) := by decide +kernel
theorem dX0_reindex_29 : decode cX0_reindex 29 = .ok (.aload_n 0, 1) := by decide +kernel
theorem dX0_reindex_30 : decode cX0_reindex 30 = .ok (.dup, 1) := by decide +kernel
theorem dX0_reindex_31 : decode cX0_reindex 31 = .ok (.getfield 33, 3) := by decide +kernel
theorem dX0_reindex_34 : decode cX0_reindex 34 = .ok (.iconst 1, 1) := by decide +kernel
theorem dX0_reindex_35 : decode cX0_reindex 35 = .ok (.iadd, 1) := by decide +kernel
theorem dX0_reindex_36 : decode cX0_reindex 36 = .ok (.putfield 33, 3) := by decide +kernel
theorem dX0_reindex_39 : decode cX0_reindex 39 = .ok (.return_, 1) := by decide +kernel
set_option maxRecDepth 20000 in
theorem ggX0_index_X7_hasBit : GoodIn wsX0_index wsX7_hasBit := goodIn_r _ [6] (by decide +kernel) (by decide +kernel)
set_option maxRecDepth 20000 in
theorem gX0_index_X7_hasBit_n43 : GoodIn wsX0_index (wsX7_hasBit) := ggX0_index_X7_hasBit
theorem dX0_index_0 : decode cX0_index 0 = .ok (.iconst 0, 1) := by decide +kernel
theorem dX0_index_1 : decode cX0_index 1 = .ok (.istore_n 2, 1) := by decide +kernel
theorem dX0_index_2 : decode cX0_index 2 = .ok (.iload_n 2, 1) := by decide +kernel
theorem dX0_index_3 : decode cX0_index 3 = .ok (.aload_n 0, 1) := by decide +kernel
theorem dX0_index_4 : decode cX0_index 4 = .ok (.getfield 9, 3) := by decide +kernel
theorem dX0_index_7 : decode cX0_index 7 = .ok (.if_icmp .ge 34, 3) := by decide +kernel
theorem dX0_index_10 : decode cX0_index 10 = .ok (.aload_n 0, 1) := by decide +kernel
theorem dX0_index_11 : decode cX0_index 11 = .ok (.getfield 18, 3) := by decide +kernel
theorem dX0_index_14 : decode cX0_index 14 = .ok (.iload_n 1, 1) := by decide +kernel
theorem dX0_index_15 : decode cX0_index 15 = .ok (.iaload, 1) := by decide +kernel
theorem dX0_index_16 : decode cX0_index 16 = .ok (.iload_n 2, 1) := by decide +kernel
theorem dX0_index_17 : decode cX0_index 17 = .ok (.invokestatic 43, 3) := by decide +kernel
theorem dX0_index_20 : decode cX0_index 20 = .ok (.ifCond .eq 15, 3) := by decide +kernel
theorem dX0_index_23 : decode cX0_index 23 = .ok (.aload_n 0, 1) := by decide +kernel
theorem dX0_index_24 : decode cX0_index 24 = .ok (.getfield 30, 3) := by decide +kernel
theorem dX0_index_27 : decode cX0_index 27 = .ok (.iload_n 2, 1) := by decide +kernel
theorem dX0_index_28 : decode cX0_index 28 = .ok (.dup2, 1) := by decide +kernel
theorem dX0_index_29 : decode cX0_index 29 = .ok (.iaload, 1) := by decide +kernel
theorem dX0_index_30 : decode cX0_index 30 = .ok (.iconst 1, 1) := by decide +kernel
theorem dX0_index_31 : decode cX0_index 31 = .ok (.iload_n 1, 1) := by decide +kernel
theorem dX0_index_32 : decode cX0_index 32 = .ok (.ishl, 1) := by decide +kernel
theorem dX0_index_33 : decode cX0_index 33 = .ok (.ior, 1) := by decide +kernel
theorem dX0_index_34 : decode cX0_index 34 = .ok (.iastore, 1) := by decide +kernel
theorem dX0_index_35 : decode cX0_index 35 = .ok (.iinc 2 1, 3) := by decide +kernel
theorem dX0_index_38 : decode cX0_index 38 = .ok (.goto (-36), 3) := by decide +kernel
theorem dX0_index_41 : decode cX0_index 41 = .ok (.return_, 1) := by decide +kernel
theorem dX0_rate_0 : decode cX0_rate 0 = .ok (.aload_n 0, 1) := by decide +kernel
theorem dX0_rate_1 : decode cX0_rate 1 = .ok (.getfield 26, 3) := by decide +kernel
theorem dX0_rate_4 : decode cX0_rate 4 = .ok (.iload_n 1, 1) := by decide +kernel
theorem dX0_rate_5 : decode cX0_rate 5 = .ok (.baload, 1) := by decide +kernel
theorem dX0_rate_6 : decode cX0_rate 6 = .ok (.ifCond .eq 18, 3) := by decide +kernel
theorem dX0_rate_9 : decode cX0_rate 9 = .ok (.aload_n 0, 1) := by decide +kernel
theorem dX0_rate_10 : decode cX0_rate 10 = .ok (.getfield 22, 3) := by decide +kernel
theorem dX0_rate_13 : decode cX0_rate 13 = .ok (.iload_n 1, 1) := by decide +kernel
theorem dX0_rate_14 : decode cX0_rate 14 = .ok (.daload, 1) := by decide +kernel
theorem dX0_rate_15 : decode cX0_rate 15 = .ok (.dload_n 2, 1) := by decide +kernel
theorem dX0_rate_16 : decode cX0_rate 16 = .ok (.dcmp .l, 1) := by decide +kernel
theorem dX0_rate_17 : decode cX0_rate 17 = .ok (.ifCond .ne 7, 3) := by decide +kernel
theorem dX0_rate_20 : decode cX0_rate 20 = .ok (.iconst 1, 1) := by decide +kernel
theorem dX0_rate_21 : decode cX0_rate 21 = .ok (.goto 4, 3) := by decide +kernel
theorem dX0_rate_24 : decode cX0_rate 24 = .ok (.iconst 0, 1) := by decide +kernel
theorem dX0_rate_25 : decode cX0_rate 25 = .ok (.istore 4, 2) := by decide +kernel
theorem dX0_rate_27 : decode cX0_rate 27 = .ok (.aload_n 0, 1) := by decide +kernel
theorem dX0_rate_28 : decode cX0_rate 28 = .ok (.getfield 26, 3) := by decide +kernel
theorem dX0_rate_31 : decode cX0_rate 31 = .ok (.iload_n 1, 1) := by decide +kernel
theorem dX0_rate_32 : decode cX0_rate 32 = .ok (.iconst 1, 1) := by decide +kernel
theorem dX0_rate_33 : decode cX0_rate 33 = .ok (.bastore, 1) := by decide +kernel
theorem dX0_rate_34 : decode cX0_rate 34 = .ok (.aload_n 0, 1) := by decide +kernel
theorem dX0_rate_35 : decode cX0_rate 35 = .ok (.getfield 22, 3) := by decide +kernel
theorem dX0_rate_38 : decode cX0_rate 38 = .ok (.iload_n 1, 1) := by decide +kernel
theorem dX0_rate_39 : decode cX0_rate 39 = .ok (.dload_n 2, 1) := by decide +kernel
theorem dX0_rate_40 : decode cX0_rate 40 = .ok (.dastore, 1) := by decide +kernel
theorem dX0_rate_41 : decode cX0_rate 41 = .ok (.iload 4, 2) := by decide +kernel
theorem dX0_rate_43 : decode cX0_rate 43 = .ok (.ireturn, 1) := by decide +kernel
theorem dX0_unrate_0 : decode cX0_unrate 0 = .ok (.aload_n 0, 1) := by decide +kernel
theorem dX0_unrate_1 : decode cX0_unrate 1 = .ok (.getfield 26, 3) := by decide +kernel
theorem dX0_unrate_4 : decode cX0_unrate 4 = .ok (.iload_n 1, 1) := by decide +kernel
theorem dX0_unrate_5 : decode cX0_unrate 5 = .ok (.iconst 0, 1) := by decide +kernel
theorem dX0_unrate_6 : decode cX0_unrate 6 = .ok (.bastore, 1) := by decide +kernel
theorem dX0_unrate_7 : decode cX0_unrate 7 = .ok (.aload_n 0, 1) := by decide +kernel
theorem dX0_unrate_8 : decode cX0_unrate 8 = .ok (.getfield 22, 3) := by decide +kernel
theorem dX0_unrate_11 : decode cX0_unrate 11 = .ok (.iload_n 1, 1) := by decide +kernel
theorem dX0_unrate_12 : decode cX0_unrate 12 = .ok (.dconst 0, 1) := by decide +kernel
theorem dX0_unrate_13 : decode cX0_unrate 13 = .ok (.dastore, 1) := by decide +kernel
theorem dX0_unrate_14 : decode cX0_unrate 14 = .ok (.return_, 1) := by decide +kernel
set_option maxRecDepth 20000 in
theorem ggX0_take_X0_reindex : GoodIn wsX0_take wsX0_reindex := goodIn_r _ [10, 11, 2, 12, 13, 14, 15, 16, 17, 18, 19, 9, 20, 1, 3, 21, 22, 23, 24, 25, 26, 27, 28, 29, 30] (by decide +kernel) (by decide +kernel)
set_option maxRecDepth 20000 in
theorem gX0_take_X0_reindex : GoodIn wsX0_take (wsV RX0 57 RX0 yX0_reindex wsX0_reindex) := goodIn_app (goodIn_of _ (by decide +kernel)) ggX0_take_X0_reindex
theorem dX0_take_0 : decode cX0_take 0 = .ok (.aload_n 0, 1) := by decide +kernel
theorem dX0_take_1 : decode cX0_take 1 = .ok (.aload_n 1, 1) := by decide +kernel
theorem dX0_take_2 : decode cX0_take 2 = .ok (.getfield 9, 3) := by decide +kernel
theorem dX0_take_5 : decode cX0_take 5 = .ok (.putfield 9, 3) := by decide +kernel
theorem dX0_take_8 : decode cX0_take 8 = .ok (.aload_n 0, 1) := by decide +kernel
theorem dX0_take_9 : decode cX0_take 9 = .ok (.aload_n 1, 1) := by decide +kernel
theorem dX0_take_10 : decode cX0_take 10 = .ok (.getfield 15, 3) := by decide +kernel
theorem dX0_take_13 : decode cX0_take 13 = .ok (.putfield 15, 3) := by decide +kernel
theorem dX0_take_16 : decode cX0_take 16 = .ok (.iconst 0, 1) := by decide +kernel
theorem dX0_take_17 : decode cX0_take 17 = .ok (.istore_n 2, 1) := by decide +kernel
theorem dX0_take_18 : decode cX0_take 18 = .ok (.iload_n 2, 1) := by decide +kernel
theorem dX0_take_19 : decode cX0_take 19 = .ok (.aload_n 0, 1) := by decide +kernel
theorem dX0_take_20 : decode cX0_take 20 = .ok (.getfield 15, 3) := by decide +kernel
theorem dX0_take_23 : decode cX0_take 23 = .ok (.if_icmp .ge 45, 3) := by decide +kernel
theorem dX0_take_26 : decode cX0_take 26 = .ok (.aload_n 0, 1) := by decide +kernel
theorem dX0_take_27 : decode cX0_take 27 = .ok (.getfield 18, 3) := by decide +kernel
theorem dX0_take_30 : decode cX0_take 30 = .ok (.iload_n 2, 1) := by decide +kernel
theorem dX0_take_31 : decode cX0_take 31 = .ok (.aload_n 1, 1) := by decide +kernel
theorem dX0_take_32 : decode cX0_take 32 = .ok (.getfield 18, 3) := by decide +kernel
theorem dX0_take_35 : decode cX0_take 35 = .ok (.iload_n 2, 1) := by decide +kernel
theorem dX0_take_36 : decode cX0_take 36 = .ok (.iaload, 1) := by decide +kernel
theorem dX0_take_37 : decode cX0_take 37 = .ok (.iastore, 1) := by decide +kernel
theorem dX0_take_38 : decode cX0_take 38 = .ok (.aload_n 0, 1) := by decide +kernel
theorem dX0_take_39 : decode cX0_take 39 = .ok (.getfield 22, 3) := by decide +kernel
theorem dX0_take_42 : decode cX0_take 42 = .ok (.iload_n 2, 1) := by decide +kernel
theorem dX0_take_43 : decode cX0_take 43 = .ok (.aload_n 1, 1) := by decide +kernel
theorem dX0_take_44 : decode cX0_take 44 = .ok (.getfield 22, 3) := by decide +kernel
theorem dX0_take_47 : decode cX0_take 47 = .ok (.iload_n 2, 1) := by decide +kernel
theorem dX0_take_48 : decode cX0_take 48 = .ok (.daload, 1) := by decide +kernel
theorem dX0_take_49 : decode cX0_take 49 = .ok (.dastore, 1) := by decide +kernel
theorem dX0_take_50 : decode cX0_take 50 = .ok (.aload_n 0, 1) := by decide +kernel
theorem dX0_take_51 : decode cX0_take 51 = .ok (.getfield 26, 3) := by decide +kernel
theorem dX0_take_54 : decode cX0_take 54 = .ok (.iload_n 2, 1) := by decide +kernel
theorem dX0_take_55 : decode cX0_take 55 = .ok (.aload_n 1, 1) := by decide +kernel
theorem dX0_take_56 : decode cX0_take 56 = .ok (.getfield 26, 3) := by decide +kernel
theorem dX0_take_59 : decode cX0_take 59 = .ok (.iload_n 2, 1) := by decide +kernel
theorem dX0_take_60 : decode cX0_take 60 = .ok (.baload, 1) := by decide +kernel
theorem dX0_take_61 : decode cX0_take 61 = .ok (.bastore, 1) := by decide +kernel
theorem dX0_take_62 : decode cX0_take 62 = .ok (.iinc 2 1, 3) := by decide +kernel
theorem dX0_take_65 : decode cX0_take 65 = .ok (.goto (-47), 3) := by decide +kernel
theorem dX0_take_68 : decode cX0_take 68 = .ok (.aload_n 0, 1) := by decide +kernel
theorem dX0_take_69 : decode cX0_take 69 = .ok (.invokevirtual 57, 3) := by decide +kernel
theorem dX0_take_72 : decode cX0_take 72 = .ok (.return_, 1) := by decide +kernel
theorem dX1_init_0 : decode cX1_init 0 = .ok (.aload_n 0, 1) := by decide +kernel
theorem dX1_init_1 : decode cX1_init 1 = .ok (.invokespecial 3, 3) := by decide +kernel
theorem dX1_init_4 : decode cX1_init 4 = .ok (.aload_n 0, 1) := by decide +kernel
theorem dX1_init_5 : decode cX1_init 5 = .ok (.aload_n 1, 1) := by decide +kernel
theorem dX1_init_6 : decode cX1_init 6 = .ok (.putfield 9, 3) := by decide +kernel
theorem dX1_init_9 : decode cX1_init 9 = .ok (.aload_n 0, 1) := by decide +kernel
theorem dX1_init_10 : decode cX1_init 10 = .ok (.aload_n 2, 1) := by decide +kernel
theorem dX1_init_11 : decode cX1_init 11 = .ok (.putfield 15, 3) := by decide +kernel
theorem dX1_init_14 : decode cX1_init 14 = .ok (.aload_n 0, 1) := by decide +kernel
theorem dX1_init_15 : decode cX1_init 15 = .ok (.bipush 20, 2) := by decide +kernel
theorem dX1_init_17 : decode cX1_init 17 = .ok (.newarray .int, 2) := by decide +kernel
theorem dX1_init_19 : decode cX1_init 19 = .ok (.putfield 19, 3) := by decide +kernel
theorem dX1_init_22 : decode cX1_init 22 = .ok (.aload_n 0, 1) := by decide +kernel
theorem dX1_init_23 : decode cX1_init 23 = .ok (.bipush 20, 2) := by decide +kernel
theorem dX1_init_25 : decode cX1_init 25 = .ok (.newarray .int, 2) := by decide +kernel
theorem dX1_init_27 : decode cX1_init 27 = .ok (.putfield 23, 3) := by decide +kernel
theorem dX1_init_30 : decode cX1_init 30 = .ok (.aload_n 0, 1) := by decide +kernel
theorem dX1_init_31 : decode cX1_init 31 = .ok (.iconst 0, 1) := by decide +kernel
theorem dX1_init_32 : decode cX1_init 32 = .ok (.putfield 26, 3) := by decide +kernel
theorem dX1_init_35 : decode cX1_init 35 = .ok (.aload_n 0, 1) := by decide +kernel
theorem dX1_init_36 : decode cX1_init 36 = .ok (.iconst 0, 1) := by decide +kernel
theorem dX1_init_37 : decode cX1_init 37 = .ok (.putfield 30, 3) := by decide +kernel
theorem dX1_init_40 : decode cX1_init 40 = .ok (.aload_n 0, 1) := by decide +kernel
theorem dX1_init_41 : decode cX1_init 41 = .ok (.aload_n 1, 1) := by decide +kernel
theorem dX1_init_42 : decode cX1_init 42 = .ok (.getfield 33, 3) := by decide +kernel
theorem dX1_init_45 : decode cX1_init 45 = .ok (.putfield 38, 3) := by decide +kernel
theorem dX1_init_48 : decode cX1_init 48 = .ok (.return_, 1) := by decide +kernel
set_option maxRecDepth 20000 in
theorem ggX1_renew_X1_make : GoodIn wsX1_renew wsX1_make := goodIn_r _ [8, 2, 9, 10, 11, 12, 13, 14, 15, 16, 17, 18, 19, 20, 21, 22, 23, 7, 24, 25, 26, 27, 28, 29, 30, 31, 32, 33, 34, 35, 36, 37, 38, 39, 40, 41, 42, 43, 44, 45, 46, 47, 48, 49, 50, 51, 52, 53, 54, 55, 56, 57, 58, 59, 60, 61, 62, 63, 64, 65, 66, 67, 68, 69, 70, 71, 72, 73, 74, 75, 76, 77, 78, 79, 80, 81, 82, 83, 84, 85, 86, 87, 88, 89, 90] (by decide +kernel) (by decide +kernel)
set_option maxRecDepth 20000 in
theorem gX1_renew_X1_make : GoodIn wsX1_renew (wsV RX1 39 RX1 yX1_make wsX1_make) := goodIn_app (goodIn_of _ (by decide +kernel)) ggX1_renew_X1_make
theorem dX1_renew_0 : decode cX1_renew 0 = .ok (.aload_n 0, 1) := by decide +kernel
theorem dX1_renew_1 : decode cX1_renew 1 = .ok (.getfield 38, 3) := by decide +kernel
theorem dX1_renew_4 : decode cX1_renew 4 = .ok (.aload_n 0, 1) := by decide +kernel
theorem dX1_renew_5 : decode cX1_renew 5 = .ok (.getfield 9, 3) := by decide +kernel
theorem dX1_renew_8 : decode cX1_renew 8 = .ok (.getfield 33, 3) := by decide +kernel
theorem dX1_renew_11 : decode cX1_renew 11 = .ok (.if_icmp .eq 18, 3) := by decide +kernel
theorem dX1_renew_14 : decode cX1_renew 14 = .ok (.aload_n 0, 1) := by decide +kernel
theorem dX1_renew_15 : decode cX1_renew 15 = .ok (.invokevirtual 39, 3) := by decide +kernel
theorem dX1_renew_18 : decode cX1_renew 18 = .ok (.aload_n 0, 1) := by decide +kernel
theorem dX1_renew_19 : decode cX1_renew 19 = .ok (.aload_n 0, 1) := by decide +kernel
theorem dX1_renew_20 : decode cX1_renew 20 = .ok (.getfield 9, 3) := by decide +kernel
theorem dX1_renew_23 : decode cX1_renew 23 = .ok (.getfield 33, 3) := by decide +kernel
theorem dX1_renew_26 : decode cX1_renew 26 = .ok (.putfield 38, 3) := by decide +kernel
theorem dX1_renew_29 : decode cX1_renew 29 = .ok (.return_, 1) := by decide +kernel
set_option maxRecDepth 20000 in
theorem ggX1_make_X0_allNumbers : GoodIn wsX1_make wsX0_allNumbers := goodIn_r _ [12, 13, 76, 77, 78, 79, 80, 81, 82] (by decide +kernel) (by decide +kernel)
set_option maxRecDepth 20000 in
theorem gX1_make_X0_allNumbers : GoodIn wsX1_make (wsV RX1 42 RX0 yX0_allNumbers wsX0_allNumbers) := goodIn_app (goodIn_of _ (by decide +kernel)) ggX1_make_X0_allNumbers
set_option maxRecDepth 20000 in
theorem ggX1_make_X1_formSets : GoodIn wsX1_make wsX1_formSets := goodIn_r _ [18, 1, 19, 20, 21, 22, 23, 6, 24, 25, 26, 27, 28, 29, 30, 31, 32, 33, 34, 35, 36, 37, 38, 39, 40, 41, 42, 11, 43, 44, 45, 46, 47, 48, 49, 50, 9, 10, 12, 13, 51, 52, 53, 54, 55, 56, 57, 58, 59, 60, 61, 62, 63, 69, 70, 71, 72, 73, 74, 75, 76, 77, 78, 79, 80, 81, 82, 83, 84] (by decide +kernel) (by decide +kernel)
set_option maxRecDepth 20000 in
theorem gX1_make_X1_formSets : GoodIn wsX1_make (wsV RX1 46 RX1 yX1_formSets wsX1_formSets) := goodIn_app (goodIn_of _ (by decide +kernel)) ggX1_make_X1_formSets
set_option maxRecDepth 20000 in
theorem ggX1_make_X1_takeAway : GoodIn wsX1_make wsX1_takeAway := goodIn_r _ [67, 1, 19, 20, 68, 2, 25, 26, 27, 63, 57, 58, 59, 60, 61, 62, 69, 70, 71, 72, 73, 74, 75, 76, 77, 78, 79, 80, 81, 82] (by decide +kernel) (by decide +kernel)
set_option maxRecDepth 20000 in
theorem gX1_make_X1_takeAway : GoodIn wsX1_make (wsV RX1 50 RX1 yX1_takeAway wsX1_takeAway) := goodIn_app (goodIn_of _ (by decide +kernel)) ggX1_make_X1_takeAway
theorem dX1_make_0 : decode cX1_make 0 = .ok (.aload_n 0, 1) := by decide +kernel
theorem dX1_make_1 : decode cX1_make 1 = .ok (.getfield 9, 3) := by decide +kernel
theorem dX1_make_4 : decode cX1_make 4 = .ok (.invokevirtual 42, 3) := by decide +kernel
theorem dX1_make_7 : decode cX1_make 7 = .ok (.istore_n 1, 1) := by decide +kernel
theorem dX1_make_8 : decode cX1_make 8 = .ok (.aload_n 0, 1) := by decide +kernel
theorem dX1_make_9 : decode cX1_make 9 = .ok (.iconst 0, 1) := by decide +kernel
theorem dX1_make_10 : decode cX1_make 10 = .ok (.putfield 26, 3) := by decide +kernel
theorem dX1_make_13 : decode cX1_make 13 = .ok (.aload_n 0, 1) := by decide +kernel
theorem dX1_make_14 : decode cX1_make 14 = .ok (.iconst 0, 1) := by decide +kernel
theorem dX1_make_15 : decode cX1_make 15 = .ok (.putfield 30, 3) := by decide +kernel
theorem dX1_make_18 : decode cX1_make 18 = .ok (.iconst 0, 1) := by decide +kernel
theorem dX1_make_19 : decode cX1_make 19 = .ok (.istore_n 2, 1) := by decide +kernel
theorem dX1_make_20 : decode cX1_make 20 = .ok (.iload_n 2, 1) := by decide +kernel
theorem dX1_make_21 : decode cX1_make 21 = .ok (.bipush 20, 2) := by decide +kernel
theorem dX1_make_23 : decode cX1_make 23 = .ok (.if_icmp .ge 52, 3) := by decide +kernel
theorem dX1_make_26 : decode cX1_make 26 = .ok (.iload_n 1, 1) := by decide +kernel
theorem dX1_make_27 : decode cX1_make 27 = .ok (.ifCond .eq 48, 3) := by decide +kernel
theorem dX1_make_30 : decode cX1_make 30 = .ok (.aload_n 0, 1) := by decide +kernel
theorem dX1_make_31 : decode cX1_make 31 = .ok (.iload_n 1, 1) := by decide +kernel
theorem dX1_make_32 : decode cX1_make 32 = .ok (.invokevirtual 46, 3) := by decide +kernel
theorem dX1_make_35 : decode cX1_make 35 = .ok (.istore_n 3, 1) := by decide +kernel
theorem dX1_make_36 : decode cX1_make 36 = .ok (.iload_n 1, 1) := by decide +kernel
theorem dX1_make_37 : decode cX1_make 37 = .ok (.aload_n 0, 1) := by decide +kernel
theorem dX1_make_38 : decode cX1_make 38 = .ok (.iload_n 1, 1) := by decide +kernel
theorem dX1_make_39 : decode cX1_make 39 = .ok (.iload_n 3, 1) := by decide +kernel
theorem dX1_make_40 : decode cX1_make 40 = .ok (.invokevirtual 50, 3) := by decide +kernel
theorem dX1_make_43 : decode cX1_make 43 = .ok (.iconst (-1), 1) := by decide +kernel
theorem dX1_make_44 : decode cX1_make 44 = .ok (.ixor, 1) := by decide +kernel
theorem dX1_make_45 : decode cX1_make 45 = .ok (.iand, 1) := by decide +kernel
theorem dX1_make_46 : decode cX1_make 46 = .ok (.istore_n 1, 1) := by decide +kernel
theorem dX1_make_47 : decode cX1_make 47 = .ok (.aload_n 0, 1) := by decide +kernel
theorem dX1_make_48 : decode cX1_make 48 = .ok (.aload_n 0, 1) := by decide +kernel
theorem dX1_make_49 : decode cX1_make 49 = .ok (.getfield 30, 3) := by decide +kernel
theorem dX1_make_52 : decode cX1_make 52 = .ok (.iload_n 3, 1) := by decide +kernel
theorem dX1_make_53 : decode cX1_make 53 = .ok (.invokestatic 54, 3) := by decide +kernel
theorem dX1_make_56 : decode cX1_make 56 = .ok (.putfield 30, 3) := by decide +kernel
theorem dX1_make_59 : decode cX1_make 59 = .ok (.aload_n 0, 1) := by decide +kernel
theorem dX1_make_60 : decode cX1_make 60 = .ok (.dup, 1) := by decide +kernel
theorem dX1_make_61 : decode cX1_make 61 = .ok (.getfield 26, 3) := by decide +kernel
theorem dX1_make_64 : decode cX1_make 64 = .ok (.iconst 1, 1) := by decide +kernel
theorem dX1_make_65 : decode cX1_make 65 = .ok (.iadd, 1) := by decide +kernel
theorem dX1_make_66 : decode cX1_make 66 = .ok (.putfield 26, 3) := by decide +kernel
theorem dX1_make_69 : decode cX1_make 69 = .ok (.iinc 2 1, 3) := by decide +kernel
theorem dX1_make_72 : decode cX1_make 72 = .ok (.goto (-52), 3) := by decide +kernel
theorem dX1_make_75 : decode cX1_make 75 = .ok (.return_, 1) := by decide +kernel
set_option maxRecDepth 20000 in
theorem ggX1_formSets_X7_hasBit : GoodIn wsX1_formSets wsX7_hasBit := goodIn_r _ [11] (by decide +kernel) (by decide +kernel)
set_option maxRecDepth 20000 in
theorem gX1_formSets_X7_hasBit_n62 : GoodIn wsX1_formSets (wsX7_hasBit) := ggX1_formSets_X7_hasBit
set_option maxRecDepth 20000 in
theorem ggX1_formSets_X4_smallest : GoodIn wsX1_formSets wsX4_smallest := goodIn_r _ [16, 17, 18, 19, 20, 21, 15, 22, 23, 24, 25, 26, 27, 28, 29, 9, 10, 11, 30, 31, 32, 33, 34, 35, 36, 37, 38, 39, 40, 41, 42, 43, 44, 45, 46, 47, 48, 49, 50, 51, 67, 68, 60, 61, 62, 63, 64, 65, 66] (by decide +kernel) (by decide +kernel)
set_option maxRecDepth 20000 in
theorem gX1_formSets_X4_smallest : GoodIn wsX1_formSets (wsV RX1 66 RX4 yX4_smallest wsX4_smallest) := goodIn_app (goodIn_of _ (by decide +kernel)) ggX1_formSets_X4_smallest
set_option maxRecDepth 20000 in
theorem ggX1_formSets_J6_bitCount_0f7a4 : GoodIn wsX1_formSets wsJ6_bitCount_0f7a4 := goodIn_r _ [48, 49, 50, 51] (by decide +kernel) (by decide +kernel)
set_option maxRecDepth 20000 in
theorem gX1_formSets_J6_bitCount_0f7a4 : GoodIn wsX1_formSets (va_wsS RX1 71 yJ6_bitCount_0f7a4 wsJ6_bitCount_0f7a4) := goodIn_app (goodIn_of _ (by decide +kernel)) ggX1_formSets_J6_bitCount_0f7a4
theorem dX1_formSets_0 : decode cX1_formSets 0 = .ok (.bipush 8, 2) := by decide +kernel
theorem dX1_formSets_2 : decode cX1_formSets 2 = .ok (.istore_n 2, 1) := by decide +kernel
theorem dX1_formSets_3 : decode cX1_formSets 3 = .ok (.iconst 0, 1) := by decide +kernel
theorem dX1_formSets_4 : decode cX1_formSets 4 = .ok (.istore_n 3, 1) := by decide +kernel
theorem dX1_formSets_5 : decode cX1_formSets 5 = .ok (.iload_n 3, 1) := by decide +kernel
theorem dX1_formSets_6 : decode cX1_formSets 6 = .ok (.aload_n 0, 1) := by decide +kernel
theorem dX1_formSets_7 : decode cX1_formSets 7 = .ok (.getfield 9, 3) := by decide +kernel
theorem dX1_formSets_10 : decode cX1_formSets 10 = .ok (.getfield 59, 3) := by decide +kernel
theorem dX1_formSets_13 : decode cX1_formSets 13 = .ok (.if_icmp .ge 52, 3) := by decide +kernel
theorem dX1_formSets_16 : decode cX1_formSets 16 = .ok (.iload_n 1, 1) := by decide +kernel
theorem dX1_formSets_17 : decode cX1_formSets 17 = .ok (.iload_n 3, 1) := by decide +kernel
theorem dX1_formSets_18 : decode cX1_formSets 18 = .ok (.invokestatic 62, 3) := by decide +kernel
theorem dX1_formSets_21 : decode cX1_formSets 21 = .ok (.ifCond .eq 38, 3) := by decide +kernel
theorem dX1_formSets_24 : decode cX1_formSets 24 = .ok (.aload_n 0, 1) := by decide +kernel
theorem dX1_formSets_25 : decode cX1_formSets 25 = .ok (.getfield 23, 3) := by decide +kernel
theorem dX1_formSets_28 : decode cX1_formSets 28 = .ok (.iload_n 3, 1) := by decide +kernel
theorem dX1_formSets_29 : decode cX1_formSets 29 = .ok (.aload_n 0, 1) := by decide +kernel
theorem dX1_formSets_30 : decode cX1_formSets 30 = .ok (.getfield 15, 3) := by decide +kernel
theorem dX1_formSets_33 : decode cX1_formSets 33 = .ok (.iload_n 3, 1) := by decide +kernel
theorem dX1_formSets_34 : decode cX1_formSets 34 = .ok (.iload_n 1, 1) := by decide +kernel
theorem dX1_formSets_35 : decode cX1_formSets 35 = .ok (.iconst 1, 1) := by decide +kernel
theorem dX1_formSets_36 : decode cX1_formSets 36 = .ok (.iload_n 3, 1) := by decide +kernel
theorem dX1_formSets_37 : decode cX1_formSets 37 = .ok (.ishl, 1) := by decide +kernel
theorem dX1_formSets_38 : decode cX1_formSets 38 = .ok (.iconst (-1), 1) := by decide +kernel
theorem dX1_formSets_39 : decode cX1_formSets 39 = .ok (.ixor, 1) := by decide +kernel
theorem dX1_formSets_40 : decode cX1_formSets 40 = .ok (.iand, 1) := by decide +kernel
theorem dX1_formSets_41 : decode cX1_formSets 41 = .ok (.invokevirtual 66, 3) := by decide +kernel
theorem dX1_formSets_44 : decode cX1_formSets 44 = .ok (.iastore, 1) := by decide +kernel
theorem dX1_formSets_45 : decode cX1_formSets 45 = .ok (.iload_n 2, 1) := by decide +kernel
theorem dX1_formSets_46 : decode cX1_formSets 46 = .ok (.aload_n 0, 1) := by decide +kernel
theorem dX1_formSets_47 : decode cX1_formSets 47 = .ok (.getfield 23, 3) := by decide +kernel
theorem dX1_formSets_50 : decode cX1_formSets 50 = .ok (.iload_n 3, 1) := by decide +kernel
theorem dX1_formSets_51 : decode cX1_formSets 51 = .ok (.iaload, 1) := by decide +kernel
theorem dX1_formSets_52 : decode cX1_formSets 52 = .ok (.invokestatic 71, 3) := by decide +kernel
theorem dX1_formSets_55 : decode cX1_formSets 55 = .ok (.invokestatic 76, 3) := by decide +kernel
theorem dX1_formSets_58 : decode cX1_formSets 58 = .ok (.istore_n 2, 1) := by decide +kernel
theorem dX1_formSets_59 : decode cX1_formSets 59 = .ok (.iinc 3 1, 3) := by decide +kernel
theorem dX1_formSets_62 : decode cX1_formSets 62 = .ok (.goto (-57), 3) := by decide +kernel
theorem dX1_formSets_65 : decode cX1_formSets 65 = .ok (.iload_n 2, 1) := by decide +kernel
theorem dX1_formSets_66 : decode cX1_formSets 66 = .ok (.ireturn, 1) := by decide +kernel
set_option maxRecDepth 20000 in
theorem ggX1_takeAway_X7_hasBit : GoodIn wsX1_takeAway wsX7_hasBit := goodIn_r _ [8] (by decide +kernel) (by decide +kernel)
set_option maxRecDepth 20000 in
theorem gX1_takeAway_X7_hasBit_n62 : GoodIn wsX1_takeAway (wsX7_hasBit) := ggX1_takeAway_X7_hasBit
set_option maxRecDepth 20000 in
theorem ggX1_takeAway_J6_bitCount_0f7a4 : GoodIn wsX1_takeAway wsJ6_bitCount_0f7a4 := goodIn_r _ [12, 13, 14, 15] (by decide +kernel) (by decide +kernel)
set_option maxRecDepth 20000 in
theorem gX1_takeAway_J6_bitCount_0f7a4 : GoodIn wsX1_takeAway (va_wsS RX1 71 yJ6_bitCount_0f7a4 wsJ6_bitCount_0f7a4) := goodIn_app (goodIn_of _ (by decide +kernel)) ggX1_takeAway_J6_bitCount_0f7a4
theorem dX1_takeAway_0 : decode cX1_takeAway 0 = .ok (.iconst 0, 1) := by decide +kernel
theorem dX1_takeAway_1 : decode cX1_takeAway 1 = .ok (.istore_n 3, 1) := by decide +kernel
theorem dX1_takeAway_2 : decode cX1_takeAway 2 = .ok (.iconst 0, 1) := by decide +kernel
theorem dX1_takeAway_3 : decode cX1_takeAway 3 = .ok (.istore 4, 2) := by decide +kernel
theorem dX1_takeAway_5 : decode cX1_takeAway 5 = .ok (.iload 4, 2) := by decide +kernel
theorem dX1_takeAway_7 : decode cX1_takeAway 7 = .ok (.aload_n 0, 1) := by decide +kernel
theorem dX1_takeAway_8 : decode cX1_takeAway 8 = .ok (.getfield 9, 3) := by decide +kernel
theorem dX1_takeAway_11 : decode cX1_takeAway 11 = .ok (.getfield 59, 3) := by decide +kernel
theorem dX1_takeAway_14 : decode cX1_takeAway 14 = .ok (.if_icmp .ge 50, 3) := by decide +kernel
theorem dX1_takeAway_17 : decode cX1_takeAway 17 = .ok (.iload_n 1, 1) := by decide +kernel
theorem dX1_takeAway_18 : decode cX1_takeAway 18 = .ok (.iload 4, 2) := by decide +kernel
theorem dX1_takeAway_20 : decode cX1_takeAway 20 = .ok (.invokestatic 62, 3) := by decide +kernel
theorem dX1_takeAway_23 : decode cX1_takeAway 23 = .ok (.ifCond .eq 35, 3) := by decide +kernel
theorem dX1_takeAway_26 : decode cX1_takeAway 26 = .ok (.aload_n 0, 1) := by decide +kernel
theorem dX1_takeAway_27 : decode cX1_takeAway 27 = .ok (.getfield 23, 3) := by decide +kernel
theorem dX1_takeAway_30 : decode cX1_takeAway 30 = .ok (.iload 4, 2) := by decide +kernel
theorem dX1_takeAway_32 : decode cX1_takeAway 32 = .ok (.iaload, 1) := by decide +kernel
theorem dX1_takeAway_33 : decode cX1_takeAway 33 = .ok (.invokestatic 71, 3) := by decide +kernel
theorem dX1_takeAway_36 : decode cX1_takeAway 36 = .ok (.iload_n 2, 1) := by decide +kernel
theorem dX1_takeAway_37 : decode cX1_takeAway 37 = .ok (.if_icmp .ne 21, 3) := by decide +kernel
theorem dX1_takeAway_40 : decode cX1_takeAway 40 = .ok (.aload_n 0, 1) := by decide +kernel
theorem dX1_takeAway_41 : decode cX1_takeAway 41 = .ok (.getfield 19, 3) := by decide +kernel
theorem dX1_takeAway_44 : decode cX1_takeAway 44 = .ok (.iload 4, 2) := by decide +kernel
theorem dX1_takeAway_46 : decode cX1_takeAway 46 = .ok (.aload_n 0, 1) := by decide +kernel
theorem dX1_takeAway_47 : decode cX1_takeAway 47 = .ok (.getfield 26, 3) := by decide +kernel
theorem dX1_takeAway_50 : decode cX1_takeAway 50 = .ok (.iastore, 1) := by decide +kernel
theorem dX1_takeAway_51 : decode cX1_takeAway 51 = .ok (.iload_n 3, 1) := by decide +kernel
theorem dX1_takeAway_52 : decode cX1_takeAway 52 = .ok (.iconst 1, 1) := by decide +kernel
theorem dX1_takeAway_53 : decode cX1_takeAway 53 = .ok (.iload 4, 2) := by decide +kernel
theorem dX1_takeAway_55 : decode cX1_takeAway 55 = .ok (.ishl, 1) := by decide +kernel
theorem dX1_takeAway_56 : decode cX1_takeAway 56 = .ok (.ior, 1) := by decide +kernel
theorem dX1_takeAway_57 : decode cX1_takeAway 57 = .ok (.istore_n 3, 1) := by decide +kernel
theorem dX1_takeAway_58 : decode cX1_takeAway 58 = .ok (.iinc 4 1, 3) := by decide +kernel
theorem dX1_takeAway_61 : decode cX1_takeAway 61 = .ok (.goto (-56), 3) := by decide +kernel
theorem dX1_takeAway_64 : decode cX1_takeAway 64 = .ok (.iload_n 3, 1) := by decide +kernel
theorem dX1_takeAway_65 : decode cX1_takeAway 65 = .ok (.ireturn, 1) := by decide +kernel
theorem dX2_init_0 : decode cX2_init 0 = .ok (.aload_n 0, 1) := by decide +kernel
theorem dX2_init_1 : decode cX2_init 1 = .ok (.invokespecial 3, 3) := by decide +kernel
theorem dX2_init_4 : decode cX2_init 4 = .ok (.aload_n 0, 1) := by decide +kernel
theorem dX2_init_5 : decode cX2_init 5 = .ok (.aload_n 1, 1) := by decide +kernel
theorem dX2_init_6 : decode cX2_init 6 = .ok (.putfield 9, 3) := by decide +kernel
theorem dX2_init_9 : decode cX2_init 9 = .ok (.aload_n 0, 1) := by decide +kernel
theorem dX2_init_10 : decode cX2_init 10 = .ok (.sipush 411, 3) := by decide +kernel
theorem dX2_init_13 : decode cX2_init 13 = .ok (.newarray .long, 2) := by decide +kernel
theorem dX2_init_15 : decode cX2_init 15 = .ok (.putfield 15, 3) := by decide +kernel
theorem dX2_init_18 : decode cX2_init 18 = .ok (.return_, 1) := by decide +kernel
set_option maxRecDepth 20000 in
theorem ggX2_depth_J7_fill_d0a16 : GoodIn wsX2_depth wsJ7_fill_d0a16 := goodIn_r _ [5] (by decide +kernel) (by decide +kernel)
set_option maxRecDepth 20000 in
theorem gX2_depth_J7_fill_d0a16 : GoodIn wsX2_depth (va_wsS RX2 19 yJ7_fill_d0a16 wsJ7_fill_d0a16) := goodIn_app (goodIn_of _ (by decide +kernel)) ggX2_depth_J7_fill_d0a16
set_option maxRecDepth 20000 in
theorem ggX2_depth_X2_depthOf : GoodIn wsX2_depth wsX2_depthOf := goodIn_r _ [10, 11, 12, 13, 14, 15, 16, 17, 18, 19, 20, 21, 22, 9, 23, 1, 24, 25, 26, 27, 28, 29, 30, 31, 32, 33, 34, 35, 36, 37, 38, 39, 40, 41, 42, 43, 44, 45, 46, 47, 48, 49, 50, 51, 6, 7, 8, 52, 53, 54, 55, 56, 57, 58, 59, 60, 61, 62, 63, 64, 65, 66, 67] (by decide +kernel) (by decide +kernel)
set_option maxRecDepth 20000 in
theorem gX2_depth_X2_depthOf : GoodIn wsX2_depth (wsV RX2 25 RX2 yX2_depthOf wsX2_depthOf) := goodIn_app (goodIn_of _ (by decide +kernel)) ggX2_depth_X2_depthOf
theorem dX2_depth_0 : decode cX2_depth 0 = .ok (.aload_n 0, 1) := by decide +kernel
theorem dX2_depth_1 : decode cX2_depth 1 = .ok (.getfield 15, 3) := by decide +kernel
theorem dX2_depth_4 : decode cX2_depth 4 = .ok (.lconst 0, 1) := by decide +kernel
theorem dX2_depth_5 : decode cX2_depth 5 = .ok (.invokestatic 19, 3) := by decide +kernel
theorem dX2_depth_8 : decode cX2_depth 8 = .ok (.aload_n 0, 1) := by decide +kernel
theorem dX2_depth_9 : decode cX2_depth 9 = .ok (.iload_n 1, 1) := by decide +kernel
theorem dX2_depth_10 : decode cX2_depth 10 = .ok (.iconst 0, 1) := by decide +kernel
theorem dX2_depth_11 : decode cX2_depth 11 = .ok (.iconst 0, 1) := by decide +kernel
theorem dX2_depth_12 : decode cX2_depth 12 = .ok (.invokevirtual 25, 3) := by decide +kernel
theorem dX2_depth_15 : decode cX2_depth 15 = .ok (.ireturn, 1) := by decide +kernel
set_option maxRecDepth 20000 in
theorem ggX2_best_X2_depth : GoodIn wsX2_best wsX2_depth := goodIn_r _ [7, 8, 9, 10, 11, 12, 13, 14, 15, 6, 16, 1, 2, 17, 18, 19, 20, 21, 22, 23, 24, 25, 26, 27, 28, 29, 30, 31, 32, 33, 34, 35, 36, 37, 38, 39, 40, 41, 42, 43, 44, 45, 46, 47, 48, 49, 50, 51, 52, 53, 54, 55, 56, 57, 58, 59, 60, 61, 62, 63, 64, 65, 66, 67, 68, 69, 70, 71] (by decide +kernel) (by decide +kernel)
set_option maxRecDepth 20000 in
theorem gX2_best_X2_depth : GoodIn wsX2_best (wsV RX2 29 RX2 yX2_depth wsX2_depth) := goodIn_app (goodIn_of _ (by decide +kernel)) ggX2_best_X2_depth
set_option maxRecDepth 20000 in
theorem ggX2_best_X2_depthBy : GoodIn wsX2_best wsX2_depthBy := goodIn_r _ [39, 1, 40, 41, 42, 43, 44, 45, 46, 47, 48, 49, 50, 51, 52, 53, 54, 55, 13, 14, 15, 6, 16, 2, 17, 18, 19, 20, 21, 22, 23, 24, 25, 26, 27, 8, 28, 29, 30, 31, 32, 33, 34, 35, 36, 37, 38, 56, 57, 58, 59, 60, 61, 62, 63, 64, 65, 66, 67, 68, 69, 70, 71] (by decide +kernel) (by decide +kernel)
set_option maxRecDepth 20000 in
theorem gX2_best_X2_depthBy : GoodIn wsX2_best (wsV RX2 39 RX2 yX2_depthBy wsX2_depthBy) := goodIn_app (goodIn_of _ (by decide +kernel)) ggX2_best_X2_depthBy
theorem dX2_best_0 : decode cX2_best 0 = .ok (.aload_n 0, 1) := by decide +kernel
theorem dX2_best_1 : decode cX2_best 1 = .ok (.iload_n 1, 1) := by decide +kernel
theorem dX2_best_2 : decode cX2_best 2 = .ok (.invokevirtual 29, 3) := by decide +kernel
theorem dX2_best_5 : decode cX2_best 5 = .ok (.istore_n 2, 1) := by decide +kernel
theorem dX2_best_6 : decode cX2_best 6 = .ok (.iconst 0, 1) := by decide +kernel
theorem dX2_best_7 : decode cX2_best 7 = .ok (.istore_n 3, 1) := by decide +kernel
theorem dX2_best_8 : decode cX2_best 8 = .ok (.iload_n 3, 1) := by decide +kernel
theorem dX2_best_9 : decode cX2_best 9 = .ok (.aload_n 0, 1) := by decide +kernel
theorem dX2_best_10 : decode cX2_best 10 = .ok (.getfield 9, 3) := by decide +kernel
theorem dX2_best_13 : decode cX2_best 13 = .ok (.getfield 33, 3) := by decide +kernel
theorem dX2_best_16 : decode cX2_best 16 = .ok (.if_icmp .ge 23, 3) := by decide +kernel
theorem dX2_best_19 : decode cX2_best 19 = .ok (.aload_n 0, 1) := by decide +kernel
theorem dX2_best_20 : decode cX2_best 20 = .ok (.iload_n 3, 1) := by decide +kernel
theorem dX2_best_21 : decode cX2_best 21 = .ok (.iload_n 1, 1) := by decide +kernel
theorem dX2_best_22 : decode cX2_best 22 = .ok (.iconst 0, 1) := by decide +kernel
theorem dX2_best_23 : decode cX2_best 23 = .ok (.iconst 0, 1) := by decide +kernel
theorem dX2_best_24 : decode cX2_best 24 = .ok (.invokevirtual 39, 3) := by decide +kernel
theorem dX2_best_27 : decode cX2_best 27 = .ok (.iload_n 2, 1) := by decide +kernel
theorem dX2_best_28 : decode cX2_best 28 = .ok (.if_icmp .ne 5, 3) := by decide +kernel
theorem dX2_best_31 : decode cX2_best 31 = .ok (.iload_n 3, 1) := by decide +kernel
theorem dX2_best_32 : decode cX2_best 32 = .ok (.ireturn, 1) := by decide +kernel
theorem dX2_best_33 : decode cX2_best 33 = .ok (.iinc 3 1, 3) := by decide +kernel
theorem dX2_best_36 : decode cX2_best 36 = .ok (.goto (-28), 3) := by decide +kernel
theorem dX2_best_39 : decode cX2_best 39 = .ok (.bipush (-6), 2) := by decide +kernel
theorem dX2_best_41 : decode cX2_best 41 = .ok (.ireturn, 1) := by decide +kernel
set_option maxRecDepth 20000 in
theorem ggX2_depthOf_J6_bitCount_0f7a4 : GoodIn wsX2_depthOf wsJ6_bitCount_0f7a4 := goodIn_r _ [6, 7, 8, 9] (by decide +kernel) (by decide +kernel)
set_option maxRecDepth 20000 in
theorem gX2_depthOf_J6_bitCount_0f7a4 : GoodIn wsX2_depthOf (va_wsS RX2 43 yJ6_bitCount_0f7a4 wsJ6_bitCount_0f7a4) := goodIn_app (goodIn_of _ (by decide +kernel)) ggX2_depthOf_J6_bitCount_0f7a4
set_option maxRecDepth 20000 in
theorem ggX2_depthOf_X2_knownDepth : GoodIn wsX2_depthOf wsX2_knownDepth := goodIn_r _ [14, 15, 16, 17, 18, 13, 19, 54, 55] (by decide +kernel) (by decide +kernel)
set_option maxRecDepth 20000 in
theorem gX2_depthOf_X2_knownDepth : GoodIn wsX2_depthOf (wsV RX2 48 RX2 yX2_knownDepth wsX2_knownDepth) := goodIn_app (goodIn_of _ (by decide +kernel)) ggX2_depthOf_X2_knownDepth
set_option maxRecDepth 20000 in
theorem ggX2_depthOf_X2_leastDepth : GoodIn wsX2_depthOf wsX2_leastDepth := goodIn_r _ [47, 1, 2, 48, 49, 31, 50, 3, 4, 5, 6, 7, 8, 9, 51, 52, 53, 13, 27, 28, 29, 30, 32, 33, 34, 35, 36, 37, 38, 39, 40, 41, 42, 43, 44, 45, 46, 0, 10, 11, 12, 14, 15, 16, 17, 18, 19, 20, 21, 22, 23, 24, 25, 26, 54, 55, 56, 57, 58, 59, 60, 61, 62] (by decide +kernel) (by decide +kernel)
set_option maxRecDepth 20000 in
theorem gX2_depthOf_X2_leastDepth : GoodIn wsX2_depthOf (wsV RX2 51 RX2 yX2_leastDepth wsX2_leastDepth) := goodIn_app (goodIn_of _ (by decide +kernel)) ggX2_depthOf_X2_leastDepth
set_option maxRecDepth 20000 in
theorem ggX2_depthOf_X2_keepDepth : GoodIn wsX2_depthOf wsX2_keepDepth := goodIn_r _ [26, 15, 17, 18, 13, 19, 54, 55] (by decide +kernel) (by decide +kernel)
set_option maxRecDepth 20000 in
theorem gX2_depthOf_X2_keepDepth : GoodIn wsX2_depthOf (wsV RX2 54 RX2 yX2_keepDepth wsX2_keepDepth) := goodIn_app (goodIn_of _ (by decide +kernel)) ggX2_depthOf_X2_keepDepth
theorem dX2_depthOf_0 : decode cX2_depthOf 0 = .ok (.iload_n 3, 1) := by decide +kernel
theorem dX2_depthOf_1 : decode cX2_depthOf 1 = .ok (.aload_n 0, 1) := by decide +kernel
theorem dX2_depthOf_2 : decode cX2_depthOf 2 = .ok (.getfield 9, 3) := by decide +kernel
theorem dX2_depthOf_5 : decode cX2_depthOf 5 = .ok (.getfield 33, 3) := by decide +kernel
theorem dX2_depthOf_8 : decode cX2_depthOf 8 = .ok (.if_icmp .ge 11, 3) := by decide +kernel
theorem dX2_depthOf_11 : decode cX2_depthOf 11 = .ok (.iload_n 1, 1) := by decide +kernel
theorem dX2_depthOf_12 : decode cX2_depthOf 12 = .ok (.invokestatic 43, 3) := by decide +kernel
theorem dX2_depthOf_15 : decode cX2_depthOf 15 = .ok (.iconst 1, 1) := by decide +kernel
theorem dX2_depthOf_16 : decode cX2_depthOf 16 = .ok (.if_icmp .gt 5, 3) := by decide +kernel
theorem dX2_depthOf_19 : decode cX2_depthOf 19 = .ok (.iconst 0, 1) := by decide +kernel
theorem dX2_depthOf_20 : decode cX2_depthOf 20 = .ok (.ireturn, 1) := by decide +kernel
theorem dX2_depthOf_21 : decode cX2_depthOf 21 = .ok (.aload_n 0, 1) := by decide +kernel
theorem dX2_depthOf_22 : decode cX2_depthOf 22 = .ok (.iload_n 2, 1) := by decide +kernel
theorem dX2_depthOf_23 : decode cX2_depthOf 23 = .ok (.invokevirtual 48, 3) := by decide +kernel
theorem dX2_depthOf_26 : decode cX2_depthOf 26 = .ok (.istore 4, 2) := by decide +kernel
theorem dX2_depthOf_28 : decode cX2_depthOf 28 = .ok (.iload 4, 2) := by decide +kernel
theorem dX2_depthOf_30 : decode cX2_depthOf 30 = .ok (.iconst (-1), 1) := by decide +kernel
theorem dX2_depthOf_31 : decode cX2_depthOf 31 = .ok (.if_icmp .eq 6, 3) := by decide +kernel
theorem dX2_depthOf_34 : decode cX2_depthOf 34 = .ok (.iload 4, 2) := by decide +kernel
theorem dX2_depthOf_36 : decode cX2_depthOf 36 = .ok (.ireturn, 1) := by decide +kernel
theorem dX2_depthOf_37 : decode cX2_depthOf 37 = .ok (.aload_n 0, 1) := by decide +kernel
theorem dX2_depthOf_38 : decode cX2_depthOf 38 = .ok (.iload_n 1, 1) := by decide +kernel
theorem dX2_depthOf_39 : decode cX2_depthOf 39 = .ok (.iload_n 2, 1) := by decide +kernel
theorem dX2_depthOf_40 : decode cX2_depthOf 40 = .ok (.iload_n 3, 1) := by decide +kernel
theorem dX2_depthOf_41 : decode cX2_depthOf 41 = .ok (.invokevirtual 51, 3) := by decide +kernel
theorem dX2_depthOf_44 : decode cX2_depthOf 44 = .ok (.istore 5, 2) := by decide +kernel
theorem dX2_depthOf_46 : decode cX2_depthOf 46 = .ok (.aload_n 0, 1) := by decide +kernel
theorem dX2_depthOf_47 : decode cX2_depthOf 47 = .ok (.iload_n 2, 1) := by decide +kernel
theorem dX2_depthOf_48 : decode cX2_depthOf 48 = .ok (.iload 5, 2) := by decide +kernel
theorem dX2_depthOf_50 : decode cX2_depthOf 50 = .ok (.invokevirtual 54, 3) := by decide +kernel
theorem dX2_depthOf_53 : decode cX2_depthOf 53 = .ok (.iload 5, 2) := by decide +kernel
theorem dX2_depthOf_55 : decode cX2_depthOf 55 = .ok (.ireturn, 1) := by decide +kernel
set_option maxRecDepth 20000 in
theorem ggX2_knownDepth_X2_placeOf : GoodIn wsX2_knownDepth wsX2_placeOf := goodIn_r _ [6] (by decide +kernel) (by decide +kernel)
set_option maxRecDepth 20000 in
theorem gX2_knownDepth_X2_placeOf : GoodIn wsX2_knownDepth (va_wsS RX2 58 yX2_placeOf wsX2_placeOf) := goodIn_app (goodIn_of _ (by decide +kernel)) ggX2_knownDepth_X2_placeOf
theorem dX2_knownDepth_0 : decode cX2_knownDepth 0 = .ok (.aload_n 0, 1) := by decide +kernel
theorem dX2_knownDepth_1 : decode cX2_knownDepth 1 = .ok (.getfield 15, 3) := by decide +kernel
theorem dX2_knownDepth_4 : decode cX2_knownDepth 4 = .ok (.iload_n 1, 1) := by decide +kernel
theorem dX2_knownDepth_5 : decode cX2_knownDepth 5 = .ok (.iconst 4, 1) := by decide +kernel
theorem dX2_knownDepth_6 : decode cX2_knownDepth 6 = .ok (.ishr, 1) := by decide +kernel
theorem dX2_knownDepth_7 : decode cX2_knownDepth 7 = .ok (.laload, 1) := by decide +kernel
theorem dX2_knownDepth_8 : decode cX2_knownDepth 8 = .ok (.iload_n 1, 1) := by decide +kernel
theorem dX2_knownDepth_9 : decode cX2_knownDepth 9 = .ok (.invokestatic 58, 3) := by decide +kernel
theorem dX2_knownDepth_12 : decode cX2_knownDepth 12 = .ok (.lshr, 1) := by decide +kernel
theorem dX2_knownDepth_13 : decode cX2_knownDepth 13 = .ok (.ldc2_w 61, 3) := by decide +kernel
theorem dX2_knownDepth_16 : decode cX2_knownDepth 16 = .ok (.land, 1) := by decide +kernel
theorem dX2_knownDepth_17 : decode cX2_knownDepth 17 = .ok (.l2i, 1) := by decide +kernel
theorem dX2_knownDepth_18 : decode cX2_knownDepth 18 = .ok (.iconst 1, 1) := by decide +kernel
theorem dX2_knownDepth_19 : decode cX2_knownDepth 19 = .ok (.isub, 1) := by decide +kernel
theorem dX2_knownDepth_20 : decode cX2_knownDepth 20 = .ok (.ireturn, 1) := by decide +kernel
set_option maxRecDepth 20000 in
theorem ggX2_keepDepth_X2_placeOf : GoodIn wsX2_keepDepth wsX2_placeOf := goodIn_r _ [5] (by decide +kernel) (by decide +kernel)
set_option maxRecDepth 20000 in
theorem gX2_keepDepth_X2_placeOf : GoodIn wsX2_keepDepth (va_wsS RX2 58 yX2_placeOf wsX2_placeOf) := goodIn_app (goodIn_of _ (by decide +kernel)) ggX2_keepDepth_X2_placeOf
theorem dX2_keepDepth_0 : decode cX2_keepDepth 0 = .ok (.aload_n 0, 1) := by decide +kernel
theorem dX2_keepDepth_1 : decode cX2_keepDepth 1 = .ok (.getfield 15, 3) := by decide +kernel
theorem dX2_keepDepth_4 : decode cX2_keepDepth 4 = .ok (.iload_n 1, 1) := by decide +kernel
theorem dX2_keepDepth_5 : decode cX2_keepDepth 5 = .ok (.iconst 4, 1) := by decide +kernel
theorem dX2_keepDepth_6 : decode cX2_keepDepth 6 = .ok (.ishr, 1) := by decide +kernel
theorem dX2_keepDepth_7 : decode cX2_keepDepth 7 = .ok (.dup2, 1) := by decide +kernel
theorem dX2_keepDepth_8 : decode cX2_keepDepth 8 = .ok (.laload, 1) := by decide +kernel
theorem dX2_keepDepth_9 : decode cX2_keepDepth 9 = .ok (.iload_n 2, 1) := by decide +kernel
theorem dX2_keepDepth_10 : decode cX2_keepDepth 10 = .ok (.i2l, 1) := by decide +kernel
theorem dX2_keepDepth_11 : decode cX2_keepDepth 11 = .ok (.lconst 1, 1) := by decide +kernel
theorem dX2_keepDepth_12 : decode cX2_keepDepth 12 = .ok (.ladd, 1) := by decide +kernel
theorem dX2_keepDepth_13 : decode cX2_keepDepth 13 = .ok (.iload_n 1, 1) := by decide +kernel
theorem dX2_keepDepth_14 : decode cX2_keepDepth 14 = .ok (.invokestatic 58, 3) := by decide +kernel
theorem dX2_keepDepth_17 : decode cX2_keepDepth 17 = .ok (.lshl, 1) := by decide +kernel
theorem dX2_keepDepth_18 : decode cX2_keepDepth 18 = .ok (.lor, 1) := by decide +kernel
theorem dX2_keepDepth_19 : decode cX2_keepDepth 19 = .ok (.lastore, 1) := by decide +kernel
theorem dX2_keepDepth_20 : decode cX2_keepDepth 20 = .ok (.return_, 1) := by decide +kernel
theorem dX2_placeOf_0 : decode cX2_placeOf 0 = .ok (.iload_n 0, 1) := by decide +kernel
theorem dX2_placeOf_1 : decode cX2_placeOf 1 = .ok (.bipush 15, 2) := by decide +kernel
theorem dX2_placeOf_3 : decode cX2_placeOf 3 = .ok (.iand, 1) := by decide +kernel
theorem dX2_placeOf_4 : decode cX2_placeOf 4 = .ok (.iconst 2, 1) := by decide +kernel
theorem dX2_placeOf_5 : decode cX2_placeOf 5 = .ok (.ishl, 1) := by decide +kernel
theorem dX2_placeOf_6 : decode cX2_placeOf 6 = .ok (.ireturn, 1) := by decide +kernel
set_option maxRecDepth 20000 in
theorem ggX2_leastDepth_J6_bitCount_0f7a4 : GoodIn wsX2_leastDepth wsJ6_bitCount_0f7a4 := goodIn_r _ [10, 11, 12, 13] (by decide +kernel) (by decide +kernel)
set_option maxRecDepth 20000 in
theorem gX2_leastDepth_J6_bitCount_0f7a4 : GoodIn wsX2_leastDepth (va_wsS RX2 43 yJ6_bitCount_0f7a4 wsJ6_bitCount_0f7a4) := goodIn_app (goodIn_of _ (by decide +kernel)) ggX2_leastDepth_J6_bitCount_0f7a4
set_option maxRecDepth 20000 in
theorem ggX2_leastDepth_X2_depthBy : GoodIn wsX2_leastDepth wsX2_depthBy := goodIn_r _ [18, 1, 19, 20, 21, 5, 22, 23, 24, 25, 26, 27, 28, 29, 30, 31, 32, 33, 34, 35, 36, 17, 37, 2, 7, 8, 9, 10, 11, 12, 13, 38, 39, 40, 41, 42, 43, 44, 45, 46, 47, 48, 49, 50, 51, 52, 53, 0, 3, 4, 6, 14, 15, 16, 54, 55, 56, 57, 58, 59, 60, 61, 62] (by decide +kernel) (by decide +kernel)
set_option maxRecDepth 20000 in
theorem gX2_leastDepth_X2_depthBy : GoodIn wsX2_leastDepth (wsV RX2 39 RX2 yX2_depthBy wsX2_depthBy) := goodIn_app (goodIn_of _ (by decide +kernel)) ggX2_leastDepth_X2_depthBy
theorem dX2_leastDepth_0 : decode cX2_leastDepth 0 = .ok (.iload_n 1, 1) := by decide +kernel
theorem dX2_leastDepth_1 : decode cX2_leastDepth 1 = .ok (.invokestatic 43, 3) := by decide +kernel
theorem dX2_leastDepth_4 : decode cX2_leastDepth 4 = .ok (.istore 4, 2) := by decide +kernel
theorem dX2_leastDepth_6 : decode cX2_leastDepth 6 = .ok (.bipush 9, 2) := by decide +kernel
theorem dX2_leastDepth_8 : decode cX2_leastDepth 8 = .ok (.istore 5, 2) := by decide +kernel
theorem dX2_leastDepth_10 : decode cX2_leastDepth 10 = .ok (.iconst 0, 1) := by decide +kernel
theorem dX2_leastDepth_11 : decode cX2_leastDepth 11 = .ok (.istore 6, 2) := by decide +kernel
theorem dX2_leastDepth_13 : decode cX2_leastDepth 13 = .ok (.iload 6, 2) := by decide +kernel
theorem dX2_leastDepth_15 : decode cX2_leastDepth 15 = .ok (.aload_n 0, 1) := by decide +kernel
theorem dX2_leastDepth_16 : decode cX2_leastDepth 16 = .ok (.getfield 9, 3) := by decide +kernel
theorem dX2_leastDepth_19 : decode cX2_leastDepth 19 = .ok (.getfield 33, 3) := by decide +kernel
theorem dX2_leastDepth_22 : decode cX2_leastDepth 22 = .ok (.if_icmp .ge 36, 3) := by decide +kernel
theorem dX2_leastDepth_25 : decode cX2_leastDepth 25 = .ok (.iconst 1, 1) := by decide +kernel
theorem dX2_leastDepth_26 : decode cX2_leastDepth 26 = .ok (.iload 5, 2) := by decide +kernel
theorem dX2_leastDepth_28 : decode cX2_leastDepth 28 = .ok (.iconst 1, 1) := by decide +kernel
theorem dX2_leastDepth_29 : decode cX2_leastDepth 29 = .ok (.isub, 1) := by decide +kernel
theorem dX2_leastDepth_30 : decode cX2_leastDepth 30 = .ok (.ishl, 1) := by decide +kernel
theorem dX2_leastDepth_31 : decode cX2_leastDepth 31 = .ok (.iload 4, 2) := by decide +kernel
theorem dX2_leastDepth_33 : decode cX2_leastDepth 33 = .ok (.if_icmp .lt 25, 3) := by decide +kernel
theorem dX2_leastDepth_36 : decode cX2_leastDepth 36 = .ok (.iload 5, 2) := by decide +kernel
theorem dX2_leastDepth_38 : decode cX2_leastDepth 38 = .ok (.aload_n 0, 1) := by decide +kernel
theorem dX2_leastDepth_39 : decode cX2_leastDepth 39 = .ok (.iload 6, 2) := by decide +kernel
theorem dX2_leastDepth_41 : decode cX2_leastDepth 41 = .ok (.iload_n 1, 1) := by decide +kernel
theorem dX2_leastDepth_42 : decode cX2_leastDepth 42 = .ok (.iload_n 2, 1) := by decide +kernel
theorem dX2_leastDepth_43 : decode cX2_leastDepth 43 = .ok (.iload_n 3, 1) := by decide +kernel
theorem dX2_leastDepth_44 : decode cX2_leastDepth 44 = .ok (.invokevirtual 39, 3) := by decide +kernel
theorem dX2_leastDepth_47 : decode cX2_leastDepth 47 = .ok (.invokestatic 63, 3) := by decide +kernel
theorem dX2_leastDepth_50 : decode cX2_leastDepth 50 = .ok (.istore 5, 2) := by decide +kernel
theorem dX2_leastDepth_52 : decode cX2_leastDepth 52 = .ok (.iinc 6 1, 3) := by decide +kernel
theorem dX2_leastDepth_55 : decode cX2_leastDepth 55 = .ok (.goto (-42), 3) := by decide +kernel
theorem dX2_leastDepth_58 : decode cX2_leastDepth 58 = .ok (.iload 5, 2) := by decide +kernel
theorem dX2_leastDepth_60 : decode cX2_leastDepth 60 = .ok (.ireturn, 1) := by decide +kernel
set_option maxRecDepth 20000 in
theorem ggX2_depthBy_X0_labelling : GoodIn wsX2_depthBy wsX0_labelling := goodIn_r _ [11, 12, 13, 14, 15, 10, 16, 17, 56, 57, 58, 59, 60, 61, 62] (by decide +kernel) (by decide +kernel)
set_option maxRecDepth 20000 in
theorem gX2_depthBy_X0_labelling : GoodIn wsX2_depthBy (wsV RX2 69 RX0 yX0_labelling wsX0_labelling) := goodIn_app (goodIn_of _ (by decide +kernel)) ggX2_depthBy_X0_labelling
set_option maxRecDepth 20000 in
theorem ggX2_depthBy_X2_depthOf : GoodIn wsX2_depthBy wsX2_depthOf := goodIn_r _ [22, 1, 23, 24, 25, 26, 27, 28, 29, 30, 31, 32, 33, 21, 34, 35, 36, 37, 38, 39, 40, 41, 42, 43, 44, 45, 46, 0, 2, 3, 4, 5, 6, 7, 8, 9, 10, 11, 12, 13, 14, 15, 16, 17, 18, 19, 20, 47, 48, 49, 50, 51, 52, 53, 54, 55, 56, 57, 58, 59, 60, 61, 62] (by decide +kernel) (by decide +kernel)
set_option maxRecDepth 20000 in
theorem gX2_depthBy_X2_depthOf : GoodIn wsX2_depthBy (wsV RX2 25 RX2 yX2_depthOf wsX2_depthOf) := goodIn_app (goodIn_of _ (by decide +kernel)) ggX2_depthBy_X2_depthOf
theorem dX2_depthBy_0 : decode cX2_depthBy 0 = .ok (.iload_n 2, 1) := by decide +kernel
theorem dX2_depthBy_1 : decode cX2_depthBy 1 = .ok (.aload_n 0, 1) := by decide +kernel
theorem dX2_depthBy_2 : decode cX2_depthBy 2 = .ok (.getfield 9, 3) := by decide +kernel
theorem dX2_depthBy_5 : decode cX2_depthBy 5 = .ok (.iload_n 1, 1) := by decide +kernel
theorem dX2_depthBy_6 : decode cX2_depthBy 6 = .ok (.iconst 1, 1) := by decide +kernel
theorem dX2_depthBy_7 : decode cX2_depthBy 7 = .ok (.invokevirtual 69, 3) := by decide +kernel
theorem dX2_depthBy_10 : decode cX2_depthBy 10 = .ok (.iand, 1) := by decide +kernel
theorem dX2_depthBy_11 : decode cX2_depthBy 11 = .ok (.istore 5, 2) := by decide +kernel
theorem dX2_depthBy_13 : decode cX2_depthBy 13 = .ok (.iload_n 2, 1) := by decide +kernel
theorem dX2_depthBy_14 : decode cX2_depthBy 14 = .ok (.iload 5, 2) := by decide +kernel
theorem dX2_depthBy_16 : decode cX2_depthBy 16 = .ok (.iconst (-1), 1) := by decide +kernel
theorem dX2_depthBy_17 : decode cX2_depthBy 17 = .ok (.ixor, 1) := by decide +kernel
theorem dX2_depthBy_18 : decode cX2_depthBy 18 = .ok (.iand, 1) := by decide +kernel
theorem dX2_depthBy_19 : decode cX2_depthBy 19 = .ok (.istore 6, 2) := by decide +kernel
theorem dX2_depthBy_21 : decode cX2_depthBy 21 = .ok (.iload 5, 2) := by decide +kernel
theorem dX2_depthBy_23 : decode cX2_depthBy 23 = .ok (.ifCond .eq 8, 3) := by decide +kernel
theorem dX2_depthBy_26 : decode cX2_depthBy 26 = .ok (.iload 6, 2) := by decide +kernel
theorem dX2_depthBy_28 : decode cX2_depthBy 28 = .ok (.ifCond .ne 6, 3) := by decide +kernel
theorem dX2_depthBy_31 : decode cX2_depthBy 31 = .ok (.bipush 9, 2) := by decide +kernel
theorem dX2_depthBy_33 : decode cX2_depthBy 33 = .ok (.ireturn, 1) := by decide +kernel
theorem dX2_depthBy_34 : decode cX2_depthBy 34 = .ok (.aload_n 0, 1) := by decide +kernel
theorem dX2_depthBy_35 : decode cX2_depthBy 35 = .ok (.iload 5, 2) := by decide +kernel
theorem dX2_depthBy_37 : decode cX2_depthBy 37 = .ok (.iload_n 3, 1) := by decide +kernel
theorem dX2_depthBy_38 : decode cX2_depthBy 38 = .ok (.iconst 2, 1) := by decide +kernel
theorem dX2_depthBy_39 : decode cX2_depthBy 39 = .ok (.getstatic 72, 3) := by decide +kernel
theorem dX2_depthBy_42 : decode cX2_depthBy 42 = .ok (.iload_n 1, 1) := by decide +kernel
theorem dX2_depthBy_43 : decode cX2_depthBy 43 = .ok (.iaload, 1) := by decide +kernel
theorem dX2_depthBy_44 : decode cX2_depthBy 44 = .ok (.imul, 1) := by decide +kernel
theorem dX2_depthBy_45 : decode cX2_depthBy 45 = .ok (.iadd, 1) := by decide +kernel
theorem dX2_depthBy_46 : decode cX2_depthBy 46 = .ok (.iload 4, 2) := by decide +kernel
theorem dX2_depthBy_48 : decode cX2_depthBy 48 = .ok (.iconst 1, 1) := by decide +kernel
theorem dX2_depthBy_49 : decode cX2_depthBy 49 = .ok (.iadd, 1) := by decide +kernel
theorem dX2_depthBy_50 : decode cX2_depthBy 50 = .ok (.invokevirtual 25, 3) := by decide +kernel
theorem dX2_depthBy_53 : decode cX2_depthBy 53 = .ok (.istore 7, 2) := by decide +kernel
theorem dX2_depthBy_55 : decode cX2_depthBy 55 = .ok (.aload_n 0, 1) := by decide +kernel
theorem dX2_depthBy_56 : decode cX2_depthBy 56 = .ok (.iload 6, 2) := by decide +kernel
theorem dX2_depthBy_58 : decode cX2_depthBy 58 = .ok (.iload_n 3, 1) := by decide +kernel
theorem dX2_depthBy_59 : decode cX2_depthBy 59 = .ok (.getstatic 72, 3) := by decide +kernel
theorem dX2_depthBy_62 : decode cX2_depthBy 62 = .ok (.iload_n 1, 1) := by decide +kernel
theorem dX2_depthBy_63 : decode cX2_depthBy 63 = .ok (.iaload, 1) := by decide +kernel
theorem dX2_depthBy_64 : decode cX2_depthBy 64 = .ok (.iadd, 1) := by decide +kernel
theorem dX2_depthBy_65 : decode cX2_depthBy 65 = .ok (.iload 4, 2) := by decide +kernel
theorem dX2_depthBy_67 : decode cX2_depthBy 67 = .ok (.iconst 1, 1) := by decide +kernel
theorem dX2_depthBy_68 : decode cX2_depthBy 68 = .ok (.iadd, 1) := by decide +kernel
theorem dX2_depthBy_69 : decode cX2_depthBy 69 = .ok (.invokevirtual 25, 3) := by decide +kernel
theorem dX2_depthBy_72 : decode cX2_depthBy 72 = .ok (.istore 8, 2) := by decide +kernel
theorem dX2_depthBy_74 : decode cX2_depthBy 74 = .ok (.iconst 1, 1) := by decide +kernel
theorem dX2_depthBy_75 : decode cX2_depthBy 75 = .ok (.iload 7, 2) := by decide +kernel
theorem dX2_depthBy_77 : decode cX2_depthBy 77 = .ok (.iload 8, 2) := by decide +kernel
theorem dX2_depthBy_79 : decode cX2_depthBy 79 = .ok (.invokestatic 76, 3) := by decide +kernel
theorem dX2_depthBy_82 : decode cX2_depthBy 82 = .ok (.iadd, 1) := by decide +kernel
theorem dX2_depthBy_83 : decode cX2_depthBy 83 = .ok (.ireturn, 1) := by decide +kernel
theorem dX3_init_0 : decode cX3_init 0 = .ok (.aload_n 0, 1) := by decide +kernel
theorem dX3_init_1 : decode cX3_init 1 = .ok (.invokespecial 3, 3) := by decide +kernel
theorem dX3_init_4 : decode cX3_init 4 = .ok (.aload_n 0, 1) := by decide +kernel
theorem dX3_init_5 : decode cX3_init 5 = .ok (.iconst 0, 1) := by decide +kernel
theorem dX3_init_6 : decode cX3_init 6 = .ok (.putfield 9, 3) := by decide +kernel
theorem dX3_init_9 : decode cX3_init 9 = .ok (.aload_n 0, 1) := by decide +kernel
theorem dX3_init_10 : decode cX3_init 10 = .ok (.bipush 12, 2) := by decide +kernel
theorem dX3_init_12 : decode cX3_init 12 = .ok (.newarray .int, 2) := by decide +kernel
theorem dX3_init_14 : decode cX3_init 14 = .ok (.putfield 15, 3) := by decide +kernel
theorem dX3_init_17 : decode cX3_init 17 = .ok (.return_, 1) := by decide +kernel
theorem dX3_hasRoomFor_0 : decode cX3_hasRoomFor 0 = .ok (.aload_n 0, 1) := by decide +kernel
theorem dX3_hasRoomFor_1 : decode cX3_hasRoomFor 1 = .ok (.getfield 9, 3) := by decide +kernel
theorem dX3_hasRoomFor_4 : decode cX3_hasRoomFor 4 = .ok (.iload_n 1, 1) := by decide +kernel
theorem dX3_hasRoomFor_5 : decode cX3_hasRoomFor 5 = .ok (.iadd, 1) := by decide +kernel
theorem dX3_hasRoomFor_6 : decode cX3_hasRoomFor 6 = .ok (.bipush 12, 2) := by decide +kernel
theorem dX3_hasRoomFor_8 : decode cX3_hasRoomFor 8 = .ok (.if_icmp .gt 7, 3) := by decide +kernel
theorem dX3_hasRoomFor_11 : decode cX3_hasRoomFor 11 = .ok (.iconst 1, 1) := by decide +kernel
theorem dX3_hasRoomFor_12 : decode cX3_hasRoomFor 12 = .ok (.goto 4, 3) := by decide +kernel
theorem dX3_hasRoomFor_15 : decode cX3_hasRoomFor 15 = .ok (.iconst 0, 1) := by decide +kernel
theorem dX3_hasRoomFor_16 : decode cX3_hasRoomFor 16 = .ok (.ireturn, 1) := by decide +kernel
theorem dX3_append_0 : decode cX3_append 0 = .ok (.aload_n 0, 1) := by decide +kernel
theorem dX3_append_1 : decode cX3_append 1 = .ok (.getfield 15, 3) := by decide +kernel
theorem dX3_append_4 : decode cX3_append 4 = .ok (.aload_n 0, 1) := by decide +kernel
theorem dX3_append_5 : decode cX3_append 5 = .ok (.getfield 9, 3) := by decide +kernel
theorem dX3_append_8 : decode cX3_append 8 = .ok (.iconst 2, 1) := by decide +kernel
theorem dX3_append_9 : decode cX3_append 9 = .ok (.iload_n 1, 1) := by decide +kernel
theorem dX3_append_10 : decode cX3_append 10 = .ok (.imul, 1) := by decide +kernel
theorem dX3_append_11 : decode cX3_append 11 = .ok (.iload_n 2, 1) := by decide +kernel
theorem dX3_append_12 : decode cX3_append 12 = .ok (.iadd, 1) := by decide +kernel
theorem dX3_append_13 : decode cX3_append 13 = .ok (.iastore, 1) := by decide +kernel
theorem dX3_append_14 : decode cX3_append 14 = .ok (.aload_n 0, 1) := by decide +kernel
theorem dX3_append_15 : decode cX3_append 15 = .ok (.dup, 1) := by decide +kernel
theorem dX3_append_16 : decode cX3_append 16 = .ok (.getfield 9, 3) := by decide +kernel
theorem dX3_append_19 : decode cX3_append 19 = .ok (.iconst 1, 1) := by decide +kernel
theorem dX3_append_20 : decode cX3_append 20 = .ok (.iadd, 1) := by decide +kernel
theorem dX3_append_21 : decode cX3_append 21 = .ok (.putfield 9, 3) := by decide +kernel
theorem dX3_append_24 : decode cX3_append 24 = .ok (.return_, 1) := by decide +kernel
theorem dX3_pointAt_0 : decode cX3_pointAt 0 = .ok (.aload_n 0, 1) := by decide +kernel
theorem dX3_pointAt_1 : decode cX3_pointAt 1 = .ok (.getfield 15, 3) := by decide +kernel
theorem dX3_pointAt_4 : decode cX3_pointAt 4 = .ok (.iload_n 1, 1) := by decide +kernel
theorem dX3_pointAt_5 : decode cX3_pointAt 5 = .ok (.iaload, 1) := by decide +kernel
theorem dX3_pointAt_6 : decode cX3_pointAt 6 = .ok (.iconst 1, 1) := by decide +kernel
theorem dX3_pointAt_7 : decode cX3_pointAt 7 = .ok (.ishr, 1) := by decide +kernel
theorem dX3_pointAt_8 : decode cX3_pointAt 8 = .ok (.ireturn, 1) := by decide +kernel
theorem dX3_labelAt_0 : decode cX3_labelAt 0 = .ok (.aload_n 0, 1) := by decide +kernel
theorem dX3_labelAt_1 : decode cX3_labelAt 1 = .ok (.getfield 15, 3) := by decide +kernel
theorem dX3_labelAt_4 : decode cX3_labelAt 4 = .ok (.iload_n 1, 1) := by decide +kernel
theorem dX3_labelAt_5 : decode cX3_labelAt 5 = .ok (.iaload, 1) := by decide +kernel
theorem dX3_labelAt_6 : decode cX3_labelAt 6 = .ok (.iconst 1, 1) := by decide +kernel
theorem dX3_labelAt_7 : decode cX3_labelAt 7 = .ok (.iand, 1) := by decide +kernel
theorem dX3_labelAt_8 : decode cX3_labelAt 8 = .ok (.ireturn, 1) := by decide +kernel
theorem dX3_forget_0 : decode cX3_forget 0 = .ok (.aload_n 0, 1) := by decide +kernel
theorem dX3_forget_1 : decode cX3_forget 1 = .ok (.iconst 0, 1) := by decide +kernel
theorem dX3_forget_2 : decode cX3_forget 2 = .ok (.putfield 9, 3) := by decide +kernel
theorem dX3_forget_5 : decode cX3_forget 5 = .ok (.return_, 1) := by decide +kernel
theorem dX3_take_0 : decode cX3_take 0 = .ok (.aload_n 0, 1) := by decide +kernel
theorem dX3_take_1 : decode cX3_take 1 = .ok (.aload_n 1, 1) := by decide +kernel
theorem dX3_take_2 : decode cX3_take 2 = .ok (.getfield 9, 3) := by decide +kernel
theorem dX3_take_5 : decode cX3_take 5 = .ok (.putfield 9, 3) := by decide +kernel
theorem dX3_take_8 : decode cX3_take 8 = .ok (.aload_n 1, 1) := by decide +kernel
theorem dX3_take_9 : decode cX3_take 9 = .ok (.getfield 15, 3) := by decide +kernel
theorem dX3_take_12 : decode cX3_take 12 = .ok (.iconst 0, 1) := by decide +kernel
theorem dX3_take_13 : decode cX3_take 13 = .ok (.aload_n 0, 1) := by decide +kernel
theorem dX3_take_14 : decode cX3_take 14 = .ok (.getfield 15, 3) := by decide +kernel
theorem dX3_take_17 : decode cX3_take 17 = .ok (.iconst 0, 1) := by decide +kernel
theorem dX3_take_18 : decode cX3_take 18 = .ok (.bipush 12, 2) := by decide +kernel
theorem dX3_take_20 : decode cX3_take 20 = .ok (.invokestatic 19, 3) := by decide +kernel
theorem dX3_take_23 : decode cX3_take 23 = .ok (.return_, 1) := by decide +kernel
theorem dX4_init_0 : decode cX4_init 0 = .ok (.aload_n 0, 1) := by decide +kernel
theorem dX4_init_1 : decode cX4_init 1 = .ok (.invokespecial 3, 3) := by decide +kernel
theorem dX4_init_4 : decode cX4_init 4 = .ok (.aload_n 0, 1) := by decide +kernel
theorem dX4_init_5 : decode cX4_init 5 = .ok (.aload_n 1, 1) := by decide +kernel
theorem dX4_init_6 : decode cX4_init 6 = .ok (.putfield 9, 3) := by decide +kernel
theorem dX4_init_9 : decode cX4_init 9 = .ok (.aload_n 0, 1) := by decide +kernel
theorem dX4_init_10 : decode cX4_init 10 = .ok (.sipush 256, 3) := by decide +kernel
theorem dX4_init_13 : decode cX4_init 13 = .ok (.newarray .int, 2) := by decide +kernel
theorem dX4_init_15 : decode cX4_init 15 = .ok (.putfield 15, 3) := by decide +kernel
theorem dX4_init_18 : decode cX4_init 18 = .ok (.return_, 1) := by decide +kernel
set_option maxRecDepth 20000 in
theorem ggX4_beats_X4_weigh : GoodIn wsX4_beats wsX4_weigh := goodIn_r _ [6, 1, 7, 8, 9, 10, 11, 12, 13, 14, 15, 16, 17, 18, 19, 20, 21, 22, 23, 24, 25, 26, 27, 28, 29, 30, 31, 32, 33, 34, 35, 36] (by decide +kernel) (by decide +kernel)
set_option maxRecDepth 20000 in
theorem gX4_beats_X4_weigh : GoodIn wsX4_beats (wsV RX4 19 RX4 yX4_weigh wsX4_weigh) := goodIn_app (goodIn_of _ (by decide +kernel)) ggX4_beats_X4_weigh
theorem dX4_beats_0 : decode cX4_beats 0 = .ok (.aload_n 0, 1) := by decide +kernel
theorem dX4_beats_1 : decode cX4_beats 1 = .ok (.iload_n 1, 1) := by decide +kernel
theorem dX4_beats_2 : decode cX4_beats 2 = .ok (.iload_n 2, 1) := by decide +kernel
theorem dX4_beats_3 : decode cX4_beats 3 = .ok (.invokevirtual 19, 3) := by decide +kernel
theorem dX4_beats_6 : decode cX4_beats 6 = .ok (.aload_n 0, 1) := by decide +kernel
theorem dX4_beats_7 : decode cX4_beats 7 = .ok (.getfield 15, 3) := by decide +kernel
theorem dX4_beats_10 : decode cX4_beats 10 = .ok (.iload_n 3, 1) := by decide +kernel
theorem dX4_beats_11 : decode cX4_beats 11 = .ok (.iaload, 1) := by decide +kernel
theorem dX4_beats_12 : decode cX4_beats 12 = .ok (.ifCond .ne 7, 3) := by decide +kernel
theorem dX4_beats_15 : decode cX4_beats 15 = .ok (.iconst 1, 1) := by decide +kernel
theorem dX4_beats_16 : decode cX4_beats 16 = .ok (.goto 4, 3) := by decide +kernel
theorem dX4_beats_19 : decode cX4_beats 19 = .ok (.iconst 0, 1) := by decide +kernel
theorem dX4_beats_20 : decode cX4_beats 20 = .ok (.ireturn, 1) := by decide +kernel
set_option maxRecDepth 20000 in
theorem ggX4_smallest_X4_weigh : GoodIn wsX4_smallest wsX4_weigh := goodIn_r _ [7, 2, 1, 8, 9, 10, 11, 12, 13, 14, 15, 16, 17, 18, 19, 20, 21, 22, 23, 24, 25, 26, 27, 40, 41, 42, 43, 44, 45, 46, 47, 48] (by decide +kernel) (by decide +kernel)
set_option maxRecDepth 20000 in
theorem gX4_smallest_X4_weigh : GoodIn wsX4_smallest (wsV RX4 19 RX4 yX4_weigh wsX4_weigh) := goodIn_app (goodIn_of _ (by decide +kernel)) ggX4_smallest_X4_weigh
set_option maxRecDepth 20000 in
theorem ggX4_smallest_X0_allPoints : GoodIn wsX4_smallest wsX0_allPoints := goodIn_r _ [31, 32, 42, 43, 44, 45, 46, 47, 48] (by decide +kernel) (by decide +kernel)
set_option maxRecDepth 20000 in
theorem gX4_smallest_X0_allPoints : GoodIn wsX4_smallest (wsV RX4 23 RX0 yX0_allPoints wsX0_allPoints) := goodIn_app (goodIn_of _ (by decide +kernel)) ggX4_smallest_X0_allPoints
set_option maxRecDepth 20000 in
theorem ggX4_smallest_J6_bitCount_0f7a4 : GoodIn wsX4_smallest wsJ6_bitCount_0f7a4 := goodIn_r _ [36, 37, 38, 39] (by decide +kernel) (by decide +kernel)
set_option maxRecDepth 20000 in
theorem gX4_smallest_J6_bitCount_0f7a4 : GoodIn wsX4_smallest (va_wsS RX4 29 yJ6_bitCount_0f7a4 wsJ6_bitCount_0f7a4) := goodIn_app (goodIn_of _ (by decide +kernel)) ggX4_smallest_J6_bitCount_0f7a4
theorem dX4_smallest_0 : decode cX4_smallest 0 = .ok (.aload_n 0, 1) := by decide +kernel
theorem dX4_smallest_1 : decode cX4_smallest 1 = .ok (.iload_n 1, 1) := by decide +kernel
theorem dX4_smallest_2 : decode cX4_smallest 2 = .ok (.iload_n 2, 1) := by decide +kernel
theorem dX4_smallest_3 : decode cX4_smallest 3 = .ok (.invokevirtual 19, 3) := by decide +kernel
theorem dX4_smallest_6 : decode cX4_smallest 6 = .ok (.aload_n 0, 1) := by decide +kernel
theorem dX4_smallest_7 : decode cX4_smallest 7 = .ok (.getfield 9, 3) := by decide +kernel
theorem dX4_smallest_10 : decode cX4_smallest 10 = .ok (.invokevirtual 23, 3) := by decide +kernel
theorem dX4_smallest_13 : decode cX4_smallest 13 = .ok (.istore_n 3, 1) := by decide +kernel
theorem dX4_smallest_14 : decode cX4_smallest 14 = .ok (.iconst 0, 1) := by decide +kernel
theorem dX4_smallest_15 : decode cX4_smallest 15 = .ok (.istore 4, 2) := by decide +kernel
theorem dX4_smallest_17 : decode cX4_smallest 17 = .ok (.iload 4, 2) := by decide +kernel
theorem dX4_smallest_19 : decode cX4_smallest 19 = .ok (.aload_n 0, 1) := by decide +kernel
theorem dX4_smallest_20 : decode cX4_smallest 20 = .ok (.getfield 9, 3) := by decide +kernel
theorem dX4_smallest_23 : decode cX4_smallest 23 = .ok (.invokevirtual 23, 3) := by decide +kernel
theorem dX4_smallest_26 : decode cX4_smallest 26 = .ok (.if_icmp .gt 34, 3) := by decide +kernel
theorem dX4_smallest_29 : decode cX4_smallest 29 = .ok (.aload_n 0, 1) := by decide +kernel
theorem dX4_smallest_30 : decode cX4_smallest 30 = .ok (.getfield 15, 3) := by decide +kernel
theorem dX4_smallest_33 : decode cX4_smallest 33 = .ok (.iload 4, 2) := by decide +kernel
theorem dX4_smallest_35 : decode cX4_smallest 35 = .ok (.iaload, 1) := by decide +kernel
theorem dX4_smallest_36 : decode cX4_smallest 36 = .ok (.ifCond .ne 18, 3) := by decide +kernel
theorem dX4_smallest_39 : decode cX4_smallest 39 = .ok (.iload 4, 2) := by decide +kernel
theorem dX4_smallest_41 : decode cX4_smallest 41 = .ok (.invokestatic 29, 3) := by decide +kernel
theorem dX4_smallest_44 : decode cX4_smallest 44 = .ok (.iload_n 3, 1) := by decide +kernel
theorem dX4_smallest_45 : decode cX4_smallest 45 = .ok (.invokestatic 29, 3) := by decide +kernel
theorem dX4_smallest_48 : decode cX4_smallest 48 = .ok (.if_icmp .ge 6, 3) := by decide +kernel
theorem dX4_smallest_51 : decode cX4_smallest 51 = .ok (.iload 4, 2) := by decide +kernel
theorem dX4_smallest_53 : decode cX4_smallest 53 = .ok (.istore_n 3, 1) := by decide +kernel
theorem dX4_smallest_54 : decode cX4_smallest 54 = .ok (.iinc 4 1, 3) := by decide +kernel
theorem dX4_smallest_57 : decode cX4_smallest 57 = .ok (.goto (-40), 3) := by decide +kernel
theorem dX4_smallest_60 : decode cX4_smallest 60 = .ok (.iload_n 3, 1) := by decide +kernel
theorem dX4_smallest_61 : decode cX4_smallest 61 = .ok (.ireturn, 1) := by decide +kernel
set_option maxRecDepth 20000 in
theorem ggX4_smallestSize_X0_others : GoodIn wsX4_smallestSize wsX0_others := goodIn_r _ [6, 7, 8, 9, 5, 10, 11, 50, 51, 52, 53, 54, 55, 56] (by decide +kernel) (by decide +kernel)
set_option maxRecDepth 20000 in
theorem gX4_smallestSize_X0_others : GoodIn wsX4_smallestSize (wsV RX4 35 RX0 yX0_others wsX0_others) := goodIn_app (goodIn_of _ (by decide +kernel)) ggX4_smallestSize_X0_others
set_option maxRecDepth 20000 in
theorem ggX4_smallestSize_X4_smallest : GoodIn wsX4_smallestSize wsX4_smallest := goodIn_r _ [16, 1, 17, 18, 19, 20, 15, 21, 22, 23, 24, 25, 5, 26, 27, 28, 29, 30, 31, 32, 33, 34, 35, 7, 8, 9, 10, 11, 36, 37, 38, 39, 40, 41, 42, 43, 44, 45, 46, 47, 48, 49, 50, 51, 52, 53, 54, 55, 56] (by decide +kernel) (by decide +kernel)
set_option maxRecDepth 20000 in
theorem gX4_smallestSize_X4_smallest : GoodIn wsX4_smallestSize (wsV RX4 38 RX4 yX4_smallest wsX4_smallest) := goodIn_app (goodIn_of _ (by decide +kernel)) ggX4_smallestSize_X4_smallest
set_option maxRecDepth 20000 in
theorem ggX4_smallestSize_J6_bitCount_0f7a4 : GoodIn wsX4_smallestSize wsJ6_bitCount_0f7a4 := goodIn_r _ [44, 45, 46, 47] (by decide +kernel) (by decide +kernel)
set_option maxRecDepth 20000 in
theorem gX4_smallestSize_J6_bitCount_0f7a4 : GoodIn wsX4_smallestSize (va_wsS RX4 29 yJ6_bitCount_0f7a4 wsJ6_bitCount_0f7a4) := goodIn_app (goodIn_of _ (by decide +kernel)) ggX4_smallestSize_J6_bitCount_0f7a4
theorem dX4_smallestSize_0 : decode cX4_smallestSize 0 = .ok (.aload_n 0, 1) := by decide +kernel
theorem dX4_smallestSize_1 : decode cX4_smallestSize 1 = .ok (.iload_n 1, 1) := by decide +kernel
theorem dX4_smallestSize_2 : decode cX4_smallestSize 2 = .ok (.aload_n 0, 1) := by decide +kernel
theorem dX4_smallestSize_3 : decode cX4_smallestSize 3 = .ok (.getfield 9, 3) := by decide +kernel
theorem dX4_smallestSize_6 : decode cX4_smallestSize 6 = .ok (.iload_n 1, 1) := by decide +kernel
theorem dX4_smallestSize_7 : decode cX4_smallestSize 7 = .ok (.invokevirtual 35, 3) := by decide +kernel
theorem dX4_smallestSize_10 : decode cX4_smallestSize 10 = .ok (.invokevirtual 38, 3) := by decide +kernel
theorem dX4_smallestSize_13 : decode cX4_smallestSize 13 = .ok (.invokestatic 29, 3) := by decide +kernel
theorem dX4_smallestSize_16 : decode cX4_smallestSize 16 = .ok (.ireturn, 1) := by decide +kernel
set_option maxRecDepth 20000 in
theorem ggX4_countOfSize_X4_weigh : GoodIn wsX4_countOfSize wsX4_weigh := goodIn_r _ [7, 2, 1, 8, 9, 10, 11, 12, 13, 14, 15, 16, 17, 18, 19, 20, 21, 22, 23, 24, 25, 26, 27, 40, 41, 42, 43, 44, 45, 46, 47, 48] (by decide +kernel) (by decide +kernel)
set_option maxRecDepth 20000 in
theorem gX4_countOfSize_X4_weigh : GoodIn wsX4_countOfSize (wsV RX4 19 RX4 yX4_weigh wsX4_weigh) := goodIn_app (goodIn_of _ (by decide +kernel)) ggX4_countOfSize_X4_weigh
set_option maxRecDepth 20000 in
theorem ggX4_countOfSize_X0_allPoints : GoodIn wsX4_countOfSize wsX0_allPoints := goodIn_r _ [31, 32, 42, 43, 44, 45, 46, 47, 48] (by decide +kernel) (by decide +kernel)
set_option maxRecDepth 20000 in
theorem gX4_countOfSize_X0_allPoints : GoodIn wsX4_countOfSize (wsV RX4 23 RX0 yX0_allPoints wsX0_allPoints) := goodIn_app (goodIn_of _ (by decide +kernel)) ggX4_countOfSize_X0_allPoints
set_option maxRecDepth 20000 in
theorem ggX4_countOfSize_J6_bitCount_0f7a4 : GoodIn wsX4_countOfSize wsJ6_bitCount_0f7a4 := goodIn_r _ [36, 37, 38, 39] (by decide +kernel) (by decide +kernel)
set_option maxRecDepth 20000 in
theorem gX4_countOfSize_J6_bitCount_0f7a4 : GoodIn wsX4_countOfSize (va_wsS RX4 29 yJ6_bitCount_0f7a4 wsJ6_bitCount_0f7a4) := goodIn_app (goodIn_of _ (by decide +kernel)) ggX4_countOfSize_J6_bitCount_0f7a4
theorem dX4_countOfSize_0 : decode cX4_countOfSize 0 = .ok (.aload_n 0, 1) := by decide +kernel
theorem dX4_countOfSize_1 : decode cX4_countOfSize 1 = .ok (.iload_n 1, 1) := by decide +kernel
theorem dX4_countOfSize_2 : decode cX4_countOfSize 2 = .ok (.iload_n 2, 1) := by decide +kernel
theorem dX4_countOfSize_3 : decode cX4_countOfSize 3 = .ok (.invokevirtual 19, 3) := by decide +kernel
theorem dX4_countOfSize_6 : decode cX4_countOfSize 6 = .ok (.iconst 0, 1) := by decide +kernel
theorem dX4_countOfSize_7 : decode cX4_countOfSize 7 = .ok (.istore 4, 2) := by decide +kernel
theorem dX4_countOfSize_9 : decode cX4_countOfSize 9 = .ok (.iconst 0, 1) := by decide +kernel
theorem dX4_countOfSize_10 : decode cX4_countOfSize 10 = .ok (.istore 5, 2) := by decide +kernel
theorem dX4_countOfSize_12 : decode cX4_countOfSize 12 = .ok (.iload 5, 2) := by decide +kernel
theorem dX4_countOfSize_14 : decode cX4_countOfSize 14 = .ok (.aload_n 0, 1) := by decide +kernel
theorem dX4_countOfSize_15 : decode cX4_countOfSize 15 = .ok (.getfield 9, 3) := by decide +kernel
theorem dX4_countOfSize_18 : decode cX4_countOfSize 18 = .ok (.invokevirtual 23, 3) := by decide +kernel
theorem dX4_countOfSize_21 : decode cX4_countOfSize 21 = .ok (.if_icmp .gt 31, 3) := by decide +kernel
theorem dX4_countOfSize_24 : decode cX4_countOfSize 24 = .ok (.aload_n 0, 1) := by decide +kernel
theorem dX4_countOfSize_25 : decode cX4_countOfSize 25 = .ok (.getfield 15, 3) := by decide +kernel
theorem dX4_countOfSize_28 : decode cX4_countOfSize 28 = .ok (.iload 5, 2) := by decide +kernel
theorem dX4_countOfSize_30 : decode cX4_countOfSize 30 = .ok (.iaload, 1) := by decide +kernel
theorem dX4_countOfSize_31 : decode cX4_countOfSize 31 = .ok (.ifCond .ne 15, 3) := by decide +kernel
theorem dX4_countOfSize_34 : decode cX4_countOfSize 34 = .ok (.iload 5, 2) := by decide +kernel
theorem dX4_countOfSize_36 : decode cX4_countOfSize 36 = .ok (.invokestatic 29, 3) := by decide +kernel
theorem dX4_countOfSize_39 : decode cX4_countOfSize 39 = .ok (.iload_n 3, 1) := by decide +kernel
theorem dX4_countOfSize_40 : decode cX4_countOfSize 40 = .ok (.if_icmp .ne 6, 3) := by decide +kernel
theorem dX4_countOfSize_43 : decode cX4_countOfSize 43 = .ok (.iinc 4 1, 3) := by decide +kernel
theorem dX4_countOfSize_46 : decode cX4_countOfSize 46 = .ok (.iinc 5 1, 3) := by decide +kernel
theorem dX4_countOfSize_49 : decode cX4_countOfSize 49 = .ok (.goto (-37), 3) := by decide +kernel
theorem dX4_countOfSize_52 : decode cX4_countOfSize 52 = .ok (.iload 4, 2) := by decide +kernel
theorem dX4_countOfSize_54 : decode cX4_countOfSize 54 = .ok (.ireturn, 1) := by decide +kernel
set_option maxRecDepth 20000 in
theorem ggX4_weigh_X0_labelOf : GoodIn wsX4_weigh wsX0_labelOf := goodIn_r _ [8, 9, 10, 11, 12, 25, 26, 27, 28, 29, 30, 31] (by decide +kernel) (by decide +kernel)
set_option maxRecDepth 20000 in
theorem gX4_weigh_X0_labelOf : GoodIn wsX4_weigh (wsV RX4 46 RX0 yX0_labelOf wsX0_labelOf) := goodIn_app (goodIn_of _ (by decide +kernel)) ggX4_weigh_X0_labelOf
set_option maxRecDepth 20000 in
theorem ggX4_weigh_X0_labelling : GoodIn wsX4_weigh wsX0_labelling := goodIn_r _ [16, 17, 18, 19, 20, 7, 21, 22, 25, 26, 27, 28, 29, 30, 31] (by decide +kernel) (by decide +kernel)
set_option maxRecDepth 20000 in
theorem gX4_weigh_X0_labelling : GoodIn wsX4_weigh (wsV RX4 49 RX0 yX0_labelling wsX0_labelling) := goodIn_app (goodIn_of _ (by decide +kernel)) ggX4_weigh_X0_labelling
theorem dX4_weigh_0 : decode cX4_weigh 0 = .ok (.aload_n 0, 1) := by decide +kernel
theorem dX4_weigh_1 : decode cX4_weigh 1 = .ok (.getfield 15, 3) := by decide +kernel
theorem dX4_weigh_4 : decode cX4_weigh 4 = .ok (.iconst 0, 1) := by decide +kernel
theorem dX4_weigh_5 : decode cX4_weigh 5 = .ok (.iload_n 2, 1) := by decide +kernel
theorem dX4_weigh_6 : decode cX4_weigh 6 = .ok (.iastore, 1) := by decide +kernel
theorem dX4_weigh_7 : decode cX4_weigh 7 = .ok (.iconst 0, 1) := by decide +kernel
theorem dX4_weigh_8 : decode cX4_weigh 8 = .ok (.istore_n 3, 1) := by decide +kernel
theorem dX4_weigh_9 : decode cX4_weigh 9 = .ok (.iload_n 3, 1) := by decide +kernel
theorem dX4_weigh_10 : decode cX4_weigh 10 = .ok (.aload_n 0, 1) := by decide +kernel
theorem dX4_weigh_11 : decode cX4_weigh 11 = .ok (.getfield 9, 3) := by decide +kernel
theorem dX4_weigh_14 : decode cX4_weigh 14 = .ok (.getfield 42, 3) := by decide +kernel
theorem dX4_weigh_17 : decode cX4_weigh 17 = .ok (.if_icmp .ge 69, 3) := by decide +kernel
theorem dX4_weigh_20 : decode cX4_weigh 20 = .ok (.aload_n 0, 1) := by decide +kernel
theorem dX4_weigh_21 : decode cX4_weigh 21 = .ok (.getfield 9, 3) := by decide +kernel
theorem dX4_weigh_24 : decode cX4_weigh 24 = .ok (.iload_n 3, 1) := by decide +kernel
theorem dX4_weigh_25 : decode cX4_weigh 25 = .ok (.aload_n 0, 1) := by decide +kernel
theorem dX4_weigh_26 : decode cX4_weigh 26 = .ok (.getfield 9, 3) := by decide +kernel
theorem dX4_weigh_29 : decode cX4_weigh 29 = .ok (.iload_n 1, 1) := by decide +kernel
theorem dX4_weigh_30 : decode cX4_weigh 30 = .ok (.iload_n 3, 1) := by decide +kernel
theorem dX4_weigh_31 : decode cX4_weigh 31 = .ok (.invokevirtual 46, 3) := by decide +kernel
theorem dX4_weigh_34 : decode cX4_weigh 34 = .ok (.invokevirtual 49, 3) := by decide +kernel
theorem dX4_weigh_37 : decode cX4_weigh 37 = .ok (.istore 4, 2) := by decide +kernel
theorem dX4_weigh_39 : decode cX4_weigh 39 = .ok (.iconst 1, 1) := by decide +kernel
theorem dX4_weigh_40 : decode cX4_weigh 40 = .ok (.iload_n 3, 1) := by decide +kernel
theorem dX4_weigh_41 : decode cX4_weigh 41 = .ok (.ishl, 1) := by decide +kernel
theorem dX4_weigh_42 : decode cX4_weigh 42 = .ok (.istore 5, 2) := by decide +kernel
theorem dX4_weigh_44 : decode cX4_weigh 44 = .ok (.iconst 0, 1) := by decide +kernel
theorem dX4_weigh_45 : decode cX4_weigh 45 = .ok (.istore 6, 2) := by decide +kernel
theorem dX4_weigh_47 : decode cX4_weigh 47 = .ok (.iload 6, 2) := by decide +kernel
theorem dX4_weigh_49 : decode cX4_weigh 49 = .ok (.iload 5, 2) := by decide +kernel
theorem dX4_weigh_51 : decode cX4_weigh 51 = .ok (.if_icmp .ge 29, 3) := by decide +kernel
theorem dX4_weigh_54 : decode cX4_weigh 54 = .ok (.aload_n 0, 1) := by decide +kernel
theorem dX4_weigh_55 : decode cX4_weigh 55 = .ok (.getfield 15, 3) := by decide +kernel
theorem dX4_weigh_58 : decode cX4_weigh 58 = .ok (.iload 5, 2) := by decide +kernel
theorem dX4_weigh_60 : decode cX4_weigh 60 = .ok (.iload 6, 2) := by decide +kernel
theorem dX4_weigh_62 : decode cX4_weigh 62 = .ok (.iadd, 1) := by decide +kernel
theorem dX4_weigh_63 : decode cX4_weigh 63 = .ok (.aload_n 0, 1) := by decide +kernel
theorem dX4_weigh_64 : decode cX4_weigh 64 = .ok (.getfield 15, 3) := by decide +kernel
theorem dX4_weigh_67 : decode cX4_weigh 67 = .ok (.iload 6, 2) := by decide +kernel
theorem dX4_weigh_69 : decode cX4_weigh 69 = .ok (.iaload, 1) := by decide +kernel
theorem dX4_weigh_70 : decode cX4_weigh 70 = .ok (.iload 4, 2) := by decide +kernel
theorem dX4_weigh_72 : decode cX4_weigh 72 = .ok (.iand, 1) := by decide +kernel
theorem dX4_weigh_73 : decode cX4_weigh 73 = .ok (.iastore, 1) := by decide +kernel
theorem dX4_weigh_74 : decode cX4_weigh 74 = .ok (.iinc 6 1, 3) := by decide +kernel
theorem dX4_weigh_77 : decode cX4_weigh 77 = .ok (.goto (-30), 3) := by decide +kernel
theorem dX4_weigh_80 : decode cX4_weigh 80 = .ok (.iinc 3 1, 3) := by decide +kernel
theorem dX4_weigh_83 : decode cX4_weigh 83 = .ok (.goto (-74), 3) := by decide +kernel
theorem dX4_weigh_86 : decode cX4_weigh 86 = .ok (.return_, 1) := by decide +kernel
theorem dX5_init_0 : decode cX5_init 0 = .ok (.aload_n 0, 1) := by decide +kernel
theorem dX5_init_1 : decode cX5_init 1 = .ok (.invokespecial 3, 3) := by decide +kernel
theorem dX5_init_4 : decode cX5_init 4 = .ok (.aload_n 0, 1) := by decide +kernel
theorem dX5_init_5 : decode cX5_init 5 = .ok (.iconst (-1), 1) := by decide +kernel
theorem dX5_init_6 : decode cX5_init 6 = .ok (.putfield 9, 3) := by decide +kernel
theorem dX5_init_9 : decode cX5_init 9 = .ok (.aload_n 0, 1) := by decide +kernel
theorem dX5_init_10 : decode cX5_init 10 = .ok (.iconst 0, 1) := by decide +kernel
theorem dX5_init_11 : decode cX5_init 11 = .ok (.putfield 15, 3) := by decide +kernel
theorem dX5_init_14 : decode cX5_init 14 = .ok (.aload_n 0, 1) := by decide +kernel
theorem dX5_init_15 : decode cX5_init 15 = .ok (.bipush 40, 2) := by decide +kernel
theorem dX5_init_17 : decode cX5_init 17 = .ok (.newarray .long, 2) := by decide +kernel
theorem dX5_init_19 : decode cX5_init 19 = .ok (.putfield 18, 3) := by decide +kernel
theorem dX5_init_22 : decode cX5_init 22 = .ok (.aload_n 0, 1) := by decide +kernel
theorem dX5_init_23 : decode cX5_init 23 = .ok (.bipush 40, 2) := by decide +kernel
theorem dX5_init_25 : decode cX5_init 25 = .ok (.newarray .double, 2) := by decide +kernel
theorem dX5_init_27 : decode cX5_init 27 = .ok (.putfield 22, 3) := by decide +kernel
theorem dX5_init_30 : decode cX5_init 30 = .ok (.return_, 1) := by decide +kernel
theorem dX5_isEmpty_0 : decode cX5_isEmpty 0 = .ok (.aload_n 0, 1) := by decide +kernel
theorem dX5_isEmpty_1 : decode cX5_isEmpty 1 = .ok (.getfield 9, 3) := by decide +kernel
theorem dX5_isEmpty_4 : decode cX5_isEmpty 4 = .ok (.iconst (-1), 1) := by decide +kernel
theorem dX5_isEmpty_5 : decode cX5_isEmpty 5 = .ok (.if_icmp .ne 7, 3) := by decide +kernel
theorem dX5_isEmpty_8 : decode cX5_isEmpty 8 = .ok (.iconst 1, 1) := by decide +kernel
theorem dX5_isEmpty_9 : decode cX5_isEmpty 9 = .ok (.goto 4, 3) := by decide +kernel
theorem dX5_isEmpty_12 : decode cX5_isEmpty 12 = .ok (.iconst 0, 1) := by decide +kernel
theorem dX5_isEmpty_13 : decode cX5_isEmpty 13 = .ok (.ireturn, 1) := by decide +kernel
theorem dX5_hasIndex_0 : decode cX5_hasIndex 0 = .ok (.iload_n 1, 1) := by decide +kernel
theorem dX5_hasIndex_1 : decode cX5_hasIndex 1 = .ok (.ifCond .lt 15, 3) := by decide +kernel
theorem dX5_hasIndex_4 : decode cX5_hasIndex 4 = .ok (.iload_n 1, 1) := by decide +kernel
theorem dX5_hasIndex_5 : decode cX5_hasIndex 5 = .ok (.aload_n 0, 1) := by decide +kernel
theorem dX5_hasIndex_6 : decode cX5_hasIndex 6 = .ok (.getfield 15, 3) := by decide +kernel
theorem dX5_hasIndex_9 : decode cX5_hasIndex 9 = .ok (.if_icmp .ge 7, 3) := by decide +kernel
theorem dX5_hasIndex_12 : decode cX5_hasIndex 12 = .ok (.iconst 1, 1) := by decide +kernel
theorem dX5_hasIndex_13 : decode cX5_hasIndex 13 = .ok (.goto 4, 3) := by decide +kernel
theorem dX5_hasIndex_16 : decode cX5_hasIndex 16 = .ok (.iconst 0, 1) := by decide +kernel
theorem dX5_hasIndex_17 : decode cX5_hasIndex 17 = .ok (.ireturn, 1) := by decide +kernel
theorem dX5_hasStretch_0 : decode cX5_hasStretch 0 = .ok (.iload_n 1, 1) := by decide +kernel
theorem dX5_hasStretch_1 : decode cX5_hasStretch 1 = .ok (.ifCond .lt 29, 3) := by decide +kernel
theorem dX5_hasStretch_4 : decode cX5_hasStretch 4 = .ok (.iload_n 2, 1) := by decide +kernel
theorem dX5_hasStretch_5 : decode cX5_hasStretch 5 = .ok (.ifCond .lt 25, 3) := by decide +kernel
theorem dX5_hasStretch_8 : decode cX5_hasStretch 8 = .ok (.iload_n 1, 1) := by decide +kernel
theorem dX5_hasStretch_9 : decode cX5_hasStretch 9 = .ok (.aload_n 0, 1) := by decide +kernel
theorem dX5_hasStretch_10 : decode cX5_hasStretch 10 = .ok (.getfield 15, 3) := by decide +kernel
theorem dX5_hasStretch_13 : decode cX5_hasStretch 13 = .ok (.if_icmp .gt 17, 3) := by decide +kernel
theorem dX5_hasStretch_16 : decode cX5_hasStretch 16 = .ok (.iload_n 2, 1) := by decide +kernel
theorem dX5_hasStretch_17 : decode cX5_hasStretch 17 = .ok (.aload_n 0, 1) := by decide +kernel
theorem dX5_hasStretch_18 : decode cX5_hasStretch 18 = .ok (.getfield 15, 3) := by decide +kernel
theorem dX5_hasStretch_21 : decode cX5_hasStretch 21 = .ok (.iload_n 1, 1) := by decide +kernel
theorem dX5_hasStretch_22 : decode cX5_hasStretch 22 = .ok (.isub, 1) := by decide +kernel
theorem dX5_hasStretch_23 : decode cX5_hasStretch 23 = .ok (.if_icmp .gt 7, 3) := by decide +kernel
theorem dX5_hasStretch_26 : decode cX5_hasStretch 26 = .ok (.iconst 1, 1) := by decide +kernel
theorem dX5_hasStretch_27 : decode cX5_hasStretch 27 = .ok (.goto 4, 3) := by decide +kernel
theorem dX5_hasStretch_30 : decode cX5_hasStretch 30 = .ok (.iconst 0, 1) := by decide +kernel
theorem dX5_hasStretch_31 : decode cX5_hasStretch 31 = .ok (.ireturn, 1) := by decide +kernel
set_option maxRecDepth 20000 in
theorem ggX5_hold_J7_fill_d0a16 : GoodIn wsX5_hold wsJ7_fill_d0a16 := goodIn_r _ [8] (by decide +kernel) (by decide +kernel)
set_option maxRecDepth 20000 in
theorem gX5_hold_J7_fill_d0a16 : GoodIn wsX5_hold (va_wsS RX5 26 yJ7_fill_d0a16 wsJ7_fill_d0a16) := goodIn_app (goodIn_of _ (by decide +kernel)) ggX5_hold_J7_fill_d0a16
set_option maxRecDepth 20000 in
theorem ggX5_hold_J7_fill_7f8df : GoodIn wsX5_hold wsJ7_fill_7f8df := goodIn_r _ [11] (by decide +kernel) (by decide +kernel)
set_option maxRecDepth 20000 in
theorem gX5_hold_J7_fill_7f8df : GoodIn wsX5_hold (va_wsS RX5 32 yJ7_fill_7f8df wsJ7_fill_7f8df) := goodIn_app (goodIn_of _ (by decide +kernel)) ggX5_hold_J7_fill_7f8df
theorem dX5_hold_0 : decode cX5_hold 0 = .ok (.aload_n 0, 1) := by decide +kernel
theorem dX5_hold_1 : decode cX5_hold 1 = .ok (.iload_n 1, 1) := by decide +kernel
theorem dX5_hold_2 : decode cX5_hold 2 = .ok (.putfield 9, 3) := by decide +kernel
theorem dX5_hold_5 : decode cX5_hold 5 = .ok (.aload_n 0, 1) := by decide +kernel
theorem dX5_hold_6 : decode cX5_hold 6 = .ok (.iload_n 2, 1) := by decide +kernel
theorem dX5_hold_7 : decode cX5_hold 7 = .ok (.putfield 15, 3) := by decide +kernel
theorem dX5_hold_10 : decode cX5_hold 10 = .ok (.aload_n 0, 1) := by decide +kernel
theorem dX5_hold_11 : decode cX5_hold 11 = .ok (.getfield 18, 3) := by decide +kernel
theorem dX5_hold_14 : decode cX5_hold 14 = .ok (.lconst 0, 1) := by decide +kernel
theorem dX5_hold_15 : decode cX5_hold 15 = .ok (.invokestatic 26, 3) := by decide +kernel
theorem dX5_hold_18 : decode cX5_hold 18 = .ok (.aload_n 0, 1) := by decide +kernel
theorem dX5_hold_19 : decode cX5_hold 19 = .ok (.getfield 22, 3) := by decide +kernel
theorem dX5_hold_22 : decode cX5_hold 22 = .ok (.dconst 0, 1) := by decide +kernel
theorem dX5_hold_23 : decode cX5_hold 23 = .ok (.invokestatic 32, 3) := by decide +kernel
theorem dX5_hold_26 : decode cX5_hold 26 = .ok (.return_, 1) := by decide +kernel
theorem dX5_put_0 : decode cX5_put 0 = .ok (.aload_n 0, 1) := by decide +kernel
theorem dX5_put_1 : decode cX5_put 1 = .ok (.getfield 9, 3) := by decide +kernel
theorem dX5_put_4 : decode cX5_put 4 = .ok (.tableswitch 64 0 2 #[28, 41, 54], 28) := by decide +kernel
theorem dX5_put_32 : decode cX5_put 32 = .ok (.aload_n 0, 1) := by decide +kernel
theorem dX5_put_33 : decode cX5_put 33 = .ok (.getfield 18, 3) := by decide +kernel
theorem dX5_put_36 : decode cX5_put 36 = .ok (.iload_n 1, 1) := by decide +kernel
theorem dX5_put_37 : decode cX5_put 37 = .ok (.lload_n 2, 1) := by decide +kernel
theorem dX5_put_38 : decode cX5_put 38 = .ok (.l2i, 1) := by decide +kernel
theorem dX5_put_39 : decode cX5_put 39 = .ok (.i2b, 1) := by decide +kernel
theorem dX5_put_40 : decode cX5_put 40 = .ok (.i2l, 1) := by decide +kernel
theorem dX5_put_41 : decode cX5_put 41 = .ok (.lastore, 1) := by decide +kernel
theorem dX5_put_42 : decode cX5_put 42 = .ok (.goto 34, 3) := by decide +kernel
theorem dX5_put_45 : decode cX5_put 45 = .ok (.aload_n 0, 1) := by decide +kernel
theorem dX5_put_46 : decode cX5_put 46 = .ok (.getfield 18, 3) := by decide +kernel
theorem dX5_put_49 : decode cX5_put 49 = .ok (.iload_n 1, 1) := by decide +kernel
theorem dX5_put_50 : decode cX5_put 50 = .ok (.lload_n 2, 1) := by decide +kernel
theorem dX5_put_51 : decode cX5_put 51 = .ok (.l2i, 1) := by decide +kernel
theorem dX5_put_52 : decode cX5_put 52 = .ok (.i2s, 1) := by decide +kernel
theorem dX5_put_53 : decode cX5_put 53 = .ok (.i2l, 1) := by decide +kernel
theorem dX5_put_54 : decode cX5_put 54 = .ok (.lastore, 1) := by decide +kernel
theorem dX5_put_55 : decode cX5_put 55 = .ok (.goto 21, 3) := by decide +kernel
theorem dX5_put_58 : decode cX5_put 58 = .ok (.aload_n 0, 1) := by decide +kernel
theorem dX5_put_59 : decode cX5_put 59 = .ok (.getfield 18, 3) := by decide +kernel
theorem dX5_put_62 : decode cX5_put 62 = .ok (.iload_n 1, 1) := by decide +kernel
theorem dX5_put_63 : decode cX5_put 63 = .ok (.lload_n 2, 1) := by decide +kernel
theorem dX5_put_64 : decode cX5_put 64 = .ok (.lastore, 1) := by decide +kernel
theorem dX5_put_65 : decode cX5_put 65 = .ok (.goto 11, 3) := by decide +kernel
theorem dX5_put_68 : decode cX5_put 68 = .ok (.aload_n 0, 1) := by decide +kernel
theorem dX5_put_69 : decode cX5_put 69 = .ok (.getfield 22, 3) := by decide +kernel
theorem dX5_put_72 : decode cX5_put 72 = .ok (.iload_n 1, 1) := by decide +kernel
theorem dX5_put_73 : decode cX5_put 73 = .ok (.lload_n 2, 1) := by decide +kernel
theorem dX5_put_74 : decode cX5_put 74 = .ok (.l2d, 1) := by decide +kernel
theorem dX5_put_75 : decode cX5_put 75 = .ok (.dastore, 1) := by decide +kernel
theorem dX5_put_76 : decode cX5_put 76 = .ok (.return_, 1) := by decide +kernel
theorem dX5_get_0 : decode cX5_get 0 = .ok (.aload_n 0, 1) := by decide +kernel
theorem dX5_get_1 : decode cX5_get 1 = .ok (.getfield 9, 3) := by decide +kernel
theorem dX5_get_4 : decode cX5_get 4 = .ok (.iconst 3, 1) := by decide +kernel
theorem dX5_get_5 : decode cX5_get 5 = .ok (.if_icmp .ne 13, 3) := by decide +kernel
theorem dX5_get_8 : decode cX5_get 8 = .ok (.aload_n 0, 1) := by decide +kernel
theorem dX5_get_9 : decode cX5_get 9 = .ok (.getfield 22, 3) := by decide +kernel
theorem dX5_get_12 : decode cX5_get 12 = .ok (.iload_n 1, 1) := by decide +kernel
theorem dX5_get_13 : decode cX5_get 13 = .ok (.daload, 1) := by decide +kernel
theorem dX5_get_14 : decode cX5_get 14 = .ok (.d2l, 1) := by decide +kernel
theorem dX5_get_15 : decode cX5_get 15 = .ok (.goto 9, 3) := by decide +kernel
theorem dX5_get_18 : decode cX5_get 18 = .ok (.aload_n 0, 1) := by decide +kernel
theorem dX5_get_19 : decode cX5_get 19 = .ok (.getfield 18, 3) := by decide +kernel
theorem dX5_get_22 : decode cX5_get 22 = .ok (.iload_n 1, 1) := by decide +kernel
theorem dX5_get_23 : decode cX5_get 23 = .ok (.laload, 1) := by decide +kernel
theorem dX5_get_24 : decode cX5_get 24 = .ok (.lreturn, 1) := by decide +kernel
theorem dX5_take_0 : decode cX5_take 0 = .ok (.aload_n 0, 1) := by decide +kernel
theorem dX5_take_1 : decode cX5_take 1 = .ok (.getfield 9, 3) := by decide +kernel
theorem dX5_take_4 : decode cX5_take 4 = .ok (.iconst 3, 1) := by decide +kernel
theorem dX5_take_5 : decode cX5_take 5 = .ok (.if_icmp .ne 21, 3) := by decide +kernel
theorem dX5_take_8 : decode cX5_take 8 = .ok (.aload_n 2, 1) := by decide +kernel
theorem dX5_take_9 : decode cX5_take 9 = .ok (.getfield 22, 3) := by decide +kernel
theorem dX5_take_12 : decode cX5_take 12 = .ok (.iload_n 3, 1) := by decide +kernel
theorem dX5_take_13 : decode cX5_take 13 = .ok (.aload_n 0, 1) := by decide +kernel
theorem dX5_take_14 : decode cX5_take 14 = .ok (.getfield 22, 3) := by decide +kernel
theorem dX5_take_17 : decode cX5_take 17 = .ok (.iload_n 1, 1) := by decide +kernel
theorem dX5_take_18 : decode cX5_take 18 = .ok (.iload 4, 2) := by decide +kernel
theorem dX5_take_20 : decode cX5_take 20 = .ok (.invokestatic 35, 3) := by decide +kernel
theorem dX5_take_23 : decode cX5_take 23 = .ok (.goto 18, 3) := by decide +kernel
theorem dX5_take_26 : decode cX5_take 26 = .ok (.aload_n 2, 1) := by decide +kernel
theorem dX5_take_27 : decode cX5_take 27 = .ok (.getfield 18, 3) := by decide +kernel
theorem dX5_take_30 : decode cX5_take 30 = .ok (.iload_n 3, 1) := by decide +kernel
theorem dX5_take_31 : decode cX5_take 31 = .ok (.aload_n 0, 1) := by decide +kernel
theorem dX5_take_32 : decode cX5_take 32 = .ok (.getfield 18, 3) := by decide +kernel
theorem dX5_take_35 : decode cX5_take 35 = .ok (.iload_n 1, 1) := by decide +kernel
theorem dX5_take_36 : decode cX5_take 36 = .ok (.iload 4, 2) := by decide +kernel
theorem dX5_take_38 : decode cX5_take 38 = .ok (.invokestatic 35, 3) := by decide +kernel
theorem dX5_take_41 : decode cX5_take 41 = .ok (.return_, 1) := by decide +kernel
theorem dX6_init_0 : decode cX6_init 0 = .ok (.aload_n 0, 1) := by decide +kernel
theorem dX6_init_1 : decode cX6_init 1 = .ok (.invokespecial 1, 3) := by decide +kernel
theorem dX6_init_4 : decode cX6_init 4 = .ok (.aload_n 0, 1) := by decide +kernel
theorem dX6_init_5 : decode cX6_init 5 = .ok (.aload_n 1, 1) := by decide +kernel
theorem dX6_init_6 : decode cX6_init 6 = .ok (.putfield 7, 3) := by decide +kernel
theorem dX6_init_9 : decode cX6_init 9 = .ok (.aload_n 0, 1) := by decide +kernel
theorem dX6_init_10 : decode cX6_init 10 = .ok (.iconst 4, 1) := by decide +kernel
theorem dX6_init_11 : decode cX6_init 11 = .ok (.newarray .long, 2) := by decide +kernel
theorem dX6_init_13 : decode cX6_init 13 = .ok (.putfield 13, 3) := by decide +kernel
theorem dX6_init_16 : decode cX6_init 16 = .ok (.return_, 1) := by decide +kernel
set_option maxRecDepth 20000 in
theorem ggX6_countOn_J7_fill_d0a16 : GoodIn wsX6_countOn wsJ7_fill_d0a16 := goodIn_r _ [8] (by decide +kernel) (by decide +kernel)
set_option maxRecDepth 20000 in
theorem gX6_countOn_J7_fill_d0a16 : GoodIn wsX6_countOn (va_wsS RX6 17 yJ7_fill_d0a16 wsJ7_fill_d0a16) := goodIn_app (goodIn_of _ (by decide +kernel)) ggX6_countOn_J7_fill_d0a16
set_option maxRecDepth 20000 in
theorem ggX6_countOn_J13_bitCount_95d88 : GoodIn wsX6_countOn wsJ13_bitCount_95d88 := goodIn_r _ [12, 13, 14, 15] (by decide +kernel) (by decide +kernel)
set_option maxRecDepth 20000 in
theorem gX6_countOn_J13_bitCount_95d88 : GoodIn wsX6_countOn (va_wsS RX6 33 yJ13_bitCount_95d88 wsJ13_bitCount_95d88) := goodIn_app (goodIn_of _ (by decide +kernel)) ggX6_countOn_J13_bitCount_95d88
theorem dX6_countOn_0 : decode cX6_countOn 0 = .ok (.aload_n 0, 1) := by decide +kernel
theorem dX6_countOn_1 : decode cX6_countOn 1 = .ok (.getfield 13, 3) := by decide +kernel
theorem dX6_countOn_4 : decode cX6_countOn 4 = .ok (.lconst 0, 1) := by decide +kernel
theorem dX6_countOn_5 : decode cX6_countOn 5 = .ok (.invokestatic 17, 3) := by decide +kernel
theorem dX6_countOn_8 : decode cX6_countOn 8 = .ok (.iconst 0, 1) := by decide +kernel
theorem dX6_countOn_9 : decode cX6_countOn 9 = .ok (.istore_n 2, 1) := by decide +kernel
theorem dX6_countOn_10 : decode cX6_countOn 10 = .ok (.iload_n 2, 1) := by decide +kernel
theorem dX6_countOn_11 : decode cX6_countOn 11 = .ok (.aload_n 0, 1) := by decide +kernel
theorem dX6_countOn_12 : decode cX6_countOn 12 = .ok (.getfield 7, 3) := by decide +kernel
theorem dX6_countOn_15 : decode cX6_countOn 15 = .ok (.getfield 23, 3) := by decide +kernel
theorem dX6_countOn_18 : decode cX6_countOn 18 = .ok (.if_icmp .ge 39, 3) := by decide +kernel
theorem dX6_countOn_21 : decode cX6_countOn 21 = .ok (.aload_n 0, 1) := by decide +kernel
theorem dX6_countOn_22 : decode cX6_countOn 22 = .ok (.getfield 7, 3) := by decide +kernel
theorem dX6_countOn_25 : decode cX6_countOn 25 = .ok (.getfield 29, 3) := by decide +kernel
theorem dX6_countOn_28 : decode cX6_countOn 28 = .ok (.iload_n 2, 1) := by decide +kernel
theorem dX6_countOn_29 : decode cX6_countOn 29 = .ok (.iaload, 1) := by decide +kernel
theorem dX6_countOn_30 : decode cX6_countOn 30 = .ok (.iload_n 1, 1) := by decide +kernel
theorem dX6_countOn_31 : decode cX6_countOn 31 = .ok (.iand, 1) := by decide +kernel
theorem dX6_countOn_32 : decode cX6_countOn 32 = .ok (.istore_n 3, 1) := by decide +kernel
theorem dX6_countOn_33 : decode cX6_countOn 33 = .ok (.aload_n 0, 1) := by decide +kernel
theorem dX6_countOn_34 : decode cX6_countOn 34 = .ok (.getfield 13, 3) := by decide +kernel
theorem dX6_countOn_37 : decode cX6_countOn 37 = .ok (.iload_n 3, 1) := by decide +kernel
theorem dX6_countOn_38 : decode cX6_countOn 38 = .ok (.bipush 6, 2) := by decide +kernel
theorem dX6_countOn_40 : decode cX6_countOn 40 = .ok (.ishr, 1) := by decide +kernel
theorem dX6_countOn_41 : decode cX6_countOn 41 = .ok (.dup2, 1) := by decide +kernel
theorem dX6_countOn_42 : decode cX6_countOn 42 = .ok (.laload, 1) := by decide +kernel
theorem dX6_countOn_43 : decode cX6_countOn 43 = .ok (.lconst 1, 1) := by decide +kernel
theorem dX6_countOn_44 : decode cX6_countOn 44 = .ok (.iload_n 3, 1) := by decide +kernel
theorem dX6_countOn_45 : decode cX6_countOn 45 = .ok (.bipush 63, 2) := by decide +kernel
theorem dX6_countOn_47 : decode cX6_countOn 47 = .ok (.iand, 1) := by decide +kernel
theorem dX6_countOn_48 : decode cX6_countOn 48 = .ok (.lshl, 1) := by decide +kernel
theorem dX6_countOn_49 : decode cX6_countOn 49 = .ok (.lor, 1) := by decide +kernel
theorem dX6_countOn_50 : decode cX6_countOn 50 = .ok (.lastore, 1) := by decide +kernel
