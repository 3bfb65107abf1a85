theorem dX6_countOn_51 : decode cX6_countOn 51 = .ok (.iinc 2 1, 3) := by decide +kernel
theorem dX6_countOn_54 : decode cX6_countOn 54 = .ok (.goto (-44), 3) := by decide +kernel
theorem dX6_countOn_57 : decode cX6_countOn 57 = .ok (.iconst 0, 1) := by decide +kernel
theorem dX6_countOn_58 : decode cX6_countOn 58 = .ok (.istore_n 2, 1) := by decide +kernel
theorem dX6_countOn_59 : decode cX6_countOn 59 = .ok (.iconst 0, 1) := by decide +kernel
theorem dX6_countOn_60 : decode cX6_countOn 60 = .ok (.istore_n 3, 1) := by decide +kernel
theorem dX6_countOn_61 : decode cX6_countOn 61 = .ok (.iload_n 3, 1) := by decide +kernel
theorem dX6_countOn_62 : decode cX6_countOn 62 = .ok (.iconst 4, 1) := by decide +kernel
theorem dX6_countOn_63 : decode cX6_countOn 63 = .ok (.if_icmp .ge 21, 3) := by decide +kernel
theorem dX6_countOn_66 : decode cX6_countOn 66 = .ok (.iload_n 2, 1) := by decide +kernel
theorem dX6_countOn_67 : decode cX6_countOn 67 = .ok (.aload_n 0, 1) := by decide +kernel
theorem dX6_countOn_68 : decode cX6_countOn 68 = .ok (.getfield 13, 3) := by decide +kernel
theorem dX6_countOn_71 : decode cX6_countOn 71 = .ok (.iload_n 3, 1) := by decide +kernel
theorem dX6_countOn_72 : decode cX6_countOn 72 = .ok (.laload, 1) := by decide +kernel
theorem dX6_countOn_73 : decode cX6_countOn 73 = .ok (.invokestatic 33, 3) := by decide +kernel
theorem dX6_countOn_76 : decode cX6_countOn 76 = .ok (.iadd, 1) := by decide +kernel
theorem dX6_countOn_77 : decode cX6_countOn 77 = .ok (.istore_n 2, 1) := by decide +kernel
theorem dX6_countOn_78 : decode cX6_countOn 78 = .ok (.iinc 3 1, 3) := by decide +kernel
theorem dX6_countOn_81 : decode cX6_countOn 81 = .ok (.goto (-20), 3) := by decide +kernel
theorem dX6_countOn_84 : decode cX6_countOn 84 = .ok (.iload_n 2, 1) := by decide +kernel
theorem dX6_countOn_85 : decode cX6_countOn 85 = .ok (.ireturn, 1) := by decide +kernel
set_option maxRecDepth 20000 in
theorem ggX6_shatter_J6_bitCount_0f7a4 : GoodIn wsX6_shatter wsJ6_bitCount_0f7a4 := goodIn_r _ [6, 7, 8, 9] (by decide +kernel) (by decide +kernel)
set_option maxRecDepth 20000 in
theorem gX6_shatter_J6_bitCount_0f7a4 : GoodIn wsX6_shatter (va_wsS RX6 39 yJ6_bitCount_0f7a4 wsJ6_bitCount_0f7a4) := goodIn_app (goodIn_of _ (by decide +kernel)) ggX6_shatter_J6_bitCount_0f7a4
set_option maxRecDepth 20000 in
theorem ggX6_shatter_X6_countOn : GoodIn wsX6_shatter wsX6_countOn := goodIn_r _ [14, 15, 1, 2, 16, 17, 18, 19, 20, 21, 22, 23, 24, 25, 26, 27, 28, 29, 30, 31, 32, 33, 34, 35, 36] (by decide +kernel) (by decide +kernel)
set_option maxRecDepth 20000 in
theorem gX6_shatter_X6_countOn : GoodIn wsX6_shatter (wsV RX6 44 RX6 yX6_countOn wsX6_countOn) := goodIn_app (goodIn_of _ (by decide +kernel)) ggX6_shatter_X6_countOn
theorem dX6_shatter_0 : decode cX6_shatter 0 = .ok (.iconst 1, 1) := by decide +kernel
theorem dX6_shatter_1 : decode cX6_shatter 1 = .ok (.iload_n 1, 1) := by decide +kernel
theorem dX6_shatter_2 : decode cX6_shatter 2 = .ok (.invokestatic 39, 3) := by decide +kernel
theorem dX6_shatter_5 : decode cX6_shatter 5 = .ok (.ishl, 1) := by decide +kernel
theorem dX6_shatter_6 : decode cX6_shatter 6 = .ok (.istore_n 2, 1) := by decide +kernel
theorem dX6_shatter_7 : decode cX6_shatter 7 = .ok (.iload_n 2, 1) := by decide +kernel
theorem dX6_shatter_8 : decode cX6_shatter 8 = .ok (.aload_n 0, 1) := by decide +kernel
theorem dX6_shatter_9 : decode cX6_shatter 9 = .ok (.getfield 7, 3) := by decide +kernel
theorem dX6_shatter_12 : decode cX6_shatter 12 = .ok (.getfield 23, 3) := by decide +kernel
theorem dX6_shatter_15 : decode cX6_shatter 15 = .ok (.if_icmp .gt 16, 3) := by decide +kernel
theorem dX6_shatter_18 : decode cX6_shatter 18 = .ok (.aload_n 0, 1) := by decide +kernel
theorem dX6_shatter_19 : decode cX6_shatter 19 = .ok (.iload_n 1, 1) := by decide +kernel
theorem dX6_shatter_20 : decode cX6_shatter 20 = .ok (.invokevirtual 44, 3) := by decide +kernel
theorem dX6_shatter_23 : decode cX6_shatter 23 = .ok (.iload_n 2, 1) := by decide +kernel
theorem dX6_shatter_24 : decode cX6_shatter 24 = .ok (.if_icmp .ne 7, 3) := by decide +kernel
theorem dX6_shatter_27 : decode cX6_shatter 27 = .ok (.iconst 1, 1) := by decide +kernel
theorem dX6_shatter_28 : decode cX6_shatter 28 = .ok (.goto 4, 3) := by decide +kernel
theorem dX6_shatter_31 : decode cX6_shatter 31 = .ok (.iconst 0, 1) := by decide +kernel
theorem dX6_shatter_32 : decode cX6_shatter 32 = .ok (.ireturn, 1) := by decide +kernel
set_option maxRecDepth 20000 in
theorem ggX7_init_X0_init : GoodIn wsX7_init wsX0_init := goodIn_r _ [37, 38, 2, 3, 39, 40, 41, 42, 43, 44, 45, 46, 47, 48, 94, 95, 96, 97, 98, 99, 100] (by decide +kernel) (by decide +kernel)
set_option maxRecDepth 20000 in
theorem gX7_init_X0_init : GoodIn wsX7_init (wsX0_init) := ggX7_init_X0_init
set_option maxRecDepth 20000 in
theorem ggX7_init_X3_init : GoodIn wsX7_init wsX3_init := goodIn_r _ [51, 52, 2, 3, 53, 41, 54, 111, 112] (by decide +kernel) (by decide +kernel)
set_option maxRecDepth 20000 in
theorem gX7_init_X3_init : GoodIn wsX7_init (wsX3_init) := ggX7_init_X3_init
set_option maxRecDepth 20000 in
theorem ggX7_init_X4_init : GoodIn wsX7_init wsX4_init := goodIn_r _ [57, 58, 2, 3, 59, 41, 60, 113, 114] (by decide +kernel) (by decide +kernel)
set_option maxRecDepth 20000 in
theorem gX7_init_X4_init : GoodIn wsX7_init (wsX4_init) := ggX7_init_X4_init
set_option maxRecDepth 20000 in
theorem ggX7_init_X1_init : GoodIn wsX7_init wsX1_init := goodIn_r _ [63, 64, 2, 3, 65, 66, 41, 67, 68, 69, 70, 71, 72, 115, 116, 117, 118, 119, 120, 121, 94, 95, 96, 97, 98, 99, 100] (by decide +kernel) (by decide +kernel)
set_option maxRecDepth 20000 in
theorem gX7_init_X1_init : GoodIn wsX7_init (wsX1_init) := ggX7_init_X1_init
set_option maxRecDepth 20000 in
theorem ggX7_init_X6_init : GoodIn wsX7_init wsX6_init := goodIn_r _ [75, 76, 2, 3, 77, 78, 79, 122, 123] (by decide +kernel) (by decide +kernel)
set_option maxRecDepth 20000 in
theorem gX7_init_X6_init : GoodIn wsX7_init (wsX6_init) := ggX7_init_X6_init
set_option maxRecDepth 20000 in
theorem ggX7_init_X2_init : GoodIn wsX7_init wsX2_init := goodIn_r _ [82, 83, 2, 3, 84, 78, 85, 124, 125] (by decide +kernel) (by decide +kernel)
set_option maxRecDepth 20000 in
theorem gX7_init_X2_init : GoodIn wsX7_init (wsX2_init) := ggX7_init_X2_init
set_option maxRecDepth 20000 in
theorem ggX7_init_X5_init : GoodIn wsX7_init wsX5_init := goodIn_r _ [88, 89, 2, 3, 90, 91, 78, 92, 43, 93, 126, 127, 128, 129] (by decide +kernel) (by decide +kernel)
set_option maxRecDepth 20000 in
theorem gX7_init_X5_init : GoodIn wsX7_init (wsX5_init) := ggX7_init_X5_init
theorem dX7_init_0 : decode cX7_init 0 = .ok (.aload_n 0, 1) := by decide +kernel
theorem dX7_init_1 : decode cX7_init 1 = .ok (.invokespecial 3, 3) := by decide +kernel
theorem dX7_init_4 : decode cX7_init 4 = .ok (.aload_n 0, 1) := by decide +kernel
theorem dX7_init_5 : decode cX7_init 5 = .ok (.new 9, 3) := by decide +kernel
theorem dX7_init_8 : decode cX7_init 8 = .ok (.dup, 1) := by decide +kernel
theorem dX7_init_9 : decode cX7_init 9 = .ok (.invokespecial 11, 3) := by decide +kernel
theorem dX7_init_12 : decode cX7_init 12 = .ok (.putfield 12, 3) := by decide +kernel
theorem dX7_init_15 : decode cX7_init 15 = .ok (.aload_n 0, 1) := by decide +kernel
theorem dX7_init_16 : decode cX7_init 16 = .ok (.new 18, 3) := by decide +kernel
theorem dX7_init_19 : decode cX7_init 19 = .ok (.dup, 1) := by decide +kernel
theorem dX7_init_20 : decode cX7_init 20 = .ok (.invokespecial 20, 3) := by decide +kernel
theorem dX7_init_23 : decode cX7_init 23 = .ok (.putfield 21, 3) := by decide +kernel
theorem dX7_init_26 : decode cX7_init 26 = .ok (.aload_n 0, 1) := by decide +kernel
theorem dX7_init_27 : decode cX7_init 27 = .ok (.new 9, 3) := by decide +kernel
theorem dX7_init_30 : decode cX7_init 30 = .ok (.dup, 1) := by decide +kernel
theorem dX7_init_31 : decode cX7_init 31 = .ok (.invokespecial 11, 3) := by decide +kernel
theorem dX7_init_34 : decode cX7_init 34 = .ok (.putfield 25, 3) := by decide +kernel
theorem dX7_init_37 : decode cX7_init 37 = .ok (.aload_n 0, 1) := by decide +kernel
theorem dX7_init_38 : decode cX7_init 38 = .ok (.new 18, 3) := by decide +kernel
theorem dX7_init_41 : decode cX7_init 41 = .ok (.dup, 1) := by decide +kernel
theorem dX7_init_42 : decode cX7_init 42 = .ok (.invokespecial 20, 3) := by decide +kernel
theorem dX7_init_45 : decode cX7_init 45 = .ok (.putfield 28, 3) := by decide +kernel
theorem dX7_init_48 : decode cX7_init 48 = .ok (.aload_n 0, 1) := by decide +kernel
theorem dX7_init_49 : decode cX7_init 49 = .ok (.iconst 0, 1) := by decide +kernel
theorem dX7_init_50 : decode cX7_init 50 = .ok (.putfield 31, 3) := by decide +kernel
theorem dX7_init_53 : decode cX7_init 53 = .ok (.aload_n 0, 1) := by decide +kernel
theorem dX7_init_54 : decode cX7_init 54 = .ok (.new 35, 3) := by decide +kernel
theorem dX7_init_57 : decode cX7_init 57 = .ok (.dup, 1) := by decide +kernel
theorem dX7_init_58 : decode cX7_init 58 = .ok (.aload_n 0, 1) := by decide +kernel
theorem dX7_init_59 : decode cX7_init 59 = .ok (.getfield 12, 3) := by decide +kernel
theorem dX7_init_62 : decode cX7_init 62 = .ok (.invokespecial 37, 3) := by decide +kernel
theorem dX7_init_65 : decode cX7_init 65 = .ok (.putfield 40, 3) := by decide +kernel
theorem dX7_init_68 : decode cX7_init 68 = .ok (.aload_n 0, 1) := by decide +kernel
theorem dX7_init_69 : decode cX7_init 69 = .ok (.new 44, 3) := by decide +kernel
theorem dX7_init_72 : decode cX7_init 72 = .ok (.dup, 1) := by decide +kernel
theorem dX7_init_73 : decode cX7_init 73 = .ok (.aload_n 0, 1) := by decide +kernel
theorem dX7_init_74 : decode cX7_init 74 = .ok (.getfield 12, 3) := by decide +kernel
theorem dX7_init_77 : decode cX7_init 77 = .ok (.aload_n 0, 1) := by decide +kernel
theorem dX7_init_78 : decode cX7_init 78 = .ok (.getfield 40, 3) := by decide +kernel
theorem dX7_init_81 : decode cX7_init 81 = .ok (.invokespecial 46, 3) := by decide +kernel
theorem dX7_init_84 : decode cX7_init 84 = .ok (.putfield 49, 3) := by decide +kernel
theorem dX7_init_87 : decode cX7_init 87 = .ok (.aload_n 0, 1) := by decide +kernel
theorem dX7_init_88 : decode cX7_init 88 = .ok (.new 53, 3) := by decide +kernel
theorem dX7_init_91 : decode cX7_init 91 = .ok (.dup, 1) := by decide +kernel
theorem dX7_init_92 : decode cX7_init 92 = .ok (.aload_n 0, 1) := by decide +kernel
theorem dX7_init_93 : decode cX7_init 93 = .ok (.getfield 12, 3) := by decide +kernel
theorem dX7_init_96 : decode cX7_init 96 = .ok (.invokespecial 55, 3) := by decide +kernel
theorem dX7_init_99 : decode cX7_init 99 = .ok (.putfield 56, 3) := by decide +kernel
theorem dX7_init_102 : decode cX7_init 102 = .ok (.aload_n 0, 1) := by decide +kernel
theorem dX7_init_103 : decode cX7_init 103 = .ok (.new 60, 3) := by decide +kernel
theorem dX7_init_106 : decode cX7_init 106 = .ok (.dup, 1) := by decide +kernel
theorem dX7_init_107 : decode cX7_init 107 = .ok (.aload_n 0, 1) := by decide +kernel
theorem dX7_init_108 : decode cX7_init 108 = .ok (.getfield 12, 3) := by decide +kernel
theorem dX7_init_111 : decode cX7_init 111 = .ok (.invokespecial 62, 3) := by decide +kernel
theorem dX7_init_114 : decode cX7_init 114 = .ok (.putfield 63, 3) := by decide +kernel
theorem dX7_init_117 : decode cX7_init 117 = .ok (.aload_n 0, 1) := by decide +kernel
theorem dX7_init_118 : decode cX7_init 118 = .ok (.iconst 4, 1) := by decide +kernel
theorem dX7_init_119 : decode cX7_init 119 = .ok (.anewarray 67, 3) := by decide +kernel
theorem dX7_init_122 : decode cX7_init 122 = .ok (.putfield 69, 3) := by decide +kernel
theorem dX7_init_125 : decode cX7_init 125 = .ok (.iconst 0, 1) := by decide +kernel
theorem dX7_init_126 : decode cX7_init 126 = .ok (.istore_n 1, 1) := by decide +kernel
theorem dX7_init_127 : decode cX7_init 127 = .ok (.iload_n 1, 1) := by decide +kernel
theorem dX7_init_128 : decode cX7_init 128 = .ok (.iconst 4, 1) := by decide +kernel
theorem dX7_init_129 : decode cX7_init 129 = .ok (.if_icmp .ge 22, 3) := by decide +kernel
theorem dX7_init_132 : decode cX7_init 132 = .ok (.aload_n 0, 1) := by decide +kernel
theorem dX7_init_133 : decode cX7_init 133 = .ok (.getfield 69, 3) := by decide +kernel
theorem dX7_init_136 : decode cX7_init 136 = .ok (.iload_n 1, 1) := by decide +kernel
theorem dX7_init_137 : decode cX7_init 137 = .ok (.new 67, 3) := by decide +kernel
theorem dX7_init_140 : decode cX7_init 140 = .ok (.dup, 1) := by decide +kernel
theorem dX7_init_141 : decode cX7_init 141 = .ok (.invokespecial 73, 3) := by decide +kernel
theorem dX7_init_144 : decode cX7_init 144 = .ok (.aastore, 1) := by decide +kernel
theorem dX7_init_145 : decode cX7_init 145 = .ok (.iinc 1 1, 3) := by decide +kernel
theorem dX7_init_148 : decode cX7_init 148 = .ok (.goto (-21), 3) := by decide +kernel
theorem dX7_init_151 : decode cX7_init 151 = .ok (.return_, 1) := by decide +kernel
set_option maxRecDepth 20000 in
theorem ggX7_reset_X0_begin : GoodIn wsX7_reset wsX0_begin := goodIn_r _ [8, 9, 10, 11, 12, 13, 7, 14, 15, 16, 17, 18, 19, 20, 21, 22, 23, 24, 25, 26, 27, 28, 45, 46, 47, 48, 49, 50, 51] (by decide +kernel) (by decide +kernel)
set_option maxRecDepth 20000 in
theorem gX7_reset_X0_begin : GoodIn wsX7_reset (wsV RX7 78 RX0 yX0_begin wsX0_begin) := goodIn_app (goodIn_of _ (by decide +kernel)) ggX7_reset_X0_begin
set_option maxRecDepth 20000 in
theorem ggX7_reset_X3_forget : GoodIn wsX7_reset wsX3_forget := goodIn_r _ [33, 34, 52, 53] (by decide +kernel) (by decide +kernel)
set_option maxRecDepth 20000 in
theorem gX7_reset_X3_forget : GoodIn wsX7_reset (wsV RX7 82 RX3 yX3_forget wsX3_forget) := goodIn_app (goodIn_of _ (by decide +kernel)) ggX7_reset_X3_forget
theorem dX7_reset_0 : decode cX7_reset 0 = .ok (.iload_n 1, 1) := by decide +kernel
theorem dX7_reset_1 : decode cX7_reset 1 = .ok (.iconst 1, 1) := by decide +kernel
theorem dX7_reset_2 : decode cX7_reset 2 = .ok (.if_icmp .lt 9, 3) := by decide +kernel
theorem dX7_reset_5 : decode cX7_reset 5 = .ok (.iload_n 1, 1) := by decide +kernel
theorem dX7_reset_6 : decode cX7_reset 6 = .ok (.bipush 8, 2) := by decide +kernel
theorem dX7_reset_8 : decode cX7_reset 8 = .ok (.if_icmp .le 5, 3) := by decide +kernel
theorem dX7_reset_11 : decode cX7_reset 11 = .ok (.iconst (-1), 1) := by decide +kernel
theorem dX7_reset_12 : decode cX7_reset 12 = .ok (.ireturn, 1) := by decide +kernel
theorem dX7_reset_13 : decode cX7_reset 13 = .ok (.aload_n 0, 1) := by decide +kernel
theorem dX7_reset_14 : decode cX7_reset 14 = .ok (.getfield 12, 3) := by decide +kernel
theorem dX7_reset_17 : decode cX7_reset 17 = .ok (.getfield 74, 3) := by decide +kernel
theorem dX7_reset_20 : decode cX7_reset 20 = .ok (.istore_n 2, 1) := by decide +kernel
theorem dX7_reset_21 : decode cX7_reset 21 = .ok (.aload_n 0, 1) := by decide +kernel
theorem dX7_reset_22 : decode cX7_reset 22 = .ok (.getfield 12, 3) := by decide +kernel
theorem dX7_reset_25 : decode cX7_reset 25 = .ok (.iload_n 1, 1) := by decide +kernel
theorem dX7_reset_26 : decode cX7_reset 26 = .ok (.invokevirtual 78, 3) := by decide +kernel
theorem dX7_reset_29 : decode cX7_reset 29 = .ok (.aload_n 0, 1) := by decide +kernel
theorem dX7_reset_30 : decode cX7_reset 30 = .ok (.getfield 21, 3) := by decide +kernel
theorem dX7_reset_33 : decode cX7_reset 33 = .ok (.invokevirtual 82, 3) := by decide +kernel
theorem dX7_reset_36 : decode cX7_reset 36 = .ok (.iload_n 2, 1) := by decide +kernel
theorem dX7_reset_37 : decode cX7_reset 37 = .ok (.ireturn, 1) := by decide +kernel
theorem dX7_pointCount_0 : decode cX7_pointCount 0 = .ok (.aload_n 0, 1) := by decide +kernel
theorem dX7_pointCount_1 : decode cX7_pointCount 1 = .ok (.getfield 12, 3) := by decide +kernel
theorem dX7_pointCount_4 : decode cX7_pointCount 4 = .ok (.getfield 74, 3) := by decide +kernel
theorem dX7_pointCount_7 : decode cX7_pointCount 7 = .ok (.ireturn, 1) := by decide +kernel
set_option maxRecDepth 20000 in
theorem ggX7_addConcept_X0_isSet : GoodIn wsX7_addConcept wsX0_isSet := goodIn_r _ [7, 8, 9, 10, 6, 11, 12, 49, 50, 51, 52, 53, 54, 55] (by decide +kernel) (by decide +kernel)
set_option maxRecDepth 20000 in
theorem gX7_addConcept_X0_isSet : GoodIn wsX7_addConcept (wsV RX7 85 RX0 yX0_isSet wsX0_isSet) := goodIn_app (goodIn_of _ (by decide +kernel)) ggX7_addConcept_X0_isSet
set_option maxRecDepth 20000 in
theorem ggX7_addConcept_X0_find : GoodIn wsX7_addConcept wsX0_find := goodIn_r _ [16, 17, 18, 49, 50, 51, 52, 53, 54, 55] (by decide +kernel) (by decide +kernel)
set_option maxRecDepth 20000 in
theorem gX7_addConcept_X0_find : GoodIn wsX7_addConcept (wsV RX7 89 RX0 yX0_find wsX0_find) := goodIn_app (goodIn_of _ (by decide +kernel)) ggX7_addConcept_X0_find
set_option maxRecDepth 20000 in
theorem ggX7_addConcept_X0_addIfNew : GoodIn wsX7_addConcept wsX0_addIfNew := goodIn_r _ [22, 17, 18, 23, 24, 14, 15, 6, 16, 25, 26, 27, 28, 29, 30, 31, 32, 33, 34, 12, 35, 36, 37, 38, 49, 50, 51, 52, 53, 54, 55] (by decide +kernel) (by decide +kernel)
set_option maxRecDepth 20000 in
theorem gX7_addConcept_X0_addIfNew : GoodIn wsX7_addConcept (wsV RX7 93 RX0 yX0_addIfNew wsX0_addIfNew) := goodIn_app (goodIn_of _ (by decide +kernel)) ggX7_addConcept_X0_addIfNew
theorem dX7_addConcept_0 : decode cX7_addConcept 0 = .ok (.aload_n 0, 1) := by decide +kernel
theorem dX7_addConcept_1 : decode cX7_addConcept 1 = .ok (.getfield 12, 3) := by decide +kernel
theorem dX7_addConcept_4 : decode cX7_addConcept 4 = .ok (.iload_n 1, 1) := by decide +kernel
theorem dX7_addConcept_5 : decode cX7_addConcept 5 = .ok (.invokevirtual 85, 3) := by decide +kernel
theorem dX7_addConcept_8 : decode cX7_addConcept 8 = .ok (.ifCond .ne 5, 3) := by decide +kernel
theorem dX7_addConcept_11 : decode cX7_addConcept 11 = .ok (.iconst (-1), 1) := by decide +kernel
theorem dX7_addConcept_12 : decode cX7_addConcept 12 = .ok (.ireturn, 1) := by decide +kernel
theorem dX7_addConcept_13 : decode cX7_addConcept 13 = .ok (.aload_n 0, 1) := by decide +kernel
theorem dX7_addConcept_14 : decode cX7_addConcept 14 = .ok (.getfield 12, 3) := by decide +kernel
theorem dX7_addConcept_17 : decode cX7_addConcept 17 = .ok (.iload_n 1, 1) := by decide +kernel
theorem dX7_addConcept_18 : decode cX7_addConcept 18 = .ok (.invokevirtual 89, 3) := by decide +kernel
theorem dX7_addConcept_21 : decode cX7_addConcept 21 = .ok (.bipush (-6), 2) := by decide +kernel
theorem dX7_addConcept_23 : decode cX7_addConcept 23 = .ok (.if_icmp .eq 6, 3) := by decide +kernel
theorem dX7_addConcept_26 : decode cX7_addConcept 26 = .ok (.bipush (-5), 2) := by decide +kernel
theorem dX7_addConcept_28 : decode cX7_addConcept 28 = .ok (.ireturn, 1) := by decide +kernel
theorem dX7_addConcept_29 : decode cX7_addConcept 29 = .ok (.aload_n 0, 1) := by decide +kernel
theorem dX7_addConcept_30 : decode cX7_addConcept 30 = .ok (.getfield 12, 3) := by decide +kernel
theorem dX7_addConcept_33 : decode cX7_addConcept 33 = .ok (.iload_n 1, 1) := by decide +kernel
theorem dX7_addConcept_34 : decode cX7_addConcept 34 = .ok (.invokevirtual 93, 3) := by decide +kernel
theorem dX7_addConcept_37 : decode cX7_addConcept 37 = .ok (.ifCond .ne 6, 3) := by decide +kernel
theorem dX7_addConcept_40 : decode cX7_addConcept 40 = .ok (.bipush (-4), 2) := by decide +kernel
theorem dX7_addConcept_42 : decode cX7_addConcept 42 = .ok (.ireturn, 1) := by decide +kernel
theorem dX7_addConcept_43 : decode cX7_addConcept 43 = .ok (.aload_n 0, 1) := by decide +kernel
theorem dX7_addConcept_44 : decode cX7_addConcept 44 = .ok (.getfield 12, 3) := by decide +kernel
theorem dX7_addConcept_47 : decode cX7_addConcept 47 = .ok (.getfield 96, 3) := by decide +kernel
theorem dX7_addConcept_50 : decode cX7_addConcept 50 = .ok (.iconst 1, 1) := by decide +kernel
theorem dX7_addConcept_51 : decode cX7_addConcept 51 = .ok (.isub, 1) := by decide +kernel
theorem dX7_addConcept_52 : decode cX7_addConcept 52 = .ok (.ireturn, 1) := by decide +kernel
set_option maxRecDepth 20000 in
theorem ggX7_addIntervals_X0_addIfNew : GoodIn wsX7_addIntervals wsX0_addIfNew := goodIn_r _ [8, 9, 10, 11, 12, 13, 14, 7, 15, 16, 17, 18, 19, 20, 21, 22, 23, 24, 25, 26, 27, 28, 29, 30, 41, 42, 43, 44, 45, 46, 47] (by decide +kernel) (by decide +kernel)
set_option maxRecDepth 20000 in
theorem gX7_addIntervals_X0_addIfNew : GoodIn wsX7_addIntervals (wsV RX7 93 RX0 yX0_addIfNew wsX0_addIfNew) := goodIn_app (goodIn_of _ (by decide +kernel)) ggX7_addIntervals_X0_addIfNew
theorem dX7_addIntervals_0 : decode cX7_addIntervals 0 = .ok (.aload_n 0, 1) := by decide +kernel
theorem dX7_addIntervals_1 : decode cX7_addIntervals 1 = .ok (.getfield 12, 3) := by decide +kernel
theorem dX7_addIntervals_4 : decode cX7_addIntervals 4 = .ok (.getfield 96, 3) := by decide +kernel
theorem dX7_addIntervals_7 : decode cX7_addIntervals 7 = .ok (.istore_n 1, 1) := by decide +kernel
theorem dX7_addIntervals_8 : decode cX7_addIntervals 8 = .ok (.iconst 0, 1) := by decide +kernel
theorem dX7_addIntervals_9 : decode cX7_addIntervals 9 = .ok (.istore_n 2, 1) := by decide +kernel
theorem dX7_addIntervals_10 : decode cX7_addIntervals 10 = .ok (.iload_n 2, 1) := by decide +kernel
theorem dX7_addIntervals_11 : decode cX7_addIntervals 11 = .ok (.aload_n 0, 1) := by decide +kernel
theorem dX7_addIntervals_12 : decode cX7_addIntervals 12 = .ok (.getfield 12, 3) := by decide +kernel
theorem dX7_addIntervals_15 : decode cX7_addIntervals 15 = .ok (.getfield 74, 3) := by decide +kernel
theorem dX7_addIntervals_18 : decode cX7_addIntervals 18 = .ok (.if_icmp .ge 43, 3) := by decide +kernel
theorem dX7_addIntervals_21 : decode cX7_addIntervals 21 = .ok (.iload_n 2, 1) := by decide +kernel
theorem dX7_addIntervals_22 : decode cX7_addIntervals 22 = .ok (.istore_n 3, 1) := by decide +kernel
theorem dX7_addIntervals_23 : decode cX7_addIntervals 23 = .ok (.iload_n 3, 1) := by decide +kernel
theorem dX7_addIntervals_24 : decode cX7_addIntervals 24 = .ok (.aload_n 0, 1) := by decide +kernel
theorem dX7_addIntervals_25 : decode cX7_addIntervals 25 = .ok (.getfield 12, 3) := by decide +kernel
theorem dX7_addIntervals_28 : decode cX7_addIntervals 28 = .ok (.getfield 74, 3) := by decide +kernel
theorem dX7_addIntervals_31 : decode cX7_addIntervals 31 = .ok (.if_icmp .ge 24, 3) := by decide +kernel
theorem dX7_addIntervals_34 : decode cX7_addIntervals 34 = .ok (.aload_n 0, 1) := by decide +kernel
theorem dX7_addIntervals_35 : decode cX7_addIntervals 35 = .ok (.getfield 12, 3) := by decide +kernel
theorem dX7_addIntervals_38 : decode cX7_addIntervals 38 = .ok (.iconst 2, 1) := by decide +kernel
theorem dX7_addIntervals_39 : decode cX7_addIntervals 39 = .ok (.iload_n 3, 1) := by decide +kernel
theorem dX7_addIntervals_40 : decode cX7_addIntervals 40 = .ok (.ishl, 1) := by decide +kernel
theorem dX7_addIntervals_41 : decode cX7_addIntervals 41 = .ok (.iconst 1, 1) := by decide +kernel
theorem dX7_addIntervals_42 : decode cX7_addIntervals 42 = .ok (.iload_n 2, 1) := by decide +kernel
theorem dX7_addIntervals_43 : decode cX7_addIntervals 43 = .ok (.ishl, 1) := by decide +kernel
theorem dX7_addIntervals_44 : decode cX7_addIntervals 44 = .ok (.isub, 1) := by decide +kernel
theorem dX7_addIntervals_45 : decode cX7_addIntervals 45 = .ok (.invokevirtual 93, 3) := by decide +kernel
theorem dX7_addIntervals_48 : decode cX7_addIntervals 48 = .ok (.pop, 1) := by decide +kernel
theorem dX7_addIntervals_49 : decode cX7_addIntervals 49 = .ok (.iinc 3 1, 3) := by decide +kernel
theorem dX7_addIntervals_52 : decode cX7_addIntervals 52 = .ok (.goto (-29), 3) := by decide +kernel
theorem dX7_addIntervals_55 : decode cX7_addIntervals 55 = .ok (.iinc 2 1, 3) := by decide +kernel
theorem dX7_addIntervals_58 : decode cX7_addIntervals 58 = .ok (.goto (-48), 3) := by decide +kernel
theorem dX7_addIntervals_61 : decode cX7_addIntervals 61 = .ok (.aload_n 0, 1) := by decide +kernel
theorem dX7_addIntervals_62 : decode cX7_addIntervals 62 = .ok (.getfield 12, 3) := by decide +kernel
theorem dX7_addIntervals_65 : decode cX7_addIntervals 65 = .ok (.getfield 96, 3) := by decide +kernel
theorem dX7_addIntervals_68 : decode cX7_addIntervals 68 = .ok (.iload_n 1, 1) := by decide +kernel
theorem dX7_addIntervals_69 : decode cX7_addIntervals 69 = .ok (.isub, 1) := by decide +kernel
theorem dX7_addIntervals_70 : decode cX7_addIntervals 70 = .ok (.ireturn, 1) := by decide +kernel
set_option maxRecDepth 20000 in
theorem ggX7_removeConcept_X0_has : GoodIn wsX7_removeConcept wsX0_has := goodIn_r _ [7, 8, 48, 49, 50, 51, 52, 53, 54] (by decide +kernel) (by decide +kernel)
set_option maxRecDepth 20000 in
theorem gX7_removeConcept_X0_has : GoodIn wsX7_removeConcept (wsV RX7 99 RX0 yX0_has wsX0_has) := goodIn_app (goodIn_of _ (by decide +kernel)) ggX7_removeConcept_X0_has
set_option maxRecDepth 20000 in
theorem ggX7_removeConcept_X0_drop : GoodIn wsX7_removeConcept wsX0_drop := goodIn_r _ [12, 8, 13, 14, 15, 16, 6, 17, 18, 19, 20, 21, 22, 23, 24, 25, 26, 27, 28, 29, 30, 31, 32, 33, 34, 35, 36, 37, 48, 49, 50, 51, 52, 53, 54] (by decide +kernel) (by decide +kernel)
set_option maxRecDepth 20000 in
theorem gX7_removeConcept_X0_drop : GoodIn wsX7_removeConcept (wsV RX7 102 RX0 yX0_drop wsX0_drop) := goodIn_app (goodIn_of _ (by decide +kernel)) ggX7_removeConcept_X0_drop
theorem dX7_removeConcept_0 : decode cX7_removeConcept 0 = .ok (.aload_n 0, 1) := by decide +kernel
theorem dX7_removeConcept_1 : decode cX7_removeConcept 1 = .ok (.getfield 12, 3) := by decide +kernel
theorem dX7_removeConcept_4 : decode cX7_removeConcept 4 = .ok (.iload_n 1, 1) := by decide +kernel
theorem dX7_removeConcept_5 : decode cX7_removeConcept 5 = .ok (.invokevirtual 99, 3) := by decide +kernel
theorem dX7_removeConcept_8 : decode cX7_removeConcept 8 = .ok (.ifCond .ne 6, 3) := by decide +kernel
theorem dX7_removeConcept_11 : decode cX7_removeConcept 11 = .ok (.bipush (-2), 2) := by decide +kernel
theorem dX7_removeConcept_13 : decode cX7_removeConcept 13 = .ok (.ireturn, 1) := by decide +kernel
theorem dX7_removeConcept_14 : decode cX7_removeConcept 14 = .ok (.aload_n 0, 1) := by decide +kernel
theorem dX7_removeConcept_15 : decode cX7_removeConcept 15 = .ok (.getfield 12, 3) := by decide +kernel
theorem dX7_removeConcept_18 : decode cX7_removeConcept 18 = .ok (.iload_n 1, 1) := by decide +kernel
theorem dX7_removeConcept_19 : decode cX7_removeConcept 19 = .ok (.invokevirtual 102, 3) := by decide +kernel
theorem dX7_removeConcept_22 : decode cX7_removeConcept 22 = .ok (.aload_n 0, 1) := by decide +kernel
theorem dX7_removeConcept_23 : decode cX7_removeConcept 23 = .ok (.getfield 12, 3) := by decide +kernel
theorem dX7_removeConcept_26 : decode cX7_removeConcept 26 = .ok (.getfield 96, 3) := by decide +kernel
theorem dX7_removeConcept_29 : decode cX7_removeConcept 29 = .ok (.ireturn, 1) := by decide +kernel
theorem dX7_conceptCount_0 : decode cX7_conceptCount 0 = .ok (.aload_n 0, 1) := by decide +kernel
theorem dX7_conceptCount_1 : decode cX7_conceptCount 1 = .ok (.getfield 12, 3) := by decide +kernel
theorem dX7_conceptCount_4 : decode cX7_conceptCount 4 = .ok (.getfield 96, 3) := by decide +kernel
theorem dX7_conceptCount_7 : decode cX7_conceptCount 7 = .ok (.ireturn, 1) := by decide +kernel
set_option maxRecDepth 20000 in
theorem ggX7_concept_X0_has : GoodIn wsX7_concept wsX0_has := goodIn_r _ [7, 8, 19, 20, 21, 22, 23, 24, 25] (by decide +kernel) (by decide +kernel)
set_option maxRecDepth 20000 in
theorem gX7_concept_X0_has : GoodIn wsX7_concept (wsV RX7 99 RX0 yX0_has wsX0_has) := goodIn_app (goodIn_of _ (by decide +kernel)) ggX7_concept_X0_has
theorem dX7_concept_0 : decode cX7_concept 0 = .ok (.aload_n 0, 1) := by decide +kernel
theorem dX7_concept_1 : decode cX7_concept 1 = .ok (.getfield 12, 3) := by decide +kernel
theorem dX7_concept_4 : decode cX7_concept 4 = .ok (.iload_n 1, 1) := by decide +kernel
theorem dX7_concept_5 : decode cX7_concept 5 = .ok (.invokevirtual 99, 3) := by decide +kernel
theorem dX7_concept_8 : decode cX7_concept 8 = .ok (.ifCond .eq 15, 3) := by decide +kernel
theorem dX7_concept_11 : decode cX7_concept 11 = .ok (.aload_n 0, 1) := by decide +kernel
theorem dX7_concept_12 : decode cX7_concept 12 = .ok (.getfield 12, 3) := by decide +kernel
theorem dX7_concept_15 : decode cX7_concept 15 = .ok (.getfield 105, 3) := by decide +kernel
theorem dX7_concept_18 : decode cX7_concept 18 = .ok (.iload_n 1, 1) := by decide +kernel
theorem dX7_concept_19 : decode cX7_concept 19 = .ok (.iaload, 1) := by decide +kernel
theorem dX7_concept_20 : decode cX7_concept 20 = .ok (.goto 5, 3) := by decide +kernel
theorem dX7_concept_23 : decode cX7_concept 23 = .ok (.bipush (-2), 2) := by decide +kernel
theorem dX7_concept_25 : decode cX7_concept 25 = .ok (.ireturn, 1) := by decide +kernel
set_option maxRecDepth 20000 in
theorem ggX7_numberOf_X0_find : GoodIn wsX7_numberOf wsX0_find := goodIn_r _ [6, 7, 8, 19, 20, 21, 22, 23, 24, 25] (by decide +kernel) (by decide +kernel)
set_option maxRecDepth 20000 in
theorem gX7_numberOf_X0_find : GoodIn wsX7_numberOf (wsV RX7 89 RX0 yX0_find wsX0_find) := goodIn_app (goodIn_of _ (by decide +kernel)) ggX7_numberOf_X0_find
theorem dX7_numberOf_0 : decode cX7_numberOf 0 = .ok (.aload_n 0, 1) := by decide +kernel
theorem dX7_numberOf_1 : decode cX7_numberOf 1 = .ok (.getfield 12, 3) := by decide +kernel
theorem dX7_numberOf_4 : decode cX7_numberOf 4 = .ok (.iload_n 1, 1) := by decide +kernel
theorem dX7_numberOf_5 : decode cX7_numberOf 5 = .ok (.invokevirtual 89, 3) := by decide +kernel
theorem dX7_numberOf_8 : decode cX7_numberOf 8 = .ok (.ireturn, 1) := by decide +kernel
set_option maxRecDepth 20000 in
theorem ggX7_complementAll_X0_flip : GoodIn wsX7_complementAll wsX0_flip := goodIn_r _ [7, 8, 9, 10, 11, 12, 6, 13, 14, 15, 16, 17, 18, 19, 20, 21, 22, 23, 24, 25, 26, 27, 28, 29, 30, 31, 42, 43, 44, 45, 46, 47, 48] (by decide +kernel) (by decide +kernel)
set_option maxRecDepth 20000 in
theorem gX7_complementAll_X0_flip : GoodIn wsX7_complementAll (wsV RX7 109 RX0 yX0_flip wsX0_flip) := goodIn_app (goodIn_of _ (by decide +kernel)) ggX7_complementAll_X0_flip
theorem dX7_complementAll_0 : decode cX7_complementAll 0 = .ok (.aload_n 0, 1) := by decide +kernel
theorem dX7_complementAll_1 : decode cX7_complementAll 1 = .ok (.getfield 12, 3) := by decide +kernel
theorem dX7_complementAll_4 : decode cX7_complementAll 4 = .ok (.invokevirtual 109, 3) := by decide +kernel
theorem dX7_complementAll_7 : decode cX7_complementAll 7 = .ok (.aload_n 0, 1) := by decide +kernel
theorem dX7_complementAll_8 : decode cX7_complementAll 8 = .ok (.getfield 12, 3) := by decide +kernel
theorem dX7_complementAll_11 : decode cX7_complementAll 11 = .ok (.getfield 96, 3) := by decide +kernel
theorem dX7_complementAll_14 : decode cX7_complementAll 14 = .ok (.ireturn, 1) := by decide +kernel
set_option maxRecDepth 20000 in
theorem ggX7_restrict_X0_isSet : GoodIn wsX7_restrict wsX0_isSet := goodIn_r _ [8, 9, 10, 11, 7, 12, 13, 73, 74, 75, 76, 77, 78, 79] (by decide +kernel) (by decide +kernel)
set_option maxRecDepth 20000 in
theorem gX7_restrict_X0_isSet : GoodIn wsX7_restrict (wsV RX7 85 RX0 yX0_isSet wsX0_isSet) := goodIn_app (goodIn_of _ (by decide +kernel)) ggX7_restrict_X0_isSet
set_option maxRecDepth 20000 in
theorem ggX7_restrict_X0_narrow : GoodIn wsX7_restrict wsX0_narrow := goodIn_r _ [17, 18, 19, 13, 20, 21, 7, 22, 23, 24, 25, 26, 27, 28, 29, 30, 31, 32, 33, 34, 35, 36, 37, 38, 39, 40, 41, 42, 43, 44, 45, 46, 47, 48, 49, 50, 51, 52, 53, 54, 55, 56, 73, 74, 75, 76, 77, 78, 79] (by decide +kernel) (by decide +kernel)
set_option maxRecDepth 20000 in
theorem gX7_restrict_X0_narrow : GoodIn wsX7_restrict (wsV RX7 112 RX0 yX0_narrow wsX0_narrow) := goodIn_app (goodIn_of _ (by decide +kernel)) ggX7_restrict_X0_narrow
set_option maxRecDepth 20000 in
theorem ggX7_restrict_X3_forget : GoodIn wsX7_restrict wsX3_forget := goodIn_r _ [61, 62, 80, 81] (by decide +kernel) (by decide +kernel)
set_option maxRecDepth 20000 in
theorem gX7_restrict_X3_forget : GoodIn wsX7_restrict (wsV RX7 82 RX3 yX3_forget wsX3_forget) := goodIn_app (goodIn_of _ (by decide +kernel)) ggX7_restrict_X3_forget
theorem dX7_restrict_0 : decode cX7_restrict 0 = .ok (.iload_n 1, 1) := by decide +kernel
theorem dX7_restrict_1 : decode cX7_restrict 1 = .ok (.ifCond .eq 14, 3) := by decide +kernel
theorem dX7_restrict_4 : decode cX7_restrict 4 = .ok (.aload_n 0, 1) := by decide +kernel
theorem dX7_restrict_5 : decode cX7_restrict 5 = .ok (.getfield 12, 3) := by decide +kernel
theorem dX7_restrict_8 : decode cX7_restrict 8 = .ok (.iload_n 1, 1) := by decide +kernel
theorem dX7_restrict_9 : decode cX7_restrict 9 = .ok (.invokevirtual 85, 3) := by decide +kernel
theorem dX7_restrict_12 : decode cX7_restrict 12 = .ok (.ifCond .ne 5, 3) := by decide +kernel
theorem dX7_restrict_15 : decode cX7_restrict 15 = .ok (.iconst (-1), 1) := by decide +kernel
theorem dX7_restrict_16 : decode cX7_restrict 16 = .ok (.ireturn, 1) := by decide +kernel
theorem dX7_restrict_17 : decode cX7_restrict 17 = .ok (.aload_n 0, 1) := by decide +kernel
theorem dX7_restrict_18 : decode cX7_restrict 18 = .ok (.getfield 12, 3) := by decide +kernel
theorem dX7_restrict_21 : decode cX7_restrict 21 = .ok (.iload_n 1, 1) := by decide +kernel
theorem dX7_restrict_22 : decode cX7_restrict 22 = .ok (.invokevirtual 112, 3) := by decide +kernel
theorem dX7_restrict_25 : decode cX7_restrict 25 = .ok (.aload_n 0, 1) := by decide +kernel
theorem dX7_restrict_26 : decode cX7_restrict 26 = .ok (.getfield 21, 3) := by decide +kernel
theorem dX7_restrict_29 : decode cX7_restrict 29 = .ok (.invokevirtual 82, 3) := by decide +kernel
theorem dX7_restrict_32 : decode cX7_restrict 32 = .ok (.aload_n 0, 1) := by decide +kernel
theorem dX7_restrict_33 : decode cX7_restrict 33 = .ok (.getfield 12, 3) := by decide +kernel
theorem dX7_restrict_36 : decode cX7_restrict 36 = .ok (.getfield 96, 3) := by decide +kernel
theorem dX7_restrict_39 : decode cX7_restrict 39 = .ok (.ireturn, 1) := by decide +kernel
set_option maxRecDepth 20000 in
theorem ggX7_isIntersectionClosed_X0_find : GoodIn wsX7_isIntersectionClosed wsX0_find := goodIn_r _ [8, 9, 10, 21, 22, 23, 24, 25, 26, 27] (by decide +kernel) (by decide +kernel)
set_option maxRecDepth 20000 in
theorem gX7_isIntersectionClosed_X0_find : GoodIn wsX7_isIntersectionClosed (wsV RX7 89 RX0 yX0_find wsX0_find) := goodIn_app (goodIn_of _ (by decide +kernel)) ggX7_isIntersectionClosed_X0_find
theorem dX7_isIntersectionClosed_0 : decode cX7_isIntersectionClosed 0 = .ok (.iconst 0, 1) := by decide +kernel
theorem dX7_isIntersectionClosed_1 : decode cX7_isIntersectionClosed 1 = .ok (.istore_n 1, 1) := by decide +kernel
theorem dX7_isIntersectionClosed_2 : decode cX7_isIntersectionClosed 2 = .ok (.iload_n 1, 1) := by decide +kernel
theorem dX7_isIntersectionClosed_3 : decode cX7_isIntersectionClosed 3 = .ok (.aload_n 0, 1) := by decide +kernel
theorem dX7_isIntersectionClosed_4 : decode cX7_isIntersectionClosed 4 = .ok (.getfield 12, 3) := by decide +kernel
theorem dX7_isIntersectionClosed_7 : decode cX7_isIntersectionClosed 7 = .ok (.getfield 96, 3) := by decide +kernel
theorem dX7_isIntersectionClosed_10 : decode cX7_isIntersectionClosed 10 = .ok (.if_icmp .ge 55, 3) := by decide +kernel
theorem dX7_isIntersectionClosed_13 : decode cX7_isIntersectionClosed 13 = .ok (.iconst 0, 1) := by decide +kernel
theorem dX7_isIntersectionClosed_14 : decode cX7_isIntersectionClosed 14 = .ok (.istore_n 2, 1) := by decide +kernel
theorem dX7_isIntersectionClosed_15 : decode cX7_isIntersectionClosed 15 = .ok (.iload_n 2, 1) := by decide +kernel
theorem dX7_isIntersectionClosed_16 : decode cX7_isIntersectionClosed 16 = .ok (.iload_n 1, 1) := by decide +kernel
theorem dX7_isIntersectionClosed_17 : decode cX7_isIntersectionClosed 17 = .ok (.if_icmp .ge 42, 3) := by decide +kernel
theorem dX7_isIntersectionClosed_20 : decode cX7_isIntersectionClosed 20 = .ok (.aload_n 0, 1) := by decide +kernel
theorem dX7_isIntersectionClosed_21 : decode cX7_isIntersectionClosed 21 = .ok (.getfield 12, 3) := by decide +kernel
theorem dX7_isIntersectionClosed_24 : decode cX7_isIntersectionClosed 24 = .ok (.aload_n 0, 1) := by decide +kernel
theorem dX7_isIntersectionClosed_25 : decode cX7_isIntersectionClosed 25 = .ok (.getfield 12, 3) := by decide +kernel
theorem dX7_isIntersectionClosed_28 : decode cX7_isIntersectionClosed 28 = .ok (.getfield 105, 3) := by decide +kernel
theorem dX7_isIntersectionClosed_31 : decode cX7_isIntersectionClosed 31 = .ok (.iload_n 1, 1) := by decide +kernel
theorem dX7_isIntersectionClosed_32 : decode cX7_isIntersectionClosed 32 = .ok (.iaload, 1) := by decide +kernel
theorem dX7_isIntersectionClosed_33 : decode cX7_isIntersectionClosed 33 = .ok (.aload_n 0, 1) := by decide +kernel
theorem dX7_isIntersectionClosed_34 : decode cX7_isIntersectionClosed 34 = .ok (.getfield 12, 3) := by decide +kernel
theorem dX7_isIntersectionClosed_37 : decode cX7_isIntersectionClosed 37 = .ok (.getfield 105, 3) := by decide +kernel
theorem dX7_isIntersectionClosed_40 : decode cX7_isIntersectionClosed 40 = .ok (.iload_n 2, 1) := by decide +kernel
theorem dX7_isIntersectionClosed_41 : decode cX7_isIntersectionClosed 41 = .ok (.iaload, 1) := by decide +kernel
theorem dX7_isIntersectionClosed_42 : decode cX7_isIntersectionClosed 42 = .ok (.iand, 1) := by decide +kernel
theorem dX7_isIntersectionClosed_43 : decode cX7_isIntersectionClosed 43 = .ok (.invokevirtual 89, 3) := by decide +kernel
theorem dX7_isIntersectionClosed_46 : decode cX7_isIntersectionClosed 46 = .ok (.bipush (-6), 2) := by decide +kernel
theorem dX7_isIntersectionClosed_48 : decode cX7_isIntersectionClosed 48 = .ok (.if_icmp .ne 5, 3) := by decide +kernel
theorem dX7_isIntersectionClosed_51 : decode cX7_isIntersectionClosed 51 = .ok (.iconst 0, 1) := by decide +kernel
theorem dX7_isIntersectionClosed_52 : decode cX7_isIntersectionClosed 52 = .ok (.ireturn, 1) := by decide +kernel
theorem dX7_isIntersectionClosed_53 : decode cX7_isIntersectionClosed 53 = .ok (.iinc 2 1, 3) := by decide +kernel
theorem dX7_isIntersectionClosed_56 : decode cX7_isIntersectionClosed 56 = .ok (.goto (-41), 3) := by decide +kernel
theorem dX7_isIntersectionClosed_59 : decode cX7_isIntersectionClosed 59 = .ok (.iinc 1 1, 3) := by decide +kernel
theorem dX7_isIntersectionClosed_62 : decode cX7_isIntersectionClosed 62 = .ok (.goto (-60), 3) := by decide +kernel
theorem dX7_isIntersectionClosed_65 : decode cX7_isIntersectionClosed 65 = .ok (.iconst 1, 1) := by decide +kernel
theorem dX7_isIntersectionClosed_66 : decode cX7_isIntersectionClosed 66 = .ok (.ireturn, 1) := by decide +kernel
set_option maxRecDepth 20000 in
theorem ggX7_isTeachingSet_X0_has : GoodIn wsX7_isTeachingSet wsX0_has := goodIn_r _ [7, 8, 61, 62, 63, 64, 65, 66, 67] (by decide +kernel) (by decide +kernel)
set_option maxRecDepth 20000 in
theorem gX7_isTeachingSet_X0_has : GoodIn wsX7_isTeachingSet (wsV RX7 99 RX0 yX0_has wsX0_has) := goodIn_app (goodIn_of _ (by decide +kernel)) ggX7_isTeachingSet_X0_has
set_option maxRecDepth 20000 in
theorem ggX7_isTeachingSet_X0_isSet : GoodIn wsX7_isTeachingSet wsX0_isSet := goodIn_r _ [12, 13, 14, 15, 6, 16, 17, 61, 62, 63, 64, 65, 66, 67] (by decide +kernel) (by decide +kernel)
set_option maxRecDepth 20000 in
theorem gX7_isTeachingSet_X0_isSet : GoodIn wsX7_isTeachingSet (wsV RX7 85 RX0 yX0_isSet wsX0_isSet) := goodIn_app (goodIn_of _ (by decide +kernel)) ggX7_isTeachingSet_X0_isSet
set_option maxRecDepth 20000 in
theorem ggX7_isTeachingSet_X0_others : GoodIn wsX7_isTeachingSet wsX0_others := goodIn_r _ [21, 22, 23, 24, 6, 25, 8, 61, 62, 63, 64, 65, 66, 67] (by decide +kernel) (by decide +kernel)
set_option maxRecDepth 20000 in
theorem gX7_isTeachingSet_X0_others : GoodIn wsX7_isTeachingSet (wsV RX7 115 RX0 yX0_others wsX0_others) := goodIn_app (goodIn_of _ (by decide +kernel)) ggX7_isTeachingSet_X0_others
set_option maxRecDepth 20000 in
theorem ggX7_isTeachingSet_X4_beats : GoodIn wsX7_isTeachingSet wsX4_beats := goodIn_r _ [30, 31, 32, 33, 34, 29, 35, 36, 37, 38, 39, 40, 6, 41, 42, 43, 44, 45, 46, 47, 48, 49, 50, 22, 23, 24, 25, 8, 68, 69, 61, 62, 63, 64, 65, 66, 67] (by decide +kernel) (by decide +kernel)
set_option maxRecDepth 20000 in
theorem gX7_isTeachingSet_X4_beats : GoodIn wsX7_isTeachingSet (wsV RX7 118 RX4 yX4_beats wsX4_beats) := goodIn_app (goodIn_of _ (by decide +kernel)) ggX7_isTeachingSet_X4_beats
theorem dX7_isTeachingSet_0 : decode cX7_isTeachingSet 0 = .ok (.aload_n 0, 1) := by decide +kernel
theorem dX7_isTeachingSet_1 : decode cX7_isTeachingSet 1 = .ok (.getfield 12, 3) := by decide +kernel
theorem dX7_isTeachingSet_4 : decode cX7_isTeachingSet 4 = .ok (.iload_n 1, 1) := by decide +kernel
theorem dX7_isTeachingSet_5 : decode cX7_isTeachingSet 5 = .ok (.invokevirtual 99, 3) := by decide +kernel
theorem dX7_isTeachingSet_8 : decode cX7_isTeachingSet 8 = .ok (.ifCond .ne 6, 3) := by decide +kernel
theorem dX7_isTeachingSet_11 : decode cX7_isTeachingSet 11 = .ok (.bipush (-2), 2) := by decide +kernel
theorem dX7_isTeachingSet_13 : decode cX7_isTeachingSet 13 = .ok (.ireturn, 1) := by decide +kernel
theorem dX7_isTeachingSet_14 : decode cX7_isTeachingSet 14 = .ok (.aload_n 0, 1) := by decide +kernel
theorem dX7_isTeachingSet_15 : decode cX7_isTeachingSet 15 = .ok (.getfield 12, 3) := by decide +kernel
theorem dX7_isTeachingSet_18 : decode cX7_isTeachingSet 18 = .ok (.iload_n 2, 1) := by decide +kernel
theorem dX7_isTeachingSet_19 : decode cX7_isTeachingSet 19 = .ok (.invokevirtual 85, 3) := by decide +kernel
theorem dX7_isTeachingSet_22 : decode cX7_isTeachingSet 22 = .ok (.ifCond .ne 5, 3) := by decide +kernel
theorem dX7_isTeachingSet_25 : decode cX7_isTeachingSet 25 = .ok (.iconst (-1), 1) := by decide +kernel
theorem dX7_isTeachingSet_26 : decode cX7_isTeachingSet 26 = .ok (.ireturn, 1) := by decide +kernel
theorem dX7_isTeachingSet_27 : decode cX7_isTeachingSet 27 = .ok (.aload_n 0, 1) := by decide +kernel
theorem dX7_isTeachingSet_28 : decode cX7_isTeachingSet 28 = .ok (.getfield 40, 3) := by decide +kernel
theorem dX7_isTeachingSet_31 : decode cX7_isTeachingSet 31 = .ok (.iload_n 1, 1) := by decide +kernel
theorem dX7_isTeachingSet_32 : decode cX7_isTeachingSet 32 = .ok (.aload_n 0, 1) := by decide +kernel
theorem dX7_isTeachingSet_33 : decode cX7_isTeachingSet 33 = .ok (.getfield 12, 3) := by decide +kernel
theorem dX7_isTeachingSet_36 : decode cX7_isTeachingSet 36 = .ok (.iload_n 1, 1) := by decide +kernel
theorem dX7_isTeachingSet_37 : decode cX7_isTeachingSet 37 = .ok (.invokevirtual 115, 3) := by decide +kernel
theorem dX7_isTeachingSet_40 : decode cX7_isTeachingSet 40 = .ok (.iload_n 2, 1) := by decide +kernel
theorem dX7_isTeachingSet_41 : decode cX7_isTeachingSet 41 = .ok (.invokevirtual 118, 3) := by decide +kernel
theorem dX7_isTeachingSet_44 : decode cX7_isTeachingSet 44 = .ok (.ifCond .eq 7, 3) := by decide +kernel
theorem dX7_isTeachingSet_47 : decode cX7_isTeachingSet 47 = .ok (.iconst 1, 1) := by decide +kernel
theorem dX7_isTeachingSet_48 : decode cX7_isTeachingSet 48 = .ok (.goto 4, 3) := by decide +kernel
theorem dX7_isTeachingSet_51 : decode cX7_isTeachingSet 51 = .ok (.iconst 0, 1) := by decide +kernel
theorem dX7_isTeachingSet_52 : decode cX7_isTeachingSet 52 = .ok (.ireturn, 1) := by decide +kernel
set_option maxRecDepth 20000 in
theorem ggX7_teachingSet_X0_has : GoodIn wsX7_teachingSet wsX0_has := goodIn_r _ [7, 8, 64, 65, 66, 67, 68, 69, 70] (by decide +kernel) (by decide +kernel)
set_option maxRecDepth 20000 in
theorem gX7_teachingSet_X0_has : GoodIn wsX7_teachingSet (wsV RX7 99 RX0 yX0_has wsX0_has) := goodIn_app (goodIn_of _ (by decide +kernel)) ggX7_teachingSet_X0_has
set_option maxRecDepth 20000 in
theorem ggX7_teachingSet_X0_others : GoodIn wsX7_teachingSet wsX0_others := goodIn_r _ [12, 13, 14, 15, 6, 16, 8, 64, 65, 66, 67, 68, 69, 70] (by decide +kernel) (by decide +kernel)
set_option maxRecDepth 20000 in
theorem gX7_teachingSet_X0_others : GoodIn wsX7_teachingSet (wsV RX7 115 RX0 yX0_others wsX0_others) := goodIn_app (goodIn_of _ (by decide +kernel)) ggX7_teachingSet_X0_others
set_option maxRecDepth 20000 in
theorem ggX7_teachingSet_X4_smallest : GoodIn wsX7_teachingSet wsX4_smallest := goodIn_r _ [21, 22, 23, 24, 25, 26, 20, 27, 28, 29, 30, 31, 6, 32, 33, 34, 35, 36, 37, 38, 39, 40, 41, 13, 14, 15, 16, 8, 42, 43, 44, 45, 46, 47, 48, 49, 50, 51, 52, 53, 71, 72, 64, 65, 66, 67, 68, 69, 70] (by decide +kernel) (by decide +kernel)
set_option maxRecDepth 20000 in
theorem gX7_teachingSet_X4_smallest : GoodIn wsX7_teachingSet (wsV RX7 122 RX4 yX4_smallest wsX4_smallest) := goodIn_app (goodIn_of _ (by decide +kernel)) ggX7_teachingSet_X4_smallest
theorem dX7_teachingSet_0 : decode cX7_teachingSet 0 = .ok (.aload_n 0, 1) := by decide +kernel
theorem dX7_teachingSet_1 : decode cX7_teachingSet 1 = .ok (.getfield 12, 3) := by decide +kernel
theorem dX7_teachingSet_4 : decode cX7_teachingSet 4 = .ok (.iload_n 1, 1) := by decide +kernel
theorem dX7_teachingSet_5 : decode cX7_teachingSet 5 = .ok (.invokevirtual 99, 3) := by decide +kernel
theorem dX7_teachingSet_8 : decode cX7_teachingSet 8 = .ok (.ifCond .ne 6, 3) := by decide +kernel
theorem dX7_teachingSet_11 : decode cX7_teachingSet 11 = .ok (.bipush (-2), 2) := by decide +kernel
theorem dX7_teachingSet_13 : decode cX7_teachingSet 13 = .ok (.ireturn, 1) := by decide +kernel
theorem dX7_teachingSet_14 : decode cX7_teachingSet 14 = .ok (.aload_n 0, 1) := by decide +kernel
theorem dX7_teachingSet_15 : decode cX7_teachingSet 15 = .ok (.getfield 40, 3) := by decide +kernel
theorem dX7_teachingSet_18 : decode cX7_teachingSet 18 = .ok (.iload_n 1, 1) := by decide +kernel
theorem dX7_teachingSet_19 : decode cX7_teachingSet 19 = .ok (.aload_n 0, 1) := by decide +kernel
theorem dX7_teachingSet_20 : decode cX7_teachingSet 20 = .ok (.getfield 12, 3) := by decide +kernel
theorem dX7_teachingSet_23 : decode cX7_teachingSet 23 = .ok (.iload_n 1, 1) := by decide +kernel
theorem dX7_teachingSet_24 : decode cX7_teachingSet 24 = .ok (.invokevirtual 115, 3) := by decide +kernel
theorem dX7_teachingSet_27 : decode cX7_teachingSet 27 = .ok (.invokevirtual 122, 3) := by decide +kernel
theorem dX7_teachingSet_30 : decode cX7_teachingSet 30 = .ok (.ireturn, 1) := by decide +kernel
set_option maxRecDepth 20000 in
theorem ggX7_teachingSetCount_X0_has : GoodIn wsX7_teachingSetCount wsX0_has := goodIn_r _ [7, 8, 68, 69, 70, 71, 72, 73, 74] (by decide +kernel) (by decide +kernel)
set_option maxRecDepth 20000 in
theorem gX7_teachingSetCount_X0_has : GoodIn wsX7_teachingSetCount (wsV RX7 99 RX0 yX0_has wsX0_has) := goodIn_app (goodIn_of _ (by decide +kernel)) ggX7_teachingSetCount_X0_has
set_option maxRecDepth 20000 in
theorem ggX7_teachingSetCount_X0_isSize : GoodIn wsX7_teachingSetCount wsX0_isSize := goodIn_r _ [12, 13, 68, 69, 70, 71, 72, 73, 74] (by decide +kernel) (by decide +kernel)
set_option maxRecDepth 20000 in
theorem gX7_teachingSetCount_X0_isSize : GoodIn wsX7_teachingSetCount (wsV RX7 126 RX0 yX0_isSize wsX0_isSize) := goodIn_app (goodIn_of _ (by decide +kernel)) ggX7_teachingSetCount_X0_isSize
set_option maxRecDepth 20000 in
theorem ggX7_teachingSetCount_X0_others : GoodIn wsX7_teachingSetCount wsX0_others := goodIn_r _ [17, 18, 19, 20, 6, 21, 8, 68, 69, 70, 71, 72, 73, 74] (by decide +kernel) (by decide +kernel)
set_option maxRecDepth 20000 in
theorem gX7_teachingSetCount_X0_others : GoodIn wsX7_teachingSetCount (wsV RX7 115 RX0 yX0_others wsX0_others) := goodIn_app (goodIn_of _ (by decide +kernel)) ggX7_teachingSetCount_X0_others
set_option maxRecDepth 20000 in
theorem ggX7_teachingSetCount_X4_countOfSize : GoodIn wsX7_teachingSetCount wsX4_countOfSize := goodIn_r _ [26, 27, 28, 29, 30, 31, 25, 32, 33, 34, 35, 36, 6, 37, 38, 39, 40, 41, 42, 43, 44, 45, 46, 18, 19, 20, 21, 8, 47, 48, 49, 50, 13, 51, 52, 53, 54, 55, 56, 57, 75, 76, 68, 69, 70, 71, 72, 73, 74] (by decide +kernel) (by decide +kernel)
set_option maxRecDepth 20000 in
theorem gX7_teachingSetCount_X4_countOfSize : GoodIn wsX7_teachingSetCount (wsV RX7 129 RX4 yX4_countOfSize wsX4_countOfSize) := goodIn_app (goodIn_of _ (by decide +kernel)) ggX7_teachingSetCount_X4_countOfSize
theorem dX7_teachingSetCount_0 : decode cX7_teachingSetCount 0 = .ok (.aload_n 0, 1) := by decide +kernel
theorem dX7_teachingSetCount_1 : decode cX7_teachingSetCount 1 = .ok (.getfield 12, 3) := by decide +kernel
theorem dX7_teachingSetCount_4 : decode cX7_teachingSetCount 4 = .ok (.iload_n 1, 1) := by decide +kernel
theorem dX7_teachingSetCount_5 : decode cX7_teachingSetCount 5 = .ok (.invokevirtual 99, 3) := by decide +kernel
theorem dX7_teachingSetCount_8 : decode cX7_teachingSetCount 8 = .ok (.ifCond .ne 6, 3) := by decide +kernel
theorem dX7_teachingSetCount_11 : decode cX7_teachingSetCount 11 = .ok (.bipush (-2), 2) := by decide +kernel
theorem dX7_teachingSetCount_13 : decode cX7_teachingSetCount 13 = .ok (.ireturn, 1) := by decide +kernel
theorem dX7_teachingSetCount_14 : decode cX7_teachingSetCount 14 = .ok (.aload_n 0, 1) := by decide +kernel
theorem dX7_teachingSetCount_15 : decode cX7_teachingSetCount 15 = .ok (.getfield 12, 3) := by decide +kernel
theorem dX7_teachingSetCount_18 : decode cX7_teachingSetCount 18 = .ok (.iload_n 2, 1) := by decide +kernel
theorem dX7_teachingSetCount_19 : decode cX7_teachingSetCount 19 = .ok (.invokevirtual 126, 3) := by decide +kernel
theorem dX7_teachingSetCount_22 : decode cX7_teachingSetCount 22 = .ok (.ifCond .ne 5, 3) := by decide +kernel
theorem dX7_teachingSetCount_25 : decode cX7_teachingSetCount 25 = .ok (.iconst (-1), 1) := by decide +kernel
theorem dX7_teachingSetCount_26 : decode cX7_teachingSetCount 26 = .ok (.ireturn, 1) := by decide +kernel
theorem dX7_teachingSetCount_27 : decode cX7_teachingSetCount 27 = .ok (.aload_n 0, 1) := by decide +kernel
theorem dX7_teachingSetCount_28 : decode cX7_teachingSetCount 28 = .ok (.getfield 40, 3) := by decide +kernel
theorem dX7_teachingSetCount_31 : decode cX7_teachingSetCount 31 = .ok (.iload_n 1, 1) := by decide +kernel
theorem dX7_teachingSetCount_32 : decode cX7_teachingSetCount 32 = .ok (.aload_n 0, 1) := by decide +kernel
theorem dX7_teachingSetCount_33 : decode cX7_teachingSetCount 33 = .ok (.getfield 12, 3) := by decide +kernel
theorem dX7_teachingSetCount_36 : decode cX7_teachingSetCount 36 = .ok (.iload_n 1, 1) := by decide +kernel
theorem dX7_teachingSetCount_37 : decode cX7_teachingSetCount 37 = .ok (.invokevirtual 115, 3) := by decide +kernel
theorem dX7_teachingSetCount_40 : decode cX7_teachingSetCount 40 = .ok (.iload_n 2, 1) := by decide +kernel
theorem dX7_teachingSetCount_41 : decode cX7_teachingSetCount 41 = .ok (.invokevirtual 129, 3) := by decide +kernel
theorem dX7_teachingSetCount_44 : decode cX7_teachingSetCount 44 = .ok (.ireturn, 1) := by decide +kernel
set_option maxRecDepth 20000 in
theorem ggX7_teachingDimension_X4_smallestSize : GoodIn wsX7_teachingDimension wsX4_smallestSize := goodIn_r _ [15, 16, 17, 18, 19, 20, 21, 22, 23, 24, 25, 26, 27, 28, 29, 14, 30, 31, 32, 33, 34, 35, 36, 37, 38, 39, 40, 41, 42, 43, 44, 45, 46, 47, 48, 49, 50, 51, 52, 53, 54, 55, 56, 57, 58, 59, 60, 61, 79, 80, 72, 73, 74, 75, 76, 77, 78] (by decide +kernel) (by decide +kernel)
set_option maxRecDepth 20000 in
theorem gX7_teachingDimension_X4_smallestSize : GoodIn wsX7_teachingDimension (wsV RX7 133 RX4 yX4_smallestSize wsX4_smallestSize) := goodIn_app (goodIn_of _ (by decide +kernel)) ggX7_teachingDimension_X4_smallestSize
theorem dX7_teachingDimension_0 : decode cX7_teachingDimension 0 = .ok (.iload_n 1, 1) := by decide +kernel
theorem dX7_teachingDimension_1 : decode cX7_teachingDimension 1 = .ok (.ifCond .lt 8, 3) := by decide +kernel
theorem dX7_teachingDimension_4 : decode cX7_teachingDimension 4 = .ok (.iload_n 1, 1) := by decide +kernel
theorem dX7_teachingDimension_5 : decode cX7_teachingDimension 5 = .ok (.iconst 1, 1) := by decide +kernel
theorem dX7_teachingDimension_6 : decode cX7_teachingDimension 6 = .ok (.if_icmp .le 5, 3) := by decide +kernel
theorem dX7_teachingDimension_9 : decode cX7_teachingDimension 9 = .ok (.iconst (-1), 1) := by decide +kernel
theorem dX7_teachingDimension_10 : decode cX7_teachingDimension 10 = .ok (.ireturn, 1) := by decide +kernel
theorem dX7_teachingDimension_11 : decode cX7_teachingDimension 11 = .ok (.aload_n 0, 1) := by decide +kernel
theorem dX7_teachingDimension_12 : decode cX7_teachingDimension 12 = .ok (.getfield 12, 3) := by decide +kernel
theorem dX7_teachingDimension_15 : decode cX7_teachingDimension 15 = .ok (.getfield 96, 3) := by decide +kernel
theorem dX7_teachingDimension_18 : decode cX7_teachingDimension 18 = .ok (.ifCond .ne 6, 3) := by decide +kernel
theorem dX7_teachingDimension_21 : decode cX7_teachingDimension 21 = .ok (.bipush (-7), 2) := by decide +kernel
theorem dX7_teachingDimension_23 : decode cX7_teachingDimension 23 = .ok (.ireturn, 1) := by decide +kernel
theorem dX7_teachingDimension_24 : decode cX7_teachingDimension 24 = .ok (.iconst 0, 1) := by decide +kernel
theorem dX7_teachingDimension_25 : decode cX7_teachingDimension 25 = .ok (.istore_n 2, 1) := by decide +kernel
theorem dX7_teachingDimension_26 : decode cX7_teachingDimension 26 = .ok (.bipush 8, 2) := by decide +kernel
theorem dX7_teachingDimension_28 : decode cX7_teachingDimension 28 = .ok (.istore_n 3, 1) := by decide +kernel
theorem dX7_teachingDimension_29 : decode cX7_teachingDimension 29 = .ok (.iconst 0, 1) := by decide +kernel
theorem dX7_teachingDimension_30 : decode cX7_teachingDimension 30 = .ok (.istore 4, 2) := by decide +kernel
theorem dX7_teachingDimension_32 : decode cX7_teachingDimension 32 = .ok (.iload 4, 2) := by decide +kernel
theorem dX7_teachingDimension_34 : decode cX7_teachingDimension 34 = .ok (.aload_n 0, 1) := by decide +kernel
theorem dX7_teachingDimension_35 : decode cX7_teachingDimension 35 = .ok (.getfield 12, 3) := by decide +kernel
theorem dX7_teachingDimension_38 : decode cX7_teachingDimension 38 = .ok (.getfield 96, 3) := by decide +kernel
theorem dX7_teachingDimension_41 : decode cX7_teachingDimension 41 = .ok (.if_icmp .ge 34, 3) := by decide +kernel
theorem dX7_teachingDimension_44 : decode cX7_teachingDimension 44 = .ok (.aload_n 0, 1) := by decide +kernel
theorem dX7_teachingDimension_45 : decode cX7_teachingDimension 45 = .ok (.getfield 40, 3) := by decide +kernel
theorem dX7_teachingDimension_48 : decode cX7_teachingDimension 48 = .ok (.iload 4, 2) := by decide +kernel
theorem dX7_teachingDimension_50 : decode cX7_teachingDimension 50 = .ok (.invokevirtual 133, 3) := by decide +kernel
theorem dX7_teachingDimension_53 : decode cX7_teachingDimension 53 = .ok (.istore 5, 2) := by decide +kernel
theorem dX7_teachingDimension_55 : decode cX7_teachingDimension 55 = .ok (.iload_n 2, 1) := by decide +kernel
theorem dX7_teachingDimension_56 : decode cX7_teachingDimension 56 = .ok (.iload 5, 2) := by decide +kernel
theorem dX7_teachingDimension_58 : decode cX7_teachingDimension 58 = .ok (.invokestatic 136, 3) := by decide +kernel
theorem dX7_teachingDimension_61 : decode cX7_teachingDimension 61 = .ok (.istore_n 2, 1) := by decide +kernel
theorem dX7_teachingDimension_62 : decode cX7_teachingDimension 62 = .ok (.iload_n 3, 1) := by decide +kernel
theorem dX7_teachingDimension_63 : decode cX7_teachingDimension 63 = .ok (.iload 5, 2) := by decide +kernel
theorem dX7_teachingDimension_65 : decode cX7_teachingDimension 65 = .ok (.invokestatic 141, 3) := by decide +kernel
theorem dX7_teachingDimension_68 : decode cX7_teachingDimension 68 = .ok (.istore_n 3, 1) := by decide +kernel
theorem dX7_teachingDimension_69 : decode cX7_teachingDimension 69 = .ok (.iinc 4 1, 3) := by decide +kernel
theorem dX7_teachingDimension_72 : decode cX7_teachingDimension 72 = .ok (.goto (-40), 3) := by decide +kernel
theorem dX7_teachingDimension_75 : decode cX7_teachingDimension 75 = .ok (.iload_n 1, 1) := by decide +kernel
theorem dX7_teachingDimension_76 : decode cX7_teachingDimension 76 = .ok (.ifCond .ne 7, 3) := by decide +kernel
theorem dX7_teachingDimension_79 : decode cX7_teachingDimension 79 = .ok (.iload_n 2, 1) := by decide +kernel
theorem dX7_teachingDimension_80 : decode cX7_teachingDimension 80 = .ok (.goto 4, 3) := by decide +kernel
theorem dX7_teachingDimension_83 : decode cX7_teachingDimension 83 = .ok (.iload_n 3, 1) := by decide +kernel
theorem dX7_teachingDimension_84 : decode cX7_teachingDimension 84 = .ok (.ireturn, 1) := by decide +kernel
set_option maxRecDepth 20000 in
theorem ggX7_averageDimension_X4_smallestSize : GoodIn wsX7_averageDimension wsX4_smallestSize := goodIn_r _ [8, 9, 10, 11, 12, 13, 14, 15, 16, 17, 18, 19, 20, 21, 22, 7, 23, 24, 25, 26, 27, 28, 29, 30, 31, 32, 33, 34, 35, 36, 37, 38, 39, 40, 41, 42, 43, 44, 45, 46, 47, 48, 49, 50, 51, 52, 53, 54, 75, 76, 68, 69, 70, 71, 72, 73, 74] (by decide +kernel) (by decide +kernel)
set_option maxRecDepth 20000 in
theorem gX7_averageDimension_X4_smallestSize : GoodIn wsX7_averageDimension (wsV RX7 133 RX4 yX4_smallestSize wsX4_smallestSize) := goodIn_app (goodIn_of _ (by decide +kernel)) ggX7_averageDimension_X4_smallestSize
set_option maxRecDepth 20000 in
theorem ggX7_averageDimension_X7_reducedPart : GoodIn wsX7_averageDimension wsX7_reducedPart := goodIn_r _ [57] (by decide +kernel) (by decide +kernel)
set_option maxRecDepth 20000 in
theorem gX7_averageDimension_X7_reducedPart : GoodIn wsX7_averageDimension (va_wsS RX7 144 yX7_reducedPart wsX7_reducedPart) := goodIn_app (goodIn_of _ (by decide +kernel)) ggX7_averageDimension_X7_reducedPart
theorem dX7_averageDimension_0 : decode cX7_averageDimension 0 = .ok (.iload_n 1, 1) := by decide +kernel
theorem dX7_averageDimension_1 : decode cX7_averageDimension 1 = .ok (.ifCond .lt 8, 3) := by decide +kernel
theorem dX7_averageDimension_4 : decode cX7_averageDimension 4 = .ok (.iload_n 1, 1) := by decide +kernel
theorem dX7_averageDimension_5 : decode cX7_averageDimension 5 = .ok (.iconst 1, 1) := by decide +kernel
theorem dX7_averageDimension_6 : decode cX7_averageDimension 6 = .ok (.if_icmp .le 5, 3) := by decide +kernel
theorem dX7_averageDimension_9 : decode cX7_averageDimension 9 = .ok (.iconst (-1), 1) := by decide +kernel
theorem dX7_averageDimension_10 : decode cX7_averageDimension 10 = .ok (.ireturn, 1) := by decide +kernel
theorem dX7_averageDimension_11 : decode cX7_averageDimension 11 = .ok (.aload_n 0, 1) := by decide +kernel
theorem dX7_averageDimension_12 : decode cX7_averageDimension 12 = .ok (.getfield 12, 3) := by decide +kernel
theorem dX7_averageDimension_15 : decode cX7_averageDimension 15 = .ok (.getfield 96, 3) := by decide +kernel
theorem dX7_averageDimension_18 : decode cX7_averageDimension 18 = .ok (.ifCond .ne 6, 3) := by decide +kernel
theorem dX7_averageDimension_21 : decode cX7_averageDimension 21 = .ok (.bipush (-7), 2) := by decide +kernel
theorem dX7_averageDimension_23 : decode cX7_averageDimension 23 = .ok (.ireturn, 1) := by decide +kernel
theorem dX7_averageDimension_24 : decode cX7_averageDimension 24 = .ok (.iconst 0, 1) := by decide +kernel
theorem dX7_averageDimension_25 : decode cX7_averageDimension 25 = .ok (.istore_n 2, 1) := by decide +kernel
theorem dX7_averageDimension_26 : decode cX7_averageDimension 26 = .ok (.iconst 0, 1) := by decide +kernel
theorem dX7_averageDimension_27 : decode cX7_averageDimension 27 = .ok (.istore_n 3, 1) := by decide +kernel
theorem dX7_averageDimension_28 : decode cX7_averageDimension 28 = .ok (.iload_n 3, 1) := by decide +kernel
theorem dX7_averageDimension_29 : decode cX7_averageDimension 29 = .ok (.aload_n 0, 1) := by decide +kernel
theorem dX7_averageDimension_30 : decode cX7_averageDimension 30 = .ok (.getfield 12, 3) := by decide +kernel
theorem dX7_averageDimension_33 : decode cX7_averageDimension 33 = .ok (.getfield 96, 3) := by decide +kernel
theorem dX7_averageDimension_36 : decode cX7_averageDimension 36 = .ok (.if_icmp .ge 20, 3) := by decide +kernel
theorem dX7_averageDimension_39 : decode cX7_averageDimension 39 = .ok (.iload_n 2, 1) := by decide +kernel
theorem dX7_averageDimension_40 : decode cX7_averageDimension 40 = .ok (.aload_n 0, 1) := by decide +kernel
theorem dX7_averageDimension_41 : decode cX7_averageDimension 41 = .ok (.getfield 40, 3) := by decide +kernel
theorem dX7_averageDimension_44 : decode cX7_averageDimension 44 = .ok (.iload_n 3, 1) := by decide +kernel
theorem dX7_averageDimension_45 : decode cX7_averageDimension 45 = .ok (.invokevirtual 133, 3) := by decide +kernel
theorem dX7_averageDimension_48 : decode cX7_averageDimension 48 = .ok (.iadd, 1) := by decide +kernel
theorem dX7_averageDimension_49 : decode cX7_averageDimension 49 = .ok (.istore_n 2, 1) := by decide +kernel
theorem dX7_averageDimension_50 : decode cX7_averageDimension 50 = .ok (.iinc 3 1, 3) := by decide +kernel
theorem dX7_averageDimension_53 : decode cX7_averageDimension 53 = .ok (.goto (-25), 3) := by decide +kernel
theorem dX7_averageDimension_56 : decode cX7_averageDimension 56 = .ok (.iload_n 2, 1) := by decide +kernel
theorem dX7_averageDimension_57 : decode cX7_averageDimension 57 = .ok (.aload_n 0, 1) := by decide +kernel
theorem dX7_averageDimension_58 : decode cX7_averageDimension 58 = .ok (.getfield 12, 3) := by decide +kernel
theorem dX7_averageDimension_61 : decode cX7_averageDimension 61 = .ok (.getfield 96, 3) := by decide +kernel
theorem dX7_averageDimension_64 : decode cX7_averageDimension 64 = .ok (.iload_n 1, 1) := by decide +kernel
theorem dX7_averageDimension_65 : decode cX7_averageDimension 65 = .ok (.invokestatic 144, 3) := by decide +kernel
theorem dX7_averageDimension_68 : decode cX7_averageDimension 68 = .ok (.ireturn, 1) := by decide +kernel
theorem dX7_reducedPart_0 : decode cX7_reducedPart 0 = .ok (.iload_n 2, 1) := by decide +kernel
theorem dX7_reducedPart_1 : decode cX7_reducedPart 1 = .ok (.ifCond .ne 7, 3) := by decide +kernel
theorem dX7_reducedPart_4 : decode cX7_reducedPart 4 = .ok (.iload_n 0, 1) := by decide +kernel
theorem dX7_reducedPart_5 : decode cX7_reducedPart 5 = .ok (.goto 4, 3) := by decide +kernel
theorem dX7_reducedPart_8 : decode cX7_reducedPart 8 = .ok (.iload_n 1, 1) := by decide +kernel
theorem dX7_reducedPart_9 : decode cX7_reducedPart 9 = .ok (.istore_n 3, 1) := by decide +kernel
theorem dX7_reducedPart_10 : decode cX7_reducedPart 10 = .ok (.iload_n 1, 1) := by decide +kernel
theorem dX7_reducedPart_11 : decode cX7_reducedPart 11 = .ok (.istore 4, 2) := by decide +kernel
theorem dX7_reducedPart_13 : decode cX7_reducedPart 13 = .ok (.iload 4, 2) := by decide +kernel
theorem dX7_reducedPart_15 : decode cX7_reducedPart 15 = .ok (.iconst 1, 1) := by decide +kernel
theorem dX7_reducedPart_16 : decode cX7_reducedPart 16 = .ok (.if_icmp .le 28, 3) := by decide +kernel
theorem dX7_reducedPart_19 : decode cX7_reducedPart 19 = .ok (.iload_n 0, 1) := by decide +kernel
theorem dX7_reducedPart_20 : decode cX7_reducedPart 20 = .ok (.iload 4, 2) := by decide +kernel
theorem dX7_reducedPart_22 : decode cX7_reducedPart 22 = .ok (.irem, 1) := by decide +kernel
theorem dX7_reducedPart_23 : decode cX7_reducedPart 23 = .ok (.ifCond .ne 15, 3) := by decide +kernel
theorem dX7_reducedPart_26 : decode cX7_reducedPart 26 = .ok (.iload_n 1, 1) := by decide +kernel
theorem dX7_reducedPart_27 : decode cX7_reducedPart 27 = .ok (.iload 4, 2) := by decide +kernel
theorem dX7_reducedPart_29 : decode cX7_reducedPart 29 = .ok (.irem, 1) := by decide +kernel
theorem dX7_reducedPart_30 : decode cX7_reducedPart 30 = .ok (.ifCond .ne 8, 3) := by decide +kernel
theorem dX7_reducedPart_33 : decode cX7_reducedPart 33 = .ok (.iload_n 3, 1) := by decide +kernel
theorem dX7_reducedPart_34 : decode cX7_reducedPart 34 = .ok (.iload 4, 2) := by decide +kernel
theorem dX7_reducedPart_36 : decode cX7_reducedPart 36 = .ok (.idiv, 1) := by decide +kernel
theorem dX7_reducedPart_37 : decode cX7_reducedPart 37 = .ok (.ireturn, 1) := by decide +kernel
theorem dX7_reducedPart_38 : decode cX7_reducedPart 38 = .ok (.iinc 4 (-1), 3) := by decide +kernel
theorem dX7_reducedPart_41 : decode cX7_reducedPart 41 = .ok (.goto (-28), 3) := by decide +kernel
theorem dX7_reducedPart_44 : decode cX7_reducedPart 44 = .ok (.iload_n 3, 1) := by decide +kernel
theorem dX7_reducedPart_45 : decode cX7_reducedPart 45 = .ok (.ireturn, 1) := by decide +kernel
set_option maxRecDepth 20000 in
theorem ggX7_recursiveDimension_X1_renew : GoodIn wsX7_recursiveDimension wsX1_renew := goodIn_r _ [9, 10, 11, 12, 13, 14, 15, 8, 16, 17, 18, 19, 20, 21, 22, 23, 24, 25, 26, 27, 28, 29, 30, 31, 32, 33, 34, 35, 36, 37, 38, 39, 40, 41, 42, 43, 44, 45, 46, 47, 48, 49, 50, 51, 52, 53, 54, 55, 56, 57, 58, 59, 60, 61, 62, 63, 64, 65, 66, 67, 68, 69, 70, 71, 72, 73, 74, 75, 76, 77, 78, 79, 80, 81, 82, 100, 101, 102, 103, 104, 105, 106, 93, 94, 95, 96, 97, 98, 99, 107, 108] (by decide +kernel) (by decide +kernel)
set_option maxRecDepth 20000 in
theorem gX7_recursiveDimension_X1_renew : GoodIn wsX7_recursiveDimension (wsV RX7 147 RX1 yX1_renew wsX1_renew) := goodIn_app (goodIn_of _ (by decide +kernel)) ggX7_recursiveDimension_X1_renew
theorem dX7_recursiveDimension_0 : decode cX7_recursiveDimension 0 = .ok (.aload_n 0, 1) := by decide +kernel
theorem dX7_recursiveDimension_1 : decode cX7_recursiveDimension 1 = .ok (.getfield 12, 3) := by decide +kernel
theorem dX7_recursiveDimension_4 : decode cX7_recursiveDimension 4 = .ok (.getfield 96, 3) := by decide +kernel
theorem dX7_recursiveDimension_7 : decode cX7_recursiveDimension 7 = .ok (.ifCond .ne 6, 3) := by decide +kernel
theorem dX7_recursiveDimension_10 : decode cX7_recursiveDimension 10 = .ok (.bipush (-7), 2) := by decide +kernel
theorem dX7_recursiveDimension_12 : decode cX7_recursiveDimension 12 = .ok (.ireturn, 1) := by decide +kernel
theorem dX7_recursiveDimension_13 : decode cX7_recursiveDimension 13 = .ok (.aload_n 0, 1) := by decide +kernel
theorem dX7_recursiveDimension_14 : decode cX7_recursiveDimension 14 = .ok (.getfield 49, 3) := by decide +kernel
theorem dX7_recursiveDimension_17 : decode cX7_recursiveDimension 17 = .ok (.invokevirtual 147, 3) := by decide +kernel
theorem dX7_recursiveDimension_20 : decode cX7_recursiveDimension 20 = .ok (.aload_n 0, 1) := by decide +kernel
theorem dX7_recursiveDimension_21 : decode cX7_recursiveDimension 21 = .ok (.getfield 49, 3) := by decide +kernel
theorem dX7_recursiveDimension_24 : decode cX7_recursiveDimension 24 = .ok (.getfield 150, 3) := by decide +kernel
theorem dX7_recursiveDimension_27 : decode cX7_recursiveDimension 27 = .ok (.ireturn, 1) := by decide +kernel
set_option maxRecDepth 20000 in
theorem ggX7_layerCount_X1_renew : GoodIn wsX7_layerCount wsX1_renew := goodIn_r _ [7, 8, 9, 10, 11, 12, 13, 6, 14, 15, 16, 17, 18, 19, 20, 21, 22, 23, 24, 25, 26, 27, 28, 29, 30, 31, 32, 33, 34, 35, 36, 37, 38, 39, 40, 41, 42, 43, 44, 45, 46, 47, 48, 49, 50, 51, 52, 53, 54, 55, 56, 57, 58, 59, 60, 61, 62, 63, 64, 65, 66, 67, 68, 69, 70, 71, 72, 73, 74, 75, 76, 77, 78, 79, 80, 91, 92, 93, 94, 95, 96, 97, 98, 99, 100, 101, 102, 103, 104, 105, 106] (by decide +kernel) (by decide +kernel)
set_option maxRecDepth 20000 in
theorem gX7_layerCount_X1_renew : GoodIn wsX7_layerCount (wsV RX7 147 RX1 yX1_renew wsX1_renew) := goodIn_app (goodIn_of _ (by decide +kernel)) ggX7_layerCount_X1_renew
theorem dX7_layerCount_0 : decode cX7_layerCount 0 = .ok (.aload_n 0, 1) := by decide +kernel
theorem dX7_layerCount_1 : decode cX7_layerCount 1 = .ok (.getfield 49, 3) := by decide +kernel
theorem dX7_layerCount_4 : decode cX7_layerCount 4 = .ok (.invokevirtual 147, 3) := by decide +kernel
theorem dX7_layerCount_7 : decode cX7_layerCount 7 = .ok (.aload_n 0, 1) := by decide +kernel
theorem dX7_layerCount_8 : decode cX7_layerCount 8 = .ok (.getfield 49, 3) := by decide +kernel
theorem dX7_layerCount_11 : decode cX7_layerCount 11 = .ok (.getfield 153, 3) := by decide +kernel
theorem dX7_layerCount_14 : decode cX7_layerCount 14 = .ok (.ireturn, 1) := by decide +kernel
set_option maxRecDepth 20000 in
theorem ggX7_layer_X0_has : GoodIn wsX7_layer wsX0_has := goodIn_r _ [8, 9, 103, 104, 105, 106, 107, 108, 109] (by decide +kernel) (by decide +kernel)
set_option maxRecDepth 20000 in
theorem gX7_layer_X0_has : GoodIn wsX7_layer (wsV RX7 99 RX0 yX0_has wsX0_has) := goodIn_app (goodIn_of _ (by decide +kernel)) ggX7_layer_X0_has
set_option maxRecDepth 20000 in
theorem ggX7_layer_X1_renew : GoodIn wsX7_layer wsX1_renew := goodIn_r _ [14, 15, 16, 17, 18, 19, 20, 13, 21, 22, 23, 24, 25, 26, 27, 28, 29, 30, 7, 31, 9, 32, 33, 34, 35, 36, 37, 38, 39, 40, 41, 42, 43, 44, 45, 46, 47, 48, 49, 50, 51, 52, 53, 54, 55, 56, 57, 58, 59, 60, 61, 62, 63, 64, 65, 66, 67, 68, 69, 70, 71, 72, 73, 74, 75, 76, 77, 78, 79, 80, 81, 82, 83, 84, 85, 96, 97, 98, 99, 100, 101, 102, 103, 104, 105, 106, 107, 108, 109, 110, 111] (by decide +kernel) (by decide +kernel)
set_option maxRecDepth 20000 in
theorem gX7_layer_X1_renew : GoodIn wsX7_layer (wsV RX7 147 RX1 yX1_renew wsX1_renew) := goodIn_app (goodIn_of _ (by decide +kernel)) ggX7_layer_X1_renew
theorem dX7_layer_0 : decode cX7_layer 0 = .ok (.aload_n 0, 1) := by decide +kernel
theorem dX7_layer_1 : decode cX7_layer 1 = .ok (.getfield 12, 3) := by decide +kernel
theorem dX7_layer_4 : decode cX7_layer 4 = .ok (.iload_n 1, 1) := by decide +kernel
theorem dX7_layer_5 : decode cX7_layer 5 = .ok (.invokevirtual 99, 3) := by decide +kernel
theorem dX7_layer_8 : decode cX7_layer 8 = .ok (.ifCond .ne 6, 3) := by decide +kernel
theorem dX7_layer_11 : decode cX7_layer 11 = .ok (.bipush (-2), 2) := by decide +kernel
theorem dX7_layer_13 : decode cX7_layer 13 = .ok (.ireturn, 1) := by decide +kernel
theorem dX7_layer_14 : decode cX7_layer 14 = .ok (.aload_n 0, 1) := by decide +kernel
theorem dX7_layer_15 : decode cX7_layer 15 = .ok (.getfield 49, 3) := by decide +kernel
theorem dX7_layer_18 : decode cX7_layer 18 = .ok (.invokevirtual 147, 3) := by decide +kernel
theorem dX7_layer_21 : decode cX7_layer 21 = .ok (.aload_n 0, 1) := by decide +kernel
theorem dX7_layer_22 : decode cX7_layer 22 = .ok (.getfield 49, 3) := by decide +kernel
theorem dX7_layer_25 : decode cX7_layer 25 = .ok (.getfield 156, 3) := by decide +kernel
theorem dX7_layer_28 : decode cX7_layer 28 = .ok (.iload_n 1, 1) := by decide +kernel
theorem dX7_layer_29 : decode cX7_layer 29 = .ok (.iaload, 1) := by decide +kernel
theorem dX7_layer_30 : decode cX7_layer 30 = .ok (.ireturn, 1) := by decide +kernel
set_option maxRecDepth 20000 in
theorem ggX7_planSet_X0_has : GoodIn wsX7_planSet wsX0_has := goodIn_r _ [8, 9, 103, 104, 105, 106, 107, 108, 109] (by decide +kernel) (by decide +kernel)
set_option maxRecDepth 20000 in
theorem gX7_planSet_X0_has : GoodIn wsX7_planSet (wsV RX7 99 RX0 yX0_has wsX0_has) := goodIn_app (goodIn_of _ (by decide +kernel)) ggX7_planSet_X0_has
set_option maxRecDepth 20000 in
theorem ggX7_planSet_X1_renew : GoodIn wsX7_planSet wsX1_renew := goodIn_r _ [14, 15, 16, 17, 18, 19, 20, 13, 21, 22, 23, 24, 25, 26, 27, 28, 29, 30, 7, 31, 9, 32, 33, 34, 35, 36, 37, 38, 39, 40, 41, 42, 43, 44, 45, 46, 47, 48, 49, 50, 51, 52, 53, 54, 55, 56, 57, 58, 59, 60, 61, 62, 63, 64, 65, 66, 67, 68, 69, 70, 71, 72, 73, 74, 75, 76, 77, 78, 79, 80, 81, 82, 83, 84, 85, 96, 97, 98, 99, 100, 101, 102, 103, 104, 105, 106, 107, 108, 109, 110, 111] (by decide +kernel) (by decide +kernel)
set_option maxRecDepth 20000 in
theorem gX7_planSet_X1_renew : GoodIn wsX7_planSet (wsV RX7 147 RX1 yX1_renew wsX1_renew) := goodIn_app (goodIn_of _ (by decide +kernel)) ggX7_planSet_X1_renew
theorem dX7_planSet_0 : decode cX7_planSet 0 = .ok (.aload_n 0, 1) := by decide +kernel
theorem dX7_planSet_1 : decode cX7_planSet 1 = .ok (.getfield 12, 3) := by decide +kernel
theorem dX7_planSet_4 : decode cX7_planSet 4 = .ok (.iload_n 1, 1) := by decide +kernel
theorem dX7_planSet_5 : decode cX7_planSet 5 = .ok (.invokevirtual 99, 3) := by decide +kernel
theorem dX7_planSet_8 : decode cX7_planSet 8 = .ok (.ifCond .ne 6, 3) := by decide +kernel
theorem dX7_planSet_11 : decode cX7_planSet 11 = .ok (.bipush (-2), 2) := by decide +kernel
theorem dX7_planSet_13 : decode cX7_planSet 13 = .ok (.ireturn, 1) := by decide +kernel
theorem dX7_planSet_14 : decode cX7_planSet 14 = .ok (.aload_n 0, 1) := by decide +kernel
theorem dX7_planSet_15 : decode cX7_planSet 15 = .ok (.getfield 49, 3) := by decide +kernel
theorem dX7_planSet_18 : decode cX7_planSet 18 = .ok (.invokevirtual 147, 3) := by decide +kernel
theorem dX7_planSet_21 : decode cX7_planSet 21 = .ok (.aload_n 0, 1) := by decide +kernel
theorem dX7_planSet_22 : decode cX7_planSet 22 = .ok (.getfield 49, 3) := by decide +kernel
theorem dX7_planSet_25 : decode cX7_planSet 25 = .ok (.getfield 159, 3) := by decide +kernel
theorem dX7_planSet_28 : decode cX7_planSet 28 = .ok (.iload_n 1, 1) := by decide +kernel
theorem dX7_planSet_29 : decode cX7_planSet 29 = .ok (.iaload, 1) := by decide +kernel
theorem dX7_planSet_30 : decode cX7_planSet 30 = .ok (.ireturn, 1) := by decide +kernel
set_option maxRecDepth 20000 in
theorem ggX7_setScore_X0_has : GoodIn wsX7_setScore wsX0_has := goodIn_r _ [6, 7, 28, 29, 30, 31, 32, 33, 34] (by decide +kernel) (by decide +kernel)
set_option maxRecDepth 20000 in
theorem gX7_setScore_X0_has : GoodIn wsX7_setScore (wsV RX7 99 RX0 yX0_has wsX0_has) := goodIn_app (goodIn_of _ (by decide +kernel)) ggX7_setScore_X0_has
set_option maxRecDepth 20000 in
theorem ggX7_setScore_X0_unrate : GoodIn wsX7_setScore wsX0_unrate := goodIn_r _ [11, 12, 13, 28, 29, 30, 31, 32, 33, 34] (by decide +kernel) (by decide +kernel)
set_option maxRecDepth 20000 in
theorem gX7_setScore_X0_unrate : GoodIn wsX7_setScore (wsV RX7 160 RX0 yX0_unrate wsX0_unrate) := goodIn_app (goodIn_of _ (by decide +kernel)) ggX7_setScore_X0_unrate
set_option maxRecDepth 20000 in
theorem ggX7_setScore_X0_rate : GoodIn wsX7_setScore wsX0_rate := goodIn_r _ [17, 12, 13, 28, 29, 30, 31, 32, 33, 34] (by decide +kernel) (by decide +kernel)
set_option maxRecDepth 20000 in
theorem gX7_setScore_X0_rate : GoodIn wsX7_setScore (wsV RX7 163 RX0 yX0_rate wsX0_rate) := goodIn_app (goodIn_of _ (by decide +kernel)) ggX7_setScore_X0_rate
theorem dX7_setScore_0 : decode cX7_setScore 0 = .ok (.aload_n 0, 1) := by decide +kernel
theorem dX7_setScore_1 : decode cX7_setScore 1 = .ok (.getfield 12, 3) := by decide +kernel
theorem dX7_setScore_4 : decode cX7_setScore 4 = .ok (.iload_n 1, 1) := by decide +kernel
theorem dX7_setScore_5 : decode cX7_setScore 5 = .ok (.invokevirtual 99, 3) := by decide +kernel
theorem dX7_setScore_8 : decode cX7_setScore 8 = .ok (.ifCond .ne 6, 3) := by decide +kernel
theorem dX7_setScore_11 : decode cX7_setScore 11 = .ok (.bipush (-2), 2) := by decide +kernel
theorem dX7_setScore_13 : decode cX7_setScore 13 = .ok (.ireturn, 1) := by decide +kernel
theorem dX7_setScore_14 : decode cX7_setScore 14 = .ok (.iload_n 2, 1) := by decide +kernel
theorem dX7_setScore_15 : decode cX7_setScore 15 = .ok (.ifCond .ne 17, 3) := by decide +kernel
theorem dX7_setScore_18 : decode cX7_setScore 18 = .ok (.iload_n 3, 1) := by decide +kernel
theorem dX7_setScore_19 : decode cX7_setScore 19 = .ok (.ifCond .ne 13, 3) := by decide +kernel
theorem dX7_setScore_22 : decode cX7_setScore 22 = .ok (.aload_n 0, 1) := by decide +kernel
theorem dX7_setScore_23 : decode cX7_setScore 23 = .ok (.getfield 12, 3) := by decide +kernel
theorem dX7_setScore_26 : decode cX7_setScore 26 = .ok (.iload_n 1, 1) := by decide +kernel
theorem dX7_setScore_27 : decode cX7_setScore 27 = .ok (.invokevirtual 160, 3) := by decide +kernel
theorem dX7_setScore_30 : decode cX7_setScore 30 = .ok (.iconst 0, 1) := by decide +kernel
theorem dX7_setScore_31 : decode cX7_setScore 31 = .ok (.ireturn, 1) := by decide +kernel
theorem dX7_setScore_32 : decode cX7_setScore 32 = .ok (.aload_n 0, 1) := by decide +kernel
theorem dX7_setScore_33 : decode cX7_setScore 33 = .ok (.getfield 12, 3) := by decide +kernel
theorem dX7_setScore_36 : decode cX7_setScore 36 = .ok (.iload_n 1, 1) := by decide +kernel
theorem dX7_setScore_37 : decode cX7_setScore 37 = .ok (.iload_n 2, 1) := by decide +kernel
theorem dX7_setScore_38 : decode cX7_setScore 38 = .ok (.i2d, 1) := by decide +kernel
theorem dX7_setScore_39 : decode cX7_setScore 39 = .ok (.iload_n 3, 1) := by decide +kernel
theorem dX7_setScore_40 : decode cX7_setScore 40 = .ok (.i2d, 1) := by decide +kernel
theorem dX7_setScore_41 : decode cX7_setScore 41 = .ok (.ddiv, 1) := by decide +kernel
theorem dX7_setScore_42 : decode cX7_setScore 42 = .ok (.invokevirtual 163, 3) := by decide +kernel
theorem dX7_setScore_45 : decode cX7_setScore 45 = .ok (.ifCond .eq 7, 3) := by decide +kernel
theorem dX7_setScore_48 : decode cX7_setScore 48 = .ok (.iconst 1, 1) := by decide +kernel
theorem dX7_setScore_49 : decode cX7_setScore 49 = .ok (.goto 4, 3) := by decide +kernel
theorem dX7_setScore_52 : decode cX7_setScore 52 = .ok (.iconst 0, 1) := by decide +kernel
theorem dX7_setScore_53 : decode cX7_setScore 53 = .ok (.ireturn, 1) := by decide +kernel
set_option maxRecDepth 20000 in
theorem ggX7_compareScores_X0_has : GoodIn wsX7_compareScores wsX0_has := goodIn_r _ [7, 8, 25, 26, 27, 28, 29, 30, 31] (by decide +kernel) (by decide +kernel)
set_option maxRecDepth 20000 in
theorem gX7_compareScores_X0_has : GoodIn wsX7_compareScores (wsV RX7 99 RX0 yX0_has wsX0_has) := goodIn_app (goodIn_of _ (by decide +kernel)) ggX7_compareScores_X0_has
set_option maxRecDepth 20000 in
theorem ggX7_compareScores_X0_isLess : GoodIn wsX7_compareScores wsX0_isLess := goodIn_r _ [12, 13, 14, 25, 26, 27, 28, 29, 30, 31] (by decide +kernel) (by decide +kernel)
set_option maxRecDepth 20000 in
theorem gX7_compareScores_X0_isLess : GoodIn wsX7_compareScores (wsV RX7 171 RX0 yX0_isLess wsX0_isLess) := goodIn_app (goodIn_of _ (by decide +kernel)) ggX7_compareScores_X0_isLess
theorem dX7_compareScores_0 : decode cX7_compareScores 0 = .ok (.aload_n 0, 1) := by decide +kernel
theorem dX7_compareScores_1 : decode cX7_compareScores 1 = .ok (.getfield 12, 3) := by decide +kernel
theorem dX7_compareScores_4 : decode cX7_compareScores 4 = .ok (.iload_n 1, 1) := by decide +kernel
theorem dX7_compareScores_5 : decode cX7_compareScores 5 = .ok (.invokevirtual 99, 3) := by decide +kernel
theorem dX7_compareScores_8 : decode cX7_compareScores 8 = .ok (.ifCond .eq 14, 3) := by decide +kernel
theorem dX7_compareScores_11 : decode cX7_compareScores 11 = .ok (.aload_n 0, 1) := by decide +kernel
theorem dX7_compareScores_12 : decode cX7_compareScores 12 = .ok (.getfield 12, 3) := by decide +kernel
theorem dX7_compareScores_15 : decode cX7_compareScores 15 = .ok (.iload_n 2, 1) := by decide +kernel
theorem dX7_compareScores_16 : decode cX7_compareScores 16 = .ok (.invokevirtual 99, 3) := by decide +kernel
theorem dX7_compareScores_19 : decode cX7_compareScores 19 = .ok (.ifCond .ne 6, 3) := by decide +kernel
theorem dX7_compareScores_22 : decode cX7_compareScores 22 = .ok (.bipush (-2), 2) := by decide +kernel
theorem dX7_compareScores_24 : decode cX7_compareScores 24 = .ok (.ireturn, 1) := by decide +kernel
theorem dX7_compareScores_25 : decode cX7_compareScores 25 = .ok (.aload_n 0, 1) := by decide +kernel
theorem dX7_compareScores_26 : decode cX7_compareScores 26 = .ok (.getfield 12, 3) := by decide +kernel
theorem dX7_compareScores_29 : decode cX7_compareScores 29 = .ok (.getfield 167, 3) := by decide +kernel
theorem dX7_compareScores_32 : decode cX7_compareScores 32 = .ok (.iload_n 1, 1) := by decide +kernel
theorem dX7_compareScores_33 : decode cX7_compareScores 33 = .ok (.baload, 1) := by decide +kernel
theorem dX7_compareScores_34 : decode cX7_compareScores 34 = .ok (.ifCond .eq 15, 3) := by decide +kernel
theorem dX7_compareScores_37 : decode cX7_compareScores 37 = .ok (.aload_n 0, 1) := by decide +kernel
theorem dX7_compareScores_38 : decode cX7_compareScores 38 = .ok (.getfield 12, 3) := by decide +kernel
theorem dX7_compareScores_41 : decode cX7_compareScores 41 = .ok (.getfield 167, 3) := by decide +kernel
theorem dX7_compareScores_44 : decode cX7_compareScores 44 = .ok (.iload_n 2, 1) := by decide +kernel
theorem dX7_compareScores_45 : decode cX7_compareScores 45 = .ok (.baload, 1) := by decide +kernel
theorem dX7_compareScores_46 : decode cX7_compareScores 46 = .ok (.ifCond .ne 5, 3) := by decide +kernel
theorem dX7_compareScores_49 : decode cX7_compareScores 49 = .ok (.iconst 3, 1) := by decide +kernel
theorem dX7_compareScores_50 : decode cX7_compareScores 50 = .ok (.ireturn, 1) := by decide +kernel
theorem dX7_compareScores_51 : decode cX7_compareScores 51 = .ok (.aload_n 0, 1) := by decide +kernel
theorem dX7_compareScores_52 : decode cX7_compareScores 52 = .ok (.getfield 12, 3) := by decide +kernel
theorem dX7_compareScores_55 : decode cX7_compareScores 55 = .ok (.iload_n 1, 1) := by decide +kernel
theorem dX7_compareScores_56 : decode cX7_compareScores 56 = .ok (.iload_n 2, 1) := by decide +kernel
theorem dX7_compareScores_57 : decode cX7_compareScores 57 = .ok (.invokevirtual 171, 3) := by decide +kernel
theorem dX7_compareScores_60 : decode cX7_compareScores 60 = .ok (.ifCond .eq 5, 3) := by decide +kernel
theorem dX7_compareScores_63 : decode cX7_compareScores 63 = .ok (.iconst 0, 1) := by decide +kernel
theorem dX7_compareScores_64 : decode cX7_compareScores 64 = .ok (.ireturn, 1) := by decide +kernel
theorem dX7_compareScores_65 : decode cX7_compareScores 65 = .ok (.aload_n 0, 1) := by decide +kernel
theorem dX7_compareScores_66 : decode cX7_compareScores 66 = .ok (.getfield 12, 3) := by decide +kernel
theorem dX7_compareScores_69 : decode cX7_compareScores 69 = .ok (.iload_n 2, 1) := by decide +kernel
theorem dX7_compareScores_70 : decode cX7_compareScores 70 = .ok (.iload_n 1, 1) := by decide +kernel
theorem dX7_compareScores_71 : decode cX7_compareScores 71 = .ok (.invokevirtual 171, 3) := by decide +kernel
theorem dX7_compareScores_74 : decode cX7_compareScores 74 = .ok (.ifCond .eq 7, 3) := by decide +kernel
theorem dX7_compareScores_77 : decode cX7_compareScores 77 = .ok (.iconst 2, 1) := by decide +kernel
theorem dX7_compareScores_78 : decode cX7_compareScores 78 = .ok (.goto 4, 3) := by decide +kernel
theorem dX7_compareScores_81 : decode cX7_compareScores 81 = .ok (.iconst 1, 1) := by decide +kernel
theorem dX7_compareScores_82 : decode cX7_compareScores 82 = .ok (.ireturn, 1) := by decide +kernel
set_option maxRecDepth 20000 in
theorem ggX7_preferenceSet_X0_has : GoodIn wsX7_preferenceSet wsX0_has := goodIn_r _ [8, 9, 71, 72, 73, 74, 75, 76, 77] (by decide +kernel) (by decide +kernel)
set_option maxRecDepth 20000 in
theorem gX7_preferenceSet_X0_has : GoodIn wsX7_preferenceSet (wsV RX7 99 RX0 yX0_has wsX0_has) := goodIn_app (goodIn_of _ (by decide +kernel)) ggX7_preferenceSet_X0_has
set_option maxRecDepth 20000 in
theorem ggX7_preferenceSet_X0_others : GoodIn wsX7_preferenceSet wsX0_others := goodIn_r _ [13, 14, 15, 16, 7, 17, 9, 71, 72, 73, 74, 75, 76, 77] (by decide +kernel) (by decide +kernel)
set_option maxRecDepth 20000 in
theorem gX7_preferenceSet_X0_others : GoodIn wsX7_preferenceSet (wsV RX7 115 RX0 yX0_others wsX0_others) := goodIn_app (goodIn_of _ (by decide +kernel)) ggX7_preferenceSet_X0_others
set_option maxRecDepth 20000 in
theorem ggX7_preferenceSet_X0_isLess : GoodIn wsX7_preferenceSet wsX0_isLess := goodIn_r _ [21, 22, 23, 71, 72, 73, 74, 75, 76, 77] (by decide +kernel) (by decide +kernel)
set_option maxRecDepth 20000 in
theorem gX7_preferenceSet_X0_isLess : GoodIn wsX7_preferenceSet (wsV RX7 171 RX0 yX0_isLess wsX0_isLess) := goodIn_app (goodIn_of _ (by decide +kernel)) ggX7_preferenceSet_X0_isLess
set_option maxRecDepth 20000 in
theorem ggX7_preferenceSet_X4_smallest : GoodIn wsX7_preferenceSet wsX4_smallest := goodIn_r _ [28, 29, 30, 31, 32, 33, 27, 34, 35, 36, 37, 38, 7, 39, 40, 41, 42, 43, 44, 45, 46, 47, 48, 14, 15, 16, 17, 9, 49, 50, 51, 52, 53, 54, 55, 56, 57, 58, 59, 60, 78, 79, 71, 72, 73, 74, 75, 76, 77] (by decide +kernel) (by decide +kernel)
set_option maxRecDepth 20000 in
theorem gX7_preferenceSet_X4_smallest : GoodIn wsX7_preferenceSet (wsV RX7 122 RX4 yX4_smallest wsX4_smallest) := goodIn_app (goodIn_of _ (by decide +kernel)) ggX7_preferenceSet_X4_smallest
theorem dX7_preferenceSet_0 : decode cX7_preferenceSet 0 = .ok (.aload_n 0, 1) := by decide +kernel
theorem dX7_preferenceSet_1 : decode cX7_preferenceSet 1 = .ok (.getfield 12, 3) := by decide +kernel
theorem dX7_preferenceSet_4 : decode cX7_preferenceSet 4 = .ok (.iload_n 1, 1) := by decide +kernel
theorem dX7_preferenceSet_5 : decode cX7_preferenceSet 5 = .ok (.invokevirtual 99, 3) := by decide +kernel
theorem dX7_preferenceSet_8 : decode cX7_preferenceSet 8 = .ok (.ifCond .ne 6, 3) := by decide +kernel
theorem dX7_preferenceSet_11 : decode cX7_preferenceSet 11 = .ok (.bipush (-2), 2) := by decide +kernel
theorem dX7_preferenceSet_13 : decode cX7_preferenceSet 13 = .ok (.ireturn, 1) := by decide +kernel
theorem dX7_preferenceSet_14 : decode cX7_preferenceSet 14 = .ok (.aload_n 0, 1) := by decide +kernel
theorem dX7_preferenceSet_15 : decode cX7_preferenceSet 15 = .ok (.getfield 12, 3) := by decide +kernel
theorem dX7_preferenceSet_18 : decode cX7_preferenceSet 18 = .ok (.iload_n 1, 1) := by decide +kernel
theorem dX7_preferenceSet_19 : decode cX7_preferenceSet 19 = .ok (.invokevirtual 115, 3) := by decide +kernel
theorem dX7_preferenceSet_22 : decode cX7_preferenceSet 22 = .ok (.istore_n 2, 1) := by decide +kernel
theorem dX7_preferenceSet_23 : decode cX7_preferenceSet 23 = .ok (.iconst 0, 1) := by decide +kernel
theorem dX7_preferenceSet_24 : decode cX7_preferenceSet 24 = .ok (.istore_n 3, 1) := by decide +kernel
theorem dX7_preferenceSet_25 : decode cX7_preferenceSet 25 = .ok (.iload_n 3, 1) := by decide +kernel
theorem dX7_preferenceSet_26 : decode cX7_preferenceSet 26 = .ok (.aload_n 0, 1) := by decide +kernel
theorem dX7_preferenceSet_27 : decode cX7_preferenceSet 27 = .ok (.getfield 12, 3) := by decide +kernel
theorem dX7_preferenceSet_30 : decode cX7_preferenceSet 30 = .ok (.getfield 96, 3) := by decide +kernel
theorem dX7_preferenceSet_33 : decode cX7_preferenceSet 33 = .ok (.if_icmp .ge 29, 3) := by decide +kernel
theorem dX7_preferenceSet_36 : decode cX7_preferenceSet 36 = .ok (.aload_n 0, 1) := by decide +kernel
theorem dX7_preferenceSet_37 : decode cX7_preferenceSet 37 = .ok (.getfield 12, 3) := by decide +kernel
theorem dX7_preferenceSet_40 : decode cX7_preferenceSet 40 = .ok (.iload_n 3, 1) := by decide +kernel
theorem dX7_preferenceSet_41 : decode cX7_preferenceSet 41 = .ok (.iload_n 1, 1) := by decide +kernel
theorem dX7_preferenceSet_42 : decode cX7_preferenceSet 42 = .ok (.invokevirtual 171, 3) := by decide +kernel
theorem dX7_preferenceSet_45 : decode cX7_preferenceSet 45 = .ok (.ifCond .eq 11, 3) := by decide +kernel
theorem dX7_preferenceSet_48 : decode cX7_preferenceSet 48 = .ok (.iload_n 2, 1) := by decide +kernel
theorem dX7_preferenceSet_49 : decode cX7_preferenceSet 49 = .ok (.iconst 1, 1) := by decide +kernel
theorem dX7_preferenceSet_50 : decode cX7_preferenceSet 50 = .ok (.iload_n 3, 1) := by decide +kernel
theorem dX7_preferenceSet_51 : decode cX7_preferenceSet 51 = .ok (.ishl, 1) := by decide +kernel
theorem dX7_preferenceSet_52 : decode cX7_preferenceSet 52 = .ok (.iconst (-1), 1) := by decide +kernel
theorem dX7_preferenceSet_53 : decode cX7_preferenceSet 53 = .ok (.ixor, 1) := by decide +kernel
theorem dX7_preferenceSet_54 : decode cX7_preferenceSet 54 = .ok (.iand, 1) := by decide +kernel
theorem dX7_preferenceSet_55 : decode cX7_preferenceSet 55 = .ok (.istore_n 2, 1) := by decide +kernel
theorem dX7_preferenceSet_56 : decode cX7_preferenceSet 56 = .ok (.iinc 3 1, 3) := by decide +kernel
theorem dX7_preferenceSet_59 : decode cX7_preferenceSet 59 = .ok (.goto (-34), 3) := by decide +kernel
theorem dX7_preferenceSet_62 : decode cX7_preferenceSet 62 = .ok (.aload_n 0, 1) := by decide +kernel
theorem dX7_preferenceSet_63 : decode cX7_preferenceSet 63 = .ok (.getfield 40, 3) := by decide +kernel
theorem dX7_preferenceSet_66 : decode cX7_preferenceSet 66 = .ok (.iload_n 1, 1) := by decide +kernel
theorem dX7_preferenceSet_67 : decode cX7_preferenceSet 67 = .ok (.iload_n 2, 1) := by decide +kernel
theorem dX7_preferenceSet_68 : decode cX7_preferenceSet 68 = .ok (.invokevirtual 122, 3) := by decide +kernel
theorem dX7_preferenceSet_71 : decode cX7_preferenceSet 71 = .ok (.ireturn, 1) := by decide +kernel
set_option maxRecDepth 20000 in
theorem ggX7_traceCount_X0_isSet : GoodIn wsX7_traceCount wsX0_isSet := goodIn_r _ [7, 8, 9, 10, 6, 11, 12, 43, 44, 45, 46, 47, 48, 49] (by decide +kernel) (by decide +kernel)
set_option maxRecDepth 20000 in
theorem gX7_traceCount_X0_isSet : GoodIn wsX7_traceCount (wsV RX7 85 RX0 yX0_isSet wsX0_isSet) := goodIn_app (goodIn_of _ (by decide +kernel)) ggX7_traceCount_X0_isSet
set_option maxRecDepth 20000 in
theorem ggX7_traceCount_X6_countOn : GoodIn wsX7_traceCount wsX6_countOn := goodIn_r _ [17, 18, 19, 20, 21, 22, 23, 24, 25, 26, 27, 28, 29, 30, 31, 32, 50, 51, 43, 44, 45, 46, 47, 48, 49] (by decide +kernel) (by decide +kernel)
set_option maxRecDepth 20000 in
theorem gX7_traceCount_X6_countOn : GoodIn wsX7_traceCount (wsV RX7 175 RX6 yX6_countOn wsX6_countOn) := goodIn_app (goodIn_of _ (by decide +kernel)) ggX7_traceCount_X6_countOn
theorem dX7_traceCount_0 : decode cX7_traceCount 0 = .ok (.aload_n 0, 1) := by decide +kernel
theorem dX7_traceCount_1 : decode cX7_traceCount 1 = .ok (.getfield 12, 3) := by decide +kernel
theorem dX7_traceCount_4 : decode cX7_traceCount 4 = .ok (.iload_n 1, 1) := by decide +kernel
theorem dX7_traceCount_5 : decode cX7_traceCount 5 = .ok (.invokevirtual 85, 3) := by decide +kernel
theorem dX7_traceCount_8 : decode cX7_traceCount 8 = .ok (.ifCond .eq 14, 3) := by decide +kernel
theorem dX7_traceCount_11 : decode cX7_traceCount 11 = .ok (.aload_n 0, 1) := by decide +kernel
theorem dX7_traceCount_12 : decode cX7_traceCount 12 = .ok (.getfield 56, 3) := by decide +kernel
theorem dX7_traceCount_15 : decode cX7_traceCount 15 = .ok (.iload_n 1, 1) := by decide +kernel
theorem dX7_traceCount_16 : decode cX7_traceCount 16 = .ok (.invokevirtual 175, 3) := by decide +kernel
theorem dX7_traceCount_19 : decode cX7_traceCount 19 = .ok (.goto 4, 3) := by decide +kernel
theorem dX7_traceCount_22 : decode cX7_traceCount 22 = .ok (.iconst (-1), 1) := by decide +kernel
theorem dX7_traceCount_23 : decode cX7_traceCount 23 = .ok (.ireturn, 1) := by decide +kernel
set_option maxRecDepth 20000 in
theorem ggX7_dimension_X0_allPoints : GoodIn wsX7_dimension wsX0_allPoints := goodIn_r _ [7, 8, 51, 52, 53, 54, 55, 56, 57] (by decide +kernel) (by decide +kernel)
set_option maxRecDepth 20000 in
theorem gX7_dimension_X0_allPoints : GoodIn wsX7_dimension (wsV RX7 178 RX0 yX0_allPoints wsX0_allPoints) := goodIn_app (goodIn_of _ (by decide +kernel)) ggX7_dimension_X0_allPoints
set_option maxRecDepth 20000 in
theorem ggX7_dimension_J6_bitCount_0f7a4 : GoodIn wsX7_dimension wsJ6_bitCount_0f7a4 := goodIn_r _ [12, 13, 14, 15] (by decide +kernel) (by decide +kernel)
set_option maxRecDepth 20000 in
theorem gX7_dimension_J6_bitCount_0f7a4 : GoodIn wsX7_dimension (va_wsS RX7 182 yJ6_bitCount_0f7a4 wsJ6_bitCount_0f7a4) := goodIn_app (goodIn_of _ (by decide +kernel)) ggX7_dimension_J6_bitCount_0f7a4
set_option maxRecDepth 20000 in
theorem ggX7_dimension_X6_shatter : GoodIn wsX7_dimension wsX6_shatter := goodIn_r _ [20, 21, 22, 23, 10, 11, 12, 13, 14, 15, 24, 25, 26, 19, 27, 28, 29, 30, 31, 32, 33, 34, 35, 36, 37, 38, 39, 40, 58, 59, 51, 52, 53, 54, 55, 56, 57] (by decide +kernel) (by decide +kernel)
set_option maxRecDepth 20000 in
theorem gX7_dimension_X6_shatter : GoodIn wsX7_dimension (wsV RX7 187 RX6 yX6_shatter wsX6_shatter) := goodIn_app (goodIn_of _ (by decide +kernel)) ggX7_dimension_X6_shatter
theorem dX7_dimension_0 : decode cX7_dimension 0 = .ok (.iconst (-1), 1) := by decide +kernel
theorem dX7_dimension_1 : decode cX7_dimension 1 = .ok (.istore_n 1, 1) := by decide +kernel
theorem dX7_dimension_2 : decode cX7_dimension 2 = .ok (.iconst 0, 1) := by decide +kernel
theorem dX7_dimension_3 : decode cX7_dimension 3 = .ok (.istore_n 2, 1) := by decide +kernel
theorem dX7_dimension_4 : decode cX7_dimension 4 = .ok (.iload_n 2, 1) := by decide +kernel
theorem dX7_dimension_5 : decode cX7_dimension 5 = .ok (.aload_n 0, 1) := by decide +kernel
theorem dX7_dimension_6 : decode cX7_dimension 6 = .ok (.getfield 12, 3) := by decide +kernel
theorem dX7_dimension_9 : decode cX7_dimension 9 = .ok (.invokevirtual 178, 3) := by decide +kernel
theorem dX7_dimension_12 : decode cX7_dimension 12 = .ok (.if_icmp .gt 32, 3) := by decide +kernel
theorem dX7_dimension_15 : decode cX7_dimension 15 = .ok (.iload_n 2, 1) := by decide +kernel
theorem dX7_dimension_16 : decode cX7_dimension 16 = .ok (.invokestatic 182, 3) := by decide +kernel
theorem dX7_dimension_19 : decode cX7_dimension 19 = .ok (.istore_n 3, 1) := by decide +kernel
theorem dX7_dimension_20 : decode cX7_dimension 20 = .ok (.iload_n 3, 1) := by decide +kernel
theorem dX7_dimension_21 : decode cX7_dimension 21 = .ok (.iload_n 1, 1) := by decide +kernel
theorem dX7_dimension_22 : decode cX7_dimension 22 = .ok (.if_icmp .le 16, 3) := by decide +kernel
theorem dX7_dimension_25 : decode cX7_dimension 25 = .ok (.aload_n 0, 1) := by decide +kernel
theorem dX7_dimension_26 : decode cX7_dimension 26 = .ok (.getfield 56, 3) := by decide +kernel
theorem dX7_dimension_29 : decode cX7_dimension 29 = .ok (.iload_n 2, 1) := by decide +kernel
theorem dX7_dimension_30 : decode cX7_dimension 30 = .ok (.invokevirtual 187, 3) := by decide +kernel
theorem dX7_dimension_33 : decode cX7_dimension 33 = .ok (.ifCond .eq 5, 3) := by decide +kernel
theorem dX7_dimension_36 : decode cX7_dimension 36 = .ok (.iload_n 3, 1) := by decide +kernel
theorem dX7_dimension_37 : decode cX7_dimension 37 = .ok (.istore_n 1, 1) := by decide +kernel
theorem dX7_dimension_38 : decode cX7_dimension 38 = .ok (.iinc 2 1, 3) := by decide +kernel
theorem dX7_dimension_41 : decode cX7_dimension 41 = .ok (.goto (-37), 3) := by decide +kernel
theorem dX7_dimension_44 : decode cX7_dimension 44 = .ok (.iload_n 1, 1) := by decide +kernel
theorem dX7_dimension_45 : decode cX7_dimension 45 = .ok (.ireturn, 1) := by decide +kernel
set_option maxRecDepth 20000 in
theorem ggX7_shatteredSet_X0_isSize : GoodIn wsX7_shatteredSet wsX0_isSize := goodIn_r _ [7, 8, 55, 56, 57, 58, 59, 60, 61] (by decide +kernel) (by decide +kernel)
set_option maxRecDepth 20000 in
theorem gX7_shatteredSet_X0_isSize : GoodIn wsX7_shatteredSet (wsV RX7 126 RX0 yX0_isSize wsX0_isSize) := goodIn_app (goodIn_of _ (by decide +kernel)) ggX7_shatteredSet_X0_isSize
set_option maxRecDepth 20000 in
theorem ggX7_shatteredSet_X0_allPoints : GoodIn wsX7_shatteredSet wsX0_allPoints := goodIn_r _ [12, 8, 55, 56, 57, 58, 59, 60, 61] (by decide +kernel) (by decide +kernel)
set_option maxRecDepth 20000 in
theorem gX7_shatteredSet_X0_allPoints : GoodIn wsX7_shatteredSet (wsV RX7 178 RX0 yX0_allPoints wsX0_allPoints) := goodIn_app (goodIn_of _ (by decide +kernel)) ggX7_shatteredSet_X0_allPoints
set_option maxRecDepth 20000 in
theorem ggX7_shatteredSet_J6_bitCount_0f7a4 : GoodIn wsX7_shatteredSet wsJ6_bitCount_0f7a4 := goodIn_r _ [16, 17, 18, 19] (by decide +kernel) (by decide +kernel)
set_option maxRecDepth 20000 in
theorem gX7_shatteredSet_J6_bitCount_0f7a4 : GoodIn wsX7_shatteredSet (va_wsS RX7 182 yJ6_bitCount_0f7a4 wsJ6_bitCount_0f7a4) := goodIn_app (goodIn_of _ (by decide +kernel)) ggX7_shatteredSet_J6_bitCount_0f7a4
set_option maxRecDepth 20000 in
theorem ggX7_shatteredSet_X6_shatter : GoodIn wsX7_shatteredSet wsX6_shatter := goodIn_r _ [24, 25, 26, 27, 14, 15, 16, 17, 18, 19, 28, 29, 30, 23, 31, 32, 33, 34, 35, 36, 37, 38, 39, 40, 41, 42, 43, 44, 62, 63, 55, 56, 57, 58, 59, 60, 61] (by decide +kernel) (by decide +kernel)
set_option maxRecDepth 20000 in
theorem gX7_shatteredSet_X6_shatter : GoodIn wsX7_shatteredSet (wsV RX7 187 RX6 yX6_shatter wsX6_shatter) := goodIn_app (goodIn_of _ (by decide +kernel)) ggX7_shatteredSet_X6_shatter
theorem dX7_shatteredSet_0 : decode cX7_shatteredSet 0 = .ok (.aload_n 0, 1) := by decide +kernel
theorem dX7_shatteredSet_1 : decode cX7_shatteredSet 1 = .ok (.getfield 12, 3) := by decide +kernel
theorem dX7_shatteredSet_4 : decode cX7_shatteredSet 4 = .ok (.iload_n 1, 1) := by decide +kernel
theorem dX7_shatteredSet_5 : decode cX7_shatteredSet 5 = .ok (.invokevirtual 126, 3) := by decide +kernel
theorem dX7_shatteredSet_8 : decode cX7_shatteredSet 8 = .ok (.ifCond .ne 5, 3) := by decide +kernel
theorem dX7_shatteredSet_11 : decode cX7_shatteredSet 11 = .ok (.iconst (-1), 1) := by decide +kernel
theorem dX7_shatteredSet_12 : decode cX7_shatteredSet 12 = .ok (.ireturn, 1) := by decide +kernel
theorem dX7_shatteredSet_13 : decode cX7_shatteredSet 13 = .ok (.iconst 0, 1) := by decide +kernel
theorem dX7_shatteredSet_14 : decode cX7_shatteredSet 14 = .ok (.istore_n 2, 1) := by decide +kernel
theorem dX7_shatteredSet_15 : decode cX7_shatteredSet 15 = .ok (.iload_n 2, 1) := by decide +kernel
theorem dX7_shatteredSet_16 : decode cX7_shatteredSet 16 = .ok (.aload_n 0, 1) := by decide +kernel
theorem dX7_shatteredSet_17 : decode cX7_shatteredSet 17 = .ok (.getfield 12, 3) := by decide +kernel
theorem dX7_shatteredSet_20 : decode cX7_shatteredSet 20 = .ok (.invokevirtual 178, 3) := by decide +kernel
theorem dX7_shatteredSet_23 : decode cX7_shatteredSet 23 = .ok (.if_icmp .gt 30, 3) := by decide +kernel
theorem dX7_shatteredSet_26 : decode cX7_shatteredSet 26 = .ok (.iload_n 2, 1) := by decide +kernel
theorem dX7_shatteredSet_27 : decode cX7_shatteredSet 27 = .ok (.invokestatic 182, 3) := by decide +kernel
theorem dX7_shatteredSet_30 : decode cX7_shatteredSet 30 = .ok (.iload_n 1, 1) := by decide +kernel
theorem dX7_shatteredSet_31 : decode cX7_shatteredSet 31 = .ok (.if_icmp .ne 16, 3) := by decide +kernel
theorem dX7_shatteredSet_34 : decode cX7_shatteredSet 34 = .ok (.aload_n 0, 1) := by decide +kernel
theorem dX7_shatteredSet_35 : decode cX7_shatteredSet 35 = .ok (.getfield 56, 3) := by decide +kernel
theorem dX7_shatteredSet_38 : decode cX7_shatteredSet 38 = .ok (.iload_n 2, 1) := by decide +kernel
theorem dX7_shatteredSet_39 : decode cX7_shatteredSet 39 = .ok (.invokevirtual 187, 3) := by decide +kernel
theorem dX7_shatteredSet_42 : decode cX7_shatteredSet 42 = .ok (.ifCond .eq 5, 3) := by decide +kernel
theorem dX7_shatteredSet_45 : decode cX7_shatteredSet 45 = .ok (.iload_n 2, 1) := by decide +kernel
theorem dX7_shatteredSet_46 : decode cX7_shatteredSet 46 = .ok (.ireturn, 1) := by decide +kernel
theorem dX7_shatteredSet_47 : decode cX7_shatteredSet 47 = .ok (.iinc 2 1, 3) := by decide +kernel
theorem dX7_shatteredSet_50 : decode cX7_shatteredSet 50 = .ok (.goto (-35), 3) := by decide +kernel
theorem dX7_shatteredSet_53 : decode cX7_shatteredSet 53 = .ok (.bipush (-6), 2) := by decide +kernel
theorem dX7_shatteredSet_55 : decode cX7_shatteredSet 55 = .ok (.ireturn, 1) := by decide +kernel
set_option maxRecDepth 20000 in
theorem ggX7_shatteredCount_X0_isSize : GoodIn wsX7_shatteredCount wsX0_isSize := goodIn_r _ [7, 8, 55, 56, 57, 58, 59, 60, 61] (by decide +kernel) (by decide +kernel)
set_option maxRecDepth 20000 in
theorem gX7_shatteredCount_X0_isSize : GoodIn wsX7_shatteredCount (wsV RX7 126 RX0 yX0_isSize wsX0_isSize) := goodIn_app (goodIn_of _ (by decide +kernel)) ggX7_shatteredCount_X0_isSize
set_option maxRecDepth 20000 in
theorem ggX7_shatteredCount_X0_allPoints : GoodIn wsX7_shatteredCount wsX0_allPoints := goodIn_r _ [12, 8, 55, 56, 57, 58, 59, 60, 61] (by decide +kernel) (by decide +kernel)
set_option maxRecDepth 20000 in
theorem gX7_shatteredCount_X0_allPoints : GoodIn wsX7_shatteredCount (wsV RX7 178 RX0 yX0_allPoints wsX0_allPoints) := goodIn_app (goodIn_of _ (by decide +kernel)) ggX7_shatteredCount_X0_allPoints
set_option maxRecDepth 20000 in
theorem ggX7_shatteredCount_J6_bitCount_0f7a4 : GoodIn wsX7_shatteredCount wsJ6_bitCount_0f7a4 := goodIn_r _ [16, 17, 18, 19] (by decide +kernel) (by decide +kernel)
set_option maxRecDepth 20000 in
theorem gX7_shatteredCount_J6_bitCount_0f7a4 : GoodIn wsX7_shatteredCount (va_wsS RX7 182 yJ6_bitCount_0f7a4 wsJ6_bitCount_0f7a4) := goodIn_app (goodIn_of _ (by decide +kernel)) ggX7_shatteredCount_J6_bitCount_0f7a4
set_option maxRecDepth 20000 in
theorem ggX7_shatteredCount_X6_shatter : GoodIn wsX7_shatteredCount wsX6_shatter := goodIn_r _ [24, 25, 26, 27, 14, 15, 16, 17, 18, 19, 28, 29, 30, 23, 31, 32, 33, 34, 35, 36, 37, 38, 39, 40, 41, 42, 43, 44, 62, 63, 55, 56, 57, 58, 59, 60, 61] (by decide +kernel) (by decide +kernel)
set_option maxRecDepth 20000 in
theorem gX7_shatteredCount_X6_shatter : GoodIn wsX7_shatteredCount (wsV RX7 187 RX6 yX6_shatter wsX6_shatter) := goodIn_app (goodIn_of _ (by decide +kernel)) ggX7_shatteredCount_X6_shatter
theorem dX7_shatteredCount_0 : decode cX7_shatteredCount 0 = .ok (.aload_n 0, 1) := by decide +kernel
theorem dX7_shatteredCount_1 : decode cX7_shatteredCount 1 = .ok (.getfield 12, 3) := by decide +kernel
theorem dX7_shatteredCount_4 : decode cX7_shatteredCount 4 = .ok (.iload_n 1, 1) := by decide +kernel
theorem dX7_shatteredCount_5 : decode cX7_shatteredCount 5 = .ok (.invokevirtual 126, 3) := by decide +kernel
theorem dX7_shatteredCount_8 : decode cX7_shatteredCount 8 = .ok (.ifCond .ne 5, 3) := by decide +kernel
theorem dX7_shatteredCount_11 : decode cX7_shatteredCount 11 = .ok (.iconst (-1), 1) := by decide +kernel
theorem dX7_shatteredCount_12 : decode cX7_shatteredCount 12 = .ok (.ireturn, 1) := by decide +kernel
theorem dX7_shatteredCount_13 : decode cX7_shatteredCount 13 = .ok (.iconst 0, 1) := by decide +kernel
theorem dX7_shatteredCount_14 : decode cX7_shatteredCount 14 = .ok (.istore_n 2, 1) := by decide +kernel
theorem dX7_shatteredCount_15 : decode cX7_shatteredCount 15 = .ok (.iconst 0, 1) := by decide +kernel
theorem dX7_shatteredCount_16 : decode cX7_shatteredCount 16 = .ok (.istore_n 3, 1) := by decide +kernel
theorem dX7_shatteredCount_17 : decode cX7_shatteredCount 17 = .ok (.iload_n 3, 1) := by decide +kernel
theorem dX7_shatteredCount_18 : decode cX7_shatteredCount 18 = .ok (.aload_n 0, 1) := by decide +kernel
theorem dX7_shatteredCount_19 : decode cX7_shatteredCount 19 = .ok (.getfield 12, 3) := by decide +kernel
theorem dX7_shatteredCount_22 : decode cX7_shatteredCount 22 = .ok (.invokevirtual 178, 3) := by decide +kernel
theorem dX7_shatteredCount_25 : decode cX7_shatteredCount 25 = .ok (.if_icmp .gt 31, 3) := by decide +kernel
theorem dX7_shatteredCount_28 : decode cX7_shatteredCount 28 = .ok (.iload_n 3, 1) := by decide +kernel
theorem dX7_shatteredCount_29 : decode cX7_shatteredCount 29 = .ok (.invokestatic 182, 3) := by decide +kernel
theorem dX7_shatteredCount_32 : decode cX7_shatteredCount 32 = .ok (.iload_n 1, 1) := by decide +kernel
theorem dX7_shatteredCount_33 : decode cX7_shatteredCount 33 = .ok (.if_icmp .ne 17, 3) := by decide +kernel
theorem dX7_shatteredCount_36 : decode cX7_shatteredCount 36 = .ok (.aload_n 0, 1) := by decide +kernel
theorem dX7_shatteredCount_37 : decode cX7_shatteredCount 37 = .ok (.getfield 56, 3) := by decide +kernel
theorem dX7_shatteredCount_40 : decode cX7_shatteredCount 40 = .ok (.iload_n 3, 1) := by decide +kernel
theorem dX7_shatteredCount_41 : decode cX7_shatteredCount 41 = .ok (.invokevirtual 187, 3) := by decide +kernel
theorem dX7_shatteredCount_44 : decode cX7_shatteredCount 44 = .ok (.ifCond .eq 6, 3) := by decide +kernel
theorem dX7_shatteredCount_47 : decode cX7_shatteredCount 47 = .ok (.iinc 2 1, 3) := by decide +kernel
theorem dX7_shatteredCount_50 : decode cX7_shatteredCount 50 = .ok (.iinc 3 1, 3) := by decide +kernel
theorem dX7_shatteredCount_53 : decode cX7_shatteredCount 53 = .ok (.goto (-36), 3) := by decide +kernel
theorem dX7_shatteredCount_56 : decode cX7_shatteredCount 56 = .ok (.iload_n 2, 1) := by decide +kernel
theorem dX7_shatteredCount_57 : decode cX7_shatteredCount 57 = .ok (.ireturn, 1) := by decide +kernel
set_option maxRecDepth 20000 in
theorem ggX7_growth_X0_isSize : GoodIn wsX7_growth wsX0_isSize := goodIn_r _ [11, 12, 54, 55, 56, 57, 58, 59, 60] (by decide +kernel) (by decide +kernel)
set_option maxRecDepth 20000 in
theorem gX7_growth_X0_isSize : GoodIn wsX7_growth (wsV RX7 126 RX0 yX0_isSize wsX0_isSize) := goodIn_app (goodIn_of _ (by decide +kernel)) ggX7_growth_X0_isSize
set_option maxRecDepth 20000 in
theorem ggX7_growth_X0_allPoints : GoodIn wsX7_growth wsX0_allPoints := goodIn_r _ [16, 12, 54, 55, 56, 57, 58, 59, 60] (by decide +kernel) (by decide +kernel)
set_option maxRecDepth 20000 in
theorem gX7_growth_X0_allPoints : GoodIn wsX7_growth (wsV RX7 178 RX0 yX0_allPoints wsX0_allPoints) := goodIn_app (goodIn_of _ (by decide +kernel)) ggX7_growth_X0_allPoints
set_option maxRecDepth 20000 in
theorem ggX7_growth_J6_bitCount_0f7a4 : GoodIn wsX7_growth wsJ6_bitCount_0f7a4 := goodIn_r _ [20, 21, 22, 23] (by decide +kernel) (by decide +kernel)
set_option maxRecDepth 20000 in
theorem gX7_growth_J6_bitCount_0f7a4 : GoodIn wsX7_growth (va_wsS RX7 182 yJ6_bitCount_0f7a4 wsJ6_bitCount_0f7a4) := goodIn_app (goodIn_of _ (by decide +kernel)) ggX7_growth_J6_bitCount_0f7a4
set_option maxRecDepth 20000 in
theorem ggX7_growth_X6_countOn : GoodIn wsX7_growth wsX6_countOn := goodIn_r _ [28, 29, 30, 31, 32, 33, 34, 35, 36, 37, 38, 39, 40, 41, 42, 43, 61, 62, 54, 55, 56, 57, 58, 59, 60] (by decide +kernel) (by decide +kernel)
set_option maxRecDepth 20000 in
theorem gX7_growth_X6_countOn : GoodIn wsX7_growth (wsV RX7 175 RX6 yX6_countOn wsX6_countOn) := goodIn_app (goodIn_of _ (by decide +kernel)) ggX7_growth_X6_countOn
theorem dX7_growth_0 : decode cX7_growth 0 = .ok (.aload_n 0, 1) := by decide +kernel
theorem dX7_growth_1 : decode cX7_growth 1 = .ok (.getfield 12, 3) := by decide +kernel
theorem dX7_growth_4 : decode cX7_growth 4 = .ok (.iload_n 1, 1) := by decide +kernel
theorem dX7_growth_5 : decode cX7_growth 5 = .ok (.invokevirtual 126, 3) := by decide +kernel
theorem dX7_growth_8 : decode cX7_growth 8 = .ok (.ifCond .ne 5, 3) := by decide +kernel
theorem dX7_growth_11 : decode cX7_growth 11 = .ok (.iconst (-1), 1) := by decide +kernel
theorem dX7_growth_12 : decode cX7_growth 12 = .ok (.ireturn, 1) := by decide +kernel
theorem dX7_growth_13 : decode cX7_growth 13 = .ok (.iconst 0, 1) := by decide +kernel
theorem dX7_growth_14 : decode cX7_growth 14 = .ok (.istore_n 2, 1) := by decide +kernel
theorem dX7_growth_15 : decode cX7_growth 15 = .ok (.iconst 0, 1) := by decide +kernel
theorem dX7_growth_16 : decode cX7_growth 16 = .ok (.istore_n 3, 1) := by decide +kernel
theorem dX7_growth_17 : decode cX7_growth 17 = .ok (.iload_n 3, 1) := by decide +kernel
theorem dX7_growth_18 : decode cX7_growth 18 = .ok (.aload_n 0, 1) := by decide +kernel
theorem dX7_growth_19 : decode cX7_growth 19 = .ok (.getfield 12, 3) := by decide +kernel
theorem dX7_growth_22 : decode cX7_growth 22 = .ok (.invokevirtual 178, 3) := by decide +kernel
theorem dX7_growth_25 : decode cX7_growth 25 = .ok (.if_icmp .gt 30, 3) := by decide +kernel
theorem dX7_growth_28 : decode cX7_growth 28 = .ok (.iload_n 3, 1) := by decide +kernel
theorem dX7_growth_29 : decode cX7_growth 29 = .ok (.invokestatic 182, 3) := by decide +kernel
theorem dX7_growth_32 : decode cX7_growth 32 = .ok (.iload_n 1, 1) := by decide +kernel
theorem dX7_growth_33 : decode cX7_growth 33 = .ok (.if_icmp .ne 16, 3) := by decide +kernel
theorem dX7_growth_36 : decode cX7_growth 36 = .ok (.iload_n 2, 1) := by decide +kernel
theorem dX7_growth_37 : decode cX7_growth 37 = .ok (.aload_n 0, 1) := by decide +kernel
theorem dX7_growth_38 : decode cX7_growth 38 = .ok (.getfield 56, 3) := by decide +kernel
theorem dX7_growth_41 : decode cX7_growth 41 = .ok (.iload_n 3, 1) := by decide +kernel
theorem dX7_growth_42 : decode cX7_growth 42 = .ok (.invokevirtual 175, 3) := by decide +kernel
theorem dX7_growth_45 : decode cX7_growth 45 = .ok (.invokestatic 136, 3) := by decide +kernel
theorem dX7_growth_48 : decode cX7_growth 48 = .ok (.istore_n 2, 1) := by decide +kernel
theorem dX7_growth_49 : decode cX7_growth 49 = .ok (.iinc 3 1, 3) := by decide +kernel
theorem dX7_growth_52 : decode cX7_growth 52 = .ok (.goto (-35), 3) := by decide +kernel
theorem dX7_growth_55 : decode cX7_growth 55 = .ok (.iload_n 2, 1) := by decide +kernel
theorem dX7_growth_56 : decode cX7_growth 56 = .ok (.ireturn, 1) := by decide +kernel
set_option maxRecDepth 20000 in
theorem ggX7_addExample_X0_isPoint : GoodIn wsX7_addExample wsX0_isPoint := goodIn_r _ [8, 9, 33, 34, 35, 36, 37, 38, 39] (by decide +kernel) (by decide +kernel)
set_option maxRecDepth 20000 in
theorem gX7_addExample_X0_isPoint : GoodIn wsX7_addExample (wsV RX7 190 RX0 yX0_isPoint wsX0_isPoint) := goodIn_app (goodIn_of _ (by decide +kernel)) ggX7_addExample_X0_isPoint
set_option maxRecDepth 20000 in
theorem ggX7_addExample_X3_hasRoomFor : GoodIn wsX7_addExample wsX3_hasRoomFor := goodIn_r _ [14, 15, 31, 32] (by decide +kernel) (by decide +kernel)
set_option maxRecDepth 20000 in
theorem gX7_addExample_X3_hasRoomFor : GoodIn wsX7_addExample (wsV RX7 193 RX3 yX3_hasRoomFor wsX3_hasRoomFor) := goodIn_app (goodIn_of _ (by decide +kernel)) ggX7_addExample_X3_hasRoomFor
set_option maxRecDepth 20000 in
theorem ggX7_addExample_X3_append : GoodIn wsX7_addExample wsX3_append := goodIn_r _ [19, 20, 15, 31, 32] (by decide +kernel) (by decide +kernel)
set_option maxRecDepth 20000 in
theorem gX7_addExample_X3_append : GoodIn wsX7_addExample (wsV RX7 196 RX3 yX3_append wsX3_append) := goodIn_app (goodIn_of _ (by decide +kernel)) ggX7_addExample_X3_append
theorem dX7_addExample_0 : decode cX7_addExample 0 = .ok (.aload_n 0, 1) := by decide +kernel
theorem dX7_addExample_1 : decode cX7_addExample 1 = .ok (.getfield 12, 3) := by decide +kernel
theorem dX7_addExample_4 : decode cX7_addExample 4 = .ok (.iload_n 1, 1) := by decide +kernel
theorem dX7_addExample_5 : decode cX7_addExample 5 = .ok (.invokevirtual 190, 3) := by decide +kernel
theorem dX7_addExample_8 : decode cX7_addExample 8 = .ok (.ifCond .ne 6, 3) := by decide +kernel
theorem dX7_addExample_11 : decode cX7_addExample 11 = .ok (.bipush (-3), 2) := by decide +kernel
theorem dX7_addExample_13 : decode cX7_addExample 13 = .ok (.ireturn, 1) := by decide +kernel
theorem dX7_addExample_14 : decode cX7_addExample 14 = .ok (.iload_n 2, 1) := by decide +kernel
theorem dX7_addExample_15 : decode cX7_addExample 15 = .ok (.ifCond .lt 8, 3) := by decide +kernel
theorem dX7_addExample_18 : decode cX7_addExample 18 = .ok (.iload_n 2, 1) := by decide +kernel
theorem dX7_addExample_19 : decode cX7_addExample 19 = .ok (.iconst 1, 1) := by decide +kernel
theorem dX7_addExample_20 : decode cX7_addExample 20 = .ok (.if_icmp .le 5, 3) := by decide +kernel
theorem dX7_addExample_23 : decode cX7_addExample 23 = .ok (.iconst (-1), 1) := by decide +kernel
theorem dX7_addExample_24 : decode cX7_addExample 24 = .ok (.ireturn, 1) := by decide +kernel
theorem dX7_addExample_25 : decode cX7_addExample 25 = .ok (.aload_n 0, 1) := by decide +kernel
theorem dX7_addExample_26 : decode cX7_addExample 26 = .ok (.getfield 21, 3) := by decide +kernel
theorem dX7_addExample_29 : decode cX7_addExample 29 = .ok (.iconst 1, 1) := by decide +kernel
theorem dX7_addExample_30 : decode cX7_addExample 30 = .ok (.invokevirtual 193, 3) := by decide +kernel
theorem dX7_addExample_33 : decode cX7_addExample 33 = .ok (.ifCond .ne 6, 3) := by decide +kernel
theorem dX7_addExample_36 : decode cX7_addExample 36 = .ok (.bipush (-4), 2) := by decide +kernel
theorem dX7_addExample_38 : decode cX7_addExample 38 = .ok (.ireturn, 1) := by decide +kernel
theorem dX7_addExample_39 : decode cX7_addExample 39 = .ok (.aload_n 0, 1) := by decide +kernel
theorem dX7_addExample_40 : decode cX7_addExample 40 = .ok (.getfield 21, 3) := by decide +kernel
theorem dX7_addExample_43 : decode cX7_addExample 43 = .ok (.iload_n 1, 1) := by decide +kernel
theorem dX7_addExample_44 : decode cX7_addExample 44 = .ok (.iload_n 2, 1) := by decide +kernel
theorem dX7_addExample_45 : decode cX7_addExample 45 = .ok (.invokevirtual 196, 3) := by decide +kernel
theorem dX7_addExample_48 : decode cX7_addExample 48 = .ok (.aload_n 0, 1) := by decide +kernel
theorem dX7_addExample_49 : decode cX7_addExample 49 = .ok (.getfield 21, 3) := by decide +kernel
theorem dX7_addExample_52 : decode cX7_addExample 52 = .ok (.getfield 200, 3) := by decide +kernel
theorem dX7_addExample_55 : decode cX7_addExample 55 = .ok (.ireturn, 1) := by decide +kernel
set_option maxRecDepth 20000 in
theorem ggX7_addExamples_X0_has : GoodIn wsX7_addExamples wsX0_has := goodIn_r _ [9, 10, 57, 58, 59, 60, 61, 62, 63] (by decide +kernel) (by decide +kernel)
set_option maxRecDepth 20000 in
theorem gX7_addExamples_X0_has : GoodIn wsX7_addExamples (wsV RX7 99 RX0 yX0_has wsX0_has) := goodIn_app (goodIn_of _ (by decide +kernel)) ggX7_addExamples_X0_has
set_option maxRecDepth 20000 in
theorem ggX7_addExamples_X0_isSet : GoodIn wsX7_addExamples wsX0_isSet := goodIn_r _ [14, 15, 16, 17, 8, 18, 19, 57, 58, 59, 60, 61, 62, 63] (by decide +kernel) (by decide +kernel)
set_option maxRecDepth 20000 in
theorem gX7_addExamples_X0_isSet : GoodIn wsX7_addExamples (wsV RX7 85 RX0 yX0_isSet wsX0_isSet) := goodIn_app (goodIn_of _ (by decide +kernel)) ggX7_addExamples_X0_isSet
set_option maxRecDepth 20000 in
theorem ggX7_addExamples_J6_bitCount_0f7a4 : GoodIn wsX7_addExamples wsJ6_bitCount_0f7a4 := goodIn_r _ [23, 24, 25, 26] (by decide +kernel) (by decide +kernel)
set_option maxRecDepth 20000 in
theorem gX7_addExamples_J6_bitCount_0f7a4 : GoodIn wsX7_addExamples (va_wsS RX7 182 yJ6_bitCount_0f7a4 wsJ6_bitCount_0f7a4) := goodIn_app (goodIn_of _ (by decide +kernel)) ggX7_addExamples_J6_bitCount_0f7a4
set_option maxRecDepth 20000 in
theorem ggX7_addExamples_X3_hasRoomFor : GoodIn wsX7_addExamples wsX3_hasRoomFor := goodIn_r _ [31, 32, 64, 65] (by decide +kernel) (by decide +kernel)
set_option maxRecDepth 20000 in
theorem gX7_addExamples_X3_hasRoomFor : GoodIn wsX7_addExamples (wsV RX7 193 RX3 yX3_hasRoomFor wsX3_hasRoomFor) := goodIn_app (goodIn_of _ (by decide +kernel)) ggX7_addExamples_X3_hasRoomFor
set_option maxRecDepth 20000 in
theorem ggX7_addExamples_X7_hasBit : GoodIn wsX7_addExamples wsX7_hasBit := goodIn_r _ [36] (by decide +kernel) (by decide +kernel)
set_option maxRecDepth 20000 in
theorem gX7_addExamples_X7_hasBit : GoodIn wsX7_addExamples (va_wsS RX7 201 yX7_hasBit wsX7_hasBit) := goodIn_app (goodIn_of _ (by decide +kernel)) ggX7_addExamples_X7_hasBit
set_option maxRecDepth 20000 in
theorem ggX7_addExamples_X0_labelOf : GoodIn wsX7_addExamples wsX0_labelOf := goodIn_r _ [40, 41, 34, 35, 36, 57, 58, 59, 60, 61, 62, 63] (by decide +kernel) (by decide +kernel)
set_option maxRecDepth 20000 in
theorem gX7_addExamples_X0_labelOf : GoodIn wsX7_addExamples (wsV RX7 204 RX0 yX0_labelOf wsX0_labelOf) := goodIn_app (goodIn_of _ (by decide +kernel)) ggX7_addExamples_X0_labelOf
set_option maxRecDepth 20000 in
theorem ggX7_addExamples_X3_append : GoodIn wsX7_addExamples wsX3_append := goodIn_r _ [45, 46, 32, 64, 65] (by decide +kernel) (by decide +kernel)
set_option maxRecDepth 20000 in
theorem gX7_addExamples_X3_append : GoodIn wsX7_addExamples (wsV RX7 196 RX3 yX3_append wsX3_append) := goodIn_app (goodIn_of _ (by decide +kernel)) ggX7_addExamples_X3_append
theorem dX7_addExamples_0 : decode cX7_addExamples 0 = .ok (.aload_n 0, 1) := by decide +kernel
theorem dX7_addExamples_1 : decode cX7_addExamples 1 = .ok (.getfield 12, 3) := by decide +kernel
theorem dX7_addExamples_4 : decode cX7_addExamples 4 = .ok (.iload_n 1, 1) := by decide +kernel
theorem dX7_addExamples_5 : decode cX7_addExamples 5 = .ok (.invokevirtual 99, 3) := by decide +kernel
theorem dX7_addExamples_8 : decode cX7_addExamples 8 = .ok (.ifCond .ne 6, 3) := by decide +kernel
theorem dX7_addExamples_11 : decode cX7_addExamples 11 = .ok (.bipush (-2), 2) := by decide +kernel
theorem dX7_addExamples_13 : decode cX7_addExamples 13 = .ok (.ireturn, 1) := by decide +kernel
theorem dX7_addExamples_14 : decode cX7_addExamples 14 = .ok (.aload_n 0, 1) := by decide +kernel
theorem dX7_addExamples_15 : decode cX7_addExamples 15 = .ok (.getfield 12, 3) := by decide +kernel
theorem dX7_addExamples_18 : decode cX7_addExamples 18 = .ok (.iload_n 2, 1) := by decide +kernel
theorem dX7_addExamples_19 : decode cX7_addExamples 19 = .ok (.invokevirtual 85, 3) := by decide +kernel
theorem dX7_addExamples_22 : decode cX7_addExamples 22 = .ok (.ifCond .ne 5, 3) := by decide +kernel
theorem dX7_addExamples_25 : decode cX7_addExamples 25 = .ok (.iconst (-1), 1) := by decide +kernel
theorem dX7_addExamples_26 : decode cX7_addExamples 26 = .ok (.ireturn, 1) := by decide +kernel
theorem dX7_addExamples_27 : decode cX7_addExamples 27 = .ok (.aload_n 0, 1) := by decide +kernel
theorem dX7_addExamples_28 : decode cX7_addExamples 28 = .ok (.getfield 21, 3) := by decide +kernel
theorem dX7_addExamples_31 : decode cX7_addExamples 31 = .ok (.iload_n 2, 1) := by decide +kernel
theorem dX7_addExamples_32 : decode cX7_addExamples 32 = .ok (.invokestatic 182, 3) := by decide +kernel
theorem dX7_addExamples_35 : decode cX7_addExamples 35 = .ok (.invokevirtual 193, 3) := by decide +kernel
theorem dX7_addExamples_38 : decode cX7_addExamples 38 = .ok (.ifCond .ne 6, 3) := by decide +kernel
theorem dX7_addExamples_41 : decode cX7_addExamples 41 = .ok (.bipush (-4), 2) := by decide +kernel
theorem dX7_addExamples_43 : decode cX7_addExamples 43 = .ok (.ireturn, 1) := by decide +kernel
theorem dX7_addExamples_44 : decode cX7_addExamples 44 = .ok (.iconst 0, 1) := by decide +kernel
theorem dX7_addExamples_45 : decode cX7_addExamples 45 = .ok (.istore_n 3, 1) := by decide +kernel
theorem dX7_addExamples_46 : decode cX7_addExamples 46 = .ok (.iload_n 3, 1) := by decide +kernel
theorem dX7_addExamples_47 : decode cX7_addExamples 47 = .ok (.aload_n 0, 1) := by decide +kernel
theorem dX7_addExamples_48 : decode cX7_addExamples 48 = .ok (.getfield 12, 3) := by decide +kernel
theorem dX7_addExamples_51 : decode cX7_addExamples 51 = .ok (.getfield 74, 3) := by decide +kernel
theorem dX7_addExamples_54 : decode cX7_addExamples 54 = .ok (.if_icmp .ge 34, 3) := by decide +kernel
theorem dX7_addExamples_57 : decode cX7_addExamples 57 = .ok (.iload_n 2, 1) := by decide +kernel
theorem dX7_addExamples_58 : decode cX7_addExamples 58 = .ok (.iload_n 3, 1) := by decide +kernel
theorem dX7_addExamples_59 : decode cX7_addExamples 59 = .ok (.invokestatic 201, 3) := by decide +kernel
theorem dX7_addExamples_62 : decode cX7_addExamples 62 = .ok (.ifCond .eq 20, 3) := by decide +kernel
theorem dX7_addExamples_65 : decode cX7_addExamples 65 = .ok (.aload_n 0, 1) := by decide +kernel
theorem dX7_addExamples_66 : decode cX7_addExamples 66 = .ok (.getfield 21, 3) := by decide +kernel
theorem dX7_addExamples_69 : decode cX7_addExamples 69 = .ok (.iload_n 3, 1) := by decide +kernel
theorem dX7_addExamples_70 : decode cX7_addExamples 70 = .ok (.aload_n 0, 1) := by decide +kernel
theorem dX7_addExamples_71 : decode cX7_addExamples 71 = .ok (.getfield 12, 3) := by decide +kernel
theorem dX7_addExamples_74 : decode cX7_addExamples 74 = .ok (.iload_n 1, 1) := by decide +kernel
theorem dX7_addExamples_75 : decode cX7_addExamples 75 = .ok (.iload_n 3, 1) := by decide +kernel
theorem dX7_addExamples_76 : decode cX7_addExamples 76 = .ok (.invokevirtual 204, 3) := by decide +kernel
theorem dX7_addExamples_79 : decode cX7_addExamples 79 = .ok (.invokevirtual 196, 3) := by decide +kernel
theorem dX7_addExamples_82 : decode cX7_addExamples 82 = .ok (.iinc 3 1, 3) := by decide +kernel
theorem dX7_addExamples_85 : decode cX7_addExamples 85 = .ok (.goto (-39), 3) := by decide +kernel
theorem dX7_addExamples_88 : decode cX7_addExamples 88 = .ok (.aload_n 0, 1) := by decide +kernel
theorem dX7_addExamples_89 : decode cX7_addExamples 89 = .ok (.getfield 21, 3) := by decide +kernel
theorem dX7_addExamples_92 : decode cX7_addExamples 92 = .ok (.getfield 200, 3) := by decide +kernel
theorem dX7_addExamples_95 : decode cX7_addExamples 95 = .ok (.ireturn, 1) := by decide +kernel
set_option maxRecDepth 20000 in
theorem ggX7_clearSample_X3_forget : GoodIn wsX7_clearSample wsX3_forget := goodIn_r _ [7, 8, 19, 20] (by decide +kernel) (by decide +kernel)
set_option maxRecDepth 20000 in
theorem gX7_clearSample_X3_forget : GoodIn wsX7_clearSample (wsV RX7 82 RX3 yX3_forget wsX3_forget) := goodIn_app (goodIn_of _ (by decide +kernel)) ggX7_clearSample_X3_forget
theorem dX7_clearSample_0 : decode cX7_clearSample 0 = .ok (.aload_n 0, 1) := by decide +kernel
theorem dX7_clearSample_1 : decode cX7_clearSample 1 = .ok (.getfield 21, 3) := by decide +kernel
theorem dX7_clearSample_4 : decode cX7_clearSample 4 = .ok (.getfield 200, 3) := by decide +kernel
theorem dX7_clearSample_7 : decode cX7_clearSample 7 = .ok (.istore_n 1, 1) := by decide +kernel
theorem dX7_clearSample_8 : decode cX7_clearSample 8 = .ok (.aload_n 0, 1) := by decide +kernel
theorem dX7_clearSample_9 : decode cX7_clearSample 9 = .ok (.getfield 21, 3) := by decide +kernel
theorem dX7_clearSample_12 : decode cX7_clearSample 12 = .ok (.invokevirtual 82, 3) := by decide +kernel
theorem dX7_clearSample_15 : decode cX7_clearSample 15 = .ok (.iload_n 1, 1) := by decide +kernel
theorem dX7_clearSample_16 : decode cX7_clearSample 16 = .ok (.ireturn, 1) := by decide +kernel
theorem dX7_example_0 : decode cX7_example 0 = .ok (.iload_n 1, 1) := by decide +kernel
theorem dX7_example_1 : decode cX7_example 1 = .ok (.ifCond .lt 26, 3) := by decide +kernel
theorem dX7_example_4 : decode cX7_example 4 = .ok (.iload_n 1, 1) := by decide +kernel
theorem dX7_example_5 : decode cX7_example 5 = .ok (.aload_n 0, 1) := by decide +kernel
theorem dX7_example_6 : decode cX7_example 6 = .ok (.getfield 21, 3) := by decide +kernel
theorem dX7_example_9 : decode cX7_example 9 = .ok (.getfield 200, 3) := by decide +kernel
theorem dX7_example_12 : decode cX7_example 12 = .ok (.if_icmp .ge 15, 3) := by decide +kernel
theorem dX7_example_15 : decode cX7_example 15 = .ok (.aload_n 0, 1) := by decide +kernel
theorem dX7_example_16 : decode cX7_example 16 = .ok (.getfield 21, 3) := by decide +kernel
theorem dX7_example_19 : decode cX7_example 19 = .ok (.getfield 207, 3) := by decide +kernel
theorem dX7_example_22 : decode cX7_example 22 = .ok (.iload_n 1, 1) := by decide +kernel
theorem dX7_example_23 : decode cX7_example 23 = .ok (.iaload, 1) := by decide +kernel
theorem dX7_example_24 : decode cX7_example 24 = .ok (.goto 5, 3) := by decide +kernel
theorem dX7_example_27 : decode cX7_example 27 = .ok (.bipush (-6), 2) := by decide +kernel
theorem dX7_example_29 : decode cX7_example 29 = .ok (.ireturn, 1) := by decide +kernel
set_option maxRecDepth 20000 in
theorem ggX7_versionCount_X7_versions : GoodIn wsX7_versionCount wsX7_versions := goodIn_r _ [5, 6, 7, 8, 9, 10, 11, 12, 13, 14, 15, 16, 17, 18, 19, 20, 21, 22, 23, 24, 25, 26, 27, 28, 29, 30, 38, 39, 40, 41, 42, 43, 44, 45, 46, 47, 48, 49, 50, 51, 52, 53, 54, 55, 56] (by decide +kernel) (by decide +kernel)
set_option maxRecDepth 20000 in
theorem gX7_versionCount_X7_versions : GoodIn wsX7_versionCount (wsV RX7 210 RX7 yX7_versions wsX7_versions) := goodIn_app (goodIn_of _ (by decide +kernel)) ggX7_versionCount_X7_versions
set_option maxRecDepth 20000 in
theorem ggX7_versionCount_J6_bitCount_0f7a4 : GoodIn wsX7_versionCount wsJ6_bitCount_0f7a4 := goodIn_r _ [34, 35, 36, 37] (by decide +kernel) (by decide +kernel)
set_option maxRecDepth 20000 in
theorem gX7_versionCount_J6_bitCount_0f7a4 : GoodIn wsX7_versionCount (va_wsS RX7 182 yJ6_bitCount_0f7a4 wsJ6_bitCount_0f7a4) := goodIn_app (goodIn_of _ (by decide +kernel)) ggX7_versionCount_J6_bitCount_0f7a4
theorem dX7_versionCount_0 : decode cX7_versionCount 0 = .ok (.aload_n 0, 1) := by decide +kernel
theorem dX7_versionCount_1 : decode cX7_versionCount 1 = .ok (.invokevirtual 210, 3) := by decide +kernel
theorem dX7_versionCount_4 : decode cX7_versionCount 4 = .ok (.invokestatic 182, 3) := by decide +kernel
theorem dX7_versionCount_7 : decode cX7_versionCount 7 = .ok (.ireturn, 1) := by decide +kernel
set_option maxRecDepth 20000 in
theorem ggX7_version_X7_versions : GoodIn wsX7_version wsX7_versions := goodIn_r _ [7, 1, 8, 9, 10, 11, 12, 13, 14, 15, 16, 17, 18, 19, 20, 21, 22, 23, 24, 25, 26, 27, 28, 29, 30, 31, 35, 36, 37, 38, 39, 40, 41, 42, 43, 44, 52, 53, 45, 46, 47, 48, 49, 50, 51] (by decide +kernel) (by decide +kernel)
set_option maxRecDepth 20000 in
theorem gX7_version_X7_versions : GoodIn wsX7_version (wsV RX7 210 RX7 yX7_versions wsX7_versions) := goodIn_app (goodIn_of _ (by decide +kernel)) ggX7_version_X7_versions
set_option maxRecDepth 20000 in
theorem ggX7_version_X7_hasBit : GoodIn wsX7_version wsX7_hasBit := goodIn_r _ [34] (by decide +kernel) (by decide +kernel)
set_option maxRecDepth 20000 in
theorem gX7_version_X7_hasBit : GoodIn wsX7_version (va_wsS RX7 201 yX7_hasBit wsX7_hasBit) := goodIn_app (goodIn_of _ (by decide +kernel)) ggX7_version_X7_hasBit
theorem dX7_version_0 : decode cX7_version 0 = .ok (.aload_n 0, 1) := by decide +kernel
theorem dX7_version_1 : decode cX7_version 1 = .ok (.invokevirtual 210, 3) := by decide +kernel
theorem dX7_version_4 : decode cX7_version 4 = .ok (.istore_n 2, 1) := by decide +kernel
theorem dX7_version_5 : decode cX7_version 5 = .ok (.iconst 0, 1) := by decide +kernel
theorem dX7_version_6 : decode cX7_version 6 = .ok (.istore_n 3, 1) := by decide +kernel
theorem dX7_version_7 : decode cX7_version 7 = .ok (.iconst 0, 1) := by decide +kernel
theorem dX7_version_8 : decode cX7_version 8 = .ok (.istore 4, 2) := by decide +kernel
theorem dX7_version_10 : decode cX7_version 10 = .ok (.iload 4, 2) := by decide +kernel
theorem dX7_version_12 : decode cX7_version 12 = .ok (.aload_n 0, 1) := by decide +kernel
theorem dX7_version_13 : decode cX7_version 13 = .ok (.getfield 12, 3) := by decide +kernel
theorem dX7_version_16 : decode cX7_version 16 = .ok (.getfield 96, 3) := by decide +kernel
theorem dX7_version_19 : decode cX7_version 19 = .ok (.if_icmp .ge 29, 3) := by decide +kernel
theorem dX7_version_22 : decode cX7_version 22 = .ok (.iload_n 2, 1) := by decide +kernel
theorem dX7_version_23 : decode cX7_version 23 = .ok (.iload 4, 2) := by decide +kernel
theorem dX7_version_25 : decode cX7_version 25 = .ok (.invokestatic 201, 3) := by decide +kernel
theorem dX7_version_28 : decode cX7_version 28 = .ok (.ifCond .eq 14, 3) := by decide +kernel
theorem dX7_version_31 : decode cX7_version 31 = .ok (.iload_n 3, 1) := by decide +kernel
theorem dX7_version_32 : decode cX7_version 32 = .ok (.iload_n 1, 1) := by decide +kernel
theorem dX7_version_33 : decode cX7_version 33 = .ok (.if_icmp .ne 6, 3) := by decide +kernel
theorem dX7_version_36 : decode cX7_version 36 = .ok (.iload 4, 2) := by decide +kernel
theorem dX7_version_38 : decode cX7_version 38 = .ok (.ireturn, 1) := by decide +kernel
theorem dX7_version_39 : decode cX7_version 39 = .ok (.iinc 3 1, 3) := by decide +kernel
theorem dX7_version_42 : decode cX7_version 42 = .ok (.iinc 4 1, 3) := by decide +kernel
theorem dX7_version_45 : decode cX7_version 45 = .ok (.goto (-35), 3) := by decide +kernel
theorem dX7_version_48 : decode cX7_version 48 = .ok (.bipush (-6), 2) := by decide +kernel
theorem dX7_version_50 : decode cX7_version 50 = .ok (.ireturn, 1) := by decide +kernel
set_option maxRecDepth 20000 in
theorem ggX7_decode_X7_versions : GoodIn wsX7_decode wsX7_versions := goodIn_r _ [9, 2, 10, 11, 12, 13, 14, 15, 16, 17, 18, 19, 20, 21, 22, 23, 24, 25, 26, 27, 28, 29, 30, 31, 32, 33, 102, 103, 104, 105, 106, 107, 108, 109, 110, 111, 126, 127, 112, 113, 114, 115, 116, 117, 118] (by decide +kernel) (by decide +kernel)
set_option maxRecDepth 20000 in
theorem gX7_decode_X7_versions : GoodIn wsX7_decode (wsV RX7 210 RX7 yX7_versions wsX7_versions) := goodIn_app (goodIn_of _ (by decide +kernel)) ggX7_decode_X7_versions
set_option maxRecDepth 20000 in
theorem ggX7_decode_X1_renew : GoodIn wsX7_decode wsX1_renew := goodIn_r _ [38, 39, 40, 41, 42, 43, 44, 37, 45, 46, 47, 48, 49, 50, 51, 52, 13, 14, 15, 16, 17, 53, 54, 55, 56, 57, 58, 59, 60, 61, 62, 63, 8, 64, 65, 66, 67, 68, 69, 70, 71, 72, 73, 74, 75, 76, 77, 78, 79, 80, 81, 82, 29, 30, 31, 32, 33, 83, 84, 85, 86, 87, 88, 89, 90, 91, 92, 93, 94, 95, 96, 97, 98, 99, 100, 119, 120, 121, 122, 123, 124, 125, 112, 113, 114, 115, 116, 117, 118, 128, 129] (by decide +kernel) (by decide +kernel)
set_option maxRecDepth 20000 in
theorem gX7_decode_X1_renew : GoodIn wsX7_decode (wsV RX7 147 RX1 yX1_renew wsX1_renew) := goodIn_app (goodIn_of _ (by decide +kernel)) ggX7_decode_X1_renew
set_option maxRecDepth 20000 in
theorem ggX7_decode_X7_hasBit : GoodIn wsX7_decode wsX7_hasBit := goodIn_r _ [64] (by decide +kernel) (by decide +kernel)
set_option maxRecDepth 20000 in
theorem gX7_decode_X7_hasBit : GoodIn wsX7_decode (va_wsS RX7 201 yX7_hasBit wsX7_hasBit) := goodIn_app (goodIn_of _ (by decide +kernel)) ggX7_decode_X7_hasBit
theorem dX7_decode_0 : decode cX7_decode 0 = .ok (.aload_n 0, 1) := by decide +kernel
theorem dX7_decode_1 : decode cX7_decode 1 = .ok (.invokevirtual 210, 3) := by decide +kernel
theorem dX7_decode_4 : decode cX7_decode 4 = .ok (.istore_n 1, 1) := by decide +kernel
theorem dX7_decode_5 : decode cX7_decode 5 = .ok (.iload_n 1, 1) := by decide +kernel
theorem dX7_decode_6 : decode cX7_decode 6 = .ok (.ifCond .ne 6, 3) := by decide +kernel
theorem dX7_decode_9 : decode cX7_decode 9 = .ok (.bipush (-7), 2) := by decide +kernel
theorem dX7_decode_11 : decode cX7_decode 11 = .ok (.ireturn, 1) := by decide +kernel
theorem dX7_decode_12 : decode cX7_decode 12 = .ok (.aload_n 0, 1) := by decide +kernel
theorem dX7_decode_13 : decode cX7_decode 13 = .ok (.getfield 49, 3) := by decide +kernel
theorem dX7_decode_16 : decode cX7_decode 16 = .ok (.invokevirtual 147, 3) := by decide +kernel
theorem dX7_decode_19 : decode cX7_decode 19 = .ok (.bipush 20, 2) := by decide +kernel
theorem dX7_decode_21 : decode cX7_decode 21 = .ok (.istore_n 2, 1) := by decide +kernel
theorem dX7_decode_22 : decode cX7_decode 22 = .ok (.bipush (-7), 2) := by decide +kernel
theorem dX7_decode_24 : decode cX7_decode 24 = .ok (.istore_n 3, 1) := by decide +kernel
theorem dX7_decode_25 : decode cX7_decode 25 = .ok (.iconst 0, 1) := by decide +kernel
theorem dX7_decode_26 : decode cX7_decode 26 = .ok (.istore 4, 2) := by decide +kernel
theorem dX7_decode_28 : decode cX7_decode 28 = .ok (.iload 4, 2) := by decide +kernel
theorem dX7_decode_30 : decode cX7_decode 30 = .ok (.aload_n 0, 1) := by decide +kernel
theorem dX7_decode_31 : decode cX7_decode 31 = .ok (.getfield 12, 3) := by decide +kernel
theorem dX7_decode_34 : decode cX7_decode 34 = .ok (.getfield 96, 3) := by decide +kernel
theorem dX7_decode_37 : decode cX7_decode 37 = .ok (.if_icmp .ge 46, 3) := by decide +kernel
theorem dX7_decode_40 : decode cX7_decode 40 = .ok (.iload_n 1, 1) := by decide +kernel
theorem dX7_decode_41 : decode cX7_decode 41 = .ok (.iload 4, 2) := by decide +kernel
theorem dX7_decode_43 : decode cX7_decode 43 = .ok (.invokestatic 201, 3) := by decide +kernel
theorem dX7_decode_46 : decode cX7_decode 46 = .ok (.ifCond .eq 31, 3) := by decide +kernel
theorem dX7_decode_49 : decode cX7_decode 49 = .ok (.aload_n 0, 1) := by decide +kernel
theorem dX7_decode_50 : decode cX7_decode 50 = .ok (.getfield 49, 3) := by decide +kernel
theorem dX7_decode_53 : decode cX7_decode 53 = .ok (.getfield 156, 3) := by decide +kernel
theorem dX7_decode_56 : decode cX7_decode 56 = .ok (.iload 4, 2) := by decide +kernel
theorem dX7_decode_58 : decode cX7_decode 58 = .ok (.iaload, 1) := by decide +kernel
theorem dX7_decode_59 : decode cX7_decode 59 = .ok (.iload_n 2, 1) := by decide +kernel
theorem dX7_decode_60 : decode cX7_decode 60 = .ok (.if_icmp .ge 17, 3) := by decide +kernel
theorem dX7_decode_63 : decode cX7_decode 63 = .ok (.aload_n 0, 1) := by decide +kernel
theorem dX7_decode_64 : decode cX7_decode 64 = .ok (.getfield 49, 3) := by decide +kernel
theorem dX7_decode_67 : decode cX7_decode 67 = .ok (.getfield 156, 3) := by decide +kernel
theorem dX7_decode_70 : decode cX7_decode 70 = .ok (.iload 4, 2) := by decide +kernel
theorem dX7_decode_72 : decode cX7_decode 72 = .ok (.iaload, 1) := by decide +kernel
theorem dX7_decode_73 : decode cX7_decode 73 = .ok (.istore_n 2, 1) := by decide +kernel
theorem dX7_decode_74 : decode cX7_decode 74 = .ok (.iload 4, 2) := by decide +kernel
theorem dX7_decode_76 : decode cX7_decode 76 = .ok (.istore_n 3, 1) := by decide +kernel
theorem dX7_decode_77 : decode cX7_decode 77 = .ok (.iinc 4 1, 3) := by decide +kernel
theorem dX7_decode_80 : decode cX7_decode 80 = .ok (.goto (-52), 3) := by decide +kernel
theorem dX7_decode_83 : decode cX7_decode 83 = .ok (.iload_n 3, 1) := by decide +kernel
theorem dX7_decode_84 : decode cX7_decode 84 = .ok (.ireturn, 1) := by decide +kernel
set_option maxRecDepth 20000 in
theorem ggX7_majority_X0_isPoint : GoodIn wsX7_majority wsX0_isPoint := goodIn_r _ [6, 7, 58, 59, 60, 61, 62, 63, 64] (by decide +kernel) (by decide +kernel)
set_option maxRecDepth 20000 in
theorem gX7_majority_X0_isPoint : GoodIn wsX7_majority (wsV RX7 190 RX0 yX0_isPoint wsX0_isPoint) := goodIn_app (goodIn_of _ (by decide +kernel)) ggX7_majority_X0_isPoint
set_option maxRecDepth 20000 in
theorem ggX7_majority_X7_versions : GoodIn wsX7_majority wsX7_versions := goodIn_r _ [12, 1, 13, 14, 15, 16, 17, 5, 18, 19, 20, 21, 22, 23, 24, 25, 26, 27, 28, 29, 30, 31, 32, 33, 34, 35, 48, 49, 50, 51, 52, 53, 54, 55, 56, 57, 65, 66, 58, 59, 60, 61, 62, 63, 64] (by decide +kernel) (by decide +kernel)
set_option maxRecDepth 20000 in
theorem gX7_majority_X7_versions : GoodIn wsX7_majority (wsV RX7 210 RX7 yX7_versions wsX7_versions) := goodIn_app (goodIn_of _ (by decide +kernel)) ggX7_majority_X7_versions
set_option maxRecDepth 20000 in
theorem ggX7_majority_X0_leadOfOnes : GoodIn wsX7_majority wsX0_leadOfOnes := goodIn_r _ [39, 40, 31, 32, 5, 33, 34, 35, 16, 17, 18, 19, 41, 42, 43, 44, 45, 46, 47, 58, 59, 60, 61, 62, 63, 64] (by decide +kernel) (by decide +kernel)
set_option maxRecDepth 20000 in
theorem gX7_majority_X0_leadOfOnes : GoodIn wsX7_majority (wsV RX7 213 RX0 yX0_leadOfOnes wsX0_leadOfOnes) := goodIn_app (goodIn_of _ (by decide +kernel)) ggX7_majority_X0_leadOfOnes
theorem dX7_majority_0 : decode cX7_majority 0 = .ok (.aload_n 0, 1) := by decide +kernel
theorem dX7_majority_1 : decode cX7_majority 1 = .ok (.getfield 12, 3) := by decide +kernel
theorem dX7_majority_4 : decode cX7_majority 4 = .ok (.iload_n 1, 1) := by decide +kernel
theorem dX7_majority_5 : decode cX7_majority 5 = .ok (.invokevirtual 190, 3) := by decide +kernel
theorem dX7_majority_8 : decode cX7_majority 8 = .ok (.ifCond .ne 6, 3) := by decide +kernel
theorem dX7_majority_11 : decode cX7_majority 11 = .ok (.bipush (-3), 2) := by decide +kernel
theorem dX7_majority_13 : decode cX7_majority 13 = .ok (.ireturn, 1) := by decide +kernel
theorem dX7_majority_14 : decode cX7_majority 14 = .ok (.aload_n 0, 1) := by decide +kernel
theorem dX7_majority_15 : decode cX7_majority 15 = .ok (.invokevirtual 210, 3) := by decide +kernel
theorem dX7_majority_18 : decode cX7_majority 18 = .ok (.istore_n 2, 1) := by decide +kernel
theorem dX7_majority_19 : decode cX7_majority 19 = .ok (.iload_n 2, 1) := by decide +kernel
theorem dX7_majority_20 : decode cX7_majority 20 = .ok (.ifCond .ne 6, 3) := by decide +kernel
theorem dX7_majority_23 : decode cX7_majority 23 = .ok (.bipush (-7), 2) := by decide +kernel
theorem dX7_majority_25 : decode cX7_majority 25 = .ok (.ireturn, 1) := by decide +kernel
theorem dX7_majority_26 : decode cX7_majority 26 = .ok (.aload_n 0, 1) := by decide +kernel
theorem dX7_majority_27 : decode cX7_majority 27 = .ok (.getfield 12, 3) := by decide +kernel
theorem dX7_majority_30 : decode cX7_majority 30 = .ok (.iload_n 2, 1) := by decide +kernel
theorem dX7_majority_31 : decode cX7_majority 31 = .ok (.iload_n 1, 1) := by decide +kernel
theorem dX7_majority_32 : decode cX7_majority 32 = .ok (.invokevirtual 213, 3) := by decide +kernel
theorem dX7_majority_35 : decode cX7_majority 35 = .ok (.istore_n 3, 1) := by decide +kernel
theorem dX7_majority_36 : decode cX7_majority 36 = .ok (.iload_n 3, 1) := by decide +kernel
theorem dX7_majority_37 : decode cX7_majority 37 = .ok (.ifCond .ne 5, 3) := by decide +kernel
theorem dX7_majority_40 : decode cX7_majority 40 = .ok (.iconst 2, 1) := by decide +kernel
theorem dX7_majority_41 : decode cX7_majority 41 = .ok (.ireturn, 1) := by decide +kernel
theorem dX7_majority_42 : decode cX7_majority 42 = .ok (.iload_n 3, 1) := by decide +kernel
theorem dX7_majority_43 : decode cX7_majority 43 = .ok (.ifCond .le 7, 3) := by decide +kernel
theorem dX7_majority_46 : decode cX7_majority 46 = .ok (.iconst 1, 1) := by decide +kernel
theorem dX7_majority_47 : decode cX7_majority 47 = .ok (.goto 4, 3) := by decide +kernel
theorem dX7_majority_50 : decode cX7_majority 50 = .ok (.iconst 0, 1) := by decide +kernel
theorem dX7_majority_51 : decode cX7_majority 51 = .ok (.ireturn, 1) := by decide +kernel
set_option maxRecDepth 20000 in
theorem ggX7_queryDepth_X7_versions : GoodIn wsX7_queryDepth wsX7_versions := goodIn_r _ [6, 7, 8, 9, 10, 11, 12, 13, 14, 15, 16, 17, 18, 19, 20, 21, 22, 23, 24, 25, 26, 27, 28, 29, 30, 31, 84, 85, 86, 87, 88, 89, 90, 91, 92, 93, 94, 95, 96, 97, 98, 99, 100, 101, 102] (by decide +kernel) (by decide +kernel)
set_option maxRecDepth 20000 in
theorem gX7_queryDepth_X7_versions : GoodIn wsX7_queryDepth (wsV RX7 210 RX7 yX7_versions wsX7_versions) := goodIn_app (goodIn_of _ (by decide +kernel)) ggX7_queryDepth_X7_versions
set_option maxRecDepth 20000 in
theorem ggX7_queryDepth_X2_depth : GoodIn wsX7_queryDepth wsX2_depth := goodIn_r _ [36, 37, 38, 39, 40, 41, 42, 43, 44, 35, 45, 46, 47, 48, 49, 50, 51, 52, 53, 54, 55, 56, 57, 58, 59, 60, 61, 62, 63, 64, 65, 66, 67, 68, 69, 70, 71, 72, 73, 74, 75, 76, 27, 28, 13, 29, 30, 31, 11, 12, 14, 15, 77, 78, 79, 80, 81, 82, 83, 103, 104, 96, 97, 98, 99, 100, 101, 102] (by decide +kernel) (by decide +kernel)
set_option maxRecDepth 20000 in
theorem gX7_queryDepth_X2_depth : GoodIn wsX7_queryDepth (wsV RX7 216 RX2 yX2_depth wsX2_depth) := goodIn_app (goodIn_of _ (by decide +kernel)) ggX7_queryDepth_X2_depth
theorem dX7_queryDepth_0 : decode cX7_queryDepth 0 = .ok (.aload_n 0, 1) := by decide +kernel
theorem dX7_queryDepth_1 : decode cX7_queryDepth 1 = .ok (.invokevirtual 210, 3) := by decide +kernel
theorem dX7_queryDepth_4 : decode cX7_queryDepth 4 = .ok (.istore_n 1, 1) := by decide +kernel
theorem dX7_queryDepth_5 : decode cX7_queryDepth 5 = .ok (.iload_n 1, 1) := by decide +kernel
theorem dX7_queryDepth_6 : decode cX7_queryDepth 6 = .ok (.ifCond .ne 8, 3) := by decide +kernel
theorem dX7_queryDepth_9 : decode cX7_queryDepth 9 = .ok (.bipush (-7), 2) := by decide +kernel
theorem dX7_queryDepth_11 : decode cX7_queryDepth 11 = .ok (.goto 11, 3) := by decide +kernel
theorem dX7_queryDepth_14 : decode cX7_queryDepth 14 = .ok (.aload_n 0, 1) := by decide +kernel
theorem dX7_queryDepth_15 : decode cX7_queryDepth 15 = .ok (.getfield 63, 3) := by decide +kernel
theorem dX7_queryDepth_18 : decode cX7_queryDepth 18 = .ok (.iload_n 1, 1) := by decide +kernel
theorem dX7_queryDepth_19 : decode cX7_queryDepth 19 = .ok (.invokevirtual 216, 3) := by decide +kernel
theorem dX7_queryDepth_22 : decode cX7_queryDepth 22 = .ok (.ireturn, 1) := by decide +kernel
set_option maxRecDepth 20000 in
theorem ggX7_bestQuery_X7_versions : GoodIn wsX7_bestQuery wsX7_versions := goodIn_r _ [6, 7, 8, 9, 10, 11, 12, 13, 14, 15, 16, 17, 18, 19, 20, 21, 22, 23, 24, 25, 26, 27, 28, 29, 30, 31, 88, 89, 90, 91, 92, 93, 94, 95, 96, 97, 98, 99, 100, 101, 102, 103, 104, 105, 106] (by decide +kernel) (by decide +kernel)
set_option maxRecDepth 20000 in
theorem gX7_bestQuery_X7_versions : GoodIn wsX7_bestQuery (wsV RX7 210 RX7 yX7_versions wsX7_versions) := goodIn_app (goodIn_of _ (by decide +kernel)) ggX7_bestQuery_X7_versions
set_option maxRecDepth 20000 in
theorem ggX7_bestQuery_X2_best : GoodIn wsX7_bestQuery wsX2_best := goodIn_r _ [36, 37, 38, 39, 40, 41, 35, 42, 43, 44, 45, 46, 47, 48, 49, 50, 51, 52, 53, 54, 55, 56, 57, 58, 59, 60, 61, 62, 63, 64, 65, 66, 67, 68, 69, 70, 71, 72, 73, 74, 75, 76, 77, 78, 79, 80, 27, 28, 13, 29, 30, 31, 11, 12, 14, 15, 81, 82, 83, 84, 85, 86, 87, 107, 108, 100, 101, 102, 103, 104, 105, 106] (by decide +kernel) (by decide +kernel)
set_option maxRecDepth 20000 in
theorem gX7_bestQuery_X2_best : GoodIn wsX7_bestQuery (wsV RX7 219 RX2 yX2_best wsX2_best) := goodIn_app (goodIn_of _ (by decide +kernel)) ggX7_bestQuery_X2_best
theorem dX7_bestQuery_0 : decode cX7_bestQuery 0 = .ok (.aload_n 0, 1) := by decide +kernel
theorem dX7_bestQuery_1 : decode cX7_bestQuery 1 = .ok (.invokevirtual 210, 3) := by decide +kernel
theorem dX7_bestQuery_4 : decode cX7_bestQuery 4 = .ok (.istore_n 1, 1) := by decide +kernel
theorem dX7_bestQuery_5 : decode cX7_bestQuery 5 = .ok (.iload_n 1, 1) := by decide +kernel
theorem dX7_bestQuery_6 : decode cX7_bestQuery 6 = .ok (.ifCond .ne 8, 3) := by decide +kernel
theorem dX7_bestQuery_9 : decode cX7_bestQuery 9 = .ok (.bipush (-7), 2) := by decide +kernel
theorem dX7_bestQuery_11 : decode cX7_bestQuery 11 = .ok (.goto 11, 3) := by decide +kernel
theorem dX7_bestQuery_14 : decode cX7_bestQuery 14 = .ok (.aload_n 0, 1) := by decide +kernel
theorem dX7_bestQuery_15 : decode cX7_bestQuery 15 = .ok (.getfield 63, 3) := by decide +kernel
theorem dX7_bestQuery_18 : decode cX7_bestQuery 18 = .ok (.iload_n 1, 1) := by decide +kernel
theorem dX7_bestQuery_19 : decode cX7_bestQuery 19 = .ok (.invokevirtual 219, 3) := by decide +kernel
theorem dX7_bestQuery_22 : decode cX7_bestQuery 22 = .ok (.ireturn, 1) := by decide +kernel
set_option maxRecDepth 20000 in
theorem ggX7_halvingMistakes_X0_has : GoodIn wsX7_halvingMistakes wsX0_has := goodIn_r _ [7, 8, 49, 50, 51, 52, 53, 54, 55] (by decide +kernel) (by decide +kernel)
set_option maxRecDepth 20000 in
theorem gX7_halvingMistakes_X0_has : GoodIn wsX7_halvingMistakes (wsV RX7 99 RX0 yX0_has wsX0_has) := goodIn_app (goodIn_of _ (by decide +kernel)) ggX7_halvingMistakes_X0_has
set_option maxRecDepth 20000 in
theorem ggX7_halvingMistakes_X0_allNumbers : GoodIn wsX7_halvingMistakes wsX0_allNumbers := goodIn_r _ [12, 8, 49, 50, 51, 52, 53, 54, 55] (by decide +kernel) (by decide +kernel)
set_option maxRecDepth 20000 in
theorem gX7_halvingMistakes_X0_allNumbers : GoodIn wsX7_halvingMistakes (wsV RX7 222 RX0 yX0_allNumbers wsX0_allNumbers) := goodIn_app (goodIn_of _ (by decide +kernel)) ggX7_halvingMistakes_X0_allNumbers
set_option maxRecDepth 20000 in
theorem ggX7_halvingMistakes_X0_leadOfOnes : GoodIn wsX7_halvingMistakes wsX0_leadOfOnes := goodIn_r _ [16, 17, 18, 19, 6, 20, 21, 22, 10, 11, 12, 8, 23, 24, 25, 26, 27, 28, 29, 49, 50, 51, 52, 53, 54, 55] (by decide +kernel) (by decide +kernel)
set_option maxRecDepth 20000 in
theorem gX7_halvingMistakes_X0_leadOfOnes : GoodIn wsX7_halvingMistakes (wsV RX7 213 RX0 yX0_leadOfOnes wsX0_leadOfOnes) := goodIn_app (goodIn_of _ (by decide +kernel)) ggX7_halvingMistakes_X0_leadOfOnes
set_option maxRecDepth 20000 in
theorem ggX7_halvingMistakes_X0_labelOf : GoodIn wsX7_halvingMistakes wsX0_labelOf := goodIn_r _ [33, 34, 35, 36, 37, 49, 50, 51, 52, 53, 54, 55] (by decide +kernel) (by decide +kernel)
set_option maxRecDepth 20000 in
theorem gX7_halvingMistakes_X0_labelOf : GoodIn wsX7_halvingMistakes (wsV RX7 204 RX0 yX0_labelOf wsX0_labelOf) := goodIn_app (goodIn_of _ (by decide +kernel)) ggX7_halvingMistakes_X0_labelOf
set_option maxRecDepth 20000 in
theorem ggX7_halvingMistakes_X0_labelling : GoodIn wsX7_halvingMistakes wsX0_labelling := goodIn_r _ [20, 21, 22, 10, 11, 6, 12, 8, 49, 50, 51, 52, 53, 54, 55] (by decide +kernel) (by decide +kernel)
set_option maxRecDepth 20000 in
theorem gX7_halvingMistakes_X0_labelling : GoodIn wsX7_halvingMistakes (wsV RX7 225 RX0 yX0_labelling wsX0_labelling) := goodIn_app (goodIn_of _ (by decide +kernel)) ggX7_halvingMistakes_X0_labelling
theorem dX7_halvingMistakes_0 : decode cX7_halvingMistakes 0 = .ok (.aload_n 0, 1) := by decide +kernel
theorem dX7_halvingMistakes_1 : decode cX7_halvingMistakes 1 = .ok (.getfield 12, 3) := by decide +kernel
theorem dX7_halvingMistakes_4 : decode cX7_halvingMistakes 4 = .ok (.iload_n 1, 1) := by decide +kernel
theorem dX7_halvingMistakes_5 : decode cX7_halvingMistakes 5 = .ok (.invokevirtual 99, 3) := by decide +kernel
theorem dX7_halvingMistakes_8 : decode cX7_halvingMistakes 8 = .ok (.ifCond .ne 6, 3) := by decide +kernel
theorem dX7_halvingMistakes_11 : decode cX7_halvingMistakes 11 = .ok (.bipush (-2), 2) := by decide +kernel
theorem dX7_halvingMistakes_13 : decode cX7_halvingMistakes 13 = .ok (.ireturn, 1) := by decide +kernel
theorem dX7_halvingMistakes_14 : decode cX7_halvingMistakes 14 = .ok (.aload_n 0, 1) := by decide +kernel
theorem dX7_halvingMistakes_15 : decode cX7_halvingMistakes 15 = .ok (.getfield 12, 3) := by decide +kernel
theorem dX7_halvingMistakes_18 : decode cX7_halvingMistakes 18 = .ok (.invokevirtual 222, 3) := by decide +kernel
theorem dX7_halvingMistakes_21 : decode cX7_halvingMistakes 21 = .ok (.istore_n 2, 1) := by decide +kernel
theorem dX7_halvingMistakes_22 : decode cX7_halvingMistakes 22 = .ok (.iconst 0, 1) := by decide +kernel
theorem dX7_halvingMistakes_23 : decode cX7_halvingMistakes 23 = .ok (.istore_n 3, 1) := by decide +kernel
theorem dX7_halvingMistakes_24 : decode cX7_halvingMistakes 24 = .ok (.iconst 0, 1) := by decide +kernel
theorem dX7_halvingMistakes_25 : decode cX7_halvingMistakes 25 = .ok (.istore 4, 2) := by decide +kernel
theorem dX7_halvingMistakes_27 : decode cX7_halvingMistakes 27 = .ok (.iload 4, 2) := by decide +kernel
theorem dX7_halvingMistakes_29 : decode cX7_halvingMistakes 29 = .ok (.aload_n 0, 1) := by decide +kernel
theorem dX7_halvingMistakes_30 : decode cX7_halvingMistakes 30 = .ok (.getfield 12, 3) := by decide +kernel
theorem dX7_halvingMistakes_33 : decode cX7_halvingMistakes 33 = .ok (.getfield 74, 3) := by decide +kernel
theorem dX7_halvingMistakes_36 : decode cX7_halvingMistakes 36 = .ok (.if_icmp .ge 65, 3) := by decide +kernel
theorem dX7_halvingMistakes_39 : decode cX7_halvingMistakes 39 = .ok (.aload_n 0, 1) := by decide +kernel
theorem dX7_halvingMistakes_40 : decode cX7_halvingMistakes 40 = .ok (.getfield 12, 3) := by decide +kernel
theorem dX7_halvingMistakes_43 : decode cX7_halvingMistakes 43 = .ok (.iload_n 2, 1) := by decide +kernel
theorem dX7_halvingMistakes_44 : decode cX7_halvingMistakes 44 = .ok (.iload 4, 2) := by decide +kernel
theorem dX7_halvingMistakes_46 : decode cX7_halvingMistakes 46 = .ok (.invokevirtual 213, 3) := by decide +kernel
theorem dX7_halvingMistakes_49 : decode cX7_halvingMistakes 49 = .ok (.ifCond .le 7, 3) := by decide +kernel
theorem dX7_halvingMistakes_52 : decode cX7_halvingMistakes 52 = .ok (.iconst 1, 1) := by decide +kernel
theorem dX7_halvingMistakes_53 : decode cX7_halvingMistakes 53 = .ok (.goto 4, 3) := by decide +kernel
theorem dX7_halvingMistakes_56 : decode cX7_halvingMistakes 56 = .ok (.iconst 0, 1) := by decide +kernel
theorem dX7_halvingMistakes_57 : decode cX7_halvingMistakes 57 = .ok (.istore 5, 2) := by decide +kernel
theorem dX7_halvingMistakes_59 : decode cX7_halvingMistakes 59 = .ok (.aload_n 0, 1) := by decide +kernel
theorem dX7_halvingMistakes_60 : decode cX7_halvingMistakes 60 = .ok (.getfield 12, 3) := by decide +kernel
theorem dX7_halvingMistakes_63 : decode cX7_halvingMistakes 63 = .ok (.iload_n 1, 1) := by decide +kernel
theorem dX7_halvingMistakes_64 : decode cX7_halvingMistakes 64 = .ok (.iload 4, 2) := by decide +kernel
theorem dX7_halvingMistakes_66 : decode cX7_halvingMistakes 66 = .ok (.invokevirtual 204, 3) := by decide +kernel
theorem dX7_halvingMistakes_69 : decode cX7_halvingMistakes 69 = .ok (.istore 6, 2) := by decide +kernel
theorem dX7_halvingMistakes_71 : decode cX7_halvingMistakes 71 = .ok (.iload 5, 2) := by decide +kernel
theorem dX7_halvingMistakes_73 : decode cX7_halvingMistakes 73 = .ok (.iload 6, 2) := by decide +kernel
theorem dX7_halvingMistakes_75 : decode cX7_halvingMistakes 75 = .ok (.if_icmp .eq 6, 3) := by decide +kernel
theorem dX7_halvingMistakes_78 : decode cX7_halvingMistakes 78 = .ok (.iinc 3 1, 3) := by decide +kernel
theorem dX7_halvingMistakes_81 : decode cX7_halvingMistakes 81 = .ok (.iload_n 2, 1) := by decide +kernel
theorem dX7_halvingMistakes_82 : decode cX7_halvingMistakes 82 = .ok (.aload_n 0, 1) := by decide +kernel
theorem dX7_halvingMistakes_83 : decode cX7_halvingMistakes 83 = .ok (.getfield 12, 3) := by decide +kernel
theorem dX7_halvingMistakes_86 : decode cX7_halvingMistakes 86 = .ok (.iload 4, 2) := by decide +kernel
theorem dX7_halvingMistakes_88 : decode cX7_halvingMistakes 88 = .ok (.iload 6, 2) := by decide +kernel
theorem dX7_halvingMistakes_90 : decode cX7_halvingMistakes 90 = .ok (.invokevirtual 225, 3) := by decide +kernel
theorem dX7_halvingMistakes_93 : decode cX7_halvingMistakes 93 = .ok (.iand, 1) := by decide +kernel
theorem dX7_halvingMistakes_94 : decode cX7_halvingMistakes 94 = .ok (.istore_n 2, 1) := by decide +kernel
theorem dX7_halvingMistakes_95 : decode cX7_halvingMistakes 95 = .ok (.iinc 4 1, 3) := by decide +kernel
theorem dX7_halvingMistakes_98 : decode cX7_halvingMistakes 98 = .ok (.goto (-71), 3) := by decide +kernel
theorem dX7_halvingMistakes_101 : decode cX7_halvingMistakes 101 = .ok (.iload_n 3, 1) := by decide +kernel
theorem dX7_halvingMistakes_102 : decode cX7_halvingMistakes 102 = .ok (.ireturn, 1) := by decide +kernel
set_option maxRecDepth 20000 in
theorem ggX7_versions_X0_allNumbers : GoodIn wsX7_versions wsX0_allNumbers := goodIn_r _ [8, 9, 38, 39, 40, 41, 42, 43, 44] (by decide +kernel) (by decide +kernel)
set_option maxRecDepth 20000 in
theorem gX7_versions_X0_allNumbers : GoodIn wsX7_versions (wsV RX7 222 RX0 yX0_allNumbers wsX0_allNumbers) := goodIn_app (goodIn_of _ (by decide +kernel)) ggX7_versions_X0_allNumbers
set_option maxRecDepth 20000 in
theorem ggX7_versions_X3_pointAt : GoodIn wsX7_versions wsX3_pointAt := goodIn_r _ [14, 15, 36, 37] (by decide +kernel) (by decide +kernel)
set_option maxRecDepth 20000 in
theorem gX7_versions_X3_pointAt : GoodIn wsX7_versions (wsV RX7 228 RX3 yX3_pointAt wsX3_pointAt) := goodIn_app (goodIn_of _ (by decide +kernel)) ggX7_versions_X3_pointAt
set_option maxRecDepth 20000 in
theorem ggX7_versions_X3_labelAt : GoodIn wsX7_versions wsX3_labelAt := goodIn_r _ [19, 15, 36, 37] (by decide +kernel) (by decide +kernel)
set_option maxRecDepth 20000 in
theorem gX7_versions_X3_labelAt : GoodIn wsX7_versions (wsV RX7 231 RX3 yX3_labelAt wsX3_labelAt) := goodIn_app (goodIn_of _ (by decide +kernel)) ggX7_versions_X3_labelAt
set_option maxRecDepth 20000 in
theorem ggX7_versions_X0_labelling : GoodIn wsX7_versions wsX0_labelling := goodIn_r _ [23, 24, 25, 5, 6, 7, 8, 9, 38, 39, 40, 41, 42, 43, 44] (by decide +kernel) (by decide +kernel)
set_option maxRecDepth 20000 in
theorem gX7_versions_X0_labelling : GoodIn wsX7_versions (wsV RX7 225 RX0 yX0_labelling wsX0_labelling) := goodIn_app (goodIn_of _ (by decide +kernel)) ggX7_versions_X0_labelling
theorem dX7_versions_0 : decode cX7_versions 0 = .ok (.aload_n 0, 1) := by decide +kernel
theorem dX7_versions_1 : decode cX7_versions 1 = .ok (.getfield 12, 3) := by decide +kernel
theorem dX7_versions_4 : decode cX7_versions 4 = .ok (.invokevirtual 222, 3) := by decide +kernel
theorem dX7_versions_7 : decode cX7_versions 7 = .ok (.istore_n 1, 1) := by decide +kernel
theorem dX7_versions_8 : decode cX7_versions 8 = .ok (.iconst 0, 1) := by decide +kernel
theorem dX7_versions_9 : decode cX7_versions 9 = .ok (.istore_n 2, 1) := by decide +kernel
theorem dX7_versions_10 : decode cX7_versions 10 = .ok (.iload_n 2, 1) := by decide +kernel
theorem dX7_versions_11 : decode cX7_versions 11 = .ok (.aload_n 0, 1) := by decide +kernel
theorem dX7_versions_12 : decode cX7_versions 12 = .ok (.getfield 21, 3) := by decide +kernel
theorem dX7_versions_15 : decode cX7_versions 15 = .ok (.getfield 200, 3) := by decide +kernel
theorem dX7_versions_18 : decode cX7_versions 18 = .ok (.if_icmp .ge 35, 3) := by decide +kernel
theorem dX7_versions_21 : decode cX7_versions 21 = .ok (.iload_n 1, 1) := by decide +kernel
theorem dX7_versions_22 : decode cX7_versions 22 = .ok (.aload_n 0, 1) := by decide +kernel
theorem dX7_versions_23 : decode cX7_versions 23 = .ok (.getfield 12, 3) := by decide +kernel
theorem dX7_versions_26 : decode cX7_versions 26 = .ok (.aload_n 0, 1) := by decide +kernel
theorem dX7_versions_27 : decode cX7_versions 27 = .ok (.getfield 21, 3) := by decide +kernel
theorem dX7_versions_30 : decode cX7_versions 30 = .ok (.iload_n 2, 1) := by decide +kernel
theorem dX7_versions_31 : decode cX7_versions 31 = .ok (.invokevirtual 228, 3) := by decide +kernel
theorem dX7_versions_34 : decode cX7_versions 34 = .ok (.aload_n 0, 1) := by decide +kernel
theorem dX7_versions_35 : decode cX7_versions 35 = .ok (.getfield 21, 3) := by decide +kernel
theorem dX7_versions_38 : decode cX7_versions 38 = .ok (.iload_n 2, 1) := by decide +kernel
theorem dX7_versions_39 : decode cX7_versions 39 = .ok (.invokevirtual 231, 3) := by decide +kernel
