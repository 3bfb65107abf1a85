theorem dX7_versions_42 : decode cX7_versions 42 = .ok (.invokevirtual 225, 3) := by decide +kernel
theorem dX7_versions_45 : decode cX7_versions 45 = .ok (.iand, 1) := by decide +kernel
theorem dX7_versions_46 : decode cX7_versions 46 = .ok (.istore_n 1, 1) := by decide +kernel
theorem dX7_versions_47 : decode cX7_versions 47 = .ok (.iinc 2 1, 3) := by decide +kernel
theorem dX7_versions_50 : decode cX7_versions 50 = .ok (.goto (-40), 3) := by decide +kernel
theorem dX7_versions_53 : decode cX7_versions 53 = .ok (.iload_n 1, 1) := by decide +kernel
theorem dX7_versions_54 : decode cX7_versions 54 = .ok (.ireturn, 1) := by decide +kernel
set_option maxRecDepth 20000 in
theorem ggX7_allocate_X7_isSlot : GoodIn wsX7_allocate wsX7_isSlot := goodIn_r _ [5] (by decide +kernel) (by decide +kernel)
set_option maxRecDepth 20000 in
theorem gX7_allocate_X7_isSlot : GoodIn wsX7_allocate (va_wsS RX7 234 yX7_isSlot wsX7_isSlot) := goodIn_app (goodIn_of _ (by decide +kernel)) ggX7_allocate_X7_isSlot
set_option maxRecDepth 20000 in
theorem ggX7_allocate_X5_hold : GoodIn wsX7_allocate wsX5_hold := goodIn_r _ [10, 11, 12, 13, 14, 15, 16, 17, 18, 19, 20, 21, 32, 33, 34, 35] (by decide +kernel) (by decide +kernel)
set_option maxRecDepth 20000 in
theorem gX7_allocate_X5_hold : GoodIn wsX7_allocate (wsV RX7 237 RX5 yX5_hold wsX5_hold) := goodIn_app (goodIn_of _ (by decide +kernel)) ggX7_allocate_X5_hold
theorem dX7_allocate_0 : decode cX7_allocate 0 = .ok (.iload_n 1, 1) := by decide +kernel
theorem dX7_allocate_1 : decode cX7_allocate 1 = .ok (.invokestatic 234, 3) := by decide +kernel
theorem dX7_allocate_4 : decode cX7_allocate 4 = .ok (.ifCond .eq 18, 3) := by decide +kernel
theorem dX7_allocate_7 : decode cX7_allocate 7 = .ok (.iload_n 2, 1) := by decide +kernel
theorem dX7_allocate_8 : decode cX7_allocate 8 = .ok (.ifCond .lt 14, 3) := by decide +kernel
theorem dX7_allocate_11 : decode cX7_allocate 11 = .ok (.iload_n 2, 1) := by decide +kernel
theorem dX7_allocate_12 : decode cX7_allocate 12 = .ok (.iconst 3, 1) := by decide +kernel
theorem dX7_allocate_13 : decode cX7_allocate 13 = .ok (.if_icmp .gt 9, 3) := by decide +kernel
theorem dX7_allocate_16 : decode cX7_allocate 16 = .ok (.iload_n 3, 1) := by decide +kernel
theorem dX7_allocate_17 : decode cX7_allocate 17 = .ok (.bipush 40, 2) := by decide +kernel
theorem dX7_allocate_19 : decode cX7_allocate 19 = .ok (.if_icmp .le 5, 3) := by decide +kernel
theorem dX7_allocate_22 : decode cX7_allocate 22 = .ok (.iconst (-1), 1) := by decide +kernel
theorem dX7_allocate_23 : decode cX7_allocate 23 = .ok (.ireturn, 1) := by decide +kernel
theorem dX7_allocate_24 : decode cX7_allocate 24 = .ok (.iload_n 3, 1) := by decide +kernel
theorem dX7_allocate_25 : decode cX7_allocate 25 = .ok (.ifCond .ge 6, 3) := by decide +kernel
theorem dX7_allocate_28 : decode cX7_allocate 28 = .ok (.bipush (-14), 2) := by decide +kernel
theorem dX7_allocate_30 : decode cX7_allocate 30 = .ok (.ireturn, 1) := by decide +kernel
theorem dX7_allocate_31 : decode cX7_allocate 31 = .ok (.aload_n 0, 1) := by decide +kernel
theorem dX7_allocate_32 : decode cX7_allocate 32 = .ok (.getfield 69, 3) := by decide +kernel
theorem dX7_allocate_35 : decode cX7_allocate 35 = .ok (.iload_n 1, 1) := by decide +kernel
theorem dX7_allocate_36 : decode cX7_allocate 36 = .ok (.aaload, 1) := by decide +kernel
theorem dX7_allocate_37 : decode cX7_allocate 37 = .ok (.iload_n 2, 1) := by decide +kernel
theorem dX7_allocate_38 : decode cX7_allocate 38 = .ok (.iload_n 3, 1) := by decide +kernel
theorem dX7_allocate_39 : decode cX7_allocate 39 = .ok (.invokevirtual 237, 3) := by decide +kernel
theorem dX7_allocate_42 : decode cX7_allocate 42 = .ok (.iload_n 3, 1) := by decide +kernel
theorem dX7_allocate_43 : decode cX7_allocate 43 = .ok (.ireturn, 1) := by decide +kernel
set_option maxRecDepth 20000 in
theorem ggX7_release_X7_isSlot : GoodIn wsX7_release wsX7_isSlot := goodIn_r _ [5] (by decide +kernel) (by decide +kernel)
set_option maxRecDepth 20000 in
theorem gX7_release_X7_isSlot : GoodIn wsX7_release (va_wsS RX7 234 yX7_isSlot wsX7_isSlot) := goodIn_app (goodIn_of _ (by decide +kernel)) ggX7_release_X7_isSlot
set_option maxRecDepth 20000 in
theorem ggX7_release_X5_isEmpty : GoodIn wsX7_release wsX5_isEmpty := goodIn_r _ [10, 11, 36, 37, 38, 39] (by decide +kernel) (by decide +kernel)
set_option maxRecDepth 20000 in
theorem gX7_release_X5_isEmpty : GoodIn wsX7_release (wsV RX7 240 RX5 yX5_isEmpty wsX5_isEmpty) := goodIn_app (goodIn_of _ (by decide +kernel)) ggX7_release_X5_isEmpty
set_option maxRecDepth 20000 in
theorem ggX7_release_X5_hold : GoodIn wsX7_release wsX5_hold := goodIn_r _ [15, 11, 16, 17, 18, 19, 20, 21, 22, 23, 24, 25, 36, 37, 38, 39] (by decide +kernel) (by decide +kernel)
set_option maxRecDepth 20000 in
theorem gX7_release_X5_hold : GoodIn wsX7_release (wsV RX7 237 RX5 yX5_hold wsX5_hold) := goodIn_app (goodIn_of _ (by decide +kernel)) ggX7_release_X5_hold
theorem dX7_release_0 : decode cX7_release 0 = .ok (.iload_n 1, 1) := by decide +kernel
theorem dX7_release_1 : decode cX7_release 1 = .ok (.invokestatic 234, 3) := by decide +kernel
theorem dX7_release_4 : decode cX7_release 4 = .ok (.ifCond .ne 5, 3) := by decide +kernel
theorem dX7_release_7 : decode cX7_release 7 = .ok (.iconst (-1), 1) := by decide +kernel
theorem dX7_release_8 : decode cX7_release 8 = .ok (.ireturn, 1) := by decide +kernel
theorem dX7_release_9 : decode cX7_release 9 = .ok (.aload_n 0, 1) := by decide +kernel
theorem dX7_release_10 : decode cX7_release 10 = .ok (.getfield 69, 3) := by decide +kernel
theorem dX7_release_13 : decode cX7_release 13 = .ok (.iload_n 1, 1) := by decide +kernel
theorem dX7_release_14 : decode cX7_release 14 = .ok (.aaload, 1) := by decide +kernel
theorem dX7_release_15 : decode cX7_release 15 = .ok (.invokevirtual 240, 3) := by decide +kernel
theorem dX7_release_18 : decode cX7_release 18 = .ok (.ifCond .ne 7, 3) := by decide +kernel
theorem dX7_release_21 : decode cX7_release 21 = .ok (.iconst 1, 1) := by decide +kernel
theorem dX7_release_22 : decode cX7_release 22 = .ok (.goto 4, 3) := by decide +kernel
theorem dX7_release_25 : decode cX7_release 25 = .ok (.iconst 0, 1) := by decide +kernel
theorem dX7_release_26 : decode cX7_release 26 = .ok (.istore_n 2, 1) := by decide +kernel
theorem dX7_release_27 : decode cX7_release 27 = .ok (.aload_n 0, 1) := by decide +kernel
theorem dX7_release_28 : decode cX7_release 28 = .ok (.getfield 69, 3) := by decide +kernel
theorem dX7_release_31 : decode cX7_release 31 = .ok (.iload_n 1, 1) := by decide +kernel
theorem dX7_release_32 : decode cX7_release 32 = .ok (.aaload, 1) := by decide +kernel
theorem dX7_release_33 : decode cX7_release 33 = .ok (.iconst (-1), 1) := by decide +kernel
theorem dX7_release_34 : decode cX7_release 34 = .ok (.iconst 0, 1) := by decide +kernel
theorem dX7_release_35 : decode cX7_release 35 = .ok (.invokevirtual 237, 3) := by decide +kernel
theorem dX7_release_38 : decode cX7_release 38 = .ok (.iload_n 2, 1) := by decide +kernel
theorem dX7_release_39 : decode cX7_release 39 = .ok (.ifCond .eq 7, 3) := by decide +kernel
theorem dX7_release_42 : decode cX7_release 42 = .ok (.iconst 1, 1) := by decide +kernel
theorem dX7_release_43 : decode cX7_release 43 = .ok (.goto 4, 3) := by decide +kernel
theorem dX7_release_46 : decode cX7_release 46 = .ok (.iconst 0, 1) := by decide +kernel
theorem dX7_release_47 : decode cX7_release 47 = .ok (.ireturn, 1) := by decide +kernel
set_option maxRecDepth 20000 in
theorem ggX7_putElement_X7_isSlot : GoodIn wsX7_putElement wsX7_isSlot := goodIn_r _ [5] (by decide +kernel) (by decide +kernel)
set_option maxRecDepth 20000 in
theorem gX7_putElement_X7_isSlot : GoodIn wsX7_putElement (va_wsS RX7 234 yX7_isSlot wsX7_isSlot) := goodIn_app (goodIn_of _ (by decide +kernel)) ggX7_putElement_X7_isSlot
set_option maxRecDepth 20000 in
theorem ggX7_putElement_X5_isEmpty : GoodIn wsX7_putElement wsX5_isEmpty := goodIn_r _ [10, 11, 33, 34, 35, 36] (by decide +kernel) (by decide +kernel)
set_option maxRecDepth 20000 in
theorem gX7_putElement_X5_isEmpty : GoodIn wsX7_putElement (wsV RX7 240 RX5 yX5_isEmpty wsX5_isEmpty) := goodIn_app (goodIn_of _ (by decide +kernel)) ggX7_putElement_X5_isEmpty
set_option maxRecDepth 20000 in
theorem ggX7_putElement_X5_hasIndex : GoodIn wsX7_putElement wsX5_hasIndex := goodIn_r _ [15, 16, 33, 34, 35, 36] (by decide +kernel) (by decide +kernel)
set_option maxRecDepth 20000 in
theorem gX7_putElement_X5_hasIndex : GoodIn wsX7_putElement (wsV RX7 244 RX5 yX5_hasIndex wsX5_hasIndex) := goodIn_app (goodIn_of _ (by decide +kernel)) ggX7_putElement_X5_hasIndex
set_option maxRecDepth 20000 in
theorem ggX7_putElement_X5_put : GoodIn wsX7_putElement wsX5_put := goodIn_r _ [20, 11, 21, 22, 33, 34, 35, 36] (by decide +kernel) (by decide +kernel)
set_option maxRecDepth 20000 in
theorem gX7_putElement_X5_put : GoodIn wsX7_putElement (wsV RX7 247 RX5 yX5_put wsX5_put) := goodIn_app (goodIn_of _ (by decide +kernel)) ggX7_putElement_X5_put
theorem dX7_putElement_0 : decode cX7_putElement 0 = .ok (.iload_n 1, 1) := by decide +kernel
theorem dX7_putElement_1 : decode cX7_putElement 1 = .ok (.invokestatic 234, 3) := by decide +kernel
theorem dX7_putElement_4 : decode cX7_putElement 4 = .ok (.ifCond .ne 5, 3) := by decide +kernel
theorem dX7_putElement_7 : decode cX7_putElement 7 = .ok (.iconst (-1), 1) := by decide +kernel
theorem dX7_putElement_8 : decode cX7_putElement 8 = .ok (.ireturn, 1) := by decide +kernel
theorem dX7_putElement_9 : decode cX7_putElement 9 = .ok (.aload_n 0, 1) := by decide +kernel
theorem dX7_putElement_10 : decode cX7_putElement 10 = .ok (.getfield 69, 3) := by decide +kernel
theorem dX7_putElement_13 : decode cX7_putElement 13 = .ok (.iload_n 1, 1) := by decide +kernel
theorem dX7_putElement_14 : decode cX7_putElement 14 = .ok (.aaload, 1) := by decide +kernel
theorem dX7_putElement_15 : decode cX7_putElement 15 = .ok (.invokevirtual 240, 3) := by decide +kernel
theorem dX7_putElement_18 : decode cX7_putElement 18 = .ok (.ifCond .eq 6, 3) := by decide +kernel
theorem dX7_putElement_21 : decode cX7_putElement 21 = .ok (.bipush (-11), 2) := by decide +kernel
theorem dX7_putElement_23 : decode cX7_putElement 23 = .ok (.ireturn, 1) := by decide +kernel
theorem dX7_putElement_24 : decode cX7_putElement 24 = .ok (.aload_n 0, 1) := by decide +kernel
theorem dX7_putElement_25 : decode cX7_putElement 25 = .ok (.getfield 69, 3) := by decide +kernel
theorem dX7_putElement_28 : decode cX7_putElement 28 = .ok (.iload_n 1, 1) := by decide +kernel
theorem dX7_putElement_29 : decode cX7_putElement 29 = .ok (.aaload, 1) := by decide +kernel
theorem dX7_putElement_30 : decode cX7_putElement 30 = .ok (.iload_n 2, 1) := by decide +kernel
theorem dX7_putElement_31 : decode cX7_putElement 31 = .ok (.invokevirtual 244, 3) := by decide +kernel
theorem dX7_putElement_34 : decode cX7_putElement 34 = .ok (.ifCond .ne 6, 3) := by decide +kernel
theorem dX7_putElement_37 : decode cX7_putElement 37 = .ok (.bipush (-13), 2) := by decide +kernel
theorem dX7_putElement_39 : decode cX7_putElement 39 = .ok (.ireturn, 1) := by decide +kernel
theorem dX7_putElement_40 : decode cX7_putElement 40 = .ok (.aload_n 0, 1) := by decide +kernel
theorem dX7_putElement_41 : decode cX7_putElement 41 = .ok (.getfield 69, 3) := by decide +kernel
theorem dX7_putElement_44 : decode cX7_putElement 44 = .ok (.iload_n 1, 1) := by decide +kernel
theorem dX7_putElement_45 : decode cX7_putElement 45 = .ok (.aaload, 1) := by decide +kernel
theorem dX7_putElement_46 : decode cX7_putElement 46 = .ok (.iload_n 2, 1) := by decide +kernel
theorem dX7_putElement_47 : decode cX7_putElement 47 = .ok (.lload_n 3, 1) := by decide +kernel
theorem dX7_putElement_48 : decode cX7_putElement 48 = .ok (.invokevirtual 247, 3) := by decide +kernel
theorem dX7_putElement_51 : decode cX7_putElement 51 = .ok (.iconst 1, 1) := by decide +kernel
theorem dX7_putElement_52 : decode cX7_putElement 52 = .ok (.ireturn, 1) := by decide +kernel
set_option maxRecDepth 20000 in
theorem ggX7_element_X7_isSlot : GoodIn wsX7_element wsX7_isSlot := goodIn_r _ [6] (by decide +kernel) (by decide +kernel)
set_option maxRecDepth 20000 in
theorem gX7_element_X7_isSlot : GoodIn wsX7_element (va_wsS RX7 234 yX7_isSlot wsX7_isSlot) := goodIn_app (goodIn_of _ (by decide +kernel)) ggX7_element_X7_isSlot
set_option maxRecDepth 20000 in
theorem ggX7_element_X5_hasIndex : GoodIn wsX7_element wsX5_hasIndex := goodIn_r _ [11, 12, 30, 31, 32, 33] (by decide +kernel) (by decide +kernel)
set_option maxRecDepth 20000 in
theorem gX7_element_X5_hasIndex : GoodIn wsX7_element (wsV RX7 244 RX5 yX5_hasIndex wsX5_hasIndex) := goodIn_app (goodIn_of _ (by decide +kernel)) ggX7_element_X5_hasIndex
set_option maxRecDepth 20000 in
theorem ggX7_element_X5_get : GoodIn wsX7_element wsX5_get := goodIn_r _ [16, 17, 18, 19, 30, 31, 32, 33] (by decide +kernel) (by decide +kernel)
set_option maxRecDepth 20000 in
theorem gX7_element_X5_get : GoodIn wsX7_element (wsV RX7 253 RX5 yX5_get wsX5_get) := goodIn_app (goodIn_of _ (by decide +kernel)) ggX7_element_X5_get
theorem dX7_element_0 : decode cX7_element 0 = .ok (.iload_n 1, 1) := by decide +kernel
theorem dX7_element_1 : decode cX7_element 1 = .ok (.invokestatic 234, 3) := by decide +kernel
theorem dX7_element_4 : decode cX7_element 4 = .ok (.ifCond .eq 16, 3) := by decide +kernel
theorem dX7_element_7 : decode cX7_element 7 = .ok (.aload_n 0, 1) := by decide +kernel
theorem dX7_element_8 : decode cX7_element 8 = .ok (.getfield 69, 3) := by decide +kernel
theorem dX7_element_11 : decode cX7_element 11 = .ok (.iload_n 1, 1) := by decide +kernel
theorem dX7_element_12 : decode cX7_element 12 = .ok (.aaload, 1) := by decide +kernel
theorem dX7_element_13 : decode cX7_element 13 = .ok (.iload_n 2, 1) := by decide +kernel
theorem dX7_element_14 : decode cX7_element 14 = .ok (.invokevirtual 244, 3) := by decide +kernel
theorem dX7_element_17 : decode cX7_element 17 = .ok (.ifCond .ne 7, 3) := by decide +kernel
theorem dX7_element_20 : decode cX7_element 20 = .ok (.ldc2_w 251, 3) := by decide +kernel
theorem dX7_element_23 : decode cX7_element 23 = .ok (.lreturn, 1) := by decide +kernel
theorem dX7_element_24 : decode cX7_element 24 = .ok (.aload_n 0, 1) := by decide +kernel
theorem dX7_element_25 : decode cX7_element 25 = .ok (.getfield 69, 3) := by decide +kernel
theorem dX7_element_28 : decode cX7_element 28 = .ok (.iload_n 1, 1) := by decide +kernel
theorem dX7_element_29 : decode cX7_element 29 = .ok (.aaload, 1) := by decide +kernel
theorem dX7_element_30 : decode cX7_element 30 = .ok (.iload_n 2, 1) := by decide +kernel
theorem dX7_element_31 : decode cX7_element 31 = .ok (.invokevirtual 253, 3) := by decide +kernel
theorem dX7_element_34 : decode cX7_element 34 = .ok (.lreturn, 1) := by decide +kernel
set_option maxRecDepth 20000 in
theorem ggX7_copyElements_X7_isSlot : GoodIn wsX7_copyElements wsX7_isSlot := goodIn_r _ [6] (by decide +kernel) (by decide +kernel)
set_option maxRecDepth 20000 in
theorem gX7_copyElements_X7_isSlot : GoodIn wsX7_copyElements (va_wsS RX7 234 yX7_isSlot wsX7_isSlot) := goodIn_app (goodIn_of _ (by decide +kernel)) ggX7_copyElements_X7_isSlot
set_option maxRecDepth 20000 in
theorem ggX7_copyElements_X5_isEmpty : GoodIn wsX7_copyElements wsX5_isEmpty := goodIn_r _ [11, 12, 38, 39, 40, 41] (by decide +kernel) (by decide +kernel)
set_option maxRecDepth 20000 in
theorem gX7_copyElements_X5_isEmpty : GoodIn wsX7_copyElements (wsV RX7 240 RX5 yX5_isEmpty wsX5_isEmpty) := goodIn_app (goodIn_of _ (by decide +kernel)) ggX7_copyElements_X5_isEmpty
set_option maxRecDepth 20000 in
theorem ggX7_copyElements_X5_hasStretch : GoodIn wsX7_copyElements wsX5_hasStretch := goodIn_r _ [16, 17, 38, 39, 40, 41] (by decide +kernel) (by decide +kernel)
set_option maxRecDepth 20000 in
theorem gX7_copyElements_X5_hasStretch : GoodIn wsX7_copyElements (wsV RX7 260 RX5 yX5_hasStretch wsX5_hasStretch) := goodIn_app (goodIn_of _ (by decide +kernel)) ggX7_copyElements_X5_hasStretch
set_option maxRecDepth 20000 in
theorem ggX7_copyElements_X5_take : GoodIn wsX7_copyElements wsX5_take := goodIn_r _ [21, 12, 22, 23, 24, 25, 26, 27, 38, 39, 40, 41] (by decide +kernel) (by decide +kernel)
set_option maxRecDepth 20000 in
theorem gX7_copyElements_X5_take : GoodIn wsX7_copyElements (wsV RX7 263 RX5 yX5_take wsX5_take) := goodIn_app (goodIn_of _ (by decide +kernel)) ggX7_copyElements_X5_take
theorem dX7_copyElements_0 : decode cX7_copyElements 0 = .ok (.iload_n 1, 1) := by decide +kernel
theorem dX7_copyElements_1 : decode cX7_copyElements 1 = .ok (.invokestatic 234, 3) := by decide +kernel
theorem dX7_copyElements_4 : decode cX7_copyElements 4 = .ok (.ifCond .eq 10, 3) := by decide +kernel
theorem dX7_copyElements_7 : decode cX7_copyElements 7 = .ok (.iload_n 3, 1) := by decide +kernel
theorem dX7_copyElements_8 : decode cX7_copyElements 8 = .ok (.invokestatic 234, 3) := by decide +kernel
theorem dX7_copyElements_11 : decode cX7_copyElements 11 = .ok (.ifCond .ne 5, 3) := by decide +kernel
theorem dX7_copyElements_14 : decode cX7_copyElements 14 = .ok (.iconst (-1), 1) := by decide +kernel
theorem dX7_copyElements_15 : decode cX7_copyElements 15 = .ok (.ireturn, 1) := by decide +kernel
theorem dX7_copyElements_16 : decode cX7_copyElements 16 = .ok (.aload_n 0, 1) := by decide +kernel
theorem dX7_copyElements_17 : decode cX7_copyElements 17 = .ok (.getfield 69, 3) := by decide +kernel
theorem dX7_copyElements_20 : decode cX7_copyElements 20 = .ok (.iload_n 1, 1) := by decide +kernel
theorem dX7_copyElements_21 : decode cX7_copyElements 21 = .ok (.aaload, 1) := by decide +kernel
theorem dX7_copyElements_22 : decode cX7_copyElements 22 = .ok (.astore 6, 2) := by decide +kernel
theorem dX7_copyElements_24 : decode cX7_copyElements 24 = .ok (.aload_n 0, 1) := by decide +kernel
theorem dX7_copyElements_25 : decode cX7_copyElements 25 = .ok (.getfield 69, 3) := by decide +kernel
theorem dX7_copyElements_28 : decode cX7_copyElements 28 = .ok (.iload_n 3, 1) := by decide +kernel
theorem dX7_copyElements_29 : decode cX7_copyElements 29 = .ok (.aaload, 1) := by decide +kernel
theorem dX7_copyElements_30 : decode cX7_copyElements 30 = .ok (.astore 7, 2) := by decide +kernel
theorem dX7_copyElements_32 : decode cX7_copyElements 32 = .ok (.aload 6, 2) := by decide +kernel
theorem dX7_copyElements_34 : decode cX7_copyElements 34 = .ok (.invokevirtual 240, 3) := by decide +kernel
theorem dX7_copyElements_37 : decode cX7_copyElements 37 = .ok (.ifCond .ne 11, 3) := by decide +kernel
theorem dX7_copyElements_40 : decode cX7_copyElements 40 = .ok (.aload 7, 2) := by decide +kernel
theorem dX7_copyElements_42 : decode cX7_copyElements 42 = .ok (.invokevirtual 240, 3) := by decide +kernel
theorem dX7_copyElements_45 : decode cX7_copyElements 45 = .ok (.ifCond .eq 6, 3) := by decide +kernel
theorem dX7_copyElements_48 : decode cX7_copyElements 48 = .ok (.bipush (-11), 2) := by decide +kernel
theorem dX7_copyElements_50 : decode cX7_copyElements 50 = .ok (.ireturn, 1) := by decide +kernel
theorem dX7_copyElements_51 : decode cX7_copyElements 51 = .ok (.aload 6, 2) := by decide +kernel
theorem dX7_copyElements_53 : decode cX7_copyElements 53 = .ok (.getfield 257, 3) := by decide +kernel
theorem dX7_copyElements_56 : decode cX7_copyElements 56 = .ok (.aload 7, 2) := by decide +kernel
theorem dX7_copyElements_58 : decode cX7_copyElements 58 = .ok (.getfield 257, 3) := by decide +kernel
theorem dX7_copyElements_61 : decode cX7_copyElements 61 = .ok (.if_icmp .eq 6, 3) := by decide +kernel
theorem dX7_copyElements_64 : decode cX7_copyElements 64 = .ok (.bipush (-12), 2) := by decide +kernel
theorem dX7_copyElements_66 : decode cX7_copyElements 66 = .ok (.ireturn, 1) := by decide +kernel
theorem dX7_copyElements_67 : decode cX7_copyElements 67 = .ok (.aload 6, 2) := by decide +kernel
theorem dX7_copyElements_69 : decode cX7_copyElements 69 = .ok (.iload_n 2, 1) := by decide +kernel
theorem dX7_copyElements_70 : decode cX7_copyElements 70 = .ok (.iload 5, 2) := by decide +kernel
theorem dX7_copyElements_72 : decode cX7_copyElements 72 = .ok (.invokevirtual 260, 3) := by decide +kernel
theorem dX7_copyElements_75 : decode cX7_copyElements 75 = .ok (.ifCond .eq 15, 3) := by decide +kernel
theorem dX7_copyElements_78 : decode cX7_copyElements 78 = .ok (.aload 7, 2) := by decide +kernel
theorem dX7_copyElements_80 : decode cX7_copyElements 80 = .ok (.iload 4, 2) := by decide +kernel
theorem dX7_copyElements_82 : decode cX7_copyElements 82 = .ok (.iload 5, 2) := by decide +kernel
theorem dX7_copyElements_84 : decode cX7_copyElements 84 = .ok (.invokevirtual 260, 3) := by decide +kernel
theorem dX7_copyElements_87 : decode cX7_copyElements 87 = .ok (.ifCond .ne 6, 3) := by decide +kernel
theorem dX7_copyElements_90 : decode cX7_copyElements 90 = .ok (.bipush (-13), 2) := by decide +kernel
theorem dX7_copyElements_92 : decode cX7_copyElements 92 = .ok (.ireturn, 1) := by decide +kernel
theorem dX7_copyElements_93 : decode cX7_copyElements 93 = .ok (.aload 7, 2) := by decide +kernel
theorem dX7_copyElements_95 : decode cX7_copyElements 95 = .ok (.iload 4, 2) := by decide +kernel
theorem dX7_copyElements_97 : decode cX7_copyElements 97 = .ok (.aload 6, 2) := by decide +kernel
theorem dX7_copyElements_99 : decode cX7_copyElements 99 = .ok (.iload_n 2, 1) := by decide +kernel
theorem dX7_copyElements_100 : decode cX7_copyElements 100 = .ok (.iload 5, 2) := by decide +kernel
theorem dX7_copyElements_102 : decode cX7_copyElements 102 = .ok (.invokevirtual 263, 3) := by decide +kernel
theorem dX7_copyElements_105 : decode cX7_copyElements 105 = .ok (.iload 5, 2) := by decide +kernel
theorem dX7_copyElements_107 : decode cX7_copyElements 107 = .ok (.ireturn, 1) := by decide +kernel
set_option maxRecDepth 20000 in
theorem ggX7_loadClass_X7_isSlot : GoodIn wsX7_loadClass wsX7_isSlot := goodIn_r _ [11] (by decide +kernel) (by decide +kernel)
set_option maxRecDepth 20000 in
theorem gX7_loadClass_X7_isSlot : GoodIn wsX7_loadClass (va_wsS RX7 234 yX7_isSlot wsX7_isSlot) := goodIn_app (goodIn_of _ (by decide +kernel)) ggX7_loadClass_X7_isSlot
set_option maxRecDepth 20000 in
theorem ggX7_loadClass_X5_isEmpty : GoodIn wsX7_loadClass wsX5_isEmpty := goodIn_r _ [16, 17, 86, 87, 88, 89] (by decide +kernel) (by decide +kernel)
set_option maxRecDepth 20000 in
theorem gX7_loadClass_X5_isEmpty : GoodIn wsX7_loadClass (wsV RX7 240 RX5 yX5_isEmpty wsX5_isEmpty) := goodIn_app (goodIn_of _ (by decide +kernel)) ggX7_loadClass_X5_isEmpty
set_option maxRecDepth 20000 in
theorem ggX7_loadClass_X0_begin : GoodIn wsX7_loadClass wsX0_begin := goodIn_r _ [22, 23, 24, 25, 26, 27, 21, 28, 29, 30, 31, 32, 33, 34, 35, 36, 37, 38, 39, 40, 10, 41, 90, 91, 92, 93, 94, 95, 96] (by decide +kernel) (by decide +kernel)
set_option maxRecDepth 20000 in
theorem gX7_loadClass_X0_begin : GoodIn wsX7_loadClass (wsV RX7 78 RX0 yX0_begin wsX0_begin) := goodIn_app (goodIn_of _ (by decide +kernel)) ggX7_loadClass_X0_begin
set_option maxRecDepth 20000 in
theorem ggX7_loadClass_X3_forget : GoodIn wsX7_loadClass wsX3_forget := goodIn_r _ [46, 47, 97, 98] (by decide +kernel) (by decide +kernel)
set_option maxRecDepth 20000 in
theorem gX7_loadClass_X3_forget : GoodIn wsX7_loadClass (wsV RX7 82 RX3 yX3_forget wsX3_forget) := goodIn_app (goodIn_of _ (by decide +kernel)) ggX7_loadClass_X3_forget
set_option maxRecDepth 20000 in
theorem ggX7_loadClass_X5_get : GoodIn wsX7_loadClass wsX5_get := goodIn_r _ [51, 17, 52, 53, 86, 87, 88, 89] (by decide +kernel) (by decide +kernel)
set_option maxRecDepth 20000 in
theorem gX7_loadClass_X5_get : GoodIn wsX7_loadClass (wsV RX7 253 RX5 yX5_get wsX5_get) := goodIn_app (goodIn_of _ (by decide +kernel)) ggX7_loadClass_X5_get
set_option maxRecDepth 20000 in
theorem ggX7_loadClass_X0_isSet : GoodIn wsX7_loadClass wsX0_isSet := goodIn_r _ [57, 58, 59, 60, 21, 61, 23, 90, 91, 92, 93, 94, 95, 96] (by decide +kernel) (by decide +kernel)
set_option maxRecDepth 20000 in
theorem gX7_loadClass_X0_isSet : GoodIn wsX7_loadClass (wsV RX7 85 RX0 yX0_isSet wsX0_isSet) := goodIn_app (goodIn_of _ (by decide +kernel)) ggX7_loadClass_X0_isSet
set_option maxRecDepth 20000 in
theorem ggX7_loadClass_X0_addIfNew : GoodIn wsX7_loadClass wsX0_addIfNew := goodIn_r _ [65, 24, 39, 30, 66, 67, 68, 21, 69, 70, 71, 72, 73, 74, 75, 35, 36, 37, 38, 23, 29, 40, 10, 41, 90, 91, 92, 93, 94, 95, 96] (by decide +kernel) (by decide +kernel)
set_option maxRecDepth 20000 in
theorem gX7_loadClass_X0_addIfNew : GoodIn wsX7_loadClass (wsV RX7 93 RX0 yX0_addIfNew wsX0_addIfNew) := goodIn_app (goodIn_of _ (by decide +kernel)) ggX7_loadClass_X0_addIfNew
theorem dX7_loadClass_0 : decode cX7_loadClass 0 = .ok (.iload_n 1, 1) := by decide +kernel
theorem dX7_loadClass_1 : decode cX7_loadClass 1 = .ok (.invokestatic 234, 3) := by decide +kernel
theorem dX7_loadClass_4 : decode cX7_loadClass 4 = .ok (.ifCond .ne 5, 3) := by decide +kernel
theorem dX7_loadClass_7 : decode cX7_loadClass 7 = .ok (.iconst (-1), 1) := by decide +kernel
theorem dX7_loadClass_8 : decode cX7_loadClass 8 = .ok (.ireturn, 1) := by decide +kernel
theorem dX7_loadClass_9 : decode cX7_loadClass 9 = .ok (.aload_n 0, 1) := by decide +kernel
theorem dX7_loadClass_10 : decode cX7_loadClass 10 = .ok (.getfield 69, 3) := by decide +kernel
theorem dX7_loadClass_13 : decode cX7_loadClass 13 = .ok (.iload_n 1, 1) := by decide +kernel
theorem dX7_loadClass_14 : decode cX7_loadClass 14 = .ok (.aaload, 1) := by decide +kernel
theorem dX7_loadClass_15 : decode cX7_loadClass 15 = .ok (.astore_n 2, 1) := by decide +kernel
theorem dX7_loadClass_16 : decode cX7_loadClass 16 = .ok (.aload_n 2, 1) := by decide +kernel
theorem dX7_loadClass_17 : decode cX7_loadClass 17 = .ok (.invokevirtual 240, 3) := by decide +kernel
theorem dX7_loadClass_20 : decode cX7_loadClass 20 = .ok (.ifCond .eq 6, 3) := by decide +kernel
theorem dX7_loadClass_23 : decode cX7_loadClass 23 = .ok (.bipush (-11), 2) := by decide +kernel
theorem dX7_loadClass_25 : decode cX7_loadClass 25 = .ok (.ireturn, 1) := by decide +kernel
theorem dX7_loadClass_26 : decode cX7_loadClass 26 = .ok (.aload_n 2, 1) := by decide +kernel
theorem dX7_loadClass_27 : decode cX7_loadClass 27 = .ok (.getfield 257, 3) := by decide +kernel
theorem dX7_loadClass_30 : decode cX7_loadClass 30 = .ok (.iconst 1, 1) := by decide +kernel
theorem dX7_loadClass_31 : decode cX7_loadClass 31 = .ok (.if_icmp .eq 6, 3) := by decide +kernel
theorem dX7_loadClass_34 : decode cX7_loadClass 34 = .ok (.bipush (-12), 2) := by decide +kernel
theorem dX7_loadClass_36 : decode cX7_loadClass 36 = .ok (.ireturn, 1) := by decide +kernel
theorem dX7_loadClass_37 : decode cX7_loadClass 37 = .ok (.aload_n 0, 1) := by decide +kernel
theorem dX7_loadClass_38 : decode cX7_loadClass 38 = .ok (.getfield 12, 3) := by decide +kernel
theorem dX7_loadClass_41 : decode cX7_loadClass 41 = .ok (.aload_n 0, 1) := by decide +kernel
theorem dX7_loadClass_42 : decode cX7_loadClass 42 = .ok (.getfield 12, 3) := by decide +kernel
theorem dX7_loadClass_45 : decode cX7_loadClass 45 = .ok (.getfield 74, 3) := by decide +kernel
theorem dX7_loadClass_48 : decode cX7_loadClass 48 = .ok (.invokevirtual 78, 3) := by decide +kernel
theorem dX7_loadClass_51 : decode cX7_loadClass 51 = .ok (.aload_n 0, 1) := by decide +kernel
theorem dX7_loadClass_52 : decode cX7_loadClass 52 = .ok (.getfield 21, 3) := by decide +kernel
theorem dX7_loadClass_55 : decode cX7_loadClass 55 = .ok (.invokevirtual 82, 3) := by decide +kernel
theorem dX7_loadClass_58 : decode cX7_loadClass 58 = .ok (.iconst 0, 1) := by decide +kernel
theorem dX7_loadClass_59 : decode cX7_loadClass 59 = .ok (.istore_n 3, 1) := by decide +kernel
theorem dX7_loadClass_60 : decode cX7_loadClass 60 = .ok (.iload_n 3, 1) := by decide +kernel
theorem dX7_loadClass_61 : decode cX7_loadClass 61 = .ok (.aload_n 2, 1) := by decide +kernel
theorem dX7_loadClass_62 : decode cX7_loadClass 62 = .ok (.getfield 267, 3) := by decide +kernel
theorem dX7_loadClass_65 : decode cX7_loadClass 65 = .ok (.if_icmp .ge 39, 3) := by decide +kernel
theorem dX7_loadClass_68 : decode cX7_loadClass 68 = .ok (.aload_n 2, 1) := by decide +kernel
theorem dX7_loadClass_69 : decode cX7_loadClass 69 = .ok (.iload_n 3, 1) := by decide +kernel
theorem dX7_loadClass_70 : decode cX7_loadClass 70 = .ok (.invokevirtual 253, 3) := by decide +kernel
theorem dX7_loadClass_73 : decode cX7_loadClass 73 = .ok (.l2i, 1) := by decide +kernel
theorem dX7_loadClass_74 : decode cX7_loadClass 74 = .ok (.istore 4, 2) := by decide +kernel
theorem dX7_loadClass_76 : decode cX7_loadClass 76 = .ok (.aload_n 0, 1) := by decide +kernel
theorem dX7_loadClass_77 : decode cX7_loadClass 77 = .ok (.getfield 12, 3) := by decide +kernel
theorem dX7_loadClass_80 : decode cX7_loadClass 80 = .ok (.iload 4, 2) := by decide +kernel
theorem dX7_loadClass_82 : decode cX7_loadClass 82 = .ok (.invokevirtual 85, 3) := by decide +kernel
theorem dX7_loadClass_85 : decode cX7_loadClass 85 = .ok (.ifCond .eq 13, 3) := by decide +kernel
theorem dX7_loadClass_88 : decode cX7_loadClass 88 = .ok (.aload_n 0, 1) := by decide +kernel
theorem dX7_loadClass_89 : decode cX7_loadClass 89 = .ok (.getfield 12, 3) := by decide +kernel
theorem dX7_loadClass_92 : decode cX7_loadClass 92 = .ok (.iload 4, 2) := by decide +kernel
theorem dX7_loadClass_94 : decode cX7_loadClass 94 = .ok (.invokevirtual 93, 3) := by decide +kernel
theorem dX7_loadClass_97 : decode cX7_loadClass 97 = .ok (.pop, 1) := by decide +kernel
theorem dX7_loadClass_98 : decode cX7_loadClass 98 = .ok (.iinc 3 1, 3) := by decide +kernel
theorem dX7_loadClass_101 : decode cX7_loadClass 101 = .ok (.goto (-41), 3) := by decide +kernel
theorem dX7_loadClass_104 : decode cX7_loadClass 104 = .ok (.aload_n 0, 1) := by decide +kernel
theorem dX7_loadClass_105 : decode cX7_loadClass 105 = .ok (.getfield 12, 3) := by decide +kernel
theorem dX7_loadClass_108 : decode cX7_loadClass 108 = .ok (.getfield 96, 3) := by decide +kernel
theorem dX7_loadClass_111 : decode cX7_loadClass 111 = .ok (.ireturn, 1) := by decide +kernel
set_option maxRecDepth 20000 in
theorem ggX7_storeScores_X7_isSlot : GoodIn wsX7_storeScores wsX7_isSlot := goodIn_r _ [12] (by decide +kernel) (by decide +kernel)
set_option maxRecDepth 20000 in
theorem gX7_storeScores_X7_isSlot : GoodIn wsX7_storeScores (va_wsS RX7 234 yX7_isSlot wsX7_isSlot) := goodIn_app (goodIn_of _ (by decide +kernel)) ggX7_storeScores_X7_isSlot
set_option maxRecDepth 20000 in
theorem ggX7_storeScores_X5_isEmpty : GoodIn wsX7_storeScores wsX5_isEmpty := goodIn_r _ [17, 18, 29, 30, 31, 32] (by decide +kernel) (by decide +kernel)
set_option maxRecDepth 20000 in
theorem gX7_storeScores_X5_isEmpty : GoodIn wsX7_storeScores (wsV RX7 240 RX5 yX5_isEmpty wsX5_isEmpty) := goodIn_app (goodIn_of _ (by decide +kernel)) ggX7_storeScores_X5_isEmpty
theorem dX7_storeScores_0 : decode cX7_storeScores 0 = .ok (.iload_n 1, 1) := by decide +kernel
theorem dX7_storeScores_1 : decode cX7_storeScores 1 = .ok (.invokestatic 234, 3) := by decide +kernel
theorem dX7_storeScores_4 : decode cX7_storeScores 4 = .ok (.ifCond .ne 5, 3) := by decide +kernel
theorem dX7_storeScores_7 : decode cX7_storeScores 7 = .ok (.iconst (-1), 1) := by decide +kernel
theorem dX7_storeScores_8 : decode cX7_storeScores 8 = .ok (.ireturn, 1) := by decide +kernel
theorem dX7_storeScores_9 : decode cX7_storeScores 9 = .ok (.aload_n 0, 1) := by decide +kernel
theorem dX7_storeScores_10 : decode cX7_storeScores 10 = .ok (.getfield 69, 3) := by decide +kernel
theorem dX7_storeScores_13 : decode cX7_storeScores 13 = .ok (.iload_n 1, 1) := by decide +kernel
theorem dX7_storeScores_14 : decode cX7_storeScores 14 = .ok (.aaload, 1) := by decide +kernel
theorem dX7_storeScores_15 : decode cX7_storeScores 15 = .ok (.astore_n 2, 1) := by decide +kernel
theorem dX7_storeScores_16 : decode cX7_storeScores 16 = .ok (.aload_n 2, 1) := by decide +kernel
theorem dX7_storeScores_17 : decode cX7_storeScores 17 = .ok (.invokevirtual 240, 3) := by decide +kernel
theorem dX7_storeScores_20 : decode cX7_storeScores 20 = .ok (.ifCond .eq 6, 3) := by decide +kernel
theorem dX7_storeScores_23 : decode cX7_storeScores 23 = .ok (.bipush (-11), 2) := by decide +kernel
theorem dX7_storeScores_25 : decode cX7_storeScores 25 = .ok (.ireturn, 1) := by decide +kernel
theorem dX7_storeScores_26 : decode cX7_storeScores 26 = .ok (.aload_n 2, 1) := by decide +kernel
theorem dX7_storeScores_27 : decode cX7_storeScores 27 = .ok (.getfield 257, 3) := by decide +kernel
theorem dX7_storeScores_30 : decode cX7_storeScores 30 = .ok (.iconst 3, 1) := by decide +kernel
theorem dX7_storeScores_31 : decode cX7_storeScores 31 = .ok (.if_icmp .eq 6, 3) := by decide +kernel
theorem dX7_storeScores_34 : decode cX7_storeScores 34 = .ok (.bipush (-12), 2) := by decide +kernel
theorem dX7_storeScores_36 : decode cX7_storeScores 36 = .ok (.ireturn, 1) := by decide +kernel
theorem dX7_storeScores_37 : decode cX7_storeScores 37 = .ok (.aload_n 2, 1) := by decide +kernel
theorem dX7_storeScores_38 : decode cX7_storeScores 38 = .ok (.getfield 267, 3) := by decide +kernel
theorem dX7_storeScores_41 : decode cX7_storeScores 41 = .ok (.aload_n 0, 1) := by decide +kernel
theorem dX7_storeScores_42 : decode cX7_storeScores 42 = .ok (.getfield 12, 3) := by decide +kernel
theorem dX7_storeScores_45 : decode cX7_storeScores 45 = .ok (.getfield 96, 3) := by decide +kernel
theorem dX7_storeScores_48 : decode cX7_storeScores 48 = .ok (.if_icmp .ge 6, 3) := by decide +kernel
theorem dX7_storeScores_51 : decode cX7_storeScores 51 = .ok (.bipush (-13), 2) := by decide +kernel
theorem dX7_storeScores_53 : decode cX7_storeScores 53 = .ok (.ireturn, 1) := by decide +kernel
theorem dX7_storeScores_54 : decode cX7_storeScores 54 = .ok (.iconst 0, 1) := by decide +kernel
theorem dX7_storeScores_55 : decode cX7_storeScores 55 = .ok (.istore_n 3, 1) := by decide +kernel
theorem dX7_storeScores_56 : decode cX7_storeScores 56 = .ok (.iload_n 3, 1) := by decide +kernel
theorem dX7_storeScores_57 : decode cX7_storeScores 57 = .ok (.aload_n 0, 1) := by decide +kernel
theorem dX7_storeScores_58 : decode cX7_storeScores 58 = .ok (.getfield 12, 3) := by decide +kernel
theorem dX7_storeScores_61 : decode cX7_storeScores 61 = .ok (.getfield 96, 3) := by decide +kernel
theorem dX7_storeScores_64 : decode cX7_storeScores 64 = .ok (.if_icmp .ge 40, 3) := by decide +kernel
theorem dX7_storeScores_67 : decode cX7_storeScores 67 = .ok (.aload_n 2, 1) := by decide +kernel
theorem dX7_storeScores_68 : decode cX7_storeScores 68 = .ok (.getfield 270, 3) := by decide +kernel
theorem dX7_storeScores_71 : decode cX7_storeScores 71 = .ok (.iload_n 3, 1) := by decide +kernel
theorem dX7_storeScores_72 : decode cX7_storeScores 72 = .ok (.aload_n 0, 1) := by decide +kernel
theorem dX7_storeScores_73 : decode cX7_storeScores 73 = .ok (.getfield 12, 3) := by decide +kernel
theorem dX7_storeScores_76 : decode cX7_storeScores 76 = .ok (.getfield 167, 3) := by decide +kernel
theorem dX7_storeScores_79 : decode cX7_storeScores 79 = .ok (.iload_n 3, 1) := by decide +kernel
theorem dX7_storeScores_80 : decode cX7_storeScores 80 = .ok (.baload, 1) := by decide +kernel
theorem dX7_storeScores_81 : decode cX7_storeScores 81 = .ok (.ifCond .eq 15, 3) := by decide +kernel
theorem dX7_storeScores_84 : decode cX7_storeScores 84 = .ok (.aload_n 0, 1) := by decide +kernel
theorem dX7_storeScores_85 : decode cX7_storeScores 85 = .ok (.getfield 12, 3) := by decide +kernel
theorem dX7_storeScores_88 : decode cX7_storeScores 88 = .ok (.getfield 274, 3) := by decide +kernel
theorem dX7_storeScores_91 : decode cX7_storeScores 91 = .ok (.iload_n 3, 1) := by decide +kernel
theorem dX7_storeScores_92 : decode cX7_storeScores 92 = .ok (.daload, 1) := by decide +kernel
theorem dX7_storeScores_93 : decode cX7_storeScores 93 = .ok (.goto 4, 3) := by decide +kernel
theorem dX7_storeScores_96 : decode cX7_storeScores 96 = .ok (.dconst 0, 1) := by decide +kernel
theorem dX7_storeScores_97 : decode cX7_storeScores 97 = .ok (.dastore, 1) := by decide +kernel
theorem dX7_storeScores_98 : decode cX7_storeScores 98 = .ok (.iinc 3 1, 3) := by decide +kernel
theorem dX7_storeScores_101 : decode cX7_storeScores 101 = .ok (.goto (-45), 3) := by decide +kernel
theorem dX7_storeScores_104 : decode cX7_storeScores 104 = .ok (.aload_n 0, 1) := by decide +kernel
theorem dX7_storeScores_105 : decode cX7_storeScores 105 = .ok (.getfield 12, 3) := by decide +kernel
theorem dX7_storeScores_108 : decode cX7_storeScores 108 = .ok (.getfield 96, 3) := by decide +kernel
theorem dX7_storeScores_111 : decode cX7_storeScores 111 = .ok (.ireturn, 1) := by decide +kernel
theorem dX7_isSlot_0 : decode cX7_isSlot 0 = .ok (.iload_n 0, 1) := by decide +kernel
theorem dX7_isSlot_1 : decode cX7_isSlot 1 = .ok (.ifCond .lt 12, 3) := by decide +kernel
theorem dX7_isSlot_4 : decode cX7_isSlot 4 = .ok (.iload_n 0, 1) := by decide +kernel
theorem dX7_isSlot_5 : decode cX7_isSlot 5 = .ok (.iconst 4, 1) := by decide +kernel
theorem dX7_isSlot_6 : decode cX7_isSlot 6 = .ok (.if_icmp .ge 7, 3) := by decide +kernel
theorem dX7_isSlot_9 : decode cX7_isSlot 9 = .ok (.iconst 1, 1) := by decide +kernel
theorem dX7_isSlot_10 : decode cX7_isSlot 10 = .ok (.goto 4, 3) := by decide +kernel
theorem dX7_isSlot_13 : decode cX7_isSlot 13 = .ok (.iconst 0, 1) := by decide +kernel
theorem dX7_isSlot_14 : decode cX7_isSlot 14 = .ok (.ireturn, 1) := by decide +kernel
set_option maxRecDepth 20000 in
theorem ggX7_snapshot_X0_take : GoodIn wsX7_snapshot wsX0_take := goodIn_r _ [11, 12, 13, 14, 15, 16, 17, 18, 19, 10, 20, 21, 22, 23, 24, 25, 26, 27, 28, 29, 30, 31, 32, 33, 55, 56, 57, 58, 59, 60, 61] (by decide +kernel) (by decide +kernel)
set_option maxRecDepth 20000 in
theorem gX7_snapshot_X0_take : GoodIn wsX7_snapshot (wsV RX7 277 RX0 yX0_take wsX0_take) := goodIn_app (goodIn_of _ (by decide +kernel)) ggX7_snapshot_X0_take
set_option maxRecDepth 20000 in
theorem ggX7_snapshot_X3_take : GoodIn wsX7_snapshot wsX3_take := goodIn_r _ [38, 39, 40, 41, 42, 43, 44, 62, 63] (by decide +kernel) (by decide +kernel)
set_option maxRecDepth 20000 in
theorem gX7_snapshot_X3_take : GoodIn wsX7_snapshot (wsV RX7 279 RX3 yX3_take wsX3_take) := goodIn_app (goodIn_of _ (by decide +kernel)) ggX7_snapshot_X3_take
theorem dX7_snapshot_0 : decode cX7_snapshot 0 = .ok (.aload_n 0, 1) := by decide +kernel
theorem dX7_snapshot_1 : decode cX7_snapshot 1 = .ok (.getfield 25, 3) := by decide +kernel
theorem dX7_snapshot_4 : decode cX7_snapshot 4 = .ok (.aload_n 0, 1) := by decide +kernel
theorem dX7_snapshot_5 : decode cX7_snapshot 5 = .ok (.getfield 12, 3) := by decide +kernel
theorem dX7_snapshot_8 : decode cX7_snapshot 8 = .ok (.invokevirtual 277, 3) := by decide +kernel
theorem dX7_snapshot_11 : decode cX7_snapshot 11 = .ok (.aload_n 0, 1) := by decide +kernel
theorem dX7_snapshot_12 : decode cX7_snapshot 12 = .ok (.getfield 28, 3) := by decide +kernel
theorem dX7_snapshot_15 : decode cX7_snapshot 15 = .ok (.aload_n 0, 1) := by decide +kernel
theorem dX7_snapshot_16 : decode cX7_snapshot 16 = .ok (.getfield 21, 3) := by decide +kernel
theorem dX7_snapshot_19 : decode cX7_snapshot 19 = .ok (.invokevirtual 279, 3) := by decide +kernel
theorem dX7_snapshot_22 : decode cX7_snapshot 22 = .ok (.aload_n 0, 1) := by decide +kernel
theorem dX7_snapshot_23 : decode cX7_snapshot 23 = .ok (.iconst 1, 1) := by decide +kernel
theorem dX7_snapshot_24 : decode cX7_snapshot 24 = .ok (.putfield 31, 3) := by decide +kernel
theorem dX7_snapshot_27 : decode cX7_snapshot 27 = .ok (.aload_n 0, 1) := by decide +kernel
theorem dX7_snapshot_28 : decode cX7_snapshot 28 = .ok (.getfield 12, 3) := by decide +kernel
theorem dX7_snapshot_31 : decode cX7_snapshot 31 = .ok (.getfield 96, 3) := by decide +kernel
theorem dX7_snapshot_34 : decode cX7_snapshot 34 = .ok (.ireturn, 1) := by decide +kernel
set_option maxRecDepth 20000 in
theorem ggX7_restore_X0_take : GoodIn wsX7_restore wsX0_take := goodIn_r _ [11, 12, 13, 14, 15, 16, 17, 18, 19, 10, 20, 21, 22, 23, 24, 25, 26, 27, 28, 29, 30, 31, 32, 33, 55, 56, 57, 58, 59, 60, 61] (by decide +kernel) (by decide +kernel)
set_option maxRecDepth 20000 in
theorem gX7_restore_X0_take : GoodIn wsX7_restore (wsV RX7 277 RX0 yX0_take wsX0_take) := goodIn_app (goodIn_of _ (by decide +kernel)) ggX7_restore_X0_take
set_option maxRecDepth 20000 in
theorem ggX7_restore_X3_take : GoodIn wsX7_restore wsX3_take := goodIn_r _ [38, 39, 40, 41, 42, 43, 44, 62, 63] (by decide +kernel) (by decide +kernel)
set_option maxRecDepth 20000 in
theorem gX7_restore_X3_take : GoodIn wsX7_restore (wsV RX7 279 RX3 yX3_take wsX3_take) := goodIn_app (goodIn_of _ (by decide +kernel)) ggX7_restore_X3_take
theorem dX7_restore_0 : decode cX7_restore 0 = .ok (.aload_n 0, 1) := by decide +kernel
theorem dX7_restore_1 : decode cX7_restore 1 = .ok (.getfield 31, 3) := by decide +kernel
theorem dX7_restore_4 : decode cX7_restore 4 = .ok (.ifCond .ne 6, 3) := by decide +kernel
theorem dX7_restore_7 : decode cX7_restore 7 = .ok (.bipush (-6), 2) := by decide +kernel
theorem dX7_restore_9 : decode cX7_restore 9 = .ok (.ireturn, 1) := by decide +kernel
theorem dX7_restore_10 : decode cX7_restore 10 = .ok (.aload_n 0, 1) := by decide +kernel
theorem dX7_restore_11 : decode cX7_restore 11 = .ok (.getfield 12, 3) := by decide +kernel
theorem dX7_restore_14 : decode cX7_restore 14 = .ok (.aload_n 0, 1) := by decide +kernel
theorem dX7_restore_15 : decode cX7_restore 15 = .ok (.getfield 25, 3) := by decide +kernel
theorem dX7_restore_18 : decode cX7_restore 18 = .ok (.invokevirtual 277, 3) := by decide +kernel
theorem dX7_restore_21 : decode cX7_restore 21 = .ok (.aload_n 0, 1) := by decide +kernel
theorem dX7_restore_22 : decode cX7_restore 22 = .ok (.getfield 21, 3) := by decide +kernel
theorem dX7_restore_25 : decode cX7_restore 25 = .ok (.aload_n 0, 1) := by decide +kernel
theorem dX7_restore_26 : decode cX7_restore 26 = .ok (.getfield 28, 3) := by decide +kernel
theorem dX7_restore_29 : decode cX7_restore 29 = .ok (.invokevirtual 279, 3) := by decide +kernel
theorem dX7_restore_32 : decode cX7_restore 32 = .ok (.aload_n 0, 1) := by decide +kernel
theorem dX7_restore_33 : decode cX7_restore 33 = .ok (.getfield 12, 3) := by decide +kernel
theorem dX7_restore_36 : decode cX7_restore 36 = .ok (.getfield 96, 3) := by decide +kernel
theorem dX7_restore_39 : decode cX7_restore 39 = .ok (.ireturn, 1) := by decide +kernel
theorem dX7_hasBit_0 : decode cX7_hasBit 0 = .ok (.iload_n 0, 1) := by decide +kernel
theorem dX7_hasBit_1 : decode cX7_hasBit 1 = .ok (.iload_n 1, 1) := by decide +kernel
theorem dX7_hasBit_2 : decode cX7_hasBit 2 = .ok (.ishr, 1) := by decide +kernel
theorem dX7_hasBit_3 : decode cX7_hasBit 3 = .ok (.iconst 1, 1) := by decide +kernel
theorem dX7_hasBit_4 : decode cX7_hasBit 4 = .ok (.iand, 1) := by decide +kernel
theorem dX7_hasBit_5 : decode cX7_hasBit 5 = .ok (.iconst 1, 1) := by decide +kernel
theorem dX7_hasBit_6 : decode cX7_hasBit 6 = .ok (.if_icmp .ne 7, 3) := by decide +kernel
theorem dX7_hasBit_9 : decode cX7_hasBit 9 = .ok (.iconst 1, 1) := by decide +kernel
theorem dX7_hasBit_10 : decode cX7_hasBit 10 = .ok (.goto 4, 3) := by decide +kernel
theorem dX7_hasBit_13 : decode cX7_hasBit 13 = .ok (.iconst 0, 1) := by decide +kernel
theorem dX7_hasBit_14 : decode cX7_hasBit 14 = .ok (.ireturn, 1) := by decide +kernel
set_option maxRecDepth 20000 in
theorem ggX8_init_X8_sizeOf : GoodIn wsX8_init wsX8_sizeOf := goodIn_r _ [26] (by decide +kernel) (by decide +kernel)
set_option maxRecDepth 20000 in
theorem gX8_init_X8_sizeOf : GoodIn wsX8_init (va_wsS RX8 63 yX8_sizeOf wsX8_sizeOf) := goodIn_app (goodIn_of _ (by decide +kernel)) ggX8_init_X8_sizeOf
theorem dX8_init_0 : decode cX8_init 0 = .ok (.aload_n 0, 1) := by decide +kernel
theorem dX8_init_1 : decode cX8_init 1 = .ok (.invokespecial 3, 3) := by decide +kernel
theorem dX8_init_4 : decode cX8_init 4 = .ok (.aload_n 0, 1) := by decide +kernel
theorem dX8_init_5 : decode cX8_init 5 = .ok (.iconst 3, 1) := by decide +kernel
theorem dX8_init_6 : decode cX8_init 6 = .ok (.putfield 9, 3) := by decide +kernel
theorem dX8_init_9 : decode cX8_init 9 = .ok (.aload_n 0, 1) := by decide +kernel
theorem dX8_init_10 : decode cX8_init 10 = .ok (.sipush 256, 3) := by decide +kernel
theorem dX8_init_13 : decode cX8_init 13 = .ok (.newarray .int, 2) := by decide +kernel
theorem dX8_init_15 : decode cX8_init 15 = .ok (.putfield 15, 3) := by decide +kernel
theorem dX8_init_18 : decode cX8_init 18 = .ok (.aload_n 0, 1) := by decide +kernel
theorem dX8_init_19 : decode cX8_init 19 = .ok (.bipush 20, 2) := by decide +kernel
theorem dX8_init_21 : decode cX8_init 21 = .ok (.newarray .int, 2) := by decide +kernel
theorem dX8_init_23 : decode cX8_init 23 = .ok (.putfield 19, 3) := by decide +kernel
theorem dX8_init_26 : decode cX8_init 26 = .ok (.aload_n 0, 1) := by decide +kernel
theorem dX8_init_27 : decode cX8_init 27 = .ok (.bipush 20, 2) := by decide +kernel
theorem dX8_init_29 : decode cX8_init 29 = .ok (.newarray .double, 2) := by decide +kernel
theorem dX8_init_31 : decode cX8_init 31 = .ok (.putfield 22, 3) := by decide +kernel
theorem dX8_init_34 : decode cX8_init 34 = .ok (.aload_n 0, 1) := by decide +kernel
theorem dX8_init_35 : decode cX8_init 35 = .ok (.bipush 12, 2) := by decide +kernel
theorem dX8_init_37 : decode cX8_init 37 = .ok (.newarray .int, 2) := by decide +kernel
theorem dX8_init_39 : decode cX8_init 39 = .ok (.putfield 26, 3) := by decide +kernel
theorem dX8_init_42 : decode cX8_init 42 = .ok (.aload_n 0, 1) := by decide +kernel
theorem dX8_init_43 : decode cX8_init 43 = .ok (.bipush 12, 2) := by decide +kernel
theorem dX8_init_45 : decode cX8_init 45 = .ok (.newarray .int, 2) := by decide +kernel
theorem dX8_init_47 : decode cX8_init 47 = .ok (.putfield 29, 3) := by decide +kernel
theorem dX8_init_50 : decode cX8_init 50 = .ok (.aload_n 0, 1) := by decide +kernel
theorem dX8_init_51 : decode cX8_init 51 = .ok (.iconst 4, 1) := by decide +kernel
theorem dX8_init_52 : decode cX8_init 52 = .ok (.newarray .int, 2) := by decide +kernel
theorem dX8_init_54 : decode cX8_init 54 = .ok (.putfield 32, 3) := by decide +kernel
theorem dX8_init_57 : decode cX8_init 57 = .ok (.aload_n 0, 1) := by decide +kernel
theorem dX8_init_58 : decode cX8_init 58 = .ok (.iconst 4, 1) := by decide +kernel
theorem dX8_init_59 : decode cX8_init 59 = .ok (.newarray .int, 2) := by decide +kernel
theorem dX8_init_61 : decode cX8_init 61 = .ok (.putfield 35, 3) := by decide +kernel
theorem dX8_init_64 : decode cX8_init 64 = .ok (.aload_n 0, 1) := by decide +kernel
theorem dX8_init_65 : decode cX8_init 65 = .ok (.sipush 160, 3) := by decide +kernel
theorem dX8_init_68 : decode cX8_init 68 = .ok (.newarray .long, 2) := by decide +kernel
theorem dX8_init_70 : decode cX8_init 70 = .ok (.putfield 38, 3) := by decide +kernel
theorem dX8_init_73 : decode cX8_init 73 = .ok (.aload_n 0, 1) := by decide +kernel
theorem dX8_init_74 : decode cX8_init 74 = .ok (.sipush 160, 3) := by decide +kernel
theorem dX8_init_77 : decode cX8_init 77 = .ok (.newarray .double, 2) := by decide +kernel
theorem dX8_init_79 : decode cX8_init 79 = .ok (.putfield 42, 3) := by decide +kernel
theorem dX8_init_82 : decode cX8_init 82 = .ok (.aload_n 0, 1) := by decide +kernel
theorem dX8_init_83 : decode cX8_init 83 = .ok (.bipush 20, 2) := by decide +kernel
theorem dX8_init_85 : decode cX8_init 85 = .ok (.newarray .int, 2) := by decide +kernel
theorem dX8_init_87 : decode cX8_init 87 = .ok (.putfield 45, 3) := by decide +kernel
theorem dX8_init_90 : decode cX8_init 90 = .ok (.aload_n 0, 1) := by decide +kernel
theorem dX8_init_91 : decode cX8_init 91 = .ok (.bipush 20, 2) := by decide +kernel
theorem dX8_init_93 : decode cX8_init 93 = .ok (.newarray .double, 2) := by decide +kernel
theorem dX8_init_95 : decode cX8_init 95 = .ok (.putfield 48, 3) := by decide +kernel
theorem dX8_init_98 : decode cX8_init 98 = .ok (.aload_n 0, 1) := by decide +kernel
theorem dX8_init_99 : decode cX8_init 99 = .ok (.bipush 12, 2) := by decide +kernel
theorem dX8_init_101 : decode cX8_init 101 = .ok (.newarray .int, 2) := by decide +kernel
theorem dX8_init_103 : decode cX8_init 103 = .ok (.putfield 51, 3) := by decide +kernel
theorem dX8_init_106 : decode cX8_init 106 = .ok (.aload_n 0, 1) := by decide +kernel
theorem dX8_init_107 : decode cX8_init 107 = .ok (.bipush 12, 2) := by decide +kernel
theorem dX8_init_109 : decode cX8_init 109 = .ok (.newarray .int, 2) := by decide +kernel
theorem dX8_init_111 : decode cX8_init 111 = .ok (.putfield 54, 3) := by decide +kernel
theorem dX8_init_114 : decode cX8_init 114 = .ok (.aload_n 0, 1) := by decide +kernel
theorem dX8_init_115 : decode cX8_init 115 = .ok (.bipush 20, 2) := by decide +kernel
theorem dX8_init_117 : decode cX8_init 117 = .ok (.newarray .int, 2) := by decide +kernel
theorem dX8_init_119 : decode cX8_init 119 = .ok (.putfield 57, 3) := by decide +kernel
theorem dX8_init_122 : decode cX8_init 122 = .ok (.aload_n 0, 1) := by decide +kernel
theorem dX8_init_123 : decode cX8_init 123 = .ok (.bipush 20, 2) := by decide +kernel
theorem dX8_init_125 : decode cX8_init 125 = .ok (.newarray .int, 2) := by decide +kernel
theorem dX8_init_127 : decode cX8_init 127 = .ok (.putfield 60, 3) := by decide +kernel
theorem dX8_init_130 : decode cX8_init 130 = .ok (.iconst 0, 1) := by decide +kernel
theorem dX8_init_131 : decode cX8_init 131 = .ok (.istore_n 1, 1) := by decide +kernel
theorem dX8_init_132 : decode cX8_init 132 = .ok (.iload_n 1, 1) := by decide +kernel
theorem dX8_init_133 : decode cX8_init 133 = .ok (.iconst 4, 1) := by decide +kernel
theorem dX8_init_134 : decode cX8_init 134 = .ok (.if_icmp .ge 16, 3) := by decide +kernel
theorem dX8_init_137 : decode cX8_init 137 = .ok (.aload_n 0, 1) := by decide +kernel
theorem dX8_init_138 : decode cX8_init 138 = .ok (.getfield 32, 3) := by decide +kernel
theorem dX8_init_141 : decode cX8_init 141 = .ok (.iload_n 1, 1) := by decide +kernel
theorem dX8_init_142 : decode cX8_init 142 = .ok (.iconst (-1), 1) := by decide +kernel
theorem dX8_init_143 : decode cX8_init 143 = .ok (.iastore, 1) := by decide +kernel
theorem dX8_init_144 : decode cX8_init 144 = .ok (.iinc 1 1, 3) := by decide +kernel
theorem dX8_init_147 : decode cX8_init 147 = .ok (.goto (-15), 3) := by decide +kernel
theorem dX8_init_150 : decode cX8_init 150 = .ok (.iconst 0, 1) := by decide +kernel
theorem dX8_init_151 : decode cX8_init 151 = .ok (.istore_n 1, 1) := by decide +kernel
theorem dX8_init_152 : decode cX8_init 152 = .ok (.iconst 0, 1) := by decide +kernel
theorem dX8_init_153 : decode cX8_init 153 = .ok (.istore_n 2, 1) := by decide +kernel
theorem dX8_init_154 : decode cX8_init 154 = .ok (.iload_n 2, 1) := by decide +kernel
theorem dX8_init_155 : decode cX8_init 155 = .ok (.bipush 8, 2) := by decide +kernel
theorem dX8_init_157 : decode cX8_init 157 = .ok (.if_icmp .gt 42, 3) := by decide +kernel
theorem dX8_init_160 : decode cX8_init 160 = .ok (.iconst 0, 1) := by decide +kernel
theorem dX8_init_161 : decode cX8_init 161 = .ok (.istore_n 3, 1) := by decide +kernel
theorem dX8_init_162 : decode cX8_init 162 = .ok (.iload_n 3, 1) := by decide +kernel
theorem dX8_init_163 : decode cX8_init 163 = .ok (.sipush 256, 3) := by decide +kernel
theorem dX8_init_166 : decode cX8_init 166 = .ok (.if_icmp .ge 27, 3) := by decide +kernel
theorem dX8_init_169 : decode cX8_init 169 = .ok (.iload_n 3, 1) := by decide +kernel
theorem dX8_init_170 : decode cX8_init 170 = .ok (.invokestatic 63, 3) := by decide +kernel
theorem dX8_init_173 : decode cX8_init 173 = .ok (.iload_n 2, 1) := by decide +kernel
theorem dX8_init_174 : decode cX8_init 174 = .ok (.if_icmp .ne 13, 3) := by decide +kernel
theorem dX8_init_177 : decode cX8_init 177 = .ok (.aload_n 0, 1) := by decide +kernel
theorem dX8_init_178 : decode cX8_init 178 = .ok (.getfield 15, 3) := by decide +kernel
theorem dX8_init_181 : decode cX8_init 181 = .ok (.iload_n 1, 1) := by decide +kernel
theorem dX8_init_182 : decode cX8_init 182 = .ok (.iload_n 3, 1) := by decide +kernel
theorem dX8_init_183 : decode cX8_init 183 = .ok (.iastore, 1) := by decide +kernel
theorem dX8_init_184 : decode cX8_init 184 = .ok (.iinc 1 1, 3) := by decide +kernel
theorem dX8_init_187 : decode cX8_init 187 = .ok (.iinc 3 1, 3) := by decide +kernel
theorem dX8_init_190 : decode cX8_init 190 = .ok (.goto (-28), 3) := by decide +kernel
theorem dX8_init_193 : decode cX8_init 193 = .ok (.iinc 2 1, 3) := by decide +kernel
theorem dX8_init_196 : decode cX8_init 196 = .ok (.goto (-42), 3) := by decide +kernel
theorem dX8_init_199 : decode cX8_init 199 = .ok (.return_, 1) := by decide +kernel
theorem dX8_in_0 : decode cX8_in 0 = .ok (.lload_n 0, 1) := by decide +kernel
theorem dX8_in_1 : decode cX8_in 1 = .ok (.lload_n 2, 1) := by decide +kernel
theorem dX8_in_2 : decode cX8_in 2 = .ok (.lcmp, 1) := by decide +kernel
theorem dX8_in_3 : decode cX8_in 3 = .ok (.ifCond .lt 14, 3) := by decide +kernel
theorem dX8_in_6 : decode cX8_in 6 = .ok (.lload_n 0, 1) := by decide +kernel
theorem dX8_in_7 : decode cX8_in 7 = .ok (.lload 4, 2) := by decide +kernel
theorem dX8_in_9 : decode cX8_in 9 = .ok (.lcmp, 1) := by decide +kernel
theorem dX8_in_10 : decode cX8_in 10 = .ok (.ifCond .gt 7, 3) := by decide +kernel
theorem dX8_in_13 : decode cX8_in 13 = .ok (.iconst 1, 1) := by decide +kernel
theorem dX8_in_14 : decode cX8_in 14 = .ok (.goto 4, 3) := by decide +kernel
theorem dX8_in_17 : decode cX8_in 17 = .ok (.iconst 0, 1) := by decide +kernel
theorem dX8_in_18 : decode cX8_in 18 = .ok (.ireturn, 1) := by decide +kernel
set_option maxRecDepth 20000 in
theorem ggX8_isConcept_X8_in : GoodIn wsX8_isConcept wsX8_in := goodIn_r _ [5] (by decide +kernel) (by decide +kernel)
set_option maxRecDepth 20000 in
theorem gX8_isConcept_X8_in : GoodIn wsX8_isConcept (va_wsS RX8 70 yX8_in wsX8_in) := goodIn_app (goodIn_of _ (by decide +kernel)) ggX8_isConcept_X8_in
theorem dX8_isConcept_0 : decode cX8_isConcept 0 = .ok (.iload_n 1, 1) := by decide +kernel
theorem dX8_isConcept_1 : decode cX8_isConcept 1 = .ok (.i2l, 1) := by decide +kernel
theorem dX8_isConcept_2 : decode cX8_isConcept 2 = .ok (.lconst 0, 1) := by decide +kernel
theorem dX8_isConcept_3 : decode cX8_isConcept 3 = .ok (.aload_n 0, 1) := by decide +kernel
theorem dX8_isConcept_4 : decode cX8_isConcept 4 = .ok (.getfield 67, 3) := by decide +kernel
theorem dX8_isConcept_7 : decode cX8_isConcept 7 = .ok (.iconst 1, 1) := by decide +kernel
theorem dX8_isConcept_8 : decode cX8_isConcept 8 = .ok (.isub, 1) := by decide +kernel
theorem dX8_isConcept_9 : decode cX8_isConcept 9 = .ok (.i2l, 1) := by decide +kernel
theorem dX8_isConcept_10 : decode cX8_isConcept 10 = .ok (.invokestatic 70, 3) := by decide +kernel
theorem dX8_isConcept_13 : decode cX8_isConcept 13 = .ok (.ireturn, 1) := by decide +kernel
set_option maxRecDepth 20000 in
theorem ggX8_isSet_X8_in : GoodIn wsX8_isSet wsX8_in := goodIn_r _ [5] (by decide +kernel) (by decide +kernel)
set_option maxRecDepth 20000 in
theorem gX8_isSet_X8_in : GoodIn wsX8_isSet (va_wsS RX8 70 yX8_in wsX8_in) := goodIn_app (goodIn_of _ (by decide +kernel)) ggX8_isSet_X8_in
theorem dX8_isSet_0 : decode cX8_isSet 0 = .ok (.iload_n 1, 1) := by decide +kernel
theorem dX8_isSet_1 : decode cX8_isSet 1 = .ok (.i2l, 1) := by decide +kernel
theorem dX8_isSet_2 : decode cX8_isSet 2 = .ok (.lconst 0, 1) := by decide +kernel
theorem dX8_isSet_3 : decode cX8_isSet 3 = .ok (.iconst 1, 1) := by decide +kernel
theorem dX8_isSet_4 : decode cX8_isSet 4 = .ok (.aload_n 0, 1) := by decide +kernel
theorem dX8_isSet_5 : decode cX8_isSet 5 = .ok (.getfield 9, 3) := by decide +kernel
theorem dX8_isSet_8 : decode cX8_isSet 8 = .ok (.ishl, 1) := by decide +kernel
theorem dX8_isSet_9 : decode cX8_isSet 9 = .ok (.iconst 1, 1) := by decide +kernel
theorem dX8_isSet_10 : decode cX8_isSet 10 = .ok (.isub, 1) := by decide +kernel
theorem dX8_isSet_11 : decode cX8_isSet 11 = .ok (.i2l, 1) := by decide +kernel
theorem dX8_isSet_12 : decode cX8_isSet 12 = .ok (.invokestatic 70, 3) := by decide +kernel
theorem dX8_isSet_15 : decode cX8_isSet 15 = .ok (.ireturn, 1) := by decide +kernel
theorem dX8_has_0 : decode cX8_has 0 = .ok (.iload_n 0, 1) := by decide +kernel
theorem dX8_has_1 : decode cX8_has 1 = .ok (.iload_n 1, 1) := by decide +kernel
theorem dX8_has_2 : decode cX8_has 2 = .ok (.ishr, 1) := by decide +kernel
theorem dX8_has_3 : decode cX8_has 3 = .ok (.iconst 1, 1) := by decide +kernel
theorem dX8_has_4 : decode cX8_has 4 = .ok (.iand, 1) := by decide +kernel
theorem dX8_has_5 : decode cX8_has 5 = .ok (.iconst 1, 1) := by decide +kernel
theorem dX8_has_6 : decode cX8_has 6 = .ok (.if_icmp .ne 7, 3) := by decide +kernel
theorem dX8_has_9 : decode cX8_has 9 = .ok (.iconst 1, 1) := by decide +kernel
theorem dX8_has_10 : decode cX8_has 10 = .ok (.goto 4, 3) := by decide +kernel
theorem dX8_has_13 : decode cX8_has 13 = .ok (.iconst 0, 1) := by decide +kernel
theorem dX8_has_14 : decode cX8_has 14 = .ok (.ireturn, 1) := by decide +kernel
theorem dX8_sizeOf_0 : decode cX8_sizeOf 0 = .ok (.iconst 0, 1) := by decide +kernel
theorem dX8_sizeOf_1 : decode cX8_sizeOf 1 = .ok (.istore_n 1, 1) := by decide +kernel
theorem dX8_sizeOf_2 : decode cX8_sizeOf 2 = .ok (.iconst 0, 1) := by decide +kernel
theorem dX8_sizeOf_3 : decode cX8_sizeOf 3 = .ok (.istore_n 2, 1) := by decide +kernel
theorem dX8_sizeOf_4 : decode cX8_sizeOf 4 = .ok (.iload_n 2, 1) := by decide +kernel
theorem dX8_sizeOf_5 : decode cX8_sizeOf 5 = .ok (.bipush 20, 2) := by decide +kernel
theorem dX8_sizeOf_7 : decode cX8_sizeOf 7 = .ok (.if_icmp .ge 17, 3) := by decide +kernel
theorem dX8_sizeOf_10 : decode cX8_sizeOf 10 = .ok (.iload_n 1, 1) := by decide +kernel
theorem dX8_sizeOf_11 : decode cX8_sizeOf 11 = .ok (.iload_n 0, 1) := by decide +kernel
theorem dX8_sizeOf_12 : decode cX8_sizeOf 12 = .ok (.iload_n 2, 1) := by decide +kernel
theorem dX8_sizeOf_13 : decode cX8_sizeOf 13 = .ok (.ishr, 1) := by decide +kernel
theorem dX8_sizeOf_14 : decode cX8_sizeOf 14 = .ok (.iconst 1, 1) := by decide +kernel
theorem dX8_sizeOf_15 : decode cX8_sizeOf 15 = .ok (.iand, 1) := by decide +kernel
theorem dX8_sizeOf_16 : decode cX8_sizeOf 16 = .ok (.iadd, 1) := by decide +kernel
theorem dX8_sizeOf_17 : decode cX8_sizeOf 17 = .ok (.istore_n 1, 1) := by decide +kernel
theorem dX8_sizeOf_18 : decode cX8_sizeOf 18 = .ok (.iinc 2 1, 3) := by decide +kernel
theorem dX8_sizeOf_21 : decode cX8_sizeOf 21 = .ok (.goto (-17), 3) := by decide +kernel
theorem dX8_sizeOf_24 : decode cX8_sizeOf 24 = .ok (.iload_n 1, 1) := by decide +kernel
theorem dX8_sizeOf_25 : decode cX8_sizeOf 25 = .ok (.ireturn, 1) := by decide +kernel
set_option maxRecDepth 20000 in
theorem ggX8_reset_X8_in : GoodIn wsX8_reset wsX8_in := goodIn_r _ [8] (by decide +kernel) (by decide +kernel)
set_option maxRecDepth 20000 in
theorem gX8_reset_X8_in : GoodIn wsX8_reset (va_wsS RX8 70 yX8_in wsX8_in) := goodIn_app (goodIn_of _ (by decide +kernel)) ggX8_reset_X8_in
theorem dX8_reset_0 : decode cX8_reset 0 = .ok (.iload_n 1, 1) := by decide +kernel
theorem dX8_reset_1 : decode cX8_reset 1 = .ok (.i2l, 1) := by decide +kernel
theorem dX8_reset_2 : decode cX8_reset 2 = .ok (.lconst 1, 1) := by decide +kernel
theorem dX8_reset_3 : decode cX8_reset 3 = .ok (.ldc2_w 74, 3) := by decide +kernel
theorem dX8_reset_6 : decode cX8_reset 6 = .ok (.invokestatic 70, 3) := by decide +kernel
theorem dX8_reset_9 : decode cX8_reset 9 = .ok (.ifCond .ne 5, 3) := by decide +kernel
theorem dX8_reset_12 : decode cX8_reset 12 = .ok (.iconst (-1), 1) := by decide +kernel
theorem dX8_reset_13 : decode cX8_reset 13 = .ok (.ireturn, 1) := by decide +kernel
theorem dX8_reset_14 : decode cX8_reset 14 = .ok (.aload_n 0, 1) := by decide +kernel
theorem dX8_reset_15 : decode cX8_reset 15 = .ok (.getfield 9, 3) := by decide +kernel
theorem dX8_reset_18 : decode cX8_reset 18 = .ok (.istore_n 2, 1) := by decide +kernel
theorem dX8_reset_19 : decode cX8_reset 19 = .ok (.aload_n 0, 1) := by decide +kernel
theorem dX8_reset_20 : decode cX8_reset 20 = .ok (.iload_n 1, 1) := by decide +kernel
theorem dX8_reset_21 : decode cX8_reset 21 = .ok (.putfield 9, 3) := by decide +kernel
theorem dX8_reset_24 : decode cX8_reset 24 = .ok (.aload_n 0, 1) := by decide +kernel
theorem dX8_reset_25 : decode cX8_reset 25 = .ok (.iconst 0, 1) := by decide +kernel
theorem dX8_reset_26 : decode cX8_reset 26 = .ok (.putfield 67, 3) := by decide +kernel
theorem dX8_reset_29 : decode cX8_reset 29 = .ok (.aload_n 0, 1) := by decide +kernel
theorem dX8_reset_30 : decode cX8_reset 30 = .ok (.iconst 0, 1) := by decide +kernel
theorem dX8_reset_31 : decode cX8_reset 31 = .ok (.putfield 76, 3) := by decide +kernel
theorem dX8_reset_34 : decode cX8_reset 34 = .ok (.iload_n 2, 1) := by decide +kernel
theorem dX8_reset_35 : decode cX8_reset 35 = .ok (.ireturn, 1) := by decide +kernel
theorem dX8_pointCount_0 : decode cX8_pointCount 0 = .ok (.aload_n 0, 1) := by decide +kernel
theorem dX8_pointCount_1 : decode cX8_pointCount 1 = .ok (.getfield 9, 3) := by decide +kernel
theorem dX8_pointCount_4 : decode cX8_pointCount 4 = .ok (.ireturn, 1) := by decide +kernel
theorem dX8_placeOf_0 : decode cX8_placeOf 0 = .ok (.iconst 0, 1) := by decide +kernel
theorem dX8_placeOf_1 : decode cX8_placeOf 1 = .ok (.istore_n 2, 1) := by decide +kernel
theorem dX8_placeOf_2 : decode cX8_placeOf 2 = .ok (.iload_n 2, 1) := by decide +kernel
theorem dX8_placeOf_3 : decode cX8_placeOf 3 = .ok (.aload_n 0, 1) := by decide +kernel
theorem dX8_placeOf_4 : decode cX8_placeOf 4 = .ok (.getfield 67, 3) := by decide +kernel
theorem dX8_placeOf_7 : decode cX8_placeOf 7 = .ok (.if_icmp .ge 21, 3) := by decide +kernel
theorem dX8_placeOf_10 : decode cX8_placeOf 10 = .ok (.aload_n 0, 1) := by decide +kernel
theorem dX8_placeOf_11 : decode cX8_placeOf 11 = .ok (.getfield 19, 3) := by decide +kernel
theorem dX8_placeOf_14 : decode cX8_placeOf 14 = .ok (.iload_n 2, 1) := by decide +kernel
theorem dX8_placeOf_15 : decode cX8_placeOf 15 = .ok (.iaload, 1) := by decide +kernel
theorem dX8_placeOf_16 : decode cX8_placeOf 16 = .ok (.iload_n 1, 1) := by decide +kernel
theorem dX8_placeOf_17 : decode cX8_placeOf 17 = .ok (.if_icmp .ne 5, 3) := by decide +kernel
theorem dX8_placeOf_20 : decode cX8_placeOf 20 = .ok (.iload_n 2, 1) := by decide +kernel
theorem dX8_placeOf_21 : decode cX8_placeOf 21 = .ok (.ireturn, 1) := by decide +kernel
theorem dX8_placeOf_22 : decode cX8_placeOf 22 = .ok (.iinc 2 1, 3) := by decide +kernel
theorem dX8_placeOf_25 : decode cX8_placeOf 25 = .ok (.goto (-23), 3) := by decide +kernel
theorem dX8_placeOf_28 : decode cX8_placeOf 28 = .ok (.bipush (-6), 2) := by decide +kernel
theorem dX8_placeOf_30 : decode cX8_placeOf 30 = .ok (.ireturn, 1) := by decide +kernel
theorem dX8_comes_0 : decode cX8_comes 0 = .ok (.aload_n 0, 1) := by decide +kernel
theorem dX8_comes_1 : decode cX8_comes 1 = .ok (.getfield 19, 3) := by decide +kernel
theorem dX8_comes_4 : decode cX8_comes 4 = .ok (.aload_n 0, 1) := by decide +kernel
theorem dX8_comes_5 : decode cX8_comes 5 = .ok (.getfield 67, 3) := by decide +kernel
theorem dX8_comes_8 : decode cX8_comes 8 = .ok (.iload_n 1, 1) := by decide +kernel
theorem dX8_comes_9 : decode cX8_comes 9 = .ok (.iastore, 1) := by decide +kernel
theorem dX8_comes_10 : decode cX8_comes 10 = .ok (.aload_n 0, 1) := by decide +kernel
theorem dX8_comes_11 : decode cX8_comes 11 = .ok (.getfield 22, 3) := by decide +kernel
theorem dX8_comes_14 : decode cX8_comes 14 = .ok (.aload_n 0, 1) := by decide +kernel
theorem dX8_comes_15 : decode cX8_comes 15 = .ok (.getfield 67, 3) := by decide +kernel
theorem dX8_comes_18 : decode cX8_comes 18 = .ok (.ldc2_w 81, 3) := by decide +kernel
theorem dX8_comes_21 : decode cX8_comes 21 = .ok (.dastore, 1) := by decide +kernel
theorem dX8_comes_22 : decode cX8_comes 22 = .ok (.aload_n 0, 1) := by decide +kernel
theorem dX8_comes_23 : decode cX8_comes 23 = .ok (.dup, 1) := by decide +kernel
theorem dX8_comes_24 : decode cX8_comes 24 = .ok (.getfield 67, 3) := by decide +kernel
theorem dX8_comes_27 : decode cX8_comes 27 = .ok (.iconst 1, 1) := by decide +kernel
theorem dX8_comes_28 : decode cX8_comes 28 = .ok (.iadd, 1) := by decide +kernel
theorem dX8_comes_29 : decode cX8_comes 29 = .ok (.putfield 67, 3) := by decide +kernel
theorem dX8_comes_32 : decode cX8_comes 32 = .ok (.aload_n 0, 1) := by decide +kernel
theorem dX8_comes_33 : decode cX8_comes 33 = .ok (.getfield 67, 3) := by decide +kernel
theorem dX8_comes_36 : decode cX8_comes 36 = .ok (.iconst 1, 1) := by decide +kernel
theorem dX8_comes_37 : decode cX8_comes 37 = .ok (.isub, 1) := by decide +kernel
theorem dX8_comes_38 : decode cX8_comes 38 = .ok (.ireturn, 1) := by decide +kernel
set_option maxRecDepth 20000 in
theorem ggX8_addConcept_X8_isSet : GoodIn wsX8_addConcept wsX8_isSet := goodIn_r _ [6, 7, 8, 9, 5, 10, 22, 23, 24, 25, 26, 27, 28, 29, 30, 31, 32, 33, 34, 35, 36, 37, 38, 39, 40, 41, 42, 43] (by decide +kernel) (by decide +kernel)
set_option maxRecDepth 20000 in
theorem gX8_addConcept_X8_isSet : GoodIn wsX8_addConcept (wsV RX8 83 RX8 yX8_isSet wsX8_isSet) := goodIn_app (goodIn_of _ (by decide +kernel)) ggX8_addConcept_X8_isSet
set_option maxRecDepth 20000 in
theorem ggX8_addConcept_X8_placeOf : GoodIn wsX8_addConcept wsX8_placeOf := goodIn_r _ [14, 1, 15, 22, 23, 24, 25, 26, 27, 28, 29, 30, 31, 32, 33, 34, 35, 36, 37, 38, 39, 40, 41, 42, 43] (by decide +kernel) (by decide +kernel)
set_option maxRecDepth 20000 in
theorem gX8_addConcept_X8_placeOf : GoodIn wsX8_addConcept (wsV RX8 87 RX8 yX8_placeOf wsX8_placeOf) := goodIn_app (goodIn_of _ (by decide +kernel)) ggX8_addConcept_X8_placeOf
set_option maxRecDepth 20000 in
theorem ggX8_addConcept_X8_comes : GoodIn wsX8_addConcept wsX8_comes := goodIn_r _ [19, 15, 1, 20, 21, 22, 23, 24, 25, 26, 27, 28, 29, 30, 31, 32, 33, 34, 35, 36, 37, 38, 39, 40, 41, 42, 43] (by decide +kernel) (by decide +kernel)
set_option maxRecDepth 20000 in
theorem gX8_addConcept_X8_comes : GoodIn wsX8_addConcept (wsV RX8 90 RX8 yX8_comes wsX8_comes) := goodIn_app (goodIn_of _ (by decide +kernel)) ggX8_addConcept_X8_comes
theorem dX8_addConcept_0 : decode cX8_addConcept 0 = .ok (.aload_n 0, 1) := by decide +kernel
theorem dX8_addConcept_1 : decode cX8_addConcept 1 = .ok (.iload_n 1, 1) := by decide +kernel
theorem dX8_addConcept_2 : decode cX8_addConcept 2 = .ok (.invokevirtual 83, 3) := by decide +kernel
theorem dX8_addConcept_5 : decode cX8_addConcept 5 = .ok (.ifCond .ne 5, 3) := by decide +kernel
theorem dX8_addConcept_8 : decode cX8_addConcept 8 = .ok (.iconst (-1), 1) := by decide +kernel
theorem dX8_addConcept_9 : decode cX8_addConcept 9 = .ok (.ireturn, 1) := by decide +kernel
theorem dX8_addConcept_10 : decode cX8_addConcept 10 = .ok (.aload_n 0, 1) := by decide +kernel
theorem dX8_addConcept_11 : decode cX8_addConcept 11 = .ok (.iload_n 1, 1) := by decide +kernel
theorem dX8_addConcept_12 : decode cX8_addConcept 12 = .ok (.invokevirtual 87, 3) := by decide +kernel
theorem dX8_addConcept_15 : decode cX8_addConcept 15 = .ok (.bipush (-6), 2) := by decide +kernel
theorem dX8_addConcept_17 : decode cX8_addConcept 17 = .ok (.if_icmp .eq 6, 3) := by decide +kernel
theorem dX8_addConcept_20 : decode cX8_addConcept 20 = .ok (.bipush (-5), 2) := by decide +kernel
theorem dX8_addConcept_22 : decode cX8_addConcept 22 = .ok (.ireturn, 1) := by decide +kernel
theorem dX8_addConcept_23 : decode cX8_addConcept 23 = .ok (.aload_n 0, 1) := by decide +kernel
theorem dX8_addConcept_24 : decode cX8_addConcept 24 = .ok (.getfield 67, 3) := by decide +kernel
theorem dX8_addConcept_27 : decode cX8_addConcept 27 = .ok (.bipush 20, 2) := by decide +kernel
theorem dX8_addConcept_29 : decode cX8_addConcept 29 = .ok (.if_icmp .ne 8, 3) := by decide +kernel
theorem dX8_addConcept_32 : decode cX8_addConcept 32 = .ok (.bipush (-4), 2) := by decide +kernel
theorem dX8_addConcept_34 : decode cX8_addConcept 34 = .ok (.goto 8, 3) := by decide +kernel
theorem dX8_addConcept_37 : decode cX8_addConcept 37 = .ok (.aload_n 0, 1) := by decide +kernel
theorem dX8_addConcept_38 : decode cX8_addConcept 38 = .ok (.iload_n 1, 1) := by decide +kernel
theorem dX8_addConcept_39 : decode cX8_addConcept 39 = .ok (.invokevirtual 90, 3) := by decide +kernel
theorem dX8_addConcept_42 : decode cX8_addConcept 42 = .ok (.ireturn, 1) := by decide +kernel
set_option maxRecDepth 20000 in
theorem ggX8_addIntervals_X8_placeOf : GoodIn wsX8_addIntervals wsX8_placeOf := goodIn_r _ [7, 1, 8, 15, 16, 17, 18, 19, 20, 21, 22, 23, 24, 25, 26, 27, 28, 29, 30, 31, 32, 33, 34, 35, 36] (by decide +kernel) (by decide +kernel)
set_option maxRecDepth 20000 in
theorem gX8_addIntervals_X8_placeOf : GoodIn wsX8_addIntervals (wsV RX8 87 RX8 yX8_placeOf wsX8_placeOf) := goodIn_app (goodIn_of _ (by decide +kernel)) ggX8_addIntervals_X8_placeOf
set_option maxRecDepth 20000 in
theorem ggX8_addIntervals_X8_comes : GoodIn wsX8_addIntervals wsX8_comes := goodIn_r _ [12, 8, 1, 13, 14, 15, 16, 17, 18, 19, 20, 21, 22, 23, 24, 25, 26, 27, 28, 29, 30, 31, 32, 33, 34, 35, 36] (by decide +kernel) (by decide +kernel)
set_option maxRecDepth 20000 in
theorem gX8_addIntervals_X8_comes : GoodIn wsX8_addIntervals (wsV RX8 90 RX8 yX8_comes wsX8_comes) := goodIn_app (goodIn_of _ (by decide +kernel)) ggX8_addIntervals_X8_comes
theorem dX8_addIntervals_0 : decode cX8_addIntervals 0 = .ok (.aload_n 0, 1) := by decide +kernel
theorem dX8_addIntervals_1 : decode cX8_addIntervals 1 = .ok (.getfield 67, 3) := by decide +kernel
theorem dX8_addIntervals_4 : decode cX8_addIntervals 4 = .ok (.istore_n 1, 1) := by decide +kernel
theorem dX8_addIntervals_5 : decode cX8_addIntervals 5 = .ok (.iconst 0, 1) := by decide +kernel
theorem dX8_addIntervals_6 : decode cX8_addIntervals 6 = .ok (.istore_n 2, 1) := by decide +kernel
theorem dX8_addIntervals_7 : decode cX8_addIntervals 7 = .ok (.iload_n 2, 1) := by decide +kernel
theorem dX8_addIntervals_8 : decode cX8_addIntervals 8 = .ok (.aload_n 0, 1) := by decide +kernel
theorem dX8_addIntervals_9 : decode cX8_addIntervals 9 = .ok (.getfield 9, 3) := by decide +kernel
theorem dX8_addIntervals_12 : decode cX8_addIntervals 12 = .ok (.if_icmp .ge 61, 3) := by decide +kernel
theorem dX8_addIntervals_15 : decode cX8_addIntervals 15 = .ok (.iconst 0, 1) := by decide +kernel
theorem dX8_addIntervals_16 : decode cX8_addIntervals 16 = .ok (.istore_n 3, 1) := by decide +kernel
theorem dX8_addIntervals_17 : decode cX8_addIntervals 17 = .ok (.iload_n 2, 1) := by decide +kernel
theorem dX8_addIntervals_18 : decode cX8_addIntervals 18 = .ok (.istore 4, 2) := by decide +kernel
theorem dX8_addIntervals_20 : decode cX8_addIntervals 20 = .ok (.iload 4, 2) := by decide +kernel
theorem dX8_addIntervals_22 : decode cX8_addIntervals 22 = .ok (.aload_n 0, 1) := by decide +kernel
theorem dX8_addIntervals_23 : decode cX8_addIntervals 23 = .ok (.getfield 9, 3) := by decide +kernel
theorem dX8_addIntervals_26 : decode cX8_addIntervals 26 = .ok (.if_icmp .ge 41, 3) := by decide +kernel
theorem dX8_addIntervals_29 : decode cX8_addIntervals 29 = .ok (.iload_n 3, 1) := by decide +kernel
theorem dX8_addIntervals_30 : decode cX8_addIntervals 30 = .ok (.iconst 1, 1) := by decide +kernel
theorem dX8_addIntervals_31 : decode cX8_addIntervals 31 = .ok (.iload 4, 2) := by decide +kernel
theorem dX8_addIntervals_33 : decode cX8_addIntervals 33 = .ok (.ishl, 1) := by decide +kernel
theorem dX8_addIntervals_34 : decode cX8_addIntervals 34 = .ok (.ior, 1) := by decide +kernel
theorem dX8_addIntervals_35 : decode cX8_addIntervals 35 = .ok (.istore_n 3, 1) := by decide +kernel
theorem dX8_addIntervals_36 : decode cX8_addIntervals 36 = .ok (.aload_n 0, 1) := by decide +kernel
theorem dX8_addIntervals_37 : decode cX8_addIntervals 37 = .ok (.getfield 67, 3) := by decide +kernel
theorem dX8_addIntervals_40 : decode cX8_addIntervals 40 = .ok (.bipush 20, 2) := by decide +kernel
theorem dX8_addIntervals_42 : decode cX8_addIntervals 42 = .ok (.if_icmp .ge 19, 3) := by decide +kernel
theorem dX8_addIntervals_45 : decode cX8_addIntervals 45 = .ok (.aload_n 0, 1) := by decide +kernel
theorem dX8_addIntervals_46 : decode cX8_addIntervals 46 = .ok (.iload_n 3, 1) := by decide +kernel
theorem dX8_addIntervals_47 : decode cX8_addIntervals 47 = .ok (.invokevirtual 87, 3) := by decide +kernel
theorem dX8_addIntervals_50 : decode cX8_addIntervals 50 = .ok (.bipush (-6), 2) := by decide +kernel
theorem dX8_addIntervals_52 : decode cX8_addIntervals 52 = .ok (.if_icmp .ne 9, 3) := by decide +kernel
theorem dX8_addIntervals_55 : decode cX8_addIntervals 55 = .ok (.aload_n 0, 1) := by decide +kernel
theorem dX8_addIntervals_56 : decode cX8_addIntervals 56 = .ok (.iload_n 3, 1) := by decide +kernel
theorem dX8_addIntervals_57 : decode cX8_addIntervals 57 = .ok (.invokevirtual 90, 3) := by decide +kernel
theorem dX8_addIntervals_60 : decode cX8_addIntervals 60 = .ok (.pop, 1) := by decide +kernel
theorem dX8_addIntervals_61 : decode cX8_addIntervals 61 = .ok (.iinc 4 1, 3) := by decide +kernel
theorem dX8_addIntervals_64 : decode cX8_addIntervals 64 = .ok (.goto (-44), 3) := by decide +kernel
theorem dX8_addIntervals_67 : decode cX8_addIntervals 67 = .ok (.iinc 2 1, 3) := by decide +kernel
theorem dX8_addIntervals_70 : decode cX8_addIntervals 70 = .ok (.goto (-63), 3) := by decide +kernel
theorem dX8_addIntervals_73 : decode cX8_addIntervals 73 = .ok (.aload_n 0, 1) := by decide +kernel
theorem dX8_addIntervals_74 : decode cX8_addIntervals 74 = .ok (.getfield 67, 3) := by decide +kernel
theorem dX8_addIntervals_77 : decode cX8_addIntervals 77 = .ok (.iload_n 1, 1) := by decide +kernel
theorem dX8_addIntervals_78 : decode cX8_addIntervals 78 = .ok (.isub, 1) := by decide +kernel
theorem dX8_addIntervals_79 : decode cX8_addIntervals 79 = .ok (.ireturn, 1) := by decide +kernel
set_option maxRecDepth 20000 in
theorem ggX8_removeConcept_X8_isConcept : GoodIn wsX8_removeConcept wsX8_isConcept := goodIn_r _ [8, 1, 9, 10, 7, 11, 12, 13, 14, 15, 16, 17, 18, 19, 20, 21, 22, 23, 24, 25, 26, 27, 28, 29, 30, 31, 32, 33] (by decide +kernel) (by decide +kernel)
set_option maxRecDepth 20000 in
theorem gX8_removeConcept_X8_isConcept : GoodIn wsX8_removeConcept (wsV RX8 93 RX8 yX8_isConcept wsX8_isConcept) := goodIn_app (goodIn_of _ (by decide +kernel)) ggX8_removeConcept_X8_isConcept
theorem dX8_removeConcept_0 : decode cX8_removeConcept 0 = .ok (.aload_n 0, 1) := by decide +kernel
theorem dX8_removeConcept_1 : decode cX8_removeConcept 1 = .ok (.iload_n 1, 1) := by decide +kernel
theorem dX8_removeConcept_2 : decode cX8_removeConcept 2 = .ok (.invokevirtual 93, 3) := by decide +kernel
theorem dX8_removeConcept_5 : decode cX8_removeConcept 5 = .ok (.ifCond .ne 6, 3) := by decide +kernel
theorem dX8_removeConcept_8 : decode cX8_removeConcept 8 = .ok (.bipush (-2), 2) := by decide +kernel
theorem dX8_removeConcept_10 : decode cX8_removeConcept 10 = .ok (.ireturn, 1) := by decide +kernel
theorem dX8_removeConcept_11 : decode cX8_removeConcept 11 = .ok (.iload_n 1, 1) := by decide +kernel
theorem dX8_removeConcept_12 : decode cX8_removeConcept 12 = .ok (.istore_n 2, 1) := by decide +kernel
theorem dX8_removeConcept_13 : decode cX8_removeConcept 13 = .ok (.iload_n 2, 1) := by decide +kernel
theorem dX8_removeConcept_14 : decode cX8_removeConcept 14 = .ok (.aload_n 0, 1) := by decide +kernel
theorem dX8_removeConcept_15 : decode cX8_removeConcept 15 = .ok (.getfield 67, 3) := by decide +kernel
theorem dX8_removeConcept_18 : decode cX8_removeConcept 18 = .ok (.iconst 1, 1) := by decide +kernel
theorem dX8_removeConcept_19 : decode cX8_removeConcept 19 = .ok (.isub, 1) := by decide +kernel
theorem dX8_removeConcept_20 : decode cX8_removeConcept 20 = .ok (.if_icmp .ge 37, 3) := by decide +kernel
theorem dX8_removeConcept_23 : decode cX8_removeConcept 23 = .ok (.aload_n 0, 1) := by decide +kernel
theorem dX8_removeConcept_24 : decode cX8_removeConcept 24 = .ok (.getfield 19, 3) := by decide +kernel
theorem dX8_removeConcept_27 : decode cX8_removeConcept 27 = .ok (.iload_n 2, 1) := by decide +kernel
theorem dX8_removeConcept_28 : decode cX8_removeConcept 28 = .ok (.aload_n 0, 1) := by decide +kernel
theorem dX8_removeConcept_29 : decode cX8_removeConcept 29 = .ok (.getfield 19, 3) := by decide +kernel
theorem dX8_removeConcept_32 : decode cX8_removeConcept 32 = .ok (.iload_n 2, 1) := by decide +kernel
theorem dX8_removeConcept_33 : decode cX8_removeConcept 33 = .ok (.iconst 1, 1) := by decide +kernel
theorem dX8_removeConcept_34 : decode cX8_removeConcept 34 = .ok (.iadd, 1) := by decide +kernel
theorem dX8_removeConcept_35 : decode cX8_removeConcept 35 = .ok (.iaload, 1) := by decide +kernel
theorem dX8_removeConcept_36 : decode cX8_removeConcept 36 = .ok (.iastore, 1) := by decide +kernel
theorem dX8_removeConcept_37 : decode cX8_removeConcept 37 = .ok (.aload_n 0, 1) := by decide +kernel
theorem dX8_removeConcept_38 : decode cX8_removeConcept 38 = .ok (.getfield 22, 3) := by decide +kernel
theorem dX8_removeConcept_41 : decode cX8_removeConcept 41 = .ok (.iload_n 2, 1) := by decide +kernel
theorem dX8_removeConcept_42 : decode cX8_removeConcept 42 = .ok (.aload_n 0, 1) := by decide +kernel
theorem dX8_removeConcept_43 : decode cX8_removeConcept 43 = .ok (.getfield 22, 3) := by decide +kernel
theorem dX8_removeConcept_46 : decode cX8_removeConcept 46 = .ok (.iload_n 2, 1) := by decide +kernel
theorem dX8_removeConcept_47 : decode cX8_removeConcept 47 = .ok (.iconst 1, 1) := by decide +kernel
theorem dX8_removeConcept_48 : decode cX8_removeConcept 48 = .ok (.iadd, 1) := by decide +kernel
theorem dX8_removeConcept_49 : decode cX8_removeConcept 49 = .ok (.daload, 1) := by decide +kernel
theorem dX8_removeConcept_50 : decode cX8_removeConcept 50 = .ok (.dastore, 1) := by decide +kernel
theorem dX8_removeConcept_51 : decode cX8_removeConcept 51 = .ok (.iinc 2 1, 3) := by decide +kernel
theorem dX8_removeConcept_54 : decode cX8_removeConcept 54 = .ok (.goto (-41), 3) := by decide +kernel
theorem dX8_removeConcept_57 : decode cX8_removeConcept 57 = .ok (.aload_n 0, 1) := by decide +kernel
theorem dX8_removeConcept_58 : decode cX8_removeConcept 58 = .ok (.dup, 1) := by decide +kernel
theorem dX8_removeConcept_59 : decode cX8_removeConcept 59 = .ok (.getfield 67, 3) := by decide +kernel
theorem dX8_removeConcept_62 : decode cX8_removeConcept 62 = .ok (.iconst 1, 1) := by decide +kernel
theorem dX8_removeConcept_63 : decode cX8_removeConcept 63 = .ok (.isub, 1) := by decide +kernel
theorem dX8_removeConcept_64 : decode cX8_removeConcept 64 = .ok (.putfield 67, 3) := by decide +kernel
theorem dX8_removeConcept_67 : decode cX8_removeConcept 67 = .ok (.aload_n 0, 1) := by decide +kernel
theorem dX8_removeConcept_68 : decode cX8_removeConcept 68 = .ok (.getfield 67, 3) := by decide +kernel
theorem dX8_removeConcept_71 : decode cX8_removeConcept 71 = .ok (.ireturn, 1) := by decide +kernel
theorem dX8_conceptCount_0 : decode cX8_conceptCount 0 = .ok (.aload_n 0, 1) := by decide +kernel
theorem dX8_conceptCount_1 : decode cX8_conceptCount 1 = .ok (.getfield 67, 3) := by decide +kernel
theorem dX8_conceptCount_4 : decode cX8_conceptCount 4 = .ok (.ireturn, 1) := by decide +kernel
set_option maxRecDepth 20000 in
theorem ggX8_concept_X8_isConcept : GoodIn wsX8_concept wsX8_isConcept := goodIn_r _ [6, 7, 8, 9, 5, 10, 11, 12, 13, 14, 15, 16, 17, 18, 19, 20, 21, 22, 23, 24, 25, 26, 27, 28, 29, 30, 31, 32] (by decide +kernel) (by decide +kernel)
set_option maxRecDepth 20000 in
theorem gX8_concept_X8_isConcept : GoodIn wsX8_concept (wsV RX8 93 RX8 yX8_isConcept wsX8_isConcept) := goodIn_app (goodIn_of _ (by decide +kernel)) ggX8_concept_X8_isConcept
theorem dX8_concept_0 : decode cX8_concept 0 = .ok (.aload_n 0, 1) := by decide +kernel
theorem dX8_concept_1 : decode cX8_concept 1 = .ok (.iload_n 1, 1) := by decide +kernel
theorem dX8_concept_2 : decode cX8_concept 2 = .ok (.invokevirtual 93, 3) := by decide +kernel
theorem dX8_concept_5 : decode cX8_concept 5 = .ok (.ifCond .eq 12, 3) := by decide +kernel
theorem dX8_concept_8 : decode cX8_concept 8 = .ok (.aload_n 0, 1) := by decide +kernel
theorem dX8_concept_9 : decode cX8_concept 9 = .ok (.getfield 19, 3) := by decide +kernel
theorem dX8_concept_12 : decode cX8_concept 12 = .ok (.iload_n 1, 1) := by decide +kernel
theorem dX8_concept_13 : decode cX8_concept 13 = .ok (.iaload, 1) := by decide +kernel
theorem dX8_concept_14 : decode cX8_concept 14 = .ok (.goto 5, 3) := by decide +kernel
theorem dX8_concept_17 : decode cX8_concept 17 = .ok (.bipush (-2), 2) := by decide +kernel
theorem dX8_concept_19 : decode cX8_concept 19 = .ok (.ireturn, 1) := by decide +kernel
set_option maxRecDepth 20000 in
theorem ggX8_numberOf_X8_placeOf : GoodIn wsX8_numberOf wsX8_placeOf := goodIn_r _ [5, 6, 7, 8, 9, 10, 11, 12, 13, 14, 15, 16, 17, 18, 19, 20, 21, 22, 23, 24, 25, 26, 27, 28, 29] (by decide +kernel) (by decide +kernel)
set_option maxRecDepth 20000 in
theorem gX8_numberOf_X8_placeOf : GoodIn wsX8_numberOf (wsV RX8 87 RX8 yX8_placeOf wsX8_placeOf) := goodIn_app (goodIn_of _ (by decide +kernel)) ggX8_numberOf_X8_placeOf
theorem dX8_numberOf_0 : decode cX8_numberOf 0 = .ok (.aload_n 0, 1) := by decide +kernel
theorem dX8_numberOf_1 : decode cX8_numberOf 1 = .ok (.iload_n 1, 1) := by decide +kernel
theorem dX8_numberOf_2 : decode cX8_numberOf 2 = .ok (.invokevirtual 87, 3) := by decide +kernel
theorem dX8_numberOf_5 : decode cX8_numberOf 5 = .ok (.ireturn, 1) := by decide +kernel
theorem dX8_complementAll_0 : decode cX8_complementAll 0 = .ok (.iconst 0, 1) := by decide +kernel
theorem dX8_complementAll_1 : decode cX8_complementAll 1 = .ok (.istore_n 1, 1) := by decide +kernel
theorem dX8_complementAll_2 : decode cX8_complementAll 2 = .ok (.iload_n 1, 1) := by decide +kernel
theorem dX8_complementAll_3 : decode cX8_complementAll 3 = .ok (.aload_n 0, 1) := by decide +kernel
theorem dX8_complementAll_4 : decode cX8_complementAll 4 = .ok (.getfield 67, 3) := by decide +kernel
theorem dX8_complementAll_7 : decode cX8_complementAll 7 = .ok (.if_icmp .ge 30, 3) := by decide +kernel
theorem dX8_complementAll_10 : decode cX8_complementAll 10 = .ok (.aload_n 0, 1) := by decide +kernel
theorem dX8_complementAll_11 : decode cX8_complementAll 11 = .ok (.getfield 19, 3) := by decide +kernel
theorem dX8_complementAll_14 : decode cX8_complementAll 14 = .ok (.iload_n 1, 1) := by decide +kernel
theorem dX8_complementAll_15 : decode cX8_complementAll 15 = .ok (.iconst 1, 1) := by decide +kernel
theorem dX8_complementAll_16 : decode cX8_complementAll 16 = .ok (.aload_n 0, 1) := by decide +kernel
theorem dX8_complementAll_17 : decode cX8_complementAll 17 = .ok (.getfield 9, 3) := by decide +kernel
theorem dX8_complementAll_20 : decode cX8_complementAll 20 = .ok (.ishl, 1) := by decide +kernel
theorem dX8_complementAll_21 : decode cX8_complementAll 21 = .ok (.iconst 1, 1) := by decide +kernel
theorem dX8_complementAll_22 : decode cX8_complementAll 22 = .ok (.isub, 1) := by decide +kernel
theorem dX8_complementAll_23 : decode cX8_complementAll 23 = .ok (.aload_n 0, 1) := by decide +kernel
theorem dX8_complementAll_24 : decode cX8_complementAll 24 = .ok (.getfield 19, 3) := by decide +kernel
theorem dX8_complementAll_27 : decode cX8_complementAll 27 = .ok (.iload_n 1, 1) := by decide +kernel
theorem dX8_complementAll_28 : decode cX8_complementAll 28 = .ok (.iaload, 1) := by decide +kernel
theorem dX8_complementAll_29 : decode cX8_complementAll 29 = .ok (.isub, 1) := by decide +kernel
theorem dX8_complementAll_30 : decode cX8_complementAll 30 = .ok (.iastore, 1) := by decide +kernel
theorem dX8_complementAll_31 : decode cX8_complementAll 31 = .ok (.iinc 1 1, 3) := by decide +kernel
theorem dX8_complementAll_34 : decode cX8_complementAll 34 = .ok (.goto (-32), 3) := by decide +kernel
theorem dX8_complementAll_37 : decode cX8_complementAll 37 = .ok (.aload_n 0, 1) := by decide +kernel
theorem dX8_complementAll_38 : decode cX8_complementAll 38 = .ok (.getfield 67, 3) := by decide +kernel
theorem dX8_complementAll_41 : decode cX8_complementAll 41 = .ok (.ireturn, 1) := by decide +kernel
set_option maxRecDepth 20000 in
theorem ggX8_within_X8_has : GoodIn wsX8_within wsX8_has := goodIn_r _ [5] (by decide +kernel) (by decide +kernel)
set_option maxRecDepth 20000 in
theorem gX8_within_X8_has : GoodIn wsX8_within (va_wsS RX8 96 yX8_has wsX8_has) := goodIn_app (goodIn_of _ (by decide +kernel)) ggX8_within_X8_has
theorem dX8_within_0 : decode cX8_within 0 = .ok (.iconst 0, 1) := by decide +kernel
theorem dX8_within_1 : decode cX8_within 1 = .ok (.istore_n 3, 1) := by decide +kernel
theorem dX8_within_2 : decode cX8_within 2 = .ok (.aload_n 0, 1) := by decide +kernel
theorem dX8_within_3 : decode cX8_within 3 = .ok (.getfield 9, 3) := by decide +kernel
theorem dX8_within_6 : decode cX8_within 6 = .ok (.iconst 1, 1) := by decide +kernel
theorem dX8_within_7 : decode cX8_within 7 = .ok (.isub, 1) := by decide +kernel
theorem dX8_within_8 : decode cX8_within 8 = .ok (.istore 4, 2) := by decide +kernel
theorem dX8_within_10 : decode cX8_within 10 = .ok (.iload 4, 2) := by decide +kernel
theorem dX8_within_12 : decode cX8_within 12 = .ok (.ifCond .lt 33, 3) := by decide +kernel
theorem dX8_within_15 : decode cX8_within 15 = .ok (.iload_n 2, 1) := by decide +kernel
theorem dX8_within_16 : decode cX8_within 16 = .ok (.iload 4, 2) := by decide +kernel
theorem dX8_within_18 : decode cX8_within 18 = .ok (.invokestatic 96, 3) := by decide +kernel
theorem dX8_within_21 : decode cX8_within 21 = .ok (.ifCond .eq 16, 3) := by decide +kernel
theorem dX8_within_24 : decode cX8_within 24 = .ok (.iconst 2, 1) := by decide +kernel
theorem dX8_within_25 : decode cX8_within 25 = .ok (.iload_n 3, 1) := by decide +kernel
theorem dX8_within_26 : decode cX8_within 26 = .ok (.imul, 1) := by decide +kernel
theorem dX8_within_27 : decode cX8_within 27 = .ok (.iload_n 1, 1) := by decide +kernel
theorem dX8_within_28 : decode cX8_within 28 = .ok (.iload 4, 2) := by decide +kernel
theorem dX8_within_30 : decode cX8_within 30 = .ok (.ishr, 1) := by decide +kernel
theorem dX8_within_31 : decode cX8_within 31 = .ok (.iconst 1, 1) := by decide +kernel
theorem dX8_within_32 : decode cX8_within 32 = .ok (.iand, 1) := by decide +kernel
theorem dX8_within_33 : decode cX8_within 33 = .ok (.iadd, 1) := by decide +kernel
theorem dX8_within_34 : decode cX8_within 34 = .ok (.goto 4, 3) := by decide +kernel
theorem dX8_within_37 : decode cX8_within 37 = .ok (.iload_n 3, 1) := by decide +kernel
theorem dX8_within_38 : decode cX8_within 38 = .ok (.istore_n 3, 1) := by decide +kernel
theorem dX8_within_39 : decode cX8_within 39 = .ok (.iinc 4 (-1), 3) := by decide +kernel
theorem dX8_within_42 : decode cX8_within 42 = .ok (.goto (-32), 3) := by decide +kernel
theorem dX8_within_45 : decode cX8_within 45 = .ok (.iload_n 3, 1) := by decide +kernel
theorem dX8_within_46 : decode cX8_within 46 = .ok (.ireturn, 1) := by decide +kernel
set_option maxRecDepth 20000 in
theorem ggX8_restrict_X8_isSet : GoodIn wsX8_restrict wsX8_isSet := goodIn_r _ [10, 4, 11, 12, 9, 13, 28, 29, 30, 31, 32, 33, 34, 35, 36, 37, 38, 39, 40, 41, 42, 43, 44, 45, 46, 47, 48, 49] (by decide +kernel) (by decide +kernel)
set_option maxRecDepth 20000 in
theorem gX8_restrict_X8_isSet : GoodIn wsX8_restrict (wsV RX8 83 RX8 yX8_isSet wsX8_isSet) := goodIn_app (goodIn_of _ (by decide +kernel)) ggX8_restrict_X8_isSet
set_option maxRecDepth 20000 in
theorem ggX8_restrict_X8_within : GoodIn wsX8_restrict wsX8_within := goodIn_r _ [17, 4, 18, 19, 9, 20, 28, 29, 30, 31, 32, 33, 34, 35, 36, 37, 38, 39, 40, 41, 42, 43, 44, 45, 46, 47, 48, 49] (by decide +kernel) (by decide +kernel)
set_option maxRecDepth 20000 in
theorem gX8_restrict_X8_within : GoodIn wsX8_restrict (wsV RX8 100 RX8 yX8_within wsX8_within) := goodIn_app (goodIn_of _ (by decide +kernel)) ggX8_restrict_X8_within
set_option maxRecDepth 20000 in
theorem ggX8_restrict_X8_placeOf : GoodIn wsX8_restrict wsX8_placeOf := goodIn_r _ [24, 1, 2, 28, 29, 30, 31, 32, 33, 34, 35, 36, 37, 38, 39, 40, 41, 42, 43, 44, 45, 46, 47, 48, 49] (by decide +kernel) (by decide +kernel)
set_option maxRecDepth 20000 in
theorem gX8_restrict_X8_placeOf : GoodIn wsX8_restrict (wsV RX8 87 RX8 yX8_placeOf wsX8_placeOf) := goodIn_app (goodIn_of _ (by decide +kernel)) ggX8_restrict_X8_placeOf
set_option maxRecDepth 20000 in
theorem ggX8_restrict_X8_sizeOf : GoodIn wsX8_restrict wsX8_sizeOf := goodIn_r _ [27] (by decide +kernel) (by decide +kernel)
set_option maxRecDepth 20000 in
theorem gX8_restrict_X8_sizeOf : GoodIn wsX8_restrict (va_wsS RX8 63 yX8_sizeOf wsX8_sizeOf) := goodIn_app (goodIn_of _ (by decide +kernel)) ggX8_restrict_X8_sizeOf
theorem dX8_restrict_0 : decode cX8_restrict 0 = .ok (.aload_n 0, 1) := by decide +kernel
theorem dX8_restrict_1 : decode cX8_restrict 1 = .ok (.iload_n 1, 1) := by decide +kernel
theorem dX8_restrict_2 : decode cX8_restrict 2 = .ok (.invokevirtual 83, 3) := by decide +kernel
theorem dX8_restrict_5 : decode cX8_restrict 5 = .ok (.ifCond .eq 7, 3) := by decide +kernel
theorem dX8_restrict_8 : decode cX8_restrict 8 = .ok (.iload_n 1, 1) := by decide +kernel
theorem dX8_restrict_9 : decode cX8_restrict 9 = .ok (.ifCond .ne 5, 3) := by decide +kernel
theorem dX8_restrict_12 : decode cX8_restrict 12 = .ok (.iconst (-1), 1) := by decide +kernel
theorem dX8_restrict_13 : decode cX8_restrict 13 = .ok (.ireturn, 1) := by decide +kernel
theorem dX8_restrict_14 : decode cX8_restrict 14 = .ok (.aload_n 0, 1) := by decide +kernel
theorem dX8_restrict_15 : decode cX8_restrict 15 = .ok (.getfield 67, 3) := by decide +kernel
theorem dX8_restrict_18 : decode cX8_restrict 18 = .ok (.istore_n 2, 1) := by decide +kernel
theorem dX8_restrict_19 : decode cX8_restrict 19 = .ok (.aload_n 0, 1) := by decide +kernel
theorem dX8_restrict_20 : decode cX8_restrict 20 = .ok (.iconst 0, 1) := by decide +kernel
theorem dX8_restrict_21 : decode cX8_restrict 21 = .ok (.putfield 67, 3) := by decide +kernel
theorem dX8_restrict_24 : decode cX8_restrict 24 = .ok (.iconst 0, 1) := by decide +kernel
theorem dX8_restrict_25 : decode cX8_restrict 25 = .ok (.istore_n 3, 1) := by decide +kernel
theorem dX8_restrict_26 : decode cX8_restrict 26 = .ok (.iload_n 3, 1) := by decide +kernel
theorem dX8_restrict_27 : decode cX8_restrict 27 = .ok (.iload_n 2, 1) := by decide +kernel
theorem dX8_restrict_28 : decode cX8_restrict 28 = .ok (.if_icmp .ge 69, 3) := by decide +kernel
theorem dX8_restrict_31 : decode cX8_restrict 31 = .ok (.aload_n 0, 1) := by decide +kernel
theorem dX8_restrict_32 : decode cX8_restrict 32 = .ok (.aload_n 0, 1) := by decide +kernel
theorem dX8_restrict_33 : decode cX8_restrict 33 = .ok (.getfield 19, 3) := by decide +kernel
theorem dX8_restrict_36 : decode cX8_restrict 36 = .ok (.iload_n 3, 1) := by decide +kernel
theorem dX8_restrict_37 : decode cX8_restrict 37 = .ok (.iaload, 1) := by decide +kernel
theorem dX8_restrict_38 : decode cX8_restrict 38 = .ok (.iload_n 1, 1) := by decide +kernel
theorem dX8_restrict_39 : decode cX8_restrict 39 = .ok (.invokevirtual 100, 3) := by decide +kernel
theorem dX8_restrict_42 : decode cX8_restrict 42 = .ok (.istore 4, 2) := by decide +kernel
theorem dX8_restrict_44 : decode cX8_restrict 44 = .ok (.aload_n 0, 1) := by decide +kernel
theorem dX8_restrict_45 : decode cX8_restrict 45 = .ok (.iload 4, 2) := by decide +kernel
theorem dX8_restrict_47 : decode cX8_restrict 47 = .ok (.invokevirtual 87, 3) := by decide +kernel
theorem dX8_restrict_50 : decode cX8_restrict 50 = .ok (.bipush (-6), 2) := by decide +kernel
theorem dX8_restrict_52 : decode cX8_restrict 52 = .ok (.if_icmp .ne 39, 3) := by decide +kernel
theorem dX8_restrict_55 : decode cX8_restrict 55 = .ok (.aload_n 0, 1) := by decide +kernel
theorem dX8_restrict_56 : decode cX8_restrict 56 = .ok (.getfield 19, 3) := by decide +kernel
theorem dX8_restrict_59 : decode cX8_restrict 59 = .ok (.aload_n 0, 1) := by decide +kernel
theorem dX8_restrict_60 : decode cX8_restrict 60 = .ok (.getfield 67, 3) := by decide +kernel
theorem dX8_restrict_63 : decode cX8_restrict 63 = .ok (.iload 4, 2) := by decide +kernel
theorem dX8_restrict_65 : decode cX8_restrict 65 = .ok (.iastore, 1) := by decide +kernel
theorem dX8_restrict_66 : decode cX8_restrict 66 = .ok (.aload_n 0, 1) := by decide +kernel
theorem dX8_restrict_67 : decode cX8_restrict 67 = .ok (.getfield 22, 3) := by decide +kernel
theorem dX8_restrict_70 : decode cX8_restrict 70 = .ok (.aload_n 0, 1) := by decide +kernel
theorem dX8_restrict_71 : decode cX8_restrict 71 = .ok (.getfield 67, 3) := by decide +kernel
theorem dX8_restrict_74 : decode cX8_restrict 74 = .ok (.aload_n 0, 1) := by decide +kernel
theorem dX8_restrict_75 : decode cX8_restrict 75 = .ok (.getfield 22, 3) := by decide +kernel
theorem dX8_restrict_78 : decode cX8_restrict 78 = .ok (.iload_n 3, 1) := by decide +kernel
theorem dX8_restrict_79 : decode cX8_restrict 79 = .ok (.daload, 1) := by decide +kernel
theorem dX8_restrict_80 : decode cX8_restrict 80 = .ok (.dastore, 1) := by decide +kernel
theorem dX8_restrict_81 : decode cX8_restrict 81 = .ok (.aload_n 0, 1) := by decide +kernel
theorem dX8_restrict_82 : decode cX8_restrict 82 = .ok (.dup, 1) := by decide +kernel
theorem dX8_restrict_83 : decode cX8_restrict 83 = .ok (.getfield 67, 3) := by decide +kernel
theorem dX8_restrict_86 : decode cX8_restrict 86 = .ok (.iconst 1, 1) := by decide +kernel
theorem dX8_restrict_87 : decode cX8_restrict 87 = .ok (.iadd, 1) := by decide +kernel
theorem dX8_restrict_88 : decode cX8_restrict 88 = .ok (.putfield 67, 3) := by decide +kernel
theorem dX8_restrict_91 : decode cX8_restrict 91 = .ok (.iinc 3 1, 3) := by decide +kernel
theorem dX8_restrict_94 : decode cX8_restrict 94 = .ok (.goto (-68), 3) := by decide +kernel
theorem dX8_restrict_97 : decode cX8_restrict 97 = .ok (.aload_n 0, 1) := by decide +kernel
theorem dX8_restrict_98 : decode cX8_restrict 98 = .ok (.iload_n 1, 1) := by decide +kernel
theorem dX8_restrict_99 : decode cX8_restrict 99 = .ok (.invokestatic 63, 3) := by decide +kernel
theorem dX8_restrict_102 : decode cX8_restrict 102 = .ok (.putfield 9, 3) := by decide +kernel
theorem dX8_restrict_105 : decode cX8_restrict 105 = .ok (.aload_n 0, 1) := by decide +kernel
theorem dX8_restrict_106 : decode cX8_restrict 106 = .ok (.iconst 0, 1) := by decide +kernel
theorem dX8_restrict_107 : decode cX8_restrict 107 = .ok (.putfield 76, 3) := by decide +kernel
theorem dX8_restrict_110 : decode cX8_restrict 110 = .ok (.aload_n 0, 1) := by decide +kernel
theorem dX8_restrict_111 : decode cX8_restrict 111 = .ok (.getfield 67, 3) := by decide +kernel
theorem dX8_restrict_114 : decode cX8_restrict 114 = .ok (.ireturn, 1) := by decide +kernel
set_option maxRecDepth 20000 in
theorem ggX8_isIntersectionClosed_X8_placeOf : GoodIn wsX8_isIntersectionClosed wsX8_placeOf := goodIn_r _ [7, 1, 2, 8, 9, 10, 11, 12, 13, 14, 15, 16, 17, 18, 19, 20, 21, 22, 23, 24, 25, 26, 27, 28, 29] (by decide +kernel) (by decide +kernel)
set_option maxRecDepth 20000 in
theorem gX8_isIntersectionClosed_X8_placeOf : GoodIn wsX8_isIntersectionClosed (wsV RX8 87 RX8 yX8_placeOf wsX8_placeOf) := goodIn_app (goodIn_of _ (by decide +kernel)) ggX8_isIntersectionClosed_X8_placeOf
theorem dX8_isIntersectionClosed_0 : decode cX8_isIntersectionClosed 0 = .ok (.iconst 1, 1) := by decide +kernel
theorem dX8_isIntersectionClosed_1 : decode cX8_isIntersectionClosed 1 = .ok (.istore_n 1, 1) := by decide +kernel
theorem dX8_isIntersectionClosed_2 : decode cX8_isIntersectionClosed 2 = .ok (.iconst 0, 1) := by decide +kernel
theorem dX8_isIntersectionClosed_3 : decode cX8_isIntersectionClosed 3 = .ok (.istore_n 2, 1) := by decide +kernel
theorem dX8_isIntersectionClosed_4 : decode cX8_isIntersectionClosed 4 = .ok (.iload_n 2, 1) := by decide +kernel
theorem dX8_isIntersectionClosed_5 : decode cX8_isIntersectionClosed 5 = .ok (.aload_n 0, 1) := by decide +kernel
theorem dX8_isIntersectionClosed_6 : decode cX8_isIntersectionClosed 6 = .ok (.getfield 67, 3) := by decide +kernel
theorem dX8_isIntersectionClosed_9 : decode cX8_isIntersectionClosed 9 = .ok (.if_icmp .ge 54, 3) := by decide +kernel
theorem dX8_isIntersectionClosed_12 : decode cX8_isIntersectionClosed 12 = .ok (.iconst 0, 1) := by decide +kernel
theorem dX8_isIntersectionClosed_13 : decode cX8_isIntersectionClosed 13 = .ok (.istore_n 3, 1) := by decide +kernel
theorem dX8_isIntersectionClosed_14 : decode cX8_isIntersectionClosed 14 = .ok (.iload_n 3, 1) := by decide +kernel
theorem dX8_isIntersectionClosed_15 : decode cX8_isIntersectionClosed 15 = .ok (.iload_n 2, 1) := by decide +kernel
theorem dX8_isIntersectionClosed_16 : decode cX8_isIntersectionClosed 16 = .ok (.if_icmp .ge 41, 3) := by decide +kernel
theorem dX8_isIntersectionClosed_19 : decode cX8_isIntersectionClosed 19 = .ok (.iload_n 1, 1) := by decide +kernel
theorem dX8_isIntersectionClosed_20 : decode cX8_isIntersectionClosed 20 = .ok (.ifCond .eq 29, 3) := by decide +kernel
theorem dX8_isIntersectionClosed_23 : decode cX8_isIntersectionClosed 23 = .ok (.aload_n 0, 1) := by decide +kernel
theorem dX8_isIntersectionClosed_24 : decode cX8_isIntersectionClosed 24 = .ok (.aload_n 0, 1) := by decide +kernel
theorem dX8_isIntersectionClosed_25 : decode cX8_isIntersectionClosed 25 = .ok (.getfield 19, 3) := by decide +kernel
theorem dX8_isIntersectionClosed_28 : decode cX8_isIntersectionClosed 28 = .ok (.iload_n 2, 1) := by decide +kernel
theorem dX8_isIntersectionClosed_29 : decode cX8_isIntersectionClosed 29 = .ok (.iaload, 1) := by decide +kernel
theorem dX8_isIntersectionClosed_30 : decode cX8_isIntersectionClosed 30 = .ok (.aload_n 0, 1) := by decide +kernel
theorem dX8_isIntersectionClosed_31 : decode cX8_isIntersectionClosed 31 = .ok (.getfield 19, 3) := by decide +kernel
theorem dX8_isIntersectionClosed_34 : decode cX8_isIntersectionClosed 34 = .ok (.iload_n 3, 1) := by decide +kernel
theorem dX8_isIntersectionClosed_35 : decode cX8_isIntersectionClosed 35 = .ok (.iaload, 1) := by decide +kernel
theorem dX8_isIntersectionClosed_36 : decode cX8_isIntersectionClosed 36 = .ok (.iand, 1) := by decide +kernel
theorem dX8_isIntersectionClosed_37 : decode cX8_isIntersectionClosed 37 = .ok (.invokevirtual 87, 3) := by decide +kernel
theorem dX8_isIntersectionClosed_40 : decode cX8_isIntersectionClosed 40 = .ok (.bipush (-6), 2) := by decide +kernel
theorem dX8_isIntersectionClosed_42 : decode cX8_isIntersectionClosed 42 = .ok (.if_icmp .eq 7, 3) := by decide +kernel
theorem dX8_isIntersectionClosed_45 : decode cX8_isIntersectionClosed 45 = .ok (.iconst 1, 1) := by decide +kernel
theorem dX8_isIntersectionClosed_46 : decode cX8_isIntersectionClosed 46 = .ok (.goto 4, 3) := by decide +kernel
theorem dX8_isIntersectionClosed_49 : decode cX8_isIntersectionClosed 49 = .ok (.iconst 0, 1) := by decide +kernel
theorem dX8_isIntersectionClosed_50 : decode cX8_isIntersectionClosed 50 = .ok (.istore_n 1, 1) := by decide +kernel
theorem dX8_isIntersectionClosed_51 : decode cX8_isIntersectionClosed 51 = .ok (.iinc 3 1, 3) := by decide +kernel
theorem dX8_isIntersectionClosed_54 : decode cX8_isIntersectionClosed 54 = .ok (.goto (-40), 3) := by decide +kernel
theorem dX8_isIntersectionClosed_57 : decode cX8_isIntersectionClosed 57 = .ok (.iinc 2 1, 3) := by decide +kernel
theorem dX8_isIntersectionClosed_60 : decode cX8_isIntersectionClosed 60 = .ok (.goto (-56), 3) := by decide +kernel
theorem dX8_isIntersectionClosed_63 : decode cX8_isIntersectionClosed 63 = .ok (.iload_n 1, 1) := by decide +kernel
theorem dX8_isIntersectionClosed_64 : decode cX8_isIntersectionClosed 64 = .ok (.ifCond .eq 7, 3) := by decide +kernel
theorem dX8_isIntersectionClosed_67 : decode cX8_isIntersectionClosed 67 = .ok (.iconst 1, 1) := by decide +kernel
theorem dX8_isIntersectionClosed_68 : decode cX8_isIntersectionClosed 68 = .ok (.goto 4, 3) := by decide +kernel
theorem dX8_isIntersectionClosed_71 : decode cX8_isIntersectionClosed 71 = .ok (.iconst 0, 1) := by decide +kernel
theorem dX8_isIntersectionClosed_72 : decode cX8_isIntersectionClosed 72 = .ok (.ireturn, 1) := by decide +kernel
theorem dX8_all_0 : decode cX8_all 0 = .ok (.iconst 1, 1) := by decide +kernel
theorem dX8_all_1 : decode cX8_all 1 = .ok (.aload_n 0, 1) := by decide +kernel
theorem dX8_all_2 : decode cX8_all 2 = .ok (.getfield 67, 3) := by decide +kernel
theorem dX8_all_5 : decode cX8_all 5 = .ok (.ishl, 1) := by decide +kernel
theorem dX8_all_6 : decode cX8_all 6 = .ok (.iconst 1, 1) := by decide +kernel
theorem dX8_all_7 : decode cX8_all 7 = .ok (.isub, 1) := by decide +kernel
theorem dX8_all_8 : decode cX8_all 8 = .ok (.ireturn, 1) := by decide +kernel
set_option maxRecDepth 20000 in
theorem ggX8_teaches_X8_has : GoodIn wsX8_teaches wsX8_has := goodIn_r _ [6] (by decide +kernel) (by decide +kernel)
set_option maxRecDepth 20000 in
theorem gX8_teaches_X8_has : GoodIn wsX8_teaches (va_wsS RX8 96 yX8_has wsX8_has) := goodIn_app (goodIn_of _ (by decide +kernel)) ggX8_teaches_X8_has
theorem dX8_teaches_0 : decode cX8_teaches 0 = .ok (.iconst 1, 1) := by decide +kernel
theorem dX8_teaches_1 : decode cX8_teaches 1 = .ok (.istore 4, 2) := by decide +kernel
theorem dX8_teaches_3 : decode cX8_teaches 3 = .ok (.iconst 0, 1) := by decide +kernel
theorem dX8_teaches_4 : decode cX8_teaches 4 = .ok (.istore 5, 2) := by decide +kernel
theorem dX8_teaches_6 : decode cX8_teaches 6 = .ok (.iload 5, 2) := by decide +kernel
theorem dX8_teaches_8 : decode cX8_teaches 8 = .ok (.aload_n 0, 1) := by decide +kernel
theorem dX8_teaches_9 : decode cX8_teaches 9 = .ok (.getfield 67, 3) := by decide +kernel
theorem dX8_teaches_12 : decode cX8_teaches 12 = .ok (.if_icmp .ge 56, 3) := by decide +kernel
theorem dX8_teaches_15 : decode cX8_teaches 15 = .ok (.iload 4, 2) := by decide +kernel
theorem dX8_teaches_17 : decode cX8_teaches 17 = .ok (.ifCond .eq 42, 3) := by decide +kernel
theorem dX8_teaches_20 : decode cX8_teaches 20 = .ok (.iload 5, 2) := by decide +kernel
theorem dX8_teaches_22 : decode cX8_teaches 22 = .ok (.iload_n 1, 1) := by decide +kernel
theorem dX8_teaches_23 : decode cX8_teaches 23 = .ok (.if_icmp .eq 32, 3) := by decide +kernel
theorem dX8_teaches_26 : decode cX8_teaches 26 = .ok (.iload_n 3, 1) := by decide +kernel
theorem dX8_teaches_27 : decode cX8_teaches 27 = .ok (.iload 5, 2) := by decide +kernel
theorem dX8_teaches_29 : decode cX8_teaches 29 = .ok (.invokestatic 96, 3) := by decide +kernel
theorem dX8_teaches_32 : decode cX8_teaches 32 = .ok (.ifCond .eq 23, 3) := by decide +kernel
theorem dX8_teaches_35 : decode cX8_teaches 35 = .ok (.aload_n 0, 1) := by decide +kernel
theorem dX8_teaches_36 : decode cX8_teaches 36 = .ok (.getfield 19, 3) := by decide +kernel
theorem dX8_teaches_39 : decode cX8_teaches 39 = .ok (.iload 5, 2) := by decide +kernel
theorem dX8_teaches_41 : decode cX8_teaches 41 = .ok (.iaload, 1) := by decide +kernel
theorem dX8_teaches_42 : decode cX8_teaches 42 = .ok (.iload_n 2, 1) := by decide +kernel
theorem dX8_teaches_43 : decode cX8_teaches 43 = .ok (.iand, 1) := by decide +kernel
theorem dX8_teaches_44 : decode cX8_teaches 44 = .ok (.aload_n 0, 1) := by decide +kernel
theorem dX8_teaches_45 : decode cX8_teaches 45 = .ok (.getfield 19, 3) := by decide +kernel
theorem dX8_teaches_48 : decode cX8_teaches 48 = .ok (.iload_n 1, 1) := by decide +kernel
theorem dX8_teaches_49 : decode cX8_teaches 49 = .ok (.iaload, 1) := by decide +kernel
theorem dX8_teaches_50 : decode cX8_teaches 50 = .ok (.iload_n 2, 1) := by decide +kernel
theorem dX8_teaches_51 : decode cX8_teaches 51 = .ok (.iand, 1) := by decide +kernel
theorem dX8_teaches_52 : decode cX8_teaches 52 = .ok (.if_icmp .eq 7, 3) := by decide +kernel
theorem dX8_teaches_55 : decode cX8_teaches 55 = .ok (.iconst 1, 1) := by decide +kernel
theorem dX8_teaches_56 : decode cX8_teaches 56 = .ok (.goto 4, 3) := by decide +kernel
theorem dX8_teaches_59 : decode cX8_teaches 59 = .ok (.iconst 0, 1) := by decide +kernel
theorem dX8_teaches_60 : decode cX8_teaches 60 = .ok (.istore 4, 2) := by decide +kernel
theorem dX8_teaches_62 : decode cX8_teaches 62 = .ok (.iinc 5 1, 3) := by decide +kernel
theorem dX8_teaches_65 : decode cX8_teaches 65 = .ok (.goto (-59), 3) := by decide +kernel
theorem dX8_teaches_68 : decode cX8_teaches 68 = .ok (.iload 4, 2) := by decide +kernel
theorem dX8_teaches_70 : decode cX8_teaches 70 = .ok (.ireturn, 1) := by decide +kernel
set_option maxRecDepth 20000 in
theorem ggX8_least_X8_teaches : GoodIn wsX8_least wsX8_teaches := goodIn_r _ [7, 8, 9, 10, 11, 6, 12, 13, 14, 15, 16, 17, 18, 19, 20, 21, 22, 23, 24, 25, 26, 27, 28, 29, 30, 31, 32, 33, 34] (by decide +kernel) (by decide +kernel)
set_option maxRecDepth 20000 in
theorem gX8_least_X8_teaches : GoodIn wsX8_least (wsV RX8 104 RX8 yX8_teaches wsX8_teaches) := goodIn_app (goodIn_of _ (by decide +kernel)) ggX8_least_X8_teaches
theorem dX8_least_0 : decode cX8_least 0 = .ok (.iconst 0, 1) := by decide +kernel
theorem dX8_least_1 : decode cX8_least 1 = .ok (.istore_n 3, 1) := by decide +kernel
theorem dX8_least_2 : decode cX8_least 2 = .ok (.iload_n 3, 1) := by decide +kernel
theorem dX8_least_3 : decode cX8_least 3 = .ok (.sipush 256, 3) := by decide +kernel
theorem dX8_least_6 : decode cX8_least 6 = .ok (.if_icmp .ge 46, 3) := by decide +kernel
theorem dX8_least_9 : decode cX8_least 9 = .ok (.aload_n 0, 1) := by decide +kernel
theorem dX8_least_10 : decode cX8_least 10 = .ok (.getfield 15, 3) := by decide +kernel
theorem dX8_least_13 : decode cX8_least 13 = .ok (.iload_n 3, 1) := by decide +kernel
theorem dX8_least_14 : decode cX8_least 14 = .ok (.iaload, 1) := by decide +kernel
theorem dX8_least_15 : decode cX8_least 15 = .ok (.iconst 1, 1) := by decide +kernel
theorem dX8_least_16 : decode cX8_least 16 = .ok (.aload_n 0, 1) := by decide +kernel
theorem dX8_least_17 : decode cX8_least 17 = .ok (.getfield 9, 3) := by decide +kernel
theorem dX8_least_20 : decode cX8_least 20 = .ok (.ishl, 1) := by decide +kernel
theorem dX8_least_21 : decode cX8_least 21 = .ok (.if_icmp .ge 25, 3) := by decide +kernel
theorem dX8_least_24 : decode cX8_least 24 = .ok (.aload_n 0, 1) := by decide +kernel
theorem dX8_least_25 : decode cX8_least 25 = .ok (.iload_n 1, 1) := by decide +kernel
theorem dX8_least_26 : decode cX8_least 26 = .ok (.aload_n 0, 1) := by decide +kernel
theorem dX8_least_27 : decode cX8_least 27 = .ok (.getfield 15, 3) := by decide +kernel
theorem dX8_least_30 : decode cX8_least 30 = .ok (.iload_n 3, 1) := by decide +kernel
theorem dX8_least_31 : decode cX8_least 31 = .ok (.iaload, 1) := by decide +kernel
theorem dX8_least_32 : decode cX8_least 32 = .ok (.iload_n 2, 1) := by decide +kernel
theorem dX8_least_33 : decode cX8_least 33 = .ok (.invokevirtual 104, 3) := by decide +kernel
theorem dX8_least_36 : decode cX8_least 36 = .ok (.ifCond .eq 10, 3) := by decide +kernel
theorem dX8_least_39 : decode cX8_least 39 = .ok (.aload_n 0, 1) := by decide +kernel
theorem dX8_least_40 : decode cX8_least 40 = .ok (.getfield 15, 3) := by decide +kernel
theorem dX8_least_43 : decode cX8_least 43 = .ok (.iload_n 3, 1) := by decide +kernel
theorem dX8_least_44 : decode cX8_least 44 = .ok (.iaload, 1) := by decide +kernel
theorem dX8_least_45 : decode cX8_least 45 = .ok (.ireturn, 1) := by decide +kernel
theorem dX8_least_46 : decode cX8_least 46 = .ok (.iinc 3 1, 3) := by decide +kernel
theorem dX8_least_49 : decode cX8_least 49 = .ok (.goto (-47), 3) := by decide +kernel
theorem dX8_least_52 : decode cX8_least 52 = .ok (.iconst 1, 1) := by decide +kernel
theorem dX8_least_53 : decode cX8_least 53 = .ok (.aload_n 0, 1) := by decide +kernel
theorem dX8_least_54 : decode cX8_least 54 = .ok (.getfield 9, 3) := by decide +kernel
theorem dX8_least_57 : decode cX8_least 57 = .ok (.ishl, 1) := by decide +kernel
theorem dX8_least_58 : decode cX8_least 58 = .ok (.iconst 1, 1) := by decide +kernel
theorem dX8_least_59 : decode cX8_least 59 = .ok (.isub, 1) := by decide +kernel
theorem dX8_least_60 : decode cX8_least 60 = .ok (.ireturn, 1) := by decide +kernel
set_option maxRecDepth 20000 in
theorem ggX8_isTeachingSet_X8_isConcept : GoodIn wsX8_isTeachingSet wsX8_isConcept := goodIn_r _ [5, 6, 7, 8, 4, 9, 27, 28, 29, 30, 31, 32, 33, 34, 35, 36, 37, 38, 39, 40, 41, 42, 43, 44, 45, 46, 47, 48] (by decide +kernel) (by decide +kernel)
set_option maxRecDepth 20000 in
theorem gX8_isTeachingSet_X8_isConcept : GoodIn wsX8_isTeachingSet (wsV RX8 93 RX8 yX8_isConcept wsX8_isConcept) := goodIn_app (goodIn_of _ (by decide +kernel)) ggX8_isTeachingSet_X8_isConcept
set_option maxRecDepth 20000 in
theorem ggX8_isTeachingSet_X8_isSet : GoodIn wsX8_isTeachingSet wsX8_isSet := goodIn_r _ [13, 14, 7, 8, 4, 9, 27, 28, 29, 30, 31, 32, 33, 34, 35, 36, 37, 38, 39, 40, 41, 42, 43, 44, 45, 46, 47, 48] (by decide +kernel) (by decide +kernel)
set_option maxRecDepth 20000 in
theorem gX8_isTeachingSet_X8_isSet : GoodIn wsX8_isTeachingSet (wsV RX8 83 RX8 yX8_isSet wsX8_isSet) := goodIn_app (goodIn_of _ (by decide +kernel)) ggX8_isTeachingSet_X8_isSet
set_option maxRecDepth 20000 in
theorem ggX8_isTeachingSet_X8_all : GoodIn wsX8_isTeachingSet wsX8_all := goodIn_r _ [18, 6, 27, 28, 29, 30, 31, 32, 33, 34, 35, 36, 37, 38, 39, 40, 41, 42, 43, 44, 45, 46, 47, 48] (by decide +kernel) (by decide +kernel)
set_option maxRecDepth 20000 in
theorem gX8_isTeachingSet_X8_all : GoodIn wsX8_isTeachingSet (wsV RX8 108 RX8 yX8_all wsX8_all) := goodIn_app (goodIn_of _ (by decide +kernel)) ggX8_isTeachingSet_X8_all
set_option maxRecDepth 20000 in
theorem ggX8_isTeachingSet_X8_teaches : GoodIn wsX8_isTeachingSet wsX8_teaches := goodIn_r _ [22, 6, 23, 24, 25, 4, 26, 27, 28, 29, 30, 31, 32, 33, 34, 35, 36, 37, 38, 39, 40, 41, 42, 43, 44, 45, 46, 47, 48] (by decide +kernel) (by decide +kernel)
set_option maxRecDepth 20000 in
theorem gX8_isTeachingSet_X8_teaches : GoodIn wsX8_isTeachingSet (wsV RX8 104 RX8 yX8_teaches wsX8_teaches) := goodIn_app (goodIn_of _ (by decide +kernel)) ggX8_isTeachingSet_X8_teaches
theorem dX8_isTeachingSet_0 : decode cX8_isTeachingSet 0 = .ok (.aload_n 0, 1) := by decide +kernel
theorem dX8_isTeachingSet_1 : decode cX8_isTeachingSet 1 = .ok (.iload_n 1, 1) := by decide +kernel
theorem dX8_isTeachingSet_2 : decode cX8_isTeachingSet 2 = .ok (.invokevirtual 93, 3) := by decide +kernel
theorem dX8_isTeachingSet_5 : decode cX8_isTeachingSet 5 = .ok (.ifCond .ne 6, 3) := by decide +kernel
theorem dX8_isTeachingSet_8 : decode cX8_isTeachingSet 8 = .ok (.bipush (-2), 2) := by decide +kernel
theorem dX8_isTeachingSet_10 : decode cX8_isTeachingSet 10 = .ok (.ireturn, 1) := by decide +kernel
theorem dX8_isTeachingSet_11 : decode cX8_isTeachingSet 11 = .ok (.aload_n 0, 1) := by decide +kernel
theorem dX8_isTeachingSet_12 : decode cX8_isTeachingSet 12 = .ok (.iload_n 2, 1) := by decide +kernel
theorem dX8_isTeachingSet_13 : decode cX8_isTeachingSet 13 = .ok (.invokevirtual 83, 3) := by decide +kernel
theorem dX8_isTeachingSet_16 : decode cX8_isTeachingSet 16 = .ok (.ifCond .eq 24, 3) := by decide +kernel
theorem dX8_isTeachingSet_19 : decode cX8_isTeachingSet 19 = .ok (.aload_n 0, 1) := by decide +kernel
theorem dX8_isTeachingSet_20 : decode cX8_isTeachingSet 20 = .ok (.iload_n 1, 1) := by decide +kernel
theorem dX8_isTeachingSet_21 : decode cX8_isTeachingSet 21 = .ok (.iload_n 2, 1) := by decide +kernel
theorem dX8_isTeachingSet_22 : decode cX8_isTeachingSet 22 = .ok (.aload_n 0, 1) := by decide +kernel
theorem dX8_isTeachingSet_23 : decode cX8_isTeachingSet 23 = .ok (.invokevirtual 108, 3) := by decide +kernel
theorem dX8_isTeachingSet_26 : decode cX8_isTeachingSet 26 = .ok (.invokevirtual 104, 3) := by decide +kernel
theorem dX8_isTeachingSet_29 : decode cX8_isTeachingSet 29 = .ok (.ifCond .eq 7, 3) := by decide +kernel
theorem dX8_isTeachingSet_32 : decode cX8_isTeachingSet 32 = .ok (.iconst 1, 1) := by decide +kernel
theorem dX8_isTeachingSet_33 : decode cX8_isTeachingSet 33 = .ok (.goto 8, 3) := by decide +kernel
theorem dX8_isTeachingSet_36 : decode cX8_isTeachingSet 36 = .ok (.iconst 0, 1) := by decide +kernel
theorem dX8_isTeachingSet_37 : decode cX8_isTeachingSet 37 = .ok (.goto 4, 3) := by decide +kernel
theorem dX8_isTeachingSet_40 : decode cX8_isTeachingSet 40 = .ok (.iconst (-1), 1) := by decide +kernel
theorem dX8_isTeachingSet_41 : decode cX8_isTeachingSet 41 = .ok (.ireturn, 1) := by decide +kernel
set_option maxRecDepth 20000 in
theorem ggX8_teachingSet_X8_isConcept : GoodIn wsX8_teachingSet wsX8_isConcept := goodIn_r _ [5, 6, 7, 8, 4, 9, 28, 29, 30, 31, 32, 33, 34, 35, 36, 37, 38, 39, 40, 41, 42, 43, 44, 45, 46, 47, 48, 49] (by decide +kernel) (by decide +kernel)
set_option maxRecDepth 20000 in
theorem gX8_teachingSet_X8_isConcept : GoodIn wsX8_teachingSet (wsV RX8 93 RX8 yX8_isConcept wsX8_isConcept) := goodIn_app (goodIn_of _ (by decide +kernel)) ggX8_teachingSet_X8_isConcept
set_option maxRecDepth 20000 in
theorem ggX8_teachingSet_X8_all : GoodIn wsX8_teachingSet wsX8_all := goodIn_r _ [13, 6, 28, 29, 30, 31, 32, 33, 34, 35, 36, 37, 38, 39, 40, 41, 42, 43, 44, 45, 46, 47, 48, 49] (by decide +kernel) (by decide +kernel)
set_option maxRecDepth 20000 in
theorem gX8_teachingSet_X8_all : GoodIn wsX8_teachingSet (wsV RX8 108 RX8 yX8_all wsX8_all) := goodIn_app (goodIn_of _ (by decide +kernel)) ggX8_teachingSet_X8_all
set_option maxRecDepth 20000 in
theorem ggX8_teachingSet_X8_least : GoodIn wsX8_teachingSet wsX8_least := goodIn_r _ [17, 18, 19, 20, 21, 22, 4, 23, 6, 24, 25, 26, 27, 28, 29, 30, 31, 32, 33, 34, 35, 36, 37, 38, 39, 40, 41, 42, 43, 44, 45, 46, 47, 48, 49] (by decide +kernel) (by decide +kernel)
set_option maxRecDepth 20000 in
theorem gX8_teachingSet_X8_least : GoodIn wsX8_teachingSet (wsV RX8 112 RX8 yX8_least wsX8_least) := goodIn_app (goodIn_of _ (by decide +kernel)) ggX8_teachingSet_X8_least
theorem dX8_teachingSet_0 : decode cX8_teachingSet 0 = .ok (.aload_n 0, 1) := by decide +kernel
theorem dX8_teachingSet_1 : decode cX8_teachingSet 1 = .ok (.iload_n 1, 1) := by decide +kernel
theorem dX8_teachingSet_2 : decode cX8_teachingSet 2 = .ok (.invokevirtual 93, 3) := by decide +kernel
theorem dX8_teachingSet_5 : decode cX8_teachingSet 5 = .ok (.ifCond .eq 15, 3) := by decide +kernel
theorem dX8_teachingSet_8 : decode cX8_teachingSet 8 = .ok (.aload_n 0, 1) := by decide +kernel
theorem dX8_teachingSet_9 : decode cX8_teachingSet 9 = .ok (.iload_n 1, 1) := by decide +kernel
theorem dX8_teachingSet_10 : decode cX8_teachingSet 10 = .ok (.aload_n 0, 1) := by decide +kernel
theorem dX8_teachingSet_11 : decode cX8_teachingSet 11 = .ok (.invokevirtual 108, 3) := by decide +kernel
theorem dX8_teachingSet_14 : decode cX8_teachingSet 14 = .ok (.invokevirtual 112, 3) := by decide +kernel
theorem dX8_teachingSet_17 : decode cX8_teachingSet 17 = .ok (.goto 5, 3) := by decide +kernel
theorem dX8_teachingSet_20 : decode cX8_teachingSet 20 = .ok (.bipush (-2), 2) := by decide +kernel
theorem dX8_teachingSet_22 : decode cX8_teachingSet 22 = .ok (.ireturn, 1) := by decide +kernel
set_option maxRecDepth 20000 in
theorem ggX8_teachingSetCount_X8_isConcept : GoodIn wsX8_teachingSetCount wsX8_isConcept := goodIn_r _ [6, 7, 8, 9, 5, 10, 26, 27, 28, 29, 30, 31, 32, 33, 34, 35, 36, 37, 38, 39, 40, 41, 42, 43, 44, 45, 46, 47] (by decide +kernel) (by decide +kernel)
set_option maxRecDepth 20000 in
theorem gX8_teachingSetCount_X8_isConcept : GoodIn wsX8_teachingSetCount (wsV RX8 93 RX8 yX8_isConcept wsX8_isConcept) := goodIn_app (goodIn_of _ (by decide +kernel)) ggX8_teachingSetCount_X8_isConcept
set_option maxRecDepth 20000 in
theorem ggX8_teachingSetCount_X8_in : GoodIn wsX8_teachingSetCount wsX8_in := goodIn_r _ [10] (by decide +kernel) (by decide +kernel)
set_option maxRecDepth 20000 in
theorem gX8_teachingSetCount_X8_in : GoodIn wsX8_teachingSetCount (va_wsS RX8 70 yX8_in wsX8_in) := goodIn_app (goodIn_of _ (by decide +kernel)) ggX8_teachingSetCount_X8_in
set_option maxRecDepth 20000 in
theorem ggX8_teachingSetCount_X8_sizeOf : GoodIn wsX8_teachingSetCount wsX8_sizeOf := goodIn_r _ [13] (by decide +kernel) (by decide +kernel)
set_option maxRecDepth 20000 in
theorem gX8_teachingSetCount_X8_sizeOf : GoodIn wsX8_teachingSetCount (va_wsS RX8 63 yX8_sizeOf wsX8_sizeOf) := goodIn_app (goodIn_of _ (by decide +kernel)) ggX8_teachingSetCount_X8_sizeOf
set_option maxRecDepth 20000 in
theorem ggX8_teachingSetCount_X8_all : GoodIn wsX8_teachingSetCount wsX8_all := goodIn_r _ [17, 7, 26, 27, 28, 29, 30, 31, 32, 33, 34, 35, 36, 37, 38, 39, 40, 41, 42, 43, 44, 45, 46, 47] (by decide +kernel) (by decide +kernel)
set_option maxRecDepth 20000 in
theorem gX8_teachingSetCount_X8_all : GoodIn wsX8_teachingSetCount (wsV RX8 108 RX8 yX8_all wsX8_all) := goodIn_app (goodIn_of _ (by decide +kernel)) ggX8_teachingSetCount_X8_all
set_option maxRecDepth 20000 in
theorem ggX8_teachingSetCount_X8_teaches : GoodIn wsX8_teachingSetCount wsX8_teaches := goodIn_r _ [21, 7, 22, 23, 24, 5, 25, 26, 27, 28, 29, 30, 31, 32, 33, 34, 35, 36, 37, 38, 39, 40, 41, 42, 43, 44, 45, 46, 47] (by decide +kernel) (by decide +kernel)
set_option maxRecDepth 20000 in
theorem gX8_teachingSetCount_X8_teaches : GoodIn wsX8_teachingSetCount (wsV RX8 104 RX8 yX8_teaches wsX8_teaches) := goodIn_app (goodIn_of _ (by decide +kernel)) ggX8_teachingSetCount_X8_teaches
theorem dX8_teachingSetCount_0 : decode cX8_teachingSetCount 0 = .ok (.aload_n 0, 1) := by decide +kernel
theorem dX8_teachingSetCount_1 : decode cX8_teachingSetCount 1 = .ok (.iload_n 1, 1) := by decide +kernel
theorem dX8_teachingSetCount_2 : decode cX8_teachingSetCount 2 = .ok (.invokevirtual 93, 3) := by decide +kernel
theorem dX8_teachingSetCount_5 : decode cX8_teachingSetCount 5 = .ok (.ifCond .ne 6, 3) := by decide +kernel
theorem dX8_teachingSetCount_8 : decode cX8_teachingSetCount 8 = .ok (.bipush (-2), 2) := by decide +kernel
theorem dX8_teachingSetCount_10 : decode cX8_teachingSetCount 10 = .ok (.ireturn, 1) := by decide +kernel
theorem dX8_teachingSetCount_11 : decode cX8_teachingSetCount 11 = .ok (.iload_n 2, 1) := by decide +kernel
theorem dX8_teachingSetCount_12 : decode cX8_teachingSetCount 12 = .ok (.i2l, 1) := by decide +kernel
theorem dX8_teachingSetCount_13 : decode cX8_teachingSetCount 13 = .ok (.lconst 0, 1) := by decide +kernel
theorem dX8_teachingSetCount_14 : decode cX8_teachingSetCount 14 = .ok (.aload_n 0, 1) := by decide +kernel
theorem dX8_teachingSetCount_15 : decode cX8_teachingSetCount 15 = .ok (.getfield 9, 3) := by decide +kernel
theorem dX8_teachingSetCount_18 : decode cX8_teachingSetCount 18 = .ok (.i2l, 1) := by decide +kernel
theorem dX8_teachingSetCount_19 : decode cX8_teachingSetCount 19 = .ok (.invokestatic 70, 3) := by decide +kernel
theorem dX8_teachingSetCount_22 : decode cX8_teachingSetCount 22 = .ok (.ifCond .ne 5, 3) := by decide +kernel
theorem dX8_teachingSetCount_25 : decode cX8_teachingSetCount 25 = .ok (.iconst (-1), 1) := by decide +kernel
theorem dX8_teachingSetCount_26 : decode cX8_teachingSetCount 26 = .ok (.ireturn, 1) := by decide +kernel
theorem dX8_teachingSetCount_27 : decode cX8_teachingSetCount 27 = .ok (.iconst 0, 1) := by decide +kernel
theorem dX8_teachingSetCount_28 : decode cX8_teachingSetCount 28 = .ok (.istore_n 3, 1) := by decide +kernel
theorem dX8_teachingSetCount_29 : decode cX8_teachingSetCount 29 = .ok (.iconst 0, 1) := by decide +kernel
theorem dX8_teachingSetCount_30 : decode cX8_teachingSetCount 30 = .ok (.istore 4, 2) := by decide +kernel
theorem dX8_teachingSetCount_32 : decode cX8_teachingSetCount 32 = .ok (.iload 4, 2) := by decide +kernel
theorem dX8_teachingSetCount_34 : decode cX8_teachingSetCount 34 = .ok (.iconst 1, 1) := by decide +kernel
theorem dX8_teachingSetCount_35 : decode cX8_teachingSetCount 35 = .ok (.aload_n 0, 1) := by decide +kernel
theorem dX8_teachingSetCount_36 : decode cX8_teachingSetCount 36 = .ok (.getfield 9, 3) := by decide +kernel
theorem dX8_teachingSetCount_39 : decode cX8_teachingSetCount 39 = .ok (.ishl, 1) := by decide +kernel
theorem dX8_teachingSetCount_40 : decode cX8_teachingSetCount 40 = .ok (.if_icmp .ge 40, 3) := by decide +kernel
theorem dX8_teachingSetCount_43 : decode cX8_teachingSetCount 43 = .ok (.iload_n 3, 1) := by decide +kernel
theorem dX8_teachingSetCount_44 : decode cX8_teachingSetCount 44 = .ok (.iload 4, 2) := by decide +kernel
theorem dX8_teachingSetCount_46 : decode cX8_teachingSetCount 46 = .ok (.invokestatic 63, 3) := by decide +kernel
theorem dX8_teachingSetCount_49 : decode cX8_teachingSetCount 49 = .ok (.iload_n 2, 1) := by decide +kernel
theorem dX8_teachingSetCount_50 : decode cX8_teachingSetCount 50 = .ok (.if_icmp .ne 21, 3) := by decide +kernel
theorem dX8_teachingSetCount_53 : decode cX8_teachingSetCount 53 = .ok (.aload_n 0, 1) := by decide +kernel
theorem dX8_teachingSetCount_54 : decode cX8_teachingSetCount 54 = .ok (.iload_n 1, 1) := by decide +kernel
theorem dX8_teachingSetCount_55 : decode cX8_teachingSetCount 55 = .ok (.iload 4, 2) := by decide +kernel
theorem dX8_teachingSetCount_57 : decode cX8_teachingSetCount 57 = .ok (.aload_n 0, 1) := by decide +kernel
theorem dX8_teachingSetCount_58 : decode cX8_teachingSetCount 58 = .ok (.invokevirtual 108, 3) := by decide +kernel
theorem dX8_teachingSetCount_61 : decode cX8_teachingSetCount 61 = .ok (.invokevirtual 104, 3) := by decide +kernel
theorem dX8_teachingSetCount_64 : decode cX8_teachingSetCount 64 = .ok (.ifCond .eq 7, 3) := by decide +kernel
theorem dX8_teachingSetCount_67 : decode cX8_teachingSetCount 67 = .ok (.iconst 1, 1) := by decide +kernel
theorem dX8_teachingSetCount_68 : decode cX8_teachingSetCount 68 = .ok (.goto 4, 3) := by decide +kernel
theorem dX8_teachingSetCount_71 : decode cX8_teachingSetCount 71 = .ok (.iconst 0, 1) := by decide +kernel
theorem dX8_teachingSetCount_72 : decode cX8_teachingSetCount 72 = .ok (.iadd, 1) := by decide +kernel
theorem dX8_teachingSetCount_73 : decode cX8_teachingSetCount 73 = .ok (.istore_n 3, 1) := by decide +kernel
theorem dX8_teachingSetCount_74 : decode cX8_teachingSetCount 74 = .ok (.iinc 4 1, 3) := by decide +kernel
theorem dX8_teachingSetCount_77 : decode cX8_teachingSetCount 77 = .ok (.goto (-45), 3) := by decide +kernel
theorem dX8_teachingSetCount_80 : decode cX8_teachingSetCount 80 = .ok (.iload_n 3, 1) := by decide +kernel
theorem dX8_teachingSetCount_81 : decode cX8_teachingSetCount 81 = .ok (.ireturn, 1) := by decide +kernel
set_option maxRecDepth 20000 in
theorem ggX8_teachingDimension_X8_in : GoodIn wsX8_teachingDimension wsX8_in := goodIn_r _ [5] (by decide +kernel) (by decide +kernel)
set_option maxRecDepth 20000 in
theorem gX8_teachingDimension_X8_in : GoodIn wsX8_teachingDimension (va_wsS RX8 70 yX8_in wsX8_in) := goodIn_app (goodIn_of _ (by decide +kernel)) ggX8_teachingDimension_X8_in
set_option maxRecDepth 20000 in
theorem ggX8_teachingDimension_X8_all : GoodIn wsX8_teachingDimension wsX8_all := goodIn_r _ [9, 1, 27, 28, 29, 30, 31, 32, 33, 34, 35, 36, 37, 38, 39, 40, 41, 42, 43, 44, 45, 46, 47, 48] (by decide +kernel) (by decide +kernel)
set_option maxRecDepth 20000 in
theorem gX8_teachingDimension_X8_all : GoodIn wsX8_teachingDimension (wsV RX8 108 RX8 yX8_all wsX8_all) := goodIn_app (goodIn_of _ (by decide +kernel)) ggX8_teachingDimension_X8_all
set_option maxRecDepth 20000 in
theorem ggX8_teachingDimension_X8_least : GoodIn wsX8_teachingDimension wsX8_least := goodIn_r _ [13, 14, 15, 16, 17, 18, 4, 19, 1, 20, 21, 22, 23, 27, 28, 29, 30, 31, 32, 33, 34, 35, 36, 37, 38, 39, 40, 41, 42, 43, 44, 45, 46, 47, 48] (by decide +kernel) (by decide +kernel)
set_option maxRecDepth 20000 in
theorem gX8_teachingDimension_X8_least : GoodIn wsX8_teachingDimension (wsV RX8 112 RX8 yX8_least wsX8_least) := goodIn_app (goodIn_of _ (by decide +kernel)) ggX8_teachingDimension_X8_least
set_option maxRecDepth 20000 in
theorem ggX8_teachingDimension_X8_sizeOf : GoodIn wsX8_teachingDimension wsX8_sizeOf := goodIn_r _ [26] (by decide +kernel) (by decide +kernel)
set_option maxRecDepth 20000 in
theorem gX8_teachingDimension_X8_sizeOf : GoodIn wsX8_teachingDimension (va_wsS RX8 63 yX8_sizeOf wsX8_sizeOf) := goodIn_app (goodIn_of _ (by decide +kernel)) ggX8_teachingDimension_X8_sizeOf
theorem dX8_teachingDimension_0 : decode cX8_teachingDimension 0 = .ok (.iload_n 1, 1) := by decide +kernel
theorem dX8_teachingDimension_1 : decode cX8_teachingDimension 1 = .ok (.i2l, 1) := by decide +kernel
theorem dX8_teachingDimension_2 : decode cX8_teachingDimension 2 = .ok (.lconst 0, 1) := by decide +kernel
theorem dX8_teachingDimension_3 : decode cX8_teachingDimension 3 = .ok (.lconst 1, 1) := by decide +kernel
theorem dX8_teachingDimension_4 : decode cX8_teachingDimension 4 = .ok (.invokestatic 70, 3) := by decide +kernel
theorem dX8_teachingDimension_7 : decode cX8_teachingDimension 7 = .ok (.ifCond .ne 5, 3) := by decide +kernel
theorem dX8_teachingDimension_10 : decode cX8_teachingDimension 10 = .ok (.iconst (-1), 1) := by decide +kernel
theorem dX8_teachingDimension_11 : decode cX8_teachingDimension 11 = .ok (.ireturn, 1) := by decide +kernel
theorem dX8_teachingDimension_12 : decode cX8_teachingDimension 12 = .ok (.aload_n 0, 1) := by decide +kernel
theorem dX8_teachingDimension_13 : decode cX8_teachingDimension 13 = .ok (.getfield 67, 3) := by decide +kernel
theorem dX8_teachingDimension_16 : decode cX8_teachingDimension 16 = .ok (.ifCond .ne 6, 3) := by decide +kernel
theorem dX8_teachingDimension_19 : decode cX8_teachingDimension 19 = .ok (.bipush (-7), 2) := by decide +kernel
theorem dX8_teachingDimension_21 : decode cX8_teachingDimension 21 = .ok (.ireturn, 1) := by decide +kernel
theorem dX8_teachingDimension_22 : decode cX8_teachingDimension 22 = .ok (.aload_n 0, 1) := by decide +kernel
theorem dX8_teachingDimension_23 : decode cX8_teachingDimension 23 = .ok (.iconst 0, 1) := by decide +kernel
theorem dX8_teachingDimension_24 : decode cX8_teachingDimension 24 = .ok (.aload_n 0, 1) := by decide +kernel
theorem dX8_teachingDimension_25 : decode cX8_teachingDimension 25 = .ok (.invokevirtual 108, 3) := by decide +kernel
theorem dX8_teachingDimension_28 : decode cX8_teachingDimension 28 = .ok (.invokevirtual 112, 3) := by decide +kernel
theorem dX8_teachingDimension_31 : decode cX8_teachingDimension 31 = .ok (.invokestatic 63, 3) := by decide +kernel
theorem dX8_teachingDimension_34 : decode cX8_teachingDimension 34 = .ok (.istore_n 2, 1) := by decide +kernel
theorem dX8_teachingDimension_35 : decode cX8_teachingDimension 35 = .ok (.iconst 1, 1) := by decide +kernel
theorem dX8_teachingDimension_36 : decode cX8_teachingDimension 36 = .ok (.istore_n 3, 1) := by decide +kernel
theorem dX8_teachingDimension_37 : decode cX8_teachingDimension 37 = .ok (.iload_n 3, 1) := by decide +kernel
theorem dX8_teachingDimension_38 : decode cX8_teachingDimension 38 = .ok (.aload_n 0, 1) := by decide +kernel
theorem dX8_teachingDimension_39 : decode cX8_teachingDimension 39 = .ok (.getfield 67, 3) := by decide +kernel
theorem dX8_teachingDimension_42 : decode cX8_teachingDimension 42 = .ok (.if_icmp .ge 55, 3) := by decide +kernel
theorem dX8_teachingDimension_45 : decode cX8_teachingDimension 45 = .ok (.aload_n 0, 1) := by decide +kernel
theorem dX8_teachingDimension_46 : decode cX8_teachingDimension 46 = .ok (.iload_n 3, 1) := by decide +kernel
theorem dX8_teachingDimension_47 : decode cX8_teachingDimension 47 = .ok (.aload_n 0, 1) := by decide +kernel
theorem dX8_teachingDimension_48 : decode cX8_teachingDimension 48 = .ok (.invokevirtual 108, 3) := by decide +kernel
theorem dX8_teachingDimension_51 : decode cX8_teachingDimension 51 = .ok (.invokevirtual 112, 3) := by decide +kernel
theorem dX8_teachingDimension_54 : decode cX8_teachingDimension 54 = .ok (.invokestatic 63, 3) := by decide +kernel
theorem dX8_teachingDimension_57 : decode cX8_teachingDimension 57 = .ok (.istore 4, 2) := by decide +kernel
theorem dX8_teachingDimension_59 : decode cX8_teachingDimension 59 = .ok (.iload_n 1, 1) := by decide +kernel
theorem dX8_teachingDimension_60 : decode cX8_teachingDimension 60 = .ok (.ifCond .ne 18, 3) := by decide +kernel
theorem dX8_teachingDimension_63 : decode cX8_teachingDimension 63 = .ok (.iload 4, 2) := by decide +kernel
theorem dX8_teachingDimension_65 : decode cX8_teachingDimension 65 = .ok (.iload_n 2, 1) := by decide +kernel
theorem dX8_teachingDimension_66 : decode cX8_teachingDimension 66 = .ok (.if_icmp .le 8, 3) := by decide +kernel
theorem dX8_teachingDimension_69 : decode cX8_teachingDimension 69 = .ok (.iload 4, 2) := by decide +kernel
theorem dX8_teachingDimension_71 : decode cX8_teachingDimension 71 = .ok (.goto 19, 3) := by decide +kernel
theorem dX8_teachingDimension_74 : decode cX8_teachingDimension 74 = .ok (.iload_n 2, 1) := by decide +kernel
theorem dX8_teachingDimension_75 : decode cX8_teachingDimension 75 = .ok (.goto 15, 3) := by decide +kernel
theorem dX8_teachingDimension_78 : decode cX8_teachingDimension 78 = .ok (.iload 4, 2) := by decide +kernel
theorem dX8_teachingDimension_80 : decode cX8_teachingDimension 80 = .ok (.iload_n 2, 1) := by decide +kernel
theorem dX8_teachingDimension_81 : decode cX8_teachingDimension 81 = .ok (.if_icmp .ge 8, 3) := by decide +kernel
theorem dX8_teachingDimension_84 : decode cX8_teachingDimension 84 = .ok (.iload 4, 2) := by decide +kernel
theorem dX8_teachingDimension_86 : decode cX8_teachingDimension 86 = .ok (.goto 4, 3) := by decide +kernel
theorem dX8_teachingDimension_89 : decode cX8_teachingDimension 89 = .ok (.iload_n 2, 1) := by decide +kernel
theorem dX8_teachingDimension_90 : decode cX8_teachingDimension 90 = .ok (.istore_n 2, 1) := by decide +kernel
theorem dX8_teachingDimension_91 : decode cX8_teachingDimension 91 = .ok (.iinc 3 1, 3) := by decide +kernel
theorem dX8_teachingDimension_94 : decode cX8_teachingDimension 94 = .ok (.goto (-57), 3) := by decide +kernel
theorem dX8_teachingDimension_97 : decode cX8_teachingDimension 97 = .ok (.iload_n 2, 1) := by decide +kernel
theorem dX8_teachingDimension_98 : decode cX8_teachingDimension 98 = .ok (.ireturn, 1) := by decide +kernel
set_option maxRecDepth 20000 in
theorem ggX8_averageDimension_X8_in : GoodIn wsX8_averageDimension wsX8_in := goodIn_r _ [5] (by decide +kernel) (by decide +kernel)
set_option maxRecDepth 20000 in
theorem gX8_averageDimension_X8_in : GoodIn wsX8_averageDimension (va_wsS RX8 70 yX8_in wsX8_in) := goodIn_app (goodIn_of _ (by decide +kernel)) ggX8_averageDimension_X8_in
set_option maxRecDepth 20000 in
theorem ggX8_averageDimension_X8_all : GoodIn wsX8_averageDimension wsX8_all := goodIn_r _ [9, 1, 27, 28, 29, 30, 31, 32, 33, 34, 35, 36, 37, 38, 39, 40, 41, 42, 43, 44, 45, 46, 47, 48] (by decide +kernel) (by decide +kernel)
set_option maxRecDepth 20000 in
theorem gX8_averageDimension_X8_all : GoodIn wsX8_averageDimension (wsV RX8 108 RX8 yX8_all wsX8_all) := goodIn_app (goodIn_of _ (by decide +kernel)) ggX8_averageDimension_X8_all
set_option maxRecDepth 20000 in
theorem ggX8_averageDimension_X8_least : GoodIn wsX8_averageDimension wsX8_least := goodIn_r _ [13, 14, 15, 16, 17, 18, 4, 19, 1, 20, 21, 22, 23, 27, 28, 29, 30, 31, 32, 33, 34, 35, 36, 37, 38, 39, 40, 41, 42, 43, 44, 45, 46, 47, 48] (by decide +kernel) (by decide +kernel)
set_option maxRecDepth 20000 in
theorem gX8_averageDimension_X8_least : GoodIn wsX8_averageDimension (wsV RX8 112 RX8 yX8_least wsX8_least) := goodIn_app (goodIn_of _ (by decide +kernel)) ggX8_averageDimension_X8_least
set_option maxRecDepth 20000 in
theorem ggX8_averageDimension_X8_sizeOf : GoodIn wsX8_averageDimension wsX8_sizeOf := goodIn_r _ [26] (by decide +kernel) (by decide +kernel)
set_option maxRecDepth 20000 in
theorem gX8_averageDimension_X8_sizeOf : GoodIn wsX8_averageDimension (va_wsS RX8 63 yX8_sizeOf wsX8_sizeOf) := goodIn_app (goodIn_of _ (by decide +kernel)) ggX8_averageDimension_X8_sizeOf
theorem dX8_averageDimension_0 : decode cX8_averageDimension 0 = .ok (.iload_n 1, 1) := by decide +kernel
theorem dX8_averageDimension_1 : decode cX8_averageDimension 1 = .ok (.i2l, 1) := by decide +kernel
theorem dX8_averageDimension_2 : decode cX8_averageDimension 2 = .ok (.lconst 0, 1) := by decide +kernel
theorem dX8_averageDimension_3 : decode cX8_averageDimension 3 = .ok (.lconst 1, 1) := by decide +kernel
theorem dX8_averageDimension_4 : decode cX8_averageDimension 4 = .ok (.invokestatic 70, 3) := by decide +kernel
theorem dX8_averageDimension_7 : decode cX8_averageDimension 7 = .ok (.ifCond .ne 5, 3) := by decide +kernel
theorem dX8_averageDimension_10 : decode cX8_averageDimension 10 = .ok (.iconst (-1), 1) := by decide +kernel
theorem dX8_averageDimension_11 : decode cX8_averageDimension 11 = .ok (.ireturn, 1) := by decide +kernel
theorem dX8_averageDimension_12 : decode cX8_averageDimension 12 = .ok (.aload_n 0, 1) := by decide +kernel
theorem dX8_averageDimension_13 : decode cX8_averageDimension 13 = .ok (.getfield 67, 3) := by decide +kernel
theorem dX8_averageDimension_16 : decode cX8_averageDimension 16 = .ok (.ifCond .ne 6, 3) := by decide +kernel
theorem dX8_averageDimension_19 : decode cX8_averageDimension 19 = .ok (.bipush (-7), 2) := by decide +kernel
theorem dX8_averageDimension_21 : decode cX8_averageDimension 21 = .ok (.ireturn, 1) := by decide +kernel
theorem dX8_averageDimension_22 : decode cX8_averageDimension 22 = .ok (.iconst 0, 1) := by decide +kernel
theorem dX8_averageDimension_23 : decode cX8_averageDimension 23 = .ok (.istore_n 2, 1) := by decide +kernel
theorem dX8_averageDimension_24 : decode cX8_averageDimension 24 = .ok (.iconst 0, 1) := by decide +kernel
theorem dX8_averageDimension_25 : decode cX8_averageDimension 25 = .ok (.istore_n 3, 1) := by decide +kernel
theorem dX8_averageDimension_26 : decode cX8_averageDimension 26 = .ok (.iload_n 3, 1) := by decide +kernel
theorem dX8_averageDimension_27 : decode cX8_averageDimension 27 = .ok (.aload_n 0, 1) := by decide +kernel
theorem dX8_averageDimension_28 : decode cX8_averageDimension 28 = .ok (.getfield 67, 3) := by decide +kernel
theorem dX8_averageDimension_31 : decode cX8_averageDimension 31 = .ok (.if_icmp .ge 24, 3) := by decide +kernel
theorem dX8_averageDimension_34 : decode cX8_averageDimension 34 = .ok (.iload_n 2, 1) := by decide +kernel
theorem dX8_averageDimension_35 : decode cX8_averageDimension 35 = .ok (.aload_n 0, 1) := by decide +kernel
theorem dX8_averageDimension_36 : decode cX8_averageDimension 36 = .ok (.iload_n 3, 1) := by decide +kernel
theorem dX8_averageDimension_37 : decode cX8_averageDimension 37 = .ok (.aload_n 0, 1) := by decide +kernel
theorem dX8_averageDimension_38 : decode cX8_averageDimension 38 = .ok (.invokevirtual 108, 3) := by decide +kernel
theorem dX8_averageDimension_41 : decode cX8_averageDimension 41 = .ok (.invokevirtual 112, 3) := by decide +kernel
theorem dX8_averageDimension_44 : decode cX8_averageDimension 44 = .ok (.invokestatic 63, 3) := by decide +kernel
theorem dX8_averageDimension_47 : decode cX8_averageDimension 47 = .ok (.iadd, 1) := by decide +kernel
theorem dX8_averageDimension_48 : decode cX8_averageDimension 48 = .ok (.istore_n 2, 1) := by decide +kernel
theorem dX8_averageDimension_49 : decode cX8_averageDimension 49 = .ok (.iinc 3 1, 3) := by decide +kernel
theorem dX8_averageDimension_52 : decode cX8_averageDimension 52 = .ok (.goto (-26), 3) := by decide +kernel
theorem dX8_averageDimension_55 : decode cX8_averageDimension 55 = .ok (.aload_n 0, 1) := by decide +kernel
theorem dX8_averageDimension_56 : decode cX8_averageDimension 56 = .ok (.getfield 67, 3) := by decide +kernel
theorem dX8_averageDimension_59 : decode cX8_averageDimension 59 = .ok (.istore_n 3, 1) := by decide +kernel
theorem dX8_averageDimension_60 : decode cX8_averageDimension 60 = .ok (.iload_n 2, 1) := by decide +kernel
theorem dX8_averageDimension_61 : decode cX8_averageDimension 61 = .ok (.istore 4, 2) := by decide +kernel
theorem dX8_averageDimension_63 : decode cX8_averageDimension 63 = .ok (.iload 4, 2) := by decide +kernel
theorem dX8_averageDimension_65 : decode cX8_averageDimension 65 = .ok (.ifCond .eq 19, 3) := by decide +kernel
theorem dX8_averageDimension_68 : decode cX8_averageDimension 68 = .ok (.iload_n 3, 1) := by decide +kernel
theorem dX8_averageDimension_69 : decode cX8_averageDimension 69 = .ok (.iload 4, 2) := by decide +kernel
theorem dX8_averageDimension_71 : decode cX8_averageDimension 71 = .ok (.irem, 1) := by decide +kernel
theorem dX8_averageDimension_72 : decode cX8_averageDimension 72 = .ok (.istore 5, 2) := by decide +kernel
theorem dX8_averageDimension_74 : decode cX8_averageDimension 74 = .ok (.iload 4, 2) := by decide +kernel
theorem dX8_averageDimension_76 : decode cX8_averageDimension 76 = .ok (.istore_n 3, 1) := by decide +kernel
theorem dX8_averageDimension_77 : decode cX8_averageDimension 77 = .ok (.iload 5, 2) := by decide +kernel
theorem dX8_averageDimension_79 : decode cX8_averageDimension 79 = .ok (.istore 4, 2) := by decide +kernel
theorem dX8_averageDimension_81 : decode cX8_averageDimension 81 = .ok (.goto (-18), 3) := by decide +kernel
theorem dX8_averageDimension_84 : decode cX8_averageDimension 84 = .ok (.iload_n 1, 1) := by decide +kernel
theorem dX8_averageDimension_85 : decode cX8_averageDimension 85 = .ok (.ifCond .ne 9, 3) := by decide +kernel
theorem dX8_averageDimension_88 : decode cX8_averageDimension 88 = .ok (.iload_n 2, 1) := by decide +kernel
theorem dX8_averageDimension_89 : decode cX8_averageDimension 89 = .ok (.iload_n 3, 1) := by decide +kernel
theorem dX8_averageDimension_90 : decode cX8_averageDimension 90 = .ok (.idiv, 1) := by decide +kernel
theorem dX8_averageDimension_91 : decode cX8_averageDimension 91 = .ok (.goto 9, 3) := by decide +kernel
theorem dX8_averageDimension_94 : decode cX8_averageDimension 94 = .ok (.aload_n 0, 1) := by decide +kernel
theorem dX8_averageDimension_95 : decode cX8_averageDimension 95 = .ok (.getfield 67, 3) := by decide +kernel
theorem dX8_averageDimension_98 : decode cX8_averageDimension 98 = .ok (.iload_n 3, 1) := by decide +kernel
theorem dX8_averageDimension_99 : decode cX8_averageDimension 99 = .ok (.idiv, 1) := by decide +kernel
theorem dX8_averageDimension_100 : decode cX8_averageDimension 100 = .ok (.ireturn, 1) := by decide +kernel
set_option maxRecDepth 20000 in
theorem ggX8_plans_X8_all : GoodIn wsX8_plans wsX8_all := goodIn_r _ [9, 2, 26, 27, 28, 29, 30, 31, 32, 33, 34, 35, 36, 37, 38, 39, 40, 41, 42, 43, 44, 45, 46, 47] (by decide +kernel) (by decide +kernel)
set_option maxRecDepth 20000 in
theorem gX8_plans_X8_all : GoodIn wsX8_plans (wsV RX8 108 RX8 yX8_all wsX8_all) := goodIn_app (goodIn_of _ (by decide +kernel)) ggX8_plans_X8_all
set_option maxRecDepth 20000 in
theorem ggX8_plans_X8_has : GoodIn wsX8_plans wsX8_has := goodIn_r _ [12] (by decide +kernel) (by decide +kernel)
set_option maxRecDepth 20000 in
theorem gX8_plans_X8_has : GoodIn wsX8_plans (va_wsS RX8 96 yX8_has wsX8_has) := goodIn_app (goodIn_of _ (by decide +kernel)) ggX8_plans_X8_has
set_option maxRecDepth 20000 in
theorem ggX8_plans_X8_least : GoodIn wsX8_plans wsX8_least := goodIn_r _ [16, 17, 1, 18, 19, 20, 8, 21, 2, 22, 10, 11, 12, 26, 27, 28, 29, 30, 31, 32, 33, 34, 35, 36, 37, 38, 39, 40, 41, 42, 43, 44, 45, 46, 47] (by decide +kernel) (by decide +kernel)
set_option maxRecDepth 20000 in
theorem gX8_plans_X8_least : GoodIn wsX8_plans (wsV RX8 112 RX8 yX8_least wsX8_least) := goodIn_app (goodIn_of _ (by decide +kernel)) ggX8_plans_X8_least
set_option maxRecDepth 20000 in
theorem ggX8_plans_X8_sizeOf : GoodIn wsX8_plans wsX8_sizeOf := goodIn_r _ [25] (by decide +kernel) (by decide +kernel)
set_option maxRecDepth 20000 in
theorem gX8_plans_X8_sizeOf : GoodIn wsX8_plans (va_wsS RX8 63 yX8_sizeOf wsX8_sizeOf) := goodIn_app (goodIn_of _ (by decide +kernel)) ggX8_plans_X8_sizeOf
theorem dX8_plans_0 : decode cX8_plans 0 = .ok (.aload_n 0, 1) := by decide +kernel
theorem dX8_plans_1 : decode cX8_plans 1 = .ok (.invokevirtual 108, 3) := by decide +kernel
theorem dX8_plans_4 : decode cX8_plans 4 = .ok (.istore_n 1, 1) := by decide +kernel
theorem dX8_plans_5 : decode cX8_plans 5 = .ok (.iconst 0, 1) := by decide +kernel
theorem dX8_plans_6 : decode cX8_plans 6 = .ok (.istore_n 2, 1) := by decide +kernel
theorem dX8_plans_7 : decode cX8_plans 7 = .ok (.iload_n 1, 1) := by decide +kernel
theorem dX8_plans_8 : decode cX8_plans 8 = .ok (.ifCond .eq 150, 3) := by decide +kernel
theorem dX8_plans_11 : decode cX8_plans 11 = .ok (.aload_n 0, 1) := by decide +kernel
theorem dX8_plans_12 : decode cX8_plans 12 = .ok (.getfield 9, 3) := by decide +kernel
theorem dX8_plans_15 : decode cX8_plans 15 = .ok (.iconst 1, 1) := by decide +kernel
theorem dX8_plans_16 : decode cX8_plans 16 = .ok (.iadd, 1) := by decide +kernel
theorem dX8_plans_17 : decode cX8_plans 17 = .ok (.istore_n 3, 1) := by decide +kernel
theorem dX8_plans_18 : decode cX8_plans 18 = .ok (.iconst 0, 1) := by decide +kernel
theorem dX8_plans_19 : decode cX8_plans 19 = .ok (.istore 4, 2) := by decide +kernel
theorem dX8_plans_21 : decode cX8_plans 21 = .ok (.iload 4, 2) := by decide +kernel
theorem dX8_plans_23 : decode cX8_plans 23 = .ok (.aload_n 0, 1) := by decide +kernel
theorem dX8_plans_24 : decode cX8_plans 24 = .ok (.getfield 67, 3) := by decide +kernel
theorem dX8_plans_27 : decode cX8_plans 27 = .ok (.if_icmp .ge 65, 3) := by decide +kernel
theorem dX8_plans_30 : decode cX8_plans 30 = .ok (.iload_n 1, 1) := by decide +kernel
theorem dX8_plans_31 : decode cX8_plans 31 = .ok (.iload 4, 2) := by decide +kernel
theorem dX8_plans_33 : decode cX8_plans 33 = .ok (.invokestatic 96, 3) := by decide +kernel
theorem dX8_plans_36 : decode cX8_plans 36 = .ok (.ifCond .eq 50, 3) := by decide +kernel
theorem dX8_plans_39 : decode cX8_plans 39 = .ok (.aload_n 0, 1) := by decide +kernel
theorem dX8_plans_40 : decode cX8_plans 40 = .ok (.getfield 57, 3) := by decide +kernel
theorem dX8_plans_43 : decode cX8_plans 43 = .ok (.iload 4, 2) := by decide +kernel
theorem dX8_plans_45 : decode cX8_plans 45 = .ok (.iload_n 2, 1) := by decide +kernel
theorem dX8_plans_46 : decode cX8_plans 46 = .ok (.iastore, 1) := by decide +kernel
theorem dX8_plans_47 : decode cX8_plans 47 = .ok (.aload_n 0, 1) := by decide +kernel
theorem dX8_plans_48 : decode cX8_plans 48 = .ok (.getfield 60, 3) := by decide +kernel
theorem dX8_plans_51 : decode cX8_plans 51 = .ok (.iload 4, 2) := by decide +kernel
theorem dX8_plans_53 : decode cX8_plans 53 = .ok (.aload_n 0, 1) := by decide +kernel
theorem dX8_plans_54 : decode cX8_plans 54 = .ok (.iload 4, 2) := by decide +kernel
theorem dX8_plans_56 : decode cX8_plans 56 = .ok (.iload_n 1, 1) := by decide +kernel
theorem dX8_plans_57 : decode cX8_plans 57 = .ok (.invokevirtual 112, 3) := by decide +kernel
theorem dX8_plans_60 : decode cX8_plans 60 = .ok (.iastore, 1) := by decide +kernel
theorem dX8_plans_61 : decode cX8_plans 61 = .ok (.aload_n 0, 1) := by decide +kernel
theorem dX8_plans_62 : decode cX8_plans 62 = .ok (.getfield 60, 3) := by decide +kernel
theorem dX8_plans_65 : decode cX8_plans 65 = .ok (.iload 4, 2) := by decide +kernel
theorem dX8_plans_67 : decode cX8_plans 67 = .ok (.iaload, 1) := by decide +kernel
theorem dX8_plans_68 : decode cX8_plans 68 = .ok (.invokestatic 63, 3) := by decide +kernel
theorem dX8_plans_71 : decode cX8_plans 71 = .ok (.istore 5, 2) := by decide +kernel
theorem dX8_plans_73 : decode cX8_plans 73 = .ok (.iload 5, 2) := by decide +kernel
theorem dX8_plans_75 : decode cX8_plans 75 = .ok (.iload_n 3, 1) := by decide +kernel
theorem dX8_plans_76 : decode cX8_plans 76 = .ok (.if_icmp .ge 8, 3) := by decide +kernel
theorem dX8_plans_79 : decode cX8_plans 79 = .ok (.iload 5, 2) := by decide +kernel
theorem dX8_plans_81 : decode cX8_plans 81 = .ok (.goto 4, 3) := by decide +kernel
theorem dX8_plans_84 : decode cX8_plans 84 = .ok (.iload_n 3, 1) := by decide +kernel
theorem dX8_plans_85 : decode cX8_plans 85 = .ok (.istore_n 3, 1) := by decide +kernel
theorem dX8_plans_86 : decode cX8_plans 86 = .ok (.iinc 4 1, 3) := by decide +kernel
theorem dX8_plans_89 : decode cX8_plans 89 = .ok (.goto (-68), 3) := by decide +kernel
theorem dX8_plans_92 : decode cX8_plans 92 = .ok (.iconst 0, 1) := by decide +kernel
theorem dX8_plans_93 : decode cX8_plans 93 = .ok (.istore 4, 2) := by decide +kernel
theorem dX8_plans_95 : decode cX8_plans 95 = .ok (.iconst 0, 1) := by decide +kernel
theorem dX8_plans_96 : decode cX8_plans 96 = .ok (.istore 5, 2) := by decide +kernel
theorem dX8_plans_98 : decode cX8_plans 98 = .ok (.iload 5, 2) := by decide +kernel
theorem dX8_plans_100 : decode cX8_plans 100 = .ok (.aload_n 0, 1) := by decide +kernel
theorem dX8_plans_101 : decode cX8_plans 101 = .ok (.getfield 67, 3) := by decide +kernel
theorem dX8_plans_104 : decode cX8_plans 104 = .ok (.if_icmp .ge 45, 3) := by decide +kernel
theorem dX8_plans_107 : decode cX8_plans 107 = .ok (.iload 4, 2) := by decide +kernel
theorem dX8_plans_109 : decode cX8_plans 109 = .ok (.iload_n 1, 1) := by decide +kernel
theorem dX8_plans_110 : decode cX8_plans 110 = .ok (.iload 5, 2) := by decide +kernel
theorem dX8_plans_112 : decode cX8_plans 112 = .ok (.invokestatic 96, 3) := by decide +kernel
theorem dX8_plans_115 : decode cX8_plans 115 = .ok (.ifCond .eq 24, 3) := by decide +kernel
theorem dX8_plans_118 : decode cX8_plans 118 = .ok (.aload_n 0, 1) := by decide +kernel
theorem dX8_plans_119 : decode cX8_plans 119 = .ok (.getfield 60, 3) := by decide +kernel
theorem dX8_plans_122 : decode cX8_plans 122 = .ok (.iload 5, 2) := by decide +kernel
theorem dX8_plans_124 : decode cX8_plans 124 = .ok (.iaload, 1) := by decide +kernel
theorem dX8_plans_125 : decode cX8_plans 125 = .ok (.invokestatic 63, 3) := by decide +kernel
theorem dX8_plans_128 : decode cX8_plans 128 = .ok (.iload_n 3, 1) := by decide +kernel
