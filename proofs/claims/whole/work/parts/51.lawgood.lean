set_option maxRecDepth 20000 in
theorem ggL_law_X7_init : GoodIn wsL_law wsX7_init := goodIn_r _ [9, 10, 11, 12, 13, 14, 15, 16, 17, 18, 19, 20, 21, 22, 23, 24, 25, 26, 27, 28, 29, 30, 31, 32, 33, 34, 35, 36, 37, 38, 39, 40, 41, 42, 43, 44, 45, 46, 47, 48, 49, 50, 51, 52, 53, 54, 55, 56, 57, 58, 59, 60, 61, 62, 63, 64, 65, 66, 67, 68, 69, 70, 71, 72, 73, 74, 75, 76, 77, 78, 79, 80, 81, 82, 83, 84, 85, 86, 87, 88, 89, 90, 91, 92, 93, 94, 95, 96, 97, 98, 99, 100, 101, 102, 950, 951, 952, 953, 954, 955, 956, 918, 919, 920, 921, 922, 923, 924, 925, 926, 927, 957, 958, 959, 960, 961, 962, 963, 964, 965, 966, 967, 968, 969, 970, 971, 972, 973, 974, 975] rfl (by decide +kernel)
set_option maxRecDepth 20000 in
theorem gL_law_X7_init : GoodIn wsL_law (wsX7_init) := ggL_law_X7_init
set_option maxRecDepth 20000 in
theorem ggL_law_X8_init : GoodIn wsL_law wsX8_init := goodIn_r _ [105, 106, 11, 12, 107, 50, 108, 109, 52, 110, 111, 112, 113, 114, 87, 115, 116, 117, 118, 119, 120, 121, 122, 123, 124, 5, 125, 928, 929, 930, 931, 932, 933, 934, 935, 936, 937, 938, 939, 940, 941, 942, 943, 944, 945, 946, 947, 948, 949] rfl (by decide +kernel)
set_option maxRecDepth 20000 in
theorem gL_law_X8_init : GoodIn wsL_law (wsX8_init) := ggL_law_X8_init
set_option maxRecDepth 20000 in
theorem ggL_law_X7_reset : GoodIn wsL_law wsX7_reset := goodIn_r _ [129, 16, 130, 20, 131, 132, 133, 15, 134, 48, 49, 135, 136, 137, 138, 56, 57, 139, 140, 141, 142, 143, 144, 145, 146, 51, 147, 2, 148, 149, 150, 151, 19, 152, 62, 918, 919, 920, 921, 922, 923, 924, 925, 926, 927, 950, 951, 952, 953, 954, 955, 956, 957, 958] rfl (by decide +kernel)
set_option maxRecDepth 20000 in
theorem gL_law_X7_reset : GoodIn wsL_law (wsV RL 13 RX7 yX7_reset wsX7_reset) := goodIn_app (goodIn_of _ (by decide +kernel)) ggL_law_X7_reset
set_option maxRecDepth 20000 in
theorem ggL_law_X8_reset : GoodIn wsL_law wsX8_reset := goodIn_r _ [156, 157, 107, 158, 159, 160, 161, 5, 162, 928, 929, 930, 931, 932, 933, 934, 935, 936, 937, 938, 939, 940, 941, 942, 943, 944, 945, 946, 947, 948, 949] rfl (by decide +kernel)
set_option maxRecDepth 20000 in
theorem gL_law_X8_reset : GoodIn wsL_law (wsV RL 17 RX8 yX8_reset wsX8_reset) := goodIn_app (goodIn_of _ (by decide +kernel)) ggL_law_X8_reset
set_option maxRecDepth 20000 in
theorem ggL_law_X7_pointCount : GoodIn wsL_law wsX7_pointCount := goodIn_r _ [166, 16, 130, 918, 919, 920, 921, 922, 923, 924, 925, 926, 927, 950, 951, 952, 953, 954, 955, 956] rfl (by decide +kernel)
set_option maxRecDepth 20000 in
theorem gL_law_X7_pointCount : GoodIn wsL_law (wsV RL 18 RX7 yX7_pointCount wsX7_pointCount) := goodIn_app (goodIn_of _ (by decide +kernel)) ggL_law_X7_pointCount
set_option maxRecDepth 20000 in
theorem ggL_law_X8_pointCount : GoodIn wsL_law wsX8_pointCount := goodIn_r _ [170, 107, 928, 929, 930, 931, 932, 933, 934, 935, 936, 937, 938, 939, 940, 941, 942, 943, 944, 945, 946, 947, 948, 949] rfl (by decide +kernel)
set_option maxRecDepth 20000 in
theorem gL_law_X8_pointCount : GoodIn wsL_law (wsV RL 22 RX8 yX8_pointCount wsX8_pointCount) := goodIn_app (goodIn_of _ (by decide +kernel)) ggL_law_X8_pointCount
set_option maxRecDepth 20000 in
theorem ggL_law_X7_addConcept : GoodIn wsL_law wsX7_addConcept := goodIn_r _ [174, 16, 175, 176, 177, 178, 15, 179, 180, 181, 182, 183, 48, 184, 185, 186, 187, 49, 51, 188, 189, 190, 191, 57, 192, 193, 194, 195, 196, 55, 53, 143, 144, 145, 146, 56, 147, 2, 148, 918, 919, 920, 921, 922, 923, 924, 925, 926, 927, 950, 951, 952, 953, 954, 955, 956] rfl (by decide +kernel)
set_option maxRecDepth 20000 in
theorem gL_law_X7_addConcept : GoodIn wsL_law (wsV RL 23 RX7 yX7_addConcept wsX7_addConcept) := goodIn_app (goodIn_of _ (by decide +kernel)) ggL_law_X7_addConcept
set_option maxRecDepth 20000 in
theorem ggL_law_X8_addConcept : GoodIn wsL_law wsX8_addConcept := goodIn_r _ [200, 158, 201, 202, 203, 5, 204, 107, 160, 161, 162, 205, 206, 207, 208, 109, 209, 210, 211, 212, 110, 213, 928, 929, 930, 931, 932, 933, 934, 935, 936, 937, 938, 939, 940, 941, 942, 943, 944, 945, 946, 947, 948, 949] rfl (by decide +kernel)
set_option maxRecDepth 20000 in
theorem gL_law_X8_addConcept : GoodIn wsL_law (wsV RL 26 RX8 yX8_addConcept wsX8_addConcept) := goodIn_app (goodIn_of _ (by decide +kernel)) ggL_law_X8_addConcept
set_option maxRecDepth 20000 in
theorem ggL_law_X7_addIntervals : GoodIn wsL_law wsX7_addIntervals := goodIn_r _ [217, 16, 175, 130, 188, 189, 190, 15, 191, 49, 51, 57, 192, 185, 186, 187, 193, 194, 195, 196, 55, 53, 143, 144, 145, 146, 48, 56, 147, 2, 148, 918, 919, 920, 921, 922, 923, 924, 925, 926, 927, 950, 951, 952, 953, 954, 955, 956] rfl (by decide +kernel)
set_option maxRecDepth 20000 in
theorem gL_law_X7_addIntervals : GoodIn wsL_law (wsV RL 27 RX7 yX7_addIntervals wsX7_addIntervals) := goodIn_app (goodIn_of _ (by decide +kernel)) ggL_law_X7_addIntervals
set_option maxRecDepth 20000 in
theorem ggL_law_X8_addIntervals : GoodIn wsL_law wsX8_addIntervals := goodIn_r _ [221, 158, 107, 205, 206, 207, 5, 208, 109, 209, 210, 211, 212, 110, 213, 928, 929, 930, 931, 932, 933, 934, 935, 936, 937, 938, 939, 940, 941, 942, 943, 944, 945, 946, 947, 948, 949] rfl (by decide +kernel)
set_option maxRecDepth 20000 in
theorem gL_law_X8_addIntervals : GoodIn wsL_law (wsV RL 30 RX8 yX8_addIntervals wsX8_addIntervals) := goodIn_app (goodIn_of _ (by decide +kernel)) ggL_law_X8_addIntervals
set_option maxRecDepth 20000 in
theorem ggL_law_X7_removeConcept : GoodIn wsL_law wsX7_removeConcept := goodIn_r _ [225, 16, 175, 226, 227, 228, 15, 229, 49, 230, 231, 232, 233, 51, 234, 235, 236, 237, 53, 55, 135, 136, 137, 138, 56, 57, 139, 140, 141, 142, 143, 144, 145, 146, 48, 147, 2, 148, 918, 919, 920, 921, 922, 923, 924, 925, 926, 927, 950, 951, 952, 953, 954, 955, 956] rfl (by decide +kernel)
set_option maxRecDepth 20000 in
theorem gL_law_X7_removeConcept : GoodIn wsL_law (wsV RL 31 RX7 yX7_removeConcept wsX7_removeConcept) := goodIn_app (goodIn_of _ (by decide +kernel)) ggL_law_X7_removeConcept
set_option maxRecDepth 20000 in
theorem ggL_law_X8_removeConcept : GoodIn wsL_law wsX8_removeConcept := goodIn_r _ [241, 158, 109, 110, 242, 243, 244, 5, 245, 160, 161, 162, 928, 929, 930, 931, 932, 933, 934, 935, 936, 937, 938, 939, 940, 941, 942, 943, 944, 945, 946, 947, 948, 949] rfl (by decide +kernel)
set_option maxRecDepth 20000 in
theorem gL_law_X8_removeConcept : GoodIn wsL_law (wsV RL 34 RX8 yX8_removeConcept wsX8_removeConcept) := goodIn_app (goodIn_of _ (by decide +kernel)) ggL_law_X8_removeConcept
set_option maxRecDepth 20000 in
theorem ggL_law_X7_conceptCount : GoodIn wsL_law wsX7_conceptCount := goodIn_r _ [249, 16, 175, 918, 919, 920, 921, 922, 923, 924, 925, 926, 927, 950, 951, 952, 953, 954, 955, 956] rfl (by decide +kernel)
set_option maxRecDepth 20000 in
theorem gL_law_X7_conceptCount : GoodIn wsL_law (wsV RL 35 RX7 yX7_conceptCount wsX7_conceptCount) := goodIn_app (goodIn_of _ (by decide +kernel)) ggL_law_X7_conceptCount
set_option maxRecDepth 20000 in
theorem ggL_law_X8_conceptCount : GoodIn wsL_law wsX8_conceptCount := goodIn_r _ [253, 158, 928, 929, 930, 931, 932, 933, 934, 935, 936, 937, 938, 939, 940, 941, 942, 943, 944, 945, 946, 947, 948, 949] rfl (by decide +kernel)
set_option maxRecDepth 20000 in
theorem gL_law_X8_conceptCount : GoodIn wsL_law (wsV RL 38 RX8 yX8_conceptCount wsX8_conceptCount) := goodIn_app (goodIn_of _ (by decide +kernel)) ggL_law_X8_conceptCount
set_option maxRecDepth 20000 in
theorem ggL_law_X7_concept : GoodIn wsL_law wsX7_concept := goodIn_r _ [257, 16, 258, 226, 227, 228, 15, 229, 49, 918, 919, 920, 921, 922, 923, 924, 925, 926, 927, 950, 951, 952, 953, 954, 955, 956] rfl (by decide +kernel)
set_option maxRecDepth 20000 in
theorem gL_law_X7_concept : GoodIn wsL_law (wsV RL 39 RX7 yX7_concept wsX7_concept) := goodIn_app (goodIn_of _ (by decide +kernel)) ggL_law_X7_concept
set_option maxRecDepth 20000 in
theorem ggL_law_X8_concept : GoodIn wsL_law wsX8_concept := goodIn_r _ [262, 109, 242, 243, 244, 5, 245, 158, 160, 161, 162, 928, 929, 930, 931, 932, 933, 934, 935, 936, 937, 938, 939, 940, 941, 942, 943, 944, 945, 946, 947, 948, 949] rfl (by decide +kernel)
set_option maxRecDepth 20000 in
theorem gL_law_X8_concept : GoodIn wsL_law (wsV RL 42 RX8 yX8_concept wsX8_concept) := goodIn_app (goodIn_of _ (by decide +kernel)) ggL_law_X8_concept
set_option maxRecDepth 20000 in
theorem ggL_law_X7_numberOf : GoodIn wsL_law wsX7_numberOf := goodIn_r _ [266, 16, 184, 185, 186, 15, 187, 49, 51, 918, 919, 920, 921, 922, 923, 924, 925, 926, 927, 950, 951, 952, 953, 954, 955, 956] rfl (by decide +kernel)
set_option maxRecDepth 20000 in
theorem gL_law_X7_numberOf : GoodIn wsL_law (wsV RL 43 RX7 yX7_numberOf wsX7_numberOf) := goodIn_app (goodIn_of _ (by decide +kernel)) ggL_law_X7_numberOf
set_option maxRecDepth 20000 in
theorem ggL_law_X8_numberOf : GoodIn wsL_law wsX8_numberOf := goodIn_r _ [270, 205, 206, 207, 5, 208, 158, 109, 928, 929, 930, 931, 932, 933, 934, 935, 936, 937, 938, 939, 940, 941, 942, 943, 944, 945, 946, 947, 948, 949] rfl (by decide +kernel)
set_option maxRecDepth 20000 in
theorem gL_law_X8_numberOf : GoodIn wsL_law (wsV RL 46 RX8 yX8_numberOf wsX8_numberOf) := goodIn_app (goodIn_of _ (by decide +kernel)) ggL_law_X8_numberOf
set_option maxRecDepth 20000 in
theorem ggL_law_X7_complementAll : GoodIn wsL_law wsX7_complementAll := goodIn_r _ [274, 16, 175, 275, 276, 277, 15, 278, 49, 51, 180, 181, 182, 183, 48, 135, 136, 137, 138, 56, 57, 139, 140, 141, 142, 143, 144, 145, 146, 147, 2, 148, 918, 919, 920, 921, 922, 923, 924, 925, 926, 927, 950, 951, 952, 953, 954, 955, 956] rfl (by decide +kernel)
set_option maxRecDepth 20000 in
theorem gL_law_X7_complementAll : GoodIn wsL_law (wsV RL 47 RX7 yX7_complementAll wsX7_complementAll) := goodIn_app (goodIn_of _ (by decide +kernel)) ggL_law_X7_complementAll
set_option maxRecDepth 20000 in
theorem ggL_law_X8_complementAll : GoodIn wsL_law wsX8_complementAll := goodIn_r _ [282, 158, 109, 107, 928, 929, 930, 931, 932, 933, 934, 935, 936, 937, 938, 939, 940, 941, 942, 943, 944, 945, 946, 947, 948, 949] rfl (by decide +kernel)
set_option maxRecDepth 20000 in
theorem gL_law_X8_complementAll : GoodIn wsL_law (wsV RL 50 RX8 yX8_complementAll wsX8_complementAll) := goodIn_app (goodIn_of _ (by decide +kernel)) ggL_law_X8_complementAll
set_option maxRecDepth 20000 in
theorem ggL_law_X7_restrict : GoodIn wsL_law wsX7_restrict := goodIn_r _ [286, 16, 20, 175, 176, 177, 178, 15, 179, 180, 181, 182, 183, 48, 287, 288, 289, 290, 49, 51, 291, 292, 293, 147, 2, 148, 192, 185, 186, 187, 234, 235, 236, 237, 53, 55, 294, 295, 296, 297, 298, 299, 300, 135, 136, 137, 138, 56, 57, 139, 140, 141, 142, 143, 144, 145, 146, 149, 150, 151, 19, 152, 62, 918, 919, 920, 921, 922, 923, 924, 925, 926, 927, 950, 951, 952, 953, 954, 955, 956, 957, 958] rfl (by decide +kernel)
set_option maxRecDepth 20000 in
theorem gL_law_X7_restrict : GoodIn wsL_law (wsV RL 51 RX7 yX7_restrict wsX7_restrict) := goodIn_app (goodIn_of _ (by decide +kernel)) ggL_law_X7_restrict
set_option maxRecDepth 20000 in
theorem ggL_law_X8_restrict : GoodIn wsL_law wsX8_restrict := goodIn_r _ [304, 158, 109, 110, 107, 159, 201, 202, 203, 5, 204, 160, 161, 162, 305, 306, 307, 308, 309, 310, 311, 205, 206, 207, 208, 123, 124, 125, 928, 929, 930, 931, 932, 933, 934, 935, 936, 937, 938, 939, 940, 941, 942, 943, 944, 945, 946, 947, 948, 949] rfl (by decide +kernel)
set_option maxRecDepth 20000 in
theorem gL_law_X8_restrict : GoodIn wsL_law (wsV RL 54 RX8 yX8_restrict wsX8_restrict) := goodIn_app (goodIn_of _ (by decide +kernel)) ggL_law_X8_restrict
set_option maxRecDepth 20000 in
theorem ggL_law_X7_isIntersectionClosed : GoodIn wsL_law wsX7_isIntersectionClosed := goodIn_r _ [315, 16, 175, 258, 184, 185, 186, 15, 187, 49, 51, 918, 919, 920, 921, 922, 923, 924, 925, 926, 927, 950, 951, 952, 953, 954, 955, 956] rfl (by decide +kernel)
set_option maxRecDepth 20000 in
theorem gL_law_X7_isIntersectionClosed : GoodIn wsL_law (wsV RL 55 RX7 yX7_isIntersectionClosed wsX7_isIntersectionClosed) := goodIn_app (goodIn_of _ (by decide +kernel)) ggL_law_X7_isIntersectionClosed
set_option maxRecDepth 20000 in
theorem ggL_law_X8_isIntersectionClosed : GoodIn wsL_law wsX8_isIntersectionClosed := goodIn_r _ [319, 158, 109, 205, 206, 207, 5, 208, 928, 929, 930, 931, 932, 933, 934, 935, 936, 937, 938, 939, 940, 941, 942, 943, 944, 945, 946, 947, 948, 949] rfl (by decide +kernel)
set_option maxRecDepth 20000 in
theorem gL_law_X8_isIntersectionClosed : GoodIn wsL_law (wsV RL 58 RX8 yX8_isIntersectionClosed wsX8_isIntersectionClosed) := goodIn_app (goodIn_of _ (by decide +kernel)) ggL_law_X8_isIntersectionClosed
set_option maxRecDepth 20000 in
theorem ggL_law_X7_isTeachingSet : GoodIn wsL_law wsX7_isTeachingSet := goodIn_r _ [323, 16, 27, 226, 227, 228, 15, 229, 49, 176, 177, 178, 179, 180, 181, 182, 183, 48, 324, 325, 326, 327, 328, 329, 330, 331, 332, 333, 334, 26, 335, 69, 336, 337, 338, 339, 68, 340, 341, 342, 343, 344, 51, 147, 2, 148, 345, 346, 347, 348, 56, 918, 919, 920, 921, 922, 923, 924, 925, 926, 927, 950, 951, 952, 953, 954, 955, 956, 959, 960] rfl (by decide +kernel)
set_option maxRecDepth 20000 in
theorem gL_law_X7_isTeachingSet : GoodIn wsL_law (wsV RL 59 RX7 yX7_isTeachingSet wsX7_isTeachingSet) := goodIn_app (goodIn_of _ (by decide +kernel)) ggL_law_X7_isTeachingSet
set_option maxRecDepth 20000 in
theorem ggL_law_X8_isTeachingSet : GoodIn wsL_law wsX8_isTeachingSet := goodIn_r _ [352, 242, 243, 244, 5, 245, 158, 160, 161, 162, 201, 202, 203, 204, 107, 353, 354, 355, 356, 357, 358, 359, 360, 109, 309, 310, 311, 928, 929, 930, 931, 932, 933, 934, 935, 936, 937, 938, 939, 940, 941, 942, 943, 944, 945, 946, 947, 948, 949] rfl (by decide +kernel)
set_option maxRecDepth 20000 in
theorem gL_law_X8_isTeachingSet : GoodIn wsL_law (wsV RL 63 RX8 yX8_isTeachingSet wsX8_isTeachingSet) := goodIn_app (goodIn_of _ (by decide +kernel)) ggL_law_X8_isTeachingSet
set_option maxRecDepth 20000 in
theorem ggL_law_X7_teachingSet : GoodIn wsL_law wsX7_teachingSet := goodIn_r _ [364, 16, 27, 226, 227, 228, 15, 229, 49, 324, 325, 326, 327, 328, 329, 330, 331, 365, 366, 367, 26, 368, 68, 69, 336, 337, 338, 339, 340, 341, 342, 343, 344, 51, 147, 2, 148, 345, 346, 347, 348, 56, 369, 181, 182, 183, 48, 370, 295, 296, 297, 298, 299, 300, 918, 919, 920, 921, 922, 923, 924, 925, 926, 927, 950, 951, 952, 953, 954, 955, 956, 959, 960] rfl (by decide +kernel)
set_option maxRecDepth 20000 in
theorem gL_law_X7_teachingSet : GoodIn wsL_law (wsV RL 64 RX7 yX7_teachingSet wsX7_teachingSet) := goodIn_app (goodIn_of _ (by decide +kernel)) ggL_law_X7_teachingSet
set_option maxRecDepth 20000 in
theorem ggL_law_X8_teachingSet : GoodIn wsL_law wsX8_teachingSet := goodIn_r _ [374, 242, 243, 244, 5, 245, 158, 160, 161, 162, 353, 354, 355, 356, 375, 376, 377, 378, 108, 107, 357, 358, 359, 360, 109, 309, 310, 311, 928, 929, 930, 931, 932, 933, 934, 935, 936, 937, 938, 939, 940, 941, 942, 943, 944, 945, 946, 947, 948, 949] rfl (by decide +kernel)
set_option maxRecDepth 20000 in
theorem gL_law_X8_teachingSet : GoodIn wsL_law (wsV RL 67 RX8 yX8_teachingSet wsX8_teachingSet) := goodIn_app (goodIn_of _ (by decide +kernel)) ggL_law_X8_teachingSet
set_option maxRecDepth 20000 in
theorem ggL_law_X7_teachingSetCount : GoodIn wsL_law wsX7_teachingSetCount := goodIn_r _ [382, 16, 27, 226, 227, 228, 15, 229, 49, 383, 384, 385, 386, 48, 324, 325, 326, 327, 328, 329, 330, 331, 387, 388, 389, 26, 390, 68, 69, 336, 337, 338, 339, 340, 341, 342, 343, 344, 51, 147, 2, 148, 345, 346, 347, 348, 56, 369, 181, 182, 183, 370, 295, 296, 297, 298, 299, 300, 918, 919, 920, 921, 922, 923, 924, 925, 926, 927, 950, 951, 952, 953, 954, 955, 956, 959, 960] rfl (by decide +kernel)
set_option maxRecDepth 20000 in
theorem gL_law_X7_teachingSetCount : GoodIn wsL_law (wsV RL 68 RX7 yX7_teachingSetCount wsX7_teachingSetCount) := goodIn_app (goodIn_of _ (by decide +kernel)) ggL_law_X7_teachingSetCount
set_option maxRecDepth 20000 in
theorem ggL_law_X8_teachingSetCount : GoodIn wsL_law wsX8_teachingSetCount := goodIn_r _ [394, 107, 242, 243, 244, 5, 245, 158, 160, 161, 162, 123, 124, 125, 353, 354, 355, 356, 357, 358, 359, 360, 109, 309, 310, 311, 928, 929, 930, 931, 932, 933, 934, 935, 936, 937, 938, 939, 940, 941, 942, 943, 944, 945, 946, 947, 948, 949] rfl (by decide +kernel)
set_option maxRecDepth 20000 in
theorem gL_law_X8_teachingSetCount : GoodIn wsL_law (wsV RL 71 RX8 yX8_teachingSetCount wsX8_teachingSetCount) := goodIn_app (goodIn_of _ (by decide +kernel)) ggL_law_X8_teachingSetCount
set_option maxRecDepth 20000 in
theorem ggL_law_X7_teachingDimension : GoodIn wsL_law wsX7_teachingDimension := goodIn_r _ [398, 16, 175, 27, 399, 400, 401, 402, 403, 404, 405, 406, 407, 408, 26, 409, 68, 410, 325, 326, 15, 327, 328, 329, 330, 331, 49, 411, 366, 367, 368, 69, 336, 337, 338, 339, 340, 341, 342, 343, 344, 51, 147, 2, 148, 345, 346, 347, 348, 56, 369, 181, 182, 183, 48, 370, 295, 296, 297, 298, 299, 300, 918, 919, 920, 921, 922, 923, 924, 925, 926, 927, 950, 951, 952, 953, 954, 955, 956, 959, 960] rfl (by decide +kernel)
set_option maxRecDepth 20000 in
theorem gL_law_X7_teachingDimension : GoodIn wsL_law (wsV RL 72 RX7 yX7_teachingDimension wsX7_teachingDimension) := goodIn_app (goodIn_of _ (by decide +kernel)) ggL_law_X7_teachingDimension
set_option maxRecDepth 20000 in
theorem ggL_law_X8_teachingDimension : GoodIn wsL_law wsX8_teachingDimension := goodIn_r _ [415, 158, 160, 161, 5, 162, 353, 354, 355, 356, 375, 376, 377, 378, 108, 107, 357, 358, 359, 360, 109, 309, 310, 311, 123, 124, 125, 928, 929, 930, 931, 932, 933, 934, 935, 936, 937, 938, 939, 940, 941, 942, 943, 944, 945, 946, 947, 948, 949] rfl (by decide +kernel)
set_option maxRecDepth 20000 in
theorem gL_law_X8_teachingDimension : GoodIn wsL_law (wsV RL 75 RX8 yX8_teachingDimension wsX8_teachingDimension) := goodIn_app (goodIn_of _ (by decide +kernel)) ggL_law_X8_teachingDimension
set_option maxRecDepth 20000 in
theorem ggL_law_X7_averageDimension : GoodIn wsL_law wsX7_averageDimension := goodIn_r _ [419, 16, 175, 27, 406, 407, 408, 26, 409, 68, 410, 325, 326, 15, 327, 328, 329, 330, 331, 49, 411, 366, 367, 368, 69, 336, 337, 338, 339, 340, 341, 342, 343, 344, 51, 147, 2, 148, 345, 346, 347, 348, 56, 369, 181, 182, 183, 48, 370, 295, 296, 297, 298, 299, 300, 420, 421, 422, 918, 919, 920, 921, 922, 923, 924, 925, 926, 927, 950, 951, 952, 953, 954, 955, 956, 959, 960] rfl (by decide +kernel)
set_option maxRecDepth 20000 in
theorem gL_law_X7_averageDimension : GoodIn wsL_law (wsV RL 76 RX7 yX7_averageDimension wsX7_averageDimension) := goodIn_app (goodIn_of _ (by decide +kernel)) ggL_law_X7_averageDimension
set_option maxRecDepth 20000 in
theorem ggL_law_X8_averageDimension : GoodIn wsL_law wsX8_averageDimension := goodIn_r _ [426, 158, 160, 161, 5, 162, 353, 354, 355, 356, 375, 376, 377, 378, 108, 107, 357, 358, 359, 360, 109, 309, 310, 311, 123, 124, 125, 928, 929, 930, 931, 932, 933, 934, 935, 936, 937, 938, 939, 940, 941, 942, 943, 944, 945, 946, 947, 948, 949] rfl (by decide +kernel)
set_option maxRecDepth 20000 in
theorem gL_law_X8_averageDimension : GoodIn wsL_law (wsV RL 79 RX8 yX8_averageDimension wsX8_averageDimension) := goodIn_app (goodIn_of _ (by decide +kernel)) ggL_law_X8_averageDimension
set_option maxRecDepth 20000 in
theorem ggL_law_X7_recursiveDimension : GoodIn wsL_law wsX7_recursiveDimension := goodIn_r _ [430, 16, 175, 31, 431, 432, 433, 434, 30, 435, 81, 74, 80, 436, 437, 438, 439, 78, 79, 440, 400, 401, 402, 441, 329, 330, 15, 331, 49, 442, 443, 444, 445, 446, 77, 75, 447, 404, 405, 147, 2, 148, 448, 366, 367, 26, 368, 68, 69, 336, 337, 338, 339, 340, 341, 342, 343, 344, 51, 345, 346, 347, 348, 56, 328, 369, 181, 182, 183, 48, 370, 295, 296, 297, 298, 299, 300, 449, 450, 451, 452, 453, 76, 918, 919, 920, 921, 922, 923, 924, 925, 926, 927, 950, 951, 952, 953, 954, 955, 956, 961, 962, 963, 964, 965, 966, 967, 959, 960] rfl (by decide +kernel)
set_option maxRecDepth 20000 in
theorem gL_law_X7_recursiveDimension : GoodIn wsL_law (wsV RL 80 RX7 yX7_recursiveDimension wsX7_recursiveDimension) := goodIn_app (goodIn_of _ (by decide +kernel)) ggL_law_X7_recursiveDimension
set_option maxRecDepth 20000 in
theorem ggL_law_X8_recursiveDimension : GoodIn wsL_law wsX8_recursiveDimension := goodIn_r _ [457, 158, 122, 458, 459, 460, 5, 461, 107, 121, 353, 354, 355, 356, 309, 310, 311, 375, 376, 377, 378, 108, 357, 358, 359, 360, 109, 123, 124, 125, 928, 929, 930, 931, 932, 933, 934, 935, 936, 937, 938, 939, 940, 941, 942, 943, 944, 945, 946, 947, 948, 949] rfl (by decide +kernel)
set_option maxRecDepth 20000 in
theorem gL_law_X8_recursiveDimension : GoodIn wsL_law (wsV RL 83 RX8 yX8_recursiveDimension wsX8_recursiveDimension) := goodIn_app (goodIn_of _ (by decide +kernel)) ggL_law_X8_recursiveDimension
set_option maxRecDepth 20000 in
theorem ggL_law_X7_layerCount : GoodIn wsL_law wsX7_layerCount := goodIn_r _ [465, 31, 466, 432, 433, 434, 30, 435, 81, 74, 80, 436, 437, 438, 439, 78, 79, 440, 400, 401, 402, 441, 329, 330, 15, 331, 49, 442, 443, 444, 445, 446, 77, 75, 447, 404, 405, 147, 2, 148, 448, 366, 367, 26, 368, 68, 69, 336, 337, 338, 339, 340, 341, 342, 343, 344, 51, 345, 346, 347, 348, 56, 328, 369, 181, 182, 183, 48, 370, 295, 296, 297, 298, 299, 300, 449, 450, 451, 452, 453, 76, 918, 919, 920, 921, 922, 923, 924, 925, 926, 927, 961, 962, 963, 964, 965, 966, 967, 950, 951, 952, 953, 954, 955, 956, 959, 960] rfl (by decide +kernel)
set_option maxRecDepth 20000 in
theorem gL_law_X7_layerCount : GoodIn wsL_law (wsV RL 84 RX7 yX7_layerCount wsX7_layerCount) := goodIn_app (goodIn_of _ (by decide +kernel)) ggL_law_X7_layerCount
set_option maxRecDepth 20000 in
theorem ggL_law_X8_layerCount : GoodIn wsL_law wsX8_layerCount := goodIn_r _ [470, 458, 459, 460, 5, 461, 107, 158, 121, 122, 353, 354, 355, 356, 309, 310, 311, 375, 376, 377, 378, 108, 357, 358, 359, 360, 109, 123, 124, 125, 928, 929, 930, 931, 932, 933, 934, 935, 936, 937, 938, 939, 940, 941, 942, 943, 944, 945, 946, 947, 948, 949] rfl (by decide +kernel)
set_option maxRecDepth 20000 in
theorem gL_law_X8_layerCount : GoodIn wsL_law (wsV RL 87 RX8 yX8_layerCount wsX8_layerCount) := goodIn_app (goodIn_of _ (by decide +kernel)) ggL_law_X8_layerCount
set_option maxRecDepth 20000 in
theorem ggL_law_X7_layer : GoodIn wsL_law wsX7_layer := goodIn_r _ [474, 16, 31, 475, 226, 227, 228, 15, 229, 49, 432, 433, 434, 30, 435, 81, 74, 80, 436, 437, 438, 439, 78, 79, 440, 400, 401, 402, 441, 329, 330, 331, 442, 443, 444, 445, 446, 77, 75, 447, 404, 405, 147, 2, 148, 448, 366, 367, 26, 368, 68, 69, 336, 337, 338, 339, 340, 341, 342, 343, 344, 51, 345, 346, 347, 348, 56, 328, 369, 181, 182, 183, 48, 370, 295, 296, 297, 298, 299, 300, 449, 450, 451, 452, 453, 76, 918, 919, 920, 921, 922, 923, 924, 925, 926, 927, 961, 962, 963, 964, 965, 966, 967, 950, 951, 952, 953, 954, 955, 956, 959, 960] rfl (by decide +kernel)
set_option maxRecDepth 20000 in
theorem gL_law_X7_layer : GoodIn wsL_law (wsV RL 88 RX7 yX7_layer wsX7_layer) := goodIn_app (goodIn_of _ (by decide +kernel)) ggL_law_X7_layer
set_option maxRecDepth 20000 in
theorem ggL_law_X8_layer : GoodIn wsL_law wsX8_layer := goodIn_r _ [479, 121, 242, 243, 244, 5, 245, 158, 160, 161, 162, 458, 459, 460, 461, 107, 122, 353, 354, 355, 356, 309, 310, 311, 375, 376, 377, 378, 108, 357, 358, 359, 360, 109, 123, 124, 125, 928, 929, 930, 931, 932, 933, 934, 935, 936, 937, 938, 939, 940, 941, 942, 943, 944, 945, 946, 947, 948, 949] rfl (by decide +kernel)
set_option maxRecDepth 20000 in
theorem gL_law_X8_layer : GoodIn wsL_law (wsV RL 91 RX8 yX8_layer wsX8_layer) := goodIn_app (goodIn_of _ (by decide +kernel)) ggL_law_X8_layer
set_option maxRecDepth 20000 in
theorem ggL_law_X7_planSet : GoodIn wsL_law wsX7_planSet := goodIn_r _ [483, 16, 31, 484, 226, 227, 228, 15, 229, 49, 432, 433, 434, 30, 435, 81, 74, 80, 436, 437, 438, 439, 78, 79, 440, 400, 401, 402, 441, 329, 330, 331, 442, 443, 444, 445, 446, 77, 75, 447, 404, 405, 147, 2, 148, 448, 366, 367, 26, 368, 68, 69, 336, 337, 338, 339, 340, 341, 342, 343, 344, 51, 345, 346, 347, 348, 56, 328, 369, 181, 182, 183, 48, 370, 295, 296, 297, 298, 299, 300, 449, 450, 451, 452, 453, 76, 918, 919, 920, 921, 922, 923, 924, 925, 926, 927, 961, 962, 963, 964, 965, 966, 967, 950, 951, 952, 953, 954, 955, 956, 959, 960] rfl (by decide +kernel)
set_option maxRecDepth 20000 in
theorem gL_law_X7_planSet : GoodIn wsL_law (wsV RL 92 RX7 yX7_planSet wsX7_planSet) := goodIn_app (goodIn_of _ (by decide +kernel)) ggL_law_X7_planSet
set_option maxRecDepth 20000 in
theorem ggL_law_X8_planSet : GoodIn wsL_law wsX8_planSet := goodIn_r _ [488, 122, 242, 243, 244, 5, 245, 158, 160, 161, 162, 458, 459, 460, 461, 107, 121, 353, 354, 355, 356, 309, 310, 311, 375, 376, 377, 378, 108, 357, 358, 359, 360, 109, 123, 124, 125, 928, 929, 930, 931, 932, 933, 934, 935, 936, 937, 938, 939, 940, 941, 942, 943, 944, 945, 946, 947, 948, 949] rfl (by decide +kernel)
set_option maxRecDepth 20000 in
theorem gL_law_X8_planSet : GoodIn wsL_law (wsV RL 95 RX8 yX8_planSet wsX8_planSet) := goodIn_app (goodIn_of _ (by decide +kernel)) ggL_law_X8_planSet
set_option maxRecDepth 20000 in
theorem ggL_law_X7_setScore : GoodIn wsL_law wsX7_setScore := goodIn_r _ [492, 16, 226, 227, 228, 15, 229, 49, 493, 194, 195, 196, 55, 53, 494, 495, 496, 497, 918, 919, 920, 921, 922, 923, 924, 925, 926, 927, 950, 951, 952, 953, 954, 955, 956] rfl (by decide +kernel)
set_option maxRecDepth 20000 in
theorem gL_law_X7_setScore : GoodIn wsL_law (wsV RL 96 RX7 yX7_setScore wsX7_setScore) := goodIn_app (goodIn_of _ (by decide +kernel)) ggL_law_X7_setScore
set_option maxRecDepth 20000 in
theorem ggL_law_X8_setScore : GoodIn wsL_law wsX8_setScore := goodIn_r _ [501, 110, 242, 243, 244, 5, 245, 158, 160, 161, 162, 928, 929, 930, 931, 932, 933, 934, 935, 936, 937, 938, 939, 940, 941, 942, 943, 944, 945, 946, 947, 948, 949] rfl (by decide +kernel)
set_option maxRecDepth 20000 in
theorem gL_law_X8_setScore : GoodIn wsL_law (wsV RL 100 RX8 yX8_setScore wsX8_setScore) := goodIn_app (goodIn_of _ (by decide +kernel)) ggL_law_X8_setScore
set_option maxRecDepth 20000 in
theorem ggL_law_X7_compareScores : GoodIn wsL_law wsX7_compareScores := goodIn_r _ [505, 16, 506, 226, 227, 228, 15, 229, 49, 507, 508, 509, 510, 55, 53, 918, 919, 920, 921, 922, 923, 924, 925, 926, 927, 950, 951, 952, 953, 954, 955, 956] rfl (by decide +kernel)
set_option maxRecDepth 20000 in
theorem gL_law_X7_compareScores : GoodIn wsL_law (wsV RL 101 RX7 yX7_compareScores wsX7_compareScores) := goodIn_app (goodIn_of _ (by decide +kernel)) ggL_law_X7_compareScores
set_option maxRecDepth 20000 in
theorem ggL_law_X8_compareScores : GoodIn wsL_law wsX8_compareScores := goodIn_r _ [514, 110, 242, 243, 244, 5, 245, 158, 160, 161, 162, 928, 929, 930, 931, 932, 933, 934, 935, 936, 937, 938, 939, 940, 941, 942, 943, 944, 945, 946, 947, 948, 949] rfl (by decide +kernel)
set_option maxRecDepth 20000 in
theorem gL_law_X8_compareScores : GoodIn wsL_law (wsV RL 104 RX8 yX8_compareScores wsX8_compareScores) := goodIn_app (goodIn_of _ (by decide +kernel)) ggL_law_X8_compareScores
set_option maxRecDepth 20000 in
theorem ggL_law_X7_preferenceSet : GoodIn wsL_law wsX7_preferenceSet := goodIn_r _ [518, 16, 175, 27, 226, 227, 228, 15, 229, 49, 324, 325, 326, 327, 328, 329, 330, 331, 507, 508, 509, 510, 55, 53, 365, 366, 367, 26, 368, 68, 69, 336, 337, 338, 339, 340, 341, 342, 343, 344, 51, 147, 2, 148, 345, 346, 347, 348, 56, 369, 181, 182, 183, 48, 370, 295, 296, 297, 298, 299, 300, 918, 919, 920, 921, 922, 923, 924, 925, 926, 927, 950, 951, 952, 953, 954, 955, 956, 959, 960] rfl (by decide +kernel)
set_option maxRecDepth 20000 in
theorem gL_law_X7_preferenceSet : GoodIn wsL_law (wsV RL 105 RX7 yX7_preferenceSet wsX7_preferenceSet) := goodIn_app (goodIn_of _ (by decide +kernel)) ggL_law_X7_preferenceSet
set_option maxRecDepth 20000 in
theorem ggL_law_X8_preferenceSet : GoodIn wsL_law wsX8_preferenceSet := goodIn_r _ [522, 108, 107, 242, 243, 244, 5, 245, 158, 160, 161, 162, 523, 524, 525, 526, 109, 110, 928, 929, 930, 931, 932, 933, 934, 935, 936, 937, 938, 939, 940, 941, 942, 943, 944, 945, 946, 947, 948, 949] rfl (by decide +kernel)
set_option maxRecDepth 20000 in
theorem gL_law_X8_preferenceSet : GoodIn wsL_law (wsV RL 108 RX8 yX8_preferenceSet wsX8_preferenceSet) := goodIn_app (goodIn_of _ (by decide +kernel)) ggL_law_X8_preferenceSet
set_option maxRecDepth 20000 in
theorem ggL_law_X7_traceCount : GoodIn wsL_law wsX7_traceCount := goodIn_r _ [530, 16, 35, 176, 177, 178, 15, 179, 180, 181, 182, 183, 48, 531, 532, 533, 34, 534, 88, 86, 535, 536, 537, 538, 141, 539, 540, 541, 542, 543, 544, 545, 546, 918, 919, 920, 921, 922, 923, 924, 925, 926, 927, 950, 951, 952, 953, 954, 955, 956, 968, 969] rfl (by decide +kernel)
set_option maxRecDepth 20000 in
theorem gL_law_X7_traceCount : GoodIn wsL_law (wsV RL 109 RX7 yX7_traceCount wsX7_traceCount) := goodIn_app (goodIn_of _ (by decide +kernel)) ggL_law_X7_traceCount
set_option maxRecDepth 20000 in
theorem ggL_law_X8_traceCount : GoodIn wsL_law wsX8_traceCount := goodIn_r _ [550, 201, 202, 203, 5, 204, 107, 160, 161, 162, 551, 552, 553, 554, 158, 109, 928, 929, 930, 931, 932, 933, 934, 935, 936, 937, 938, 939, 940, 941, 942, 943, 944, 945, 946, 947, 948, 949] rfl (by decide +kernel)
set_option maxRecDepth 20000 in
theorem gL_law_X8_traceCount : GoodIn wsL_law (wsV RL 112 RX8 yX8_traceCount wsX8_traceCount) := goodIn_app (goodIn_of _ (by decide +kernel)) ggL_law_X8_traceCount
set_option maxRecDepth 20000 in
theorem ggL_law_X7_dimension : GoodIn wsL_law wsX7_dimension := goodIn_r _ [558, 16, 35, 559, 181, 182, 15, 183, 48, 560, 295, 296, 297, 298, 299, 300, 561, 562, 563, 34, 564, 86, 535, 565, 566, 532, 533, 534, 88, 536, 537, 538, 141, 539, 540, 541, 542, 543, 544, 545, 546, 918, 919, 920, 921, 922, 923, 924, 925, 926, 927, 950, 951, 952, 953, 954, 955, 956, 968, 969] rfl (by decide +kernel)
set_option maxRecDepth 20000 in
theorem gL_law_X7_dimension : GoodIn wsL_law (wsV RL 113 RX7 yX7_dimension wsX7_dimension) := goodIn_app (goodIn_of _ (by decide +kernel)) ggL_law_X7_dimension
set_option maxRecDepth 20000 in
theorem ggL_law_X8_dimension : GoodIn wsL_law wsX8_dimension := goodIn_r _ [570, 107, 123, 124, 5, 125, 571, 572, 573, 574, 551, 552, 553, 554, 158, 109, 928, 929, 930, 931, 932, 933, 934, 935, 936, 937, 938, 939, 940, 941, 942, 943, 944, 945, 946, 947, 948, 949] rfl (by decide +kernel)
set_option maxRecDepth 20000 in
theorem gL_law_X8_dimension : GoodIn wsL_law (wsV RL 116 RX8 yX8_dimension wsX8_dimension) := goodIn_app (goodIn_of _ (by decide +kernel)) ggL_law_X8_dimension
set_option maxRecDepth 20000 in
theorem ggL_law_X7_shatteredSet : GoodIn wsL_law wsX7_shatteredSet := goodIn_r _ [578, 16, 35, 383, 384, 385, 15, 386, 48, 559, 181, 182, 183, 560, 295, 296, 297, 298, 299, 300, 561, 562, 563, 34, 564, 86, 535, 565, 566, 532, 533, 534, 88, 536, 537, 538, 141, 539, 540, 541, 542, 543, 544, 545, 546, 918, 919, 920, 921, 922, 923, 924, 925, 926, 927, 950, 951, 952, 953, 954, 955, 956, 968, 969] rfl (by decide +kernel)
set_option maxRecDepth 20000 in
theorem gL_law_X7_shatteredSet : GoodIn wsL_law (wsV RL 117 RX7 yX7_shatteredSet wsX7_shatteredSet) := goodIn_app (goodIn_of _ (by decide +kernel)) ggL_law_X7_shatteredSet
set_option maxRecDepth 20000 in
theorem ggL_law_X8_shatteredSet : GoodIn wsL_law wsX8_shatteredSet := goodIn_r _ [582, 107, 160, 161, 5, 162, 123, 124, 125, 571, 572, 573, 574, 551, 552, 553, 554, 158, 109, 928, 929, 930, 931, 932, 933, 934, 935, 936, 937, 938, 939, 940, 941, 942, 943, 944, 945, 946, 947, 948, 949] rfl (by decide +kernel)
set_option maxRecDepth 20000 in
theorem gL_law_X8_shatteredSet : GoodIn wsL_law (wsV RL 120 RX8 yX8_shatteredSet wsX8_shatteredSet) := goodIn_app (goodIn_of _ (by decide +kernel)) ggL_law_X8_shatteredSet
set_option maxRecDepth 20000 in
theorem ggL_law_X7_shatteredCount : GoodIn wsL_law wsX7_shatteredCount := goodIn_r _ [586, 16, 35, 383, 384, 385, 15, 386, 48, 559, 181, 182, 183, 560, 295, 296, 297, 298, 299, 300, 561, 562, 563, 34, 564, 86, 535, 565, 566, 532, 533, 534, 88, 536, 537, 538, 141, 539, 540, 541, 542, 543, 544, 545, 546, 918, 919, 920, 921, 922, 923, 924, 925, 926, 927, 950, 951, 952, 953, 954, 955, 956, 968, 969] rfl (by decide +kernel)
set_option maxRecDepth 20000 in
theorem gL_law_X7_shatteredCount : GoodIn wsL_law (wsV RL 121 RX7 yX7_shatteredCount wsX7_shatteredCount) := goodIn_app (goodIn_of _ (by decide +kernel)) ggL_law_X7_shatteredCount
set_option maxRecDepth 20000 in
theorem ggL_law_X8_shatteredCount : GoodIn wsL_law wsX8_shatteredCount := goodIn_r _ [590, 107, 160, 161, 5, 162, 123, 124, 125, 571, 572, 573, 574, 551, 552, 553, 554, 158, 109, 928, 929, 930, 931, 932, 933, 934, 935, 936, 937, 938, 939, 940, 941, 942, 943, 944, 945, 946, 947, 948, 949] rfl (by decide +kernel)
set_option maxRecDepth 20000 in
theorem gL_law_X8_shatteredCount : GoodIn wsL_law (wsV RL 124 RX8 yX8_shatteredCount wsX8_shatteredCount) := goodIn_app (goodIn_of _ (by decide +kernel)) ggL_law_X8_shatteredCount
set_option maxRecDepth 20000 in
theorem ggL_law_X7_growth : GoodIn wsL_law wsX7_growth := goodIn_r _ [594, 16, 35, 399, 400, 401, 402, 383, 384, 385, 15, 386, 48, 559, 181, 182, 183, 560, 295, 296, 297, 298, 299, 300, 531, 532, 533, 34, 534, 88, 86, 535, 536, 537, 538, 141, 539, 540, 541, 542, 543, 544, 545, 546, 918, 919, 920, 921, 922, 923, 924, 925, 926, 927, 950, 951, 952, 953, 954, 955, 956, 968, 969] rfl (by decide +kernel)
set_option maxRecDepth 20000 in
theorem gL_law_X7_growth : GoodIn wsL_law (wsV RL 125 RX7 yX7_growth wsX7_growth) := goodIn_app (goodIn_of _ (by decide +kernel)) ggL_law_X7_growth
set_option maxRecDepth 20000 in
theorem ggL_law_X8_growth : GoodIn wsL_law wsX8_growth := goodIn_r _ [598, 107, 160, 161, 5, 162, 123, 124, 125, 551, 552, 553, 554, 158, 109, 928, 929, 930, 931, 932, 933, 934, 935, 936, 937, 938, 939, 940, 941, 942, 943, 944, 945, 946, 947, 948, 949] rfl (by decide +kernel)
set_option maxRecDepth 20000 in
theorem gL_law_X8_growth : GoodIn wsL_law (wsV RL 128 RX8 yX8_growth wsX8_growth) := goodIn_app (goodIn_of _ (by decide +kernel)) ggL_law_X8_growth
set_option maxRecDepth 20000 in
theorem ggL_law_X7_addExample : GoodIn wsL_law wsX7_addExample := goodIn_r _ [602, 16, 20, 603, 604, 605, 606, 15, 607, 48, 608, 609, 610, 19, 611, 62, 612, 613, 614, 615, 63, 918, 919, 920, 921, 922, 923, 924, 925, 926, 927, 957, 958, 950, 951, 952, 953, 954, 955, 956] rfl (by decide +kernel)
set_option maxRecDepth 20000 in
theorem gL_law_X7_addExample : GoodIn wsL_law (wsV RL 129 RX7 yX7_addExample wsX7_addExample) := goodIn_app (goodIn_of _ (by decide +kernel)) ggL_law_X7_addExample
set_option maxRecDepth 20000 in
theorem ggL_law_X8_addExample : GoodIn wsL_law wsX8_addExample := goodIn_r _ [619, 107, 159, 160, 161, 5, 162, 620, 621, 622, 623, 111, 112, 928, 929, 930, 931, 932, 933, 934, 935, 936, 937, 938, 939, 940, 941, 942, 943, 944, 945, 946, 947, 948, 949] rfl (by decide +kernel)
set_option maxRecDepth 20000 in
theorem gL_law_X8_addExample : GoodIn wsL_law (wsV RL 132 RX8 yX8_addExample wsX8_addExample) := goodIn_app (goodIn_of _ (by decide +kernel)) ggL_law_X8_addExample
set_option maxRecDepth 20000 in
theorem ggL_law_X7_addExamples : GoodIn wsL_law wsX7_addExamples := goodIn_r _ [627, 16, 20, 130, 603, 226, 227, 228, 15, 229, 49, 176, 177, 178, 179, 180, 181, 182, 183, 48, 560, 295, 296, 297, 298, 299, 300, 608, 609, 610, 19, 611, 62, 628, 147, 2, 148, 629, 342, 343, 344, 51, 612, 613, 614, 615, 63, 918, 919, 920, 921, 922, 923, 924, 925, 926, 927, 950, 951, 952, 953, 954, 955, 956, 957, 958] rfl (by decide +kernel)
set_option maxRecDepth 20000 in
theorem gL_law_X7_addExamples : GoodIn wsL_law (wsV RL 133 RX7 yX7_addExamples wsX7_addExamples) := goodIn_app (goodIn_of _ (by decide +kernel)) ggL_law_X7_addExamples
set_option maxRecDepth 20000 in
theorem ggL_law_X8_addExamples : GoodIn wsL_law wsX8_addExamples := goodIn_r _ [633, 159, 107, 109, 242, 243, 244, 5, 245, 158, 160, 161, 162, 201, 202, 203, 204, 123, 124, 125, 309, 310, 311, 620, 621, 622, 623, 111, 112, 928, 929, 930, 931, 932, 933, 934, 935, 936, 937, 938, 939, 940, 941, 942, 943, 944, 945, 946, 947, 948, 949] rfl (by decide +kernel)
set_option maxRecDepth 20000 in
theorem gL_law_X8_addExamples : GoodIn wsL_law (wsV RL 136 RX8 yX8_addExamples wsX8_addExamples) := goodIn_app (goodIn_of _ (by decide +kernel)) ggL_law_X8_addExamples
set_option maxRecDepth 20000 in
theorem ggL_law_X7_clearSample : GoodIn wsL_law wsX7_clearSample := goodIn_r _ [637, 20, 603, 149, 150, 151, 19, 152, 62, 918, 919, 920, 921, 922, 923, 924, 925, 926, 927, 957, 958] rfl (by decide +kernel)
set_option maxRecDepth 20000 in
theorem gL_law_X7_clearSample : GoodIn wsL_law (wsV RL 137 RX7 yX7_clearSample wsX7_clearSample) := goodIn_app (goodIn_of _ (by decide +kernel)) ggL_law_X7_clearSample
set_option maxRecDepth 20000 in
theorem ggL_law_X8_clearSample : GoodIn wsL_law wsX8_clearSample := goodIn_r _ [641, 159, 928, 929, 930, 931, 932, 933, 934, 935, 936, 937, 938, 939, 940, 941, 942, 943, 944, 945, 946, 947, 948, 949] rfl (by decide +kernel)
set_option maxRecDepth 20000 in
theorem gL_law_X8_clearSample : GoodIn wsL_law (wsV RL 140 RX8 yX8_clearSample wsX8_clearSample) := goodIn_app (goodIn_of _ (by decide +kernel)) ggL_law_X8_clearSample
set_option maxRecDepth 20000 in
theorem ggL_law_X7_example : GoodIn wsL_law wsX7_example := goodIn_r _ [645, 20, 603, 646, 918, 919, 920, 921, 922, 923, 924, 925, 926, 927, 957, 958] rfl (by decide +kernel)
set_option maxRecDepth 20000 in
theorem gL_law_X7_example : GoodIn wsL_law (wsV RL 141 RX7 yX7_example wsX7_example) := goodIn_app (goodIn_of _ (by decide +kernel)) ggL_law_X7_example
set_option maxRecDepth 20000 in
theorem ggL_law_X8_example : GoodIn wsL_law wsX8_example := goodIn_r _ [650, 159, 111, 112, 160, 161, 5, 162, 928, 929, 930, 931, 932, 933, 934, 935, 936, 937, 938, 939, 940, 941, 942, 943, 944, 945, 946, 947, 948, 949] rfl (by decide +kernel)
set_option maxRecDepth 20000 in
theorem gL_law_X8_example : GoodIn wsL_law (wsV RL 144 RX8 yX8_example wsX8_example) := goodIn_app (goodIn_of _ (by decide +kernel)) ggL_law_X8_example
set_option maxRecDepth 20000 in
theorem ggL_law_X7_versionCount : GoodIn wsL_law wsX7_versionCount := goodIn_r _ [654, 655, 656, 657, 2, 658, 16, 20, 603, 659, 329, 330, 15, 331, 49, 660, 661, 662, 19, 663, 63, 664, 665, 666, 667, 668, 346, 347, 348, 56, 328, 560, 295, 296, 297, 298, 299, 300, 918, 919, 920, 921, 922, 923, 924, 925, 926, 927, 957, 958, 950, 951, 952, 953, 954, 955, 956] rfl (by decide +kernel)
set_option maxRecDepth 20000 in
theorem gL_law_X7_versionCount : GoodIn wsL_law (wsV RL 145 RX7 yX7_versionCount wsX7_versionCount) := goodIn_app (goodIn_of _ (by decide +kernel)) ggL_law_X7_versionCount
set_option maxRecDepth 20000 in
theorem ggL_law_X8_versionCount : GoodIn wsL_law wsX8_versionCount := goodIn_r _ [672, 673, 674, 675, 5, 676, 158, 159, 109, 111, 112, 123, 124, 125, 928, 929, 930, 931, 932, 933, 934, 935, 936, 937, 938, 939, 940, 941, 942, 943, 944, 945, 946, 947, 948, 949] rfl (by decide +kernel)
set_option maxRecDepth 20000 in
theorem gL_law_X8_versionCount : GoodIn wsL_law (wsV RL 148 RX8 yX8_versionCount wsX8_versionCount) := goodIn_app (goodIn_of _ (by decide +kernel)) ggL_law_X8_versionCount
set_option maxRecDepth 20000 in
theorem ggL_law_X7_version : GoodIn wsL_law wsX7_version := goodIn_r _ [680, 16, 175, 655, 656, 657, 2, 658, 20, 603, 659, 329, 330, 15, 331, 49, 660, 661, 662, 19, 663, 63, 664, 665, 666, 667, 668, 346, 347, 348, 56, 328, 628, 147, 148, 918, 919, 920, 921, 922, 923, 924, 925, 926, 927, 950, 951, 952, 953, 954, 955, 956, 957, 958] rfl (by decide +kernel)
set_option maxRecDepth 20000 in
theorem gL_law_X7_version : GoodIn wsL_law (wsV RL 149 RX7 yX7_version wsX7_version) := goodIn_app (goodIn_of _ (by decide +kernel)) ggL_law_X7_version
set_option maxRecDepth 20000 in
theorem ggL_law_X8_version : GoodIn wsL_law wsX8_version := goodIn_r _ [684, 158, 673, 674, 675, 5, 676, 159, 109, 111, 112, 309, 310, 311, 928, 929, 930, 931, 932, 933, 934, 935, 936, 937, 938, 939, 940, 941, 942, 943, 944, 945, 946, 947, 948, 949] rfl (by decide +kernel)
set_option maxRecDepth 20000 in
theorem gL_law_X8_version : GoodIn wsL_law (wsV RL 152 RX8 yX8_version wsX8_version) := goodIn_app (goodIn_of _ (by decide +kernel)) ggL_law_X8_version
set_option maxRecDepth 20000 in
theorem ggL_law_X7_decode : GoodIn wsL_law wsX7_decode := goodIn_r _ [688, 31, 16, 175, 475, 655, 656, 657, 2, 658, 20, 603, 659, 329, 330, 15, 331, 49, 660, 661, 662, 19, 663, 63, 664, 665, 666, 667, 668, 346, 347, 348, 56, 328, 432, 433, 434, 30, 435, 81, 74, 80, 436, 437, 438, 439, 78, 79, 440, 400, 401, 402, 441, 442, 443, 444, 445, 446, 77, 75, 447, 404, 405, 147, 148, 448, 366, 367, 26, 368, 68, 69, 336, 337, 338, 339, 340, 341, 342, 343, 344, 51, 345, 369, 181, 182, 183, 48, 370, 295, 296, 297, 298, 299, 300, 449, 450, 451, 452, 453, 76, 628, 918, 919, 920, 921, 922, 923, 924, 925, 926, 927, 950, 951, 952, 953, 954, 955, 956, 961, 962, 963, 964, 965, 966, 967, 957, 958, 959, 960] rfl (by decide +kernel)
set_option maxRecDepth 20000 in
theorem gL_law_X7_decode : GoodIn wsL_law (wsV RL 153 RX7 yX7_decode wsX7_decode) := goodIn_app (goodIn_of _ (by decide +kernel)) ggL_law_X7_decode
set_option maxRecDepth 20000 in
theorem ggL_law_X8_decode : GoodIn wsL_law wsX8_decode := goodIn_r _ [692, 158, 121, 673, 674, 675, 5, 676, 159, 109, 111, 112, 458, 459, 460, 461, 107, 122, 353, 354, 355, 356, 309, 310, 311, 375, 376, 377, 378, 108, 357, 358, 359, 360, 123, 124, 125, 928, 929, 930, 931, 932, 933, 934, 935, 936, 937, 938, 939, 940, 941, 942, 943, 944, 945, 946, 947, 948, 949] rfl (by decide +kernel)
set_option maxRecDepth 20000 in
theorem gL_law_X8_decode : GoodIn wsL_law (wsV RL 156 RX8 yX8_decode wsX8_decode) := goodIn_app (goodIn_of _ (by decide +kernel)) ggL_law_X8_decode
set_option maxRecDepth 20000 in
theorem ggL_law_X7_majority : GoodIn wsL_law wsX7_majority := goodIn_r _ [696, 16, 604, 605, 606, 15, 607, 48, 655, 656, 657, 2, 658, 20, 603, 659, 329, 330, 331, 49, 660, 661, 662, 19, 663, 63, 664, 665, 666, 667, 668, 346, 347, 348, 56, 328, 697, 698, 699, 700, 701, 294, 295, 296, 297, 298, 299, 300, 918, 919, 920, 921, 922, 923, 924, 925, 926, 927, 950, 951, 952, 953, 954, 955, 956, 957, 958] rfl (by decide +kernel)
set_option maxRecDepth 20000 in
theorem gL_law_X7_majority : GoodIn wsL_law (wsV RL 157 RX7 yX7_majority wsX7_majority) := goodIn_app (goodIn_of _ (by decide +kernel)) ggL_law_X7_majority
set_option maxRecDepth 20000 in
theorem ggL_law_X8_majority : GoodIn wsL_law wsX8_majority := goodIn_r _ [705, 107, 160, 161, 5, 162, 673, 674, 675, 676, 158, 159, 109, 111, 112, 706, 707, 708, 709, 309, 310, 311, 123, 124, 125, 928, 929, 930, 931, 932, 933, 934, 935, 936, 937, 938, 939, 940, 941, 942, 943, 944, 945, 946, 947, 948, 949] rfl (by decide +kernel)
set_option maxRecDepth 20000 in
theorem gL_law_X8_majority : GoodIn wsL_law (wsV RL 160 RX8 yX8_majority wsX8_majority) := goodIn_app (goodIn_of _ (by decide +kernel)) ggL_law_X8_majority
set_option maxRecDepth 20000 in
theorem ggL_law_X7_queryDepth : GoodIn wsL_law wsX7_queryDepth := goodIn_r _ [713, 39, 655, 656, 657, 2, 658, 16, 20, 603, 659, 329, 330, 15, 331, 49, 660, 661, 662, 19, 663, 63, 664, 665, 666, 667, 668, 346, 347, 348, 56, 328, 714, 715, 716, 38, 717, 94, 718, 538, 141, 539, 719, 720, 721, 722, 93, 723, 724, 295, 296, 297, 298, 299, 300, 725, 726, 727, 728, 729, 730, 731, 732, 733, 734, 735, 736, 737, 738, 739, 740, 741, 742, 400, 401, 402, 743, 744, 745, 404, 405, 746, 747, 748, 918, 919, 920, 921, 922, 923, 924, 925, 926, 927, 957, 958, 950, 951, 952, 953, 954, 955, 956, 970, 971] rfl (by decide +kernel)
set_option maxRecDepth 20000 in
theorem gL_law_X7_queryDepth : GoodIn wsL_law (wsV RL 161 RX7 yX7_queryDepth wsX7_queryDepth) := goodIn_app (goodIn_of _ (by decide +kernel)) ggL_law_X7_queryDepth
set_option maxRecDepth 20000 in
theorem ggL_law_X8_queryDepth : GoodIn wsL_law wsX8_queryDepth := goodIn_r _ [752, 673, 674, 675, 5, 676, 158, 159, 109, 111, 112, 753, 754, 755, 107, 123, 124, 125, 756, 757, 758, 706, 707, 708, 709, 309, 310, 311, 928, 929, 930, 931, 932, 933, 934, 935, 936, 937, 938, 939, 940, 941, 942, 943, 944, 945, 946, 947, 948, 949] rfl (by decide +kernel)
set_option maxRecDepth 20000 in
theorem gL_law_X8_queryDepth : GoodIn wsL_law (wsV RL 164 RX8 yX8_queryDepth wsX8_queryDepth) := goodIn_app (goodIn_of _ (by decide +kernel)) ggL_law_X8_queryDepth
set_option maxRecDepth 20000 in
theorem ggL_law_X7_bestQuery : GoodIn wsL_law wsX7_bestQuery := goodIn_r _ [762, 39, 655, 656, 657, 2, 658, 16, 20, 603, 659, 329, 330, 15, 331, 49, 660, 661, 662, 19, 663, 63, 664, 665, 666, 667, 668, 346, 347, 348, 56, 328, 763, 764, 765, 38, 766, 93, 723, 767, 715, 716, 717, 94, 718, 538, 141, 539, 719, 720, 721, 722, 724, 295, 296, 297, 298, 299, 300, 725, 726, 727, 728, 729, 730, 731, 732, 733, 734, 735, 736, 737, 738, 739, 740, 741, 742, 400, 401, 402, 743, 744, 745, 404, 405, 746, 747, 748, 918, 919, 920, 921, 922, 923, 924, 925, 926, 927, 957, 958, 950, 951, 952, 953, 954, 955, 956, 970, 971] rfl (by decide +kernel)
set_option maxRecDepth 20000 in
theorem gL_law_X7_bestQuery : GoodIn wsL_law (wsV RL 165 RX7 yX7_bestQuery wsX7_bestQuery) := goodIn_app (goodIn_of _ (by decide +kernel)) ggL_law_X7_bestQuery
set_option maxRecDepth 20000 in
theorem ggL_law_X8_bestQuery : GoodIn wsL_law wsX8_bestQuery := goodIn_r _ [771, 107, 673, 674, 675, 5, 676, 158, 159, 109, 111, 112, 123, 124, 125, 756, 757, 758, 706, 707, 708, 709, 309, 310, 311, 753, 754, 755, 928, 929, 930, 931, 932, 933, 934, 935, 936, 937, 938, 939, 940, 941, 942, 943, 944, 945, 946, 947, 948, 949] rfl (by decide +kernel)
set_option maxRecDepth 20000 in
theorem gL_law_X8_bestQuery : GoodIn wsL_law (wsV RL 168 RX8 yX8_bestQuery wsX8_bestQuery) := goodIn_app (goodIn_of _ (by decide +kernel)) ggL_law_X8_bestQuery
set_option maxRecDepth 20000 in
theorem ggL_law_X7_halvingMistakes : GoodIn wsL_law wsX7_halvingMistakes := goodIn_r _ [775, 16, 130, 226, 227, 228, 15, 229, 49, 659, 329, 330, 331, 697, 698, 699, 700, 701, 346, 347, 348, 56, 328, 294, 295, 296, 297, 298, 299, 300, 629, 342, 343, 344, 51, 147, 2, 148, 668, 918, 919, 920, 921, 922, 923, 924, 925, 926, 927, 950, 951, 952, 953, 954, 955, 956] rfl (by decide +kernel)
set_option maxRecDepth 20000 in
theorem gL_law_X7_halvingMistakes : GoodIn wsL_law (wsV RL 169 RX7 yX7_halvingMistakes wsX7_halvingMistakes) := goodIn_app (goodIn_of _ (by decide +kernel)) ggL_law_X7_halvingMistakes
set_option maxRecDepth 20000 in
theorem ggL_law_X8_halvingMistakes : GoodIn wsL_law wsX8_halvingMistakes := goodIn_r _ [779, 107, 109, 242, 243, 244, 5, 245, 158, 160, 161, 162, 353, 354, 355, 356, 706, 707, 708, 709, 309, 310, 311, 123, 124, 125, 928, 929, 930, 931, 932, 933, 934, 935, 936, 937, 938, 939, 940, 941, 942, 943, 944, 945, 946, 947, 948, 949] rfl (by decide +kernel)
set_option maxRecDepth 20000 in
theorem gL_law_X8_halvingMistakes : GoodIn wsL_law (wsV RL 172 RX8 yX8_halvingMistakes wsX8_halvingMistakes) := goodIn_app (goodIn_of _ (by decide +kernel)) ggL_law_X8_halvingMistakes
set_option maxRecDepth 20000 in
theorem ggL_law_X7_allocate : GoodIn wsL_law wsX7_allocate := goodIn_r _ [783, 41, 784, 785, 2, 786, 787, 788, 789, 43, 790, 99, 100, 101, 102, 791, 538, 141, 539, 792, 793, 794, 918, 919, 920, 921, 922, 923, 924, 925, 926, 927, 972, 973, 974, 975] rfl (by decide +kernel)
set_option maxRecDepth 20000 in
theorem gL_law_X7_allocate : GoodIn wsL_law (wsV RL 173 RX7 yX7_allocate wsX7_allocate) := goodIn_app (goodIn_of _ (by decide +kernel)) ggL_law_X7_allocate
set_option maxRecDepth 20000 in
theorem ggL_law_X8_allocate : GoodIn wsL_law wsX8_allocate := goodIn_r _ [798, 799, 113, 114, 115, 116, 800, 801, 5, 802, 160, 161, 162, 928, 929, 930, 931, 932, 933, 934, 935, 936, 937, 938, 939, 940, 941, 942, 943, 944, 945, 946, 947, 948, 949] rfl (by decide +kernel)
set_option maxRecDepth 20000 in
theorem gL_law_X8_allocate : GoodIn wsL_law (wsV RL 176 RX8 yX8_allocate wsX8_allocate) := goodIn_app (goodIn_of _ (by decide +kernel)) ggL_law_X8_allocate
set_option maxRecDepth 20000 in
theorem ggL_law_X7_release : GoodIn wsL_law wsX7_release := goodIn_r _ [806, 41, 784, 785, 2, 786, 807, 808, 809, 43, 810, 99, 787, 788, 789, 790, 100, 101, 102, 791, 538, 141, 539, 792, 793, 794, 918, 919, 920, 921, 922, 923, 924, 925, 926, 927, 972, 973, 974, 975] rfl (by decide +kernel)
set_option maxRecDepth 20000 in
theorem gL_law_X7_release : GoodIn wsL_law (wsV RL 177 RX7 yX7_release wsX7_release) := goodIn_app (goodIn_of _ (by decide +kernel)) ggL_law_X7_release
set_option maxRecDepth 20000 in
theorem ggL_law_X8_release : GoodIn wsL_law wsX8_release := goodIn_r _ [814, 113, 800, 801, 5, 802, 799, 160, 161, 162, 928, 929, 930, 931, 932, 933, 934, 935, 936, 937, 938, 939, 940, 941, 942, 943, 944, 945, 946, 947, 948, 949] rfl (by decide +kernel)
set_option maxRecDepth 20000 in
theorem gL_law_X8_release : GoodIn wsL_law (wsV RL 180 RX8 yX8_release wsX8_release) := goodIn_app (goodIn_of _ (by decide +kernel)) ggL_law_X8_release
set_option maxRecDepth 20000 in
theorem ggL_law_X7_putElement : GoodIn wsL_law wsX7_putElement := goodIn_r _ [818, 41, 784, 785, 2, 786, 807, 808, 809, 43, 810, 99, 819, 820, 821, 822, 100, 823, 824, 825, 826, 101, 102, 918, 919, 920, 921, 922, 923, 924, 925, 926, 927, 972, 973, 974, 975] rfl (by decide +kernel)
set_option maxRecDepth 20000 in
theorem gL_law_X7_putElement : GoodIn wsL_law (wsV RL 183 RX7 yX7_putElement wsX7_putElement) := goodIn_app (goodIn_of _ (by decide +kernel)) ggL_law_X7_putElement
set_option maxRecDepth 20000 in
theorem ggL_law_X8_putElement : GoodIn wsL_law wsX8_putElement := goodIn_r _ [830, 113, 115, 116, 800, 801, 5, 802, 799, 160, 161, 162, 831, 832, 833, 834, 114, 928, 929, 930, 931, 932, 933, 934, 935, 936, 937, 938, 939, 940, 941, 942, 943, 944, 945, 946, 947, 948, 949] rfl (by decide +kernel)
set_option maxRecDepth 20000 in
theorem gL_law_X8_putElement : GoodIn wsL_law (wsV RL 187 RX8 yX8_putElement wsX8_putElement) := goodIn_app (goodIn_of _ (by decide +kernel)) ggL_law_X8_putElement
set_option maxRecDepth 20000 in
theorem ggL_law_X7_element : GoodIn wsL_law wsX7_element := goodIn_r _ [838, 41, 839, 784, 785, 2, 786, 819, 820, 821, 43, 822, 100, 840, 841, 842, 843, 99, 102, 101, 918, 919, 920, 921, 922, 923, 924, 925, 926, 927, 972, 973, 974, 975] rfl (by decide +kernel)
set_option maxRecDepth 20000 in
theorem gL_law_X7_element : GoodIn wsL_law (wsV RL 188 RX7 yX7_element wsX7_element) := goodIn_app (goodIn_of _ (by decide +kernel)) ggL_law_X7_element
set_option maxRecDepth 20000 in
theorem ggL_law_X8_element : GoodIn wsL_law wsX8_element := goodIn_r _ [847, 113, 848, 115, 116, 800, 801, 5, 802, 799, 160, 161, 162, 831, 832, 833, 834, 114, 928, 929, 930, 931, 932, 933, 934, 935, 936, 937, 938, 939, 940, 941, 942, 943, 944, 945, 946, 947, 948, 949] rfl (by decide +kernel)
set_option maxRecDepth 20000 in
theorem gL_law_X8_element : GoodIn wsL_law (wsV RL 192 RX8 yX8_element wsX8_element) := goodIn_app (goodIn_of _ (by decide +kernel)) ggL_law_X8_element
set_option maxRecDepth 20000 in
theorem ggL_law_X7_copyElements : GoodIn wsL_law wsX7_copyElements := goodIn_r _ [852, 41, 853, 784, 785, 2, 786, 807, 808, 809, 43, 810, 99, 854, 855, 856, 857, 100, 858, 859, 860, 861, 102, 862, 863, 864, 865, 101, 918, 919, 920, 921, 922, 923, 924, 925, 926, 927, 972, 973, 974, 975] rfl (by decide +kernel)
set_option maxRecDepth 20000 in
theorem gL_law_X7_copyElements : GoodIn wsL_law (wsV RL 193 RX7 yX7_copyElements wsX7_copyElements) := goodIn_app (goodIn_of _ (by decide +kernel)) ggL_law_X7_copyElements
set_option maxRecDepth 20000 in
theorem ggL_law_X8_copyElements : GoodIn wsL_law wsX8_copyElements := goodIn_r _ [869, 113, 114, 115, 116, 800, 801, 5, 802, 799, 160, 161, 162, 928, 929, 930, 931, 932, 933, 934, 935, 936, 937, 938, 939, 940, 941, 942, 943, 944, 945, 946, 947, 948, 949] rfl (by decide +kernel)
set_option maxRecDepth 20000 in
theorem gL_law_X8_copyElements : GoodIn wsL_law (wsV RL 197 RX8 yX8_copyElements wsX8_copyElements) := goodIn_app (goodIn_of _ (by decide +kernel)) ggL_law_X8_copyElements
set_option maxRecDepth 20000 in
theorem ggL_law_X7_loadClass : GoodIn wsL_law wsX7_loadClass := goodIn_r _ [873, 41, 853, 16, 130, 20, 874, 175, 784, 785, 2, 786, 807, 808, 809, 43, 810, 99, 131, 132, 133, 15, 134, 48, 49, 135, 136, 137, 138, 56, 57, 139, 140, 141, 142, 143, 144, 145, 146, 51, 147, 148, 149, 150, 151, 19, 152, 62, 840, 841, 842, 843, 102, 101, 176, 177, 178, 179, 180, 181, 182, 183, 188, 189, 190, 191, 192, 185, 186, 187, 193, 194, 195, 196, 55, 53, 918, 919, 920, 921, 922, 923, 924, 925, 926, 927, 972, 973, 974, 975, 950, 951, 952, 953, 954, 955, 956, 957, 958] rfl (by decide +kernel)
set_option maxRecDepth 20000 in
theorem gL_law_X7_loadClass : GoodIn wsL_law (wsV RL 198 RX7 yX7_loadClass wsX7_loadClass) := goodIn_app (goodIn_of _ (by decide +kernel)) ggL_law_X7_loadClass
set_option maxRecDepth 20000 in
theorem ggL_law_X8_loadClass : GoodIn wsL_law wsX8_loadClass := goodIn_r _ [878, 113, 158, 159, 114, 115, 800, 801, 5, 802, 799, 160, 161, 162, 201, 202, 203, 204, 107, 205, 206, 207, 208, 109, 209, 210, 211, 212, 110, 213, 928, 929, 930, 931, 932, 933, 934, 935, 936, 937, 938, 939, 940, 941, 942, 943, 944, 945, 946, 947, 948, 949] rfl (by decide +kernel)
set_option maxRecDepth 20000 in
theorem gL_law_X8_loadClass : GoodIn wsL_law (wsV RL 201 RX8 yX8_loadClass wsX8_loadClass) := goodIn_app (goodIn_of _ (by decide +kernel)) ggL_law_X8_loadClass
set_option maxRecDepth 20000 in
theorem ggL_law_X7_storeScores : GoodIn wsL_law wsX7_storeScores := goodIn_r _ [882, 41, 853, 874, 16, 175, 883, 506, 884, 784, 785, 2, 786, 807, 808, 809, 43, 810, 99, 918, 919, 920, 921, 922, 923, 924, 925, 926, 927, 972, 973, 974, 975, 950, 951, 952, 953, 954, 955, 956] rfl (by decide +kernel)
set_option maxRecDepth 20000 in
theorem gL_law_X7_storeScores : GoodIn wsL_law (wsV RL 202 RX7 yX7_storeScores wsX7_storeScores) := goodIn_app (goodIn_of _ (by decide +kernel)) ggL_law_X7_storeScores
set_option maxRecDepth 20000 in
theorem ggL_law_X8_storeScores : GoodIn wsL_law wsX8_storeScores := goodIn_r _ [888, 113, 114, 158, 116, 110, 800, 801, 5, 802, 799, 160, 161, 162, 928, 929, 930, 931, 932, 933, 934, 935, 936, 937, 938, 939, 940, 941, 942, 943, 944, 945, 946, 947, 948, 949] rfl (by decide +kernel)
set_option maxRecDepth 20000 in
theorem gL_law_X8_storeScores : GoodIn wsL_law (wsV RL 205 RX8 yX8_storeScores wsX8_storeScores) := goodIn_app (goodIn_of _ (by decide +kernel)) ggL_law_X8_storeScores
set_option maxRecDepth 20000 in
theorem ggL_law_X7_snapshot : GoodIn wsL_law wsX7_snapshot := goodIn_r _ [892, 21, 16, 22, 20, 23, 175, 893, 894, 895, 15, 896, 48, 49, 51, 53, 55, 135, 136, 137, 138, 56, 57, 139, 140, 141, 142, 143, 144, 145, 146, 147, 2, 148, 897, 898, 899, 19, 900, 62, 63, 901, 863, 864, 865, 918, 919, 920, 921, 922, 923, 924, 925, 926, 927, 950, 951, 952, 953, 954, 955, 956, 957, 958] rfl (by decide +kernel)
set_option maxRecDepth 20000 in
theorem gL_law_X7_snapshot : GoodIn wsL_law (wsV RL 206 RX7 yX7_snapshot wsX7_snapshot) := goodIn_app (goodIn_of _ (by decide +kernel)) ggL_law_X7_snapshot
set_option maxRecDepth 20000 in
theorem ggL_law_X8_snapshot : GoodIn wsL_law wsX8_snapshot := goodIn_r _ [905, 906, 107, 907, 158, 908, 159, 909, 117, 109, 118, 110, 119, 111, 120, 112, 928, 929, 930, 931, 932, 933, 934, 935, 936, 937, 938, 939, 940, 941, 942, 943, 944, 945, 946, 947, 948, 949] rfl (by decide +kernel)
set_option maxRecDepth 20000 in
theorem gL_law_X8_snapshot : GoodIn wsL_law (wsV RL 209 RX8 yX8_snapshot wsX8_snapshot) := goodIn_app (goodIn_of _ (by decide +kernel)) ggL_law_X8_snapshot
set_option maxRecDepth 20000 in
theorem ggL_law_X7_restore : GoodIn wsL_law wsX7_restore := goodIn_r _ [913, 23, 16, 21, 20, 22, 175, 893, 894, 895, 15, 896, 48, 49, 51, 53, 55, 135, 136, 137, 138, 56, 57, 139, 140, 141, 142, 143, 144, 145, 146, 147, 2, 148, 897, 898, 899, 19, 900, 62, 63, 901, 863, 864, 865, 918, 919, 920, 921, 922, 923, 924, 925, 926, 927, 950, 951, 952, 953, 954, 955, 956, 957, 958] rfl (by decide +kernel)
set_option maxRecDepth 20000 in
theorem gL_law_X7_restore : GoodIn wsL_law (wsV RL 210 RX7 yX7_restore wsX7_restore) := goodIn_app (goodIn_of _ (by decide +kernel)) ggL_law_X7_restore
set_option maxRecDepth 20000 in
theorem ggL_law_X8_restore : GoodIn wsL_law wsX8_restore := goodIn_r _ [917, 906, 907, 107, 908, 158, 909, 159, 109, 117, 110, 118, 111, 119, 112, 120, 928, 929, 930, 931, 932, 933, 934, 935, 936, 937, 938, 939, 940, 941, 942, 943, 944, 945, 946, 947, 948, 949] rfl (by decide +kernel)
set_option maxRecDepth 20000 in
theorem gL_law_X8_restore : GoodIn wsL_law (wsV RL 213 RX8 yX8_restore wsX8_restore) := goodIn_app (goodIn_of _ (by decide +kernel)) ggL_law_X8_restore
