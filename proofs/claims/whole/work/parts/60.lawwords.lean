/-! the law's words are words of the tables -/
theorem in_places {big ws : List Cond} (ps : List Nat) (h : ws = ps.filterMap (fun i => big[i]?)) : ∀ w ∈ ws, w ∈ big := by
  intro w hw
  rw [h, List.mem_filterMap] at hw
  obtain ⟨i, -, e⟩ := hw
  exact List.mem_of_getElem? e
theorem in_app {big a b : List Cond} (h1 : ∀ w ∈ a, w ∈ big) (h2 : ∀ w ∈ b, w ∈ big) : ∀ w ∈ a ++ b, w ∈ big := fun w hw => (List.mem_append.mp hw).elim (h1 w) (h2 w)
set_option maxRecDepth 100000 in
set_option maxHeartbeats 2000000 in
theorem lin_r1 : ∀ w ∈ wsL_law_r1, w ∈ lw_tbl := in_places [42, 43, 28, 710, 711, 36, 1061, 44, 45, 46, 47, 48, 49, 50, 51, 29, 202, 92, 93, 30, 203, 204, 205, 206] rfl
set_option maxRecDepth 100000 in
set_option maxHeartbeats 2000000 in
theorem lin_r2 : ∀ w ∈ wsL_law_r2, w ∈ lw_tbl := in_places [107, 108, 31, 207, 120, 121, 32, 208, 152, 153, 33, 209, 166, 167, 34, 210, 179, 211, 181, 35, 52, 53, 54, 55] rfl
set_option maxRecDepth 100000 in
set_option maxHeartbeats 2000000 in
theorem lin_r3 : ∀ w ∈ wsL_law_r3, w ∈ lw_tbl := in_places [56, 60, 89, 64, 90, 67, 91, 69, 71, 73, 94, 95, 96, 97, 98, 100, 109, 110, 111, 112, 113, 114, 122, 123] rfl
set_option maxRecDepth 100000 in
set_option maxHeartbeats 2000000 in
theorem lin_r4 : ∀ w ∈ wsL_law_r4, w ∈ lw_tbl := in_places [124, 125, 126, 127, 128, 130, 132, 134, 72, 136, 154, 155, 156, 157, 158, 165, 159, 168, 169, 170, 171, 172, 173, 182] rfl
set_option maxRecDepth 100000 in
set_option maxHeartbeats 2000000 in
theorem lin_r5 : ∀ w ∈ wsL_law_r5, w ∈ lw_tbl := in_places [183, 184, 185, 186, 188, 190, 191, 712, 713, 714, 715, 719, 720, 722, 723, 725, 726, 727, 728, 729, 730, 734, 735, 737] rfl
set_option maxRecDepth 100000 in
set_option maxHeartbeats 2000000 in
theorem lin_r6 : ∀ w ∈ wsL_law_r6, w ∈ lw_tbl := in_places [738, 739, 740, 716, 717, 718, 233, 234, 235, 236, 58, 237, 238, 239, 240, 241, 243, 0, 244, 245, 246, 37, 247, 248] rfl
set_option maxRecDepth 100000 in
set_option maxHeartbeats 2000000 in
theorem lin_r7 : ∀ w ∈ wsL_law_r7, w ∈ lw_tbl := in_places [250, 1, 251, 253, 254, 255, 256, 257, 258, 786, 787, 788, 789, 790, 721, 724, 791, 792, 793, 259, 260, 261, 262, 794] rfl
set_option maxRecDepth 100000 in
set_option maxHeartbeats 2000000 in
theorem lin_r8 : ∀ w ∈ wsL_law_r8, w ∈ lw_tbl := in_places [795, 796, 797, 263, 264, 265, 266, 63, 267, 268, 269, 270, 271, 272, 273, 274, 275, 276, 277, 278, 279, 280, 281, 282] rfl
set_option maxRecDepth 100000 in
set_option maxHeartbeats 2000000 in
theorem lin_r9 : ∀ w ∈ wsL_law_r9, w ∈ lw_tbl := in_places [283, 284, 285, 286, 287, 798, 799, 800, 801, 802, 804, 11, 805, 806, 808, 12, 809, 810, 812, 13, 813, 814, 288, 289] rfl
set_option maxRecDepth 100000 in
set_option maxHeartbeats 2000000 in
theorem lin_r10 : ∀ w ∈ wsL_law_r10, w ∈ lw_tbl := in_places [290, 291, 815, 816, 817, 818, 292, 293, 294, 295, 296, 297, 298, 299, 300, 301, 302, 303, 304, 306, 2, 307, 819, 820] rfl
set_option maxRecDepth 100000 in
set_option maxHeartbeats 2000000 in
theorem lin_r11 : ∀ w ∈ wsL_law_r11, w ∈ lw_tbl := in_places [821, 822, 823, 825, 14, 826, 308, 309, 310, 311, 827, 828, 829, 830, 312, 313, 314, 315, 66, 831, 832, 833, 834, 316] rfl
set_option maxRecDepth 100000 in
set_option maxHeartbeats 2000000 in
theorem lin_r12 : ∀ w ∈ wsL_law_r12, w ∈ lw_tbl := in_places [317, 318, 319, 835, 836, 837, 838, 320, 321, 322, 323, 324, 325, 326, 327, 839, 840, 841, 842, 328, 329, 330, 331, 332] rfl
set_option maxRecDepth 100000 in
set_option maxHeartbeats 2000000 in
theorem lin_r13 : ∀ w ∈ wsL_law_r13, w ∈ lw_tbl := in_places [333, 334, 335, 336, 337, 338, 339, 340, 38, 341, 342, 343, 344, 843, 844, 845, 846, 847, 849, 15, 850, 851, 852, 853] rfl
set_option maxRecDepth 100000 in
set_option maxHeartbeats 2000000 in
theorem lin_r14 : ∀ w ∈ wsL_law_r14, w ∈ lw_tbl := in_places [345, 346, 347, 348, 854, 855, 856, 857, 349, 350, 351, 352, 353, 354, 355, 356, 357, 358, 359, 360, 361, 362, 363, 364] rfl
set_option maxRecDepth 100000 in
set_option maxHeartbeats 2000000 in
theorem lin_r15 : ∀ w ∈ wsL_law_r15, w ∈ lw_tbl := in_places [365, 367, 3, 368, 59, 369, 370, 371, 372, 373, 374, 375, 376, 858, 859, 860, 861, 862, 864, 16, 865, 866, 868, 17] rfl
set_option maxRecDepth 100000 in
set_option maxHeartbeats 2000000 in
theorem lin_r16 : ∀ w ∈ wsL_law_r16, w ∈ lw_tbl := in_places [869, 377, 378, 379, 380, 381, 382, 383, 384, 385, 386, 870, 871, 872, 873, 874, 876, 18, 877, 387, 388, 389, 390, 391] rfl
set_option maxRecDepth 100000 in
set_option maxHeartbeats 2000000 in
theorem lin_r17 : ∀ w ∈ wsL_law_r17, w ∈ lw_tbl := in_places [392, 393, 394, 395, 396, 397, 398, 878, 879, 880, 881, 399, 400, 401, 402, 409, 410, 39, 411, 412, 413, 414, 403, 404] rfl
set_option maxRecDepth 100000 in
set_option maxHeartbeats 2000000 in
theorem lin_r18 : ∀ w ∈ wsL_law_r18, w ∈ lw_tbl := in_places [405, 406, 407, 408, 882, 883, 884, 885, 415, 416, 417, 418, 419, 420, 421, 886, 887, 888, 889, 422, 423, 424, 425, 135] rfl
set_option maxRecDepth 100000 in
set_option maxHeartbeats 2000000 in
theorem lin_r19 : ∀ w ∈ wsL_law_r19, w ∈ lw_tbl := in_places [426, 427, 428, 429, 430, 432, 4, 433, 447, 434, 435, 437, 5, 438, 62, 442, 440, 441, 443, 445, 6, 446, 890, 891] rfl
set_option maxRecDepth 100000 in
set_option maxHeartbeats 2000000 in
theorem lin_r20 : ∀ w ∈ wsL_law_r20, w ∈ lw_tbl := in_places [892, 893, 894, 896, 19, 897, 448, 449, 450, 451, 133, 898, 899, 900, 901, 452, 453, 454, 455, 129, 902, 903, 904, 905] rfl
set_option maxRecDepth 100000 in
set_option maxHeartbeats 2000000 in
theorem lin_r21 : ∀ w ∈ wsL_law_r21, w ∈ lw_tbl := in_places [456, 457, 458, 459, 131, 906, 907, 908, 909, 460, 461, 462, 463, 464, 465, 466, 467, 468, 910, 911, 912, 913, 469, 470] rfl
set_option maxRecDepth 100000 in
set_option maxHeartbeats 2000000 in
theorem lin_r22 : ∀ w ∈ wsL_law_r22, w ∈ lw_tbl := in_places [471, 472, 70, 473, 474, 475, 476, 914, 915, 916, 917, 477, 478, 479, 480, 918, 919, 920, 921, 922, 924, 20, 925, 481] rfl
set_option maxRecDepth 100000 in
set_option maxHeartbeats 2000000 in
theorem lin_r23 : ∀ w ∈ wsL_law_r23, w ∈ lw_tbl := in_places [482, 483, 484, 485, 486, 487, 488, 61, 65, 489, 490, 491, 492, 493, 40, 494, 495, 496, 497, 926, 927, 928, 929, 930] rfl
set_option maxRecDepth 100000 in
set_option maxHeartbeats 2000000 in
theorem lin_r24 : ∀ w ∈ wsL_law_r24, w ∈ lw_tbl := in_places [932, 21, 933, 498, 499, 500, 501, 502, 503, 504, 505, 506, 507, 508, 509, 934, 935, 936, 937, 938, 940, 22, 941, 510] rfl
set_option maxRecDepth 100000 in
set_option maxHeartbeats 2000000 in
theorem lin_r25 : ∀ w ∈ wsL_law_r25, w ∈ lw_tbl := in_places [511, 512, 513, 942, 943, 944, 945, 514, 515, 516, 517, 946, 947, 948, 949, 518, 519, 520, 521, 950, 951, 952, 953, 522] rfl
set_option maxRecDepth 100000 in
set_option maxHeartbeats 2000000 in
theorem lin_r26 : ∀ w ∈ wsL_law_r26, w ∈ lw_tbl := in_places [523, 524, 525, 99, 526, 527, 528, 529, 530, 531, 532, 533, 534, 535, 536, 537, 954, 955, 956, 957, 958, 960, 23, 961] rfl
set_option maxRecDepth 100000 in
set_option maxHeartbeats 2000000 in
theorem lin_r27 : ∀ w ∈ wsL_law_r27, w ∈ lw_tbl := in_places [538, 539, 540, 541, 542, 543, 962, 963, 964, 965, 544, 545, 546, 547, 966, 967, 968, 969, 548, 549, 550, 551, 101, 970] rfl
set_option maxRecDepth 100000 in
set_option maxHeartbeats 2000000 in
theorem lin_r28 : ∀ w ∈ wsL_law_r28, w ∈ lw_tbl := in_places [971, 972, 973, 552, 553, 554, 555, 556, 558, 7, 559, 560, 561, 562, 563, 564, 565, 566, 567, 568, 569, 974, 975, 976] rfl
set_option maxRecDepth 100000 in
set_option maxHeartbeats 2000000 in
theorem lin_r29 : ∀ w ∈ wsL_law_r29, w ∈ lw_tbl := in_places [977, 978, 980, 24, 981, 570, 571, 572, 573, 982, 983, 984, 985, 574, 575, 576, 577, 986, 987, 988, 989, 578, 579, 580] rfl
set_option maxRecDepth 100000 in
set_option maxHeartbeats 2000000 in
theorem lin_r30 : ∀ w ∈ wsL_law_r30, w ∈ lw_tbl := in_places [581, 582, 583, 584, 585, 586, 990, 991, 992, 993, 994, 996, 25, 997, 587, 588, 589, 590, 591, 592, 593, 594, 595, 57] rfl
set_option maxRecDepth 100000 in
set_option maxHeartbeats 2000000 in
theorem lin_r31 : ∀ w ∈ wsL_law_r31, w ∈ lw_tbl := in_places [597, 599, 8, 600, 601, 602, 604, 9, 609, 611, 610, 605, 612, 606, 608, 10, 998, 999, 1000, 1001, 1002, 1003, 1004, 1005] rfl
set_option maxRecDepth 100000 in
set_option maxHeartbeats 2000000 in
theorem lin_r32 : ∀ w ∈ wsL_law_r32, w ∈ lw_tbl := in_places [1006, 1007, 613, 614, 615, 616, 617, 618, 619, 620, 621, 1008, 1009, 1010, 1011, 622, 623, 624, 625, 1012, 1013, 1014, 1015, 626] rfl
set_option maxRecDepth 100000 in
set_option maxHeartbeats 2000000 in
theorem lin_r33 : ∀ w ∈ wsL_law_r33, w ∈ lw_tbl := in_places [627, 628, 629, 630, 631, 632, 633, 634, 635, 636, 637, 638, 639, 640, 1016, 1017, 1018, 1019, 1023, 1020, 1021, 1022, 641, 642] rfl
set_option maxRecDepth 100000 in
set_option maxHeartbeats 2000000 in
theorem lin_r34 : ∀ w ∈ wsL_law_r34, w ∈ lw_tbl := in_places [643, 644, 645, 646, 647, 648, 1024, 1025, 1026, 1027, 649, 650, 651, 652, 653, 654, 655, 656, 657, 658, 659, 660, 1028, 1029] rfl
set_option maxRecDepth 100000 in
set_option maxHeartbeats 2000000 in
theorem lin_r35 : ∀ w ∈ wsL_law_r35, w ∈ lw_tbl := in_places [1030, 1031, 1032, 1034, 26, 1035, 661, 662, 663, 664, 665, 666, 667, 668, 669, 1036, 1037, 1038, 1039, 1040, 670, 671, 672, 673] rfl
set_option maxRecDepth 100000 in
set_option maxHeartbeats 2000000 in
theorem lin_r36 : ∀ w ∈ wsL_law_r36, w ∈ lw_tbl := in_places [187, 674, 675, 676, 677, 678, 679, 680, 681, 682, 684, 683, 41, 1041, 1042, 1043, 1044, 685, 686, 687, 688, 189, 1045, 1046] rfl
set_option maxRecDepth 100000 in
set_option maxHeartbeats 2000000 in
theorem lin_r37 : ∀ w ∈ wsL_law_r37, w ∈ lw_tbl := in_places [1047, 1048, 689, 690, 691, 692, 192, 68, 1049, 1050, 1051, 1052, 693, 694, 695, 696, 697, 698, 699, 700, 701, 702, 703, 704] rfl
set_option maxRecDepth 100000 in
set_option maxHeartbeats 2000000 in
theorem lin_r38 : ∀ w ∈ wsL_law_r38, w ∈ lw_tbl := in_places [705, 1053, 1054, 1055, 1056, 731, 732, 733, 736, 706, 707, 708, 709, 1057, 1058, 1059, 1060] rfl
set_option maxRecDepth 100000 in
set_option maxHeartbeats 2000000 in
theorem lin_X0 : ∀ w ∈ wsX00, w ∈ lw_tbl := in_places [74, 76, 78, 80, 82, 84, 86] rfl
set_option maxRecDepth 100000 in
set_option maxHeartbeats 2000000 in
theorem lin_X1 : ∀ w ∈ wsX10, w ∈ lw_tbl := in_places [137, 139, 141, 143, 145, 147, 149] rfl
set_option maxRecDepth 100000 in
set_option maxHeartbeats 2000000 in
theorem lin_X2 : ∀ w ∈ wsX20, w ∈ lw_tbl := in_places [174, 176] rfl
set_option maxRecDepth 100000 in
set_option maxHeartbeats 2000000 in
theorem lin_X3 : ∀ w ∈ wsX30, w ∈ lw_tbl := in_places [102, 104] rfl
set_option maxRecDepth 100000 in
set_option maxHeartbeats 2000000 in
theorem lin_X4 : ∀ w ∈ wsX40, w ∈ lw_tbl := in_places [115, 117] rfl
set_option maxRecDepth 100000 in
set_option maxHeartbeats 2000000 in
theorem lin_X5 : ∀ w ∈ wsX50, w ∈ lw_tbl := in_places [193, 195, 197, 199] rfl
set_option maxRecDepth 100000 in
set_option maxHeartbeats 2000000 in
theorem lin_X6 : ∀ w ∈ wsX60, w ∈ lw_tbl := in_places [160, 162] rfl
set_option maxRecDepth 100000 in
set_option maxHeartbeats 2000000 in
theorem lin_X7 : ∀ w ∈ wsX70, w ∈ lw_tbl := in_places [212, 214, 216, 218, 220, 222, 224, 226, 228, 230] rfl
set_option maxRecDepth 100000 in
set_option maxHeartbeats 2000000 in
theorem lin_X8 : ∀ w ∈ wsX80, w ∈ lw_tbl := in_places [741, 743, 745, 747, 749, 751, 753, 755, 757, 759, 761, 763, 765, 767, 769, 771, 773, 775, 777, 779, 781, 783] rfl
set_option maxRecDepth 100000 in
theorem wsL_law_in : ∀ w ∈ wsL_law, w ∈ lw_tbl := in_app (in_app (in_app (in_app (in_app (in_app (in_app (in_app (in_app (in_app ((in_app lin_r1 (in_app lin_r2 (in_app lin_r3 (in_app lin_r4 (in_app lin_r5 (in_app lin_r6 (in_app lin_r7 (in_app lin_r8 (in_app lin_r9 (in_app lin_r10 (in_app lin_r11 (in_app lin_r12 (in_app lin_r13 (in_app lin_r14 (in_app lin_r15 (in_app lin_r16 (in_app lin_r17 (in_app lin_r18 (in_app lin_r19 (in_app lin_r20 (in_app lin_r21 (in_app lin_r22 (in_app lin_r23 (in_app lin_r24 (in_app lin_r25 (in_app lin_r26 (in_app lin_r27 (in_app lin_r28 (in_app lin_r29 (in_app lin_r30 (in_app lin_r31 (in_app lin_r32 (in_app lin_r33 (in_app lin_r34 (in_app lin_r35 (in_app lin_r36 (in_app lin_r37 (lin_r38))))))))))))))))))))))))))))))))))))))) lin_X7) lin_X8) lin_X0) lin_X3) lin_X4) lin_X1) lin_X6) lin_X2) lin_X5) (fun _ h => absurd h List.not_mem_nil)
theorem inX0 : ∀ w ∈ wsX00, w ∈ lw_tbl := lin_X0
theorem inX1 : ∀ w ∈ wsX10, w ∈ lw_tbl := lin_X1
theorem inX2 : ∀ w ∈ wsX20, w ∈ lw_tbl := lin_X2
theorem inX3 : ∀ w ∈ wsX30, w ∈ lw_tbl := lin_X3
theorem inX4 : ∀ w ∈ wsX40, w ∈ lw_tbl := lin_X4
theorem inX5 : ∀ w ∈ wsX50, w ∈ lw_tbl := lin_X5
theorem inX6 : ∀ w ∈ wsX60, w ∈ lw_tbl := lin_X6
theorem inX7 : ∀ w ∈ wsX70, w ∈ lw_tbl := lin_X7
theorem inX8 : ∀ w ∈ wsX80, w ∈ lw_tbl := lin_X8
