/-! the law's words are words of the tables -/
theorem in_places {big ws : List Cond} (ps : List Nat) (h : ws = ps.filterMap (fun i => big[i]?)) : ∀ w ∈ ws, w ∈ big := by
  intro w hw
  rw [h, List.mem_filterMap] at hw
  obtain ⟨i, -, e⟩ := hw
  exact List.mem_of_getElem? e
theorem in_app {big a b : List Cond} (h1 : ∀ w ∈ a, w ∈ big) (h2 : ∀ w ∈ b, w ∈ big) : ∀ w ∈ a ++ b, w ∈ big := fun w hw => (List.mem_append.mp hw).elim (h1 w) (h2 w)
set_option maxRecDepth 100000 in
set_option maxHeartbeats 2000000 in
theorem lin_r1 : ∀ w ∈ wsL_law_r1, w ∈ lw_tbl := in_places [44, 45, 30, 725, 726, 38, 1076, 46, 47, 48, 49, 50, 51, 52, 53, 31, 204, 94, 95, 32, 205, 206, 207, 208] rfl
set_option maxRecDepth 100000 in
set_option maxHeartbeats 2000000 in
theorem lin_r2 : ∀ w ∈ wsL_law_r2, w ∈ lw_tbl := in_places [109, 110, 33, 209, 122, 123, 34, 210, 154, 155, 35, 211, 168, 169, 36, 212, 181, 213, 183, 37, 54, 55, 56, 57] rfl
set_option maxRecDepth 100000 in
set_option maxHeartbeats 2000000 in
theorem lin_r3 : ∀ w ∈ wsL_law_r3, w ∈ lw_tbl := in_places [58, 62, 91, 66, 92, 69, 93, 71, 73, 75, 96, 97, 98, 99, 100, 102, 111, 112, 113, 114, 115, 116, 124, 125] rfl
set_option maxRecDepth 100000 in
set_option maxHeartbeats 2000000 in
theorem lin_r4 : ∀ w ∈ wsL_law_r4, w ∈ lw_tbl := in_places [126, 127, 128, 129, 130, 132, 134, 136, 74, 138, 156, 157, 158, 159, 160, 167, 161, 170, 171, 172, 173, 174, 175, 184] rfl
set_option maxRecDepth 100000 in
set_option maxHeartbeats 2000000 in
theorem lin_r5 : ∀ w ∈ wsL_law_r5, w ∈ lw_tbl := in_places [185, 186, 187, 188, 190, 192, 193, 727, 728, 729, 730, 734, 735, 737, 738, 740, 741, 742, 743, 744, 745, 749, 750, 752] rfl
set_option maxRecDepth 100000 in
set_option maxHeartbeats 2000000 in
theorem lin_r6 : ∀ w ∈ wsL_law_r6, w ∈ lw_tbl := in_places [753, 754, 755, 731, 732, 733, 235, 236, 237, 238, 59, 239, 240, 241, 242, 243, 245, 0, 246, 247, 248, 39, 249, 250] rfl
set_option maxRecDepth 100000 in
set_option maxHeartbeats 2000000 in
theorem lin_r7 : ∀ w ∈ wsL_law_r7, w ∈ lw_tbl := in_places [252, 1, 253, 255, 256, 257, 258, 259, 260, 801, 802, 803, 804, 805, 736, 739, 806, 807, 808, 261, 262, 263, 264, 809] rfl
set_option maxRecDepth 100000 in
set_option maxHeartbeats 2000000 in
theorem lin_r8 : ∀ w ∈ wsL_law_r8, w ∈ lw_tbl := in_places [810, 811, 812, 265, 266, 267, 268, 65, 269, 270, 271, 272, 273, 274, 275, 276, 277, 278, 279, 280, 281, 282, 283, 284] rfl
set_option maxRecDepth 100000 in
set_option maxHeartbeats 2000000 in
theorem lin_r9 : ∀ w ∈ wsL_law_r9, w ∈ lw_tbl := in_places [285, 286, 287, 288, 289, 813, 814, 815, 816, 817, 819, 13, 820, 821, 823, 14, 824, 825, 827, 15, 828, 829, 290, 291] rfl
set_option maxRecDepth 100000 in
set_option maxHeartbeats 2000000 in
theorem lin_r10 : ∀ w ∈ wsL_law_r10, w ∈ lw_tbl := in_places [292, 293, 830, 831, 832, 833, 294, 295, 296, 297, 298, 299, 300, 301, 302, 303, 304, 305, 306, 308, 2, 309, 834, 835] rfl
set_option maxRecDepth 100000 in
set_option maxHeartbeats 2000000 in
theorem lin_r11 : ∀ w ∈ wsL_law_r11, w ∈ lw_tbl := in_places [836, 837, 838, 840, 16, 841, 310, 311, 312, 313, 842, 843, 844, 845, 314, 315, 316, 317, 68, 846, 847, 848, 849, 318] rfl
set_option maxRecDepth 100000 in
set_option maxHeartbeats 2000000 in
theorem lin_r12 : ∀ w ∈ wsL_law_r12, w ∈ lw_tbl := in_places [319, 320, 321, 850, 851, 852, 853, 322, 323, 324, 325, 326, 327, 328, 329, 854, 855, 856, 857, 330, 331, 332, 333, 334] rfl
set_option maxRecDepth 100000 in
set_option maxHeartbeats 2000000 in
theorem lin_r13 : ∀ w ∈ wsL_law_r13, w ∈ lw_tbl := in_places [335, 336, 337, 338, 339, 340, 341, 342, 40, 343, 344, 345, 346, 858, 859, 860, 861, 862, 864, 17, 865, 866, 867, 868] rfl
set_option maxRecDepth 100000 in
set_option maxHeartbeats 2000000 in
theorem lin_r14 : ∀ w ∈ wsL_law_r14, w ∈ lw_tbl := in_places [347, 348, 349, 350, 869, 870, 871, 872, 351, 352, 353, 354, 355, 356, 357, 358, 359, 360, 361, 362, 363, 364, 365, 366] rfl
set_option maxRecDepth 100000 in
set_option maxHeartbeats 2000000 in
theorem lin_r15 : ∀ w ∈ wsL_law_r15, w ∈ lw_tbl := in_places [367, 369, 3, 370, 61, 371, 372, 373, 374, 375, 376, 377, 378, 873, 874, 875, 876, 877, 879, 18, 880, 881, 883, 19] rfl
set_option maxRecDepth 100000 in
set_option maxHeartbeats 2000000 in
theorem lin_r16 : ∀ w ∈ wsL_law_r16, w ∈ lw_tbl := in_places [884, 379, 380, 381, 382, 383, 384, 385, 386, 387, 388, 885, 886, 887, 888, 889, 891, 20, 892, 389, 390, 391, 392, 393] rfl
set_option maxRecDepth 100000 in
set_option maxHeartbeats 2000000 in
theorem lin_r17 : ∀ w ∈ wsL_law_r17, w ∈ lw_tbl := in_places [394, 395, 396, 397, 398, 399, 400, 893, 894, 895, 896, 401, 402, 403, 404, 411, 412, 41, 413, 414, 415, 416, 405, 406] rfl
set_option maxRecDepth 100000 in
set_option maxHeartbeats 2000000 in
theorem lin_r18 : ∀ w ∈ wsL_law_r18, w ∈ lw_tbl := in_places [407, 408, 409, 410, 897, 898, 899, 900, 417, 418, 419, 420, 421, 422, 423, 901, 902, 903, 904, 424, 425, 426, 427, 137] rfl
set_option maxRecDepth 100000 in
set_option maxHeartbeats 2000000 in
theorem lin_r19 : ∀ w ∈ wsL_law_r19, w ∈ lw_tbl := in_places [428, 429, 430, 431, 432, 434, 4, 435, 449, 436, 437, 439, 5, 440, 64, 444, 442, 443, 445, 447, 6, 448, 905, 906] rfl
set_option maxRecDepth 100000 in
set_option maxHeartbeats 2000000 in
theorem lin_r20 : ∀ w ∈ wsL_law_r20, w ∈ lw_tbl := in_places [907, 908, 909, 911, 21, 912, 450, 451, 452, 453, 135, 913, 914, 915, 916, 454, 455, 456, 457, 131, 917, 918, 919, 920] rfl
set_option maxRecDepth 100000 in
set_option maxHeartbeats 2000000 in
theorem lin_r21 : ∀ w ∈ wsL_law_r21, w ∈ lw_tbl := in_places [458, 459, 460, 461, 133, 921, 922, 923, 924, 462, 463, 464, 465, 466, 467, 468, 469, 470, 925, 926, 927, 928, 471, 472] rfl
set_option maxRecDepth 100000 in
set_option maxHeartbeats 2000000 in
theorem lin_r22 : ∀ w ∈ wsL_law_r22, w ∈ lw_tbl := in_places [473, 474, 72, 475, 476, 477, 478, 929, 930, 931, 932, 479, 480, 481, 482, 933, 934, 935, 936, 937, 939, 22, 940, 483] rfl
set_option maxRecDepth 100000 in
set_option maxHeartbeats 2000000 in
theorem lin_r23 : ∀ w ∈ wsL_law_r23, w ∈ lw_tbl := in_places [484, 485, 486, 487, 488, 489, 490, 63, 67, 491, 492, 493, 494, 495, 42, 496, 497, 498, 499, 941, 942, 943, 944, 945] rfl
set_option maxRecDepth 100000 in
set_option maxHeartbeats 2000000 in
theorem lin_r24 : ∀ w ∈ wsL_law_r24, w ∈ lw_tbl := in_places [947, 23, 948, 500, 501, 502, 503, 504, 505, 506, 507, 508, 509, 510, 511, 949, 950, 951, 952, 953, 955, 24, 956, 512] rfl
set_option maxRecDepth 100000 in
set_option maxHeartbeats 2000000 in
theorem lin_r25 : ∀ w ∈ wsL_law_r25, w ∈ lw_tbl := in_places [513, 514, 515, 957, 958, 959, 960, 516, 517, 518, 519, 961, 962, 963, 964, 520, 521, 522, 523, 965, 966, 967, 968, 524] rfl
set_option maxRecDepth 100000 in
set_option maxHeartbeats 2000000 in
theorem lin_r26 : ∀ w ∈ wsL_law_r26, w ∈ lw_tbl := in_places [525, 526, 527, 101, 528, 529, 530, 531, 532, 533, 534, 535, 536, 537, 538, 539, 969, 970, 971, 972, 973, 975, 25, 976] rfl
set_option maxRecDepth 100000 in
set_option maxHeartbeats 2000000 in
theorem lin_r27 : ∀ w ∈ wsL_law_r27, w ∈ lw_tbl := in_places [540, 541, 542, 543, 544, 545, 977, 978, 979, 980, 546, 547, 548, 549, 981, 982, 983, 984, 550, 551, 552, 553, 103, 985] rfl
set_option maxRecDepth 100000 in
set_option maxHeartbeats 2000000 in
theorem lin_r28 : ∀ w ∈ wsL_law_r28, w ∈ lw_tbl := in_places [986, 987, 988, 554, 555, 556, 557, 558, 560, 7, 561, 562, 563, 564, 565, 566, 567, 568, 569, 570, 571, 989, 990, 991] rfl
set_option maxRecDepth 100000 in
set_option maxHeartbeats 2000000 in
theorem lin_r29 : ∀ w ∈ wsL_law_r29, w ∈ lw_tbl := in_places [992, 993, 995, 26, 996, 572, 573, 574, 575, 997, 998, 999, 1000, 576, 577, 578, 579, 1001, 1002, 1003, 1004, 580, 581, 582] rfl
set_option maxRecDepth 100000 in
set_option maxHeartbeats 2000000 in
theorem lin_r30 : ∀ w ∈ wsL_law_r30, w ∈ lw_tbl := in_places [583, 584, 585, 586, 587, 588, 1005, 1006, 1007, 1008, 1009, 1011, 27, 1012, 589, 590, 591, 592, 593, 594, 595, 596, 597, 598] rfl
set_option maxRecDepth 100000 in
set_option maxHeartbeats 2000000 in
theorem lin_r31 : ∀ w ∈ wsL_law_r31, w ∈ lw_tbl := in_places [600, 8, 601, 60, 602, 603, 605, 9, 606, 610, 607, 608, 609, 611, 613, 10, 624, 626, 12, 627, 618, 620, 622, 619] rfl
set_option maxRecDepth 100000 in
set_option maxHeartbeats 2000000 in
theorem lin_r32 : ∀ w ∈ wsL_law_r32, w ∈ lw_tbl := in_places [614, 623, 615, 617, 11, 1013, 1014, 1015, 1016, 1017, 1018, 1019, 1020, 1021, 1022, 628, 629, 630, 631, 632, 633, 634, 635, 636] rfl
set_option maxRecDepth 100000 in
set_option maxHeartbeats 2000000 in
theorem lin_r33 : ∀ w ∈ wsL_law_r33, w ∈ lw_tbl := in_places [1023, 1024, 1025, 1026, 637, 638, 639, 640, 1027, 1028, 1029, 1030, 641, 642, 643, 644, 645, 646, 647, 648, 649, 650, 651, 652] rfl
set_option maxRecDepth 100000 in
set_option maxHeartbeats 2000000 in
theorem lin_r34 : ∀ w ∈ wsL_law_r34, w ∈ lw_tbl := in_places [653, 654, 655, 1031, 1032, 1033, 1034, 1038, 1035, 1036, 1037, 656, 657, 658, 659, 660, 661, 662, 663, 1039, 1040, 1041, 1042, 664] rfl
set_option maxRecDepth 100000 in
set_option maxHeartbeats 2000000 in
theorem lin_r35 : ∀ w ∈ wsL_law_r35, w ∈ lw_tbl := in_places [665, 666, 667, 668, 669, 670, 671, 672, 673, 674, 675, 1043, 1044, 1045, 1046, 1047, 1049, 28, 1050, 676, 677, 678, 679, 680] rfl
set_option maxRecDepth 100000 in
set_option maxHeartbeats 2000000 in
theorem lin_r36 : ∀ w ∈ wsL_law_r36, w ∈ lw_tbl := in_places [681, 682, 683, 684, 1051, 1052, 1053, 1054, 1055, 685, 686, 687, 688, 189, 689, 690, 691, 692, 693, 694, 695, 696, 697, 699] rfl
set_option maxRecDepth 100000 in
set_option maxHeartbeats 2000000 in
theorem lin_r37 : ∀ w ∈ wsL_law_r37, w ∈ lw_tbl := in_places [698, 43, 1056, 1057, 1058, 1059, 700, 701, 702, 703, 191, 1060, 1061, 1062, 1063, 704, 705, 706, 707, 194, 70, 1064, 1065, 1066] rfl
set_option maxRecDepth 100000 in
set_option maxHeartbeats 2000000 in
theorem lin_r38 : ∀ w ∈ wsL_law_r38, w ∈ lw_tbl := in_places [1067, 708, 709, 710, 711, 712, 713, 714, 715, 716, 717, 718, 719, 720, 1068, 1069, 1070, 1071, 746, 747, 748, 751, 721, 722] rfl
set_option maxRecDepth 100000 in
set_option maxHeartbeats 2000000 in
theorem lin_r39 : ∀ w ∈ wsL_law_r39, w ∈ lw_tbl := in_places [723, 724, 1072, 1073, 1074, 1075] rfl
set_option maxRecDepth 100000 in
set_option maxHeartbeats 2000000 in
theorem lin_X0 : ∀ w ∈ wsX00, w ∈ lw_tbl := in_places [76, 78, 80, 82, 84, 86, 88] rfl
set_option maxRecDepth 100000 in
set_option maxHeartbeats 2000000 in
theorem lin_X1 : ∀ w ∈ wsX10, w ∈ lw_tbl := in_places [139, 141, 143, 145, 147, 149, 151] rfl
set_option maxRecDepth 100000 in
set_option maxHeartbeats 2000000 in
theorem lin_X2 : ∀ w ∈ wsX20, w ∈ lw_tbl := in_places [176, 178] rfl
set_option maxRecDepth 100000 in
set_option maxHeartbeats 2000000 in
theorem lin_X3 : ∀ w ∈ wsX30, w ∈ lw_tbl := in_places [104, 106] rfl
set_option maxRecDepth 100000 in
set_option maxHeartbeats 2000000 in
theorem lin_X4 : ∀ w ∈ wsX40, w ∈ lw_tbl := in_places [117, 119] rfl
set_option maxRecDepth 100000 in
set_option maxHeartbeats 2000000 in
theorem lin_X5 : ∀ w ∈ wsX50, w ∈ lw_tbl := in_places [195, 197, 199, 201] rfl
set_option maxRecDepth 100000 in
set_option maxHeartbeats 2000000 in
theorem lin_X6 : ∀ w ∈ wsX60, w ∈ lw_tbl := in_places [162, 164] rfl
set_option maxRecDepth 100000 in
set_option maxHeartbeats 2000000 in
theorem lin_X7 : ∀ w ∈ wsX70, w ∈ lw_tbl := in_places [214, 216, 218, 220, 222, 224, 226, 228, 230, 232] rfl
set_option maxRecDepth 100000 in
set_option maxHeartbeats 2000000 in
theorem lin_X8 : ∀ w ∈ wsX80, w ∈ lw_tbl := in_places [756, 758, 760, 762, 764, 766, 768, 770, 772, 774, 776, 778, 780, 782, 784, 786, 788, 790, 792, 794, 796, 798] rfl
set_option maxRecDepth 100000 in
theorem wsL_law_in : ∀ w ∈ wsL_law, w ∈ lw_tbl := in_app (in_app (in_app (in_app (in_app (in_app (in_app (in_app (in_app (in_app ((in_app lin_r1 (in_app lin_r2 (in_app lin_r3 (in_app lin_r4 (in_app lin_r5 (in_app lin_r6 (in_app lin_r7 (in_app lin_r8 (in_app lin_r9 (in_app lin_r10 (in_app lin_r11 (in_app lin_r12 (in_app lin_r13 (in_app lin_r14 (in_app lin_r15 (in_app lin_r16 (in_app lin_r17 (in_app lin_r18 (in_app lin_r19 (in_app lin_r20 (in_app lin_r21 (in_app lin_r22 (in_app lin_r23 (in_app lin_r24 (in_app lin_r25 (in_app lin_r26 (in_app lin_r27 (in_app lin_r28 (in_app lin_r29 (in_app lin_r30 (in_app lin_r31 (in_app lin_r32 (in_app lin_r33 (in_app lin_r34 (in_app lin_r35 (in_app lin_r36 (in_app lin_r37 (in_app lin_r38 (lin_r39)))))))))))))))))))))))))))))))))))))))) lin_X7) lin_X8) lin_X0) lin_X3) lin_X4) lin_X1) lin_X6) lin_X2) lin_X5) (fun _ h => absurd h List.not_mem_nil)
theorem inX0 : ∀ w ∈ wsX00, w ∈ lw_tbl := lin_X0
theorem inX1 : ∀ w ∈ wsX10, w ∈ lw_tbl := lin_X1
theorem inX2 : ∀ w ∈ wsX20, w ∈ lw_tbl := lin_X2
theorem inX3 : ∀ w ∈ wsX30, w ∈ lw_tbl := lin_X3
theorem inX4 : ∀ w ∈ wsX40, w ∈ lw_tbl := lin_X4
theorem inX5 : ∀ w ∈ wsX50, w ∈ lw_tbl := lin_X5
theorem inX6 : ∀ w ∈ wsX60, w ∈ lw_tbl := lin_X6
theorem inX7 : ∀ w ∈ wsX70, w ∈ lw_tbl := lin_X7
theorem inX8 : ∀ w ∈ wsX80, w ∈ lw_tbl := lin_X8
