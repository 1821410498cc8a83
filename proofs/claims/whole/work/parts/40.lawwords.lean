theorem t_mem_r {big ws : List Cond} (ps : List Nat) (hp : ws = ps.filterMap (fun i => big[i]?)) : ∀ w ∈ ws, w ∈ big := fun w hw => by
  rw [hp] at hw
  obtain ⟨i, -, hi⟩ := List.mem_filterMap.mp hw
  exact List.mem_of_getElem? hi
set_option maxRecDepth 20000 in
theorem tw_wsL_law0_r1 : ∀ w ∈ wsL_law0_r1, w ∈ lw_tbl := t_mem_r [56, 57, 39, 794, 795, 48, 1078, 58, 59, 60, 61, 62, 63, 64, 65, 40, 215, 78, 79, 41, 216, 107, 108, 43] (by decide +kernel)
set_option maxRecDepth 20000 in
theorem tw_wsL_law0_r2 : ∀ w ∈ wsL_law0_r2, w ∈ lw_tbl := t_mem_r [217, 141, 142, 45, 218, 173, 174, 46, 219, 194, 195, 47, 220, 221, 67, 68, 69, 77, 70, 81, 82, 83, 84, 85] (by decide +kernel)
set_option maxRecDepth 20000 in
theorem tw_wsL_law0_r3 : ∀ w ∈ wsL_law0_r3, w ∈ lw_tbl := t_mem_r [42, 97, 98, 86, 87, 88, 89, 90, 91, 110, 111, 112, 113, 114, 44, 125, 123, 126, 127, 128, 115, 116, 117, 118] (by decide +kernel)
set_option maxRecDepth 20000 in
theorem tw_wsL_law0_r4 : ∀ w ∈ wsL_law0_r4, w ∈ lw_tbl := t_mem_r [119, 124, 144, 145, 146, 151, 152, 153, 147, 154, 155, 149, 156, 148, 150, 176, 177, 178, 181, 182, 179, 183, 184, 180] (by decide +kernel)
set_option maxRecDepth 20000 in
theorem tw_wsL_law0_r5 : ∀ w ∈ wsL_law0_r5, w ∈ lw_tbl := t_mem_r [197, 198, 199, 200, 202, 203, 204, 201, 796, 797, 798, 799, 802, 803, 804, 805, 806, 808, 809, 810, 811, 812, 813, 814] (by decide +kernel)
set_option maxRecDepth 20000 in
theorem tw_wsL_law0_r6 : ∀ w ∈ wsL_law0_r6, w ∈ lw_tbl := t_mem_r [815, 816, 817, 820, 459, 460, 38, 461, 462, 463, 464, 465, 466, 467, 468, 469, 470, 471, 52, 539, 541, 13, 542, 543] (by decide +kernel)
set_option maxRecDepth 20000 in
theorem tw_wsL_law0_r7 : ∀ w ∈ wsL_law0_r7, w ∈ lw_tbl := t_mem_r [53, 241, 242, 243, 244, 71, 559, 560, 561, 562, 871, 872, 873, 874, 801, 800, 875, 876, 877, 878, 880, 15, 881, 867] (by decide +kernel)
set_option maxRecDepth 20000 in
theorem tw_wsL_law0_r8 : ∀ w ∈ wsL_law0_r8, w ∈ lw_tbl := t_mem_r [868, 869, 870, 563, 564, 565, 566, 567, 568, 569, 570, 571, 572, 573, 338, 339, 882, 883, 884, 885, 886, 887, 888, 574] (by decide +kernel)
set_option maxRecDepth 20000 in
theorem tw_wsL_law0_r9 : ∀ w ∈ wsL_law0_r9, w ∈ lw_tbl := t_mem_r [575, 576, 577, 578, 579, 580, 581, 582, 583, 584, 889, 890, 891, 892, 893, 237, 238, 239, 240, 245, 246, 247, 248, 249] (by decide +kernel)
set_option maxRecDepth 20000 in
theorem tw_wsL_law0_r10 : ∀ w ∈ wsL_law0_r10, w ∈ lw_tbl := t_mem_r [250, 251, 252, 99, 253, 254, 255, 256, 129, 894, 895, 896, 897, 585, 586, 587, 588, 589, 590, 591, 592, 593, 594, 595] (by decide +kernel)
set_option maxRecDepth 20000 in
theorem tw_wsL_law0_r11 : ∀ w ∈ wsL_law0_r11, w ∈ lw_tbl := t_mem_r [596, 597, 598, 599, 600, 898, 899, 900, 901, 601, 602, 603, 604, 605, 606, 607, 608, 609, 610, 611, 902, 903, 904, 905] (by decide +kernel)
set_option maxRecDepth 20000 in
theorem tw_wsL_law0_r12 : ∀ w ∈ wsL_law0_r12, w ∈ lw_tbl := t_mem_r [612, 613, 614, 615, 616, 617, 618, 619, 620, 621, 622, 906, 907, 908, 909, 807, 257, 258, 259, 260, 910, 911, 912, 913] (by decide +kernel)
set_option maxRecDepth 20000 in
theorem tw_wsL_law0_r13 : ∀ w ∈ wsL_law0_r13, w ∈ lw_tbl := t_mem_r [623, 624, 625, 626, 627, 628, 629, 630, 631, 632, 633, 634, 54, 650, 651, 652, 653, 914, 915, 916, 917, 261, 262, 263] (by decide +kernel)
set_option maxRecDepth 20000 in
theorem tw_wsL_law0_r14 : ∀ w ∈ wsL_law0_r14, w ∈ lw_tbl := t_mem_r [264, 265, 266, 267, 268, 918, 919, 920, 921, 922, 924, 16, 925, 654, 655, 656, 657, 658, 659, 660, 661, 663, 14, 664] (by decide +kernel)
set_option maxRecDepth 20000 in
theorem tw_wsL_law0_r15 : ∀ w ∈ wsL_law0_r15, w ∈ lw_tbl := t_mem_r [665, 439, 440, 441, 442, 443, 444, 445, 290, 292, 2, 293, 926, 927, 928, 929, 930, 932, 17, 933, 934, 936, 18, 937] (by decide +kernel)
set_option maxRecDepth 20000 in
theorem tw_wsL_law0_r16 : ∀ w ∈ wsL_law0_r16, w ∈ lw_tbl := t_mem_r [666, 667, 668, 669, 670, 671, 672, 673, 674, 675, 676, 938, 939, 940, 941, 942, 944, 19, 945, 946, 948, 20, 949, 677] (by decide +kernel)
set_option maxRecDepth 20000 in
theorem tw_wsL_law0_r17 : ∀ w ∈ wsL_law0_r17, w ∈ lw_tbl := t_mem_r [678, 679, 680, 681, 682, 683, 277, 278, 279, 280, 281, 282, 284, 1, 285, 286, 287, 288, 289, 294, 295, 296, 297, 684] (by decide +kernel)
set_option maxRecDepth 20000 in
theorem tw_wsL_law0_r18 : ∀ w ∈ wsL_law0_r18, w ∈ lw_tbl := t_mem_r [396, 397, 398, 319, 320, 321, 322, 950, 951, 952, 953, 954, 956, 21, 957, 685, 686, 687, 688, 689, 690, 691, 692, 333] (by decide +kernel)
set_option maxRecDepth 20000 in
theorem tw_wsL_law0_r19 : ∀ w ∈ wsL_law0_r19, w ∈ lw_tbl := t_mem_r [334, 335, 336, 315, 317, 5, 318, 323, 325, 6, 326, 958, 959, 960, 961, 962, 964, 22, 965, 966, 968, 23, 969, 970] (by decide +kernel)
set_option maxRecDepth 20000 in
theorem tw_wsL_law0_r20 : ∀ w ∈ wsL_law0_r20, w ∈ lw_tbl := t_mem_r [971, 973, 24, 974, 975, 977, 25, 978, 693, 694, 695, 696, 697, 698, 699, 273, 275, 0, 276, 298, 299, 300, 301, 302] (by decide +kernel)
set_option maxRecDepth 20000 in
theorem tw_wsL_law0_r21 : ∀ w ∈ wsL_law0_r21, w ∈ lw_tbl := t_mem_r [304, 3, 305, 306, 308, 4, 309, 310, 311, 312, 313, 314, 327, 328, 329, 330, 331, 332, 340, 341, 342, 343, 344, 345] (by decide +kernel)
set_option maxRecDepth 20000 in
theorem tw_wsL_law0_r22 : ∀ w ∈ wsL_law0_r22, w ∈ lw_tbl := t_mem_r [346, 347, 157, 348, 349, 350, 351, 352, 353, 354, 355, 356, 358, 7, 359, 360, 361, 362, 363, 364, 365, 366, 368, 8] (by decide +kernel)
set_option maxRecDepth 20000 in
theorem tw_wsL_law0_r23 : ∀ w ∈ wsL_law0_r23, w ∈ lw_tbl := t_mem_r [369, 370, 371, 55, 372, 373, 374, 375, 376, 377, 378, 380, 9, 381, 382, 383, 384, 385, 386, 387, 388, 389, 390, 391] (by decide +kernel)
set_option maxRecDepth 20000 in
theorem tw_wsL_law0_r24 : ∀ w ∈ wsL_law0_r24, w ∈ lw_tbl := t_mem_r [392, 393, 394, 400, 401, 402, 403, 404, 405, 395, 406, 407, 409, 10, 410, 411, 418, 419, 420, 412, 414, 11, 415, 416] (by decide +kernel)
set_option maxRecDepth 20000 in
theorem tw_wsL_law0_r25 : ∀ w ∈ wsL_law0_r25, w ∈ lw_tbl := t_mem_r [421, 422, 423, 424, 205, 425, 426, 427, 428, 429, 430, 431, 432, 433, 434, 435, 436, 437, 438, 446, 700, 701, 702, 703] (by decide +kernel)
set_option maxRecDepth 20000 in
theorem tw_wsL_law0_r26 : ∀ w ∈ wsL_law0_r26, w ∈ lw_tbl := t_mem_r [979, 980, 981, 982, 983, 985, 26, 986, 987, 989, 27, 990, 991, 993, 28, 994, 995, 996, 998, 29, 999, 704, 705, 706] (by decide +kernel)
set_option maxRecDepth 20000 in
theorem tw_wsL_law0_r27 : ∀ w ∈ wsL_law0_r27, w ∈ lw_tbl := t_mem_r [707, 708, 709, 710, 711, 1000, 1001, 1002, 1003, 269, 270, 271, 272, 447, 448, 449, 450, 1004, 1005, 1006, 1007, 821, 1008, 1010] (by decide +kernel)
set_option maxRecDepth 20000 in
theorem tw_wsL_law0_r28 : ∀ w ∈ wsL_law0_r28, w ∈ lw_tbl := t_mem_r [30, 1011, 1012, 1013, 1015, 31, 1016, 712, 713, 714, 715, 716, 717, 718, 719, 1017, 1018, 1019, 1020, 720, 721, 722, 723, 724] (by decide +kernel)
set_option maxRecDepth 20000 in
theorem tw_wsL_law0_r29 : ∀ w ∈ wsL_law0_r29, w ∈ lw_tbl := t_mem_r [725, 726, 727, 728, 729, 730, 1021, 1022, 1023, 1024, 1025, 1027, 32, 1028, 731, 732, 733, 734, 735, 736, 737, 738, 739, 740] (by decide +kernel)
set_option maxRecDepth 20000 in
theorem tw_wsL_law0_r30 : ∀ w ∈ wsL_law0_r30, w ∈ lw_tbl := t_mem_r [741, 1029, 1030, 1031, 1032, 818, 1033, 1035, 33, 1036, 819, 1037, 742, 743, 744, 745, 746, 747, 748, 749, 750, 751, 752, 1038] (by decide +kernel)
set_option maxRecDepth 20000 in
theorem tw_wsL_law0_r31 : ∀ w ∈ wsL_law0_r31, w ∈ lw_tbl := t_mem_r [1039, 1040, 1041, 753, 754, 755, 756, 757, 758, 759, 760, 1042, 1043, 1044, 1045, 1046, 1048, 34, 1049, 451, 452, 453, 454, 455] (by decide +kernel)
set_option maxRecDepth 20000 in
theorem tw_wsL_law0_r32 : ∀ w ∈ wsL_law0_r32, w ∈ lw_tbl := t_mem_r [456, 457, 458, 1050, 1051, 1052, 1053, 1054, 1056, 35, 1057, 761, 762, 763, 764, 765, 766, 767, 768, 769, 770, 771, 1058, 1059] (by decide +kernel)
set_option maxRecDepth 20000 in
theorem tw_wsL_law0_r33 : ∀ w ∈ wsL_law0_r33, w ∈ lw_tbl := t_mem_r [1060, 1061, 1062, 1064, 36, 1065, 772, 773, 774, 775, 776, 777, 778, 779, 780, 781, 782, 1066, 1067, 1068, 1069, 1070, 1072, 37] (by decide +kernel)
set_option maxRecDepth 20000 in
theorem tw_wsL_law0_r34 : ∀ w ∈ wsL_law0_r34, w ∈ lw_tbl := t_mem_r [1073, 783, 784, 785, 786, 787, 788, 789, 790, 791, 792, 793, 1074, 1075, 1076, 1077] (by decide +kernel)
set_option maxRecDepth 20000 in
theorem tw_wsX80 : ∀ w ∈ wsX80, w ∈ lw_tbl := t_mem_r [222, 224, 226, 228, 230, 232, 234] (by decide +kernel)
set_option maxRecDepth 20000 in
theorem tw_wsX90 : ∀ w ∈ wsX90, w ∈ lw_tbl := t_mem_r [822, 824, 826, 828, 830, 832, 834, 836, 838, 840, 842, 844, 846, 848, 850, 852, 854, 856, 858, 860, 862, 864] (by decide +kernel)
set_option maxRecDepth 20000 in
theorem tw_wsX50 : ∀ w ∈ wsX50, w ∈ lw_tbl := t_mem_r [72, 74] (by decide +kernel)
set_option maxRecDepth 20000 in
theorem tw_wsX10 : ∀ w ∈ wsX10, w ∈ lw_tbl := t_mem_r [100, 102, 104] (by decide +kernel)
set_option maxRecDepth 20000 in
theorem tw_wsX00 : ∀ w ∈ wsX00, w ∈ lw_tbl := t_mem_r [130, 132, 134, 136, 138] (by decide +kernel)
set_option maxRecDepth 20000 in
theorem tw_wsX70 : ∀ w ∈ wsX70, w ∈ lw_tbl := t_mem_r [158, 160, 162, 164, 166, 168, 170] (by decide +kernel)
set_option maxRecDepth 20000 in
theorem tw_wsX30 : ∀ w ∈ wsX30, w ∈ lw_tbl := t_mem_r [185, 187, 189, 191] (by decide +kernel)
set_option maxRecDepth 20000 in
theorem tw_wsX20 : ∀ w ∈ wsX20, w ∈ lw_tbl := t_mem_r [206, 208, 210, 212] (by decide +kernel)
set_option maxRecDepth 20000 in
theorem tw_wsX60 : ∀ w ∈ wsX60, w ∈ lw_tbl := t_mem_r [92, 94] (by decide +kernel)
set_option maxRecDepth 20000 in
theorem tw_wsX40 : ∀ w ∈ wsX40, w ∈ lw_tbl := t_mem_r [120] (by decide +kernel)
theorem wsL_law_in0 : ∀ w ∈ wsL_law0, w ∈ lw_tbl := by
  unfold wsL_law0
  exact (fun w h => (List.mem_append.mp h).elim ((fun w h => (List.mem_append.mp h).elim ((fun w h => (List.mem_append.mp h).elim ((fun w h => (List.mem_append.mp h).elim ((fun w h => (List.mem_append.mp h).elim ((fun w h => (List.mem_append.mp h).elim ((fun w h => (List.mem_append.mp h).elim ((fun w h => (List.mem_append.mp h).elim ((fun w h => (List.mem_append.mp h).elim ((fun w h => (List.mem_append.mp h).elim ((fun w h => (List.mem_append.mp h).elim ((fun w h => (List.mem_append.mp h).elim (tw_wsL_law0_r1 w) ((fun w h => (List.mem_append.mp h).elim (tw_wsL_law0_r2 w) ((fun w h => (List.mem_append.mp h).elim (tw_wsL_law0_r3 w) ((fun w h => (List.mem_append.mp h).elim (tw_wsL_law0_r4 w) ((fun w h => (List.mem_append.mp h).elim (tw_wsL_law0_r5 w) ((fun w h => (List.mem_append.mp h).elim (tw_wsL_law0_r6 w) ((fun w h => (List.mem_append.mp h).elim (tw_wsL_law0_r7 w) ((fun w h => (List.mem_append.mp h).elim (tw_wsL_law0_r8 w) ((fun w h => (List.mem_append.mp h).elim (tw_wsL_law0_r9 w) ((fun w h => (List.mem_append.mp h).elim (tw_wsL_law0_r10 w) ((fun w h => (List.mem_append.mp h).elim (tw_wsL_law0_r11 w) ((fun w h => (List.mem_append.mp h).elim (tw_wsL_law0_r12 w) ((fun w h => (List.mem_append.mp h).elim (tw_wsL_law0_r13 w) ((fun w h => (List.mem_append.mp h).elim (tw_wsL_law0_r14 w) ((fun w h => (List.mem_append.mp h).elim (tw_wsL_law0_r15 w) ((fun w h => (List.mem_append.mp h).elim (tw_wsL_law0_r16 w) ((fun w h => (List.mem_append.mp h).elim (tw_wsL_law0_r17 w) ((fun w h => (List.mem_append.mp h).elim (tw_wsL_law0_r18 w) ((fun w h => (List.mem_append.mp h).elim (tw_wsL_law0_r19 w) ((fun w h => (List.mem_append.mp h).elim (tw_wsL_law0_r20 w) ((fun w h => (List.mem_append.mp h).elim (tw_wsL_law0_r21 w) ((fun w h => (List.mem_append.mp h).elim (tw_wsL_law0_r22 w) ((fun w h => (List.mem_append.mp h).elim (tw_wsL_law0_r23 w) ((fun w h => (List.mem_append.mp h).elim (tw_wsL_law0_r24 w) ((fun w h => (List.mem_append.mp h).elim (tw_wsL_law0_r25 w) ((fun w h => (List.mem_append.mp h).elim (tw_wsL_law0_r26 w) ((fun w h => (List.mem_append.mp h).elim (tw_wsL_law0_r27 w) ((fun w h => (List.mem_append.mp h).elim (tw_wsL_law0_r28 w) ((fun w h => (List.mem_append.mp h).elim (tw_wsL_law0_r29 w) ((fun w h => (List.mem_append.mp h).elim (tw_wsL_law0_r30 w) ((fun w h => (List.mem_append.mp h).elim (tw_wsL_law0_r31 w) ((fun w h => (List.mem_append.mp h).elim (tw_wsL_law0_r32 w) ((fun w h => (List.mem_append.mp h).elim (tw_wsL_law0_r33 w) (tw_wsL_law0_r34 w)) w)) w)) w)) w)) w)) w)) w)) w)) w)) w)) w)) w)) w)) w)) w)) w)) w)) w)) w)) w)) w)) w)) w)) w)) w)) w)) w)) w)) w)) w)) w)) w)) w) (tw_wsX80 w)) w) (tw_wsX90 w)) w) (tw_wsX50 w)) w) (tw_wsX10 w)) w) (tw_wsX00 w)) w) (tw_wsX70 w)) w) (tw_wsX30 w)) w) (tw_wsX20 w)) w) (tw_wsX60 w)) w) (tw_wsX40 w)) w) ((fun _ h => absurd h List.not_mem_nil) w))
theorem wsL_law_x0 : ∀ w ∈ (vx_atS RX8 168 "java/lang/IllegalArgumentException" ["java/lang/RuntimeException", "java/lang/Exception"]).filter goodWord, w ∈ lw_tbl := by decide +kernel
theorem wsL_law_x1 : ∀ w ∈ (vx_atS RX8 180 "java/lang/IllegalStateException" ["java/lang/RuntimeException", "java/lang/Exception"]).filter goodWord, w ∈ lw_tbl := by decide +kernel
theorem wsL_law_x2 : ∀ w ∈ (vx_atS RX8 175 "java/lang/IndexOutOfBoundsException" ["java/lang/RuntimeException", "java/lang/Exception"]).filter goodWord, w ∈ lw_tbl := by decide +kernel
theorem wsL_law_in : ∀ w ∈ wsL_law, w ∈ lw_tbl := fun w h => (List.mem_append.mp h).elim (fun h => (List.mem_append.mp h).elim (fun h => (List.mem_append.mp h).elim (fun h => wsL_law_in0 w h) (fun h => wsL_law_x0 w h)) (fun h => wsL_law_x1 w h)) (fun h => wsL_law_x2 w h)
theorem inlX0 : ∀ w ∈ wsX00, w ∈ wsL_law := fun _ h => List.mem_append_left _ (List.mem_append_left _ (List.mem_append_left _ (List.mem_append_left _ (List.mem_append_left _ (List.mem_append_left _ (List.mem_append_left _ (List.mem_append_left _ (List.mem_append_left _ (List.mem_append_right _ h)))))))))
theorem inX0 : ∀ w ∈ wsX00, w ∈ lw_tbl := fun w h => wsL_law_in w (inlX0 w h)
theorem inlX1 : ∀ w ∈ wsX10, w ∈ wsL_law := fun _ h => List.mem_append_left _ (List.mem_append_left _ (List.mem_append_left _ (List.mem_append_left _ (List.mem_append_left _ (List.mem_append_left _ (List.mem_append_left _ (List.mem_append_left _ (List.mem_append_left _ (List.mem_append_left _ (List.mem_append_right _ h))))))))))
theorem inX1 : ∀ w ∈ wsX10, w ∈ lw_tbl := fun w h => wsL_law_in w (inlX1 w h)
theorem inlX2 : ∀ w ∈ wsX20, w ∈ wsL_law := fun _ h => List.mem_append_left _ (List.mem_append_left _ (List.mem_append_left _ (List.mem_append_left _ (List.mem_append_left _ (List.mem_append_left _ (List.mem_append_right _ h))))))
theorem inX2 : ∀ w ∈ wsX20, w ∈ lw_tbl := fun w h => wsL_law_in w (inlX2 w h)
theorem inlX3 : ∀ w ∈ wsX30, w ∈ wsL_law := fun _ h => List.mem_append_left _ (List.mem_append_left _ (List.mem_append_left _ (List.mem_append_left _ (List.mem_append_left _ (List.mem_append_left _ (List.mem_append_left _ (List.mem_append_right _ h)))))))
theorem inX3 : ∀ w ∈ wsX30, w ∈ lw_tbl := fun w h => wsL_law_in w (inlX3 w h)
theorem inlX4 : ∀ w ∈ wsX40, w ∈ wsL_law := fun _ h => List.mem_append_left _ (List.mem_append_left _ (List.mem_append_left _ (List.mem_append_left _ (List.mem_append_right _ h))))
theorem inX4 : ∀ w ∈ wsX40, w ∈ lw_tbl := fun w h => wsL_law_in w (inlX4 w h)
theorem inlX5 : ∀ w ∈ wsX50, w ∈ wsL_law := fun _ h => List.mem_append_left _ (List.mem_append_left _ (List.mem_append_left _ (List.mem_append_left _ (List.mem_append_left _ (List.mem_append_left _ (List.mem_append_left _ (List.mem_append_left _ (List.mem_append_left _ (List.mem_append_left _ (List.mem_append_left _ (List.mem_append_right _ h)))))))))))
theorem inX5 : ∀ w ∈ wsX50, w ∈ lw_tbl := fun w h => wsL_law_in w (inlX5 w h)
theorem inlX6 : ∀ w ∈ wsX60, w ∈ wsL_law := fun _ h => List.mem_append_left _ (List.mem_append_left _ (List.mem_append_left _ (List.mem_append_left _ (List.mem_append_left _ (List.mem_append_right _ h)))))
theorem inX6 : ∀ w ∈ wsX60, w ∈ lw_tbl := fun w h => wsL_law_in w (inlX6 w h)
theorem inlX7 : ∀ w ∈ wsX70, w ∈ wsL_law := fun _ h => List.mem_append_left _ (List.mem_append_left _ (List.mem_append_left _ (List.mem_append_left _ (List.mem_append_left _ (List.mem_append_left _ (List.mem_append_left _ (List.mem_append_left _ (List.mem_append_right _ h))))))))
theorem inX7 : ∀ w ∈ wsX70, w ∈ lw_tbl := fun w h => wsL_law_in w (inlX7 w h)
theorem inlX8 : ∀ w ∈ wsX80, w ∈ wsL_law := fun _ h => List.mem_append_left _ (List.mem_append_left _ (List.mem_append_left _ (List.mem_append_left _ (List.mem_append_left _ (List.mem_append_left _ (List.mem_append_left _ (List.mem_append_left _ (List.mem_append_left _ (List.mem_append_left _ (List.mem_append_left _ (List.mem_append_left _ (List.mem_append_left _ (List.mem_append_right _ h)))))))))))))
theorem inX8 : ∀ w ∈ wsX80, w ∈ lw_tbl := fun w h => wsL_law_in w (inlX8 w h)
theorem inlX9 : ∀ w ∈ wsX90, w ∈ wsL_law := fun _ h => List.mem_append_left _ (List.mem_append_left _ (List.mem_append_left _ (List.mem_append_left _ (List.mem_append_left _ (List.mem_append_left _ (List.mem_append_left _ (List.mem_append_left _ (List.mem_append_left _ (List.mem_append_left _ (List.mem_append_left _ (List.mem_append_left _ (List.mem_append_right _ h))))))))))))
theorem inX9 : ∀ w ∈ wsX90, w ∈ lw_tbl := fun w h => wsL_law_in w (inlX9 w h)
theorem inJ9 : ∀ w ∈ wsJ90, w ∈ lw_tbl := by decide +kernel
theorem inJ0 : ∀ w ∈ wsJ00, w ∈ lw_tbl := by decide +kernel
