theorem t_mem_r {big ws : List Cond} (ps : List Nat) (hp : ws = ps.filterMap (fun i => big[i]?)) : ∀ w ∈ ws, w ∈ big := fun w hw => by
  rw [hp] at hw
  obtain ⟨i, -, hi⟩ := List.mem_filterMap.mp hw
  exact List.mem_of_getElem? hi
set_option maxRecDepth 20000 in
theorem tw_wsL_law0_r1 : ∀ w ∈ wsL_law0_r1, w ∈ lw_tbl := t_mem_r [56, 57, 39, 798, 799, 48, 1082, 58, 59, 60, 61, 62, 63, 64, 65, 40, 217, 78, 79, 41, 218, 117, 118, 44] (by decide +kernel)
set_option maxRecDepth 20000 in
theorem tw_wsL_law0_r2 : ∀ w ∈ wsL_law0_r2, w ∈ lw_tbl := t_mem_r [219, 143, 144, 45, 220, 175, 176, 46, 221, 196, 197, 47, 222, 223, 67, 68, 69, 77, 70, 81, 82, 83, 84, 85] (by decide +kernel)
set_option maxRecDepth 20000 in
theorem tw_wsL_law0_r3 : ∀ w ∈ wsL_law0_r3, w ∈ lw_tbl := t_mem_r [42, 107, 108, 86, 87, 88, 89, 100, 90, 91, 43, 101, 92, 93, 94, 95, 96, 120, 121, 122, 123, 127, 125, 128] (by decide +kernel)
set_option maxRecDepth 20000 in
theorem tw_wsL_law0_r4 : ∀ w ∈ wsL_law0_r4, w ∈ lw_tbl := t_mem_r [129, 130, 124, 126, 146, 147, 148, 153, 154, 155, 149, 156, 157, 151, 158, 150, 152, 178, 179, 180, 183, 184, 181, 185] (by decide +kernel)
set_option maxRecDepth 20000 in
theorem tw_wsL_law0_r5 : ∀ w ∈ wsL_law0_r5, w ∈ lw_tbl := t_mem_r [186, 182, 199, 200, 201, 202, 204, 205, 206, 203, 800, 801, 802, 803, 806, 807, 808, 809, 810, 812, 813, 814, 815, 816] (by decide +kernel)
set_option maxRecDepth 20000 in
theorem tw_wsL_law0_r6 : ∀ w ∈ wsL_law0_r6, w ∈ lw_tbl := t_mem_r [817, 818, 819, 820, 821, 824, 463, 464, 38, 465, 466, 467, 468, 469, 470, 471, 472, 473, 474, 475, 52, 543, 545, 13] (by decide +kernel)
set_option maxRecDepth 20000 in
theorem tw_wsL_law0_r7 : ∀ w ∈ wsL_law0_r7, w ∈ lw_tbl := t_mem_r [546, 547, 53, 243, 244, 245, 246, 71, 563, 564, 565, 566, 875, 876, 877, 878, 805, 804, 879, 880, 881, 882, 884, 15] (by decide +kernel)
set_option maxRecDepth 20000 in
theorem tw_wsL_law0_r8 : ∀ w ∈ wsL_law0_r8, w ∈ lw_tbl := t_mem_r [885, 871, 872, 873, 874, 567, 568, 569, 570, 571, 572, 573, 574, 575, 576, 577, 348, 349, 886, 887, 888, 889, 890, 891] (by decide +kernel)
set_option maxRecDepth 20000 in
theorem tw_wsL_law0_r9 : ∀ w ∈ wsL_law0_r9, w ∈ lw_tbl := t_mem_r [892, 578, 579, 580, 581, 582, 583, 584, 585, 586, 587, 588, 893, 894, 895, 896, 897, 239, 240, 241, 242, 247, 248, 249] (by decide +kernel)
set_option maxRecDepth 20000 in
theorem tw_wsL_law0_r10 : ∀ w ∈ wsL_law0_r10, w ∈ lw_tbl := t_mem_r [250, 251, 252, 253, 254, 109, 255, 256, 257, 258, 131, 898, 899, 900, 901, 589, 590, 591, 592, 593, 594, 595, 596, 597] (by decide +kernel)
set_option maxRecDepth 20000 in
theorem tw_wsL_law0_r11 : ∀ w ∈ wsL_law0_r11, w ∈ lw_tbl := t_mem_r [598, 599, 600, 601, 602, 603, 604, 902, 903, 904, 905, 605, 606, 607, 608, 609, 610, 611, 612, 613, 614, 615, 906, 907] (by decide +kernel)
set_option maxRecDepth 20000 in
theorem tw_wsL_law0_r12 : ∀ w ∈ wsL_law0_r12, w ∈ lw_tbl := t_mem_r [908, 909, 616, 617, 618, 619, 620, 621, 622, 623, 624, 625, 626, 910, 911, 912, 913, 811, 259, 260, 261, 262, 914, 915] (by decide +kernel)
set_option maxRecDepth 20000 in
theorem tw_wsL_law0_r13 : ∀ w ∈ wsL_law0_r13, w ∈ lw_tbl := t_mem_r [916, 917, 627, 628, 629, 630, 631, 632, 633, 634, 635, 636, 637, 638, 54, 654, 655, 656, 657, 918, 919, 920, 921, 263] (by decide +kernel)
set_option maxRecDepth 20000 in
theorem tw_wsL_law0_r14 : ∀ w ∈ wsL_law0_r14, w ∈ lw_tbl := t_mem_r [264, 265, 266, 267, 268, 269, 270, 922, 923, 924, 925, 926, 928, 16, 929, 658, 659, 660, 661, 662, 663, 664, 665, 667] (by decide +kernel)
set_option maxRecDepth 20000 in
theorem tw_wsL_law0_r15 : ∀ w ∈ wsL_law0_r15, w ∈ lw_tbl := t_mem_r [14, 668, 669, 443, 444, 445, 446, 447, 448, 449, 292, 294, 2, 295, 930, 931, 932, 933, 934, 936, 17, 937, 938, 940] (by decide +kernel)
set_option maxRecDepth 20000 in
theorem tw_wsL_law0_r16 : ∀ w ∈ wsL_law0_r16, w ∈ lw_tbl := t_mem_r [18, 941, 670, 671, 672, 673, 674, 675, 676, 677, 678, 679, 680, 942, 943, 944, 945, 946, 948, 19, 949, 950, 952, 20] (by decide +kernel)
set_option maxRecDepth 20000 in
theorem tw_wsL_law0_r17 : ∀ w ∈ wsL_law0_r17, w ∈ lw_tbl := t_mem_r [953, 681, 682, 683, 684, 685, 686, 687, 279, 280, 281, 282, 283, 284, 286, 1, 287, 288, 289, 290, 291, 296, 297, 298] (by decide +kernel)
set_option maxRecDepth 20000 in
theorem tw_wsL_law0_r18 : ∀ w ∈ wsL_law0_r18, w ∈ lw_tbl := t_mem_r [299, 300, 301, 302, 303, 688, 400, 401, 402, 325, 326, 327, 328, 329, 330, 331, 332, 954, 955, 956, 957, 958, 960, 21] (by decide +kernel)
set_option maxRecDepth 20000 in
theorem tw_wsL_law0_r19 : ∀ w ∈ wsL_law0_r19, w ∈ lw_tbl := t_mem_r [961, 689, 690, 691, 692, 693, 694, 695, 696, 343, 344, 345, 346, 321, 323, 5, 324, 333, 335, 6, 336, 962, 963, 964] (by decide +kernel)
set_option maxRecDepth 20000 in
theorem tw_wsL_law0_r20 : ∀ w ∈ wsL_law0_r20, w ∈ lw_tbl := t_mem_r [965, 966, 968, 22, 969, 970, 972, 23, 973, 974, 975, 977, 24, 978, 979, 981, 25, 982, 697, 698, 699, 700, 701, 702] (by decide +kernel)
set_option maxRecDepth 20000 in
theorem tw_wsL_law0_r21 : ∀ w ∈ wsL_law0_r21, w ∈ lw_tbl := t_mem_r [703, 275, 277, 0, 278, 304, 305, 306, 307, 308, 310, 3, 311, 312, 314, 4, 315, 316, 317, 318, 319, 320, 337, 338] (by decide +kernel)
set_option maxRecDepth 20000 in
theorem tw_wsL_law0_r22 : ∀ w ∈ wsL_law0_r22, w ∈ lw_tbl := t_mem_r [339, 340, 341, 342, 350, 351, 352, 353, 354, 159, 355, 356, 357, 358, 359, 360, 362, 7, 363, 364, 365, 366, 367, 368] (by decide +kernel)
set_option maxRecDepth 20000 in
theorem tw_wsL_law0_r23 : ∀ w ∈ wsL_law0_r23, w ∈ lw_tbl := t_mem_r [369, 370, 372, 8, 373, 374, 375, 55, 376, 377, 378, 379, 380, 381, 382, 384, 9, 385, 386, 387, 388, 389, 390, 391] (by decide +kernel)
set_option maxRecDepth 20000 in
theorem tw_wsL_law0_r24 : ∀ w ∈ wsL_law0_r24, w ∈ lw_tbl := t_mem_r [392, 393, 394, 395, 396, 397, 398, 404, 405, 406, 407, 408, 409, 399, 410, 411, 413, 10, 414, 415, 422, 423, 424, 416] (by decide +kernel)
set_option maxRecDepth 20000 in
theorem tw_wsL_law0_r25 : ∀ w ∈ wsL_law0_r25, w ∈ lw_tbl := t_mem_r [418, 11, 419, 420, 425, 426, 427, 428, 207, 429, 430, 431, 432, 433, 434, 435, 436, 437, 438, 439, 440, 441, 442, 450] (by decide +kernel)
set_option maxRecDepth 20000 in
theorem tw_wsL_law0_r26 : ∀ w ∈ wsL_law0_r26, w ∈ lw_tbl := t_mem_r [704, 705, 706, 707, 983, 984, 985, 986, 987, 989, 26, 990, 991, 993, 27, 994, 995, 997, 28, 998, 999, 1000, 1002, 29] (by decide +kernel)
set_option maxRecDepth 20000 in
theorem tw_wsL_law0_r27 : ∀ w ∈ wsL_law0_r27, w ∈ lw_tbl := t_mem_r [1003, 708, 709, 710, 711, 712, 713, 714, 715, 1004, 1005, 1006, 1007, 271, 272, 273, 274, 451, 452, 453, 454, 1008, 1009, 1010] (by decide +kernel)
set_option maxRecDepth 20000 in
theorem tw_wsL_law0_r28 : ∀ w ∈ wsL_law0_r28, w ∈ lw_tbl := t_mem_r [1011, 825, 1012, 1014, 30, 1015, 1016, 1017, 1019, 31, 1020, 716, 717, 718, 719, 720, 721, 722, 723, 1021, 1022, 1023, 1024, 724] (by decide +kernel)
set_option maxRecDepth 20000 in
theorem tw_wsL_law0_r29 : ∀ w ∈ wsL_law0_r29, w ∈ lw_tbl := t_mem_r [725, 726, 727, 728, 729, 730, 731, 732, 733, 734, 1025, 1026, 1027, 1028, 1029, 1031, 32, 1032, 735, 736, 737, 738, 739, 740] (by decide +kernel)
set_option maxRecDepth 20000 in
theorem tw_wsL_law0_r30 : ∀ w ∈ wsL_law0_r30, w ∈ lw_tbl := t_mem_r [741, 742, 743, 744, 745, 1033, 1034, 1035, 1036, 822, 1037, 1039, 33, 1040, 823, 1041, 746, 747, 748, 749, 750, 751, 752, 753] (by decide +kernel)
set_option maxRecDepth 20000 in
theorem tw_wsL_law0_r31 : ∀ w ∈ wsL_law0_r31, w ∈ lw_tbl := t_mem_r [754, 755, 756, 1042, 1043, 1044, 1045, 757, 758, 759, 760, 761, 762, 763, 764, 1046, 1047, 1048, 1049, 1050, 1052, 34, 1053, 455] (by decide +kernel)
set_option maxRecDepth 20000 in
theorem tw_wsL_law0_r32 : ∀ w ∈ wsL_law0_r32, w ∈ lw_tbl := t_mem_r [456, 457, 458, 459, 460, 461, 462, 1054, 1055, 1056, 1057, 1058, 1060, 35, 1061, 765, 766, 767, 768, 769, 770, 771, 772, 773] (by decide +kernel)
set_option maxRecDepth 20000 in
theorem tw_wsL_law0_r33 : ∀ w ∈ wsL_law0_r33, w ∈ lw_tbl := t_mem_r [774, 775, 1062, 1063, 1064, 1065, 1066, 1068, 36, 1069, 776, 777, 778, 779, 780, 781, 782, 783, 784, 785, 786, 1070, 1071, 1072] (by decide +kernel)
set_option maxRecDepth 20000 in
theorem tw_wsL_law0_r34 : ∀ w ∈ wsL_law0_r34, w ∈ lw_tbl := t_mem_r [1073, 1074, 1076, 37, 1077, 787, 788, 789, 790, 791, 792, 793, 794, 795, 796, 797, 1078, 1079, 1080, 1081] (by decide +kernel)
set_option maxRecDepth 20000 in
theorem tw_wsX80 : ∀ w ∈ wsX80, w ∈ lw_tbl := t_mem_r [224, 226, 228, 230, 232, 234, 236] (by decide +kernel)
set_option maxRecDepth 20000 in
theorem tw_wsX90 : ∀ w ∈ wsX90, w ∈ lw_tbl := t_mem_r [826, 828, 830, 832, 834, 836, 838, 840, 842, 844, 846, 848, 850, 852, 854, 856, 858, 860, 862, 864, 866, 868] (by decide +kernel)
set_option maxRecDepth 20000 in
theorem tw_wsX50 : ∀ w ∈ wsX50, w ∈ lw_tbl := t_mem_r [72, 74] (by decide +kernel)
set_option maxRecDepth 20000 in
theorem tw_wsX10 : ∀ w ∈ wsX10, w ∈ lw_tbl := t_mem_r [110, 112, 114] (by decide +kernel)
set_option maxRecDepth 20000 in
theorem tw_wsX00 : ∀ w ∈ wsX00, w ∈ lw_tbl := t_mem_r [132, 134, 136, 138, 140] (by decide +kernel)
set_option maxRecDepth 20000 in
theorem tw_wsX70 : ∀ w ∈ wsX70, w ∈ lw_tbl := t_mem_r [160, 162, 164, 166, 168, 170, 172] (by decide +kernel)
set_option maxRecDepth 20000 in
theorem tw_wsX30 : ∀ w ∈ wsX30, w ∈ lw_tbl := t_mem_r [187, 189, 191, 193] (by decide +kernel)
set_option maxRecDepth 20000 in
theorem tw_wsX20 : ∀ w ∈ wsX20, w ∈ lw_tbl := t_mem_r [208, 210, 212, 214] (by decide +kernel)
set_option maxRecDepth 20000 in
theorem tw_wsX60 : ∀ w ∈ wsX60, w ∈ lw_tbl := t_mem_r [102, 104] (by decide +kernel)
set_option maxRecDepth 20000 in
theorem tw_wsX40 : ∀ w ∈ wsX40, w ∈ lw_tbl := t_mem_r [97] (by decide +kernel)
theorem wsL_law_in0 : ∀ w ∈ wsL_law0, w ∈ lw_tbl := by
  unfold wsL_law0
  exact (fun w h => (List.mem_append.mp h).elim ((fun w h => (List.mem_append.mp h).elim ((fun w h => (List.mem_append.mp h).elim ((fun w h => (List.mem_append.mp h).elim ((fun w h => (List.mem_append.mp h).elim ((fun w h => (List.mem_append.mp h).elim ((fun w h => (List.mem_append.mp h).elim ((fun w h => (List.mem_append.mp h).elim ((fun w h => (List.mem_append.mp h).elim ((fun w h => (List.mem_append.mp h).elim ((fun w h => (List.mem_append.mp h).elim ((fun w h => (List.mem_append.mp h).elim (tw_wsL_law0_r1 w) ((fun w h => (List.mem_append.mp h).elim (tw_wsL_law0_r2 w) ((fun w h => (List.mem_append.mp h).elim (tw_wsL_law0_r3 w) ((fun w h => (List.mem_append.mp h).elim (tw_wsL_law0_r4 w) ((fun w h => (List.mem_append.mp h).elim (tw_wsL_law0_r5 w) ((fun w h => (List.mem_append.mp h).elim (tw_wsL_law0_r6 w) ((fun w h => (List.mem_append.mp h).elim (tw_wsL_law0_r7 w) ((fun w h => (List.mem_append.mp h).elim (tw_wsL_law0_r8 w) ((fun w h => (List.mem_append.mp h).elim (tw_wsL_law0_r9 w) ((fun w h => (List.mem_append.mp h).elim (tw_wsL_law0_r10 w) ((fun w h => (List.mem_append.mp h).elim (tw_wsL_law0_r11 w) ((fun w h => (List.mem_append.mp h).elim (tw_wsL_law0_r12 w) ((fun w h => (List.mem_append.mp h).elim (tw_wsL_law0_r13 w) ((fun w h => (List.mem_append.mp h).elim (tw_wsL_law0_r14 w) ((fun w h => (List.mem_append.mp h).elim (tw_wsL_law0_r15 w) ((fun w h => (List.mem_append.mp h).elim (tw_wsL_law0_r16 w) ((fun w h => (List.mem_append.mp h).elim (tw_wsL_law0_r17 w) ((fun w h => (List.mem_append.mp h).elim (tw_wsL_law0_r18 w) ((fun w h => (List.mem_append.mp h).elim (tw_wsL_law0_r19 w) ((fun w h => (List.mem_append.mp h).elim (tw_wsL_law0_r20 w) ((fun w h => (List.mem_append.mp h).elim (tw_wsL_law0_r21 w) ((fun w h => (List.mem_append.mp h).elim (tw_wsL_law0_r22 w) ((fun w h => (List.mem_append.mp h).elim (tw_wsL_law0_r23 w) ((fun w h => (List.mem_append.mp h).elim (tw_wsL_law0_r24 w) ((fun w h => (List.mem_append.mp h).elim (tw_wsL_law0_r25 w) ((fun w h => (List.mem_append.mp h).elim (tw_wsL_law0_r26 w) ((fun w h => (List.mem_append.mp h).elim (tw_wsL_law0_r27 w) ((fun w h => (List.mem_append.mp h).elim (tw_wsL_law0_r28 w) ((fun w h => (List.mem_append.mp h).elim (tw_wsL_law0_r29 w) ((fun w h => (List.mem_append.mp h).elim (tw_wsL_law0_r30 w) ((fun w h => (List.mem_append.mp h).elim (tw_wsL_law0_r31 w) ((fun w h => (List.mem_append.mp h).elim (tw_wsL_law0_r32 w) ((fun w h => (List.mem_append.mp h).elim (tw_wsL_law0_r33 w) (tw_wsL_law0_r34 w)) w)) w)) w)) w)) w)) w)) w)) w)) w)) w)) w)) w)) w)) w)) w)) w)) w)) w)) w)) w)) w)) w)) w)) w)) w)) w)) w)) w)) w)) w)) w)) w)) w) (tw_wsX80 w)) w) (tw_wsX90 w)) w) (tw_wsX50 w)) w) (tw_wsX10 w)) w) (tw_wsX00 w)) w) (tw_wsX70 w)) w) (tw_wsX30 w)) w) (tw_wsX20 w)) w) (tw_wsX60 w)) w) (tw_wsX40 w)) w) ((fun _ h => absurd h List.not_mem_nil) w))
theorem wsL_law_x0 : ∀ w ∈ (vx_atS RX8 168 "java/lang/IllegalArgumentException" ["java/lang/RuntimeException", "java/lang/Exception"]).filter goodWord, w ∈ lw_tbl := by decide +kernel
theorem wsL_law_x1 : ∀ w ∈ (vx_atS RX8 180 "java/lang/IllegalStateException" ["java/lang/RuntimeException", "java/lang/Exception"]).filter goodWord, w ∈ lw_tbl := by decide +kernel
theorem wsL_law_x2 : ∀ w ∈ (vx_atS RX8 175 "java/lang/IndexOutOfBoundsException" ["java/lang/RuntimeException", "java/lang/Exception"]).filter goodWord, w ∈ lw_tbl := by decide +kernel
theorem wsL_law_in : ∀ w ∈ wsL_law, w ∈ lw_tbl := fun w h => (List.mem_append.mp h).elim (fun h => (List.mem_append.mp h).elim (fun h => (List.mem_append.mp h).elim (fun h => wsL_law_in0 w h) (fun h => wsL_law_x0 w h)) (fun h => wsL_law_x1 w h)) (fun h => wsL_law_x2 w h)
theorem inlX0 : ∀ w ∈ wsX00, w ∈ wsL_law := fun _ h => List.mem_append_left _ (List.mem_append_left _ (List.mem_append_left _ (List.mem_append_left _ (List.mem_append_left _ (List.mem_append_left _ (List.mem_append_left _ (List.mem_append_left _ (List.mem_append_left _ (List.mem_append_right _ h)))))))))
theorem inX0 : ∀ w ∈ wsX00, w ∈ lw_tbl := fun w h => wsL_law_in w (inlX0 w h)
theorem inlX1 : ∀ w ∈ wsX10, w ∈ wsL_law := fun _ h => List.mem_append_left _ (List.mem_append_left _ (List.mem_append_left _ (List.mem_append_left _ (List.mem_append_left _ (List.mem_append_left _ (List.mem_append_left _ (List.mem_append_left _ (List.mem_append_left _ (List.mem_append_left _ (List.mem_append_right _ h))))))))))
theorem inX1 : ∀ w ∈ wsX10, w ∈ lw_tbl := fun w h => wsL_law_in w (inlX1 w h)
theorem inlX2 : ∀ w ∈ wsX20, w ∈ wsL_law := fun _ h => List.mem_append_left _ (List.mem_append_left _ (List.mem_append_left _ (List.mem_append_left _ (List.mem_append_left _ (List.mem_append_left _ (List.mem_append_right _ h))))))
theorem inX2 : ∀ w ∈ wsX20, w ∈ lw_tbl := fun w h => wsL_law_in w (inlX2 w h)
theorem inlX3 : ∀ w ∈ wsX30, w ∈ wsL_law := fun _ h => List.mem_append_left _ (List.mem_append_left _ (List.mem_append_left _ (List.mem_append_left _ (List.mem_append_left _ (List.mem_append_left _ (List.mem_append_left _ (List.mem_append_right _ h)))))))
theorem inX3 : ∀ w ∈ wsX30, w ∈ lw_tbl := fun w h => wsL_law_in w (inlX3 w h)
theorem inlX4 : ∀ w ∈ wsX40, w ∈ wsL_law := fun _ h => List.mem_append_left _ (List.mem_append_left _ (List.mem_append_left _ (List.mem_append_left _ (List.mem_append_right _ h))))
theorem inX4 : ∀ w ∈ wsX40, w ∈ lw_tbl := fun w h => wsL_law_in w (inlX4 w h)
theorem inlX5 : ∀ w ∈ wsX50, w ∈ wsL_law := fun _ h => List.mem_append_left _ (List.mem_append_left _ (List.mem_append_left _ (List.mem_append_left _ (List.mem_append_left _ (List.mem_append_left _ (List.mem_append_left _ (List.mem_append_left _ (List.mem_append_left _ (List.mem_append_left _ (List.mem_append_left _ (List.mem_append_right _ h)))))))))))
theorem inX5 : ∀ w ∈ wsX50, w ∈ lw_tbl := fun w h => wsL_law_in w (inlX5 w h)
theorem inlX6 : ∀ w ∈ wsX60, w ∈ wsL_law := fun _ h => List.mem_append_left _ (List.mem_append_left _ (List.mem_append_left _ (List.mem_append_left _ (List.mem_append_left _ (List.mem_append_right _ h)))))
theorem inX6 : ∀ w ∈ wsX60, w ∈ lw_tbl := fun w h => wsL_law_in w (inlX6 w h)
theorem inlX7 : ∀ w ∈ wsX70, w ∈ wsL_law := fun _ h => List.mem_append_left _ (List.mem_append_left _ (List.mem_append_left _ (List.mem_append_left _ (List.mem_append_left _ (List.mem_append_left _ (List.mem_append_left _ (List.mem_append_left _ (List.mem_append_right _ h))))))))
theorem inX7 : ∀ w ∈ wsX70, w ∈ lw_tbl := fun w h => wsL_law_in w (inlX7 w h)
theorem inlX8 : ∀ w ∈ wsX80, w ∈ wsL_law := fun _ h => List.mem_append_left _ (List.mem_append_left _ (List.mem_append_left _ (List.mem_append_left _ (List.mem_append_left _ (List.mem_append_left _ (List.mem_append_left _ (List.mem_append_left _ (List.mem_append_left _ (List.mem_append_left _ (List.mem_append_left _ (List.mem_append_left _ (List.mem_append_left _ (List.mem_append_right _ h)))))))))))))
theorem inX8 : ∀ w ∈ wsX80, w ∈ lw_tbl := fun w h => wsL_law_in w (inlX8 w h)
theorem inlX9 : ∀ w ∈ wsX90, w ∈ wsL_law := fun _ h => List.mem_append_left _ (List.mem_append_left _ (List.mem_append_left _ (List.mem_append_left _ (List.mem_append_left _ (List.mem_append_left _ (List.mem_append_left _ (List.mem_append_left _ (List.mem_append_left _ (List.mem_append_left _ (List.mem_append_left _ (List.mem_append_left _ (List.mem_append_right _ h))))))))))))
theorem inX9 : ∀ w ∈ wsX90, w ∈ lw_tbl := fun w h => wsL_law_in w (inlX9 w h)
theorem inJ9 : ∀ w ∈ wsJ90, w ∈ lw_tbl := by decide +kernel
theorem inJ0 : ∀ w ∈ wsJ00, w ∈ lw_tbl := by decide +kernel
