set_option maxRecDepth 20000 in
theorem ggX8_init_X5_init : GoodIn wsX8_init wsX5_init := goodIn_r _ [30, 31, 2, 3, 32, 33, 95, 96] (by decide +kernel) (by decide +kernel)
set_option maxRecDepth 20000 in
theorem gX8_init_X5_init_n9 : GoodIn wsX8_init (wsX5_init) := ggX8_init_X5_init
set_option maxRecDepth 20000 in
theorem ggX8_init_X1_init : GoodIn wsX8_init wsX1_init := goodIn_r _ [35, 36, 2, 3, 37, 38, 39, 40, 41, 42, 43, 44, 45, 46, 32, 47, 127, 128, 104, 105, 106] (by decide +kernel) (by decide +kernel)
set_option maxRecDepth 20000 in
theorem gX8_init_X1_init_n18 : GoodIn wsX8_init (wsX1_init) := ggX8_init_X1_init
set_option maxRecDepth 20000 in
theorem ggX8_init_X0_init : GoodIn wsX8_init wsX0_init := goodIn_r _ [49, 50, 2, 3, 51, 52, 53, 54, 55, 38, 39, 56, 57, 58, 59, 60, 61, 62, 32, 63, 64, 43, 44, 45, 46, 47, 129, 107, 108, 109, 110, 111, 127, 128] (by decide +kernel) (by decide +kernel)
set_option maxRecDepth 20000 in
theorem gX8_init_X0_init_n25 : GoodIn wsX8_init (wsX0_init) := ggX8_init_X0_init
set_option maxRecDepth 20000 in
theorem ggX8_init_X7_init : GoodIn wsX8_init wsX7_init := goodIn_r _ [66, 67, 2, 3, 68, 69, 70, 71, 38, 39, 72, 73, 74, 52, 53, 75, 76, 43, 44, 45, 46, 32, 47, 77, 60, 61, 62, 63, 112, 113, 114, 115, 116, 117, 118, 127, 128, 129] (by decide +kernel) (by decide +kernel)
set_option maxRecDepth 20000 in
theorem gX8_init_X7_init_n32 : GoodIn wsX8_init (wsX7_init) := ggX8_init_X7_init
set_option maxRecDepth 20000 in
theorem ggX8_init_X3_init : GoodIn wsX8_init wsX3_init := goodIn_r _ [79, 80, 2, 3, 81, 82, 83, 52, 53, 84, 85, 86, 60, 61, 62, 32, 63, 119, 120, 121, 122, 129] (by decide +kernel) (by decide +kernel)
set_option maxRecDepth 20000 in
theorem gX8_init_X3_init_n39 : GoodIn wsX8_init (wsX3_init) := ggX8_init_X3_init
set_option maxRecDepth 20000 in
theorem ggX8_init_X2_init : GoodIn wsX8_init wsX2_init := goodIn_r _ [88, 89, 2, 3, 90, 52, 53, 91, 92, 93, 94, 60, 61, 62, 32, 63, 129, 123, 124, 125, 126] (by decide +kernel) (by decide +kernel)
set_option maxRecDepth 20000 in
theorem gX8_init_X2_init_n46 : GoodIn wsX8_init (wsX2_init) := ggX8_init_X2_init
theorem dX8_init_0 : decode cX8_init 0 = .ok (.aload_n 0, 1) := by decide +kernel
theorem dX8_init_1 : decode cX8_init 1 = .ok (.invokespecial 1, 3) := by decide +kernel
theorem dX8_init_4 : decode cX8_init 4 = .ok (.aload_n 0, 1) := by decide +kernel
theorem dX8_init_5 : decode cX8_init 5 = .ok (.new 7, 3) := by decide +kernel
theorem dX8_init_8 : decode cX8_init 8 = .ok (.dup, 1) := by decide +kernel
theorem dX8_init_9 : decode cX8_init 9 = .ok (.invokespecial 9, 3) := by decide +kernel
theorem dX8_init_12 : decode cX8_init 12 = .ok (.putfield 10, 3) := by decide +kernel
theorem dX8_init_15 : decode cX8_init 15 = .ok (.aload_n 0, 1) := by decide +kernel
theorem dX8_init_16 : decode cX8_init 16 = .ok (.new 16, 3) := by decide +kernel
theorem dX8_init_19 : decode cX8_init 19 = .ok (.dup, 1) := by decide +kernel
theorem dX8_init_20 : decode cX8_init 20 = .ok (.invokespecial 18, 3) := by decide +kernel
theorem dX8_init_23 : decode cX8_init 23 = .ok (.putfield 19, 3) := by decide +kernel
theorem dX8_init_26 : decode cX8_init 26 = .ok (.aload_n 0, 1) := by decide +kernel
theorem dX8_init_27 : decode cX8_init 27 = .ok (.new 23, 3) := by decide +kernel
theorem dX8_init_30 : decode cX8_init 30 = .ok (.dup, 1) := by decide +kernel
theorem dX8_init_31 : decode cX8_init 31 = .ok (.invokespecial 25, 3) := by decide +kernel
theorem dX8_init_34 : decode cX8_init 34 = .ok (.putfield 26, 3) := by decide +kernel
theorem dX8_init_37 : decode cX8_init 37 = .ok (.aload_n 0, 1) := by decide +kernel
theorem dX8_init_38 : decode cX8_init 38 = .ok (.new 30, 3) := by decide +kernel
theorem dX8_init_41 : decode cX8_init 41 = .ok (.dup, 1) := by decide +kernel
theorem dX8_init_42 : decode cX8_init 42 = .ok (.invokespecial 32, 3) := by decide +kernel
theorem dX8_init_45 : decode cX8_init 45 = .ok (.putfield 33, 3) := by decide +kernel
theorem dX8_init_48 : decode cX8_init 48 = .ok (.aload_n 0, 1) := by decide +kernel
theorem dX8_init_49 : decode cX8_init 49 = .ok (.new 37, 3) := by decide +kernel
theorem dX8_init_52 : decode cX8_init 52 = .ok (.dup, 1) := by decide +kernel
theorem dX8_init_53 : decode cX8_init 53 = .ok (.invokespecial 39, 3) := by decide +kernel
theorem dX8_init_56 : decode cX8_init 56 = .ok (.putfield 40, 3) := by decide +kernel
theorem dX8_init_59 : decode cX8_init 59 = .ok (.aload_n 0, 1) := by decide +kernel
theorem dX8_init_60 : decode cX8_init 60 = .ok (.new 44, 3) := by decide +kernel
theorem dX8_init_63 : decode cX8_init 63 = .ok (.dup, 1) := by decide +kernel
theorem dX8_init_64 : decode cX8_init 64 = .ok (.invokespecial 46, 3) := by decide +kernel
theorem dX8_init_67 : decode cX8_init 67 = .ok (.putfield 47, 3) := by decide +kernel
theorem dX8_init_70 : decode cX8_init 70 = .ok (.aload_n 0, 1) := by decide +kernel
theorem dX8_init_71 : decode cX8_init 71 = .ok (.iconst (-1), 1) := by decide +kernel
theorem dX8_init_72 : decode cX8_init 72 = .ok (.putfield 51, 3) := by decide +kernel
theorem dX8_init_75 : decode cX8_init 75 = .ok (.return_, 1) := by decide +kernel
set_option maxRecDepth 20000 in
theorem ggX8_feed_X8_requireRange : GoodIn wsX8_feed wsX8_requireRange := goodIn_ca (goodIn_r _ [5, 6, 7] (by decide +kernel) (by decide +kernel)) (goodIn_sub (fun _ h => List.mem_cons_of_mem _ (List.mem_append_left _ (List.mem_append_right _ h))) (by decide +kernel))
set_option maxRecDepth 20000 in
theorem gX8_feed_X8_requireRange : GoodIn wsX8_feed (va_wsS RX8 55 yX8_requireRange wsX8_requireRange) := goodIn_app (goodIn_of _ (by decide +kernel)) ggX8_feed_X8_requireRange
set_option maxRecDepth 20000 in
theorem ggX8_feed_X8_requireRoom : GoodIn wsX8_feed wsX8_requireRoom := goodIn_ca (goodIn_r _ [11, 12, 13, 1, 14, 15, 16, 17, 18, 19, 25, 26, 27, 28, 29, 30, 31, 32, 33] (by decide +kernel) (by decide +kernel)) (goodIn_sub (fun _ h => List.mem_cons_of_mem _ (List.mem_append_right _ h)) (by decide +kernel))
set_option maxRecDepth 20000 in
theorem gX8_feed_X8_requireRoom : GoodIn wsX8_feed (wsV RX8 59 RX8 yX8_requireRoom wsX8_requireRoom) := goodIn_app (goodIn_of _ (by decide +kernel)) ggX8_feed_X8_requireRoom
set_option maxRecDepth 20000 in
theorem ggX8_feed_X5_add : GoodIn wsX8_feed wsX5_add := goodIn_r _ [23, 19, 24, 32, 33] (by decide +kernel) (by decide +kernel)
set_option maxRecDepth 20000 in
theorem gX8_feed_X5_add : GoodIn wsX8_feed (wsV RX8 63 RX5 yX5_add wsX5_add) := goodIn_app (goodIn_of _ (by decide +kernel)) ggX8_feed_X5_add
set_option maxRecDepth 20000 in
theorem ggX8_feed_X5_count : GoodIn wsX8_feed wsX5_count := goodIn_r _ [18, 19, 32, 33] (by decide +kernel) (by decide +kernel)
set_option maxRecDepth 20000 in
theorem gX8_feed_X5_count : GoodIn wsX8_feed (wsV RX8 66 RX5 yX5_count wsX5_count) := goodIn_app (goodIn_of _ (by decide +kernel)) ggX8_feed_X5_count
theorem dX8_feed_0 : decode cX8_feed 0 = .ok (.iload_n 1, 1) := by decide +kernel
theorem dX8_feed_1 : decode cX8_feed 1 = .ok (.bipush (-100), 2) := by decide +kernel
theorem dX8_feed_3 : decode cX8_feed 3 = .ok (.bipush 100, 2) := by decide +kernel
theorem dX8_feed_5 : decode cX8_feed 5 = .ok (.invokestatic 55, 3) := by decide +kernel
theorem dX8_feed_8 : decode cX8_feed 8 = .ok (.aload_n 0, 1) := by decide +kernel
theorem dX8_feed_9 : decode cX8_feed 9 = .ok (.iconst 1, 1) := by decide +kernel
theorem dX8_feed_10 : decode cX8_feed 10 = .ok (.invokevirtual 59, 3) := by decide +kernel
theorem dX8_feed_13 : decode cX8_feed 13 = .ok (.aload_n 0, 1) := by decide +kernel
theorem dX8_feed_14 : decode cX8_feed 14 = .ok (.getfield 10, 3) := by decide +kernel
theorem dX8_feed_17 : decode cX8_feed 17 = .ok (.iload_n 1, 1) := by decide +kernel
theorem dX8_feed_18 : decode cX8_feed 18 = .ok (.invokevirtual 63, 3) := by decide +kernel
theorem dX8_feed_21 : decode cX8_feed 21 = .ok (.aload_n 0, 1) := by decide +kernel
theorem dX8_feed_22 : decode cX8_feed 22 = .ok (.getfield 10, 3) := by decide +kernel
theorem dX8_feed_25 : decode cX8_feed 25 = .ok (.invokevirtual 66, 3) := by decide +kernel
theorem dX8_feed_28 : decode cX8_feed 28 = .ok (.ireturn, 1) := by decide +kernel
set_option maxRecDepth 20000 in
theorem ggX8_feedWave_X8_requireRange : GoodIn wsX8_feedWave wsX8_requireRange := goodIn_ca (goodIn_r _ [5, 6, 7] (by decide +kernel) (by decide +kernel)) (goodIn_sub (fun _ h => List.mem_cons_of_mem _ (List.mem_append_left _ (List.mem_append_right _ h))) (by decide +kernel))
set_option maxRecDepth 20000 in
theorem gX8_feedWave_X8_requireRange : GoodIn wsX8_feedWave (va_wsS RX8 55 yX8_requireRange wsX8_requireRange) := goodIn_app (goodIn_of _ (by decide +kernel)) ggX8_feedWave_X8_requireRange
set_option maxRecDepth 20000 in
theorem ggX8_feedWave_X8_requireRoom : GoodIn wsX8_feedWave wsX8_requireRoom := goodIn_ca (goodIn_r _ [11, 12, 13, 1, 14, 15, 16, 17, 18, 19, 31, 32, 33, 34, 35, 36, 37, 38, 39] (by decide +kernel) (by decide +kernel)) (goodIn_sub (fun _ h => List.mem_cons_of_mem _ (List.mem_append_right _ h)) (by decide +kernel))
set_option maxRecDepth 20000 in
theorem gX8_feedWave_X8_requireRoom : GoodIn wsX8_feedWave (wsV RX8 59 RX8 yX8_requireRoom wsX8_requireRoom) := goodIn_app (goodIn_of _ (by decide +kernel)) ggX8_feedWave_X8_requireRoom
set_option maxRecDepth 20000 in
theorem ggX8_feedWave_X8_waveAt : GoodIn wsX8_feedWave wsX8_waveAt := goodIn_r _ [22, 23, 24, 4, 25] (by decide +kernel) (by decide +kernel)
set_option maxRecDepth 20000 in
theorem gX8_feedWave_X8_waveAt : GoodIn wsX8_feedWave (va_wsS RX8 70 yX8_waveAt wsX8_waveAt) := goodIn_app (goodIn_of _ (by decide +kernel)) ggX8_feedWave_X8_waveAt
set_option maxRecDepth 20000 in
theorem ggX8_feedWave_X5_add : GoodIn wsX8_feedWave wsX5_add := goodIn_r _ [29, 19, 30, 38, 39] (by decide +kernel) (by decide +kernel)
set_option maxRecDepth 20000 in
theorem gX8_feedWave_X5_add : GoodIn wsX8_feedWave (wsV RX8 63 RX5 yX5_add wsX5_add) := goodIn_app (goodIn_of _ (by decide +kernel)) ggX8_feedWave_X5_add
set_option maxRecDepth 20000 in
theorem ggX8_feedWave_X5_count : GoodIn wsX8_feedWave wsX5_count := goodIn_r _ [18, 19, 38, 39] (by decide +kernel) (by decide +kernel)
set_option maxRecDepth 20000 in
theorem gX8_feedWave_X5_count : GoodIn wsX8_feedWave (wsV RX8 66 RX5 yX5_count wsX5_count) := goodIn_app (goodIn_of _ (by decide +kernel)) ggX8_feedWave_X5_count
theorem dX8_feedWave_0 : decode cX8_feedWave 0 = .ok (.iload_n 1, 1) := by decide +kernel
theorem dX8_feedWave_1 : decode cX8_feedWave 1 = .ok (.iconst 0, 1) := by decide +kernel
theorem dX8_feedWave_2 : decode cX8_feedWave 2 = .ok (.iconst 2, 1) := by decide +kernel
theorem dX8_feedWave_3 : decode cX8_feedWave 3 = .ok (.invokestatic 55, 3) := by decide +kernel
theorem dX8_feedWave_6 : decode cX8_feedWave 6 = .ok (.iload_n 2, 1) := by decide +kernel
theorem dX8_feedWave_7 : decode cX8_feedWave 7 = .ok (.iconst 2, 1) := by decide +kernel
theorem dX8_feedWave_8 : decode cX8_feedWave 8 = .ok (.bipush 64, 2) := by decide +kernel
theorem dX8_feedWave_10 : decode cX8_feedWave 10 = .ok (.invokestatic 55, 3) := by decide +kernel
theorem dX8_feedWave_13 : decode cX8_feedWave 13 = .ok (.iload_n 3, 1) := by decide +kernel
theorem dX8_feedWave_14 : decode cX8_feedWave 14 = .ok (.iconst 0, 1) := by decide +kernel
theorem dX8_feedWave_15 : decode cX8_feedWave 15 = .ok (.bipush 100, 2) := by decide +kernel
theorem dX8_feedWave_17 : decode cX8_feedWave 17 = .ok (.invokestatic 55, 3) := by decide +kernel
theorem dX8_feedWave_20 : decode cX8_feedWave 20 = .ok (.iload 4, 2) := by decide +kernel
theorem dX8_feedWave_22 : decode cX8_feedWave 22 = .ok (.iconst 1, 1) := by decide +kernel
theorem dX8_feedWave_23 : decode cX8_feedWave 23 = .ok (.sipush 400, 3) := by decide +kernel
theorem dX8_feedWave_26 : decode cX8_feedWave 26 = .ok (.invokestatic 55, 3) := by decide +kernel
theorem dX8_feedWave_29 : decode cX8_feedWave 29 = .ok (.aload_n 0, 1) := by decide +kernel
theorem dX8_feedWave_30 : decode cX8_feedWave 30 = .ok (.iload 4, 2) := by decide +kernel
theorem dX8_feedWave_32 : decode cX8_feedWave 32 = .ok (.invokevirtual 59, 3) := by decide +kernel
theorem dX8_feedWave_35 : decode cX8_feedWave 35 = .ok (.iconst 0, 1) := by decide +kernel
theorem dX8_feedWave_36 : decode cX8_feedWave 36 = .ok (.istore 5, 2) := by decide +kernel
theorem dX8_feedWave_38 : decode cX8_feedWave 38 = .ok (.iconst 0, 1) := by decide +kernel
theorem dX8_feedWave_39 : decode cX8_feedWave 39 = .ok (.istore 6, 2) := by decide +kernel
theorem dX8_feedWave_41 : decode cX8_feedWave 41 = .ok (.iload 6, 2) := by decide +kernel
theorem dX8_feedWave_43 : decode cX8_feedWave 43 = .ok (.iload 4, 2) := by decide +kernel
theorem dX8_feedWave_45 : decode cX8_feedWave 45 = .ok (.if_icmp .ge 42, 3) := by decide +kernel
theorem dX8_feedWave_48 : decode cX8_feedWave 48 = .ok (.aload_n 0, 1) := by decide +kernel
theorem dX8_feedWave_49 : decode cX8_feedWave 49 = .ok (.getfield 10, 3) := by decide +kernel
theorem dX8_feedWave_52 : decode cX8_feedWave 52 = .ok (.iload_n 1, 1) := by decide +kernel
theorem dX8_feedWave_53 : decode cX8_feedWave 53 = .ok (.iload 5, 2) := by decide +kernel
theorem dX8_feedWave_55 : decode cX8_feedWave 55 = .ok (.iload_n 2, 1) := by decide +kernel
theorem dX8_feedWave_56 : decode cX8_feedWave 56 = .ok (.iload_n 3, 1) := by decide +kernel
theorem dX8_feedWave_57 : decode cX8_feedWave 57 = .ok (.invokestatic 70, 3) := by decide +kernel
theorem dX8_feedWave_60 : decode cX8_feedWave 60 = .ok (.invokevirtual 63, 3) := by decide +kernel
theorem dX8_feedWave_63 : decode cX8_feedWave 63 = .ok (.iload 5, 2) := by decide +kernel
theorem dX8_feedWave_65 : decode cX8_feedWave 65 = .ok (.iconst 1, 1) := by decide +kernel
theorem dX8_feedWave_66 : decode cX8_feedWave 66 = .ok (.iadd, 1) := by decide +kernel
theorem dX8_feedWave_67 : decode cX8_feedWave 67 = .ok (.iload_n 2, 1) := by decide +kernel
theorem dX8_feedWave_68 : decode cX8_feedWave 68 = .ok (.if_icmp .ge 10, 3) := by decide +kernel
theorem dX8_feedWave_71 : decode cX8_feedWave 71 = .ok (.iload 5, 2) := by decide +kernel
theorem dX8_feedWave_73 : decode cX8_feedWave 73 = .ok (.iconst 1, 1) := by decide +kernel
theorem dX8_feedWave_74 : decode cX8_feedWave 74 = .ok (.iadd, 1) := by decide +kernel
theorem dX8_feedWave_75 : decode cX8_feedWave 75 = .ok (.goto 4, 3) := by decide +kernel
theorem dX8_feedWave_78 : decode cX8_feedWave 78 = .ok (.iconst 0, 1) := by decide +kernel
theorem dX8_feedWave_79 : decode cX8_feedWave 79 = .ok (.istore 5, 2) := by decide +kernel
theorem dX8_feedWave_81 : decode cX8_feedWave 81 = .ok (.iinc 6 1, 3) := by decide +kernel
theorem dX8_feedWave_84 : decode cX8_feedWave 84 = .ok (.goto (-43), 3) := by decide +kernel
theorem dX8_feedWave_87 : decode cX8_feedWave 87 = .ok (.aload_n 0, 1) := by decide +kernel
theorem dX8_feedWave_88 : decode cX8_feedWave 88 = .ok (.getfield 10, 3) := by decide +kernel
theorem dX8_feedWave_91 : decode cX8_feedWave 91 = .ok (.invokevirtual 66, 3) := by decide +kernel
theorem dX8_feedWave_94 : decode cX8_feedWave 94 = .ok (.ireturn, 1) := by decide +kernel
set_option maxRecDepth 20000 in
theorem ggX8_feedNoise_X8_requireRange : GoodIn wsX8_feedNoise wsX8_requireRange := goodIn_ca (goodIn_r _ [6, 7, 8] (by decide +kernel) (by decide +kernel)) (goodIn_sub (fun _ h => List.mem_cons_of_mem _ (List.mem_append_left _ (List.mem_append_right _ h))) (by decide +kernel))
set_option maxRecDepth 20000 in
theorem gX8_feedNoise_X8_requireRange : GoodIn wsX8_feedNoise (va_wsS RX8 55 yX8_requireRange wsX8_requireRange) := goodIn_app (goodIn_of _ (by decide +kernel)) ggX8_feedNoise_X8_requireRange
set_option maxRecDepth 20000 in
theorem ggX8_feedNoise_X8_requireRoom : GoodIn wsX8_feedNoise wsX8_requireRoom := goodIn_ca (goodIn_r _ [12, 13, 14, 2, 15, 16, 17, 18, 19, 20, 29, 30, 31, 32, 33, 34, 35, 36, 37] (by decide +kernel) (by decide +kernel)) (goodIn_sub (fun _ h => List.mem_cons_of_mem _ (List.mem_append_right _ h)) (by decide +kernel))
set_option maxRecDepth 20000 in
theorem gX8_feedNoise_X8_requireRoom : GoodIn wsX8_feedNoise (wsV RX8 59 RX8 yX8_requireRoom wsX8_requireRoom) := goodIn_app (goodIn_of _ (by decide +kernel)) ggX8_feedNoise_X8_requireRoom
set_option maxRecDepth 20000 in
theorem ggX8_feedNoise_X8_noiseOf : GoodIn wsX8_feedNoise wsX8_noiseOf := goodIn_r _ [23] (by decide +kernel) (by decide +kernel)
set_option maxRecDepth 20000 in
theorem gX8_feedNoise_X8_noiseOf : GoodIn wsX8_feedNoise (va_wsS RX8 75 yX8_noiseOf wsX8_noiseOf) := goodIn_app (goodIn_of _ (by decide +kernel)) ggX8_feedNoise_X8_noiseOf
set_option maxRecDepth 20000 in
theorem ggX8_feedNoise_X5_add : GoodIn wsX8_feedNoise wsX5_add := goodIn_r _ [27, 20, 28, 36, 37] (by decide +kernel) (by decide +kernel)
set_option maxRecDepth 20000 in
theorem gX8_feedNoise_X5_add : GoodIn wsX8_feedNoise (wsV RX8 63 RX5 yX5_add wsX5_add) := goodIn_app (goodIn_of _ (by decide +kernel)) ggX8_feedNoise_X5_add
set_option maxRecDepth 20000 in
theorem ggX8_feedNoise_X5_count : GoodIn wsX8_feedNoise wsX5_count := goodIn_r _ [19, 20, 36, 37] (by decide +kernel) (by decide +kernel)
set_option maxRecDepth 20000 in
theorem gX8_feedNoise_X5_count : GoodIn wsX8_feedNoise (wsV RX8 66 RX5 yX5_count wsX5_count) := goodIn_app (goodIn_of _ (by decide +kernel)) ggX8_feedNoise_X5_count
theorem dX8_feedNoise_0 : decode cX8_feedNoise 0 = .ok (.iload_n 2, 1) := by decide +kernel
theorem dX8_feedNoise_1 : decode cX8_feedNoise 1 = .ok (.iconst 0, 1) := by decide +kernel
theorem dX8_feedNoise_2 : decode cX8_feedNoise 2 = .ok (.bipush 100, 2) := by decide +kernel
theorem dX8_feedNoise_4 : decode cX8_feedNoise 4 = .ok (.invokestatic 55, 3) := by decide +kernel
theorem dX8_feedNoise_7 : decode cX8_feedNoise 7 = .ok (.iload_n 3, 1) := by decide +kernel
theorem dX8_feedNoise_8 : decode cX8_feedNoise 8 = .ok (.iconst 1, 1) := by decide +kernel
theorem dX8_feedNoise_9 : decode cX8_feedNoise 9 = .ok (.sipush 400, 3) := by decide +kernel
theorem dX8_feedNoise_12 : decode cX8_feedNoise 12 = .ok (.invokestatic 55, 3) := by decide +kernel
theorem dX8_feedNoise_15 : decode cX8_feedNoise 15 = .ok (.aload_n 0, 1) := by decide +kernel
theorem dX8_feedNoise_16 : decode cX8_feedNoise 16 = .ok (.iload_n 3, 1) := by decide +kernel
theorem dX8_feedNoise_17 : decode cX8_feedNoise 17 = .ok (.invokevirtual 59, 3) := by decide +kernel
theorem dX8_feedNoise_20 : decode cX8_feedNoise 20 = .ok (.iload_n 1, 1) := by decide +kernel
theorem dX8_feedNoise_21 : decode cX8_feedNoise 21 = .ok (.istore 4, 2) := by decide +kernel
theorem dX8_feedNoise_23 : decode cX8_feedNoise 23 = .ok (.iconst 0, 1) := by decide +kernel
theorem dX8_feedNoise_24 : decode cX8_feedNoise 24 = .ok (.istore 5, 2) := by decide +kernel
theorem dX8_feedNoise_26 : decode cX8_feedNoise 26 = .ok (.iload 5, 2) := by decide +kernel
theorem dX8_feedNoise_28 : decode cX8_feedNoise 28 = .ok (.iload_n 3, 1) := by decide +kernel
theorem dX8_feedNoise_29 : decode cX8_feedNoise 29 = .ok (.if_icmp .ge 33, 3) := by decide +kernel
theorem dX8_feedNoise_32 : decode cX8_feedNoise 32 = .ok (.iload 4, 2) := by decide +kernel
theorem dX8_feedNoise_34 : decode cX8_feedNoise 34 = .ok (.ldc 74, 2) := by decide +kernel
theorem dX8_feedNoise_36 : decode cX8_feedNoise 36 = .ok (.imul, 1) := by decide +kernel
theorem dX8_feedNoise_37 : decode cX8_feedNoise 37 = .ok (.sipush 12345, 3) := by decide +kernel
theorem dX8_feedNoise_40 : decode cX8_feedNoise 40 = .ok (.iadd, 1) := by decide +kernel
theorem dX8_feedNoise_41 : decode cX8_feedNoise 41 = .ok (.istore 4, 2) := by decide +kernel
theorem dX8_feedNoise_43 : decode cX8_feedNoise 43 = .ok (.aload_n 0, 1) := by decide +kernel
theorem dX8_feedNoise_44 : decode cX8_feedNoise 44 = .ok (.getfield 10, 3) := by decide +kernel
theorem dX8_feedNoise_47 : decode cX8_feedNoise 47 = .ok (.iload 4, 2) := by decide +kernel
theorem dX8_feedNoise_49 : decode cX8_feedNoise 49 = .ok (.iload_n 2, 1) := by decide +kernel
theorem dX8_feedNoise_50 : decode cX8_feedNoise 50 = .ok (.invokestatic 75, 3) := by decide +kernel
theorem dX8_feedNoise_53 : decode cX8_feedNoise 53 = .ok (.invokevirtual 63, 3) := by decide +kernel
theorem dX8_feedNoise_56 : decode cX8_feedNoise 56 = .ok (.iinc 5 1, 3) := by decide +kernel
theorem dX8_feedNoise_59 : decode cX8_feedNoise 59 = .ok (.goto (-33), 3) := by decide +kernel
theorem dX8_feedNoise_62 : decode cX8_feedNoise 62 = .ok (.aload_n 0, 1) := by decide +kernel
theorem dX8_feedNoise_63 : decode cX8_feedNoise 63 = .ok (.getfield 10, 3) := by decide +kernel
theorem dX8_feedNoise_66 : decode cX8_feedNoise 66 = .ok (.invokevirtual 66, 3) := by decide +kernel
theorem dX8_feedNoise_69 : decode cX8_feedNoise 69 = .ok (.ireturn, 1) := by decide +kernel
set_option maxRecDepth 20000 in
theorem ggX8_clear_X5_count : GoodIn wsX8_clear wsX5_count := goodIn_r _ [9, 10, 34, 35] (by decide +kernel) (by decide +kernel)
set_option maxRecDepth 20000 in
theorem gX8_clear_X5_count : GoodIn wsX8_clear (wsV RX8 66 RX5 yX5_count wsX5_count) := goodIn_app (goodIn_of _ (by decide +kernel)) ggX8_clear_X5_count
set_option maxRecDepth 20000 in
theorem ggX8_clear_X5_drop : GoodIn wsX8_clear wsX5_drop := goodIn_r _ [14, 10, 34, 35] (by decide +kernel) (by decide +kernel)
set_option maxRecDepth 20000 in
theorem gX8_clear_X5_drop : GoodIn wsX8_clear (wsV RX8 79 RX5 yX5_drop wsX5_drop) := goodIn_app (goodIn_of _ (by decide +kernel)) ggX8_clear_X5_drop
set_option maxRecDepth 20000 in
theorem ggX8_clear_X1_forget : GoodIn wsX8_clear wsX1_forget := goodIn_r _ [19, 20, 36, 37, 38] (by decide +kernel) (by decide +kernel)
set_option maxRecDepth 20000 in
theorem gX8_clear_X1_forget : GoodIn wsX8_clear (wsV RX8 82 RX1 yX1_forget wsX1_forget) := goodIn_app (goodIn_of _ (by decide +kernel)) ggX8_clear_X1_forget
set_option maxRecDepth 20000 in
theorem ggX8_clear_X0_forget : GoodIn wsX8_clear wsX0_forget := goodIn_r _ [25, 26, 39, 40, 41, 42, 43] (by decide +kernel) (by decide +kernel)
set_option maxRecDepth 20000 in
theorem gX8_clear_X0_forget : GoodIn wsX8_clear (wsV RX8 85 RX0 yX0_forget wsX0_forget) := goodIn_app (goodIn_of _ (by decide +kernel)) ggX8_clear_X0_forget
theorem dX8_clear_0 : decode cX8_clear 0 = .ok (.aload_n 0, 1) := by decide +kernel
theorem dX8_clear_1 : decode cX8_clear 1 = .ok (.getfield 10, 3) := by decide +kernel
theorem dX8_clear_4 : decode cX8_clear 4 = .ok (.invokevirtual 66, 3) := by decide +kernel
theorem dX8_clear_7 : decode cX8_clear 7 = .ok (.istore_n 1, 1) := by decide +kernel
theorem dX8_clear_8 : decode cX8_clear 8 = .ok (.aload_n 0, 1) := by decide +kernel
theorem dX8_clear_9 : decode cX8_clear 9 = .ok (.getfield 10, 3) := by decide +kernel
theorem dX8_clear_12 : decode cX8_clear 12 = .ok (.invokevirtual 79, 3) := by decide +kernel
theorem dX8_clear_15 : decode cX8_clear 15 = .ok (.aload_n 0, 1) := by decide +kernel
theorem dX8_clear_16 : decode cX8_clear 16 = .ok (.getfield 19, 3) := by decide +kernel
theorem dX8_clear_19 : decode cX8_clear 19 = .ok (.invokevirtual 82, 3) := by decide +kernel
theorem dX8_clear_22 : decode cX8_clear 22 = .ok (.aload_n 0, 1) := by decide +kernel
theorem dX8_clear_23 : decode cX8_clear 23 = .ok (.getfield 26, 3) := by decide +kernel
theorem dX8_clear_26 : decode cX8_clear 26 = .ok (.invokevirtual 85, 3) := by decide +kernel
theorem dX8_clear_29 : decode cX8_clear 29 = .ok (.aload_n 0, 1) := by decide +kernel
theorem dX8_clear_30 : decode cX8_clear 30 = .ok (.iconst (-1), 1) := by decide +kernel
theorem dX8_clear_31 : decode cX8_clear 31 = .ok (.putfield 51, 3) := by decide +kernel
theorem dX8_clear_34 : decode cX8_clear 34 = .ok (.iload_n 1, 1) := by decide +kernel
theorem dX8_clear_35 : decode cX8_clear 35 = .ok (.ireturn, 1) := by decide +kernel
set_option maxRecDepth 20000 in
theorem ggX8_setThreshold_X8_requireRange : GoodIn wsX8_setThreshold wsX8_requireRange := goodIn_ca (goodIn_r _ [6, 7, 8] (by decide +kernel) (by decide +kernel)) (goodIn_sub (fun _ h => List.mem_cons_of_mem _ (List.mem_append_right _ h)) (by decide +kernel))
set_option maxRecDepth 20000 in
theorem gX8_setThreshold_X8_requireRange : GoodIn wsX8_setThreshold (va_wsS RX8 55 yX8_requireRange wsX8_requireRange) := goodIn_app (goodIn_of _ (by decide +kernel)) ggX8_setThreshold_X8_requireRange
set_option maxRecDepth 20000 in
theorem ggX8_setThreshold_X0_threshold : GoodIn wsX8_setThreshold wsX0_threshold := goodIn_r _ [13, 14, 31, 32, 33, 34, 35] (by decide +kernel) (by decide +kernel)
set_option maxRecDepth 20000 in
theorem gX8_setThreshold_X0_threshold : GoodIn wsX8_setThreshold (wsV RX8 86 RX0 yX0_threshold wsX0_threshold) := goodIn_app (goodIn_of _ (by decide +kernel)) ggX8_setThreshold_X0_threshold
set_option maxRecDepth 20000 in
theorem ggX8_setThreshold_X0_useThreshold : GoodIn wsX8_setThreshold wsX0_useThreshold := goodIn_r _ [18, 14, 19, 20, 21, 12, 22, 23, 31, 32, 33, 34, 35] (by decide +kernel) (by decide +kernel)
set_option maxRecDepth 20000 in
theorem gX8_setThreshold_X0_useThreshold : GoodIn wsX8_setThreshold (wsV RX8 89 RX0 yX0_useThreshold wsX0_useThreshold) := goodIn_app (goodIn_of _ (by decide +kernel)) ggX8_setThreshold_X0_useThreshold
theorem dX8_setThreshold_0 : decode cX8_setThreshold 0 = .ok (.iload_n 1, 1) := by decide +kernel
theorem dX8_setThreshold_1 : decode cX8_setThreshold 1 = .ok (.iconst 1, 1) := by decide +kernel
theorem dX8_setThreshold_2 : decode cX8_setThreshold 2 = .ok (.bipush 100, 2) := by decide +kernel
theorem dX8_setThreshold_4 : decode cX8_setThreshold 4 = .ok (.invokestatic 55, 3) := by decide +kernel
theorem dX8_setThreshold_7 : decode cX8_setThreshold 7 = .ok (.aload_n 0, 1) := by decide +kernel
theorem dX8_setThreshold_8 : decode cX8_setThreshold 8 = .ok (.getfield 26, 3) := by decide +kernel
theorem dX8_setThreshold_11 : decode cX8_setThreshold 11 = .ok (.invokevirtual 86, 3) := by decide +kernel
theorem dX8_setThreshold_14 : decode cX8_setThreshold 14 = .ok (.istore_n 2, 1) := by decide +kernel
theorem dX8_setThreshold_15 : decode cX8_setThreshold 15 = .ok (.aload_n 0, 1) := by decide +kernel
theorem dX8_setThreshold_16 : decode cX8_setThreshold 16 = .ok (.getfield 26, 3) := by decide +kernel
theorem dX8_setThreshold_19 : decode cX8_setThreshold 19 = .ok (.iload_n 1, 1) := by decide +kernel
theorem dX8_setThreshold_20 : decode cX8_setThreshold 20 = .ok (.invokevirtual 89, 3) := by decide +kernel
theorem dX8_setThreshold_23 : decode cX8_setThreshold 23 = .ok (.aload_n 0, 1) := by decide +kernel
theorem dX8_setThreshold_24 : decode cX8_setThreshold 24 = .ok (.iconst (-1), 1) := by decide +kernel
theorem dX8_setThreshold_25 : decode cX8_setThreshold 25 = .ok (.putfield 51, 3) := by decide +kernel
theorem dX8_setThreshold_28 : decode cX8_setThreshold 28 = .ok (.iload_n 2, 1) := by decide +kernel
theorem dX8_setThreshold_29 : decode cX8_setThreshold 29 = .ok (.ireturn, 1) := by decide +kernel
set_option maxRecDepth 20000 in
theorem ggX8_setCosts_X8_requireRange : GoodIn wsX8_setCosts wsX8_requireRange := goodIn_ca (goodIn_r _ [6, 7, 8] (by decide +kernel) (by decide +kernel)) (goodIn_sub (fun _ h => List.mem_cons_of_mem _ (List.mem_append_right _ h)) (by decide +kernel))
set_option maxRecDepth 20000 in
theorem gX8_setCosts_X8_requireRange : GoodIn wsX8_setCosts (va_wsS RX8 55 yX8_requireRange wsX8_requireRange) := goodIn_app (goodIn_of _ (by decide +kernel)) ggX8_setCosts_X8_requireRange
set_option maxRecDepth 20000 in
theorem ggX8_setCosts_X7_useCosts : GoodIn wsX8_setCosts wsX7_useCosts := goodIn_r _ [13, 14, 15, 16, 24, 25, 26, 27, 28, 29, 30] (by decide +kernel) (by decide +kernel)
set_option maxRecDepth 20000 in
theorem gX8_setCosts_X7_useCosts : GoodIn wsX8_setCosts (wsV RX8 92 RX7 yX7_useCosts wsX7_useCosts) := goodIn_app (goodIn_of _ (by decide +kernel)) ggX8_setCosts_X7_useCosts
theorem dX8_setCosts_0 : decode cX8_setCosts 0 = .ok (.iload_n 1, 1) := by decide +kernel
theorem dX8_setCosts_1 : decode cX8_setCosts 1 = .ok (.iconst 0, 1) := by decide +kernel
theorem dX8_setCosts_2 : decode cX8_setCosts 2 = .ok (.sipush 1000, 3) := by decide +kernel
theorem dX8_setCosts_5 : decode cX8_setCosts 5 = .ok (.invokestatic 55, 3) := by decide +kernel
theorem dX8_setCosts_8 : decode cX8_setCosts 8 = .ok (.iload_n 2, 1) := by decide +kernel
theorem dX8_setCosts_9 : decode cX8_setCosts 9 = .ok (.iconst 0, 1) := by decide +kernel
theorem dX8_setCosts_10 : decode cX8_setCosts 10 = .ok (.bipush 100, 2) := by decide +kernel
theorem dX8_setCosts_12 : decode cX8_setCosts 12 = .ok (.invokestatic 55, 3) := by decide +kernel
theorem dX8_setCosts_15 : decode cX8_setCosts 15 = .ok (.iload_n 3, 1) := by decide +kernel
theorem dX8_setCosts_16 : decode cX8_setCosts 16 = .ok (.iconst 0, 1) := by decide +kernel
theorem dX8_setCosts_17 : decode cX8_setCosts 17 = .ok (.sipush 1000, 3) := by decide +kernel
theorem dX8_setCosts_20 : decode cX8_setCosts 20 = .ok (.invokestatic 55, 3) := by decide +kernel
theorem dX8_setCosts_23 : decode cX8_setCosts 23 = .ok (.aload_n 0, 1) := by decide +kernel
theorem dX8_setCosts_24 : decode cX8_setCosts 24 = .ok (.getfield 33, 3) := by decide +kernel
theorem dX8_setCosts_27 : decode cX8_setCosts 27 = .ok (.iload_n 1, 1) := by decide +kernel
theorem dX8_setCosts_28 : decode cX8_setCosts 28 = .ok (.iload_n 2, 1) := by decide +kernel
theorem dX8_setCosts_29 : decode cX8_setCosts 29 = .ok (.iload_n 3, 1) := by decide +kernel
theorem dX8_setCosts_30 : decode cX8_setCosts 30 = .ok (.invokevirtual 92, 3) := by decide +kernel
theorem dX8_setCosts_33 : decode cX8_setCosts 33 = .ok (.aload_n 0, 1) := by decide +kernel
theorem dX8_setCosts_34 : decode cX8_setCosts 34 = .ok (.iconst (-1), 1) := by decide +kernel
theorem dX8_setCosts_35 : decode cX8_setCosts 35 = .ok (.putfield 51, 3) := by decide +kernel
theorem dX8_setCosts_38 : decode cX8_setCosts 38 = .ok (.return_, 1) := by decide +kernel
set_option maxRecDepth 20000 in
theorem ggX8_setTemperament_X8_requireRange : GoodIn wsX8_setTemperament wsX8_requireRange := goodIn_ca (goodIn_r _ [6, 7, 8] (by decide +kernel) (by decide +kernel)) (goodIn_sub (fun _ h => List.mem_cons_of_mem _ (List.mem_append_right _ h)) (by decide +kernel))
set_option maxRecDepth 20000 in
theorem gX8_setTemperament_X8_requireRange : GoodIn wsX8_setTemperament (va_wsS RX8 55 yX8_requireRange wsX8_requireRange) := goodIn_app (goodIn_of _ (by decide +kernel)) ggX8_setTemperament_X8_requireRange
set_option maxRecDepth 20000 in
theorem ggX8_setTemperament_X3_useTemperament : GoodIn wsX8_setTemperament wsX3_useTemperament := goodIn_r _ [13, 14, 15, 23, 24, 25, 26] (by decide +kernel) (by decide +kernel)
set_option maxRecDepth 20000 in
theorem gX8_setTemperament_X3_useTemperament : GoodIn wsX8_setTemperament (wsV RX8 95 RX3 yX3_useTemperament wsX3_useTemperament) := goodIn_app (goodIn_of _ (by decide +kernel)) ggX8_setTemperament_X3_useTemperament
theorem dX8_setTemperament_0 : decode cX8_setTemperament 0 = .ok (.iload_n 1, 1) := by decide +kernel
theorem dX8_setTemperament_1 : decode cX8_setTemperament 1 = .ok (.iconst 0, 1) := by decide +kernel
theorem dX8_setTemperament_2 : decode cX8_setTemperament 2 = .ok (.iconst 2, 1) := by decide +kernel
theorem dX8_setTemperament_3 : decode cX8_setTemperament 3 = .ok (.invokestatic 55, 3) := by decide +kernel
theorem dX8_setTemperament_6 : decode cX8_setTemperament 6 = .ok (.iload_n 2, 1) := by decide +kernel
theorem dX8_setTemperament_7 : decode cX8_setTemperament 7 = .ok (.bipush 64, 2) := by decide +kernel
theorem dX8_setTemperament_9 : decode cX8_setTemperament 9 = .ok (.sipush 8192, 3) := by decide +kernel
theorem dX8_setTemperament_12 : decode cX8_setTemperament 12 = .ok (.invokestatic 55, 3) := by decide +kernel
theorem dX8_setTemperament_15 : decode cX8_setTemperament 15 = .ok (.aload_n 0, 1) := by decide +kernel
theorem dX8_setTemperament_16 : decode cX8_setTemperament 16 = .ok (.getfield 40, 3) := by decide +kernel
theorem dX8_setTemperament_19 : decode cX8_setTemperament 19 = .ok (.iload_n 1, 1) := by decide +kernel
theorem dX8_setTemperament_20 : decode cX8_setTemperament 20 = .ok (.iload_n 2, 1) := by decide +kernel
theorem dX8_setTemperament_21 : decode cX8_setTemperament 21 = .ok (.invokevirtual 95, 3) := by decide +kernel
theorem dX8_setTemperament_24 : decode cX8_setTemperament 24 = .ok (.aload_n 0, 1) := by decide +kernel
theorem dX8_setTemperament_25 : decode cX8_setTemperament 25 = .ok (.iconst (-1), 1) := by decide +kernel
theorem dX8_setTemperament_26 : decode cX8_setTemperament 26 = .ok (.putfield 51, 3) := by decide +kernel
theorem dX8_setTemperament_29 : decode cX8_setTemperament 29 = .ok (.return_, 1) := by decide +kernel
set_option maxRecDepth 20000 in
theorem ggX8_samples_X5_count : GoodIn wsX8_samples wsX5_count := goodIn_r _ [6, 7, 15, 16] (by decide +kernel) (by decide +kernel)
set_option maxRecDepth 20000 in
theorem gX8_samples_X5_count : GoodIn wsX8_samples (wsV RX8 66 RX5 yX5_count wsX5_count) := goodIn_app (goodIn_of _ (by decide +kernel)) ggX8_samples_X5_count
theorem dX8_samples_0 : decode cX8_samples 0 = .ok (.aload_n 0, 1) := by decide +kernel
theorem dX8_samples_1 : decode cX8_samples 1 = .ok (.getfield 10, 3) := by decide +kernel
theorem dX8_samples_4 : decode cX8_samples 4 = .ok (.invokevirtual 66, 3) := by decide +kernel
theorem dX8_samples_7 : decode cX8_samples 7 = .ok (.ireturn, 1) := by decide +kernel
set_option maxRecDepth 20000 in
theorem ggX8_sample_X5_count : GoodIn wsX8_sample wsX5_count := goodIn_r _ [6, 7, 26, 27] (by decide +kernel) (by decide +kernel)
set_option maxRecDepth 20000 in
theorem gX8_sample_X5_count : GoodIn wsX8_sample (wsV RX8 66 RX5 yX5_count wsX5_count) := goodIn_app (goodIn_of _ (by decide +kernel)) ggX8_sample_X5_count
set_option maxRecDepth 20000 in
theorem ggX8_sample_X8_requireIndex : GoodIn wsX8_sample wsX8_requireIndex := goodIn_ca (goodIn_r _ [11, 12, 13] (by decide +kernel) (by decide +kernel)) (goodIn_sub (fun _ h => List.mem_cons_of_mem _ (List.mem_append_right _ h)) (by decide +kernel))
set_option maxRecDepth 20000 in
theorem gX8_sample_X8_requireIndex : GoodIn wsX8_sample (va_wsS RX8 99 yX8_requireIndex wsX8_requireIndex) := goodIn_app (goodIn_of _ (by decide +kernel)) ggX8_sample_X8_requireIndex
set_option maxRecDepth 20000 in
theorem ggX8_sample_X5_at : GoodIn wsX8_sample wsX5_at := goodIn_r _ [17, 7, 18, 26, 27] (by decide +kernel) (by decide +kernel)
set_option maxRecDepth 20000 in
theorem gX8_sample_X5_at : GoodIn wsX8_sample (wsV RX8 102 RX5 yX5_at wsX5_at) := goodIn_app (goodIn_of _ (by decide +kernel)) ggX8_sample_X5_at
theorem dX8_sample_0 : decode cX8_sample 0 = .ok (.iload_n 1, 1) := by decide +kernel
theorem dX8_sample_1 : decode cX8_sample 1 = .ok (.aload_n 0, 1) := by decide +kernel
theorem dX8_sample_2 : decode cX8_sample 2 = .ok (.getfield 10, 3) := by decide +kernel
theorem dX8_sample_5 : decode cX8_sample 5 = .ok (.invokevirtual 66, 3) := by decide +kernel
theorem dX8_sample_8 : decode cX8_sample 8 = .ok (.invokestatic 99, 3) := by decide +kernel
theorem dX8_sample_11 : decode cX8_sample 11 = .ok (.aload_n 0, 1) := by decide +kernel
theorem dX8_sample_12 : decode cX8_sample 12 = .ok (.getfield 10, 3) := by decide +kernel
theorem dX8_sample_15 : decode cX8_sample 15 = .ok (.iload_n 1, 1) := by decide +kernel
theorem dX8_sample_16 : decode cX8_sample 16 = .ok (.invokevirtual 102, 3) := by decide +kernel
theorem dX8_sample_19 : decode cX8_sample 19 = .ok (.ireturn, 1) := by decide +kernel
set_option maxRecDepth 20000 in
theorem ggX8_frames_X5_frameCount : GoodIn wsX8_frames wsX5_frameCount := goodIn_r _ [6, 7, 15, 16] (by decide +kernel) (by decide +kernel)
set_option maxRecDepth 20000 in
theorem gX8_frames_X5_frameCount : GoodIn wsX8_frames (wsV RX8 106 RX5 yX5_frameCount wsX5_frameCount) := goodIn_app (goodIn_of _ (by decide +kernel)) ggX8_frames_X5_frameCount
theorem dX8_frames_0 : decode cX8_frames 0 = .ok (.aload_n 0, 1) := by decide +kernel
theorem dX8_frames_1 : decode cX8_frames 1 = .ok (.getfield 10, 3) := by decide +kernel
theorem dX8_frames_4 : decode cX8_frames 4 = .ok (.invokevirtual 106, 3) := by decide +kernel
theorem dX8_frames_7 : decode cX8_frames 7 = .ok (.ireturn, 1) := by decide +kernel
set_option maxRecDepth 20000 in
theorem ggX8_energy_X8_requireFrame : GoodIn wsX8_energy wsX8_requireFrame := goodIn_ca (goodIn_r _ [6, 1, 7, 8, 9, 10, 11, 12, 13, 14, 5, 15, 16, 17, 36, 37, 38, 39, 40, 41, 42, 43, 44] (by decide +kernel) (by decide +kernel)) (goodIn_sub (fun _ h => List.mem_cons_of_mem _ (List.mem_append_left _ (List.mem_append_right _ h))) (by decide +kernel))
set_option maxRecDepth 20000 in
theorem gX8_energy_X8_requireFrame : GoodIn wsX8_energy (wsV RX8 109 RX8 yX8_requireFrame wsX8_requireFrame) := goodIn_app (goodIn_of _ (by decide +kernel)) ggX8_energy_X8_requireFrame
set_option maxRecDepth 20000 in
theorem ggX8_energy_X8_requireRange : GoodIn wsX8_energy wsX8_requireRange := goodIn_ca (goodIn_r _ [20, 21, 22] (by decide +kernel) (by decide +kernel)) (goodIn_sub (fun _ h => List.mem_cons_of_mem _ (List.mem_append_right _ h)) (by decide +kernel))
set_option maxRecDepth 20000 in
theorem gX8_energy_X8_requireRange : GoodIn wsX8_energy (va_wsS RX8 55 yX8_requireRange wsX8_requireRange) := goodIn_app (goodIn_of _ (by decide +kernel)) ggX8_energy_X8_requireRange
set_option maxRecDepth 20000 in
theorem ggX8_energy_X5_energyOf : GoodIn wsX8_energy wsX5_energyOf := goodIn_r _ [26, 27, 28, 29, 10, 30, 31, 32, 33, 34, 35, 43, 44] (by decide +kernel) (by decide +kernel)
set_option maxRecDepth 20000 in
theorem gX8_energy_X5_energyOf : GoodIn wsX8_energy (wsV RX8 112 RX5 yX5_energyOf wsX5_energyOf) := goodIn_app (goodIn_of _ (by decide +kernel)) ggX8_energy_X5_energyOf
theorem dX8_energy_0 : decode cX8_energy 0 = .ok (.aload_n 0, 1) := by decide +kernel
theorem dX8_energy_1 : decode cX8_energy 1 = .ok (.iload_n 1, 1) := by decide +kernel
theorem dX8_energy_2 : decode cX8_energy 2 = .ok (.invokevirtual 109, 3) := by decide +kernel
theorem dX8_energy_5 : decode cX8_energy 5 = .ok (.iload_n 2, 1) := by decide +kernel
theorem dX8_energy_6 : decode cX8_energy 6 = .ok (.iconst 0, 1) := by decide +kernel
theorem dX8_energy_7 : decode cX8_energy 7 = .ok (.bipush 64, 2) := by decide +kernel
theorem dX8_energy_9 : decode cX8_energy 9 = .ok (.invokestatic 55, 3) := by decide +kernel
theorem dX8_energy_12 : decode cX8_energy 12 = .ok (.aload_n 0, 1) := by decide +kernel
theorem dX8_energy_13 : decode cX8_energy 13 = .ok (.getfield 10, 3) := by decide +kernel
theorem dX8_energy_16 : decode cX8_energy 16 = .ok (.iload_n 1, 1) := by decide +kernel
theorem dX8_energy_17 : decode cX8_energy 17 = .ok (.iload_n 2, 1) := by decide +kernel
theorem dX8_energy_18 : decode cX8_energy 18 = .ok (.invokevirtual 112, 3) := by decide +kernel
theorem dX8_energy_21 : decode cX8_energy 21 = .ok (.ireturn, 1) := by decide +kernel
set_option maxRecDepth 20000 in
theorem ggX8_autocorrelation_X8_requireFrame : GoodIn wsX8_autocorrelation wsX8_requireFrame := goodIn_ca (goodIn_r _ [6, 1, 7, 8, 9, 10, 11, 12, 13, 14, 5, 15, 16, 17, 36, 37, 38, 39, 40, 41, 42, 43, 44] (by decide +kernel) (by decide +kernel)) (goodIn_sub (fun _ h => List.mem_cons_of_mem _ (List.mem_append_left _ (List.mem_append_right _ h))) (by decide +kernel))
set_option maxRecDepth 20000 in
theorem gX8_autocorrelation_X8_requireFrame : GoodIn wsX8_autocorrelation (wsV RX8 109 RX8 yX8_requireFrame wsX8_requireFrame) := goodIn_app (goodIn_of _ (by decide +kernel)) ggX8_autocorrelation_X8_requireFrame
set_option maxRecDepth 20000 in
theorem ggX8_autocorrelation_X8_requireRange : GoodIn wsX8_autocorrelation wsX8_requireRange := goodIn_ca (goodIn_r _ [20, 21, 22] (by decide +kernel) (by decide +kernel)) (goodIn_sub (fun _ h => List.mem_cons_of_mem _ (List.mem_append_right _ h)) (by decide +kernel))
set_option maxRecDepth 20000 in
theorem gX8_autocorrelation_X8_requireRange : GoodIn wsX8_autocorrelation (va_wsS RX8 55 yX8_requireRange wsX8_requireRange) := goodIn_app (goodIn_of _ (by decide +kernel)) ggX8_autocorrelation_X8_requireRange
set_option maxRecDepth 20000 in
theorem ggX8_autocorrelation_X5_autocorrelationOf : GoodIn wsX8_autocorrelation wsX5_autocorrelationOf := goodIn_r _ [26, 27, 28, 29, 10, 30, 31, 32, 33, 34, 35, 43, 44] (by decide +kernel) (by decide +kernel)
set_option maxRecDepth 20000 in
theorem gX8_autocorrelation_X5_autocorrelationOf : GoodIn wsX8_autocorrelation (wsV RX8 115 RX5 yX5_autocorrelationOf wsX5_autocorrelationOf) := goodIn_app (goodIn_of _ (by decide +kernel)) ggX8_autocorrelation_X5_autocorrelationOf
theorem dX8_autocorrelation_0 : decode cX8_autocorrelation 0 = .ok (.aload_n 0, 1) := by decide +kernel
theorem dX8_autocorrelation_1 : decode cX8_autocorrelation 1 = .ok (.iload_n 1, 1) := by decide +kernel
theorem dX8_autocorrelation_2 : decode cX8_autocorrelation 2 = .ok (.invokevirtual 109, 3) := by decide +kernel
theorem dX8_autocorrelation_5 : decode cX8_autocorrelation 5 = .ok (.iload_n 2, 1) := by decide +kernel
theorem dX8_autocorrelation_6 : decode cX8_autocorrelation 6 = .ok (.iconst 1, 1) := by decide +kernel
theorem dX8_autocorrelation_7 : decode cX8_autocorrelation 7 = .ok (.bipush 64, 2) := by decide +kernel
theorem dX8_autocorrelation_9 : decode cX8_autocorrelation 9 = .ok (.invokestatic 55, 3) := by decide +kernel
theorem dX8_autocorrelation_12 : decode cX8_autocorrelation 12 = .ok (.aload_n 0, 1) := by decide +kernel
theorem dX8_autocorrelation_13 : decode cX8_autocorrelation 13 = .ok (.getfield 10, 3) := by decide +kernel
theorem dX8_autocorrelation_16 : decode cX8_autocorrelation 16 = .ok (.iload_n 1, 1) := by decide +kernel
theorem dX8_autocorrelation_17 : decode cX8_autocorrelation 17 = .ok (.iload_n 2, 1) := by decide +kernel
theorem dX8_autocorrelation_18 : decode cX8_autocorrelation 18 = .ok (.invokevirtual 115, 3) := by decide +kernel
theorem dX8_autocorrelation_21 : decode cX8_autocorrelation 21 = .ok (.ireturn, 1) := by decide +kernel
set_option maxRecDepth 20000 in
theorem ggX8_difference_X8_requireFrame : GoodIn wsX8_difference wsX8_requireFrame := goodIn_ca (goodIn_r _ [7, 2, 8, 9, 10, 11, 12, 13, 14, 15, 6, 16, 17, 18, 61, 62, 63, 64, 65, 66, 67, 68, 69] (by decide +kernel) (by decide +kernel)) (goodIn_sub (fun _ h => List.mem_cons_of_mem _ (List.mem_append_left _ (List.mem_append_right _ h))) (by decide +kernel))
set_option maxRecDepth 20000 in
theorem gX8_difference_X8_requireFrame : GoodIn wsX8_difference (wsV RX8 109 RX8 yX8_requireFrame wsX8_requireFrame) := goodIn_app (goodIn_of _ (by decide +kernel)) ggX8_difference_X8_requireFrame
set_option maxRecDepth 20000 in
theorem ggX8_difference_X8_requireRange : GoodIn wsX8_difference wsX8_requireRange := goodIn_ca (goodIn_r _ [21, 22, 23] (by decide +kernel) (by decide +kernel)) (goodIn_sub (fun _ h => List.mem_cons_of_mem _ (List.mem_append_right _ h)) (by decide +kernel))
set_option maxRecDepth 20000 in
theorem gX8_difference_X8_requireRange : GoodIn wsX8_difference (va_wsS RX8 55 yX8_requireRange wsX8_requireRange) := goodIn_app (goodIn_of _ (by decide +kernel)) ggX8_difference_X8_requireRange
set_option maxRecDepth 20000 in
theorem ggX8_difference_X1_measure : GoodIn wsX8_difference wsX1_measure := goodIn_r _ [28, 29, 30, 9, 10, 11, 12, 13, 31, 32, 33, 27, 34, 35, 36, 37, 38, 39, 40, 41, 42, 43, 44, 45, 46, 47, 48, 49, 50, 51, 52, 70, 71, 72, 68, 69, 73, 74] (by decide +kernel) (by decide +kernel)
set_option maxRecDepth 20000 in
theorem gX8_difference_X1_measure : GoodIn wsX8_difference (wsV RX8 118 RX1 yX1_measure wsX1_measure) := goodIn_app (goodIn_of _ (by decide +kernel)) ggX8_difference_X1_measure
set_option maxRecDepth 20000 in
theorem ggX8_difference_X1_at : GoodIn wsX8_difference wsX1_at := goodIn_r _ [56, 35, 57, 58, 59, 49, 60, 51, 52, 70, 71, 72, 73, 74] (by decide +kernel) (by decide +kernel)
set_option maxRecDepth 20000 in
theorem gX8_difference_X1_at : GoodIn wsX8_difference (wsV RX8 122 RX1 yX1_at wsX1_at) := goodIn_app (goodIn_of _ (by decide +kernel)) ggX8_difference_X1_at
theorem dX8_difference_0 : decode cX8_difference 0 = .ok (.aload_n 0, 1) := by decide +kernel
theorem dX8_difference_1 : decode cX8_difference 1 = .ok (.iload_n 1, 1) := by decide +kernel
theorem dX8_difference_2 : decode cX8_difference 2 = .ok (.invokevirtual 109, 3) := by decide +kernel
theorem dX8_difference_5 : decode cX8_difference 5 = .ok (.iload_n 2, 1) := by decide +kernel
theorem dX8_difference_6 : decode cX8_difference 6 = .ok (.iconst 1, 1) := by decide +kernel
theorem dX8_difference_7 : decode cX8_difference 7 = .ok (.bipush 64, 2) := by decide +kernel
theorem dX8_difference_9 : decode cX8_difference 9 = .ok (.invokestatic 55, 3) := by decide +kernel
theorem dX8_difference_12 : decode cX8_difference 12 = .ok (.aload_n 0, 1) := by decide +kernel
theorem dX8_difference_13 : decode cX8_difference 13 = .ok (.getfield 19, 3) := by decide +kernel
theorem dX8_difference_16 : decode cX8_difference 16 = .ok (.aload_n 0, 1) := by decide +kernel
theorem dX8_difference_17 : decode cX8_difference 17 = .ok (.getfield 10, 3) := by decide +kernel
theorem dX8_difference_20 : decode cX8_difference 20 = .ok (.invokevirtual 118, 3) := by decide +kernel
theorem dX8_difference_23 : decode cX8_difference 23 = .ok (.aload_n 0, 1) := by decide +kernel
theorem dX8_difference_24 : decode cX8_difference 24 = .ok (.getfield 19, 3) := by decide +kernel
theorem dX8_difference_27 : decode cX8_difference 27 = .ok (.iload_n 1, 1) := by decide +kernel
theorem dX8_difference_28 : decode cX8_difference 28 = .ok (.iload_n 2, 1) := by decide +kernel
theorem dX8_difference_29 : decode cX8_difference 29 = .ok (.invokevirtual 122, 3) := by decide +kernel
theorem dX8_difference_32 : decode cX8_difference 32 = .ok (.ireturn, 1) := by decide +kernel
set_option maxRecDepth 20000 in
theorem ggX8_meanDifference_X8_requireFrame : GoodIn wsX8_meanDifference wsX8_requireFrame := goodIn_ca (goodIn_r _ [7, 2, 8, 9, 10, 11, 12, 13, 14, 15, 6, 16, 17, 18, 72, 73, 74, 75, 76, 77, 78, 79, 80] (by decide +kernel) (by decide +kernel)) (goodIn_sub (fun _ h => List.mem_cons_of_mem _ (List.mem_append_left _ (List.mem_append_right _ h))) (by decide +kernel))
set_option maxRecDepth 20000 in
theorem gX8_meanDifference_X8_requireFrame : GoodIn wsX8_meanDifference (wsV RX8 109 RX8 yX8_requireFrame wsX8_requireFrame) := goodIn_app (goodIn_of _ (by decide +kernel)) ggX8_meanDifference_X8_requireFrame
set_option maxRecDepth 20000 in
theorem ggX8_meanDifference_X8_requireRange : GoodIn wsX8_meanDifference wsX8_requireRange := goodIn_ca (goodIn_r _ [21, 22, 23] (by decide +kernel) (by decide +kernel)) (goodIn_sub (fun _ h => List.mem_cons_of_mem _ (List.mem_append_right _ h)) (by decide +kernel))
set_option maxRecDepth 20000 in
theorem gX8_meanDifference_X8_requireRange : GoodIn wsX8_meanDifference (va_wsS RX8 55 yX8_requireRange wsX8_requireRange) := goodIn_app (goodIn_of _ (by decide +kernel)) ggX8_meanDifference_X8_requireRange
set_option maxRecDepth 20000 in
theorem ggX8_meanDifference_X1_measure : GoodIn wsX8_meanDifference wsX1_measure := goodIn_r _ [28, 29, 30, 9, 10, 11, 12, 13, 31, 32, 33, 27, 34, 35, 36, 37, 38, 39, 40, 41, 42, 43, 44, 45, 46, 47, 48, 49, 50, 51, 52, 81, 82, 83, 79, 80, 84, 85] (by decide +kernel) (by decide +kernel)
set_option maxRecDepth 20000 in
theorem gX8_meanDifference_X1_measure : GoodIn wsX8_meanDifference (wsV RX8 118 RX1 yX1_measure wsX1_measure) := goodIn_app (goodIn_of _ (by decide +kernel)) ggX8_meanDifference_X1_measure
set_option maxRecDepth 20000 in
theorem ggX8_meanDifference_X1_meanInThousandths : GoodIn wsX8_meanDifference wsX1_meanInThousandths := goodIn_r _ [56, 57, 58, 59, 60, 27, 61, 36, 35, 62, 63, 64, 49, 65, 51, 52, 66, 67, 68, 69, 70, 6, 71, 81, 82, 83, 84, 85] (by decide +kernel) (by decide +kernel)
set_option maxRecDepth 20000 in
theorem gX8_meanDifference_X1_meanInThousandths : GoodIn wsX8_meanDifference (wsV RX8 124 RX1 yX1_meanInThousandths wsX1_meanInThousandths) := goodIn_app (goodIn_of _ (by decide +kernel)) ggX8_meanDifference_X1_meanInThousandths
theorem dX8_meanDifference_0 : decode cX8_meanDifference 0 = .ok (.aload_n 0, 1) := by decide +kernel
theorem dX8_meanDifference_1 : decode cX8_meanDifference 1 = .ok (.iload_n 1, 1) := by decide +kernel
theorem dX8_meanDifference_2 : decode cX8_meanDifference 2 = .ok (.invokevirtual 109, 3) := by decide +kernel
theorem dX8_meanDifference_5 : decode cX8_meanDifference 5 = .ok (.iload_n 2, 1) := by decide +kernel
theorem dX8_meanDifference_6 : decode cX8_meanDifference 6 = .ok (.iconst 1, 1) := by decide +kernel
theorem dX8_meanDifference_7 : decode cX8_meanDifference 7 = .ok (.bipush 64, 2) := by decide +kernel
theorem dX8_meanDifference_9 : decode cX8_meanDifference 9 = .ok (.invokestatic 55, 3) := by decide +kernel
theorem dX8_meanDifference_12 : decode cX8_meanDifference 12 = .ok (.aload_n 0, 1) := by decide +kernel
theorem dX8_meanDifference_13 : decode cX8_meanDifference 13 = .ok (.getfield 19, 3) := by decide +kernel
theorem dX8_meanDifference_16 : decode cX8_meanDifference 16 = .ok (.aload_n 0, 1) := by decide +kernel
theorem dX8_meanDifference_17 : decode cX8_meanDifference 17 = .ok (.getfield 10, 3) := by decide +kernel
theorem dX8_meanDifference_20 : decode cX8_meanDifference 20 = .ok (.invokevirtual 118, 3) := by decide +kernel
theorem dX8_meanDifference_23 : decode cX8_meanDifference 23 = .ok (.aload_n 0, 1) := by decide +kernel
theorem dX8_meanDifference_24 : decode cX8_meanDifference 24 = .ok (.getfield 19, 3) := by decide +kernel
theorem dX8_meanDifference_27 : decode cX8_meanDifference 27 = .ok (.iload_n 1, 1) := by decide +kernel
theorem dX8_meanDifference_28 : decode cX8_meanDifference 28 = .ok (.iload_n 2, 1) := by decide +kernel
theorem dX8_meanDifference_29 : decode cX8_meanDifference 29 = .ok (.invokevirtual 124, 3) := by decide +kernel
theorem dX8_meanDifference_32 : decode cX8_meanDifference 32 = .ok (.ireturn, 1) := by decide +kernel
set_option maxRecDepth 20000 in
theorem ggX8_candidates_X8_requireFrame : GoodIn wsX8_candidates wsX8_requireFrame := goodIn_ca (goodIn_r _ [6, 7, 8, 9, 10, 11, 12, 13, 14, 15, 5, 16, 17, 18, 234, 235, 236, 237, 238, 239, 240, 241, 242] (by decide +kernel) (by decide +kernel)) (goodIn_sub (fun _ h => List.mem_cons_of_mem _ (List.mem_append_right _ h)) (by decide +kernel))
set_option maxRecDepth 20000 in
theorem gX8_candidates_X8_requireFrame : GoodIn wsX8_candidates (wsV RX8 109 RX8 yX8_requireFrame wsX8_requireFrame) := goodIn_app (goodIn_of _ (by decide +kernel)) ggX8_candidates_X8_requireFrame
set_option maxRecDepth 20000 in
theorem ggX8_candidates_X8_settle : GoodIn wsX8_candidates wsX8_settle := goodIn_r _ [22, 7, 23, 24, 1, 25, 26, 27, 8, 9, 10, 11, 12, 13, 28, 29, 30, 31, 32, 33, 34, 35, 36, 37, 38, 39, 40, 41, 42, 43, 44, 45, 46, 47, 48, 49, 50, 51, 52, 53, 54, 55, 56, 57, 58, 59, 60, 61, 62, 63, 64, 65, 66, 67, 68, 69, 70, 71, 72, 73, 74, 75, 76, 77, 78, 79, 80, 81, 82, 83, 84, 85, 86, 87, 88, 89, 90, 91, 92, 93, 94, 95, 96, 97, 98, 99, 100, 101, 102, 5, 103, 104, 105, 106, 107, 108, 109, 110, 111, 112, 113, 114, 115, 116, 117, 118, 119, 120, 121, 122, 123, 124, 125, 126, 127, 128, 129, 130, 131, 132, 133, 134, 135, 136, 137, 138, 139, 140, 141, 142, 143, 144, 145, 146, 147, 148, 149, 150, 151, 152, 153, 154, 155, 156, 157, 158, 159, 160, 161, 162, 163, 164, 165, 166, 167, 168, 169, 170, 171, 172, 173, 174, 175, 176, 177, 178, 179, 180, 181, 182, 183, 184, 185, 186, 187, 188, 189, 190, 191, 192, 193, 194, 195, 196, 197, 198, 199, 200, 201, 202, 203, 204, 205, 206, 207, 208, 209, 210, 211, 212, 213, 214, 215, 216, 217, 218, 219, 220, 221, 222, 223, 224, 225, 226, 227, 228, 229, 234, 235, 236, 237, 238, 239, 240, 241, 242, 243, 244, 245, 246, 247, 248, 249, 250, 251, 252, 253, 254, 255, 256, 257, 258, 259, 260, 261, 262, 263, 264, 265, 266, 267, 268] (by decide +kernel) (by decide +kernel)
set_option maxRecDepth 20000 in
theorem gX8_candidates_X8_settle : GoodIn wsX8_candidates (wsV RX8 127 RX8 yX8_settle wsX8_settle) := goodIn_app (goodIn_of _ (by decide +kernel)) ggX8_candidates_X8_settle
set_option maxRecDepth 20000 in
theorem ggX8_candidates_X0_howMany : GoodIn wsX8_candidates wsX0_howMany := goodIn_r _ [233, 69, 123, 124, 125, 107, 126, 109, 248, 249, 250, 251, 252, 253] (by decide +kernel) (by decide +kernel)
set_option maxRecDepth 20000 in
theorem gX8_candidates_X0_howMany : GoodIn wsX8_candidates (wsV RX8 130 RX0 yX0_howMany wsX0_howMany) := goodIn_app (goodIn_of _ (by decide +kernel)) ggX8_candidates_X0_howMany
theorem dX8_candidates_0 : decode cX8_candidates 0 = .ok (.aload_n 0, 1) := by decide +kernel
theorem dX8_candidates_1 : decode cX8_candidates 1 = .ok (.iload_n 1, 1) := by decide +kernel
theorem dX8_candidates_2 : decode cX8_candidates 2 = .ok (.invokevirtual 109, 3) := by decide +kernel
theorem dX8_candidates_5 : decode cX8_candidates 5 = .ok (.aload_n 0, 1) := by decide +kernel
theorem dX8_candidates_6 : decode cX8_candidates 6 = .ok (.invokevirtual 127, 3) := by decide +kernel
theorem dX8_candidates_9 : decode cX8_candidates 9 = .ok (.aload_n 0, 1) := by decide +kernel
theorem dX8_candidates_10 : decode cX8_candidates 10 = .ok (.getfield 26, 3) := by decide +kernel
theorem dX8_candidates_13 : decode cX8_candidates 13 = .ok (.iload_n 1, 1) := by decide +kernel
theorem dX8_candidates_14 : decode cX8_candidates 14 = .ok (.invokevirtual 130, 3) := by decide +kernel
theorem dX8_candidates_17 : decode cX8_candidates 17 = .ok (.ireturn, 1) := by decide +kernel
set_option maxRecDepth 20000 in
theorem ggX8_candidateLag_X8_requireFrame : GoodIn wsX8_candidateLag wsX8_requireFrame := goodIn_ca (goodIn_r _ [6, 7, 8, 9, 10, 11, 12, 13, 14, 15, 5, 16, 17, 18, 235, 236, 237, 238, 239, 240, 241, 242, 243] (by decide +kernel) (by decide +kernel)) (goodIn_sub (fun _ h => List.mem_cons_of_mem _ (List.mem_append_right _ h)) (by decide +kernel))
set_option maxRecDepth 20000 in
theorem gX8_candidateLag_X8_requireFrame : GoodIn wsX8_candidateLag (wsV RX8 109 RX8 yX8_requireFrame wsX8_requireFrame) := goodIn_app (goodIn_of _ (by decide +kernel)) ggX8_candidateLag_X8_requireFrame
set_option maxRecDepth 20000 in
theorem ggX8_candidateLag_X8_settle : GoodIn wsX8_candidateLag wsX8_settle := goodIn_r _ [22, 7, 23, 24, 1, 25, 26, 27, 8, 9, 10, 11, 12, 13, 28, 29, 30, 31, 32, 33, 34, 35, 36, 37, 38, 39, 40, 41, 42, 43, 44, 45, 46, 47, 48, 49, 50, 51, 52, 53, 54, 55, 56, 57, 58, 59, 60, 61, 62, 63, 64, 65, 66, 67, 68, 69, 70, 71, 72, 73, 74, 75, 76, 77, 78, 79, 80, 81, 82, 83, 84, 85, 86, 87, 88, 89, 90, 91, 92, 93, 94, 95, 96, 97, 98, 99, 100, 101, 102, 5, 103, 104, 105, 106, 107, 108, 109, 110, 111, 112, 113, 114, 115, 116, 117, 118, 119, 120, 121, 122, 123, 124, 125, 126, 127, 128, 129, 130, 131, 132, 133, 134, 135, 136, 137, 138, 139, 140, 141, 142, 143, 144, 145, 146, 147, 148, 149, 150, 151, 152, 153, 154, 155, 156, 157, 158, 159, 160, 161, 162, 163, 164, 165, 166, 167, 168, 169, 170, 171, 172, 173, 174, 175, 176, 177, 178, 179, 180, 181, 182, 183, 184, 185, 186, 187, 188, 189, 190, 191, 192, 193, 194, 195, 196, 197, 198, 199, 200, 201, 202, 203, 204, 205, 206, 207, 208, 209, 210, 211, 212, 213, 214, 215, 216, 217, 218, 219, 220, 221, 222, 223, 224, 225, 226, 227, 228, 229, 235, 236, 237, 238, 239, 240, 241, 242, 243, 244, 245, 246, 247, 248, 249, 250, 251, 252, 253, 254, 255, 256, 257, 258, 259, 260, 261, 262, 263, 264, 265, 266, 267, 268, 269] (by decide +kernel) (by decide +kernel)
set_option maxRecDepth 20000 in
theorem gX8_candidateLag_X8_settle : GoodIn wsX8_candidateLag (wsV RX8 127 RX8 yX8_settle wsX8_settle) := goodIn_app (goodIn_of _ (by decide +kernel)) ggX8_candidateLag_X8_settle
set_option maxRecDepth 20000 in
theorem ggX8_candidateLag_X0_howMany : GoodIn wsX8_candidateLag wsX0_howMany := goodIn_r _ [233, 69, 123, 124, 125, 107, 126, 109, 249, 250, 251, 252, 253, 254] (by decide +kernel) (by decide +kernel)
set_option maxRecDepth 20000 in
theorem gX8_candidateLag_X0_howMany : GoodIn wsX8_candidateLag (wsV RX8 130 RX0 yX0_howMany wsX0_howMany) := goodIn_app (goodIn_of _ (by decide +kernel)) ggX8_candidateLag_X0_howMany
set_option maxRecDepth 20000 in
theorem ggX8_candidateLag_X8_requireIndex : GoodIn wsX8_candidateLag wsX8_requireIndex := goodIn_ca (goodIn_r _ [16, 17, 18] (by decide +kernel) (by decide +kernel)) (goodIn_sub (fun _ h => List.mem_cons_of_mem _ (List.mem_append_right _ h)) (by decide +kernel))
set_option maxRecDepth 20000 in
theorem gX8_candidateLag_X8_requireIndex : GoodIn wsX8_candidateLag (va_wsS RX8 99 yX8_requireIndex wsX8_requireIndex) := goodIn_app (goodIn_of _ (by decide +kernel)) ggX8_candidateLag_X8_requireIndex
set_option maxRecDepth 20000 in
theorem ggX8_candidateLag_X0_lagOf : GoodIn wsX8_candidateLag wsX0_lagOf := goodIn_r _ [135, 67, 136, 85, 86, 53, 87, 55, 56, 249, 250, 251, 252, 253, 247, 248] (by decide +kernel) (by decide +kernel)
set_option maxRecDepth 20000 in
theorem gX8_candidateLag_X0_lagOf : GoodIn wsX8_candidateLag (wsV RX8 133 RX0 yX0_lagOf wsX0_lagOf) := goodIn_app (goodIn_of _ (by decide +kernel)) ggX8_candidateLag_X0_lagOf
theorem dX8_candidateLag_0 : decode cX8_candidateLag 0 = .ok (.aload_n 0, 1) := by decide +kernel
theorem dX8_candidateLag_1 : decode cX8_candidateLag 1 = .ok (.iload_n 1, 1) := by decide +kernel
theorem dX8_candidateLag_2 : decode cX8_candidateLag 2 = .ok (.invokevirtual 109, 3) := by decide +kernel
theorem dX8_candidateLag_5 : decode cX8_candidateLag 5 = .ok (.aload_n 0, 1) := by decide +kernel
theorem dX8_candidateLag_6 : decode cX8_candidateLag 6 = .ok (.invokevirtual 127, 3) := by decide +kernel
theorem dX8_candidateLag_9 : decode cX8_candidateLag 9 = .ok (.iload_n 2, 1) := by decide +kernel
theorem dX8_candidateLag_10 : decode cX8_candidateLag 10 = .ok (.aload_n 0, 1) := by decide +kernel
theorem dX8_candidateLag_11 : decode cX8_candidateLag 11 = .ok (.getfield 26, 3) := by decide +kernel
theorem dX8_candidateLag_14 : decode cX8_candidateLag 14 = .ok (.iload_n 1, 1) := by decide +kernel
theorem dX8_candidateLag_15 : decode cX8_candidateLag 15 = .ok (.invokevirtual 130, 3) := by decide +kernel
theorem dX8_candidateLag_18 : decode cX8_candidateLag 18 = .ok (.invokestatic 99, 3) := by decide +kernel
theorem dX8_candidateLag_21 : decode cX8_candidateLag 21 = .ok (.aload_n 0, 1) := by decide +kernel
theorem dX8_candidateLag_22 : decode cX8_candidateLag 22 = .ok (.getfield 26, 3) := by decide +kernel
theorem dX8_candidateLag_25 : decode cX8_candidateLag 25 = .ok (.iload_n 1, 1) := by decide +kernel
theorem dX8_candidateLag_26 : decode cX8_candidateLag 26 = .ok (.iload_n 2, 1) := by decide +kernel
theorem dX8_candidateLag_27 : decode cX8_candidateLag 27 = .ok (.iconst 1, 1) := by decide +kernel
theorem dX8_candidateLag_28 : decode cX8_candidateLag 28 = .ok (.iadd, 1) := by decide +kernel
theorem dX8_candidateLag_29 : decode cX8_candidateLag 29 = .ok (.invokevirtual 133, 3) := by decide +kernel
theorem dX8_candidateLag_32 : decode cX8_candidateLag 32 = .ok (.ireturn, 1) := by decide +kernel
set_option maxRecDepth 20000 in
theorem ggX8_trackCost_X8_settle : GoodIn wsX8_trackCost wsX8_settle := goodIn_r _ [6, 7, 8, 9, 10, 1, 11, 12, 13, 14, 15, 16, 17, 18, 19, 20, 21, 22, 23, 24, 25, 26, 27, 28, 29, 30, 31, 32, 33, 34, 35, 36, 37, 38, 39, 40, 41, 42, 43, 44, 45, 46, 47, 48, 49, 50, 51, 52, 53, 54, 55, 56, 57, 58, 59, 60, 61, 62, 63, 64, 65, 66, 67, 68, 69, 70, 71, 72, 73, 74, 75, 76, 77, 78, 79, 80, 81, 82, 83, 84, 85, 86, 87, 88, 89, 90, 91, 92, 93, 5, 94, 95, 96, 97, 98, 99, 100, 101, 102, 103, 104, 105, 106, 107, 108, 109, 110, 111, 112, 113, 114, 115, 116, 117, 118, 119, 120, 121, 122, 123, 124, 125, 126, 127, 128, 129, 130, 131, 132, 133, 134, 135, 136, 137, 138, 139, 140, 141, 142, 143, 144, 145, 146, 147, 148, 149, 150, 151, 152, 153, 154, 155, 156, 157, 158, 159, 160, 161, 162, 163, 164, 165, 166, 167, 168, 169, 170, 171, 172, 173, 174, 175, 176, 177, 178, 179, 180, 181, 182, 183, 184, 185, 186, 187, 188, 189, 190, 191, 192, 193, 194, 195, 196, 197, 198, 199, 200, 201, 202, 203, 204, 205, 206, 207, 208, 209, 210, 211, 212, 213, 214, 215, 216, 217, 218, 219, 220, 225, 226, 227, 228, 229, 230, 231, 232, 233, 234, 235, 236, 237, 238, 239, 240, 241, 242, 243, 244, 245, 246, 247, 248, 249, 250, 251, 252, 253, 254, 255, 256, 257, 258, 259] (by decide +kernel) (by decide +kernel)
set_option maxRecDepth 20000 in
theorem gX8_trackCost_X8_settle : GoodIn wsX8_trackCost (wsV RX8 127 RX8 yX8_settle wsX8_settle) := goodIn_app (goodIn_of _ (by decide +kernel)) ggX8_trackCost_X8_settle
set_option maxRecDepth 20000 in
theorem ggX8_trackCost_X7_cost : GoodIn wsX8_trackCost wsX7_cost := goodIn_r _ [224, 107, 245, 246, 247, 248, 249, 250, 251] (by decide +kernel) (by decide +kernel)
set_option maxRecDepth 20000 in
theorem gX8_trackCost_X7_cost : GoodIn wsX8_trackCost (wsV RX8 136 RX7 yX7_cost wsX7_cost) := goodIn_app (goodIn_of _ (by decide +kernel)) ggX8_trackCost_X7_cost
theorem dX8_trackCost_0 : decode cX8_trackCost 0 = .ok (.aload_n 0, 1) := by decide +kernel
theorem dX8_trackCost_1 : decode cX8_trackCost 1 = .ok (.invokevirtual 127, 3) := by decide +kernel
theorem dX8_trackCost_4 : decode cX8_trackCost 4 = .ok (.aload_n 0, 1) := by decide +kernel
theorem dX8_trackCost_5 : decode cX8_trackCost 5 = .ok (.getfield 33, 3) := by decide +kernel
theorem dX8_trackCost_8 : decode cX8_trackCost 8 = .ok (.invokevirtual 136, 3) := by decide +kernel
theorem dX8_trackCost_11 : decode cX8_trackCost 11 = .ok (.ireturn, 1) := by decide +kernel
set_option maxRecDepth 20000 in
theorem ggX8_lag_X8_requireFrame : GoodIn wsX8_lag wsX8_requireFrame := goodIn_ca (goodIn_r _ [6, 7, 8, 9, 10, 11, 12, 13, 14, 15, 5, 16, 17, 18, 231, 232, 233, 234, 235, 236, 237, 238, 239] (by decide +kernel) (by decide +kernel)) (goodIn_sub (fun _ h => List.mem_cons_of_mem _ (List.mem_append_right _ h)) (by decide +kernel))
set_option maxRecDepth 20000 in
theorem gX8_lag_X8_requireFrame : GoodIn wsX8_lag (wsV RX8 109 RX8 yX8_requireFrame wsX8_requireFrame) := goodIn_app (goodIn_of _ (by decide +kernel)) ggX8_lag_X8_requireFrame
set_option maxRecDepth 20000 in
theorem ggX8_lag_X8_settle : GoodIn wsX8_lag wsX8_settle := goodIn_r _ [22, 7, 23, 24, 25, 1, 26, 27, 8, 9, 10, 11, 12, 13, 28, 29, 30, 31, 32, 33, 34, 35, 36, 37, 38, 39, 40, 41, 42, 43, 44, 45, 46, 47, 48, 49, 50, 51, 52, 53, 54, 55, 56, 57, 58, 59, 60, 61, 62, 63, 64, 65, 66, 67, 68, 69, 70, 71, 72, 73, 74, 75, 76, 77, 78, 79, 80, 81, 82, 83, 84, 85, 86, 87, 88, 89, 90, 91, 92, 93, 94, 95, 96, 97, 98, 99, 100, 101, 102, 5, 103, 104, 105, 106, 107, 108, 109, 110, 111, 112, 113, 114, 115, 116, 117, 118, 119, 120, 121, 122, 123, 124, 125, 126, 127, 128, 129, 130, 131, 132, 133, 134, 135, 136, 137, 138, 139, 140, 141, 142, 143, 144, 145, 146, 147, 148, 149, 150, 151, 152, 153, 154, 155, 156, 157, 158, 159, 160, 161, 162, 163, 164, 165, 166, 167, 168, 169, 170, 171, 172, 173, 174, 175, 176, 177, 178, 179, 180, 181, 182, 183, 184, 185, 186, 187, 188, 189, 190, 191, 192, 193, 194, 195, 196, 197, 198, 199, 200, 201, 202, 203, 204, 205, 206, 207, 208, 209, 210, 211, 212, 213, 214, 215, 216, 217, 218, 219, 220, 221, 222, 223, 224, 225, 226, 227, 228, 229, 231, 232, 233, 234, 235, 236, 237, 238, 239, 240, 241, 242, 243, 244, 245, 246, 247, 248, 249, 250, 251, 252, 253, 254, 255, 256, 257, 258, 259, 260, 261, 262, 263, 264, 265] (by decide +kernel) (by decide +kernel)
set_option maxRecDepth 20000 in
theorem gX8_lag_X8_settle : GoodIn wsX8_lag (wsV RX8 127 RX8 yX8_settle wsX8_settle) := goodIn_app (goodIn_of _ (by decide +kernel)) ggX8_lag_X8_settle
set_option maxRecDepth 20000 in
theorem ggX8_lag_X7_lagOf : GoodIn wsX8_lag wsX7_lagOf := goodIn_r _ [168, 117, 169, 124, 125, 107, 126, 109, 251, 252, 253, 254, 255, 256, 257, 250] (by decide +kernel) (by decide +kernel)
set_option maxRecDepth 20000 in
theorem gX8_lag_X7_lagOf : GoodIn wsX8_lag (wsV RX8 139 RX7 yX7_lagOf wsX7_lagOf) := goodIn_app (goodIn_of _ (by decide +kernel)) ggX8_lag_X7_lagOf
theorem dX8_lag_0 : decode cX8_lag 0 = .ok (.aload_n 0, 1) := by decide +kernel
theorem dX8_lag_1 : decode cX8_lag 1 = .ok (.iload_n 1, 1) := by decide +kernel
theorem dX8_lag_2 : decode cX8_lag 2 = .ok (.invokevirtual 109, 3) := by decide +kernel
theorem dX8_lag_5 : decode cX8_lag 5 = .ok (.aload_n 0, 1) := by decide +kernel
theorem dX8_lag_6 : decode cX8_lag 6 = .ok (.invokevirtual 127, 3) := by decide +kernel
theorem dX8_lag_9 : decode cX8_lag 9 = .ok (.aload_n 0, 1) := by decide +kernel
theorem dX8_lag_10 : decode cX8_lag 10 = .ok (.getfield 33, 3) := by decide +kernel
theorem dX8_lag_13 : decode cX8_lag 13 = .ok (.iload_n 1, 1) := by decide +kernel
theorem dX8_lag_14 : decode cX8_lag 14 = .ok (.invokevirtual 139, 3) := by decide +kernel
theorem dX8_lag_17 : decode cX8_lag 17 = .ok (.ireturn, 1) := by decide +kernel
set_option maxRecDepth 20000 in
theorem ggX8_period_X8_requireFrame : GoodIn wsX8_period wsX8_requireFrame := goodIn_ca (goodIn_r _ [6, 7, 8, 9, 10, 11, 12, 13, 14, 15, 5, 16, 17, 18, 234, 235, 236, 237, 238, 239, 240, 241, 242] (by decide +kernel) (by decide +kernel)) (goodIn_sub (fun _ h => List.mem_cons_of_mem _ (List.mem_append_right _ h)) (by decide +kernel))
set_option maxRecDepth 20000 in
theorem gX8_period_X8_requireFrame : GoodIn wsX8_period (wsV RX8 109 RX8 yX8_requireFrame wsX8_requireFrame) := goodIn_app (goodIn_of _ (by decide +kernel)) ggX8_period_X8_requireFrame
set_option maxRecDepth 20000 in
theorem ggX8_period_X8_settle : GoodIn wsX8_period wsX8_settle := goodIn_r _ [22, 7, 23, 24, 25, 26, 1, 27, 8, 9, 10, 11, 12, 13, 28, 29, 30, 31, 32, 33, 34, 35, 36, 37, 38, 39, 40, 41, 42, 43, 44, 45, 46, 47, 48, 49, 50, 51, 52, 53, 54, 55, 56, 57, 58, 59, 60, 61, 62, 63, 64, 65, 66, 67, 68, 69, 70, 71, 72, 73, 74, 75, 76, 77, 78, 79, 80, 81, 82, 83, 84, 85, 86, 87, 88, 89, 90, 91, 92, 93, 94, 95, 96, 97, 98, 99, 100, 101, 102, 5, 103, 104, 105, 106, 107, 108, 109, 110, 111, 112, 113, 114, 115, 116, 117, 118, 119, 120, 121, 122, 123, 124, 125, 126, 127, 128, 129, 130, 131, 132, 133, 134, 135, 136, 137, 138, 139, 140, 141, 142, 143, 144, 145, 146, 147, 148, 149, 150, 151, 152, 153, 154, 155, 156, 157, 158, 159, 160, 161, 162, 163, 164, 165, 166, 167, 168, 169, 170, 171, 172, 173, 174, 175, 176, 177, 178, 179, 180, 181, 182, 183, 184, 185, 186, 187, 188, 189, 190, 191, 192, 193, 194, 195, 196, 197, 198, 199, 200, 201, 202, 203, 204, 205, 206, 207, 208, 209, 210, 211, 212, 213, 214, 215, 216, 217, 218, 219, 220, 221, 222, 223, 224, 225, 226, 227, 228, 229, 234, 235, 236, 237, 238, 239, 240, 241, 242, 243, 244, 245, 246, 247, 248, 249, 250, 251, 252, 253, 254, 255, 256, 257, 258, 259, 260, 261, 262, 263, 264, 265, 266, 267, 268] (by decide +kernel) (by decide +kernel)
set_option maxRecDepth 20000 in
theorem gX8_period_X8_settle : GoodIn wsX8_period (wsV RX8 127 RX8 yX8_settle wsX8_settle) := goodIn_app (goodIn_of _ (by decide +kernel)) ggX8_period_X8_settle
set_option maxRecDepth 20000 in
theorem ggX8_period_X3_periodOf : GoodIn wsX8_period wsX3_periodOf := goodIn_r _ [233, 163, 212, 124, 125, 107, 126, 109, 261, 262, 263, 264, 253] (by decide +kernel) (by decide +kernel)
set_option maxRecDepth 20000 in
theorem gX8_period_X3_periodOf : GoodIn wsX8_period (wsV RX8 141 RX3 yX3_periodOf wsX3_periodOf) := goodIn_app (goodIn_of _ (by decide +kernel)) ggX8_period_X3_periodOf
theorem dX8_period_0 : decode cX8_period 0 = .ok (.aload_n 0, 1) := by decide +kernel
theorem dX8_period_1 : decode cX8_period 1 = .ok (.iload_n 1, 1) := by decide +kernel
theorem dX8_period_2 : decode cX8_period 2 = .ok (.invokevirtual 109, 3) := by decide +kernel
theorem dX8_period_5 : decode cX8_period 5 = .ok (.aload_n 0, 1) := by decide +kernel
theorem dX8_period_6 : decode cX8_period 6 = .ok (.invokevirtual 127, 3) := by decide +kernel
theorem dX8_period_9 : decode cX8_period 9 = .ok (.aload_n 0, 1) := by decide +kernel
theorem dX8_period_10 : decode cX8_period 10 = .ok (.getfield 40, 3) := by decide +kernel
theorem dX8_period_13 : decode cX8_period 13 = .ok (.iload_n 1, 1) := by decide +kernel
theorem dX8_period_14 : decode cX8_period 14 = .ok (.invokevirtual 141, 3) := by decide +kernel
theorem dX8_period_17 : decode cX8_period 17 = .ok (.ireturn, 1) := by decide +kernel
set_option maxRecDepth 20000 in
theorem ggX8_name_X8_requireFrame : GoodIn wsX8_name wsX8_requireFrame := goodIn_ca (goodIn_r _ [6, 7, 8, 9, 10, 11, 12, 13, 14, 15, 5, 16, 17, 18, 234, 235, 236, 237, 238, 239, 240, 241, 242] (by decide +kernel) (by decide +kernel)) (goodIn_sub (fun _ h => List.mem_cons_of_mem _ (List.mem_append_right _ h)) (by decide +kernel))
set_option maxRecDepth 20000 in
theorem gX8_name_X8_requireFrame : GoodIn wsX8_name (wsV RX8 109 RX8 yX8_requireFrame wsX8_requireFrame) := goodIn_app (goodIn_of _ (by decide +kernel)) ggX8_name_X8_requireFrame
set_option maxRecDepth 20000 in
theorem ggX8_name_X8_settle : GoodIn wsX8_name wsX8_settle := goodIn_r _ [22, 7, 23, 24, 25, 26, 1, 27, 8, 9, 10, 11, 12, 13, 28, 29, 30, 31, 32, 33, 34, 35, 36, 37, 38, 39, 40, 41, 42, 43, 44, 45, 46, 47, 48, 49, 50, 51, 52, 53, 54, 55, 56, 57, 58, 59, 60, 61, 62, 63, 64, 65, 66, 67, 68, 69, 70, 71, 72, 73, 74, 75, 76, 77, 78, 79, 80, 81, 82, 83, 84, 85, 86, 87, 88, 89, 90, 91, 92, 93, 94, 95, 96, 97, 98, 99, 100, 101, 102, 5, 103, 104, 105, 106, 107, 108, 109, 110, 111, 112, 113, 114, 115, 116, 117, 118, 119, 120, 121, 122, 123, 124, 125, 126, 127, 128, 129, 130, 131, 132, 133, 134, 135, 136, 137, 138, 139, 140, 141, 142, 143, 144, 145, 146, 147, 148, 149, 150, 151, 152, 153, 154, 155, 156, 157, 158, 159, 160, 161, 162, 163, 164, 165, 166, 167, 168, 169, 170, 171, 172, 173, 174, 175, 176, 177, 178, 179, 180, 181, 182, 183, 184, 185, 186, 187, 188, 189, 190, 191, 192, 193, 194, 195, 196, 197, 198, 199, 200, 201, 202, 203, 204, 205, 206, 207, 208, 209, 210, 211, 212, 213, 214, 215, 216, 217, 218, 219, 220, 221, 222, 223, 224, 225, 226, 227, 228, 229, 234, 235, 236, 237, 238, 239, 240, 241, 242, 243, 244, 245, 246, 247, 248, 249, 250, 251, 252, 253, 254, 255, 256, 257, 258, 259, 260, 261, 262, 263, 264, 265, 266, 267, 268] (by decide +kernel) (by decide +kernel)
set_option maxRecDepth 20000 in
theorem gX8_name_X8_settle : GoodIn wsX8_name (wsV RX8 127 RX8 yX8_settle wsX8_settle) := goodIn_app (goodIn_of _ (by decide +kernel)) ggX8_name_X8_settle
set_option maxRecDepth 20000 in
theorem ggX8_name_X3_nameOf : GoodIn wsX8_name wsX3_nameOf := goodIn_r _ [233, 164, 212, 124, 125, 107, 126, 109, 261, 262, 263, 264, 253] (by decide +kernel) (by decide +kernel)
set_option maxRecDepth 20000 in
theorem gX8_name_X3_nameOf : GoodIn wsX8_name (wsV RX8 144 RX3 yX3_nameOf wsX3_nameOf) := goodIn_app (goodIn_of _ (by decide +kernel)) ggX8_name_X3_nameOf
theorem dX8_name_0 : decode cX8_name 0 = .ok (.aload_n 0, 1) := by decide +kernel
theorem dX8_name_1 : decode cX8_name 1 = .ok (.iload_n 1, 1) := by decide +kernel
theorem dX8_name_2 : decode cX8_name 2 = .ok (.invokevirtual 109, 3) := by decide +kernel
theorem dX8_name_5 : decode cX8_name 5 = .ok (.aload_n 0, 1) := by decide +kernel
theorem dX8_name_6 : decode cX8_name 6 = .ok (.invokevirtual 127, 3) := by decide +kernel
theorem dX8_name_9 : decode cX8_name 9 = .ok (.aload_n 0, 1) := by decide +kernel
theorem dX8_name_10 : decode cX8_name 10 = .ok (.getfield 40, 3) := by decide +kernel
theorem dX8_name_13 : decode cX8_name 13 = .ok (.iload_n 1, 1) := by decide +kernel
theorem dX8_name_14 : decode cX8_name 14 = .ok (.invokevirtual 144, 3) := by decide +kernel
theorem dX8_name_17 : decode cX8_name 17 = .ok (.ireturn, 1) := by decide +kernel
set_option maxRecDepth 20000 in
theorem ggX8_octave_X8_requireFrame : GoodIn wsX8_octave wsX8_requireFrame := goodIn_ca (goodIn_r _ [6, 7, 8, 9, 10, 11, 12, 13, 14, 15, 5, 16, 17, 18, 234, 235, 236, 237, 238, 239, 240, 241, 242] (by decide +kernel) (by decide +kernel)) (goodIn_sub (fun _ h => List.mem_cons_of_mem _ (List.mem_append_right _ h)) (by decide +kernel))
set_option maxRecDepth 20000 in
theorem gX8_octave_X8_requireFrame : GoodIn wsX8_octave (wsV RX8 109 RX8 yX8_requireFrame wsX8_requireFrame) := goodIn_app (goodIn_of _ (by decide +kernel)) ggX8_octave_X8_requireFrame
set_option maxRecDepth 20000 in
theorem ggX8_octave_X8_settle : GoodIn wsX8_octave wsX8_settle := goodIn_r _ [22, 7, 23, 24, 25, 26, 1, 27, 8, 9, 10, 11, 12, 13, 28, 29, 30, 31, 32, 33, 34, 35, 36, 37, 38, 39, 40, 41, 42, 43, 44, 45, 46, 47, 48, 49, 50, 51, 52, 53, 54, 55, 56, 57, 58, 59, 60, 61, 62, 63, 64, 65, 66, 67, 68, 69, 70, 71, 72, 73, 74, 75, 76, 77, 78, 79, 80, 81, 82, 83, 84, 85, 86, 87, 88, 89, 90, 91, 92, 93, 94, 95, 96, 97, 98, 99, 100, 101, 102, 5, 103, 104, 105, 106, 107, 108, 109, 110, 111, 112, 113, 114, 115, 116, 117, 118, 119, 120, 121, 122, 123, 124, 125, 126, 127, 128, 129, 130, 131, 132, 133, 134, 135, 136, 137, 138, 139, 140, 141, 142, 143, 144, 145, 146, 147, 148, 149, 150, 151, 152, 153, 154, 155, 156, 157, 158, 159, 160, 161, 162, 163, 164, 165, 166, 167, 168, 169, 170, 171, 172, 173, 174, 175, 176, 177, 178, 179, 180, 181, 182, 183, 184, 185, 186, 187, 188, 189, 190, 191, 192, 193, 194, 195, 196, 197, 198, 199, 200, 201, 202, 203, 204, 205, 206, 207, 208, 209, 210, 211, 212, 213, 214, 215, 216, 217, 218, 219, 220, 221, 222, 223, 224, 225, 226, 227, 228, 229, 234, 235, 236, 237, 238, 239, 240, 241, 242, 243, 244, 245, 246, 247, 248, 249, 250, 251, 252, 253, 254, 255, 256, 257, 258, 259, 260, 261, 262, 263, 264, 265, 266, 267, 268] (by decide +kernel) (by decide +kernel)
set_option maxRecDepth 20000 in
theorem gX8_octave_X8_settle : GoodIn wsX8_octave (wsV RX8 127 RX8 yX8_settle wsX8_settle) := goodIn_app (goodIn_of _ (by decide +kernel)) ggX8_octave_X8_settle
set_option maxRecDepth 20000 in
theorem ggX8_octave_X3_octaveOf : GoodIn wsX8_octave wsX3_octaveOf := goodIn_r _ [233, 164, 212, 124, 125, 107, 126, 109, 261, 262, 263, 264, 253] (by decide +kernel) (by decide +kernel)
set_option maxRecDepth 20000 in
theorem gX8_octave_X3_octaveOf : GoodIn wsX8_octave (wsV RX8 147 RX3 yX3_octaveOf wsX3_octaveOf) := goodIn_app (goodIn_of _ (by decide +kernel)) ggX8_octave_X3_octaveOf
theorem dX8_octave_0 : decode cX8_octave 0 = .ok (.aload_n 0, 1) := by decide +kernel
theorem dX8_octave_1 : decode cX8_octave 1 = .ok (.iload_n 1, 1) := by decide +kernel
theorem dX8_octave_2 : decode cX8_octave 2 = .ok (.invokevirtual 109, 3) := by decide +kernel
theorem dX8_octave_5 : decode cX8_octave 5 = .ok (.aload_n 0, 1) := by decide +kernel
theorem dX8_octave_6 : decode cX8_octave 6 = .ok (.invokevirtual 127, 3) := by decide +kernel
theorem dX8_octave_9 : decode cX8_octave 9 = .ok (.aload_n 0, 1) := by decide +kernel
theorem dX8_octave_10 : decode cX8_octave 10 = .ok (.getfield 40, 3) := by decide +kernel
theorem dX8_octave_13 : decode cX8_octave 13 = .ok (.iload_n 1, 1) := by decide +kernel
theorem dX8_octave_14 : decode cX8_octave 14 = .ok (.invokevirtual 147, 3) := by decide +kernel
theorem dX8_octave_17 : decode cX8_octave 17 = .ok (.ireturn, 1) := by decide +kernel
set_option maxRecDepth 20000 in
theorem ggX8_isOnset_X8_requireFrame : GoodIn wsX8_isOnset wsX8_requireFrame := goodIn_ca (goodIn_r _ [6, 1, 7, 8, 9, 10, 11, 12, 13, 14, 5, 15, 16, 17, 35, 36, 37, 38, 39, 40, 41, 42, 43] (by decide +kernel) (by decide +kernel)) (goodIn_sub (fun _ h => List.mem_cons_of_mem _ (List.mem_append_right _ h)) (by decide +kernel))
set_option maxRecDepth 20000 in
theorem gX8_isOnset_X8_requireFrame : GoodIn wsX8_isOnset (wsV RX8 109 RX8 yX8_requireFrame wsX8_requireFrame) := goodIn_app (goodIn_of _ (by decide +kernel)) ggX8_isOnset_X8_requireFrame
set_option maxRecDepth 20000 in
theorem ggX8_isOnset_X5_startsIn : GoodIn wsX8_isOnset wsX5_startsIn := goodIn_r _ [21, 22, 23, 24, 10, 25, 26, 27, 28, 29, 30, 31, 32, 33, 34, 42, 43] (by decide +kernel) (by decide +kernel)
set_option maxRecDepth 20000 in
theorem gX8_isOnset_X5_startsIn : GoodIn wsX8_isOnset (wsV RX8 150 RX5 yX5_startsIn wsX5_startsIn) := goodIn_app (goodIn_of _ (by decide +kernel)) ggX8_isOnset_X5_startsIn
theorem dX8_isOnset_0 : decode cX8_isOnset 0 = .ok (.aload_n 0, 1) := by decide +kernel
theorem dX8_isOnset_1 : decode cX8_isOnset 1 = .ok (.iload_n 1, 1) := by decide +kernel
theorem dX8_isOnset_2 : decode cX8_isOnset 2 = .ok (.invokevirtual 109, 3) := by decide +kernel
theorem dX8_isOnset_5 : decode cX8_isOnset 5 = .ok (.aload_n 0, 1) := by decide +kernel
theorem dX8_isOnset_6 : decode cX8_isOnset 6 = .ok (.getfield 10, 3) := by decide +kernel
theorem dX8_isOnset_9 : decode cX8_isOnset 9 = .ok (.iload_n 1, 1) := by decide +kernel
theorem dX8_isOnset_10 : decode cX8_isOnset 10 = .ok (.invokevirtual 150, 3) := by decide +kernel
theorem dX8_isOnset_13 : decode cX8_isOnset 13 = .ok (.ireturn, 1) := by decide +kernel
set_option maxRecDepth 20000 in
theorem ggX8_notes_X8_settle : GoodIn wsX8_notes wsX8_settle := goodIn_r _ [6, 7, 8, 9, 10, 11, 12, 1, 13, 14, 15, 16, 17, 18, 19, 20, 21, 22, 23, 24, 25, 26, 27, 28, 29, 30, 31, 32, 33, 34, 35, 36, 37, 38, 39, 40, 41, 42, 43, 44, 45, 46, 47, 48, 49, 50, 51, 52, 53, 54, 55, 56, 57, 58, 59, 60, 61, 62, 63, 64, 65, 66, 67, 68, 69, 70, 71, 72, 73, 74, 75, 76, 77, 78, 79, 80, 81, 82, 83, 84, 85, 86, 87, 88, 89, 90, 91, 92, 93, 5, 94, 95, 96, 97, 98, 99, 100, 101, 102, 103, 104, 105, 106, 107, 108, 109, 110, 111, 112, 113, 114, 115, 116, 117, 118, 119, 120, 121, 122, 123, 124, 125, 126, 127, 128, 129, 130, 131, 132, 133, 134, 135, 136, 137, 138, 139, 140, 141, 142, 143, 144, 145, 146, 147, 148, 149, 150, 151, 152, 153, 154, 155, 156, 157, 158, 159, 160, 161, 162, 163, 164, 165, 166, 167, 168, 169, 170, 171, 172, 173, 174, 175, 176, 177, 178, 179, 180, 181, 182, 183, 184, 185, 186, 187, 188, 189, 190, 191, 192, 193, 194, 195, 196, 197, 198, 199, 200, 201, 202, 203, 204, 205, 206, 207, 208, 209, 210, 211, 212, 213, 214, 215, 216, 217, 218, 219, 220, 225, 226, 227, 228, 229, 230, 231, 232, 233, 234, 235, 236, 237, 238, 239, 240, 241, 242, 243, 244, 245, 246, 247, 248, 249, 250, 251, 252, 253, 254, 255, 256, 257, 258, 259] (by decide +kernel) (by decide +kernel)
set_option maxRecDepth 20000 in
theorem gX8_notes_X8_settle : GoodIn wsX8_notes (wsV RX8 127 RX8 yX8_settle wsX8_settle) := goodIn_app (goodIn_of _ (by decide +kernel)) ggX8_notes_X8_settle
set_option maxRecDepth 20000 in
theorem ggX8_notes_X2_count : GoodIn wsX8_notes wsX2_count := goodIn_r _ [224, 195, 256, 257, 258, 259] (by decide +kernel) (by decide +kernel)
set_option maxRecDepth 20000 in
theorem gX8_notes_X2_count : GoodIn wsX8_notes (wsV RX8 154 RX2 yX2_count wsX2_count) := goodIn_app (goodIn_of _ (by decide +kernel)) ggX8_notes_X2_count
theorem dX8_notes_0 : decode cX8_notes 0 = .ok (.aload_n 0, 1) := by decide +kernel
theorem dX8_notes_1 : decode cX8_notes 1 = .ok (.invokevirtual 127, 3) := by decide +kernel
theorem dX8_notes_4 : decode cX8_notes 4 = .ok (.aload_n 0, 1) := by decide +kernel
theorem dX8_notes_5 : decode cX8_notes 5 = .ok (.getfield 47, 3) := by decide +kernel
theorem dX8_notes_8 : decode cX8_notes 8 = .ok (.invokevirtual 154, 3) := by decide +kernel
theorem dX8_notes_11 : decode cX8_notes 11 = .ok (.ireturn, 1) := by decide +kernel
set_option maxRecDepth 20000 in
theorem ggX8_noteStart_X8_settle : GoodIn wsX8_noteStart wsX8_settle := goodIn_r _ [6, 7, 8, 9, 10, 11, 12, 1, 13, 14, 15, 16, 17, 18, 19, 20, 21, 22, 23, 24, 25, 26, 27, 28, 29, 30, 31, 32, 33, 34, 35, 36, 37, 38, 39, 40, 41, 42, 43, 44, 45, 46, 47, 48, 49, 50, 51, 52, 53, 54, 55, 56, 57, 58, 59, 60, 61, 62, 63, 64, 65, 66, 67, 68, 69, 70, 71, 72, 73, 74, 75, 76, 77, 78, 79, 80, 81, 82, 83, 84, 85, 86, 87, 88, 89, 90, 91, 92, 93, 5, 94, 95, 96, 97, 98, 99, 100, 101, 102, 103, 104, 105, 106, 107, 108, 109, 110, 111, 112, 113, 114, 115, 116, 117, 118, 119, 120, 121, 122, 123, 124, 125, 126, 127, 128, 129, 130, 131, 132, 133, 134, 135, 136, 137, 138, 139, 140, 141, 142, 143, 144, 145, 146, 147, 148, 149, 150, 151, 152, 153, 154, 155, 156, 157, 158, 159, 160, 161, 162, 163, 164, 165, 166, 167, 168, 169, 170, 171, 172, 173, 174, 175, 176, 177, 178, 179, 180, 181, 182, 183, 184, 185, 186, 187, 188, 189, 190, 191, 192, 193, 194, 195, 196, 197, 198, 199, 200, 201, 202, 203, 204, 205, 206, 207, 208, 209, 210, 211, 212, 213, 214, 215, 216, 217, 218, 219, 220, 234, 235, 236, 237, 238, 239, 240, 241, 242, 243, 244, 245, 246, 247, 248, 249, 250, 251, 252, 253, 254, 255, 256, 257, 258, 259, 260, 261, 262, 263, 264, 265, 266, 267, 268] (by decide +kernel) (by decide +kernel)
set_option maxRecDepth 20000 in
theorem gX8_noteStart_X8_settle : GoodIn wsX8_noteStart (wsV RX8 127 RX8 yX8_settle wsX8_settle) := goodIn_app (goodIn_of _ (by decide +kernel)) ggX8_noteStart_X8_settle
set_option maxRecDepth 20000 in
theorem ggX8_noteStart_X2_count : GoodIn wsX8_noteStart wsX2_count := goodIn_r _ [224, 195, 265, 266, 267, 268] (by decide +kernel) (by decide +kernel)
set_option maxRecDepth 20000 in
theorem gX8_noteStart_X2_count : GoodIn wsX8_noteStart (wsV RX8 154 RX2 yX2_count wsX2_count) := goodIn_app (goodIn_of _ (by decide +kernel)) ggX8_noteStart_X2_count
set_option maxRecDepth 20000 in
theorem ggX8_noteStart_X8_requireIndex : GoodIn wsX8_noteStart wsX8_requireIndex := goodIn_ca (goodIn_r _ [227, 228, 229] (by decide +kernel) (by decide +kernel)) (goodIn_sub (fun _ h => List.mem_cons_of_mem _ (List.mem_append_right _ h)) (by decide +kernel))
set_option maxRecDepth 20000 in
theorem gX8_noteStart_X8_requireIndex : GoodIn wsX8_noteStart (va_wsS RX8 99 yX8_requireIndex wsX8_requireIndex) := goodIn_app (goodIn_of _ (by decide +kernel)) ggX8_noteStart_X8_requireIndex
set_option maxRecDepth 20000 in
theorem ggX8_noteStart_X2_startOf : GoodIn wsX8_noteStart wsX2_startOf := goodIn_r _ [233, 197, 220, 115, 116, 98, 117, 100, 265, 266, 267, 268, 253] (by decide +kernel) (by decide +kernel)
set_option maxRecDepth 20000 in
theorem gX8_noteStart_X2_startOf : GoodIn wsX8_noteStart (wsV RX8 155 RX2 yX2_startOf wsX2_startOf) := goodIn_app (goodIn_of _ (by decide +kernel)) ggX8_noteStart_X2_startOf
theorem dX8_noteStart_0 : decode cX8_noteStart 0 = .ok (.aload_n 0, 1) := by decide +kernel
theorem dX8_noteStart_1 : decode cX8_noteStart 1 = .ok (.invokevirtual 127, 3) := by decide +kernel
theorem dX8_noteStart_4 : decode cX8_noteStart 4 = .ok (.iload_n 1, 1) := by decide +kernel
theorem dX8_noteStart_5 : decode cX8_noteStart 5 = .ok (.aload_n 0, 1) := by decide +kernel
theorem dX8_noteStart_6 : decode cX8_noteStart 6 = .ok (.getfield 47, 3) := by decide +kernel
theorem dX8_noteStart_9 : decode cX8_noteStart 9 = .ok (.invokevirtual 154, 3) := by decide +kernel
theorem dX8_noteStart_12 : decode cX8_noteStart 12 = .ok (.invokestatic 99, 3) := by decide +kernel
theorem dX8_noteStart_15 : decode cX8_noteStart 15 = .ok (.aload_n 0, 1) := by decide +kernel
theorem dX8_noteStart_16 : decode cX8_noteStart 16 = .ok (.getfield 47, 3) := by decide +kernel
theorem dX8_noteStart_19 : decode cX8_noteStart 19 = .ok (.iload_n 1, 1) := by decide +kernel
theorem dX8_noteStart_20 : decode cX8_noteStart 20 = .ok (.invokevirtual 155, 3) := by decide +kernel
theorem dX8_noteStart_23 : decode cX8_noteStart 23 = .ok (.ireturn, 1) := by decide +kernel
set_option maxRecDepth 20000 in
theorem ggX8_noteLength_X8_settle : GoodIn wsX8_noteLength wsX8_settle := goodIn_r _ [6, 7, 8, 9, 10, 11, 12, 1, 13, 14, 15, 16, 17, 18, 19, 20, 21, 22, 23, 24, 25, 26, 27, 28, 29, 30, 31, 32, 33, 34, 35, 36, 37, 38, 39, 40, 41, 42, 43, 44, 45, 46, 47, 48, 49, 50, 51, 52, 53, 54, 55, 56, 57, 58, 59, 60, 61, 62, 63, 64, 65, 66, 67, 68, 69, 70, 71, 72, 73, 74, 75, 76, 77, 78, 79, 80, 81, 82, 83, 84, 85, 86, 87, 88, 89, 90, 91, 92, 93, 5, 94, 95, 96, 97, 98, 99, 100, 101, 102, 103, 104, 105, 106, 107, 108, 109, 110, 111, 112, 113, 114, 115, 116, 117, 118, 119, 120, 121, 122, 123, 124, 125, 126, 127, 128, 129, 130, 131, 132, 133, 134, 135, 136, 137, 138, 139, 140, 141, 142, 143, 144, 145, 146, 147, 148, 149, 150, 151, 152, 153, 154, 155, 156, 157, 158, 159, 160, 161, 162, 163, 164, 165, 166, 167, 168, 169, 170, 171, 172, 173, 174, 175, 176, 177, 178, 179, 180, 181, 182, 183, 184, 185, 186, 187, 188, 189, 190, 191, 192, 193, 194, 195, 196, 197, 198, 199, 200, 201, 202, 203, 204, 205, 206, 207, 208, 209, 210, 211, 212, 213, 214, 215, 216, 217, 218, 219, 220, 234, 235, 236, 237, 238, 239, 240, 241, 242, 243, 244, 245, 246, 247, 248, 249, 250, 251, 252, 253, 254, 255, 256, 257, 258, 259, 260, 261, 262, 263, 264, 265, 266, 267, 268] (by decide +kernel) (by decide +kernel)
set_option maxRecDepth 20000 in
theorem gX8_noteLength_X8_settle : GoodIn wsX8_noteLength (wsV RX8 127 RX8 yX8_settle wsX8_settle) := goodIn_app (goodIn_of _ (by decide +kernel)) ggX8_noteLength_X8_settle
set_option maxRecDepth 20000 in
theorem ggX8_noteLength_X2_count : GoodIn wsX8_noteLength wsX2_count := goodIn_r _ [224, 195, 265, 266, 267, 268] (by decide +kernel) (by decide +kernel)
set_option maxRecDepth 20000 in
theorem gX8_noteLength_X2_count : GoodIn wsX8_noteLength (wsV RX8 154 RX2 yX2_count wsX2_count) := goodIn_app (goodIn_of _ (by decide +kernel)) ggX8_noteLength_X2_count
set_option maxRecDepth 20000 in
theorem ggX8_noteLength_X8_requireIndex : GoodIn wsX8_noteLength wsX8_requireIndex := goodIn_ca (goodIn_r _ [227, 228, 229] (by decide +kernel) (by decide +kernel)) (goodIn_sub (fun _ h => List.mem_cons_of_mem _ (List.mem_append_right _ h)) (by decide +kernel))
set_option maxRecDepth 20000 in
theorem gX8_noteLength_X8_requireIndex : GoodIn wsX8_noteLength (va_wsS RX8 99 yX8_requireIndex wsX8_requireIndex) := goodIn_app (goodIn_of _ (by decide +kernel)) ggX8_noteLength_X8_requireIndex
set_option maxRecDepth 20000 in
theorem ggX8_noteLength_X2_lengthOf : GoodIn wsX8_noteLength wsX2_lengthOf := goodIn_r _ [233, 198, 220, 115, 116, 98, 117, 100, 265, 266, 267, 268, 253] (by decide +kernel) (by decide +kernel)
set_option maxRecDepth 20000 in
theorem gX8_noteLength_X2_lengthOf : GoodIn wsX8_noteLength (wsV RX8 158 RX2 yX2_lengthOf wsX2_lengthOf) := goodIn_app (goodIn_of _ (by decide +kernel)) ggX8_noteLength_X2_lengthOf
theorem dX8_noteLength_0 : decode cX8_noteLength 0 = .ok (.aload_n 0, 1) := by decide +kernel
theorem dX8_noteLength_1 : decode cX8_noteLength 1 = .ok (.invokevirtual 127, 3) := by decide +kernel
theorem dX8_noteLength_4 : decode cX8_noteLength 4 = .ok (.iload_n 1, 1) := by decide +kernel
theorem dX8_noteLength_5 : decode cX8_noteLength 5 = .ok (.aload_n 0, 1) := by decide +kernel
theorem dX8_noteLength_6 : decode cX8_noteLength 6 = .ok (.getfield 47, 3) := by decide +kernel
theorem dX8_noteLength_9 : decode cX8_noteLength 9 = .ok (.invokevirtual 154, 3) := by decide +kernel
theorem dX8_noteLength_12 : decode cX8_noteLength 12 = .ok (.invokestatic 99, 3) := by decide +kernel
theorem dX8_noteLength_15 : decode cX8_noteLength 15 = .ok (.aload_n 0, 1) := by decide +kernel
theorem dX8_noteLength_16 : decode cX8_noteLength 16 = .ok (.getfield 47, 3) := by decide +kernel
theorem dX8_noteLength_19 : decode cX8_noteLength 19 = .ok (.iload_n 1, 1) := by decide +kernel
theorem dX8_noteLength_20 : decode cX8_noteLength 20 = .ok (.invokevirtual 158, 3) := by decide +kernel
theorem dX8_noteLength_23 : decode cX8_noteLength 23 = .ok (.ireturn, 1) := by decide +kernel
set_option maxRecDepth 20000 in
theorem ggX8_noteOf_X8_requireFrame : GoodIn wsX8_noteOf wsX8_requireFrame := goodIn_ca (goodIn_r _ [6, 7, 8, 9, 10, 11, 12, 13, 14, 15, 5, 16, 17, 18, 234, 235, 236, 237, 238, 239, 240, 241, 242] (by decide +kernel) (by decide +kernel)) (goodIn_sub (fun _ h => List.mem_cons_of_mem _ (List.mem_append_right _ h)) (by decide +kernel))
set_option maxRecDepth 20000 in
theorem gX8_noteOf_X8_requireFrame : GoodIn wsX8_noteOf (wsV RX8 109 RX8 yX8_requireFrame wsX8_requireFrame) := goodIn_app (goodIn_of _ (by decide +kernel)) ggX8_noteOf_X8_requireFrame
set_option maxRecDepth 20000 in
theorem ggX8_noteOf_X8_settle : GoodIn wsX8_noteOf wsX8_settle := goodIn_r _ [22, 7, 23, 24, 25, 26, 27, 1, 8, 9, 10, 11, 12, 13, 28, 29, 30, 31, 32, 33, 34, 35, 36, 37, 38, 39, 40, 41, 42, 43, 44, 45, 46, 47, 48, 49, 50, 51, 52, 53, 54, 55, 56, 57, 58, 59, 60, 61, 62, 63, 64, 65, 66, 67, 68, 69, 70, 71, 72, 73, 74, 75, 76, 77, 78, 79, 80, 81, 82, 83, 84, 85, 86, 87, 88, 89, 90, 91, 92, 93, 94, 95, 96, 97, 98, 99, 100, 101, 102, 5, 103, 104, 105, 106, 107, 108, 109, 110, 111, 112, 113, 114, 115, 116, 117, 118, 119, 120, 121, 122, 123, 124, 125, 126, 127, 128, 129, 130, 131, 132, 133, 134, 135, 136, 137, 138, 139, 140, 141, 142, 143, 144, 145, 146, 147, 148, 149, 150, 151, 152, 153, 154, 155, 156, 157, 158, 159, 160, 161, 162, 163, 164, 165, 166, 167, 168, 169, 170, 171, 172, 173, 174, 175, 176, 177, 178, 179, 180, 181, 182, 183, 184, 185, 186, 187, 188, 189, 190, 191, 192, 193, 194, 195, 196, 197, 198, 199, 200, 201, 202, 203, 204, 205, 206, 207, 208, 209, 210, 211, 212, 213, 214, 215, 216, 217, 218, 219, 220, 221, 222, 223, 224, 225, 226, 227, 228, 229, 234, 235, 236, 237, 238, 239, 240, 241, 242, 243, 244, 245, 246, 247, 248, 249, 250, 251, 252, 253, 254, 255, 256, 257, 258, 259, 260, 261, 262, 263, 264, 265, 266, 267, 268] (by decide +kernel) (by decide +kernel)
set_option maxRecDepth 20000 in
theorem gX8_noteOf_X8_settle : GoodIn wsX8_noteOf (wsV RX8 127 RX8 yX8_settle wsX8_settle) := goodIn_app (goodIn_of _ (by decide +kernel)) ggX8_noteOf_X8_settle
set_option maxRecDepth 20000 in
theorem ggX8_noteOf_X2_holding : GoodIn wsX8_noteOf wsX2_holding := goodIn_r _ [233, 205, 229, 124, 125, 107, 126, 109, 265, 266, 267, 268, 253] (by decide +kernel) (by decide +kernel)
set_option maxRecDepth 20000 in
theorem gX8_noteOf_X2_holding : GoodIn wsX8_noteOf (wsV RX8 161 RX2 yX2_holding wsX2_holding) := goodIn_app (goodIn_of _ (by decide +kernel)) ggX8_noteOf_X2_holding
theorem dX8_noteOf_0 : decode cX8_noteOf 0 = .ok (.aload_n 0, 1) := by decide +kernel
theorem dX8_noteOf_1 : decode cX8_noteOf 1 = .ok (.iload_n 1, 1) := by decide +kernel
theorem dX8_noteOf_2 : decode cX8_noteOf 2 = .ok (.invokevirtual 109, 3) := by decide +kernel
theorem dX8_noteOf_5 : decode cX8_noteOf 5 = .ok (.aload_n 0, 1) := by decide +kernel
theorem dX8_noteOf_6 : decode cX8_noteOf 6 = .ok (.invokevirtual 127, 3) := by decide +kernel
theorem dX8_noteOf_9 : decode cX8_noteOf 9 = .ok (.aload_n 0, 1) := by decide +kernel
theorem dX8_noteOf_10 : decode cX8_noteOf 10 = .ok (.getfield 47, 3) := by decide +kernel
theorem dX8_noteOf_13 : decode cX8_noteOf 13 = .ok (.iload_n 1, 1) := by decide +kernel
theorem dX8_noteOf_14 : decode cX8_noteOf 14 = .ok (.invokevirtual 161, 3) := by decide +kernel
theorem dX8_noteOf_17 : decode cX8_noteOf 17 = .ok (.ireturn, 1) := by decide +kernel
theorem dX8_requireRange_0 : decode cX8_requireRange 0 = .ok (.iload_n 0, 1) := by decide +kernel
theorem dX8_requireRange_1 : decode cX8_requireRange 1 = .ok (.iload_n 1, 1) := by decide +kernel
theorem dX8_requireRange_2 : decode cX8_requireRange 2 = .ok (.if_icmp .lt 8, 3) := by decide +kernel
theorem dX8_requireRange_5 : decode cX8_requireRange 5 = .ok (.iload_n 0, 1) := by decide +kernel
theorem dX8_requireRange_6 : decode cX8_requireRange 6 = .ok (.iload_n 2, 1) := by decide +kernel
theorem dX8_requireRange_7 : decode cX8_requireRange 7 = .ok (.if_icmp .le 13, 3) := by decide +kernel
theorem dX8_requireRange_10 : decode cX8_requireRange 10 = .ok (.new 164, 3) := by decide +kernel
theorem dX8_requireRange_13 : decode cX8_requireRange 13 = .ok (.dup, 1) := by decide +kernel
theorem dX8_requireRange_14 : decode cX8_requireRange 14 = .ok (.ldc 166, 2) := by decide +kernel
theorem dX8_requireRange_16 : decode cX8_requireRange 16 = .ok (.invokespecial 168, 3) := by decide +kernel
theorem dX8_requireRange_19 : decode cX8_requireRange 19 = .ok (.athrow, 1) := by decide +kernel
theorem dX8_requireRange_20 : decode cX8_requireRange 20 = .ok (.return_, 1) := by decide +kernel
theorem dX8_requireIndex_0 : decode cX8_requireIndex 0 = .ok (.iload_n 0, 1) := by decide +kernel
theorem dX8_requireIndex_1 : decode cX8_requireIndex 1 = .ok (.ifCond .lt 8, 3) := by decide +kernel
theorem dX8_requireIndex_4 : decode cX8_requireIndex 4 = .ok (.iload_n 0, 1) := by decide +kernel
theorem dX8_requireIndex_5 : decode cX8_requireIndex 5 = .ok (.iload_n 1, 1) := by decide +kernel
theorem dX8_requireIndex_6 : decode cX8_requireIndex 6 = .ok (.if_icmp .lt 13, 3) := by decide +kernel
theorem dX8_requireIndex_9 : decode cX8_requireIndex 9 = .ok (.new 171, 3) := by decide +kernel
theorem dX8_requireIndex_12 : decode cX8_requireIndex 12 = .ok (.dup, 1) := by decide +kernel
theorem dX8_requireIndex_13 : decode cX8_requireIndex 13 = .ok (.ldc 173, 2) := by decide +kernel
theorem dX8_requireIndex_15 : decode cX8_requireIndex 15 = .ok (.invokespecial 175, 3) := by decide +kernel
theorem dX8_requireIndex_18 : decode cX8_requireIndex 18 = .ok (.athrow, 1) := by decide +kernel
theorem dX8_requireIndex_19 : decode cX8_requireIndex 19 = .ok (.return_, 1) := by decide +kernel
set_option maxRecDepth 20000 in
theorem ggX8_requireFrame_X5_frameCount : GoodIn wsX8_requireFrame wsX5_frameCount := goodIn_r _ [6, 7, 21, 22] (by decide +kernel) (by decide +kernel)
set_option maxRecDepth 20000 in
theorem gX8_requireFrame_X5_frameCount : GoodIn wsX8_requireFrame (wsV RX8 106 RX5 yX5_frameCount wsX5_frameCount) := goodIn_app (goodIn_of _ (by decide +kernel)) ggX8_requireFrame_X5_frameCount
set_option maxRecDepth 20000 in
theorem ggX8_requireFrame_X8_requireIndex : GoodIn wsX8_requireFrame wsX8_requireIndex := goodIn_ca (goodIn_r _ [11, 12, 13] (by decide +kernel) (by decide +kernel)) (goodIn_sub (fun _ h => List.mem_cons_of_mem _ (List.mem_append_right _ h)) (by decide +kernel))
set_option maxRecDepth 20000 in
theorem gX8_requireFrame_X8_requireIndex : GoodIn wsX8_requireFrame (va_wsS RX8 99 yX8_requireIndex wsX8_requireIndex) := goodIn_app (goodIn_of _ (by decide +kernel)) ggX8_requireFrame_X8_requireIndex
theorem dX8_requireFrame_0 : decode cX8_requireFrame 0 = .ok (.iload_n 1, 1) := by decide +kernel
theorem dX8_requireFrame_1 : decode cX8_requireFrame 1 = .ok (.aload_n 0, 1) := by decide +kernel
theorem dX8_requireFrame_2 : decode cX8_requireFrame 2 = .ok (.getfield 10, 3) := by decide +kernel
theorem dX8_requireFrame_5 : decode cX8_requireFrame 5 = .ok (.invokevirtual 106, 3) := by decide +kernel
theorem dX8_requireFrame_8 : decode cX8_requireFrame 8 = .ok (.invokestatic 99, 3) := by decide +kernel
theorem dX8_requireFrame_11 : decode cX8_requireFrame 11 = .ok (.return_, 1) := by decide +kernel
set_option maxRecDepth 20000 in
theorem ggX8_requireRoom_X5_count : GoodIn wsX8_requireRoom wsX5_count := goodIn_r _ [8, 9, 17, 18] (by decide +kernel) (by decide +kernel)
set_option maxRecDepth 20000 in
theorem gX8_requireRoom_X5_count : GoodIn wsX8_requireRoom (wsV RX8 66 RX5 yX5_count wsX5_count) := goodIn_app (goodIn_of _ (by decide +kernel)) ggX8_requireRoom_X5_count
theorem dX8_requireRoom_0 : decode cX8_requireRoom 0 = .ok (.iload_n 1, 1) := by decide +kernel
theorem dX8_requireRoom_1 : decode cX8_requireRoom 1 = .ok (.sipush 1024, 3) := by decide +kernel
theorem dX8_requireRoom_4 : decode cX8_requireRoom 4 = .ok (.aload_n 0, 1) := by decide +kernel
theorem dX8_requireRoom_5 : decode cX8_requireRoom 5 = .ok (.getfield 10, 3) := by decide +kernel
theorem dX8_requireRoom_8 : decode cX8_requireRoom 8 = .ok (.invokevirtual 66, 3) := by decide +kernel
theorem dX8_requireRoom_11 : decode cX8_requireRoom 11 = .ok (.isub, 1) := by decide +kernel
theorem dX8_requireRoom_12 : decode cX8_requireRoom 12 = .ok (.if_icmp .le 13, 3) := by decide +kernel
theorem dX8_requireRoom_15 : decode cX8_requireRoom 15 = .ok (.new 176, 3) := by decide +kernel
theorem dX8_requireRoom_18 : decode cX8_requireRoom 18 = .ok (.dup, 1) := by decide +kernel
theorem dX8_requireRoom_19 : decode cX8_requireRoom 19 = .ok (.ldc 178, 2) := by decide +kernel
theorem dX8_requireRoom_21 : decode cX8_requireRoom 21 = .ok (.invokespecial 180, 3) := by decide +kernel
theorem dX8_requireRoom_24 : decode cX8_requireRoom 24 = .ok (.athrow, 1) := by decide +kernel
theorem dX8_requireRoom_25 : decode cX8_requireRoom 25 = .ok (.return_, 1) := by decide +kernel
set_option maxRecDepth 20000 in
theorem ggX8_settle_X5_frameCount : GoodIn wsX8_settle wsX5_frameCount := goodIn_r _ [12, 13, 224, 225] (by decide +kernel) (by decide +kernel)
set_option maxRecDepth 20000 in
theorem gX8_settle_X5_frameCount : GoodIn wsX8_settle (wsV RX8 106 RX5 yX5_frameCount wsX5_frameCount) := goodIn_app (goodIn_of _ (by decide +kernel)) ggX8_settle_X5_frameCount
set_option maxRecDepth 20000 in
theorem ggX8_settle_X1_measure : GoodIn wsX8_settle wsX1_measure := goodIn_r _ [18, 19, 20, 9, 10, 11, 12, 13, 21, 22, 23, 17, 24, 25, 26, 27, 28, 29, 30, 31, 32, 33, 34, 35, 36, 37, 38, 39, 40, 41, 42, 226, 227, 228, 224, 225, 229, 230] (by decide +kernel) (by decide +kernel)
set_option maxRecDepth 20000 in
theorem gX8_settle_X1_measure : GoodIn wsX8_settle (wsV RX8 118 RX1 yX1_measure wsX1_measure) := goodIn_app (goodIn_of _ (by decide +kernel)) ggX8_settle_X1_measure
set_option maxRecDepth 20000 in
theorem ggX8_settle_X0_choose : GoodIn wsX8_settle wsX0_choose := goodIn_r _ [47, 48, 49, 50, 51, 46, 52, 53, 54, 55, 56, 57, 58, 59, 60, 61, 62, 63, 17, 64, 65, 66, 67, 68, 69, 26, 25, 70, 71, 72, 39, 73, 41, 42, 74, 75, 76, 77, 78, 79, 80, 81, 82, 37, 38, 40, 83, 84, 85, 86, 87, 88, 89, 90, 91, 92, 93, 94, 95, 96, 231, 232, 233, 234, 235, 226, 227, 228, 229, 230, 236] (by decide +kernel) (by decide +kernel)
set_option maxRecDepth 20000 in
theorem gX8_settle_X0_choose : GoodIn wsX8_settle (wsV RX8 181 RX0 yX0_choose wsX0_choose) := goodIn_app (goodIn_of _ (by decide +kernel)) ggX8_settle_X0_choose
set_option maxRecDepth 20000 in
theorem ggX8_settle_X7_find : GoodIn wsX8_settle wsX7_find := goodIn_r _ [101, 102, 103, 104, 105, 106, 107, 108, 46, 109, 55, 110, 111, 112, 94, 113, 96, 114, 115, 116, 100, 117, 118, 119, 120, 121, 122, 53, 123, 71, 72, 39, 73, 41, 42, 124, 125, 126, 127, 128, 129, 130, 131, 132, 133, 134, 135, 136, 137, 138, 54, 139, 37, 38, 40, 140, 141, 142, 143, 144, 92, 93, 95, 237, 238, 239, 240, 241, 242, 243, 231, 232, 233, 234, 235, 236, 229, 230] (by decide +kernel) (by decide +kernel)
set_option maxRecDepth 20000 in
theorem gX8_settle_X7_find : GoodIn wsX8_settle (wsV RX8 185 RX7 yX7_find wsX7_find) := goodIn_app (goodIn_of _ (by decide +kernel)) ggX8_settle_X7_find
set_option maxRecDepth 20000 in
theorem ggX8_settle_X3_find : GoodIn wsX8_settle wsX3_find := goodIn_r _ [149, 150, 151, 152, 153, 154, 100, 155, 104, 156, 111, 112, 94, 113, 96, 157, 158, 148, 159, 160, 161, 131, 162, 163, 164, 165, 166, 167, 168, 17, 169, 25, 70, 71, 72, 39, 73, 41, 42, 88, 89, 90, 170, 92, 93, 95, 171, 172, 173, 174, 175, 176, 177, 178, 179, 180, 181, 182, 183, 184, 185, 244, 245, 246, 247, 237, 238, 239, 240, 241, 242, 243, 236, 226, 227, 228, 229, 230] (by decide +kernel) (by decide +kernel)
set_option maxRecDepth 20000 in
theorem gX8_settle_X3_find : GoodIn wsX8_settle (wsV RX8 189 RX3 yX3_find wsX3_find) := goodIn_app (goodIn_of _ (by decide +kernel)) ggX8_settle_X3_find
set_option maxRecDepth 20000 in
theorem ggX8_settle_X2_cut : GoodIn wsX8_settle wsX2_cut := goodIn_r _ [190, 191, 192, 193, 194, 195, 196, 197, 148, 198, 151, 199, 111, 112, 94, 113, 96, 200, 92, 93, 95, 201, 202, 189, 203, 204, 205, 206, 11, 207, 208, 209, 210, 211, 212, 213, 214, 215, 31, 32, 33, 34, 35, 216, 248, 249, 250, 251, 244, 245, 246, 247, 236, 224, 225] (by decide +kernel) (by decide +kernel)
set_option maxRecDepth 20000 in
theorem gX8_settle_X2_cut : GoodIn wsX8_settle (wsV RX8 192 RX2 yX2_cut wsX2_cut) := goodIn_app (goodIn_of _ (by decide +kernel)) ggX8_settle_X2_cut
theorem dX8_settle_0 : decode cX8_settle 0 = .ok (.aload_n 0, 1) := by decide +kernel
theorem dX8_settle_1 : decode cX8_settle 1 = .ok (.getfield 10, 3) := by decide +kernel
theorem dX8_settle_4 : decode cX8_settle 4 = .ok (.invokevirtual 106, 3) := by decide +kernel
theorem dX8_settle_7 : decode cX8_settle 7 = .ok (.istore_n 1, 1) := by decide +kernel
theorem dX8_settle_8 : decode cX8_settle 8 = .ok (.aload_n 0, 1) := by decide +kernel
theorem dX8_settle_9 : decode cX8_settle 9 = .ok (.getfield 51, 3) := by decide +kernel
theorem dX8_settle_12 : decode cX8_settle 12 = .ok (.iload_n 1, 1) := by decide +kernel
theorem dX8_settle_13 : decode cX8_settle 13 = .ok (.if_icmp .ne 4, 3) := by decide +kernel
theorem dX8_settle_16 : decode cX8_settle 16 = .ok (.return_, 1) := by decide +kernel
theorem dX8_settle_17 : decode cX8_settle 17 = .ok (.aload_n 0, 1) := by decide +kernel
theorem dX8_settle_18 : decode cX8_settle 18 = .ok (.getfield 19, 3) := by decide +kernel
theorem dX8_settle_21 : decode cX8_settle 21 = .ok (.aload_n 0, 1) := by decide +kernel
theorem dX8_settle_22 : decode cX8_settle 22 = .ok (.getfield 10, 3) := by decide +kernel
theorem dX8_settle_25 : decode cX8_settle 25 = .ok (.invokevirtual 118, 3) := by decide +kernel
theorem dX8_settle_28 : decode cX8_settle 28 = .ok (.aload_n 0, 1) := by decide +kernel
theorem dX8_settle_29 : decode cX8_settle 29 = .ok (.getfield 26, 3) := by decide +kernel
theorem dX8_settle_32 : decode cX8_settle 32 = .ok (.aload_n 0, 1) := by decide +kernel
theorem dX8_settle_33 : decode cX8_settle 33 = .ok (.getfield 19, 3) := by decide +kernel
theorem dX8_settle_36 : decode cX8_settle 36 = .ok (.iload_n 1, 1) := by decide +kernel
theorem dX8_settle_37 : decode cX8_settle 37 = .ok (.invokevirtual 181, 3) := by decide +kernel
theorem dX8_settle_40 : decode cX8_settle 40 = .ok (.aload_n 0, 1) := by decide +kernel
theorem dX8_settle_41 : decode cX8_settle 41 = .ok (.getfield 33, 3) := by decide +kernel
theorem dX8_settle_44 : decode cX8_settle 44 = .ok (.aload_n 0, 1) := by decide +kernel
theorem dX8_settle_45 : decode cX8_settle 45 = .ok (.getfield 26, 3) := by decide +kernel
theorem dX8_settle_48 : decode cX8_settle 48 = .ok (.iload_n 1, 1) := by decide +kernel
theorem dX8_settle_49 : decode cX8_settle 49 = .ok (.invokevirtual 185, 3) := by decide +kernel
theorem dX8_settle_52 : decode cX8_settle 52 = .ok (.aload_n 0, 1) := by decide +kernel
theorem dX8_settle_53 : decode cX8_settle 53 = .ok (.getfield 40, 3) := by decide +kernel
theorem dX8_settle_56 : decode cX8_settle 56 = .ok (.aload_n 0, 1) := by decide +kernel
theorem dX8_settle_57 : decode cX8_settle 57 = .ok (.getfield 33, 3) := by decide +kernel
theorem dX8_settle_60 : decode cX8_settle 60 = .ok (.aload_n 0, 1) := by decide +kernel
theorem dX8_settle_61 : decode cX8_settle 61 = .ok (.getfield 19, 3) := by decide +kernel
theorem dX8_settle_64 : decode cX8_settle 64 = .ok (.iload_n 1, 1) := by decide +kernel
theorem dX8_settle_65 : decode cX8_settle 65 = .ok (.invokevirtual 189, 3) := by decide +kernel
theorem dX8_settle_68 : decode cX8_settle 68 = .ok (.aload_n 0, 1) := by decide +kernel
theorem dX8_settle_69 : decode cX8_settle 69 = .ok (.getfield 47, 3) := by decide +kernel
theorem dX8_settle_72 : decode cX8_settle 72 = .ok (.aload_n 0, 1) := by decide +kernel
theorem dX8_settle_73 : decode cX8_settle 73 = .ok (.getfield 40, 3) := by decide +kernel
theorem dX8_settle_76 : decode cX8_settle 76 = .ok (.aload_n 0, 1) := by decide +kernel
theorem dX8_settle_77 : decode cX8_settle 77 = .ok (.getfield 10, 3) := by decide +kernel
theorem dX8_settle_80 : decode cX8_settle 80 = .ok (.iload_n 1, 1) := by decide +kernel
theorem dX8_settle_81 : decode cX8_settle 81 = .ok (.invokevirtual 192, 3) := by decide +kernel
theorem dX8_settle_84 : decode cX8_settle 84 = .ok (.aload_n 0, 1) := by decide +kernel
theorem dX8_settle_85 : decode cX8_settle 85 = .ok (.iload_n 1, 1) := by decide +kernel
theorem dX8_settle_86 : decode cX8_settle 86 = .ok (.putfield 51, 3) := by decide +kernel
theorem dX8_settle_89 : decode cX8_settle 89 = .ok (.return_, 1) := by decide +kernel
set_option maxRecDepth 20000 in
theorem ggX8_waveAt_X8_quotient : GoodIn wsX8_waveAt wsX8_quotient := goodIn_r _ [4] (by decide +kernel) (by decide +kernel)
set_option maxRecDepth 20000 in
theorem gX8_waveAt_X8_quotient : GoodIn wsX8_waveAt (va_wsS RX8 196 yX8_quotient wsX8_quotient) := goodIn_app (goodIn_of _ (by decide +kernel)) ggX8_waveAt_X8_quotient
theorem dX8_waveAt_0 : decode cX8_waveAt 0 = .ok (.iload_n 0, 1) := by decide +kernel
theorem dX8_waveAt_1 : decode cX8_waveAt 1 = .ok (.iconst 2, 1) := by decide +kernel
theorem dX8_waveAt_2 : decode cX8_waveAt 2 = .ok (.if_icmp .ne 17, 3) := by decide +kernel
theorem dX8_waveAt_5 : decode cX8_waveAt 5 = .ok (.iconst 2, 1) := by decide +kernel
theorem dX8_waveAt_6 : decode cX8_waveAt 6 = .ok (.iload_n 1, 1) := by decide +kernel
theorem dX8_waveAt_7 : decode cX8_waveAt 7 = .ok (.imul, 1) := by decide +kernel
theorem dX8_waveAt_8 : decode cX8_waveAt 8 = .ok (.iload_n 2, 1) := by decide +kernel
theorem dX8_waveAt_9 : decode cX8_waveAt 9 = .ok (.if_icmp .ge 7, 3) := by decide +kernel
theorem dX8_waveAt_12 : decode cX8_waveAt 12 = .ok (.iload_n 3, 1) := by decide +kernel
theorem dX8_waveAt_13 : decode cX8_waveAt 13 = .ok (.goto 5, 3) := by decide +kernel
theorem dX8_waveAt_16 : decode cX8_waveAt 16 = .ok (.iload_n 3, 1) := by decide +kernel
theorem dX8_waveAt_17 : decode cX8_waveAt 17 = .ok (.ineg, 1) := by decide +kernel
theorem dX8_waveAt_18 : decode cX8_waveAt 18 = .ok (.ireturn, 1) := by decide +kernel
theorem dX8_waveAt_19 : decode cX8_waveAt 19 = .ok (.iload_n 1, 1) := by decide +kernel
theorem dX8_waveAt_20 : decode cX8_waveAt 20 = .ok (.istore 4, 2) := by decide +kernel
theorem dX8_waveAt_22 : decode cX8_waveAt 22 = .ok (.iload_n 0, 1) := by decide +kernel
theorem dX8_waveAt_23 : decode cX8_waveAt 23 = .ok (.iconst 1, 1) := by decide +kernel
theorem dX8_waveAt_24 : decode cX8_waveAt 24 = .ok (.if_icmp .ne 25, 3) := by decide +kernel
theorem dX8_waveAt_27 : decode cX8_waveAt 27 = .ok (.iconst 2, 1) := by decide +kernel
theorem dX8_waveAt_28 : decode cX8_waveAt 28 = .ok (.iload_n 1, 1) := by decide +kernel
theorem dX8_waveAt_29 : decode cX8_waveAt 29 = .ok (.imul, 1) := by decide +kernel
theorem dX8_waveAt_30 : decode cX8_waveAt 30 = .ok (.iload_n 2, 1) := by decide +kernel
theorem dX8_waveAt_31 : decode cX8_waveAt 31 = .ok (.if_icmp .gt 9, 3) := by decide +kernel
theorem dX8_waveAt_34 : decode cX8_waveAt 34 = .ok (.iconst 2, 1) := by decide +kernel
theorem dX8_waveAt_35 : decode cX8_waveAt 35 = .ok (.iload_n 1, 1) := by decide +kernel
theorem dX8_waveAt_36 : decode cX8_waveAt 36 = .ok (.imul, 1) := by decide +kernel
theorem dX8_waveAt_37 : decode cX8_waveAt 37 = .ok (.goto 10, 3) := by decide +kernel
theorem dX8_waveAt_40 : decode cX8_waveAt 40 = .ok (.iconst 2, 1) := by decide +kernel
theorem dX8_waveAt_41 : decode cX8_waveAt 41 = .ok (.iload_n 2, 1) := by decide +kernel
theorem dX8_waveAt_42 : decode cX8_waveAt 42 = .ok (.imul, 1) := by decide +kernel
theorem dX8_waveAt_43 : decode cX8_waveAt 43 = .ok (.iconst 2, 1) := by decide +kernel
theorem dX8_waveAt_44 : decode cX8_waveAt 44 = .ok (.iload_n 1, 1) := by decide +kernel
theorem dX8_waveAt_45 : decode cX8_waveAt 45 = .ok (.imul, 1) := by decide +kernel
theorem dX8_waveAt_46 : decode cX8_waveAt 46 = .ok (.isub, 1) := by decide +kernel
theorem dX8_waveAt_47 : decode cX8_waveAt 47 = .ok (.istore 4, 2) := by decide +kernel
theorem dX8_waveAt_49 : decode cX8_waveAt 49 = .ok (.iconst 2, 1) := by decide +kernel
theorem dX8_waveAt_50 : decode cX8_waveAt 50 = .ok (.iload_n 3, 1) := by decide +kernel
theorem dX8_waveAt_51 : decode cX8_waveAt 51 = .ok (.imul, 1) := by decide +kernel
theorem dX8_waveAt_52 : decode cX8_waveAt 52 = .ok (.iload 4, 2) := by decide +kernel
theorem dX8_waveAt_54 : decode cX8_waveAt 54 = .ok (.imul, 1) := by decide +kernel
theorem dX8_waveAt_55 : decode cX8_waveAt 55 = .ok (.i2l, 1) := by decide +kernel
theorem dX8_waveAt_56 : decode cX8_waveAt 56 = .ok (.iload_n 2, 1) := by decide +kernel
theorem dX8_waveAt_57 : decode cX8_waveAt 57 = .ok (.i2l, 1) := by decide +kernel
theorem dX8_waveAt_58 : decode cX8_waveAt 58 = .ok (.invokestatic 196, 3) := by decide +kernel
theorem dX8_waveAt_61 : decode cX8_waveAt 61 = .ok (.l2i, 1) := by decide +kernel
theorem dX8_waveAt_62 : decode cX8_waveAt 62 = .ok (.iload_n 3, 1) := by decide +kernel
theorem dX8_waveAt_63 : decode cX8_waveAt 63 = .ok (.isub, 1) := by decide +kernel
theorem dX8_waveAt_64 : decode cX8_waveAt 64 = .ok (.ireturn, 1) := by decide +kernel
theorem dX8_noiseOf_0 : decode cX8_noiseOf 0 = .ok (.iconst 2, 1) := by decide +kernel
theorem dX8_noiseOf_1 : decode cX8_noiseOf 1 = .ok (.iload_n 1, 1) := by decide +kernel
theorem dX8_noiseOf_2 : decode cX8_noiseOf 2 = .ok (.imul, 1) := by decide +kernel
theorem dX8_noiseOf_3 : decode cX8_noiseOf 3 = .ok (.iconst 1, 1) := by decide +kernel
theorem dX8_noiseOf_4 : decode cX8_noiseOf 4 = .ok (.iadd, 1) := by decide +kernel
theorem dX8_noiseOf_5 : decode cX8_noiseOf 5 = .ok (.istore_n 2, 1) := by decide +kernel
theorem dX8_noiseOf_6 : decode cX8_noiseOf 6 = .ok (.iload_n 2, 1) := by decide +kernel
theorem dX8_noiseOf_7 : decode cX8_noiseOf 7 = .ok (.ifCond .le 14, 3) := by decide +kernel
theorem dX8_noiseOf_10 : decode cX8_noiseOf 10 = .ok (.iload_n 0, 1) := by decide +kernel
theorem dX8_noiseOf_11 : decode cX8_noiseOf 11 = .ok (.bipush 16, 2) := by decide +kernel
theorem dX8_noiseOf_13 : decode cX8_noiseOf 13 = .ok (.iushr, 1) := by decide +kernel
theorem dX8_noiseOf_14 : decode cX8_noiseOf 14 = .ok (.iload_n 2, 1) := by decide +kernel
theorem dX8_noiseOf_15 : decode cX8_noiseOf 15 = .ok (.irem, 1) := by decide +kernel
theorem dX8_noiseOf_16 : decode cX8_noiseOf 16 = .ok (.iload_n 1, 1) := by decide +kernel
theorem dX8_noiseOf_17 : decode cX8_noiseOf 17 = .ok (.isub, 1) := by decide +kernel
theorem dX8_noiseOf_18 : decode cX8_noiseOf 18 = .ok (.goto 4, 3) := by decide +kernel
theorem dX8_noiseOf_21 : decode cX8_noiseOf 21 = .ok (.iconst 0, 1) := by decide +kernel
theorem dX8_noiseOf_22 : decode cX8_noiseOf 22 = .ok (.ireturn, 1) := by decide +kernel
theorem dX8_quotient_0 : decode cX8_quotient 0 = .ok (.lload_n 2, 1) := by decide +kernel
theorem dX8_quotient_1 : decode cX8_quotient 1 = .ok (.lconst 0, 1) := by decide +kernel
theorem dX8_quotient_2 : decode cX8_quotient 2 = .ok (.lcmp, 1) := by decide +kernel
theorem dX8_quotient_3 : decode cX8_quotient 3 = .ok (.ifCond .le 9, 3) := by decide +kernel
theorem dX8_quotient_6 : decode cX8_quotient 6 = .ok (.lload_n 0, 1) := by decide +kernel
theorem dX8_quotient_7 : decode cX8_quotient 7 = .ok (.lload_n 2, 1) := by decide +kernel
theorem dX8_quotient_8 : decode cX8_quotient 8 = .ok (.ldiv, 1) := by decide +kernel
theorem dX8_quotient_9 : decode cX8_quotient 9 = .ok (.goto 4, 3) := by decide +kernel
theorem dX8_quotient_12 : decode cX8_quotient 12 = .ok (.lconst 0, 1) := by decide +kernel
theorem dX8_quotient_13 : decode cX8_quotient 13 = .ok (.lreturn, 1) := by decide +kernel
