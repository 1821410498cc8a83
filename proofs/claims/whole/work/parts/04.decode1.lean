set_option maxRecDepth 20000 in
theorem ggX0_init_X4_init : GoodIn wsX0_init wsX4_init := goodIn_r _ [16, 17, 2, 3, 18, 19, 26] (by decide +kernel) (by decide +kernel)
set_option maxRecDepth 20000 in
theorem gX0_init_X4_init : GoodIn wsX0_init (wsX4_init) := ggX0_init_X4_init
set_option maxRecDepth 20000 in
theorem ggX0_init_X6_init : GoodIn wsX0_init wsX6_init := goodIn_r _ [22, 23, 2, 3, 24, 18, 25, 32, 33] (by decide +kernel) (by decide +kernel)
set_option maxRecDepth 20000 in
theorem gX0_init_X6_init : GoodIn wsX0_init (wsX6_init) := ggX0_init_X6_init
theorem dX0_init_0 : decode cX0_init 0 = .ok (.aload_n 0, 1) := by decide +kernel
theorem dX0_init_1 : decode cX0_init 1 = .ok (.invokespecial 3, 3) := by decide +kernel
theorem dX0_init_4 : decode cX0_init 4 = .ok (.aload_n 0, 1) := by decide +kernel
theorem dX0_init_5 : decode cX0_init 5 = .ok (.new 9, 3) := by decide +kernel
theorem dX0_init_8 : decode cX0_init 8 = .ok (.dup, 1) := by decide +kernel
theorem dX0_init_9 : decode cX0_init 9 = .ok (.bipush 29, 2) := by decide +kernel
theorem dX0_init_11 : decode cX0_init 11 = .ok (.invokespecial 11, 3) := by decide +kernel
theorem dX0_init_14 : decode cX0_init 14 = .ok (.putfield 14, 3) := by decide +kernel
theorem dX0_init_17 : decode cX0_init 17 = .ok (.aload_n 0, 1) := by decide +kernel
theorem dX0_init_18 : decode cX0_init 18 = .ok (.new 20, 3) := by decide +kernel
theorem dX0_init_21 : decode cX0_init 21 = .ok (.dup, 1) := by decide +kernel
theorem dX0_init_22 : decode cX0_init 22 = .ok (.bipush 9, 2) := by decide +kernel
theorem dX0_init_24 : decode cX0_init 24 = .ok (.invokespecial 22, 3) := by decide +kernel
theorem dX0_init_27 : decode cX0_init 27 = .ok (.putfield 23, 3) := by decide +kernel
theorem dX0_init_30 : decode cX0_init 30 = .ok (.aload_n 0, 1) := by decide +kernel
theorem dX0_init_31 : decode cX0_init 31 = .ok (.new 20, 3) := by decide +kernel
theorem dX0_init_34 : decode cX0_init 34 = .ok (.dup, 1) := by decide +kernel
theorem dX0_init_35 : decode cX0_init 35 = .ok (.bipush 9, 2) := by decide +kernel
theorem dX0_init_37 : decode cX0_init 37 = .ok (.invokespecial 22, 3) := by decide +kernel
theorem dX0_init_40 : decode cX0_init 40 = .ok (.putfield 27, 3) := by decide +kernel
theorem dX0_init_43 : decode cX0_init 43 = .ok (.aload_n 0, 1) := by decide +kernel
theorem dX0_init_44 : decode cX0_init 44 = .ok (.bipush 20, 2) := by decide +kernel
theorem dX0_init_46 : decode cX0_init 46 = .ok (.putfield 30, 3) := by decide +kernel
theorem dX0_init_49 : decode cX0_init 49 = .ok (.return_, 1) := by decide +kernel
theorem dX0_threshold_0 : decode cX0_threshold 0 = .ok (.aload_n 0, 1) := by decide +kernel
theorem dX0_threshold_1 : decode cX0_threshold 1 = .ok (.getfield 30, 3) := by decide +kernel
theorem dX0_threshold_4 : decode cX0_threshold 4 = .ok (.ireturn, 1) := by decide +kernel
set_option maxRecDepth 20000 in
theorem ggX0_useThreshold_X0_forget : GoodIn wsX0_useThreshold wsX0_forget := goodIn_r _ [6, 7, 8, 9, 10, 11, 12] (by decide +kernel) (by decide +kernel)
set_option maxRecDepth 20000 in
theorem gX0_useThreshold_X0_forget : GoodIn wsX0_useThreshold (wsV RX0 34 RX0 yX0_forget wsX0_forget) := goodIn_app (goodIn_of _ (by decide +kernel)) ggX0_useThreshold_X0_forget
theorem dX0_useThreshold_0 : decode cX0_useThreshold 0 = .ok (.aload_n 0, 1) := by decide +kernel
theorem dX0_useThreshold_1 : decode cX0_useThreshold 1 = .ok (.iload_n 1, 1) := by decide +kernel
theorem dX0_useThreshold_2 : decode cX0_useThreshold 2 = .ok (.putfield 30, 3) := by decide +kernel
theorem dX0_useThreshold_5 : decode cX0_useThreshold 5 = .ok (.aload_n 0, 1) := by decide +kernel
theorem dX0_useThreshold_6 : decode cX0_useThreshold 6 = .ok (.invokevirtual 34, 3) := by decide +kernel
theorem dX0_useThreshold_9 : decode cX0_useThreshold 9 = .ok (.return_, 1) := by decide +kernel
theorem dX0_forget_0 : decode cX0_forget 0 = .ok (.aload_n 0, 1) := by decide +kernel
theorem dX0_forget_1 : decode cX0_forget 1 = .ok (.iconst 0, 1) := by decide +kernel
theorem dX0_forget_2 : decode cX0_forget 2 = .ok (.putfield 37, 3) := by decide +kernel
theorem dX0_forget_5 : decode cX0_forget 5 = .ok (.return_, 1) := by decide +kernel
set_option maxRecDepth 20000 in
theorem ggX0_choose_X0_chooseInFrame : GoodIn wsX0_choose wsX0_chooseInFrame := goodIn_r _ [6, 7, 8, 9, 10, 11, 12, 5, 13, 14, 15, 16, 17, 18, 19, 20, 21, 22, 23, 24, 25, 26, 27, 28, 29, 30, 31, 32, 33, 34, 35, 36, 37, 38, 39, 40, 41, 42, 43, 44, 45, 46, 47, 48, 49, 50, 51, 52, 53, 54, 55, 56, 57, 58, 59, 60, 61, 62, 63, 64, 65, 66, 67, 68, 69, 70] (by decide +kernel) (by decide +kernel)
set_option maxRecDepth 20000 in
theorem gX0_choose_X0_chooseInFrame : GoodIn wsX0_choose (wsV RX0 40 RX0 yX0_chooseInFrame wsX0_chooseInFrame) := goodIn_app (goodIn_of _ (by decide +kernel)) ggX0_choose_X0_chooseInFrame
theorem dX0_choose_0 : decode cX0_choose 0 = .ok (.aload_n 0, 1) := by decide +kernel
theorem dX0_choose_1 : decode cX0_choose 1 = .ok (.getfield 37, 3) := by decide +kernel
theorem dX0_choose_4 : decode cX0_choose 4 = .ok (.istore_n 3, 1) := by decide +kernel
theorem dX0_choose_5 : decode cX0_choose 5 = .ok (.iload_n 3, 1) := by decide +kernel
theorem dX0_choose_6 : decode cX0_choose 6 = .ok (.iload_n 2, 1) := by decide +kernel
theorem dX0_choose_7 : decode cX0_choose 7 = .ok (.if_icmp .ge 15, 3) := by decide +kernel
theorem dX0_choose_10 : decode cX0_choose 10 = .ok (.aload_n 0, 1) := by decide +kernel
theorem dX0_choose_11 : decode cX0_choose 11 = .ok (.aload_n 1, 1) := by decide +kernel
theorem dX0_choose_12 : decode cX0_choose 12 = .ok (.iload_n 3, 1) := by decide +kernel
theorem dX0_choose_13 : decode cX0_choose 13 = .ok (.invokevirtual 40, 3) := by decide +kernel
theorem dX0_choose_16 : decode cX0_choose 16 = .ok (.iinc 3 1, 3) := by decide +kernel
theorem dX0_choose_19 : decode cX0_choose 19 = .ok (.goto (-14), 3) := by decide +kernel
theorem dX0_choose_22 : decode cX0_choose 22 = .ok (.aload_n 0, 1) := by decide +kernel
theorem dX0_choose_23 : decode cX0_choose 23 = .ok (.iload_n 2, 1) := by decide +kernel
theorem dX0_choose_24 : decode cX0_choose 24 = .ok (.putfield 37, 3) := by decide +kernel
theorem dX0_choose_27 : decode cX0_choose 27 = .ok (.return_, 1) := by decide +kernel
set_option maxRecDepth 20000 in
theorem ggX0_chooseInFrame_X0_isCandidate : GoodIn wsX0_chooseInFrame wsX0_isCandidate := goodIn_r _ [8, 9, 10, 11, 12, 13, 14, 15, 16, 17, 18, 19, 20, 21, 22, 23, 24, 25, 26, 27, 28, 29, 30, 31, 32, 33, 34, 35, 36, 55, 56, 57, 58, 59, 60, 61, 62, 63, 64] (by decide +kernel) (by decide +kernel)
set_option maxRecDepth 20000 in
theorem gX0_chooseInFrame_X0_isCandidate : GoodIn wsX0_chooseInFrame (wsV RX0 44 RX0 yX0_isCandidate wsX0_isCandidate) := goodIn_app (goodIn_of _ (by decide +kernel)) ggX0_chooseInFrame_X0_isCandidate
set_option maxRecDepth 20000 in
theorem ggX0_chooseInFrame_X6_put : GoodIn wsX0_chooseInFrame wsX6_put := goodIn_r _ [40, 27, 28, 63, 64] (by decide +kernel) (by decide +kernel)
set_option maxRecDepth 20000 in
theorem gX0_chooseInFrame_X6_put : GoodIn wsX0_chooseInFrame (wsV RX0 48 RX6 yX6_put wsX6_put) := goodIn_app (goodIn_of _ (by decide +kernel)) ggX0_chooseInFrame_X6_put
set_option maxRecDepth 20000 in
theorem ggX0_chooseInFrame_X1_meanInThousandths : GoodIn wsX0_chooseInFrame wsX1_meanInThousandths := goodIn_r _ [44, 45, 16, 17, 18, 13, 19, 20, 21, 22, 23, 24, 25, 26, 27, 28, 29, 30, 31, 32, 46, 47, 48, 60, 61, 62, 63, 64] (by decide +kernel) (by decide +kernel)
set_option maxRecDepth 20000 in
theorem gX0_chooseInFrame_X1_meanInThousandths : GoodIn wsX0_chooseInFrame (wsV RX0 52 RX1 yX1_meanInThousandths wsX1_meanInThousandths) := goodIn_app (goodIn_of _ (by decide +kernel)) ggX0_chooseInFrame_X1_meanInThousandths
set_option maxRecDepth 20000 in
theorem ggX0_chooseInFrame_X4_put : GoodIn wsX0_chooseInFrame wsX4_put := goodIn_r _ [53, 54, 65] (by decide +kernel) (by decide +kernel)
set_option maxRecDepth 20000 in
theorem gX0_chooseInFrame_X4_put : GoodIn wsX0_chooseInFrame (wsV RX0 58 RX4 yX4_put wsX4_put) := goodIn_app (goodIn_of _ (by decide +kernel)) ggX0_chooseInFrame_X4_put
theorem dX0_chooseInFrame_0 : decode cX0_chooseInFrame 0 = .ok (.iconst 0, 1) := by decide +kernel
theorem dX0_chooseInFrame_1 : decode cX0_chooseInFrame 1 = .ok (.istore_n 3, 1) := by decide +kernel
theorem dX0_chooseInFrame_2 : decode cX0_chooseInFrame 2 = .ok (.iconst 2, 1) := by decide +kernel
theorem dX0_chooseInFrame_3 : decode cX0_chooseInFrame 3 = .ok (.istore 4, 2) := by decide +kernel
theorem dX0_chooseInFrame_5 : decode cX0_chooseInFrame 5 = .ok (.iload 4, 2) := by decide +kernel
theorem dX0_chooseInFrame_7 : decode cX0_chooseInFrame 7 = .ok (.bipush 64, 2) := by decide +kernel
theorem dX0_chooseInFrame_9 : decode cX0_chooseInFrame 9 = .ok (.if_icmp .ge 56, 3) := by decide +kernel
theorem dX0_chooseInFrame_12 : decode cX0_chooseInFrame 12 = .ok (.iload_n 3, 1) := by decide +kernel
theorem dX0_chooseInFrame_13 : decode cX0_chooseInFrame 13 = .ok (.bipush 8, 2) := by decide +kernel
theorem dX0_chooseInFrame_15 : decode cX0_chooseInFrame 15 = .ok (.if_icmp .ge 50, 3) := by decide +kernel
theorem dX0_chooseInFrame_18 : decode cX0_chooseInFrame 18 = .ok (.aload_n 0, 1) := by decide +kernel
theorem dX0_chooseInFrame_19 : decode cX0_chooseInFrame 19 = .ok (.aload_n 1, 1) := by decide +kernel
theorem dX0_chooseInFrame_20 : decode cX0_chooseInFrame 20 = .ok (.iload_n 2, 1) := by decide +kernel
theorem dX0_chooseInFrame_21 : decode cX0_chooseInFrame 21 = .ok (.iload 4, 2) := by decide +kernel
theorem dX0_chooseInFrame_23 : decode cX0_chooseInFrame 23 = .ok (.invokevirtual 44, 3) := by decide +kernel
theorem dX0_chooseInFrame_26 : decode cX0_chooseInFrame 26 = .ok (.ifCond .eq 33, 3) := by decide +kernel
theorem dX0_chooseInFrame_29 : decode cX0_chooseInFrame 29 = .ok (.iinc 3 1, 3) := by decide +kernel
theorem dX0_chooseInFrame_32 : decode cX0_chooseInFrame 32 = .ok (.aload_n 0, 1) := by decide +kernel
theorem dX0_chooseInFrame_33 : decode cX0_chooseInFrame 33 = .ok (.getfield 23, 3) := by decide +kernel
theorem dX0_chooseInFrame_36 : decode cX0_chooseInFrame 36 = .ok (.iload_n 2, 1) := by decide +kernel
theorem dX0_chooseInFrame_37 : decode cX0_chooseInFrame 37 = .ok (.iload_n 3, 1) := by decide +kernel
theorem dX0_chooseInFrame_38 : decode cX0_chooseInFrame 38 = .ok (.iload 4, 2) := by decide +kernel
theorem dX0_chooseInFrame_40 : decode cX0_chooseInFrame 40 = .ok (.invokevirtual 48, 3) := by decide +kernel
theorem dX0_chooseInFrame_43 : decode cX0_chooseInFrame 43 = .ok (.aload_n 0, 1) := by decide +kernel
theorem dX0_chooseInFrame_44 : decode cX0_chooseInFrame 44 = .ok (.getfield 27, 3) := by decide +kernel
theorem dX0_chooseInFrame_47 : decode cX0_chooseInFrame 47 = .ok (.iload_n 2, 1) := by decide +kernel
theorem dX0_chooseInFrame_48 : decode cX0_chooseInFrame 48 = .ok (.iload_n 3, 1) := by decide +kernel
theorem dX0_chooseInFrame_49 : decode cX0_chooseInFrame 49 = .ok (.aload_n 1, 1) := by decide +kernel
theorem dX0_chooseInFrame_50 : decode cX0_chooseInFrame 50 = .ok (.iload_n 2, 1) := by decide +kernel
theorem dX0_chooseInFrame_51 : decode cX0_chooseInFrame 51 = .ok (.iload 4, 2) := by decide +kernel
theorem dX0_chooseInFrame_53 : decode cX0_chooseInFrame 53 = .ok (.invokevirtual 52, 3) := by decide +kernel
theorem dX0_chooseInFrame_56 : decode cX0_chooseInFrame 56 = .ok (.invokevirtual 48, 3) := by decide +kernel
theorem dX0_chooseInFrame_59 : decode cX0_chooseInFrame 59 = .ok (.iinc 4 1, 3) := by decide +kernel
theorem dX0_chooseInFrame_62 : decode cX0_chooseInFrame 62 = .ok (.goto (-57), 3) := by decide +kernel
theorem dX0_chooseInFrame_65 : decode cX0_chooseInFrame 65 = .ok (.aload_n 0, 1) := by decide +kernel
theorem dX0_chooseInFrame_66 : decode cX0_chooseInFrame 66 = .ok (.getfield 14, 3) := by decide +kernel
theorem dX0_chooseInFrame_69 : decode cX0_chooseInFrame 69 = .ok (.iload_n 2, 1) := by decide +kernel
theorem dX0_chooseInFrame_70 : decode cX0_chooseInFrame 70 = .ok (.iload_n 3, 1) := by decide +kernel
theorem dX0_chooseInFrame_71 : decode cX0_chooseInFrame 71 = .ok (.invokevirtual 58, 3) := by decide +kernel
theorem dX0_chooseInFrame_74 : decode cX0_chooseInFrame 74 = .ok (.return_, 1) := by decide +kernel
set_option maxRecDepth 20000 in
theorem ggX0_isCandidate_X1_isMeanBelow : GoodIn wsX0_isCandidate wsX1_isMeanBelow := goodIn_r _ [6, 7, 8, 9, 10, 5, 11, 12, 13, 14, 15, 16, 17, 18, 19, 20, 21, 22, 23, 24, 34, 35, 36, 37, 38] (by decide +kernel) (by decide +kernel)
set_option maxRecDepth 20000 in
theorem gX0_isCandidate_X1_isMeanBelow : GoodIn wsX0_isCandidate (wsV RX0 61 RX1 yX1_isMeanBelow wsX1_isMeanBelow) := goodIn_app (goodIn_of _ (by decide +kernel)) ggX0_isCandidate_X1_isMeanBelow
set_option maxRecDepth 20000 in
theorem ggX0_isCandidate_X1_isMeanLess : GoodIn wsX0_isCandidate wsX1_isMeanLess := goodIn_r _ [28, 8, 9, 10, 5, 11, 12, 13, 14, 15, 16, 17, 18, 19, 20, 21, 22, 23, 24, 34, 35, 36, 37, 38] (by decide +kernel) (by decide +kernel)
set_option maxRecDepth 20000 in
theorem gX0_isCandidate_X1_isMeanLess : GoodIn wsX0_isCandidate (wsV RX0 65 RX1 yX1_isMeanLess wsX1_isMeanLess) := goodIn_app (goodIn_of _ (by decide +kernel)) ggX0_isCandidate_X1_isMeanLess
theorem dX0_isCandidate_0 : decode cX0_isCandidate 0 = .ok (.aload_n 1, 1) := by decide +kernel
theorem dX0_isCandidate_1 : decode cX0_isCandidate 1 = .ok (.iload_n 2, 1) := by decide +kernel
theorem dX0_isCandidate_2 : decode cX0_isCandidate 2 = .ok (.iload_n 3, 1) := by decide +kernel
theorem dX0_isCandidate_3 : decode cX0_isCandidate 3 = .ok (.aload_n 0, 1) := by decide +kernel
theorem dX0_isCandidate_4 : decode cX0_isCandidate 4 = .ok (.getfield 30, 3) := by decide +kernel
theorem dX0_isCandidate_7 : decode cX0_isCandidate 7 = .ok (.invokevirtual 61, 3) := by decide +kernel
theorem dX0_isCandidate_10 : decode cX0_isCandidate 10 = .ok (.ifCond .eq 31, 3) := by decide +kernel
theorem dX0_isCandidate_13 : decode cX0_isCandidate 13 = .ok (.aload_n 1, 1) := by decide +kernel
theorem dX0_isCandidate_14 : decode cX0_isCandidate 14 = .ok (.iload_n 2, 1) := by decide +kernel
theorem dX0_isCandidate_15 : decode cX0_isCandidate 15 = .ok (.iload_n 3, 1) := by decide +kernel
theorem dX0_isCandidate_16 : decode cX0_isCandidate 16 = .ok (.iload_n 3, 1) := by decide +kernel
theorem dX0_isCandidate_17 : decode cX0_isCandidate 17 = .ok (.iconst 1, 1) := by decide +kernel
theorem dX0_isCandidate_18 : decode cX0_isCandidate 18 = .ok (.isub, 1) := by decide +kernel
theorem dX0_isCandidate_19 : decode cX0_isCandidate 19 = .ok (.invokevirtual 65, 3) := by decide +kernel
theorem dX0_isCandidate_22 : decode cX0_isCandidate 22 = .ok (.ifCond .eq 19, 3) := by decide +kernel
theorem dX0_isCandidate_25 : decode cX0_isCandidate 25 = .ok (.aload_n 1, 1) := by decide +kernel
theorem dX0_isCandidate_26 : decode cX0_isCandidate 26 = .ok (.iload_n 2, 1) := by decide +kernel
theorem dX0_isCandidate_27 : decode cX0_isCandidate 27 = .ok (.iload_n 3, 1) := by decide +kernel
theorem dX0_isCandidate_28 : decode cX0_isCandidate 28 = .ok (.iconst 1, 1) := by decide +kernel
theorem dX0_isCandidate_29 : decode cX0_isCandidate 29 = .ok (.iadd, 1) := by decide +kernel
theorem dX0_isCandidate_30 : decode cX0_isCandidate 30 = .ok (.iload_n 3, 1) := by decide +kernel
theorem dX0_isCandidate_31 : decode cX0_isCandidate 31 = .ok (.invokevirtual 65, 3) := by decide +kernel
theorem dX0_isCandidate_34 : decode cX0_isCandidate 34 = .ok (.ifCond .ne 7, 3) := by decide +kernel
theorem dX0_isCandidate_37 : decode cX0_isCandidate 37 = .ok (.iconst 1, 1) := by decide +kernel
theorem dX0_isCandidate_38 : decode cX0_isCandidate 38 = .ok (.goto 4, 3) := by decide +kernel
theorem dX0_isCandidate_41 : decode cX0_isCandidate 41 = .ok (.iconst 0, 1) := by decide +kernel
theorem dX0_isCandidate_42 : decode cX0_isCandidate 42 = .ok (.ireturn, 1) := by decide +kernel
set_option maxRecDepth 20000 in
theorem ggX0_howMany_X4_at : GoodIn wsX0_howMany wsX4_at := goodIn_r _ [6, 7, 13] (by decide +kernel) (by decide +kernel)
set_option maxRecDepth 20000 in
theorem gX0_howMany_X4_at : GoodIn wsX0_howMany (wsV RX0 68 RX4 yX4_at wsX4_at) := goodIn_app (goodIn_of _ (by decide +kernel)) ggX0_howMany_X4_at
theorem dX0_howMany_0 : decode cX0_howMany 0 = .ok (.aload_n 0, 1) := by decide +kernel
theorem dX0_howMany_1 : decode cX0_howMany 1 = .ok (.getfield 14, 3) := by decide +kernel
theorem dX0_howMany_4 : decode cX0_howMany 4 = .ok (.iload_n 1, 1) := by decide +kernel
theorem dX0_howMany_5 : decode cX0_howMany 5 = .ok (.invokevirtual 68, 3) := by decide +kernel
theorem dX0_howMany_8 : decode cX0_howMany 8 = .ok (.ireturn, 1) := by decide +kernel
set_option maxRecDepth 20000 in
theorem ggX0_choicesIn_X4_at : GoodIn wsX0_choicesIn wsX4_at := goodIn_r _ [6, 7, 13] (by decide +kernel) (by decide +kernel)
set_option maxRecDepth 20000 in
theorem gX0_choicesIn_X4_at : GoodIn wsX0_choicesIn (wsV RX0 68 RX4 yX4_at wsX4_at) := goodIn_app (goodIn_of _ (by decide +kernel)) ggX0_choicesIn_X4_at
theorem dX0_choicesIn_0 : decode cX0_choicesIn 0 = .ok (.aload_n 0, 1) := by decide +kernel
theorem dX0_choicesIn_1 : decode cX0_choicesIn 1 = .ok (.getfield 14, 3) := by decide +kernel
theorem dX0_choicesIn_4 : decode cX0_choicesIn 4 = .ok (.iload_n 1, 1) := by decide +kernel
theorem dX0_choicesIn_5 : decode cX0_choicesIn 5 = .ok (.invokevirtual 68, 3) := by decide +kernel
theorem dX0_choicesIn_8 : decode cX0_choicesIn 8 = .ok (.iconst 1, 1) := by decide +kernel
theorem dX0_choicesIn_9 : decode cX0_choicesIn 9 = .ok (.iadd, 1) := by decide +kernel
theorem dX0_choicesIn_10 : decode cX0_choicesIn 10 = .ok (.ireturn, 1) := by decide +kernel
set_option maxRecDepth 20000 in
theorem ggX0_lagOf_X6_at : GoodIn wsX0_lagOf wsX6_at := goodIn_r _ [6, 7, 8, 14, 15] (by decide +kernel) (by decide +kernel)
set_option maxRecDepth 20000 in
theorem gX0_lagOf_X6_at : GoodIn wsX0_lagOf (wsV RX0 72 RX6 yX6_at wsX6_at) := goodIn_app (goodIn_of _ (by decide +kernel)) ggX0_lagOf_X6_at
theorem dX0_lagOf_0 : decode cX0_lagOf 0 = .ok (.aload_n 0, 1) := by decide +kernel
theorem dX0_lagOf_1 : decode cX0_lagOf 1 = .ok (.getfield 23, 3) := by decide +kernel
theorem dX0_lagOf_4 : decode cX0_lagOf 4 = .ok (.iload_n 1, 1) := by decide +kernel
theorem dX0_lagOf_5 : decode cX0_lagOf 5 = .ok (.iload_n 2, 1) := by decide +kernel
theorem dX0_lagOf_6 : decode cX0_lagOf 6 = .ok (.invokevirtual 72, 3) := by decide +kernel
theorem dX0_lagOf_9 : decode cX0_lagOf 9 = .ok (.ireturn, 1) := by decide +kernel
set_option maxRecDepth 20000 in
theorem ggX0_costOf_X6_at : GoodIn wsX0_costOf wsX6_at := goodIn_r _ [6, 7, 8, 14, 15] (by decide +kernel) (by decide +kernel)
set_option maxRecDepth 20000 in
theorem gX0_costOf_X6_at : GoodIn wsX0_costOf (wsV RX0 72 RX6 yX6_at wsX6_at) := goodIn_app (goodIn_of _ (by decide +kernel)) ggX0_costOf_X6_at
theorem dX0_costOf_0 : decode cX0_costOf 0 = .ok (.aload_n 0, 1) := by decide +kernel
theorem dX0_costOf_1 : decode cX0_costOf 1 = .ok (.getfield 27, 3) := by decide +kernel
theorem dX0_costOf_4 : decode cX0_costOf 4 = .ok (.iload_n 1, 1) := by decide +kernel
theorem dX0_costOf_5 : decode cX0_costOf 5 = .ok (.iload_n 2, 1) := by decide +kernel
theorem dX0_costOf_6 : decode cX0_costOf 6 = .ok (.invokevirtual 72, 3) := by decide +kernel
theorem dX0_costOf_9 : decode cX0_costOf 9 = .ok (.ireturn, 1) := by decide +kernel
set_option maxRecDepth 20000 in
theorem ggX1_init_X6_init : GoodIn wsX1_init wsX6_init := goodIn_r _ [11, 12, 2, 3, 13, 14, 15, 16, 17] (by decide +kernel) (by decide +kernel)
set_option maxRecDepth 20000 in
theorem gX1_init_X6_init : GoodIn wsX1_init (wsX6_init) := ggX1_init_X6_init
theorem dX1_init_0 : decode cX1_init 0 = .ok (.aload_n 0, 1) := by decide +kernel
theorem dX1_init_1 : decode cX1_init 1 = .ok (.invokespecial 3, 3) := by decide +kernel
theorem dX1_init_4 : decode cX1_init 4 = .ok (.aload_n 0, 1) := by decide +kernel
theorem dX1_init_5 : decode cX1_init 5 = .ok (.new 9, 3) := by decide +kernel
theorem dX1_init_8 : decode cX1_init 8 = .ok (.dup, 1) := by decide +kernel
theorem dX1_init_9 : decode cX1_init 9 = .ok (.bipush 65, 2) := by decide +kernel
theorem dX1_init_11 : decode cX1_init 11 = .ok (.invokespecial 11, 3) := by decide +kernel
theorem dX1_init_14 : decode cX1_init 14 = .ok (.putfield 14, 3) := by decide +kernel
theorem dX1_init_17 : decode cX1_init 17 = .ok (.aload_n 0, 1) := by decide +kernel
theorem dX1_init_18 : decode cX1_init 18 = .ok (.new 9, 3) := by decide +kernel
theorem dX1_init_21 : decode cX1_init 21 = .ok (.dup, 1) := by decide +kernel
theorem dX1_init_22 : decode cX1_init 22 = .ok (.bipush 65, 2) := by decide +kernel
theorem dX1_init_24 : decode cX1_init 24 = .ok (.invokespecial 11, 3) := by decide +kernel
theorem dX1_init_27 : decode cX1_init 27 = .ok (.putfield 20, 3) := by decide +kernel
theorem dX1_init_30 : decode cX1_init 30 = .ok (.return_, 1) := by decide +kernel
theorem dX1_forget_0 : decode cX1_forget 0 = .ok (.aload_n 0, 1) := by decide +kernel
theorem dX1_forget_1 : decode cX1_forget 1 = .ok (.iconst 0, 1) := by decide +kernel
theorem dX1_forget_2 : decode cX1_forget 2 = .ok (.putfield 23, 3) := by decide +kernel
theorem dX1_forget_5 : decode cX1_forget 5 = .ok (.return_, 1) := by decide +kernel
set_option maxRecDepth 20000 in
theorem ggX1_measure_X5_frameCount : GoodIn wsX1_measure wsX5_frameCount := goodIn_r _ [6, 7, 34, 35] (by decide +kernel) (by decide +kernel)
set_option maxRecDepth 20000 in
theorem gX1_measure_X5_frameCount : GoodIn wsX1_measure (wsV RX1 27 RX5 yX5_frameCount wsX5_frameCount) := goodIn_app (goodIn_of _ (by decide +kernel)) ggX1_measure_X5_frameCount
set_option maxRecDepth 20000 in
theorem ggX1_measure_X1_measureFrame : GoodIn wsX1_measure wsX1_measureFrame := goodIn_r _ [12, 13, 14, 15, 16, 17, 5, 18, 19, 20, 21, 22, 23, 24, 25, 26, 27, 28, 29, 30, 31, 32, 33, 34, 35, 36, 37] (by decide +kernel) (by decide +kernel)
set_option maxRecDepth 20000 in
theorem gX1_measure_X1_measureFrame : GoodIn wsX1_measure (wsV RX1 33 RX1 yX1_measureFrame wsX1_measureFrame) := goodIn_app (goodIn_of _ (by decide +kernel)) ggX1_measure_X1_measureFrame
theorem dX1_measure_0 : decode cX1_measure 0 = .ok (.aload_n 1, 1) := by decide +kernel
theorem dX1_measure_1 : decode cX1_measure 1 = .ok (.invokevirtual 27, 3) := by decide +kernel
theorem dX1_measure_4 : decode cX1_measure 4 = .ok (.istore_n 2, 1) := by decide +kernel
theorem dX1_measure_5 : decode cX1_measure 5 = .ok (.aload_n 0, 1) := by decide +kernel
theorem dX1_measure_6 : decode cX1_measure 6 = .ok (.getfield 23, 3) := by decide +kernel
theorem dX1_measure_9 : decode cX1_measure 9 = .ok (.istore_n 3, 1) := by decide +kernel
theorem dX1_measure_10 : decode cX1_measure 10 = .ok (.iload_n 3, 1) := by decide +kernel
theorem dX1_measure_11 : decode cX1_measure 11 = .ok (.iload_n 2, 1) := by decide +kernel
theorem dX1_measure_12 : decode cX1_measure 12 = .ok (.if_icmp .ge 15, 3) := by decide +kernel
theorem dX1_measure_15 : decode cX1_measure 15 = .ok (.aload_n 0, 1) := by decide +kernel
theorem dX1_measure_16 : decode cX1_measure 16 = .ok (.aload_n 1, 1) := by decide +kernel
theorem dX1_measure_17 : decode cX1_measure 17 = .ok (.iload_n 3, 1) := by decide +kernel
theorem dX1_measure_18 : decode cX1_measure 18 = .ok (.invokevirtual 33, 3) := by decide +kernel
theorem dX1_measure_21 : decode cX1_measure 21 = .ok (.iinc 3 1, 3) := by decide +kernel
theorem dX1_measure_24 : decode cX1_measure 24 = .ok (.goto (-14), 3) := by decide +kernel
theorem dX1_measure_27 : decode cX1_measure 27 = .ok (.aload_n 0, 1) := by decide +kernel
theorem dX1_measure_28 : decode cX1_measure 28 = .ok (.iload_n 2, 1) := by decide +kernel
theorem dX1_measure_29 : decode cX1_measure 29 = .ok (.putfield 23, 3) := by decide +kernel
theorem dX1_measure_32 : decode cX1_measure 32 = .ok (.return_, 1) := by decide +kernel
set_option maxRecDepth 20000 in
theorem ggX1_measureFrame_X5_squaredGapSum : GoodIn wsX1_measureFrame wsX5_squaredGapSum := goodIn_r _ [7, 8, 9, 10, 11, 6, 12, 23, 24] (by decide +kernel) (by decide +kernel)
set_option maxRecDepth 20000 in
theorem gX1_measureFrame_X5_squaredGapSum : GoodIn wsX1_measureFrame (wsV RX1 37 RX5 yX5_squaredGapSum wsX5_squaredGapSum) := goodIn_app (goodIn_of _ (by decide +kernel)) ggX1_measureFrame_X5_squaredGapSum
set_option maxRecDepth 20000 in
theorem ggX1_measureFrame_X6_put : GoodIn wsX1_measureFrame wsX6_put := goodIn_r _ [17, 18, 19, 25, 26] (by decide +kernel) (by decide +kernel)
set_option maxRecDepth 20000 in
theorem gX1_measureFrame_X6_put : GoodIn wsX1_measureFrame (wsV RX1 41 RX6 yX6_put wsX6_put) := goodIn_app (goodIn_of _ (by decide +kernel)) ggX1_measureFrame_X6_put
theorem dX1_measureFrame_0 : decode cX1_measureFrame 0 = .ok (.iconst 0, 1) := by decide +kernel
theorem dX1_measureFrame_1 : decode cX1_measureFrame 1 = .ok (.istore_n 3, 1) := by decide +kernel
theorem dX1_measureFrame_2 : decode cX1_measureFrame 2 = .ok (.iconst 1, 1) := by decide +kernel
theorem dX1_measureFrame_3 : decode cX1_measureFrame 3 = .ok (.istore 4, 2) := by decide +kernel
theorem dX1_measureFrame_5 : decode cX1_measureFrame 5 = .ok (.iload 4, 2) := by decide +kernel
theorem dX1_measureFrame_7 : decode cX1_measureFrame 7 = .ok (.bipush 64, 2) := by decide +kernel
theorem dX1_measureFrame_9 : decode cX1_measureFrame 9 = .ok (.if_icmp .gt 49, 3) := by decide +kernel
theorem dX1_measureFrame_12 : decode cX1_measureFrame 12 = .ok (.aload_n 1, 1) := by decide +kernel
theorem dX1_measureFrame_13 : decode cX1_measureFrame 13 = .ok (.iload_n 2, 1) := by decide +kernel
theorem dX1_measureFrame_14 : decode cX1_measureFrame 14 = .ok (.bipush 32, 2) := by decide +kernel
theorem dX1_measureFrame_16 : decode cX1_measureFrame 16 = .ok (.imul, 1) := by decide +kernel
theorem dX1_measureFrame_17 : decode cX1_measureFrame 17 = .ok (.iload 4, 2) := by decide +kernel
theorem dX1_measureFrame_19 : decode cX1_measureFrame 19 = .ok (.invokevirtual 37, 3) := by decide +kernel
theorem dX1_measureFrame_22 : decode cX1_measureFrame 22 = .ok (.istore 5, 2) := by decide +kernel
theorem dX1_measureFrame_24 : decode cX1_measureFrame 24 = .ok (.iload_n 3, 1) := by decide +kernel
theorem dX1_measureFrame_25 : decode cX1_measureFrame 25 = .ok (.iload 5, 2) := by decide +kernel
theorem dX1_measureFrame_27 : decode cX1_measureFrame 27 = .ok (.iadd, 1) := by decide +kernel
theorem dX1_measureFrame_28 : decode cX1_measureFrame 28 = .ok (.istore_n 3, 1) := by decide +kernel
theorem dX1_measureFrame_29 : decode cX1_measureFrame 29 = .ok (.aload_n 0, 1) := by decide +kernel
theorem dX1_measureFrame_30 : decode cX1_measureFrame 30 = .ok (.getfield 14, 3) := by decide +kernel
theorem dX1_measureFrame_33 : decode cX1_measureFrame 33 = .ok (.iload_n 2, 1) := by decide +kernel
theorem dX1_measureFrame_34 : decode cX1_measureFrame 34 = .ok (.iload 4, 2) := by decide +kernel
theorem dX1_measureFrame_36 : decode cX1_measureFrame 36 = .ok (.iload 5, 2) := by decide +kernel
theorem dX1_measureFrame_38 : decode cX1_measureFrame 38 = .ok (.invokevirtual 41, 3) := by decide +kernel
theorem dX1_measureFrame_41 : decode cX1_measureFrame 41 = .ok (.aload_n 0, 1) := by decide +kernel
theorem dX1_measureFrame_42 : decode cX1_measureFrame 42 = .ok (.getfield 20, 3) := by decide +kernel
theorem dX1_measureFrame_45 : decode cX1_measureFrame 45 = .ok (.iload_n 2, 1) := by decide +kernel
theorem dX1_measureFrame_46 : decode cX1_measureFrame 46 = .ok (.iload 4, 2) := by decide +kernel
theorem dX1_measureFrame_48 : decode cX1_measureFrame 48 = .ok (.iload_n 3, 1) := by decide +kernel
theorem dX1_measureFrame_49 : decode cX1_measureFrame 49 = .ok (.invokevirtual 41, 3) := by decide +kernel
theorem dX1_measureFrame_52 : decode cX1_measureFrame 52 = .ok (.iinc 4 1, 3) := by decide +kernel
theorem dX1_measureFrame_55 : decode cX1_measureFrame 55 = .ok (.goto (-50), 3) := by decide +kernel
theorem dX1_measureFrame_58 : decode cX1_measureFrame 58 = .ok (.return_, 1) := by decide +kernel
set_option maxRecDepth 20000 in
theorem ggX1_at_X6_at : GoodIn wsX1_at wsX6_at := goodIn_r _ [6, 7, 8, 12, 13] (by decide +kernel) (by decide +kernel)
set_option maxRecDepth 20000 in
theorem gX1_at_X6_at : GoodIn wsX1_at (wsV RX1 45 RX6 yX6_at wsX6_at) := goodIn_app (goodIn_of _ (by decide +kernel)) ggX1_at_X6_at
theorem dX1_at_0 : decode cX1_at 0 = .ok (.aload_n 0, 1) := by decide +kernel
theorem dX1_at_1 : decode cX1_at 1 = .ok (.getfield 14, 3) := by decide +kernel
theorem dX1_at_4 : decode cX1_at 4 = .ok (.iload_n 1, 1) := by decide +kernel
theorem dX1_at_5 : decode cX1_at 5 = .ok (.iload_n 2, 1) := by decide +kernel
theorem dX1_at_6 : decode cX1_at 6 = .ok (.invokevirtual 45, 3) := by decide +kernel
theorem dX1_at_9 : decode cX1_at 9 = .ok (.ireturn, 1) := by decide +kernel
set_option maxRecDepth 20000 in
theorem ggX1_meanInThousandths_X1_meanTop : GoodIn wsX1_meanInThousandths wsX1_meanTop := goodIn_r _ [6, 7, 8, 9, 10, 11, 12, 13, 14, 15, 23, 24, 25, 26, 27] (by decide +kernel) (by decide +kernel)
set_option maxRecDepth 20000 in
theorem gX1_meanInThousandths_X1_meanTop : GoodIn wsX1_meanInThousandths (wsV RX1 50 RX1 yX1_meanTop wsX1_meanTop) := goodIn_app (goodIn_of _ (by decide +kernel)) ggX1_meanInThousandths_X1_meanTop
set_option maxRecDepth 20000 in
theorem ggX1_meanInThousandths_X1_meanBottom : GoodIn wsX1_meanInThousandths wsX1_meanBottom := goodIn_r _ [19, 7, 9, 10, 11, 12, 13, 14, 15, 23, 24, 25, 26, 27] (by decide +kernel) (by decide +kernel)
set_option maxRecDepth 20000 in
theorem gX1_meanInThousandths_X1_meanBottom : GoodIn wsX1_meanInThousandths (wsV RX1 54 RX1 yX1_meanBottom wsX1_meanBottom) := goodIn_app (goodIn_of _ (by decide +kernel)) ggX1_meanInThousandths_X1_meanBottom
set_option maxRecDepth 20000 in
theorem ggX1_meanInThousandths_X8_quotient : GoodIn wsX1_meanInThousandths wsX8_quotient := goodIn_r _ [22] (by decide +kernel) (by decide +kernel)
set_option maxRecDepth 20000 in
theorem gX1_meanInThousandths_X8_quotient_n57 : GoodIn wsX1_meanInThousandths (wsX8_quotient) := ggX1_meanInThousandths_X8_quotient
theorem dX1_meanInThousandths_0 : decode cX1_meanInThousandths 0 = .ok (.ldc2_w 48, 3) := by decide +kernel
theorem dX1_meanInThousandths_3 : decode cX1_meanInThousandths 3 = .ok (.aload_n 0, 1) := by decide +kernel
theorem dX1_meanInThousandths_4 : decode cX1_meanInThousandths 4 = .ok (.iload_n 1, 1) := by decide +kernel
theorem dX1_meanInThousandths_5 : decode cX1_meanInThousandths 5 = .ok (.iload_n 2, 1) := by decide +kernel
theorem dX1_meanInThousandths_6 : decode cX1_meanInThousandths 6 = .ok (.invokevirtual 50, 3) := by decide +kernel
theorem dX1_meanInThousandths_9 : decode cX1_meanInThousandths 9 = .ok (.lmul, 1) := by decide +kernel
theorem dX1_meanInThousandths_10 : decode cX1_meanInThousandths 10 = .ok (.aload_n 0, 1) := by decide +kernel
theorem dX1_meanInThousandths_11 : decode cX1_meanInThousandths 11 = .ok (.iload_n 1, 1) := by decide +kernel
theorem dX1_meanInThousandths_12 : decode cX1_meanInThousandths 12 = .ok (.iload_n 2, 1) := by decide +kernel
theorem dX1_meanInThousandths_13 : decode cX1_meanInThousandths 13 = .ok (.invokevirtual 54, 3) := by decide +kernel
theorem dX1_meanInThousandths_16 : decode cX1_meanInThousandths 16 = .ok (.invokestatic 57, 3) := by decide +kernel
theorem dX1_meanInThousandths_19 : decode cX1_meanInThousandths 19 = .ok (.l2i, 1) := by decide +kernel
theorem dX1_meanInThousandths_20 : decode cX1_meanInThousandths 20 = .ok (.ireturn, 1) := by decide +kernel
set_option maxRecDepth 20000 in
theorem ggX1_isMeanBelow_X1_meanTop : GoodIn wsX1_isMeanBelow wsX1_meanTop := goodIn_r _ [6, 7, 8, 9, 10, 11, 12, 13, 14, 15, 20, 21, 22, 23, 24] (by decide +kernel) (by decide +kernel)
set_option maxRecDepth 20000 in
theorem gX1_isMeanBelow_X1_meanTop : GoodIn wsX1_isMeanBelow (wsV RX1 50 RX1 yX1_meanTop wsX1_meanTop) := goodIn_app (goodIn_of _ (by decide +kernel)) ggX1_isMeanBelow_X1_meanTop
set_option maxRecDepth 20000 in
theorem ggX1_isMeanBelow_X1_meanBottom : GoodIn wsX1_isMeanBelow wsX1_meanBottom := goodIn_r _ [19, 7, 9, 10, 11, 12, 13, 14, 15, 20, 21, 22, 23, 24] (by decide +kernel) (by decide +kernel)
set_option maxRecDepth 20000 in
theorem gX1_isMeanBelow_X1_meanBottom : GoodIn wsX1_isMeanBelow (wsV RX1 54 RX1 yX1_meanBottom wsX1_meanBottom) := goodIn_app (goodIn_of _ (by decide +kernel)) ggX1_isMeanBelow_X1_meanBottom
theorem dX1_isMeanBelow_0 : decode cX1_isMeanBelow 0 = .ok (.ldc2_w 61, 3) := by decide +kernel
theorem dX1_isMeanBelow_3 : decode cX1_isMeanBelow 3 = .ok (.aload_n 0, 1) := by decide +kernel
theorem dX1_isMeanBelow_4 : decode cX1_isMeanBelow 4 = .ok (.iload_n 1, 1) := by decide +kernel
theorem dX1_isMeanBelow_5 : decode cX1_isMeanBelow 5 = .ok (.iload_n 2, 1) := by decide +kernel
theorem dX1_isMeanBelow_6 : decode cX1_isMeanBelow 6 = .ok (.invokevirtual 50, 3) := by decide +kernel
theorem dX1_isMeanBelow_9 : decode cX1_isMeanBelow 9 = .ok (.lmul, 1) := by decide +kernel
theorem dX1_isMeanBelow_10 : decode cX1_isMeanBelow 10 = .ok (.iload_n 3, 1) := by decide +kernel
theorem dX1_isMeanBelow_11 : decode cX1_isMeanBelow 11 = .ok (.i2l, 1) := by decide +kernel
theorem dX1_isMeanBelow_12 : decode cX1_isMeanBelow 12 = .ok (.aload_n 0, 1) := by decide +kernel
theorem dX1_isMeanBelow_13 : decode cX1_isMeanBelow 13 = .ok (.iload_n 1, 1) := by decide +kernel
theorem dX1_isMeanBelow_14 : decode cX1_isMeanBelow 14 = .ok (.iload_n 2, 1) := by decide +kernel
theorem dX1_isMeanBelow_15 : decode cX1_isMeanBelow 15 = .ok (.invokevirtual 54, 3) := by decide +kernel
theorem dX1_isMeanBelow_18 : decode cX1_isMeanBelow 18 = .ok (.lmul, 1) := by decide +kernel
theorem dX1_isMeanBelow_19 : decode cX1_isMeanBelow 19 = .ok (.lcmp, 1) := by decide +kernel
theorem dX1_isMeanBelow_20 : decode cX1_isMeanBelow 20 = .ok (.ifCond .ge 7, 3) := by decide +kernel
theorem dX1_isMeanBelow_23 : decode cX1_isMeanBelow 23 = .ok (.iconst 1, 1) := by decide +kernel
theorem dX1_isMeanBelow_24 : decode cX1_isMeanBelow 24 = .ok (.goto 4, 3) := by decide +kernel
theorem dX1_isMeanBelow_27 : decode cX1_isMeanBelow 27 = .ok (.iconst 0, 1) := by decide +kernel
theorem dX1_isMeanBelow_28 : decode cX1_isMeanBelow 28 = .ok (.ireturn, 1) := by decide +kernel
set_option maxRecDepth 20000 in
theorem ggX1_isMeanLess_X1_meanTop : GoodIn wsX1_isMeanLess wsX1_meanTop := goodIn_r _ [5, 6, 7, 8, 9, 10, 11, 12, 13, 14, 19, 20, 21, 22, 23] (by decide +kernel) (by decide +kernel)
set_option maxRecDepth 20000 in
theorem gX1_isMeanLess_X1_meanTop : GoodIn wsX1_isMeanLess (wsV RX1 50 RX1 yX1_meanTop wsX1_meanTop) := goodIn_app (goodIn_of _ (by decide +kernel)) ggX1_isMeanLess_X1_meanTop
set_option maxRecDepth 20000 in
theorem ggX1_isMeanLess_X1_meanBottom : GoodIn wsX1_isMeanLess wsX1_meanBottom := goodIn_r _ [18, 6, 8, 9, 10, 11, 12, 13, 14, 19, 20, 21, 22, 23] (by decide +kernel) (by decide +kernel)
set_option maxRecDepth 20000 in
theorem gX1_isMeanLess_X1_meanBottom : GoodIn wsX1_isMeanLess (wsV RX1 54 RX1 yX1_meanBottom wsX1_meanBottom) := goodIn_app (goodIn_of _ (by decide +kernel)) ggX1_isMeanLess_X1_meanBottom
theorem dX1_isMeanLess_0 : decode cX1_isMeanLess 0 = .ok (.aload_n 0, 1) := by decide +kernel
theorem dX1_isMeanLess_1 : decode cX1_isMeanLess 1 = .ok (.iload_n 1, 1) := by decide +kernel
theorem dX1_isMeanLess_2 : decode cX1_isMeanLess 2 = .ok (.iload_n 2, 1) := by decide +kernel
theorem dX1_isMeanLess_3 : decode cX1_isMeanLess 3 = .ok (.invokevirtual 50, 3) := by decide +kernel
theorem dX1_isMeanLess_6 : decode cX1_isMeanLess 6 = .ok (.aload_n 0, 1) := by decide +kernel
theorem dX1_isMeanLess_7 : decode cX1_isMeanLess 7 = .ok (.iload_n 1, 1) := by decide +kernel
theorem dX1_isMeanLess_8 : decode cX1_isMeanLess 8 = .ok (.iload_n 3, 1) := by decide +kernel
theorem dX1_isMeanLess_9 : decode cX1_isMeanLess 9 = .ok (.invokevirtual 54, 3) := by decide +kernel
theorem dX1_isMeanLess_12 : decode cX1_isMeanLess 12 = .ok (.lmul, 1) := by decide +kernel
theorem dX1_isMeanLess_13 : decode cX1_isMeanLess 13 = .ok (.aload_n 0, 1) := by decide +kernel
theorem dX1_isMeanLess_14 : decode cX1_isMeanLess 14 = .ok (.iload_n 1, 1) := by decide +kernel
theorem dX1_isMeanLess_15 : decode cX1_isMeanLess 15 = .ok (.iload_n 3, 1) := by decide +kernel
theorem dX1_isMeanLess_16 : decode cX1_isMeanLess 16 = .ok (.invokevirtual 50, 3) := by decide +kernel
theorem dX1_isMeanLess_19 : decode cX1_isMeanLess 19 = .ok (.aload_n 0, 1) := by decide +kernel
theorem dX1_isMeanLess_20 : decode cX1_isMeanLess 20 = .ok (.iload_n 1, 1) := by decide +kernel
theorem dX1_isMeanLess_21 : decode cX1_isMeanLess 21 = .ok (.iload_n 2, 1) := by decide +kernel
theorem dX1_isMeanLess_22 : decode cX1_isMeanLess 22 = .ok (.invokevirtual 54, 3) := by decide +kernel
theorem dX1_isMeanLess_25 : decode cX1_isMeanLess 25 = .ok (.lmul, 1) := by decide +kernel
theorem dX1_isMeanLess_26 : decode cX1_isMeanLess 26 = .ok (.lcmp, 1) := by decide +kernel
theorem dX1_isMeanLess_27 : decode cX1_isMeanLess 27 = .ok (.ifCond .ge 7, 3) := by decide +kernel
theorem dX1_isMeanLess_30 : decode cX1_isMeanLess 30 = .ok (.iconst 1, 1) := by decide +kernel
theorem dX1_isMeanLess_31 : decode cX1_isMeanLess 31 = .ok (.goto 4, 3) := by decide +kernel
theorem dX1_isMeanLess_34 : decode cX1_isMeanLess 34 = .ok (.iconst 0, 1) := by decide +kernel
theorem dX1_isMeanLess_35 : decode cX1_isMeanLess 35 = .ok (.ireturn, 1) := by decide +kernel
set_option maxRecDepth 20000 in
theorem ggX1_meanTop_X6_at : GoodIn wsX1_meanTop wsX6_at := goodIn_r _ [7, 8, 9, 13, 14] (by decide +kernel) (by decide +kernel)
set_option maxRecDepth 20000 in
theorem gX1_meanTop_X6_at : GoodIn wsX1_meanTop (wsV RX1 45 RX6 yX6_at wsX6_at) := goodIn_app (goodIn_of _ (by decide +kernel)) ggX1_meanTop_X6_at
theorem dX1_meanTop_0 : decode cX1_meanTop 0 = .ok (.aload_n 0, 1) := by decide +kernel
theorem dX1_meanTop_1 : decode cX1_meanTop 1 = .ok (.getfield 20, 3) := by decide +kernel
theorem dX1_meanTop_4 : decode cX1_meanTop 4 = .ok (.iload_n 1, 1) := by decide +kernel
theorem dX1_meanTop_5 : decode cX1_meanTop 5 = .ok (.iload_n 2, 1) := by decide +kernel
theorem dX1_meanTop_6 : decode cX1_meanTop 6 = .ok (.invokevirtual 45, 3) := by decide +kernel
theorem dX1_meanTop_9 : decode cX1_meanTop 9 = .ok (.ifCond .le 19, 3) := by decide +kernel
theorem dX1_meanTop_12 : decode cX1_meanTop 12 = .ok (.iload_n 2, 1) := by decide +kernel
theorem dX1_meanTop_13 : decode cX1_meanTop 13 = .ok (.i2l, 1) := by decide +kernel
theorem dX1_meanTop_14 : decode cX1_meanTop 14 = .ok (.aload_n 0, 1) := by decide +kernel
theorem dX1_meanTop_15 : decode cX1_meanTop 15 = .ok (.getfield 14, 3) := by decide +kernel
theorem dX1_meanTop_18 : decode cX1_meanTop 18 = .ok (.iload_n 1, 1) := by decide +kernel
theorem dX1_meanTop_19 : decode cX1_meanTop 19 = .ok (.iload_n 2, 1) := by decide +kernel
theorem dX1_meanTop_20 : decode cX1_meanTop 20 = .ok (.invokevirtual 45, 3) := by decide +kernel
theorem dX1_meanTop_23 : decode cX1_meanTop 23 = .ok (.i2l, 1) := by decide +kernel
theorem dX1_meanTop_24 : decode cX1_meanTop 24 = .ok (.lmul, 1) := by decide +kernel
theorem dX1_meanTop_25 : decode cX1_meanTop 25 = .ok (.goto 4, 3) := by decide +kernel
theorem dX1_meanTop_28 : decode cX1_meanTop 28 = .ok (.lconst 1, 1) := by decide +kernel
theorem dX1_meanTop_29 : decode cX1_meanTop 29 = .ok (.lreturn, 1) := by decide +kernel
set_option maxRecDepth 20000 in
theorem ggX1_meanBottom_X6_at : GoodIn wsX1_meanBottom wsX6_at := goodIn_r _ [6, 7, 8, 12, 13] (by decide +kernel) (by decide +kernel)
set_option maxRecDepth 20000 in
theorem gX1_meanBottom_X6_at : GoodIn wsX1_meanBottom (wsV RX1 45 RX6 yX6_at wsX6_at) := goodIn_app (goodIn_of _ (by decide +kernel)) ggX1_meanBottom_X6_at
theorem dX1_meanBottom_0 : decode cX1_meanBottom 0 = .ok (.aload_n 0, 1) := by decide +kernel
theorem dX1_meanBottom_1 : decode cX1_meanBottom 1 = .ok (.getfield 20, 3) := by decide +kernel
theorem dX1_meanBottom_4 : decode cX1_meanBottom 4 = .ok (.iload_n 1, 1) := by decide +kernel
theorem dX1_meanBottom_5 : decode cX1_meanBottom 5 = .ok (.iload_n 2, 1) := by decide +kernel
theorem dX1_meanBottom_6 : decode cX1_meanBottom 6 = .ok (.invokevirtual 45, 3) := by decide +kernel
theorem dX1_meanBottom_9 : decode cX1_meanBottom 9 = .ok (.istore_n 3, 1) := by decide +kernel
theorem dX1_meanBottom_10 : decode cX1_meanBottom 10 = .ok (.iload_n 3, 1) := by decide +kernel
theorem dX1_meanBottom_11 : decode cX1_meanBottom 11 = .ok (.ifCond .le 8, 3) := by decide +kernel
theorem dX1_meanBottom_14 : decode cX1_meanBottom 14 = .ok (.iload_n 3, 1) := by decide +kernel
theorem dX1_meanBottom_15 : decode cX1_meanBottom 15 = .ok (.i2l, 1) := by decide +kernel
theorem dX1_meanBottom_16 : decode cX1_meanBottom 16 = .ok (.goto 4, 3) := by decide +kernel
theorem dX1_meanBottom_19 : decode cX1_meanBottom 19 = .ok (.lconst 1, 1) := by decide +kernel
theorem dX1_meanBottom_20 : decode cX1_meanBottom 20 = .ok (.lreturn, 1) := by decide +kernel
set_option maxRecDepth 20000 in
theorem ggX2_init_X4_init : GoodIn wsX2_init wsX4_init := goodIn_r _ [12, 13, 2, 3, 14, 15, 16] (by decide +kernel) (by decide +kernel)
set_option maxRecDepth 20000 in
theorem gX2_init_X4_init : GoodIn wsX2_init (wsX4_init) := ggX2_init_X4_init
theorem dX2_init_0 : decode cX2_init 0 = .ok (.aload_n 0, 1) := by decide +kernel
theorem dX2_init_1 : decode cX2_init 1 = .ok (.invokespecial 3, 3) := by decide +kernel
theorem dX2_init_4 : decode cX2_init 4 = .ok (.aload_n 0, 1) := by decide +kernel
theorem dX2_init_5 : decode cX2_init 5 = .ok (.new 9, 3) := by decide +kernel
theorem dX2_init_8 : decode cX2_init 8 = .ok (.dup, 1) := by decide +kernel
theorem dX2_init_9 : decode cX2_init 9 = .ok (.bipush 29, 2) := by decide +kernel
theorem dX2_init_11 : decode cX2_init 11 = .ok (.invokespecial 11, 3) := by decide +kernel
theorem dX2_init_14 : decode cX2_init 14 = .ok (.putfield 14, 3) := by decide +kernel
theorem dX2_init_17 : decode cX2_init 17 = .ok (.aload_n 0, 1) := by decide +kernel
theorem dX2_init_18 : decode cX2_init 18 = .ok (.new 9, 3) := by decide +kernel
theorem dX2_init_21 : decode cX2_init 21 = .ok (.dup, 1) := by decide +kernel
theorem dX2_init_22 : decode cX2_init 22 = .ok (.bipush 29, 2) := by decide +kernel
theorem dX2_init_24 : decode cX2_init 24 = .ok (.invokespecial 11, 3) := by decide +kernel
theorem dX2_init_27 : decode cX2_init 27 = .ok (.putfield 20, 3) := by decide +kernel
theorem dX2_init_30 : decode cX2_init 30 = .ok (.aload_n 0, 1) := by decide +kernel
theorem dX2_init_31 : decode cX2_init 31 = .ok (.new 9, 3) := by decide +kernel
theorem dX2_init_34 : decode cX2_init 34 = .ok (.dup, 1) := by decide +kernel
theorem dX2_init_35 : decode cX2_init 35 = .ok (.bipush 29, 2) := by decide +kernel
theorem dX2_init_37 : decode cX2_init 37 = .ok (.invokespecial 11, 3) := by decide +kernel
theorem dX2_init_40 : decode cX2_init 40 = .ok (.putfield 23, 3) := by decide +kernel
theorem dX2_init_43 : decode cX2_init 43 = .ok (.return_, 1) := by decide +kernel
set_option maxRecDepth 20000 in
theorem ggX2_cut_X3_patternOf : GoodIn wsX2_cut wsX3_patternOf := goodIn_r _ [9, 10, 11, 12, 13, 14, 15, 16, 48, 49, 50, 51, 52] (by decide +kernel) (by decide +kernel)
set_option maxRecDepth 20000 in
theorem gX2_cut_X3_patternOf : GoodIn wsX2_cut (wsV RX2 30 RX3 yX3_patternOf wsX3_patternOf) := goodIn_app (goodIn_of _ (by decide +kernel)) ggX2_cut_X3_patternOf
set_option maxRecDepth 20000 in
theorem ggX2_cut_X4_put : GoodIn wsX2_cut wsX4_put := goodIn_r _ [20, 16, 52] (by decide +kernel) (by decide +kernel)
set_option maxRecDepth 20000 in
theorem gX2_cut_X4_put : GoodIn wsX2_cut (wsV RX2 36 RX4 yX4_put wsX4_put) := goodIn_app (goodIn_of _ (by decide +kernel)) ggX2_cut_X4_put
set_option maxRecDepth 20000 in
theorem ggX2_cut_X2_beginsNote : GoodIn wsX2_cut wsX2_beginsNote := goodIn_r _ [24, 5, 6, 7, 8, 9, 10, 11, 12, 13, 14, 15, 16, 25, 26, 27, 28, 29, 30, 31, 32, 33, 34, 35, 36, 37, 38, 39, 40, 41, 42, 48, 49, 50, 51, 52, 53, 54] (by decide +kernel) (by decide +kernel)
set_option maxRecDepth 20000 in
theorem gX2_cut_X2_beginsNote : GoodIn wsX2_cut (va_wsS RX2 40 yX2_beginsNote wsX2_beginsNote) := goodIn_app (goodIn_of _ (by decide +kernel)) ggX2_cut_X2_beginsNote
set_option maxRecDepth 20000 in
theorem ggX2_cut_X4_at : GoodIn wsX2_cut wsX4_at := goodIn_r _ [15, 16, 52] (by decide +kernel) (by decide +kernel)
set_option maxRecDepth 20000 in
theorem gX2_cut_X4_at : GoodIn wsX2_cut (wsV RX2 44 RX4 yX4_at wsX4_at) := goodIn_app (goodIn_of _ (by decide +kernel)) ggX2_cut_X4_at
theorem dX2_cut_0 : decode cX2_cut 0 = .ok (.aload_n 0, 1) := by decide +kernel
theorem dX2_cut_1 : decode cX2_cut 1 = .ok (.iconst 0, 1) := by decide +kernel
theorem dX2_cut_2 : decode cX2_cut 2 = .ok (.putfield 26, 3) := by decide +kernel
theorem dX2_cut_5 : decode cX2_cut 5 = .ok (.iconst 0, 1) := by decide +kernel
theorem dX2_cut_6 : decode cX2_cut 6 = .ok (.istore 4, 2) := by decide +kernel
theorem dX2_cut_8 : decode cX2_cut 8 = .ok (.iload 4, 2) := by decide +kernel
theorem dX2_cut_10 : decode cX2_cut 10 = .ok (.iload_n 3, 1) := by decide +kernel
theorem dX2_cut_11 : decode cX2_cut 11 = .ok (.if_icmp .ge 110, 3) := by decide +kernel
theorem dX2_cut_14 : decode cX2_cut 14 = .ok (.aload_n 1, 1) := by decide +kernel
theorem dX2_cut_15 : decode cX2_cut 15 = .ok (.iload 4, 2) := by decide +kernel
theorem dX2_cut_17 : decode cX2_cut 17 = .ok (.invokevirtual 30, 3) := by decide +kernel
theorem dX2_cut_20 : decode cX2_cut 20 = .ok (.ifCond .ge 16, 3) := by decide +kernel
theorem dX2_cut_23 : decode cX2_cut 23 = .ok (.aload_n 0, 1) := by decide +kernel
theorem dX2_cut_24 : decode cX2_cut 24 = .ok (.getfield 23, 3) := by decide +kernel
theorem dX2_cut_27 : decode cX2_cut 27 = .ok (.iload 4, 2) := by decide +kernel
theorem dX2_cut_29 : decode cX2_cut 29 = .ok (.iconst (-1), 1) := by decide +kernel
theorem dX2_cut_30 : decode cX2_cut 30 = .ok (.invokevirtual 36, 3) := by decide +kernel
theorem dX2_cut_33 : decode cX2_cut 33 = .ok (.goto 82, 3) := by decide +kernel
theorem dX2_cut_36 : decode cX2_cut 36 = .ok (.aload_n 1, 1) := by decide +kernel
theorem dX2_cut_37 : decode cX2_cut 37 = .ok (.aload_n 2, 1) := by decide +kernel
theorem dX2_cut_38 : decode cX2_cut 38 = .ok (.iload 4, 2) := by decide +kernel
theorem dX2_cut_40 : decode cX2_cut 40 = .ok (.invokestatic 40, 3) := by decide +kernel
theorem dX2_cut_43 : decode cX2_cut 43 = .ok (.ifCond .eq 26, 3) := by decide +kernel
theorem dX2_cut_46 : decode cX2_cut 46 = .ok (.aload_n 0, 1) := by decide +kernel
theorem dX2_cut_47 : decode cX2_cut 47 = .ok (.getfield 14, 3) := by decide +kernel
theorem dX2_cut_50 : decode cX2_cut 50 = .ok (.aload_n 0, 1) := by decide +kernel
theorem dX2_cut_51 : decode cX2_cut 51 = .ok (.getfield 26, 3) := by decide +kernel
theorem dX2_cut_54 : decode cX2_cut 54 = .ok (.iload 4, 2) := by decide +kernel
theorem dX2_cut_56 : decode cX2_cut 56 = .ok (.invokevirtual 36, 3) := by decide +kernel
theorem dX2_cut_59 : decode cX2_cut 59 = .ok (.aload_n 0, 1) := by decide +kernel
theorem dX2_cut_60 : decode cX2_cut 60 = .ok (.dup, 1) := by decide +kernel
theorem dX2_cut_61 : decode cX2_cut 61 = .ok (.getfield 26, 3) := by decide +kernel
theorem dX2_cut_64 : decode cX2_cut 64 = .ok (.iconst 1, 1) := by decide +kernel
theorem dX2_cut_65 : decode cX2_cut 65 = .ok (.iadd, 1) := by decide +kernel
theorem dX2_cut_66 : decode cX2_cut 66 = .ok (.putfield 26, 3) := by decide +kernel
theorem dX2_cut_69 : decode cX2_cut 69 = .ok (.aload_n 0, 1) := by decide +kernel
theorem dX2_cut_70 : decode cX2_cut 70 = .ok (.getfield 20, 3) := by decide +kernel
theorem dX2_cut_73 : decode cX2_cut 73 = .ok (.aload_n 0, 1) := by decide +kernel
theorem dX2_cut_74 : decode cX2_cut 74 = .ok (.getfield 26, 3) := by decide +kernel
theorem dX2_cut_77 : decode cX2_cut 77 = .ok (.iconst 1, 1) := by decide +kernel
theorem dX2_cut_78 : decode cX2_cut 78 = .ok (.isub, 1) := by decide +kernel
theorem dX2_cut_79 : decode cX2_cut 79 = .ok (.iload 4, 2) := by decide +kernel
theorem dX2_cut_81 : decode cX2_cut 81 = .ok (.iconst 1, 1) := by decide +kernel
theorem dX2_cut_82 : decode cX2_cut 82 = .ok (.iadd, 1) := by decide +kernel
theorem dX2_cut_83 : decode cX2_cut 83 = .ok (.aload_n 0, 1) := by decide +kernel
theorem dX2_cut_84 : decode cX2_cut 84 = .ok (.getfield 14, 3) := by decide +kernel
theorem dX2_cut_87 : decode cX2_cut 87 = .ok (.aload_n 0, 1) := by decide +kernel
theorem dX2_cut_88 : decode cX2_cut 88 = .ok (.getfield 26, 3) := by decide +kernel
theorem dX2_cut_91 : decode cX2_cut 91 = .ok (.iconst 1, 1) := by decide +kernel
theorem dX2_cut_92 : decode cX2_cut 92 = .ok (.isub, 1) := by decide +kernel
theorem dX2_cut_93 : decode cX2_cut 93 = .ok (.invokevirtual 44, 3) := by decide +kernel
theorem dX2_cut_96 : decode cX2_cut 96 = .ok (.isub, 1) := by decide +kernel
theorem dX2_cut_97 : decode cX2_cut 97 = .ok (.invokevirtual 36, 3) := by decide +kernel
theorem dX2_cut_100 : decode cX2_cut 100 = .ok (.aload_n 0, 1) := by decide +kernel
theorem dX2_cut_101 : decode cX2_cut 101 = .ok (.getfield 23, 3) := by decide +kernel
theorem dX2_cut_104 : decode cX2_cut 104 = .ok (.iload 4, 2) := by decide +kernel
theorem dX2_cut_106 : decode cX2_cut 106 = .ok (.aload_n 0, 1) := by decide +kernel
theorem dX2_cut_107 : decode cX2_cut 107 = .ok (.getfield 26, 3) := by decide +kernel
theorem dX2_cut_110 : decode cX2_cut 110 = .ok (.iconst 1, 1) := by decide +kernel
theorem dX2_cut_111 : decode cX2_cut 111 = .ok (.isub, 1) := by decide +kernel
theorem dX2_cut_112 : decode cX2_cut 112 = .ok (.invokevirtual 36, 3) := by decide +kernel
theorem dX2_cut_115 : decode cX2_cut 115 = .ok (.iinc 4 1, 3) := by decide +kernel
theorem dX2_cut_118 : decode cX2_cut 118 = .ok (.goto (-110), 3) := by decide +kernel
theorem dX2_cut_121 : decode cX2_cut 121 = .ok (.return_, 1) := by decide +kernel
set_option maxRecDepth 20000 in
theorem ggX2_beginsNote_X3_patternOf : GoodIn wsX2_beginsNote wsX3_patternOf := goodIn_r _ [5, 6, 7, 8, 9, 10, 11, 12, 31, 32, 33, 34, 35] (by decide +kernel) (by decide +kernel)
set_option maxRecDepth 20000 in
theorem gX2_beginsNote_X3_patternOf : GoodIn wsX2_beginsNote (wsV RX2 30 RX3 yX3_patternOf wsX3_patternOf) := goodIn_app (goodIn_of _ (by decide +kernel)) ggX2_beginsNote_X3_patternOf
set_option maxRecDepth 20000 in
theorem ggX2_beginsNote_X5_startsIn : GoodIn wsX2_beginsNote wsX5_startsIn := goodIn_r _ [17, 18, 19, 20, 16, 21, 22, 23, 24, 25, 26, 27, 28, 29, 30, 36, 37] (by decide +kernel) (by decide +kernel)
set_option maxRecDepth 20000 in
theorem gX2_beginsNote_X5_startsIn : GoodIn wsX2_beginsNote (wsV RX2 47 RX5 yX5_startsIn wsX5_startsIn) := goodIn_app (goodIn_of _ (by decide +kernel)) ggX2_beginsNote_X5_startsIn
theorem dX2_beginsNote_0 : decode cX2_beginsNote 0 = .ok (.iload_n 2, 1) := by decide +kernel
theorem dX2_beginsNote_1 : decode cX2_beginsNote 1 = .ok (.ifCond .eq 18, 3) := by decide +kernel
theorem dX2_beginsNote_4 : decode cX2_beginsNote 4 = .ok (.aload_n 0, 1) := by decide +kernel
theorem dX2_beginsNote_5 : decode cX2_beginsNote 5 = .ok (.iload_n 2, 1) := by decide +kernel
theorem dX2_beginsNote_6 : decode cX2_beginsNote 6 = .ok (.iconst 1, 1) := by decide +kernel
theorem dX2_beginsNote_7 : decode cX2_beginsNote 7 = .ok (.isub, 1) := by decide +kernel
theorem dX2_beginsNote_8 : decode cX2_beginsNote 8 = .ok (.invokevirtual 30, 3) := by decide +kernel
theorem dX2_beginsNote_11 : decode cX2_beginsNote 11 = .ok (.aload_n 0, 1) := by decide +kernel
theorem dX2_beginsNote_12 : decode cX2_beginsNote 12 = .ok (.iload_n 2, 1) := by decide +kernel
theorem dX2_beginsNote_13 : decode cX2_beginsNote 13 = .ok (.invokevirtual 30, 3) := by decide +kernel
theorem dX2_beginsNote_16 : decode cX2_beginsNote 16 = .ok (.if_icmp .eq 5, 3) := by decide +kernel
theorem dX2_beginsNote_19 : decode cX2_beginsNote 19 = .ok (.iconst 1, 1) := by decide +kernel
theorem dX2_beginsNote_20 : decode cX2_beginsNote 20 = .ok (.ireturn, 1) := by decide +kernel
theorem dX2_beginsNote_21 : decode cX2_beginsNote 21 = .ok (.aload_n 1, 1) := by decide +kernel
theorem dX2_beginsNote_22 : decode cX2_beginsNote 22 = .ok (.iload_n 2, 1) := by decide +kernel
theorem dX2_beginsNote_23 : decode cX2_beginsNote 23 = .ok (.invokevirtual 47, 3) := by decide +kernel
theorem dX2_beginsNote_26 : decode cX2_beginsNote 26 = .ok (.ifCond .eq 17, 3) := by decide +kernel
theorem dX2_beginsNote_29 : decode cX2_beginsNote 29 = .ok (.aload_n 1, 1) := by decide +kernel
theorem dX2_beginsNote_30 : decode cX2_beginsNote 30 = .ok (.iload_n 2, 1) := by decide +kernel
theorem dX2_beginsNote_31 : decode cX2_beginsNote 31 = .ok (.iconst 1, 1) := by decide +kernel
theorem dX2_beginsNote_32 : decode cX2_beginsNote 32 = .ok (.isub, 1) := by decide +kernel
theorem dX2_beginsNote_33 : decode cX2_beginsNote 33 = .ok (.invokevirtual 47, 3) := by decide +kernel
theorem dX2_beginsNote_36 : decode cX2_beginsNote 36 = .ok (.ifCond .ne 7, 3) := by decide +kernel
theorem dX2_beginsNote_39 : decode cX2_beginsNote 39 = .ok (.iconst 1, 1) := by decide +kernel
theorem dX2_beginsNote_40 : decode cX2_beginsNote 40 = .ok (.goto 4, 3) := by decide +kernel
theorem dX2_beginsNote_43 : decode cX2_beginsNote 43 = .ok (.iconst 0, 1) := by decide +kernel
theorem dX2_beginsNote_44 : decode cX2_beginsNote 44 = .ok (.ireturn, 1) := by decide +kernel
theorem dX2_count_0 : decode cX2_count 0 = .ok (.aload_n 0, 1) := by decide +kernel
theorem dX2_count_1 : decode cX2_count 1 = .ok (.getfield 26, 3) := by decide +kernel
theorem dX2_count_4 : decode cX2_count 4 = .ok (.ireturn, 1) := by decide +kernel
set_option maxRecDepth 20000 in
theorem ggX2_startOf_X4_at : GoodIn wsX2_startOf wsX4_at := goodIn_r _ [6, 7, 12] (by decide +kernel) (by decide +kernel)
set_option maxRecDepth 20000 in
theorem gX2_startOf_X4_at : GoodIn wsX2_startOf (wsV RX2 44 RX4 yX4_at wsX4_at) := goodIn_app (goodIn_of _ (by decide +kernel)) ggX2_startOf_X4_at
theorem dX2_startOf_0 : decode cX2_startOf 0 = .ok (.aload_n 0, 1) := by decide +kernel
theorem dX2_startOf_1 : decode cX2_startOf 1 = .ok (.getfield 14, 3) := by decide +kernel
theorem dX2_startOf_4 : decode cX2_startOf 4 = .ok (.iload_n 1, 1) := by decide +kernel
theorem dX2_startOf_5 : decode cX2_startOf 5 = .ok (.invokevirtual 44, 3) := by decide +kernel
theorem dX2_startOf_8 : decode cX2_startOf 8 = .ok (.ireturn, 1) := by decide +kernel
set_option maxRecDepth 20000 in
theorem ggX2_lengthOf_X4_at : GoodIn wsX2_lengthOf wsX4_at := goodIn_r _ [6, 7, 12] (by decide +kernel) (by decide +kernel)
set_option maxRecDepth 20000 in
theorem gX2_lengthOf_X4_at : GoodIn wsX2_lengthOf (wsV RX2 44 RX4 yX4_at wsX4_at) := goodIn_app (goodIn_of _ (by decide +kernel)) ggX2_lengthOf_X4_at
theorem dX2_lengthOf_0 : decode cX2_lengthOf 0 = .ok (.aload_n 0, 1) := by decide +kernel
theorem dX2_lengthOf_1 : decode cX2_lengthOf 1 = .ok (.getfield 20, 3) := by decide +kernel
theorem dX2_lengthOf_4 : decode cX2_lengthOf 4 = .ok (.iload_n 1, 1) := by decide +kernel
theorem dX2_lengthOf_5 : decode cX2_lengthOf 5 = .ok (.invokevirtual 44, 3) := by decide +kernel
theorem dX2_lengthOf_8 : decode cX2_lengthOf 8 = .ok (.ireturn, 1) := by decide +kernel
set_option maxRecDepth 20000 in
theorem ggX2_holding_X4_at : GoodIn wsX2_holding wsX4_at := goodIn_r _ [6, 7, 12] (by decide +kernel) (by decide +kernel)
set_option maxRecDepth 20000 in
theorem gX2_holding_X4_at : GoodIn wsX2_holding (wsV RX2 44 RX4 yX4_at wsX4_at) := goodIn_app (goodIn_of _ (by decide +kernel)) ggX2_holding_X4_at
theorem dX2_holding_0 : decode cX2_holding 0 = .ok (.aload_n 0, 1) := by decide +kernel
theorem dX2_holding_1 : decode cX2_holding 1 = .ok (.getfield 23, 3) := by decide +kernel
theorem dX2_holding_4 : decode cX2_holding 4 = .ok (.iload_n 1, 1) := by decide +kernel
theorem dX2_holding_5 : decode cX2_holding 5 = .ok (.invokevirtual 44, 3) := by decide +kernel
theorem dX2_holding_8 : decode cX2_holding 8 = .ok (.ireturn, 1) := by decide +kernel
set_option maxRecDepth 20000 in
theorem ggX3_init_X4_init : GoodIn wsX3_init wsX4_init := goodIn_r _ [13, 14, 2, 3, 15, 16, 21] (by decide +kernel) (by decide +kernel)
set_option maxRecDepth 20000 in
theorem gX3_init_X4_init : GoodIn wsX3_init (wsX4_init) := ggX3_init_X4_init
theorem dX3_init_0 : decode cX3_init 0 = .ok (.aload_n 0, 1) := by decide +kernel
theorem dX3_init_1 : decode cX3_init 1 = .ok (.invokespecial 3, 3) := by decide +kernel
theorem dX3_init_4 : decode cX3_init 4 = .ok (.aload_n 0, 1) := by decide +kernel
theorem dX3_init_5 : decode cX3_init 5 = .ok (.iconst 0, 1) := by decide +kernel
theorem dX3_init_6 : decode cX3_init 6 = .ok (.putfield 9, 3) := by decide +kernel
theorem dX3_init_9 : decode cX3_init 9 = .ok (.aload_n 0, 1) := by decide +kernel
theorem dX3_init_10 : decode cX3_init 10 = .ok (.sipush 4096, 3) := by decide +kernel
theorem dX3_init_13 : decode cX3_init 13 = .ok (.putfield 15, 3) := by decide +kernel
theorem dX3_init_16 : decode cX3_init 16 = .ok (.aload_n 0, 1) := by decide +kernel
theorem dX3_init_17 : decode cX3_init 17 = .ok (.new 18, 3) := by decide +kernel
theorem dX3_init_20 : decode cX3_init 20 = .ok (.dup, 1) := by decide +kernel
theorem dX3_init_21 : decode cX3_init 21 = .ok (.bipush 29, 2) := by decide +kernel
theorem dX3_init_23 : decode cX3_init 23 = .ok (.invokespecial 20, 3) := by decide +kernel
theorem dX3_init_26 : decode cX3_init 26 = .ok (.putfield 23, 3) := by decide +kernel
theorem dX3_init_29 : decode cX3_init 29 = .ok (.aload_n 0, 1) := by decide +kernel
theorem dX3_init_30 : decode cX3_init 30 = .ok (.new 18, 3) := by decide +kernel
theorem dX3_init_33 : decode cX3_init 33 = .ok (.dup, 1) := by decide +kernel
theorem dX3_init_34 : decode cX3_init 34 = .ok (.bipush 29, 2) := by decide +kernel
theorem dX3_init_36 : decode cX3_init 36 = .ok (.invokespecial 20, 3) := by decide +kernel
theorem dX3_init_39 : decode cX3_init 39 = .ok (.putfield 27, 3) := by decide +kernel
theorem dX3_init_42 : decode cX3_init 42 = .ok (.return_, 1) := by decide +kernel
theorem dX3_useTemperament_0 : decode cX3_useTemperament 0 = .ok (.aload_n 0, 1) := by decide +kernel
theorem dX3_useTemperament_1 : decode cX3_useTemperament 1 = .ok (.iload_n 1, 1) := by decide +kernel
theorem dX3_useTemperament_2 : decode cX3_useTemperament 2 = .ok (.putfield 9, 3) := by decide +kernel
theorem dX3_useTemperament_5 : decode cX3_useTemperament 5 = .ok (.aload_n 0, 1) := by decide +kernel
theorem dX3_useTemperament_6 : decode cX3_useTemperament 6 = .ok (.iload_n 2, 1) := by decide +kernel
theorem dX3_useTemperament_7 : decode cX3_useTemperament 7 = .ok (.putfield 15, 3) := by decide +kernel
theorem dX3_useTemperament_10 : decode cX3_useTemperament 10 = .ok (.return_, 1) := by decide +kernel
set_option maxRecDepth 20000 in
theorem ggX3_find_X7_lagOf : GoodIn wsX3_find wsX7_lagOf := goodIn_r _ [7, 8, 9, 10, 11, 12, 13, 14, 65, 66, 67, 68, 69, 70, 71, 72] (by decide +kernel) (by decide +kernel)
set_option maxRecDepth 20000 in
theorem gX3_find_X7_lagOf : GoodIn wsX3_find (wsV RX3 30 RX7 yX7_lagOf wsX7_lagOf) := goodIn_app (goodIn_of _ (by decide +kernel)) ggX3_find_X7_lagOf
set_option maxRecDepth 20000 in
theorem ggX3_find_X3_refine : GoodIn wsX3_find wsX3_refine := goodIn_r _ [18, 19, 20, 21, 22, 23, 24, 25, 26, 27, 28, 29, 30, 31, 32, 33, 34, 35, 36, 37, 38, 39, 40, 41, 73, 74, 75, 76, 77] (by decide +kernel) (by decide +kernel)
set_option maxRecDepth 20000 in
theorem gX3_find_X3_refine : GoodIn wsX3_find (va_wsS RX3 36 yX3_refine wsX3_refine) := goodIn_app (goodIn_of _ (by decide +kernel)) ggX3_find_X3_refine
set_option maxRecDepth 20000 in
theorem ggX3_find_X4_put : GoodIn wsX3_find wsX4_put := goodIn_r _ [45, 14, 72] (by decide +kernel) (by decide +kernel)
set_option maxRecDepth 20000 in
theorem gX3_find_X4_put : GoodIn wsX3_find (wsV RX3 40 RX4 yX4_put wsX4_put) := goodIn_app (goodIn_of _ (by decide +kernel)) ggX3_find_X4_put
set_option maxRecDepth 20000 in
theorem ggX3_find_X3_nearestPattern : GoodIn wsX3_find wsX3_nearestPattern := goodIn_r _ [49, 50, 51, 52, 53, 21, 54, 55, 56, 57, 17, 58, 59, 60, 61, 62, 63, 64] (by decide +kernel) (by decide +kernel)
set_option maxRecDepth 20000 in
theorem gX3_find_X3_nearestPattern : GoodIn wsX3_find (wsV RX3 44 RX3 yX3_nearestPattern wsX3_nearestPattern) := goodIn_app (goodIn_of _ (by decide +kernel)) ggX3_find_X3_nearestPattern
theorem dX3_find_0 : decode cX3_find 0 = .ok (.iconst 0, 1) := by decide +kernel
theorem dX3_find_1 : decode cX3_find 1 = .ok (.istore 4, 2) := by decide +kernel
theorem dX3_find_3 : decode cX3_find 3 = .ok (.iload 4, 2) := by decide +kernel
theorem dX3_find_5 : decode cX3_find 5 = .ok (.iload_n 3, 1) := by decide +kernel
theorem dX3_find_6 : decode cX3_find 6 = .ok (.if_icmp .ge 71, 3) := by decide +kernel
theorem dX3_find_9 : decode cX3_find 9 = .ok (.aload_n 1, 1) := by decide +kernel
theorem dX3_find_10 : decode cX3_find 10 = .ok (.iload 4, 2) := by decide +kernel
theorem dX3_find_12 : decode cX3_find 12 = .ok (.invokevirtual 30, 3) := by decide +kernel
theorem dX3_find_15 : decode cX3_find 15 = .ok (.istore 5, 2) := by decide +kernel
theorem dX3_find_17 : decode cX3_find 17 = .ok (.iload 5, 2) := by decide +kernel
theorem dX3_find_19 : decode cX3_find 19 = .ok (.ifCond .le 14, 3) := by decide +kernel
theorem dX3_find_22 : decode cX3_find 22 = .ok (.aload_n 2, 1) := by decide +kernel
theorem dX3_find_23 : decode cX3_find 23 = .ok (.iload 4, 2) := by decide +kernel
theorem dX3_find_25 : decode cX3_find 25 = .ok (.iload 5, 2) := by decide +kernel
theorem dX3_find_27 : decode cX3_find 27 = .ok (.invokestatic 36, 3) := by decide +kernel
theorem dX3_find_30 : decode cX3_find 30 = .ok (.goto 4, 3) := by decide +kernel
theorem dX3_find_33 : decode cX3_find 33 = .ok (.iconst 0, 1) := by decide +kernel
theorem dX3_find_34 : decode cX3_find 34 = .ok (.istore 6, 2) := by decide +kernel
theorem dX3_find_36 : decode cX3_find 36 = .ok (.aload_n 0, 1) := by decide +kernel
theorem dX3_find_37 : decode cX3_find 37 = .ok (.getfield 23, 3) := by decide +kernel
theorem dX3_find_40 : decode cX3_find 40 = .ok (.iload 4, 2) := by decide +kernel
theorem dX3_find_42 : decode cX3_find 42 = .ok (.iload 6, 2) := by decide +kernel
theorem dX3_find_44 : decode cX3_find 44 = .ok (.invokevirtual 40, 3) := by decide +kernel
theorem dX3_find_47 : decode cX3_find 47 = .ok (.aload_n 0, 1) := by decide +kernel
theorem dX3_find_48 : decode cX3_find 48 = .ok (.getfield 27, 3) := by decide +kernel
theorem dX3_find_51 : decode cX3_find 51 = .ok (.iload 4, 2) := by decide +kernel
theorem dX3_find_53 : decode cX3_find 53 = .ok (.iload 5, 2) := by decide +kernel
theorem dX3_find_55 : decode cX3_find 55 = .ok (.ifCond .le 12, 3) := by decide +kernel
theorem dX3_find_58 : decode cX3_find 58 = .ok (.aload_n 0, 1) := by decide +kernel
theorem dX3_find_59 : decode cX3_find 59 = .ok (.iload 6, 2) := by decide +kernel
theorem dX3_find_61 : decode cX3_find 61 = .ok (.invokevirtual 44, 3) := by decide +kernel
theorem dX3_find_64 : decode cX3_find 64 = .ok (.goto 4, 3) := by decide +kernel
theorem dX3_find_67 : decode cX3_find 67 = .ok (.iconst (-1), 1) := by decide +kernel
theorem dX3_find_68 : decode cX3_find 68 = .ok (.invokevirtual 40, 3) := by decide +kernel
theorem dX3_find_71 : decode cX3_find 71 = .ok (.iinc 4 1, 3) := by decide +kernel
theorem dX3_find_74 : decode cX3_find 74 = .ok (.goto (-71), 3) := by decide +kernel
theorem dX3_find_77 : decode cX3_find 77 = .ok (.return_, 1) := by decide +kernel
set_option maxRecDepth 20000 in
theorem ggX3_refine_X1_at : GoodIn wsX3_refine wsX1_at := goodIn_r _ [12, 13, 14, 15, 16, 17, 18, 19, 20, 24, 25, 26, 27, 28] (by decide +kernel) (by decide +kernel)
set_option maxRecDepth 20000 in
theorem gX3_refine_X1_at : GoodIn wsX3_refine (wsV RX3 47 RX1 yX1_at wsX1_at) := goodIn_app (goodIn_of _ (by decide +kernel)) ggX3_refine_X1_at
set_option maxRecDepth 20000 in
theorem ggX3_refine_X8_quotient : GoodIn wsX3_refine wsX8_quotient := goodIn_r _ [23] (by decide +kernel) (by decide +kernel)
set_option maxRecDepth 20000 in
theorem gX3_refine_X8_quotient_n53 : GoodIn wsX3_refine (wsX8_quotient) := ggX3_refine_X8_quotient
theorem dX3_refine_0 : decode cX3_refine 0 = .ok (.aload_n 0, 1) := by decide +kernel
theorem dX3_refine_1 : decode cX3_refine 1 = .ok (.iload_n 1, 1) := by decide +kernel
theorem dX3_refine_2 : decode cX3_refine 2 = .ok (.iload_n 2, 1) := by decide +kernel
theorem dX3_refine_3 : decode cX3_refine 3 = .ok (.iconst 1, 1) := by decide +kernel
theorem dX3_refine_4 : decode cX3_refine 4 = .ok (.isub, 1) := by decide +kernel
theorem dX3_refine_5 : decode cX3_refine 5 = .ok (.invokevirtual 47, 3) := by decide +kernel
theorem dX3_refine_8 : decode cX3_refine 8 = .ok (.istore_n 3, 1) := by decide +kernel
theorem dX3_refine_9 : decode cX3_refine 9 = .ok (.aload_n 0, 1) := by decide +kernel
theorem dX3_refine_10 : decode cX3_refine 10 = .ok (.iload_n 1, 1) := by decide +kernel
theorem dX3_refine_11 : decode cX3_refine 11 = .ok (.iload_n 2, 1) := by decide +kernel
theorem dX3_refine_12 : decode cX3_refine 12 = .ok (.invokevirtual 47, 3) := by decide +kernel
theorem dX3_refine_15 : decode cX3_refine 15 = .ok (.istore 4, 2) := by decide +kernel
theorem dX3_refine_17 : decode cX3_refine 17 = .ok (.aload_n 0, 1) := by decide +kernel
theorem dX3_refine_18 : decode cX3_refine 18 = .ok (.iload_n 1, 1) := by decide +kernel
theorem dX3_refine_19 : decode cX3_refine 19 = .ok (.iload_n 2, 1) := by decide +kernel
theorem dX3_refine_20 : decode cX3_refine 20 = .ok (.iconst 1, 1) := by decide +kernel
theorem dX3_refine_21 : decode cX3_refine 21 = .ok (.iadd, 1) := by decide +kernel
theorem dX3_refine_22 : decode cX3_refine 22 = .ok (.invokevirtual 47, 3) := by decide +kernel
theorem dX3_refine_25 : decode cX3_refine 25 = .ok (.istore 5, 2) := by decide +kernel
theorem dX3_refine_27 : decode cX3_refine 27 = .ok (.bipush 32, 2) := by decide +kernel
theorem dX3_refine_29 : decode cX3_refine 29 = .ok (.iload_n 3, 1) := by decide +kernel
theorem dX3_refine_30 : decode cX3_refine 30 = .ok (.iload 5, 2) := by decide +kernel
theorem dX3_refine_32 : decode cX3_refine 32 = .ok (.isub, 1) := by decide +kernel
theorem dX3_refine_33 : decode cX3_refine 33 = .ok (.imul, 1) := by decide +kernel
theorem dX3_refine_34 : decode cX3_refine 34 = .ok (.i2l, 1) := by decide +kernel
theorem dX3_refine_35 : decode cX3_refine 35 = .ok (.iload_n 3, 1) := by decide +kernel
theorem dX3_refine_36 : decode cX3_refine 36 = .ok (.iconst 2, 1) := by decide +kernel
theorem dX3_refine_37 : decode cX3_refine 37 = .ok (.iload 4, 2) := by decide +kernel
theorem dX3_refine_39 : decode cX3_refine 39 = .ok (.imul, 1) := by decide +kernel
theorem dX3_refine_40 : decode cX3_refine 40 = .ok (.isub, 1) := by decide +kernel
theorem dX3_refine_41 : decode cX3_refine 41 = .ok (.iload 5, 2) := by decide +kernel
theorem dX3_refine_43 : decode cX3_refine 43 = .ok (.iadd, 1) := by decide +kernel
theorem dX3_refine_44 : decode cX3_refine 44 = .ok (.i2l, 1) := by decide +kernel
theorem dX3_refine_45 : decode cX3_refine 45 = .ok (.invokestatic 53, 3) := by decide +kernel
theorem dX3_refine_48 : decode cX3_refine 48 = .ok (.l2i, 1) := by decide +kernel
theorem dX3_refine_49 : decode cX3_refine 49 = .ok (.istore 6, 2) := by decide +kernel
theorem dX3_refine_51 : decode cX3_refine 51 = .ok (.bipush 64, 2) := by decide +kernel
theorem dX3_refine_53 : decode cX3_refine 53 = .ok (.iload_n 2, 1) := by decide +kernel
theorem dX3_refine_54 : decode cX3_refine 54 = .ok (.imul, 1) := by decide +kernel
theorem dX3_refine_55 : decode cX3_refine 55 = .ok (.bipush (-32), 2) := by decide +kernel
theorem dX3_refine_57 : decode cX3_refine 57 = .ok (.bipush 32, 2) := by decide +kernel
theorem dX3_refine_59 : decode cX3_refine 59 = .ok (.iload 6, 2) := by decide +kernel
theorem dX3_refine_61 : decode cX3_refine 61 = .ok (.invokestatic 57, 3) := by decide +kernel
theorem dX3_refine_64 : decode cX3_refine 64 = .ok (.invokestatic 62, 3) := by decide +kernel
theorem dX3_refine_67 : decode cX3_refine 67 = .ok (.iadd, 1) := by decide +kernel
theorem dX3_refine_68 : decode cX3_refine 68 = .ok (.ireturn, 1) := by decide +kernel
set_option maxRecDepth 20000 in
theorem ggX3_nearestPattern_X3_partOf : GoodIn wsX3_nearestPattern wsX3_partOf := goodIn_r _ [11, 12, 13, 14, 15, 16, 17] (by decide +kernel) (by decide +kernel)
set_option maxRecDepth 20000 in
theorem gX3_nearestPattern_X3_partOf : GoodIn wsX3_nearestPattern (wsV RX3 67 RX3 yX3_partOf wsX3_partOf) := goodIn_app (goodIn_of _ (by decide +kernel)) ggX3_nearestPattern_X3_partOf
theorem dX3_nearestPattern_0 : decode cX3_nearestPattern 0 = .ok (.iload_n 1, 1) := by decide +kernel
theorem dX3_nearestPattern_1 : decode cX3_nearestPattern 1 = .ok (.i2l, 1) := by decide +kernel
theorem dX3_nearestPattern_2 : decode cX3_nearestPattern 2 = .ok (.ldc2_w 65, 3) := by decide +kernel
theorem dX3_nearestPattern_5 : decode cX3_nearestPattern 5 = .ok (.lmul, 1) := by decide +kernel
theorem dX3_nearestPattern_6 : decode cX3_nearestPattern 6 = .ok (.bipush 6, 2) := by decide +kernel
theorem dX3_nearestPattern_8 : decode cX3_nearestPattern 8 = .ok (.lshl, 1) := by decide +kernel
theorem dX3_nearestPattern_9 : decode cX3_nearestPattern 9 = .ok (.lstore_n 2, 1) := by decide +kernel
theorem dX3_nearestPattern_10 : decode cX3_nearestPattern 10 = .ok (.iconst 0, 1) := by decide +kernel
theorem dX3_nearestPattern_11 : decode cX3_nearestPattern 11 = .ok (.istore 4, 2) := by decide +kernel
theorem dX3_nearestPattern_13 : decode cX3_nearestPattern 13 = .ok (.lconst 0, 1) := by decide +kernel
theorem dX3_nearestPattern_14 : decode cX3_nearestPattern 14 = .ok (.lstore 5, 2) := by decide +kernel
theorem dX3_nearestPattern_16 : decode cX3_nearestPattern 16 = .ok (.iconst 0, 1) := by decide +kernel
theorem dX3_nearestPattern_17 : decode cX3_nearestPattern 17 = .ok (.istore 7, 2) := by decide +kernel
theorem dX3_nearestPattern_19 : decode cX3_nearestPattern 19 = .ok (.iload 7, 2) := by decide +kernel
theorem dX3_nearestPattern_21 : decode cX3_nearestPattern 21 = .ok (.bipush 84, 2) := by decide +kernel
theorem dX3_nearestPattern_23 : decode cX3_nearestPattern 23 = .ok (.if_icmp .ge 70, 3) := by decide +kernel
theorem dX3_nearestPattern_26 : decode cX3_nearestPattern 26 = .ok (.iload 7, 2) := by decide +kernel
theorem dX3_nearestPattern_28 : decode cX3_nearestPattern 28 = .ok (.bipush 12, 2) := by decide +kernel
theorem dX3_nearestPattern_30 : decode cX3_nearestPattern 30 = .ok (.idiv, 1) := by decide +kernel
theorem dX3_nearestPattern_31 : decode cX3_nearestPattern 31 = .ok (.istore 8, 2) := by decide +kernel
theorem dX3_nearestPattern_33 : decode cX3_nearestPattern 33 = .ok (.aload_n 0, 1) := by decide +kernel
theorem dX3_nearestPattern_34 : decode cX3_nearestPattern 34 = .ok (.getfield 15, 3) := by decide +kernel
theorem dX3_nearestPattern_37 : decode cX3_nearestPattern 37 = .ok (.i2l, 1) := by decide +kernel
theorem dX3_nearestPattern_38 : decode cX3_nearestPattern 38 = .ok (.aload_n 0, 1) := by decide +kernel
theorem dX3_nearestPattern_39 : decode cX3_nearestPattern 39 = .ok (.iload 7, 2) := by decide +kernel
theorem dX3_nearestPattern_41 : decode cX3_nearestPattern 41 = .ok (.bipush 12, 2) := by decide +kernel
theorem dX3_nearestPattern_43 : decode cX3_nearestPattern 43 = .ok (.irem, 1) := by decide +kernel
theorem dX3_nearestPattern_44 : decode cX3_nearestPattern 44 = .ok (.invokevirtual 67, 3) := by decide +kernel
theorem dX3_nearestPattern_47 : decode cX3_nearestPattern 47 = .ok (.i2l, 1) := by decide +kernel
theorem dX3_nearestPattern_48 : decode cX3_nearestPattern 48 = .ok (.lmul, 1) := by decide +kernel
theorem dX3_nearestPattern_49 : decode cX3_nearestPattern 49 = .ok (.bipush 6, 2) := by decide +kernel
theorem dX3_nearestPattern_51 : decode cX3_nearestPattern 51 = .ok (.iload 8, 2) := by decide +kernel
theorem dX3_nearestPattern_53 : decode cX3_nearestPattern 53 = .ok (.isub, 1) := by decide +kernel
theorem dX3_nearestPattern_54 : decode cX3_nearestPattern 54 = .ok (.lshl, 1) := by decide +kernel
theorem dX3_nearestPattern_55 : decode cX3_nearestPattern 55 = .ok (.lstore 9, 2) := by decide +kernel
theorem dX3_nearestPattern_57 : decode cX3_nearestPattern 57 = .ok (.lload 9, 2) := by decide +kernel
theorem dX3_nearestPattern_59 : decode cX3_nearestPattern 59 = .ok (.lload_n 2, 1) := by decide +kernel
theorem dX3_nearestPattern_60 : decode cX3_nearestPattern 60 = .ok (.lsub, 1) := by decide +kernel
theorem dX3_nearestPattern_61 : decode cX3_nearestPattern 61 = .ok (.invokestatic 70, 3) := by decide +kernel
theorem dX3_nearestPattern_64 : decode cX3_nearestPattern 64 = .ok (.lstore 11, 2) := by decide +kernel
theorem dX3_nearestPattern_66 : decode cX3_nearestPattern 66 = .ok (.iload 7, 2) := by decide +kernel
theorem dX3_nearestPattern_68 : decode cX3_nearestPattern 68 = .ok (.ifCond .eq 11, 3) := by decide +kernel
theorem dX3_nearestPattern_71 : decode cX3_nearestPattern 71 = .ok (.lload 11, 2) := by decide +kernel
theorem dX3_nearestPattern_73 : decode cX3_nearestPattern 73 = .ok (.lload 5, 2) := by decide +kernel
theorem dX3_nearestPattern_75 : decode cX3_nearestPattern 75 = .ok (.lcmp, 1) := by decide +kernel
theorem dX3_nearestPattern_76 : decode cX3_nearestPattern 76 = .ok (.ifCond .ge 11, 3) := by decide +kernel
theorem dX3_nearestPattern_79 : decode cX3_nearestPattern 79 = .ok (.lload 11, 2) := by decide +kernel
theorem dX3_nearestPattern_81 : decode cX3_nearestPattern 81 = .ok (.lstore 5, 2) := by decide +kernel
theorem dX3_nearestPattern_83 : decode cX3_nearestPattern 83 = .ok (.iload 7, 2) := by decide +kernel
theorem dX3_nearestPattern_85 : decode cX3_nearestPattern 85 = .ok (.istore 4, 2) := by decide +kernel
theorem dX3_nearestPattern_87 : decode cX3_nearestPattern 87 = .ok (.iinc 7 1, 3) := by decide +kernel
theorem dX3_nearestPattern_90 : decode cX3_nearestPattern 90 = .ok (.goto (-71), 3) := by decide +kernel
theorem dX3_nearestPattern_93 : decode cX3_nearestPattern 93 = .ok (.iload 4, 2) := by decide +kernel
theorem dX3_nearestPattern_95 : decode cX3_nearestPattern 95 = .ok (.ireturn, 1) := by decide +kernel
theorem dX3_partOf_0 : decode cX3_partOf 0 = .ok (.aload_n 0, 1) := by decide +kernel
theorem dX3_partOf_1 : decode cX3_partOf 1 = .ok (.getfield 9, 3) := by decide +kernel
theorem dX3_partOf_4 : decode cX3_partOf 4 = .ok (.bipush 12, 2) := by decide +kernel
theorem dX3_partOf_6 : decode cX3_partOf 6 = .ok (.imul, 1) := by decide +kernel
theorem dX3_partOf_7 : decode cX3_partOf 7 = .ok (.iload_n 1, 1) := by decide +kernel
theorem dX3_partOf_8 : decode cX3_partOf 8 = .ok (.iadd, 1) := by decide +kernel
theorem dX3_partOf_9 : decode cX3_partOf 9 = .ok (.istore_n 2, 1) := by decide +kernel
theorem dX3_partOf_10 : decode cX3_partOf 10 = .ok (.iload_n 2, 1) := by decide +kernel
theorem dX3_partOf_11 : decode cX3_partOf 11 = .ok (.ifCond .lt 19, 3) := by decide +kernel
theorem dX3_partOf_14 : decode cX3_partOf 14 = .ok (.iload_n 2, 1) := by decide +kernel
theorem dX3_partOf_15 : decode cX3_partOf 15 = .ok (.getstatic 74, 3) := by decide +kernel
theorem dX3_partOf_18 : decode cX3_partOf 18 = .ok (.arraylength, 1) := by decide +kernel
theorem dX3_partOf_19 : decode cX3_partOf 19 = .ok (.if_icmp .ge 11, 3) := by decide +kernel
theorem dX3_partOf_22 : decode cX3_partOf 22 = .ok (.getstatic 74, 3) := by decide +kernel
theorem dX3_partOf_25 : decode cX3_partOf 25 = .ok (.iload_n 2, 1) := by decide +kernel
theorem dX3_partOf_26 : decode cX3_partOf 26 = .ok (.iaload, 1) := by decide +kernel
theorem dX3_partOf_27 : decode cX3_partOf 27 = .ok (.goto 4, 3) := by decide +kernel
theorem dX3_partOf_30 : decode cX3_partOf 30 = .ok (.iconst 0, 1) := by decide +kernel
theorem dX3_partOf_31 : decode cX3_partOf 31 = .ok (.ireturn, 1) := by decide +kernel
set_option maxRecDepth 20000 in
theorem ggX3_periodOf_X4_at : GoodIn wsX3_periodOf wsX4_at := goodIn_r _ [6, 7, 12] (by decide +kernel) (by decide +kernel)
set_option maxRecDepth 20000 in
theorem gX3_periodOf_X4_at : GoodIn wsX3_periodOf (wsV RX3 78 RX4 yX4_at wsX4_at) := goodIn_app (goodIn_of _ (by decide +kernel)) ggX3_periodOf_X4_at
theorem dX3_periodOf_0 : decode cX3_periodOf 0 = .ok (.aload_n 0, 1) := by decide +kernel
theorem dX3_periodOf_1 : decode cX3_periodOf 1 = .ok (.getfield 23, 3) := by decide +kernel
theorem dX3_periodOf_4 : decode cX3_periodOf 4 = .ok (.iload_n 1, 1) := by decide +kernel
theorem dX3_periodOf_5 : decode cX3_periodOf 5 = .ok (.invokevirtual 78, 3) := by decide +kernel
theorem dX3_periodOf_8 : decode cX3_periodOf 8 = .ok (.ireturn, 1) := by decide +kernel
set_option maxRecDepth 20000 in
theorem ggX3_patternOf_X4_at : GoodIn wsX3_patternOf wsX4_at := goodIn_r _ [6, 7, 12] (by decide +kernel) (by decide +kernel)
set_option maxRecDepth 20000 in
theorem gX3_patternOf_X4_at : GoodIn wsX3_patternOf (wsV RX3 78 RX4 yX4_at wsX4_at) := goodIn_app (goodIn_of _ (by decide +kernel)) ggX3_patternOf_X4_at
theorem dX3_patternOf_0 : decode cX3_patternOf 0 = .ok (.aload_n 0, 1) := by decide +kernel
theorem dX3_patternOf_1 : decode cX3_patternOf 1 = .ok (.getfield 27, 3) := by decide +kernel
theorem dX3_patternOf_4 : decode cX3_patternOf 4 = .ok (.iload_n 1, 1) := by decide +kernel
theorem dX3_patternOf_5 : decode cX3_patternOf 5 = .ok (.invokevirtual 78, 3) := by decide +kernel
theorem dX3_patternOf_8 : decode cX3_patternOf 8 = .ok (.ireturn, 1) := by decide +kernel
set_option maxRecDepth 20000 in
theorem ggX3_nameOf_X4_at : GoodIn wsX3_nameOf wsX4_at := goodIn_r _ [6, 7, 12] (by decide +kernel) (by decide +kernel)
set_option maxRecDepth 20000 in
theorem gX3_nameOf_X4_at : GoodIn wsX3_nameOf (wsV RX3 78 RX4 yX4_at wsX4_at) := goodIn_app (goodIn_of _ (by decide +kernel)) ggX3_nameOf_X4_at
theorem dX3_nameOf_0 : decode cX3_nameOf 0 = .ok (.aload_n 0, 1) := by decide +kernel
theorem dX3_nameOf_1 : decode cX3_nameOf 1 = .ok (.getfield 27, 3) := by decide +kernel
theorem dX3_nameOf_4 : decode cX3_nameOf 4 = .ok (.iload_n 1, 1) := by decide +kernel
theorem dX3_nameOf_5 : decode cX3_nameOf 5 = .ok (.invokevirtual 78, 3) := by decide +kernel
theorem dX3_nameOf_8 : decode cX3_nameOf 8 = .ok (.istore_n 2, 1) := by decide +kernel
theorem dX3_nameOf_9 : decode cX3_nameOf 9 = .ok (.iload_n 2, 1) := by decide +kernel
theorem dX3_nameOf_10 : decode cX3_nameOf 10 = .ok (.ifCond .ge 7, 3) := by decide +kernel
theorem dX3_nameOf_13 : decode cX3_nameOf 13 = .ok (.iconst (-1), 1) := by decide +kernel
theorem dX3_nameOf_14 : decode cX3_nameOf 14 = .ok (.goto 7, 3) := by decide +kernel
theorem dX3_nameOf_17 : decode cX3_nameOf 17 = .ok (.iload_n 2, 1) := by decide +kernel
theorem dX3_nameOf_18 : decode cX3_nameOf 18 = .ok (.bipush 12, 2) := by decide +kernel
theorem dX3_nameOf_20 : decode cX3_nameOf 20 = .ok (.irem, 1) := by decide +kernel
theorem dX3_nameOf_21 : decode cX3_nameOf 21 = .ok (.ireturn, 1) := by decide +kernel
set_option maxRecDepth 20000 in
theorem ggX3_octaveOf_X4_at : GoodIn wsX3_octaveOf wsX4_at := goodIn_r _ [6, 7, 12] (by decide +kernel) (by decide +kernel)
set_option maxRecDepth 20000 in
theorem gX3_octaveOf_X4_at : GoodIn wsX3_octaveOf (wsV RX3 78 RX4 yX4_at wsX4_at) := goodIn_app (goodIn_of _ (by decide +kernel)) ggX3_octaveOf_X4_at
theorem dX3_octaveOf_0 : decode cX3_octaveOf 0 = .ok (.aload_n 0, 1) := by decide +kernel
theorem dX3_octaveOf_1 : decode cX3_octaveOf 1 = .ok (.getfield 27, 3) := by decide +kernel
theorem dX3_octaveOf_4 : decode cX3_octaveOf 4 = .ok (.iload_n 1, 1) := by decide +kernel
theorem dX3_octaveOf_5 : decode cX3_octaveOf 5 = .ok (.invokevirtual 78, 3) := by decide +kernel
theorem dX3_octaveOf_8 : decode cX3_octaveOf 8 = .ok (.istore_n 2, 1) := by decide +kernel
theorem dX3_octaveOf_9 : decode cX3_octaveOf 9 = .ok (.iload_n 2, 1) := by decide +kernel
theorem dX3_octaveOf_10 : decode cX3_octaveOf 10 = .ok (.ifCond .ge 7, 3) := by decide +kernel
theorem dX3_octaveOf_13 : decode cX3_octaveOf 13 = .ok (.iconst (-1), 1) := by decide +kernel
theorem dX3_octaveOf_14 : decode cX3_octaveOf 14 = .ok (.goto 7, 3) := by decide +kernel
theorem dX3_octaveOf_17 : decode cX3_octaveOf 17 = .ok (.iload_n 2, 1) := by decide +kernel
theorem dX3_octaveOf_18 : decode cX3_octaveOf 18 = .ok (.bipush 12, 2) := by decide +kernel
theorem dX3_octaveOf_20 : decode cX3_octaveOf 20 = .ok (.idiv, 1) := by decide +kernel
theorem dX3_octaveOf_21 : decode cX3_octaveOf 21 = .ok (.ireturn, 1) := by decide +kernel
theorem dX4_init_0 : decode cX4_init 0 = .ok (.aload_n 0, 1) := by decide +kernel
theorem dX4_init_1 : decode cX4_init 1 = .ok (.invokespecial 1, 3) := by decide +kernel
theorem dX4_init_4 : decode cX4_init 4 = .ok (.aload_n 0, 1) := by decide +kernel
theorem dX4_init_5 : decode cX4_init 5 = .ok (.iload_n 1, 1) := by decide +kernel
theorem dX4_init_6 : decode cX4_init 6 = .ok (.ifCond .le 7, 3) := by decide +kernel
theorem dX4_init_9 : decode cX4_init 9 = .ok (.iload_n 1, 1) := by decide +kernel
theorem dX4_init_10 : decode cX4_init 10 = .ok (.goto 4, 3) := by decide +kernel
theorem dX4_init_13 : decode cX4_init 13 = .ok (.iconst 0, 1) := by decide +kernel
theorem dX4_init_14 : decode cX4_init 14 = .ok (.newarray .int, 2) := by decide +kernel
theorem dX4_init_16 : decode cX4_init 16 = .ok (.putfield 7, 3) := by decide +kernel
theorem dX4_init_19 : decode cX4_init 19 = .ok (.return_, 1) := by decide +kernel
theorem dX4_at_0 : decode cX4_at 0 = .ok (.iload_n 1, 1) := by decide +kernel
theorem dX4_at_1 : decode cX4_at 1 = .ok (.ifCond .lt 21, 3) := by decide +kernel
theorem dX4_at_4 : decode cX4_at 4 = .ok (.iload_n 1, 1) := by decide +kernel
theorem dX4_at_5 : decode cX4_at 5 = .ok (.aload_n 0, 1) := by decide +kernel
theorem dX4_at_6 : decode cX4_at 6 = .ok (.getfield 7, 3) := by decide +kernel
theorem dX4_at_9 : decode cX4_at 9 = .ok (.arraylength, 1) := by decide +kernel
theorem dX4_at_10 : decode cX4_at 10 = .ok (.if_icmp .ge 12, 3) := by decide +kernel
theorem dX4_at_13 : decode cX4_at 13 = .ok (.aload_n 0, 1) := by decide +kernel
theorem dX4_at_14 : decode cX4_at 14 = .ok (.getfield 7, 3) := by decide +kernel
theorem dX4_at_17 : decode cX4_at 17 = .ok (.iload_n 1, 1) := by decide +kernel
theorem dX4_at_18 : decode cX4_at 18 = .ok (.iaload, 1) := by decide +kernel
theorem dX4_at_19 : decode cX4_at 19 = .ok (.goto 4, 3) := by decide +kernel
theorem dX4_at_22 : decode cX4_at 22 = .ok (.iconst 0, 1) := by decide +kernel
theorem dX4_at_23 : decode cX4_at 23 = .ok (.ireturn, 1) := by decide +kernel
theorem dX4_put_0 : decode cX4_put 0 = .ok (.iload_n 1, 1) := by decide +kernel
theorem dX4_put_1 : decode cX4_put 1 = .ok (.ifCond .lt 19, 3) := by decide +kernel
theorem dX4_put_4 : decode cX4_put 4 = .ok (.iload_n 1, 1) := by decide +kernel
theorem dX4_put_5 : decode cX4_put 5 = .ok (.aload_n 0, 1) := by decide +kernel
theorem dX4_put_6 : decode cX4_put 6 = .ok (.getfield 7, 3) := by decide +kernel
theorem dX4_put_9 : decode cX4_put 9 = .ok (.arraylength, 1) := by decide +kernel
theorem dX4_put_10 : decode cX4_put 10 = .ok (.if_icmp .ge 10, 3) := by decide +kernel
theorem dX4_put_13 : decode cX4_put 13 = .ok (.aload_n 0, 1) := by decide +kernel
theorem dX4_put_14 : decode cX4_put 14 = .ok (.getfield 7, 3) := by decide +kernel
theorem dX4_put_17 : decode cX4_put 17 = .ok (.iload_n 1, 1) := by decide +kernel
theorem dX4_put_18 : decode cX4_put 18 = .ok (.iload_n 2, 1) := by decide +kernel
theorem dX4_put_19 : decode cX4_put 19 = .ok (.iastore, 1) := by decide +kernel
theorem dX4_put_20 : decode cX4_put 20 = .ok (.return_, 1) := by decide +kernel
theorem dX5_init_0 : decode cX5_init 0 = .ok (.aload_n 0, 1) := by decide +kernel
theorem dX5_init_1 : decode cX5_init 1 = .ok (.invokespecial 3, 3) := by decide +kernel
theorem dX5_init_4 : decode cX5_init 4 = .ok (.aload_n 0, 1) := by decide +kernel
theorem dX5_init_5 : decode cX5_init 5 = .ok (.sipush 1024, 3) := by decide +kernel
theorem dX5_init_8 : decode cX5_init 8 = .ok (.newarray .int, 2) := by decide +kernel
theorem dX5_init_10 : decode cX5_init 10 = .ok (.putfield 9, 3) := by decide +kernel
theorem dX5_init_13 : decode cX5_init 13 = .ok (.return_, 1) := by decide +kernel
theorem dX5_count_0 : decode cX5_count 0 = .ok (.aload_n 0, 1) := by decide +kernel
theorem dX5_count_1 : decode cX5_count 1 = .ok (.getfield 15, 3) := by decide +kernel
theorem dX5_count_4 : decode cX5_count 4 = .ok (.ireturn, 1) := by decide +kernel
theorem dX5_at_0 : decode cX5_at 0 = .ok (.iload_n 1, 1) := by decide +kernel
theorem dX5_at_1 : decode cX5_at 1 = .ok (.ifCond .lt 29, 3) := by decide +kernel
theorem dX5_at_4 : decode cX5_at 4 = .ok (.iload_n 1, 1) := by decide +kernel
theorem dX5_at_5 : decode cX5_at 5 = .ok (.aload_n 0, 1) := by decide +kernel
theorem dX5_at_6 : decode cX5_at 6 = .ok (.getfield 15, 3) := by decide +kernel
theorem dX5_at_9 : decode cX5_at 9 = .ok (.if_icmp .ge 21, 3) := by decide +kernel
theorem dX5_at_12 : decode cX5_at 12 = .ok (.iload_n 1, 1) := by decide +kernel
theorem dX5_at_13 : decode cX5_at 13 = .ok (.aload_n 0, 1) := by decide +kernel
theorem dX5_at_14 : decode cX5_at 14 = .ok (.getfield 9, 3) := by decide +kernel
theorem dX5_at_17 : decode cX5_at 17 = .ok (.arraylength, 1) := by decide +kernel
theorem dX5_at_18 : decode cX5_at 18 = .ok (.if_icmp .ge 12, 3) := by decide +kernel
theorem dX5_at_21 : decode cX5_at 21 = .ok (.aload_n 0, 1) := by decide +kernel
theorem dX5_at_22 : decode cX5_at 22 = .ok (.getfield 9, 3) := by decide +kernel
theorem dX5_at_25 : decode cX5_at 25 = .ok (.iload_n 1, 1) := by decide +kernel
theorem dX5_at_26 : decode cX5_at 26 = .ok (.iaload, 1) := by decide +kernel
theorem dX5_at_27 : decode cX5_at 27 = .ok (.goto 4, 3) := by decide +kernel
theorem dX5_at_30 : decode cX5_at 30 = .ok (.iconst 0, 1) := by decide +kernel
theorem dX5_at_31 : decode cX5_at 31 = .ok (.ireturn, 1) := by decide +kernel
theorem dX5_add_0 : decode cX5_add 0 = .ok (.aload_n 0, 1) := by decide +kernel
theorem dX5_add_1 : decode cX5_add 1 = .ok (.getfield 15, 3) := by decide +kernel
theorem dX5_add_4 : decode cX5_add 4 = .ok (.ifCond .lt 35, 3) := by decide +kernel
theorem dX5_add_7 : decode cX5_add 7 = .ok (.aload_n 0, 1) := by decide +kernel
theorem dX5_add_8 : decode cX5_add 8 = .ok (.getfield 15, 3) := by decide +kernel
theorem dX5_add_11 : decode cX5_add 11 = .ok (.aload_n 0, 1) := by decide +kernel
theorem dX5_add_12 : decode cX5_add 12 = .ok (.getfield 9, 3) := by decide +kernel
theorem dX5_add_15 : decode cX5_add 15 = .ok (.arraylength, 1) := by decide +kernel
theorem dX5_add_16 : decode cX5_add 16 = .ok (.if_icmp .ge 23, 3) := by decide +kernel
theorem dX5_add_19 : decode cX5_add 19 = .ok (.aload_n 0, 1) := by decide +kernel
theorem dX5_add_20 : decode cX5_add 20 = .ok (.getfield 9, 3) := by decide +kernel
theorem dX5_add_23 : decode cX5_add 23 = .ok (.aload_n 0, 1) := by decide +kernel
theorem dX5_add_24 : decode cX5_add 24 = .ok (.getfield 15, 3) := by decide +kernel
theorem dX5_add_27 : decode cX5_add 27 = .ok (.iload_n 1, 1) := by decide +kernel
theorem dX5_add_28 : decode cX5_add 28 = .ok (.iastore, 1) := by decide +kernel
theorem dX5_add_29 : decode cX5_add 29 = .ok (.aload_n 0, 1) := by decide +kernel
theorem dX5_add_30 : decode cX5_add 30 = .ok (.dup, 1) := by decide +kernel
theorem dX5_add_31 : decode cX5_add 31 = .ok (.getfield 15, 3) := by decide +kernel
theorem dX5_add_34 : decode cX5_add 34 = .ok (.iconst 1, 1) := by decide +kernel
theorem dX5_add_35 : decode cX5_add 35 = .ok (.iadd, 1) := by decide +kernel
theorem dX5_add_36 : decode cX5_add 36 = .ok (.putfield 15, 3) := by decide +kernel
theorem dX5_add_39 : decode cX5_add 39 = .ok (.return_, 1) := by decide +kernel
theorem dX5_drop_0 : decode cX5_drop 0 = .ok (.aload_n 0, 1) := by decide +kernel
theorem dX5_drop_1 : decode cX5_drop 1 = .ok (.iconst 0, 1) := by decide +kernel
theorem dX5_drop_2 : decode cX5_drop 2 = .ok (.putfield 15, 3) := by decide +kernel
theorem dX5_drop_5 : decode cX5_drop 5 = .ok (.return_, 1) := by decide +kernel
theorem dX5_frameCount_0 : decode cX5_frameCount 0 = .ok (.aload_n 0, 1) := by decide +kernel
theorem dX5_frameCount_1 : decode cX5_frameCount 1 = .ok (.getfield 15, 3) := by decide +kernel
theorem dX5_frameCount_4 : decode cX5_frameCount 4 = .ok (.sipush 128, 3) := by decide +kernel
theorem dX5_frameCount_7 : decode cX5_frameCount 7 = .ok (.if_icmp .ge 7, 3) := by decide +kernel
theorem dX5_frameCount_10 : decode cX5_frameCount 10 = .ok (.iconst 0, 1) := by decide +kernel
theorem dX5_frameCount_11 : decode cX5_frameCount 11 = .ok (.goto 16, 3) := by decide +kernel
theorem dX5_frameCount_14 : decode cX5_frameCount 14 = .ok (.aload_n 0, 1) := by decide +kernel
theorem dX5_frameCount_15 : decode cX5_frameCount 15 = .ok (.getfield 15, 3) := by decide +kernel
theorem dX5_frameCount_18 : decode cX5_frameCount 18 = .ok (.sipush 128, 3) := by decide +kernel
theorem dX5_frameCount_21 : decode cX5_frameCount 21 = .ok (.isub, 1) := by decide +kernel
theorem dX5_frameCount_22 : decode cX5_frameCount 22 = .ok (.bipush 32, 2) := by decide +kernel
theorem dX5_frameCount_24 : decode cX5_frameCount 24 = .ok (.idiv, 1) := by decide +kernel
theorem dX5_frameCount_25 : decode cX5_frameCount 25 = .ok (.iconst 1, 1) := by decide +kernel
theorem dX5_frameCount_26 : decode cX5_frameCount 26 = .ok (.iadd, 1) := by decide +kernel
theorem dX5_frameCount_27 : decode cX5_frameCount 27 = .ok (.ireturn, 1) := by decide +kernel
set_option maxRecDepth 20000 in
theorem ggX5_energyOf_X5_productSum : GoodIn wsX5_energyOf wsX5_productSum := goodIn_r _ [5, 6, 7, 8, 9, 4, 10, 11, 12] (by decide +kernel) (by decide +kernel)
set_option maxRecDepth 20000 in
theorem gX5_energyOf_X5_productSum : GoodIn wsX5_energyOf (wsV RX5 19 RX5 yX5_productSum wsX5_productSum) := goodIn_app (goodIn_of _ (by decide +kernel)) ggX5_energyOf_X5_productSum
theorem dX5_energyOf_0 : decode cX5_energyOf 0 = .ok (.aload_n 0, 1) := by decide +kernel
theorem dX5_energyOf_1 : decode cX5_energyOf 1 = .ok (.iload_n 1, 1) := by decide +kernel
theorem dX5_energyOf_2 : decode cX5_energyOf 2 = .ok (.bipush 32, 2) := by decide +kernel
theorem dX5_energyOf_4 : decode cX5_energyOf 4 = .ok (.imul, 1) := by decide +kernel
theorem dX5_energyOf_5 : decode cX5_energyOf 5 = .ok (.iload_n 2, 1) := by decide +kernel
theorem dX5_energyOf_6 : decode cX5_energyOf 6 = .ok (.iadd, 1) := by decide +kernel
theorem dX5_energyOf_7 : decode cX5_energyOf 7 = .ok (.iconst 0, 1) := by decide +kernel
theorem dX5_energyOf_8 : decode cX5_energyOf 8 = .ok (.invokevirtual 19, 3) := by decide +kernel
theorem dX5_energyOf_11 : decode cX5_energyOf 11 = .ok (.ireturn, 1) := by decide +kernel
set_option maxRecDepth 20000 in
theorem ggX5_autocorrelationOf_X5_productSum : GoodIn wsX5_autocorrelationOf wsX5_productSum := goodIn_r _ [5, 6, 7, 8, 9, 4, 10, 11, 12] (by decide +kernel) (by decide +kernel)
set_option maxRecDepth 20000 in
theorem gX5_autocorrelationOf_X5_productSum : GoodIn wsX5_autocorrelationOf (wsV RX5 19 RX5 yX5_productSum wsX5_productSum) := goodIn_app (goodIn_of _ (by decide +kernel)) ggX5_autocorrelationOf_X5_productSum
theorem dX5_autocorrelationOf_0 : decode cX5_autocorrelationOf 0 = .ok (.aload_n 0, 1) := by decide +kernel
theorem dX5_autocorrelationOf_1 : decode cX5_autocorrelationOf 1 = .ok (.iload_n 1, 1) := by decide +kernel
theorem dX5_autocorrelationOf_2 : decode cX5_autocorrelationOf 2 = .ok (.bipush 32, 2) := by decide +kernel
theorem dX5_autocorrelationOf_4 : decode cX5_autocorrelationOf 4 = .ok (.imul, 1) := by decide +kernel
theorem dX5_autocorrelationOf_5 : decode cX5_autocorrelationOf 5 = .ok (.iload_n 2, 1) := by decide +kernel
theorem dX5_autocorrelationOf_6 : decode cX5_autocorrelationOf 6 = .ok (.invokevirtual 19, 3) := by decide +kernel
theorem dX5_autocorrelationOf_9 : decode cX5_autocorrelationOf 9 = .ok (.ireturn, 1) := by decide +kernel
set_option maxRecDepth 20000 in
theorem ggX5_startsIn_X5_energyOf : GoodIn wsX5_startsIn wsX5_energyOf := goodIn_r _ [5, 6, 7, 8, 4, 9, 10, 11, 12, 13, 14, 15, 16] (by decide +kernel) (by decide +kernel)
set_option maxRecDepth 20000 in
theorem gX5_startsIn_X5_energyOf : GoodIn wsX5_startsIn (wsV RX5 23 RX5 yX5_energyOf wsX5_energyOf) := goodIn_app (goodIn_of _ (by decide +kernel)) ggX5_startsIn_X5_energyOf
theorem dX5_startsIn_0 : decode cX5_startsIn 0 = .ok (.aload_n 0, 1) := by decide +kernel
theorem dX5_startsIn_1 : decode cX5_startsIn 1 = .ok (.iload_n 1, 1) := by decide +kernel
theorem dX5_startsIn_2 : decode cX5_startsIn 2 = .ok (.iconst 0, 1) := by decide +kernel
theorem dX5_startsIn_3 : decode cX5_startsIn 3 = .ok (.invokevirtual 23, 3) := by decide +kernel
theorem dX5_startsIn_6 : decode cX5_startsIn 6 = .ok (.istore_n 2, 1) := by decide +kernel
theorem dX5_startsIn_7 : decode cX5_startsIn 7 = .ok (.iload_n 2, 1) := by decide +kernel
theorem dX5_startsIn_8 : decode cX5_startsIn 8 = .ok (.sipush 640, 3) := by decide +kernel
theorem dX5_startsIn_11 : decode cX5_startsIn 11 = .ok (.if_icmp .lt 25, 3) := by decide +kernel
theorem dX5_startsIn_14 : decode cX5_startsIn 14 = .ok (.iload_n 1, 1) := by decide +kernel
theorem dX5_startsIn_15 : decode cX5_startsIn 15 = .ok (.ifCond .eq 17, 3) := by decide +kernel
theorem dX5_startsIn_18 : decode cX5_startsIn 18 = .ok (.iload_n 2, 1) := by decide +kernel
theorem dX5_startsIn_19 : decode cX5_startsIn 19 = .ok (.iconst 2, 1) := by decide +kernel
theorem dX5_startsIn_20 : decode cX5_startsIn 20 = .ok (.aload_n 0, 1) := by decide +kernel
theorem dX5_startsIn_21 : decode cX5_startsIn 21 = .ok (.iload_n 1, 1) := by decide +kernel
theorem dX5_startsIn_22 : decode cX5_startsIn 22 = .ok (.iconst 1, 1) := by decide +kernel
theorem dX5_startsIn_23 : decode cX5_startsIn 23 = .ok (.isub, 1) := by decide +kernel
theorem dX5_startsIn_24 : decode cX5_startsIn 24 = .ok (.iconst 0, 1) := by decide +kernel
theorem dX5_startsIn_25 : decode cX5_startsIn 25 = .ok (.invokevirtual 23, 3) := by decide +kernel
theorem dX5_startsIn_28 : decode cX5_startsIn 28 = .ok (.imul, 1) := by decide +kernel
theorem dX5_startsIn_29 : decode cX5_startsIn 29 = .ok (.if_icmp .le 7, 3) := by decide +kernel
theorem dX5_startsIn_32 : decode cX5_startsIn 32 = .ok (.iconst 1, 1) := by decide +kernel
theorem dX5_startsIn_33 : decode cX5_startsIn 33 = .ok (.goto 4, 3) := by decide +kernel
theorem dX5_startsIn_36 : decode cX5_startsIn 36 = .ok (.iconst 0, 1) := by decide +kernel
theorem dX5_startsIn_37 : decode cX5_startsIn 37 = .ok (.ireturn, 1) := by decide +kernel
set_option maxRecDepth 20000 in
theorem ggX5_productSum_X5_holdsWindow : GoodIn wsX5_productSum wsX5_holdsWindow := goodIn_r _ [6, 1, 7, 8] (by decide +kernel) (by decide +kernel)
set_option maxRecDepth 20000 in
theorem gX5_productSum_X5_holdsWindow : GoodIn wsX5_productSum (wsV RX5 26 RX5 yX5_holdsWindow wsX5_holdsWindow) := goodIn_app (goodIn_of _ (by decide +kernel)) ggX5_productSum_X5_holdsWindow
theorem dX5_productSum_0 : decode cX5_productSum 0 = .ok (.aload_n 0, 1) := by decide +kernel
theorem dX5_productSum_1 : decode cX5_productSum 1 = .ok (.iload_n 1, 1) := by decide +kernel
theorem dX5_productSum_2 : decode cX5_productSum 2 = .ok (.iload_n 2, 1) := by decide +kernel
theorem dX5_productSum_3 : decode cX5_productSum 3 = .ok (.invokevirtual 26, 3) := by decide +kernel
theorem dX5_productSum_6 : decode cX5_productSum 6 = .ok (.ifCond .ne 5, 3) := by decide +kernel
theorem dX5_productSum_9 : decode cX5_productSum 9 = .ok (.iconst 0, 1) := by decide +kernel
theorem dX5_productSum_10 : decode cX5_productSum 10 = .ok (.ireturn, 1) := by decide +kernel
theorem dX5_productSum_11 : decode cX5_productSum 11 = .ok (.iconst 0, 1) := by decide +kernel
theorem dX5_productSum_12 : decode cX5_productSum 12 = .ok (.istore_n 3, 1) := by decide +kernel
theorem dX5_productSum_13 : decode cX5_productSum 13 = .ok (.iload_n 1, 1) := by decide +kernel
theorem dX5_productSum_14 : decode cX5_productSum 14 = .ok (.istore 4, 2) := by decide +kernel
theorem dX5_productSum_16 : decode cX5_productSum 16 = .ok (.iload 4, 2) := by decide +kernel
theorem dX5_productSum_18 : decode cX5_productSum 18 = .ok (.iload_n 1, 1) := by decide +kernel
theorem dX5_productSum_19 : decode cX5_productSum 19 = .ok (.bipush 64, 2) := by decide +kernel
theorem dX5_productSum_21 : decode cX5_productSum 21 = .ok (.iadd, 1) := by decide +kernel
theorem dX5_productSum_22 : decode cX5_productSum 22 = .ok (.if_icmp .ge 29, 3) := by decide +kernel
theorem dX5_productSum_25 : decode cX5_productSum 25 = .ok (.iload_n 3, 1) := by decide +kernel
theorem dX5_productSum_26 : decode cX5_productSum 26 = .ok (.aload_n 0, 1) := by decide +kernel
theorem dX5_productSum_27 : decode cX5_productSum 27 = .ok (.getfield 9, 3) := by decide +kernel
theorem dX5_productSum_30 : decode cX5_productSum 30 = .ok (.iload 4, 2) := by decide +kernel
theorem dX5_productSum_32 : decode cX5_productSum 32 = .ok (.iaload, 1) := by decide +kernel
theorem dX5_productSum_33 : decode cX5_productSum 33 = .ok (.aload_n 0, 1) := by decide +kernel
theorem dX5_productSum_34 : decode cX5_productSum 34 = .ok (.getfield 9, 3) := by decide +kernel
theorem dX5_productSum_37 : decode cX5_productSum 37 = .ok (.iload 4, 2) := by decide +kernel
theorem dX5_productSum_39 : decode cX5_productSum 39 = .ok (.iload_n 2, 1) := by decide +kernel
theorem dX5_productSum_40 : decode cX5_productSum 40 = .ok (.iadd, 1) := by decide +kernel
theorem dX5_productSum_41 : decode cX5_productSum 41 = .ok (.iaload, 1) := by decide +kernel
theorem dX5_productSum_42 : decode cX5_productSum 42 = .ok (.imul, 1) := by decide +kernel
theorem dX5_productSum_43 : decode cX5_productSum 43 = .ok (.iadd, 1) := by decide +kernel
theorem dX5_productSum_44 : decode cX5_productSum 44 = .ok (.istore_n 3, 1) := by decide +kernel
theorem dX5_productSum_45 : decode cX5_productSum 45 = .ok (.iinc 4 1, 3) := by decide +kernel
theorem dX5_productSum_48 : decode cX5_productSum 48 = .ok (.goto (-32), 3) := by decide +kernel
theorem dX5_productSum_51 : decode cX5_productSum 51 = .ok (.iload_n 3, 1) := by decide +kernel
theorem dX5_productSum_52 : decode cX5_productSum 52 = .ok (.ireturn, 1) := by decide +kernel
set_option maxRecDepth 20000 in
theorem ggX5_squaredGapSum_X5_holdsWindow : GoodIn wsX5_squaredGapSum wsX5_holdsWindow := goodIn_r _ [6, 1, 7, 8] (by decide +kernel) (by decide +kernel)
set_option maxRecDepth 20000 in
theorem gX5_squaredGapSum_X5_holdsWindow : GoodIn wsX5_squaredGapSum (wsV RX5 26 RX5 yX5_holdsWindow wsX5_holdsWindow) := goodIn_app (goodIn_of _ (by decide +kernel)) ggX5_squaredGapSum_X5_holdsWindow
theorem dX5_squaredGapSum_0 : decode cX5_squaredGapSum 0 = .ok (.aload_n 0, 1) := by decide +kernel
theorem dX5_squaredGapSum_1 : decode cX5_squaredGapSum 1 = .ok (.iload_n 1, 1) := by decide +kernel
theorem dX5_squaredGapSum_2 : decode cX5_squaredGapSum 2 = .ok (.iload_n 2, 1) := by decide +kernel
theorem dX5_squaredGapSum_3 : decode cX5_squaredGapSum 3 = .ok (.invokevirtual 26, 3) := by decide +kernel
theorem dX5_squaredGapSum_6 : decode cX5_squaredGapSum 6 = .ok (.ifCond .ne 5, 3) := by decide +kernel
theorem dX5_squaredGapSum_9 : decode cX5_squaredGapSum 9 = .ok (.iconst 0, 1) := by decide +kernel
theorem dX5_squaredGapSum_10 : decode cX5_squaredGapSum 10 = .ok (.ireturn, 1) := by decide +kernel
theorem dX5_squaredGapSum_11 : decode cX5_squaredGapSum 11 = .ok (.iconst 0, 1) := by decide +kernel
theorem dX5_squaredGapSum_12 : decode cX5_squaredGapSum 12 = .ok (.istore_n 3, 1) := by decide +kernel
theorem dX5_squaredGapSum_13 : decode cX5_squaredGapSum 13 = .ok (.iload_n 1, 1) := by decide +kernel
theorem dX5_squaredGapSum_14 : decode cX5_squaredGapSum 14 = .ok (.istore 4, 2) := by decide +kernel
theorem dX5_squaredGapSum_16 : decode cX5_squaredGapSum 16 = .ok (.iload 4, 2) := by decide +kernel
theorem dX5_squaredGapSum_18 : decode cX5_squaredGapSum 18 = .ok (.iload_n 1, 1) := by decide +kernel
theorem dX5_squaredGapSum_19 : decode cX5_squaredGapSum 19 = .ok (.bipush 64, 2) := by decide +kernel
theorem dX5_squaredGapSum_21 : decode cX5_squaredGapSum 21 = .ok (.iadd, 1) := by decide +kernel
theorem dX5_squaredGapSum_22 : decode cX5_squaredGapSum 22 = .ok (.if_icmp .ge 36, 3) := by decide +kernel
theorem dX5_squaredGapSum_25 : decode cX5_squaredGapSum 25 = .ok (.aload_n 0, 1) := by decide +kernel
theorem dX5_squaredGapSum_26 : decode cX5_squaredGapSum 26 = .ok (.getfield 9, 3) := by decide +kernel
theorem dX5_squaredGapSum_29 : decode cX5_squaredGapSum 29 = .ok (.iload 4, 2) := by decide +kernel
theorem dX5_squaredGapSum_31 : decode cX5_squaredGapSum 31 = .ok (.iaload, 1) := by decide +kernel
theorem dX5_squaredGapSum_32 : decode cX5_squaredGapSum 32 = .ok (.aload_n 0, 1) := by decide +kernel
theorem dX5_squaredGapSum_33 : decode cX5_squaredGapSum 33 = .ok (.getfield 9, 3) := by decide +kernel
theorem dX5_squaredGapSum_36 : decode cX5_squaredGapSum 36 = .ok (.iload 4, 2) := by decide +kernel
theorem dX5_squaredGapSum_38 : decode cX5_squaredGapSum 38 = .ok (.iload_n 2, 1) := by decide +kernel
theorem dX5_squaredGapSum_39 : decode cX5_squaredGapSum 39 = .ok (.iadd, 1) := by decide +kernel
theorem dX5_squaredGapSum_40 : decode cX5_squaredGapSum 40 = .ok (.iaload, 1) := by decide +kernel
theorem dX5_squaredGapSum_41 : decode cX5_squaredGapSum 41 = .ok (.isub, 1) := by decide +kernel
theorem dX5_squaredGapSum_42 : decode cX5_squaredGapSum 42 = .ok (.istore 5, 2) := by decide +kernel
theorem dX5_squaredGapSum_44 : decode cX5_squaredGapSum 44 = .ok (.iload_n 3, 1) := by decide +kernel
theorem dX5_squaredGapSum_45 : decode cX5_squaredGapSum 45 = .ok (.iload 5, 2) := by decide +kernel
theorem dX5_squaredGapSum_47 : decode cX5_squaredGapSum 47 = .ok (.iload 5, 2) := by decide +kernel
theorem dX5_squaredGapSum_49 : decode cX5_squaredGapSum 49 = .ok (.imul, 1) := by decide +kernel
theorem dX5_squaredGapSum_50 : decode cX5_squaredGapSum 50 = .ok (.iadd, 1) := by decide +kernel
theorem dX5_squaredGapSum_51 : decode cX5_squaredGapSum 51 = .ok (.istore_n 3, 1) := by decide +kernel
theorem dX5_squaredGapSum_52 : decode cX5_squaredGapSum 52 = .ok (.iinc 4 1, 3) := by decide +kernel
theorem dX5_squaredGapSum_55 : decode cX5_squaredGapSum 55 = .ok (.goto (-39), 3) := by decide +kernel
theorem dX5_squaredGapSum_58 : decode cX5_squaredGapSum 58 = .ok (.iload_n 3, 1) := by decide +kernel
theorem dX5_squaredGapSum_59 : decode cX5_squaredGapSum 59 = .ok (.ireturn, 1) := by decide +kernel
theorem dX5_holdsWindow_0 : decode cX5_holdsWindow 0 = .ok (.iload_n 1, 1) := by decide +kernel
theorem dX5_holdsWindow_1 : decode cX5_holdsWindow 1 = .ok (.ifCond .lt 31, 3) := by decide +kernel
theorem dX5_holdsWindow_4 : decode cX5_holdsWindow 4 = .ok (.iload_n 2, 1) := by decide +kernel
theorem dX5_holdsWindow_5 : decode cX5_holdsWindow 5 = .ok (.ifCond .lt 27, 3) := by decide +kernel
theorem dX5_holdsWindow_8 : decode cX5_holdsWindow 8 = .ok (.iload_n 2, 1) := by decide +kernel
theorem dX5_holdsWindow_9 : decode cX5_holdsWindow 9 = .ok (.bipush 64, 2) := by decide +kernel
theorem dX5_holdsWindow_11 : decode cX5_holdsWindow 11 = .ok (.if_icmp .gt 21, 3) := by decide +kernel
theorem dX5_holdsWindow_14 : decode cX5_holdsWindow 14 = .ok (.iload_n 1, 1) := by decide +kernel
theorem dX5_holdsWindow_15 : decode cX5_holdsWindow 15 = .ok (.aload_n 0, 1) := by decide +kernel
theorem dX5_holdsWindow_16 : decode cX5_holdsWindow 16 = .ok (.getfield 9, 3) := by decide +kernel
theorem dX5_holdsWindow_19 : decode cX5_holdsWindow 19 = .ok (.arraylength, 1) := by decide +kernel
theorem dX5_holdsWindow_20 : decode cX5_holdsWindow 20 = .ok (.bipush 64, 2) := by decide +kernel
theorem dX5_holdsWindow_22 : decode cX5_holdsWindow 22 = .ok (.isub, 1) := by decide +kernel
theorem dX5_holdsWindow_23 : decode cX5_holdsWindow 23 = .ok (.iload_n 2, 1) := by decide +kernel
theorem dX5_holdsWindow_24 : decode cX5_holdsWindow 24 = .ok (.isub, 1) := by decide +kernel
theorem dX5_holdsWindow_25 : decode cX5_holdsWindow 25 = .ok (.if_icmp .gt 7, 3) := by decide +kernel
theorem dX5_holdsWindow_28 : decode cX5_holdsWindow 28 = .ok (.iconst 1, 1) := by decide +kernel
theorem dX5_holdsWindow_29 : decode cX5_holdsWindow 29 = .ok (.goto 4, 3) := by decide +kernel
theorem dX5_holdsWindow_32 : decode cX5_holdsWindow 32 = .ok (.iconst 0, 1) := by decide +kernel
theorem dX5_holdsWindow_33 : decode cX5_holdsWindow 33 = .ok (.ireturn, 1) := by decide +kernel
theorem dX6_init_0 : decode cX6_init 0 = .ok (.aload_n 0, 1) := by decide +kernel
theorem dX6_init_1 : decode cX6_init 1 = .ok (.invokespecial 3, 3) := by decide +kernel
theorem dX6_init_4 : decode cX6_init 4 = .ok (.aload_n 0, 1) := by decide +kernel
theorem dX6_init_5 : decode cX6_init 5 = .ok (.iload_n 1, 1) := by decide +kernel
theorem dX6_init_6 : decode cX6_init 6 = .ok (.putfield 9, 3) := by decide +kernel
theorem dX6_init_9 : decode cX6_init 9 = .ok (.bipush 29, 2) := by decide +kernel
theorem dX6_init_11 : decode cX6_init 11 = .ok (.iload_n 1, 1) := by decide +kernel
theorem dX6_init_12 : decode cX6_init 12 = .ok (.imul, 1) := by decide +kernel
theorem dX6_init_13 : decode cX6_init 13 = .ok (.istore_n 2, 1) := by decide +kernel
theorem dX6_init_14 : decode cX6_init 14 = .ok (.aload_n 0, 1) := by decide +kernel
theorem dX6_init_15 : decode cX6_init 15 = .ok (.iload_n 2, 1) := by decide +kernel
theorem dX6_init_16 : decode cX6_init 16 = .ok (.ifCond .le 7, 3) := by decide +kernel
theorem dX6_init_19 : decode cX6_init 19 = .ok (.iload_n 2, 1) := by decide +kernel
theorem dX6_init_20 : decode cX6_init 20 = .ok (.goto 4, 3) := by decide +kernel
theorem dX6_init_23 : decode cX6_init 23 = .ok (.iconst 0, 1) := by decide +kernel
theorem dX6_init_24 : decode cX6_init 24 = .ok (.newarray .int, 2) := by decide +kernel
theorem dX6_init_26 : decode cX6_init 26 = .ok (.putfield 15, 3) := by decide +kernel
theorem dX6_init_29 : decode cX6_init 29 = .ok (.return_, 1) := by decide +kernel
theorem dX6_at_0 : decode cX6_at 0 = .ok (.iload_n 1, 1) := by decide +kernel
theorem dX6_at_1 : decode cX6_at 1 = .ok (.aload_n 0, 1) := by decide +kernel
theorem dX6_at_2 : decode cX6_at 2 = .ok (.getfield 9, 3) := by decide +kernel
theorem dX6_at_5 : decode cX6_at 5 = .ok (.imul, 1) := by decide +kernel
theorem dX6_at_6 : decode cX6_at 6 = .ok (.iload_n 2, 1) := by decide +kernel
theorem dX6_at_7 : decode cX6_at 7 = .ok (.iadd, 1) := by decide +kernel
theorem dX6_at_8 : decode cX6_at 8 = .ok (.istore_n 3, 1) := by decide +kernel
theorem dX6_at_9 : decode cX6_at 9 = .ok (.iload_n 2, 1) := by decide +kernel
theorem dX6_at_10 : decode cX6_at 10 = .ok (.ifCond .lt 33, 3) := by decide +kernel
theorem dX6_at_13 : decode cX6_at 13 = .ok (.iload_n 2, 1) := by decide +kernel
theorem dX6_at_14 : decode cX6_at 14 = .ok (.aload_n 0, 1) := by decide +kernel
theorem dX6_at_15 : decode cX6_at 15 = .ok (.getfield 9, 3) := by decide +kernel
theorem dX6_at_18 : decode cX6_at 18 = .ok (.if_icmp .ge 25, 3) := by decide +kernel
theorem dX6_at_21 : decode cX6_at 21 = .ok (.iload_n 3, 1) := by decide +kernel
theorem dX6_at_22 : decode cX6_at 22 = .ok (.ifCond .lt 21, 3) := by decide +kernel
theorem dX6_at_25 : decode cX6_at 25 = .ok (.iload_n 3, 1) := by decide +kernel
theorem dX6_at_26 : decode cX6_at 26 = .ok (.aload_n 0, 1) := by decide +kernel
theorem dX6_at_27 : decode cX6_at 27 = .ok (.getfield 15, 3) := by decide +kernel
theorem dX6_at_30 : decode cX6_at 30 = .ok (.arraylength, 1) := by decide +kernel
theorem dX6_at_31 : decode cX6_at 31 = .ok (.if_icmp .ge 12, 3) := by decide +kernel
theorem dX6_at_34 : decode cX6_at 34 = .ok (.aload_n 0, 1) := by decide +kernel
theorem dX6_at_35 : decode cX6_at 35 = .ok (.getfield 15, 3) := by decide +kernel
theorem dX6_at_38 : decode cX6_at 38 = .ok (.iload_n 3, 1) := by decide +kernel
theorem dX6_at_39 : decode cX6_at 39 = .ok (.iaload, 1) := by decide +kernel
theorem dX6_at_40 : decode cX6_at 40 = .ok (.goto 4, 3) := by decide +kernel
theorem dX6_at_43 : decode cX6_at 43 = .ok (.iconst 0, 1) := by decide +kernel
theorem dX6_at_44 : decode cX6_at 44 = .ok (.ireturn, 1) := by decide +kernel
theorem dX6_put_0 : decode cX6_put 0 = .ok (.iload_n 1, 1) := by decide +kernel
theorem dX6_put_1 : decode cX6_put 1 = .ok (.aload_n 0, 1) := by decide +kernel
theorem dX6_put_2 : decode cX6_put 2 = .ok (.getfield 9, 3) := by decide +kernel
theorem dX6_put_5 : decode cX6_put 5 = .ok (.imul, 1) := by decide +kernel
theorem dX6_put_6 : decode cX6_put 6 = .ok (.iload_n 2, 1) := by decide +kernel
theorem dX6_put_7 : decode cX6_put 7 = .ok (.iadd, 1) := by decide +kernel
theorem dX6_put_8 : decode cX6_put 8 = .ok (.istore 4, 2) := by decide +kernel
theorem dX6_put_10 : decode cX6_put 10 = .ok (.iload_n 2, 1) := by decide +kernel
theorem dX6_put_11 : decode cX6_put 11 = .ok (.ifCond .lt 34, 3) := by decide +kernel
theorem dX6_put_14 : decode cX6_put 14 = .ok (.iload_n 2, 1) := by decide +kernel
theorem dX6_put_15 : decode cX6_put 15 = .ok (.aload_n 0, 1) := by decide +kernel
theorem dX6_put_16 : decode cX6_put 16 = .ok (.getfield 9, 3) := by decide +kernel
theorem dX6_put_19 : decode cX6_put 19 = .ok (.if_icmp .ge 26, 3) := by decide +kernel
theorem dX6_put_22 : decode cX6_put 22 = .ok (.iload 4, 2) := by decide +kernel
theorem dX6_put_24 : decode cX6_put 24 = .ok (.ifCond .lt 21, 3) := by decide +kernel
theorem dX6_put_27 : decode cX6_put 27 = .ok (.iload 4, 2) := by decide +kernel
theorem dX6_put_29 : decode cX6_put 29 = .ok (.aload_n 0, 1) := by decide +kernel
theorem dX6_put_30 : decode cX6_put 30 = .ok (.getfield 15, 3) := by decide +kernel
theorem dX6_put_33 : decode cX6_put 33 = .ok (.arraylength, 1) := by decide +kernel
theorem dX6_put_34 : decode cX6_put 34 = .ok (.if_icmp .ge 11, 3) := by decide +kernel
theorem dX6_put_37 : decode cX6_put 37 = .ok (.aload_n 0, 1) := by decide +kernel
theorem dX6_put_38 : decode cX6_put 38 = .ok (.getfield 15, 3) := by decide +kernel
theorem dX6_put_41 : decode cX6_put 41 = .ok (.iload 4, 2) := by decide +kernel
theorem dX6_put_43 : decode cX6_put 43 = .ok (.iload_n 3, 1) := by decide +kernel
theorem dX6_put_44 : decode cX6_put 44 = .ok (.iastore, 1) := by decide +kernel
theorem dX6_put_45 : decode cX6_put 45 = .ok (.return_, 1) := by decide +kernel
set_option maxRecDepth 20000 in
theorem ggX7_init_X6_init : GoodIn wsX7_init wsX6_init := goodIn_r _ [18, 19, 2, 3, 20, 21, 22, 35, 36] (by decide +kernel) (by decide +kernel)
set_option maxRecDepth 20000 in
theorem gX7_init_X6_init : GoodIn wsX7_init (wsX6_init) := ggX7_init_X6_init
set_option maxRecDepth 20000 in
theorem ggX7_init_X4_init : GoodIn wsX7_init wsX4_init := goodIn_r _ [25, 26, 2, 3, 21, 27, 37] (by decide +kernel) (by decide +kernel)
set_option maxRecDepth 20000 in
theorem gX7_init_X4_init : GoodIn wsX7_init (wsX4_init) := ggX7_init_X4_init
theorem dX7_init_0 : decode cX7_init 0 = .ok (.aload_n 0, 1) := by decide +kernel
theorem dX7_init_1 : decode cX7_init 1 = .ok (.invokespecial 3, 3) := by decide +kernel
theorem dX7_init_4 : decode cX7_init 4 = .ok (.aload_n 0, 1) := by decide +kernel
theorem dX7_init_5 : decode cX7_init 5 = .ok (.sipush 300, 3) := by decide +kernel
theorem dX7_init_8 : decode cX7_init 8 = .ok (.putfield 9, 3) := by decide +kernel
theorem dX7_init_11 : decode cX7_init 11 = .ok (.aload_n 0, 1) := by decide +kernel
theorem dX7_init_12 : decode cX7_init 12 = .ok (.bipush 10, 2) := by decide +kernel
theorem dX7_init_14 : decode cX7_init 14 = .ok (.putfield 15, 3) := by decide +kernel
theorem dX7_init_17 : decode cX7_init 17 = .ok (.aload_n 0, 1) := by decide +kernel
theorem dX7_init_18 : decode cX7_init 18 = .ok (.sipush 200, 3) := by decide +kernel
theorem dX7_init_21 : decode cX7_init 21 = .ok (.putfield 18, 3) := by decide +kernel
theorem dX7_init_24 : decode cX7_init 24 = .ok (.aload_n 0, 1) := by decide +kernel
theorem dX7_init_25 : decode cX7_init 25 = .ok (.new 21, 3) := by decide +kernel
theorem dX7_init_28 : decode cX7_init 28 = .ok (.dup, 1) := by decide +kernel
theorem dX7_init_29 : decode cX7_init 29 = .ok (.bipush 9, 2) := by decide +kernel
theorem dX7_init_31 : decode cX7_init 31 = .ok (.invokespecial 23, 3) := by decide +kernel
theorem dX7_init_34 : decode cX7_init 34 = .ok (.putfield 26, 3) := by decide +kernel
theorem dX7_init_37 : decode cX7_init 37 = .ok (.aload_n 0, 1) := by decide +kernel
theorem dX7_init_38 : decode cX7_init 38 = .ok (.new 21, 3) := by decide +kernel
theorem dX7_init_41 : decode cX7_init 41 = .ok (.dup, 1) := by decide +kernel
theorem dX7_init_42 : decode cX7_init 42 = .ok (.bipush 9, 2) := by decide +kernel
theorem dX7_init_44 : decode cX7_init 44 = .ok (.invokespecial 23, 3) := by decide +kernel
theorem dX7_init_47 : decode cX7_init 47 = .ok (.putfield 30, 3) := by decide +kernel
theorem dX7_init_50 : decode cX7_init 50 = .ok (.aload_n 0, 1) := by decide +kernel
theorem dX7_init_51 : decode cX7_init 51 = .ok (.new 33, 3) := by decide +kernel
theorem dX7_init_54 : decode cX7_init 54 = .ok (.dup, 1) := by decide +kernel
theorem dX7_init_55 : decode cX7_init 55 = .ok (.bipush 29, 2) := by decide +kernel
theorem dX7_init_57 : decode cX7_init 57 = .ok (.invokespecial 35, 3) := by decide +kernel
theorem dX7_init_60 : decode cX7_init 60 = .ok (.putfield 36, 3) := by decide +kernel
theorem dX7_init_63 : decode cX7_init 63 = .ok (.return_, 1) := by decide +kernel
theorem dX7_useCosts_0 : decode cX7_useCosts 0 = .ok (.aload_n 0, 1) := by decide +kernel
theorem dX7_useCosts_1 : decode cX7_useCosts 1 = .ok (.iload_n 1, 1) := by decide +kernel
theorem dX7_useCosts_2 : decode cX7_useCosts 2 = .ok (.putfield 9, 3) := by decide +kernel
theorem dX7_useCosts_5 : decode cX7_useCosts 5 = .ok (.aload_n 0, 1) := by decide +kernel
theorem dX7_useCosts_6 : decode cX7_useCosts 6 = .ok (.iload_n 2, 1) := by decide +kernel
theorem dX7_useCosts_7 : decode cX7_useCosts 7 = .ok (.putfield 15, 3) := by decide +kernel
theorem dX7_useCosts_10 : decode cX7_useCosts 10 = .ok (.aload_n 0, 1) := by decide +kernel
theorem dX7_useCosts_11 : decode cX7_useCosts 11 = .ok (.iload_n 3, 1) := by decide +kernel
theorem dX7_useCosts_12 : decode cX7_useCosts 12 = .ok (.putfield 18, 3) := by decide +kernel
theorem dX7_useCosts_15 : decode cX7_useCosts 15 = .ok (.return_, 1) := by decide +kernel
theorem dX7_cost_0 : decode cX7_cost 0 = .ok (.aload_n 0, 1) := by decide +kernel
theorem dX7_cost_1 : decode cX7_cost 1 = .ok (.getfield 40, 3) := by decide +kernel
theorem dX7_cost_4 : decode cX7_cost 4 = .ok (.ireturn, 1) := by decide +kernel
set_option maxRecDepth 20000 in
theorem ggX7_lagOf_X4_at : GoodIn wsX7_lagOf wsX4_at := goodIn_r _ [6, 7, 15] (by decide +kernel) (by decide +kernel)
set_option maxRecDepth 20000 in
theorem gX7_lagOf_X4_at : GoodIn wsX7_lagOf (wsV RX7 43 RX4 yX4_at wsX4_at) := goodIn_app (goodIn_of _ (by decide +kernel)) ggX7_lagOf_X4_at
theorem dX7_lagOf_0 : decode cX7_lagOf 0 = .ok (.aload_n 0, 1) := by decide +kernel
theorem dX7_lagOf_1 : decode cX7_lagOf 1 = .ok (.getfield 36, 3) := by decide +kernel
theorem dX7_lagOf_4 : decode cX7_lagOf 4 = .ok (.iload_n 1, 1) := by decide +kernel
theorem dX7_lagOf_5 : decode cX7_lagOf 5 = .ok (.invokevirtual 43, 3) := by decide +kernel
theorem dX7_lagOf_8 : decode cX7_lagOf 8 = .ok (.ireturn, 1) := by decide +kernel
set_option maxRecDepth 20000 in
theorem ggX7_find_X0_choicesIn : GoodIn wsX7_find wsX0_choicesIn := goodIn_r _ [9, 10, 11, 12, 13, 14, 15, 16, 70, 71, 72, 73, 74, 75] (by decide +kernel) (by decide +kernel)
set_option maxRecDepth 20000 in
theorem gX7_find_X0_choicesIn : GoodIn wsX7_find (wsV RX7 47 RX0 yX0_choicesIn wsX0_choicesIn) := goodIn_app (goodIn_of _ (by decide +kernel)) ggX7_find_X0_choicesIn
set_option maxRecDepth 20000 in
theorem ggX7_find_X7_reach : GoodIn wsX7_find wsX7_reach := goodIn_r _ [21, 1, 22, 4, 23, 24, 25, 8, 26, 27, 28, 29, 30, 31, 32, 33, 34, 5, 6, 7, 9, 10, 11, 12, 13, 14, 15, 16, 35, 36, 37, 38, 20, 39, 40, 41, 42, 43, 44, 45, 46, 47, 48, 49, 50, 51, 52, 53, 54, 63, 64, 65, 66, 67, 68, 69, 70, 71, 72, 73, 74, 76, 77, 75] (by decide +kernel) (by decide +kernel)
set_option maxRecDepth 20000 in
theorem gX7_find_X7_reach : GoodIn wsX7_find (wsV RX7 52 RX7 yX7_reach wsX7_reach) := goodIn_app (goodIn_of _ (by decide +kernel)) ggX7_find_X7_reach
set_option maxRecDepth 20000 in
theorem ggX7_find_X7_cheapestIn : GoodIn wsX7_find wsX7_cheapestIn := goodIn_r _ [58, 1, 5, 6, 7, 8, 9, 10, 11, 12, 13, 14, 15, 16, 35, 29, 30, 31, 32, 33, 34, 63, 64, 65, 66, 67, 68, 69, 70, 71, 72, 73, 74, 75, 76, 77] (by decide +kernel) (by decide +kernel)
set_option maxRecDepth 20000 in
theorem gX7_find_X7_cheapestIn : GoodIn wsX7_find (wsV RX7 56 RX7 yX7_cheapestIn wsX7_cheapestIn) := goodIn_app (goodIn_of _ (by decide +kernel)) ggX7_find_X7_cheapestIn
set_option maxRecDepth 20000 in
theorem ggX7_find_X6_at : GoodIn wsX7_find wsX6_at := goodIn_r _ [32, 33, 34, 76, 77] (by decide +kernel) (by decide +kernel)
set_option maxRecDepth 20000 in
theorem gX7_find_X6_at : GoodIn wsX7_find (wsV RX7 60 RX6 yX6_at wsX6_at) := goodIn_app (goodIn_of _ (by decide +kernel)) ggX7_find_X6_at
set_option maxRecDepth 20000 in
theorem ggX7_find_X0_lagOf : GoodIn wsX7_find wsX0_lagOf := goodIn_r _ [26, 27, 28, 29, 30, 31, 32, 33, 34, 70, 71, 72, 73, 74, 76, 77] (by decide +kernel) (by decide +kernel)
set_option maxRecDepth 20000 in
theorem gX7_find_X0_lagOf : GoodIn wsX7_find (wsV RX7 63 RX0 yX0_lagOf wsX0_lagOf) := goodIn_app (goodIn_of _ (by decide +kernel)) ggX7_find_X0_lagOf
set_option maxRecDepth 20000 in
theorem ggX7_find_X4_put : GoodIn wsX7_find wsX4_put := goodIn_r _ [62, 16, 75] (by decide +kernel) (by decide +kernel)
set_option maxRecDepth 20000 in
theorem gX7_find_X4_put : GoodIn wsX7_find (wsV RX7 66 RX4 yX4_put wsX4_put) := goodIn_app (goodIn_of _ (by decide +kernel)) ggX7_find_X4_put
theorem dX7_find_0 : decode cX7_find 0 = .ok (.iconst 0, 1) := by decide +kernel
theorem dX7_find_1 : decode cX7_find 1 = .ok (.istore_n 3, 1) := by decide +kernel
theorem dX7_find_2 : decode cX7_find 2 = .ok (.iload_n 3, 1) := by decide +kernel
theorem dX7_find_3 : decode cX7_find 3 = .ok (.iload_n 2, 1) := by decide +kernel
theorem dX7_find_4 : decode cX7_find 4 = .ok (.if_icmp .ge 40, 3) := by decide +kernel
theorem dX7_find_7 : decode cX7_find 7 = .ok (.aload_n 1, 1) := by decide +kernel
theorem dX7_find_8 : decode cX7_find 8 = .ok (.iload_n 3, 1) := by decide +kernel
theorem dX7_find_9 : decode cX7_find 9 = .ok (.invokevirtual 47, 3) := by decide +kernel
theorem dX7_find_12 : decode cX7_find 12 = .ok (.istore 4, 2) := by decide +kernel
theorem dX7_find_14 : decode cX7_find 14 = .ok (.iconst 0, 1) := by decide +kernel
theorem dX7_find_15 : decode cX7_find 15 = .ok (.istore 5, 2) := by decide +kernel
theorem dX7_find_17 : decode cX7_find 17 = .ok (.iload 5, 2) := by decide +kernel
theorem dX7_find_19 : decode cX7_find 19 = .ok (.iload 4, 2) := by decide +kernel
theorem dX7_find_21 : decode cX7_find 21 = .ok (.if_icmp .ge 17, 3) := by decide +kernel
theorem dX7_find_24 : decode cX7_find 24 = .ok (.aload_n 0, 1) := by decide +kernel
theorem dX7_find_25 : decode cX7_find 25 = .ok (.aload_n 1, 1) := by decide +kernel
theorem dX7_find_26 : decode cX7_find 26 = .ok (.iload_n 3, 1) := by decide +kernel
theorem dX7_find_27 : decode cX7_find 27 = .ok (.iload 5, 2) := by decide +kernel
theorem dX7_find_29 : decode cX7_find 29 = .ok (.invokevirtual 52, 3) := by decide +kernel
theorem dX7_find_32 : decode cX7_find 32 = .ok (.iinc 5 1, 3) := by decide +kernel
theorem dX7_find_35 : decode cX7_find 35 = .ok (.goto (-18), 3) := by decide +kernel
theorem dX7_find_38 : decode cX7_find 38 = .ok (.iinc 3 1, 3) := by decide +kernel
theorem dX7_find_41 : decode cX7_find 41 = .ok (.goto (-39), 3) := by decide +kernel
theorem dX7_find_44 : decode cX7_find 44 = .ok (.aload_n 0, 1) := by decide +kernel
theorem dX7_find_45 : decode cX7_find 45 = .ok (.iload_n 2, 1) := by decide +kernel
theorem dX7_find_46 : decode cX7_find 46 = .ok (.iconst 1, 1) := by decide +kernel
theorem dX7_find_47 : decode cX7_find 47 = .ok (.isub, 1) := by decide +kernel
theorem dX7_find_48 : decode cX7_find 48 = .ok (.aload_n 1, 1) := by decide +kernel
theorem dX7_find_49 : decode cX7_find 49 = .ok (.invokevirtual 56, 3) := by decide +kernel
theorem dX7_find_52 : decode cX7_find 52 = .ok (.istore_n 3, 1) := by decide +kernel
theorem dX7_find_53 : decode cX7_find 53 = .ok (.aload_n 0, 1) := by decide +kernel
theorem dX7_find_54 : decode cX7_find 54 = .ok (.iload_n 2, 1) := by decide +kernel
theorem dX7_find_55 : decode cX7_find 55 = .ok (.ifCond .le 17, 3) := by decide +kernel
theorem dX7_find_58 : decode cX7_find 58 = .ok (.aload_n 0, 1) := by decide +kernel
theorem dX7_find_59 : decode cX7_find 59 = .ok (.getfield 26, 3) := by decide +kernel
theorem dX7_find_62 : decode cX7_find 62 = .ok (.iload_n 2, 1) := by decide +kernel
theorem dX7_find_63 : decode cX7_find 63 = .ok (.iconst 1, 1) := by decide +kernel
theorem dX7_find_64 : decode cX7_find 64 = .ok (.isub, 1) := by decide +kernel
theorem dX7_find_65 : decode cX7_find 65 = .ok (.iload_n 3, 1) := by decide +kernel
theorem dX7_find_66 : decode cX7_find 66 = .ok (.invokevirtual 60, 3) := by decide +kernel
theorem dX7_find_69 : decode cX7_find 69 = .ok (.goto 4, 3) := by decide +kernel
theorem dX7_find_72 : decode cX7_find 72 = .ok (.iconst 0, 1) := by decide +kernel
theorem dX7_find_73 : decode cX7_find 73 = .ok (.putfield 40, 3) := by decide +kernel
theorem dX7_find_76 : decode cX7_find 76 = .ok (.iload_n 2, 1) := by decide +kernel
theorem dX7_find_77 : decode cX7_find 77 = .ok (.iconst 1, 1) := by decide +kernel
theorem dX7_find_78 : decode cX7_find 78 = .ok (.isub, 1) := by decide +kernel
theorem dX7_find_79 : decode cX7_find 79 = .ok (.istore 4, 2) := by decide +kernel
theorem dX7_find_81 : decode cX7_find 81 = .ok (.iload 4, 2) := by decide +kernel
theorem dX7_find_83 : decode cX7_find 83 = .ok (.ifCond .lt 36, 3) := by decide +kernel
theorem dX7_find_86 : decode cX7_find 86 = .ok (.aload_n 0, 1) := by decide +kernel
theorem dX7_find_87 : decode cX7_find 87 = .ok (.getfield 36, 3) := by decide +kernel
theorem dX7_find_90 : decode cX7_find 90 = .ok (.iload 4, 2) := by decide +kernel
theorem dX7_find_92 : decode cX7_find 92 = .ok (.aload_n 1, 1) := by decide +kernel
theorem dX7_find_93 : decode cX7_find 93 = .ok (.iload 4, 2) := by decide +kernel
theorem dX7_find_95 : decode cX7_find 95 = .ok (.iload_n 3, 1) := by decide +kernel
theorem dX7_find_96 : decode cX7_find 96 = .ok (.invokevirtual 63, 3) := by decide +kernel
theorem dX7_find_99 : decode cX7_find 99 = .ok (.invokevirtual 66, 3) := by decide +kernel
theorem dX7_find_102 : decode cX7_find 102 = .ok (.aload_n 0, 1) := by decide +kernel
theorem dX7_find_103 : decode cX7_find 103 = .ok (.getfield 30, 3) := by decide +kernel
theorem dX7_find_106 : decode cX7_find 106 = .ok (.iload 4, 2) := by decide +kernel
theorem dX7_find_108 : decode cX7_find 108 = .ok (.iload_n 3, 1) := by decide +kernel
theorem dX7_find_109 : decode cX7_find 109 = .ok (.invokevirtual 60, 3) := by decide +kernel
theorem dX7_find_112 : decode cX7_find 112 = .ok (.istore_n 3, 1) := by decide +kernel
theorem dX7_find_113 : decode cX7_find 113 = .ok (.iinc 4 (-1), 3) := by decide +kernel
theorem dX7_find_116 : decode cX7_find 116 = .ok (.goto (-35), 3) := by decide +kernel
theorem dX7_find_119 : decode cX7_find 119 = .ok (.return_, 1) := by decide +kernel
set_option maxRecDepth 20000 in
theorem ggX7_reach_X0_lagOf : GoodIn wsX7_reach wsX0_lagOf := goodIn_r _ [8, 9, 10, 11, 12, 13, 14, 15, 16, 56, 57, 58, 59, 60, 61, 62] (by decide +kernel) (by decide +kernel)
set_option maxRecDepth 20000 in
theorem gX7_reach_X0_lagOf : GoodIn wsX7_reach (wsV RX7 63 RX0 yX0_lagOf wsX0_lagOf) := goodIn_app (goodIn_of _ (by decide +kernel)) ggX7_reach_X0_lagOf
set_option maxRecDepth 20000 in
theorem ggX7_reach_X0_choicesIn : GoodIn wsX7_reach wsX0_choicesIn := goodIn_r _ [20, 21, 22, 23, 24, 25, 26, 27, 56, 57, 58, 59, 60, 63] (by decide +kernel) (by decide +kernel)
set_option maxRecDepth 20000 in
theorem gX7_reach_X0_choicesIn : GoodIn wsX7_reach (wsV RX7 47 RX0 yX0_choicesIn wsX0_choicesIn) := goodIn_app (goodIn_of _ (by decide +kernel)) ggX7_reach_X0_choicesIn
set_option maxRecDepth 20000 in
theorem ggX7_reach_X6_at : GoodIn wsX7_reach wsX6_at := goodIn_r _ [14, 15, 16, 61, 62] (by decide +kernel) (by decide +kernel)
set_option maxRecDepth 20000 in
theorem gX7_reach_X6_at : GoodIn wsX7_reach (wsV RX7 60 RX6 yX6_at wsX6_at) := goodIn_app (goodIn_of _ (by decide +kernel)) ggX7_reach_X6_at
set_option maxRecDepth 20000 in
theorem ggX7_reach_X7_stepCost : GoodIn wsX7_reach wsX7_stepCost := goodIn_r _ [33, 34, 35, 36, 37, 38, 39, 49, 50, 51, 52, 53, 54, 55] (by decide +kernel) (by decide +kernel)
set_option maxRecDepth 20000 in
theorem gX7_reach_X7_stepCost : GoodIn wsX7_reach (wsV RX7 70 RX7 yX7_stepCost wsX7_stepCost) := goodIn_app (goodIn_of _ (by decide +kernel)) ggX7_reach_X7_stepCost
set_option maxRecDepth 20000 in
theorem ggX7_reach_X0_costOf : GoodIn wsX7_reach wsX0_costOf := goodIn_r _ [43, 44, 10, 11, 12, 13, 14, 15, 16, 56, 57, 58, 59, 60, 61, 62] (by decide +kernel) (by decide +kernel)
set_option maxRecDepth 20000 in
theorem gX7_reach_X0_costOf : GoodIn wsX7_reach (wsV RX7 73 RX0 yX0_costOf wsX0_costOf) := goodIn_app (goodIn_of _ (by decide +kernel)) ggX7_reach_X0_costOf
set_option maxRecDepth 20000 in
theorem ggX7_reach_X6_put : GoodIn wsX7_reach wsX6_put := goodIn_r _ [48, 15, 16, 61, 62] (by decide +kernel) (by decide +kernel)
set_option maxRecDepth 20000 in
theorem gX7_reach_X6_put : GoodIn wsX7_reach (wsV RX7 76 RX6 yX6_put wsX6_put) := goodIn_app (goodIn_of _ (by decide +kernel)) ggX7_reach_X6_put
theorem dX7_reach_0 : decode cX7_reach 0 = .ok (.aload_n 1, 1) := by decide +kernel
theorem dX7_reach_1 : decode cX7_reach 1 = .ok (.iload_n 2, 1) := by decide +kernel
theorem dX7_reach_2 : decode cX7_reach 2 = .ok (.iload_n 3, 1) := by decide +kernel
theorem dX7_reach_3 : decode cX7_reach 3 = .ok (.invokevirtual 63, 3) := by decide +kernel
theorem dX7_reach_6 : decode cX7_reach 6 = .ok (.istore 4, 2) := by decide +kernel
theorem dX7_reach_8 : decode cX7_reach 8 = .ok (.iconst 0, 1) := by decide +kernel
theorem dX7_reach_9 : decode cX7_reach 9 = .ok (.istore 5, 2) := by decide +kernel
theorem dX7_reach_11 : decode cX7_reach 11 = .ok (.iconst 0, 1) := by decide +kernel
theorem dX7_reach_12 : decode cX7_reach 12 = .ok (.istore 6, 2) := by decide +kernel
theorem dX7_reach_14 : decode cX7_reach 14 = .ok (.iload_n 2, 1) := by decide +kernel
theorem dX7_reach_15 : decode cX7_reach 15 = .ok (.ifCond .le 13, 3) := by decide +kernel
theorem dX7_reach_18 : decode cX7_reach 18 = .ok (.aload_n 1, 1) := by decide +kernel
theorem dX7_reach_19 : decode cX7_reach 19 = .ok (.iload_n 2, 1) := by decide +kernel
theorem dX7_reach_20 : decode cX7_reach 20 = .ok (.iconst 1, 1) := by decide +kernel
theorem dX7_reach_21 : decode cX7_reach 21 = .ok (.isub, 1) := by decide +kernel
theorem dX7_reach_22 : decode cX7_reach 22 = .ok (.invokevirtual 47, 3) := by decide +kernel
theorem dX7_reach_25 : decode cX7_reach 25 = .ok (.goto 4, 3) := by decide +kernel
theorem dX7_reach_28 : decode cX7_reach 28 = .ok (.iconst 0, 1) := by decide +kernel
theorem dX7_reach_29 : decode cX7_reach 29 = .ok (.istore 7, 2) := by decide +kernel
theorem dX7_reach_31 : decode cX7_reach 31 = .ok (.iconst 0, 1) := by decide +kernel
theorem dX7_reach_32 : decode cX7_reach 32 = .ok (.istore 8, 2) := by decide +kernel
theorem dX7_reach_34 : decode cX7_reach 34 = .ok (.iload 8, 2) := by decide +kernel
theorem dX7_reach_36 : decode cX7_reach 36 = .ok (.iload 7, 2) := by decide +kernel
theorem dX7_reach_38 : decode cX7_reach 38 = .ok (.if_icmp .ge 59, 3) := by decide +kernel
theorem dX7_reach_41 : decode cX7_reach 41 = .ok (.aload_n 0, 1) := by decide +kernel
theorem dX7_reach_42 : decode cX7_reach 42 = .ok (.getfield 26, 3) := by decide +kernel
theorem dX7_reach_45 : decode cX7_reach 45 = .ok (.iload_n 2, 1) := by decide +kernel
theorem dX7_reach_46 : decode cX7_reach 46 = .ok (.iconst 1, 1) := by decide +kernel
theorem dX7_reach_47 : decode cX7_reach 47 = .ok (.isub, 1) := by decide +kernel
theorem dX7_reach_48 : decode cX7_reach 48 = .ok (.iload 8, 2) := by decide +kernel
theorem dX7_reach_50 : decode cX7_reach 50 = .ok (.invokevirtual 60, 3) := by decide +kernel
theorem dX7_reach_53 : decode cX7_reach 53 = .ok (.aload_n 0, 1) := by decide +kernel
theorem dX7_reach_54 : decode cX7_reach 54 = .ok (.aload_n 1, 1) := by decide +kernel
theorem dX7_reach_55 : decode cX7_reach 55 = .ok (.iload_n 2, 1) := by decide +kernel
theorem dX7_reach_56 : decode cX7_reach 56 = .ok (.iconst 1, 1) := by decide +kernel
theorem dX7_reach_57 : decode cX7_reach 57 = .ok (.isub, 1) := by decide +kernel
theorem dX7_reach_58 : decode cX7_reach 58 = .ok (.iload 8, 2) := by decide +kernel
theorem dX7_reach_60 : decode cX7_reach 60 = .ok (.invokevirtual 63, 3) := by decide +kernel
theorem dX7_reach_63 : decode cX7_reach 63 = .ok (.iload 4, 2) := by decide +kernel
theorem dX7_reach_65 : decode cX7_reach 65 = .ok (.invokevirtual 70, 3) := by decide +kernel
theorem dX7_reach_68 : decode cX7_reach 68 = .ok (.iadd, 1) := by decide +kernel
theorem dX7_reach_69 : decode cX7_reach 69 = .ok (.istore 9, 2) := by decide +kernel
theorem dX7_reach_71 : decode cX7_reach 71 = .ok (.iload 8, 2) := by decide +kernel
theorem dX7_reach_73 : decode cX7_reach 73 = .ok (.ifCond .eq 10, 3) := by decide +kernel
theorem dX7_reach_76 : decode cX7_reach 76 = .ok (.iload 9, 2) := by decide +kernel
theorem dX7_reach_78 : decode cX7_reach 78 = .ok (.iload 5, 2) := by decide +kernel
theorem dX7_reach_80 : decode cX7_reach 80 = .ok (.if_icmp .ge 11, 3) := by decide +kernel
theorem dX7_reach_83 : decode cX7_reach 83 = .ok (.iload 9, 2) := by decide +kernel
theorem dX7_reach_85 : decode cX7_reach 85 = .ok (.istore 5, 2) := by decide +kernel
theorem dX7_reach_87 : decode cX7_reach 87 = .ok (.iload 8, 2) := by decide +kernel
theorem dX7_reach_89 : decode cX7_reach 89 = .ok (.istore 6, 2) := by decide +kernel
theorem dX7_reach_91 : decode cX7_reach 91 = .ok (.iinc 8 1, 3) := by decide +kernel
theorem dX7_reach_94 : decode cX7_reach 94 = .ok (.goto (-60), 3) := by decide +kernel
theorem dX7_reach_97 : decode cX7_reach 97 = .ok (.iload_n 3, 1) := by decide +kernel
theorem dX7_reach_98 : decode cX7_reach 98 = .ok (.ifCond .ne 10, 3) := by decide +kernel
theorem dX7_reach_101 : decode cX7_reach 101 = .ok (.aload_n 0, 1) := by decide +kernel
theorem dX7_reach_102 : decode cX7_reach 102 = .ok (.getfield 9, 3) := by decide +kernel
theorem dX7_reach_105 : decode cX7_reach 105 = .ok (.goto 9, 3) := by decide +kernel
theorem dX7_reach_108 : decode cX7_reach 108 = .ok (.aload_n 1, 1) := by decide +kernel
theorem dX7_reach_109 : decode cX7_reach 109 = .ok (.iload_n 2, 1) := by decide +kernel
theorem dX7_reach_110 : decode cX7_reach 110 = .ok (.iload_n 3, 1) := by decide +kernel
theorem dX7_reach_111 : decode cX7_reach 111 = .ok (.invokevirtual 73, 3) := by decide +kernel
theorem dX7_reach_114 : decode cX7_reach 114 = .ok (.istore 8, 2) := by decide +kernel
theorem dX7_reach_116 : decode cX7_reach 116 = .ok (.aload_n 0, 1) := by decide +kernel
theorem dX7_reach_117 : decode cX7_reach 117 = .ok (.getfield 26, 3) := by decide +kernel
theorem dX7_reach_120 : decode cX7_reach 120 = .ok (.iload_n 2, 1) := by decide +kernel
theorem dX7_reach_121 : decode cX7_reach 121 = .ok (.iload_n 3, 1) := by decide +kernel
theorem dX7_reach_122 : decode cX7_reach 122 = .ok (.iload 5, 2) := by decide +kernel
theorem dX7_reach_124 : decode cX7_reach 124 = .ok (.iload 8, 2) := by decide +kernel
theorem dX7_reach_126 : decode cX7_reach 126 = .ok (.iadd, 1) := by decide +kernel
theorem dX7_reach_127 : decode cX7_reach 127 = .ok (.invokevirtual 76, 3) := by decide +kernel
theorem dX7_reach_130 : decode cX7_reach 130 = .ok (.aload_n 0, 1) := by decide +kernel
theorem dX7_reach_131 : decode cX7_reach 131 = .ok (.getfield 30, 3) := by decide +kernel
theorem dX7_reach_134 : decode cX7_reach 134 = .ok (.iload_n 2, 1) := by decide +kernel
theorem dX7_reach_135 : decode cX7_reach 135 = .ok (.iload_n 3, 1) := by decide +kernel
theorem dX7_reach_136 : decode cX7_reach 136 = .ok (.iload 6, 2) := by decide +kernel
theorem dX7_reach_138 : decode cX7_reach 138 = .ok (.invokevirtual 76, 3) := by decide +kernel
theorem dX7_reach_141 : decode cX7_reach 141 = .ok (.return_, 1) := by decide +kernel
theorem dX7_stepCost_0 : decode cX7_stepCost 0 = .ok (.iload_n 1, 1) := by decide +kernel
theorem dX7_stepCost_1 : decode cX7_stepCost 1 = .ok (.ifCond .le 19, 3) := by decide +kernel
theorem dX7_stepCost_4 : decode cX7_stepCost 4 = .ok (.iload_n 2, 1) := by decide +kernel
theorem dX7_stepCost_5 : decode cX7_stepCost 5 = .ok (.ifCond .le 15, 3) := by decide +kernel
theorem dX7_stepCost_8 : decode cX7_stepCost 8 = .ok (.iload_n 1, 1) := by decide +kernel
theorem dX7_stepCost_9 : decode cX7_stepCost 9 = .ok (.iload_n 2, 1) := by decide +kernel
theorem dX7_stepCost_10 : decode cX7_stepCost 10 = .ok (.isub, 1) := by decide +kernel
theorem dX7_stepCost_11 : decode cX7_stepCost 11 = .ok (.invokestatic 79, 3) := by decide +kernel
theorem dX7_stepCost_14 : decode cX7_stepCost 14 = .ok (.aload_n 0, 1) := by decide +kernel
theorem dX7_stepCost_15 : decode cX7_stepCost 15 = .ok (.getfield 15, 3) := by decide +kernel
theorem dX7_stepCost_18 : decode cX7_stepCost 18 = .ok (.imul, 1) := by decide +kernel
theorem dX7_stepCost_19 : decode cX7_stepCost 19 = .ok (.ireturn, 1) := by decide +kernel
theorem dX7_stepCost_20 : decode cX7_stepCost 20 = .ok (.iload_n 1, 1) := by decide +kernel
theorem dX7_stepCost_21 : decode cX7_stepCost 21 = .ok (.ifCond .gt 7, 3) := by decide +kernel
theorem dX7_stepCost_24 : decode cX7_stepCost 24 = .ok (.iload_n 2, 1) := by decide +kernel
theorem dX7_stepCost_25 : decode cX7_stepCost 25 = .ok (.ifCond .le 10, 3) := by decide +kernel
theorem dX7_stepCost_28 : decode cX7_stepCost 28 = .ok (.aload_n 0, 1) := by decide +kernel
theorem dX7_stepCost_29 : decode cX7_stepCost 29 = .ok (.getfield 18, 3) := by decide +kernel
theorem dX7_stepCost_32 : decode cX7_stepCost 32 = .ok (.goto 4, 3) := by decide +kernel
theorem dX7_stepCost_35 : decode cX7_stepCost 35 = .ok (.iconst 0, 1) := by decide +kernel
theorem dX7_stepCost_36 : decode cX7_stepCost 36 = .ok (.ireturn, 1) := by decide +kernel
set_option maxRecDepth 20000 in
theorem ggX7_cheapestIn_X0_choicesIn : GoodIn wsX7_cheapestIn wsX0_choicesIn := goodIn_r _ [6, 7, 8, 9, 10, 11, 12, 13, 28, 29, 30, 31, 32, 33] (by decide +kernel) (by decide +kernel)
set_option maxRecDepth 20000 in
theorem gX7_cheapestIn_X0_choicesIn : GoodIn wsX7_cheapestIn (wsV RX7 47 RX0 yX0_choicesIn wsX0_choicesIn) := goodIn_app (goodIn_of _ (by decide +kernel)) ggX7_cheapestIn_X0_choicesIn
set_option maxRecDepth 20000 in
theorem ggX7_cheapestIn_X6_at : GoodIn wsX7_cheapestIn wsX6_at := goodIn_r _ [18, 19, 20, 34, 35] (by decide +kernel) (by decide +kernel)
set_option maxRecDepth 20000 in
theorem gX7_cheapestIn_X6_at : GoodIn wsX7_cheapestIn (wsV RX7 60 RX6 yX6_at wsX6_at) := goodIn_app (goodIn_of _ (by decide +kernel)) ggX7_cheapestIn_X6_at
theorem dX7_cheapestIn_0 : decode cX7_cheapestIn 0 = .ok (.iconst 0, 1) := by decide +kernel
theorem dX7_cheapestIn_1 : decode cX7_cheapestIn 1 = .ok (.istore_n 3, 1) := by decide +kernel
theorem dX7_cheapestIn_2 : decode cX7_cheapestIn 2 = .ok (.aload_n 2, 1) := by decide +kernel
theorem dX7_cheapestIn_3 : decode cX7_cheapestIn 3 = .ok (.iload_n 1, 1) := by decide +kernel
theorem dX7_cheapestIn_4 : decode cX7_cheapestIn 4 = .ok (.invokevirtual 47, 3) := by decide +kernel
theorem dX7_cheapestIn_7 : decode cX7_cheapestIn 7 = .ok (.istore 4, 2) := by decide +kernel
theorem dX7_cheapestIn_9 : decode cX7_cheapestIn 9 = .ok (.iconst 1, 1) := by decide +kernel
theorem dX7_cheapestIn_10 : decode cX7_cheapestIn 10 = .ok (.istore 5, 2) := by decide +kernel
theorem dX7_cheapestIn_12 : decode cX7_cheapestIn 12 = .ok (.iload 5, 2) := by decide +kernel
theorem dX7_cheapestIn_14 : decode cX7_cheapestIn 14 = .ok (.iload 4, 2) := by decide +kernel
theorem dX7_cheapestIn_16 : decode cX7_cheapestIn 16 = .ok (.if_icmp .ge 34, 3) := by decide +kernel
theorem dX7_cheapestIn_19 : decode cX7_cheapestIn 19 = .ok (.aload_n 0, 1) := by decide +kernel
theorem dX7_cheapestIn_20 : decode cX7_cheapestIn 20 = .ok (.getfield 26, 3) := by decide +kernel
theorem dX7_cheapestIn_23 : decode cX7_cheapestIn 23 = .ok (.iload_n 1, 1) := by decide +kernel
theorem dX7_cheapestIn_24 : decode cX7_cheapestIn 24 = .ok (.iload 5, 2) := by decide +kernel
theorem dX7_cheapestIn_26 : decode cX7_cheapestIn 26 = .ok (.invokevirtual 60, 3) := by decide +kernel
theorem dX7_cheapestIn_29 : decode cX7_cheapestIn 29 = .ok (.aload_n 0, 1) := by decide +kernel
theorem dX7_cheapestIn_30 : decode cX7_cheapestIn 30 = .ok (.getfield 26, 3) := by decide +kernel
theorem dX7_cheapestIn_33 : decode cX7_cheapestIn 33 = .ok (.iload_n 1, 1) := by decide +kernel
theorem dX7_cheapestIn_34 : decode cX7_cheapestIn 34 = .ok (.iload_n 3, 1) := by decide +kernel
theorem dX7_cheapestIn_35 : decode cX7_cheapestIn 35 = .ok (.invokevirtual 60, 3) := by decide +kernel
theorem dX7_cheapestIn_38 : decode cX7_cheapestIn 38 = .ok (.if_icmp .ge 6, 3) := by decide +kernel
theorem dX7_cheapestIn_41 : decode cX7_cheapestIn 41 = .ok (.iload 5, 2) := by decide +kernel
theorem dX7_cheapestIn_43 : decode cX7_cheapestIn 43 = .ok (.istore_n 3, 1) := by decide +kernel
theorem dX7_cheapestIn_44 : decode cX7_cheapestIn 44 = .ok (.iinc 5 1, 3) := by decide +kernel
theorem dX7_cheapestIn_47 : decode cX7_cheapestIn 47 = .ok (.goto (-35), 3) := by decide +kernel
theorem dX7_cheapestIn_50 : decode cX7_cheapestIn 50 = .ok (.iload_n 3, 1) := by decide +kernel
theorem dX7_cheapestIn_51 : decode cX7_cheapestIn 51 = .ok (.ireturn, 1) := by decide +kernel
