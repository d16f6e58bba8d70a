set_option maxRecDepth 20000 in
theorem ggX7_init_X6_init : GoodIn wsX7_init wsX6_init := goodIn_r _ [38, 39, 2, 3, 40, 41, 32, 42, 43, 44, 45, 46, 47, 95, 96, 97] (by decide +kernel) (by decide +kernel)
set_option maxRecDepth 20000 in
theorem gX7_init_X6_init : GoodIn wsX7_init (wsX6_init) := ggX7_init_X6_init
set_option maxRecDepth 20000 in
theorem ggX7_init_X5_init : GoodIn wsX7_init wsX5_init := goodIn_r _ [50, 51, 2, 3, 32, 52, 53, 54, 55, 56, 57, 58, 108, 109, 110, 111, 112, 113, 114] (by decide +kernel) (by decide +kernel)
set_option maxRecDepth 20000 in
theorem gX7_init_X5_init : GoodIn wsX7_init (wsX5_init) := ggX7_init_X5_init
set_option maxRecDepth 20000 in
theorem ggX7_init_X4_init : GoodIn wsX7_init wsX4_init := goodIn_r _ [61, 62, 2, 3, 32, 63, 64, 65, 66, 67, 68, 69, 70, 115, 116, 117, 118, 119, 120, 121] (by decide +kernel) (by decide +kernel)
set_option maxRecDepth 20000 in
theorem gX7_init_X4_init : GoodIn wsX7_init (wsX4_init) := ggX7_init_X4_init
set_option maxRecDepth 20000 in
theorem ggX7_init_X3_init : GoodIn wsX7_init wsX3_init := goodIn_r _ [72, 73, 2, 3, 32, 74, 75, 122, 123] (by decide +kernel) (by decide +kernel)
set_option maxRecDepth 20000 in
theorem gX7_init_X3_init_n36 : GoodIn wsX7_init (wsX3_init) := ggX7_init_X3_init
set_option maxRecDepth 20000 in
theorem ggX7_init_X0_init : GoodIn wsX7_init wsX0_init := goodIn_r _ [78, 79, 2, 3, 32, 80, 81, 82, 83, 84, 45, 46, 47, 124, 125, 126, 127] (by decide +kernel) (by decide +kernel)
set_option maxRecDepth 20000 in
theorem gX7_init_X0_init : GoodIn wsX7_init (wsX0_init) := ggX7_init_X0_init
set_option maxRecDepth 20000 in
theorem ggX7_init_X1_init : GoodIn wsX7_init wsX1_init := goodIn_r _ [86, 87, 2, 3, 88, 89, 128, 129] (by decide +kernel) (by decide +kernel)
set_option maxRecDepth 20000 in
theorem gX7_init_X1_init_n50 : GoodIn wsX7_init (wsX1_init) := ggX7_init_X1_init
set_option maxRecDepth 20000 in
theorem ggX7_init_X2_init : GoodIn wsX7_init wsX2_init := goodIn_r _ [91, 92, 2, 3, 93, 94, 130, 131] (by decide +kernel) (by decide +kernel)
set_option maxRecDepth 20000 in
theorem gX7_init_X2_init_n57 : GoodIn wsX7_init (wsX2_init) := ggX7_init_X2_init
theorem dX7_init_0 : decode cX7_init 0 = .ok (.aload_n 0, 1) := by decide +kernel
theorem dX7_init_1 : decode cX7_init 1 = .ok (.invokespecial 1, 3) := by decide +kernel
theorem dX7_init_4 : decode cX7_init 4 = .ok (.aload_n 0, 1) := by decide +kernel
theorem dX7_init_5 : decode cX7_init 5 = .ok (.new 7, 3) := by decide +kernel
theorem dX7_init_8 : decode cX7_init 8 = .ok (.dup, 1) := by decide +kernel
theorem dX7_init_9 : decode cX7_init 9 = .ok (.invokespecial 9, 3) := by decide +kernel
theorem dX7_init_12 : decode cX7_init 12 = .ok (.putfield 10, 3) := by decide +kernel
theorem dX7_init_15 : decode cX7_init 15 = .ok (.aload_n 0, 1) := by decide +kernel
theorem dX7_init_16 : decode cX7_init 16 = .ok (.new 16, 3) := by decide +kernel
theorem dX7_init_19 : decode cX7_init 19 = .ok (.dup, 1) := by decide +kernel
theorem dX7_init_20 : decode cX7_init 20 = .ok (.aload_n 0, 1) := by decide +kernel
theorem dX7_init_21 : decode cX7_init 21 = .ok (.getfield 10, 3) := by decide +kernel
theorem dX7_init_24 : decode cX7_init 24 = .ok (.invokespecial 18, 3) := by decide +kernel
theorem dX7_init_27 : decode cX7_init 27 = .ok (.putfield 21, 3) := by decide +kernel
theorem dX7_init_30 : decode cX7_init 30 = .ok (.aload_n 0, 1) := by decide +kernel
theorem dX7_init_31 : decode cX7_init 31 = .ok (.new 25, 3) := by decide +kernel
theorem dX7_init_34 : decode cX7_init 34 = .ok (.dup, 1) := by decide +kernel
theorem dX7_init_35 : decode cX7_init 35 = .ok (.aload_n 0, 1) := by decide +kernel
theorem dX7_init_36 : decode cX7_init 36 = .ok (.getfield 21, 3) := by decide +kernel
theorem dX7_init_39 : decode cX7_init 39 = .ok (.invokespecial 27, 3) := by decide +kernel
theorem dX7_init_42 : decode cX7_init 42 = .ok (.putfield 30, 3) := by decide +kernel
theorem dX7_init_45 : decode cX7_init 45 = .ok (.aload_n 0, 1) := by decide +kernel
theorem dX7_init_46 : decode cX7_init 46 = .ok (.new 34, 3) := by decide +kernel
theorem dX7_init_49 : decode cX7_init 49 = .ok (.dup, 1) := by decide +kernel
theorem dX7_init_50 : decode cX7_init 50 = .ok (.invokespecial 36, 3) := by decide +kernel
theorem dX7_init_53 : decode cX7_init 53 = .ok (.putfield 37, 3) := by decide +kernel
theorem dX7_init_56 : decode cX7_init 56 = .ok (.aload_n 0, 1) := by decide +kernel
theorem dX7_init_57 : decode cX7_init 57 = .ok (.new 41, 3) := by decide +kernel
theorem dX7_init_60 : decode cX7_init 60 = .ok (.dup, 1) := by decide +kernel
theorem dX7_init_61 : decode cX7_init 61 = .ok (.invokespecial 43, 3) := by decide +kernel
theorem dX7_init_64 : decode cX7_init 64 = .ok (.putfield 44, 3) := by decide +kernel
theorem dX7_init_67 : decode cX7_init 67 = .ok (.aload_n 0, 1) := by decide +kernel
theorem dX7_init_68 : decode cX7_init 68 = .ok (.new 48, 3) := by decide +kernel
theorem dX7_init_71 : decode cX7_init 71 = .ok (.dup, 1) := by decide +kernel
theorem dX7_init_72 : decode cX7_init 72 = .ok (.invokespecial 50, 3) := by decide +kernel
theorem dX7_init_75 : decode cX7_init 75 = .ok (.putfield 51, 3) := by decide +kernel
theorem dX7_init_78 : decode cX7_init 78 = .ok (.aload_n 0, 1) := by decide +kernel
theorem dX7_init_79 : decode cX7_init 79 = .ok (.new 55, 3) := by decide +kernel
theorem dX7_init_82 : decode cX7_init 82 = .ok (.dup, 1) := by decide +kernel
theorem dX7_init_83 : decode cX7_init 83 = .ok (.invokespecial 57, 3) := by decide +kernel
theorem dX7_init_86 : decode cX7_init 86 = .ok (.putfield 58, 3) := by decide +kernel
theorem dX7_init_89 : decode cX7_init 89 = .ok (.aload_n 0, 1) := by decide +kernel
theorem dX7_init_90 : decode cX7_init 90 = .ok (.bipush 6, 2) := by decide +kernel
theorem dX7_init_92 : decode cX7_init 92 = .ok (.newarray .int, 2) := by decide +kernel
theorem dX7_init_94 : decode cX7_init 94 = .ok (.putfield 62, 3) := by decide +kernel
theorem dX7_init_97 : decode cX7_init 97 = .ok (.aload_n 0, 1) := by decide +kernel
theorem dX7_init_98 : decode cX7_init 98 = .ok (.iconst 0, 1) := by decide +kernel
theorem dX7_init_99 : decode cX7_init 99 = .ok (.putfield 66, 3) := by decide +kernel
theorem dX7_init_102 : decode cX7_init 102 = .ok (.aload_n 0, 1) := by decide +kernel
theorem dX7_init_103 : decode cX7_init 103 = .ok (.iconst 0, 1) := by decide +kernel
theorem dX7_init_104 : decode cX7_init 104 = .ok (.putfield 70, 3) := by decide +kernel
theorem dX7_init_107 : decode cX7_init 107 = .ok (.return_, 1) := by decide +kernel
set_option maxRecDepth 20000 in
theorem ggX7_stuff_X7_isStuff : GoodIn wsX7_stuff wsX7_isStuff := goodIn_r _ [5, 6, 7, 4, 8] (by decide +kernel) (by decide +kernel)
set_option maxRecDepth 20000 in
theorem gX7_stuff_X7_isStuff : GoodIn wsX7_stuff (va_wsS RX7 73 yX7_isStuff wsX7_isStuff) := goodIn_app (goodIn_of _ (by decide +kernel)) ggX7_stuff_X7_isStuff
set_option maxRecDepth 20000 in
theorem ggX7_stuff_X7_refuse : GoodIn wsX7_stuff wsX7_refuse := goodIn_r _ [12, 13, 14, 6, 7, 4, 8, 22, 23, 24, 25, 26, 27, 28, 29, 30, 31] (by decide +kernel) (by decide +kernel)
set_option maxRecDepth 20000 in
theorem gX7_stuff_X7_refuse : GoodIn wsX7_stuff (wsV RX7 77 RX7 yX7_refuse wsX7_refuse) := goodIn_app (goodIn_of _ (by decide +kernel)) ggX7_stuff_X7_refuse
set_option maxRecDepth 20000 in
theorem ggX7_stuff_X6_begin : GoodIn wsX7_stuff wsX6_begin := goodIn_r _ [19, 20, 21, 32, 33, 34] (by decide +kernel) (by decide +kernel)
set_option maxRecDepth 20000 in
theorem gX7_stuff_X6_begin : GoodIn wsX7_stuff (wsV RX7 81 RX6 yX6_begin wsX6_begin) := goodIn_app (goodIn_of _ (by decide +kernel)) ggX7_stuff_X6_begin
theorem dX7_stuff_0 : decode cX7_stuff 0 = .ok (.iload_n 1, 1) := by decide +kernel
theorem dX7_stuff_1 : decode cX7_stuff 1 = .ok (.invokestatic 73, 3) := by decide +kernel
theorem dX7_stuff_4 : decode cX7_stuff 4 = .ok (.ifCond .eq 9, 3) := by decide +kernel
theorem dX7_stuff_7 : decode cX7_stuff 7 = .ok (.iload_n 2, 1) := by decide +kernel
theorem dX7_stuff_8 : decode cX7_stuff 8 = .ok (.bipush 16, 2) := by decide +kernel
theorem dX7_stuff_10 : decode cX7_stuff 10 = .ok (.if_icmp .le 5, 3) := by decide +kernel
theorem dX7_stuff_13 : decode cX7_stuff 13 = .ok (.iconst (-1), 1) := by decide +kernel
theorem dX7_stuff_14 : decode cX7_stuff 14 = .ok (.ireturn, 1) := by decide +kernel
theorem dX7_stuff_15 : decode cX7_stuff 15 = .ok (.iload_n 2, 1) := by decide +kernel
theorem dX7_stuff_16 : decode cX7_stuff 16 = .ok (.ifCond .ge 9, 3) := by decide +kernel
theorem dX7_stuff_19 : decode cX7_stuff 19 = .ok (.aload_n 0, 1) := by decide +kernel
theorem dX7_stuff_20 : decode cX7_stuff 20 = .ok (.iconst 5, 1) := by decide +kernel
theorem dX7_stuff_21 : decode cX7_stuff 21 = .ok (.invokevirtual 77, 3) := by decide +kernel
theorem dX7_stuff_24 : decode cX7_stuff 24 = .ok (.ireturn, 1) := by decide +kernel
theorem dX7_stuff_25 : decode cX7_stuff 25 = .ok (.aload_n 0, 1) := by decide +kernel
theorem dX7_stuff_26 : decode cX7_stuff 26 = .ok (.getfield 10, 3) := by decide +kernel
theorem dX7_stuff_29 : decode cX7_stuff 29 = .ok (.iload_n 1, 1) := by decide +kernel
theorem dX7_stuff_30 : decode cX7_stuff 30 = .ok (.iload_n 2, 1) := by decide +kernel
theorem dX7_stuff_31 : decode cX7_stuff 31 = .ok (.invokevirtual 81, 3) := by decide +kernel
theorem dX7_stuff_34 : decode cX7_stuff 34 = .ok (.iload_n 2, 1) := by decide +kernel
theorem dX7_stuff_35 : decode cX7_stuff 35 = .ok (.ireturn, 1) := by decide +kernel
set_option maxRecDepth 20000 in
theorem ggX7_lay_X7_refusalOfStuff : GoodIn wsX7_lay wsX7_refusalOfStuff := goodIn_r _ [6, 1, 7, 8, 5, 9, 10, 11, 12, 13, 14, 15, 16, 17, 18, 19, 20, 21, 22, 23, 24, 34, 35, 36, 37, 38, 39, 40, 41, 42, 43, 44, 45, 46] (by decide +kernel) (by decide +kernel)
set_option maxRecDepth 20000 in
theorem gX7_lay_X7_refusalOfStuff : GoodIn wsX7_lay (wsV RX7 85 RX7 yX7_refusalOfStuff wsX7_refusalOfStuff) := goodIn_app (goodIn_of _ (by decide +kernel)) ggX7_lay_X7_refusalOfStuff
set_option maxRecDepth 20000 in
theorem ggX7_lay_X6_hasBytes : GoodIn wsX7_lay wsX6_hasBytes := goodIn_r _ [28, 18, 44, 45, 46] (by decide +kernel) (by decide +kernel)
set_option maxRecDepth 20000 in
theorem gX7_lay_X6_hasBytes : GoodIn wsX7_lay (wsV RX7 88 RX6 yX6_hasBytes wsX6_hasBytes) := goodIn_app (goodIn_of _ (by decide +kernel)) ggX7_lay_X6_hasBytes
set_option maxRecDepth 20000 in
theorem ggX7_lay_X7_refuse : GoodIn wsX7_lay wsX7_refuse := goodIn_r _ [22, 23, 24, 10, 11, 5, 12, 34, 35, 36, 37, 38, 39, 40, 41, 42, 43] (by decide +kernel) (by decide +kernel)
set_option maxRecDepth 20000 in
theorem gX7_lay_X7_refuse : GoodIn wsX7_lay (wsV RX7 77 RX7 yX7_refuse wsX7_refuse) := goodIn_app (goodIn_of _ (by decide +kernel)) ggX7_lay_X7_refuse
set_option maxRecDepth 20000 in
theorem ggX7_lay_X6_replace : GoodIn wsX7_lay wsX6_replace := goodIn_r _ [32, 33, 44, 45, 46] (by decide +kernel) (by decide +kernel)
set_option maxRecDepth 20000 in
theorem gX7_lay_X6_replace : GoodIn wsX7_lay (wsV RX7 92 RX6 yX6_replace wsX6_replace) := goodIn_app (goodIn_of _ (by decide +kernel)) ggX7_lay_X6_replace
theorem dX7_lay_0 : decode cX7_lay 0 = .ok (.aload_n 0, 1) := by decide +kernel
theorem dX7_lay_1 : decode cX7_lay 1 = .ok (.iload_n 1, 1) := by decide +kernel
theorem dX7_lay_2 : decode cX7_lay 2 = .ok (.invokevirtual 85, 3) := by decide +kernel
theorem dX7_lay_5 : decode cX7_lay 5 = .ok (.istore 4, 2) := by decide +kernel
theorem dX7_lay_7 : decode cX7_lay 7 = .ok (.iload 4, 2) := by decide +kernel
theorem dX7_lay_9 : decode cX7_lay 9 = .ok (.ifCond .eq 6, 3) := by decide +kernel
theorem dX7_lay_12 : decode cX7_lay 12 = .ok (.iload 4, 2) := by decide +kernel
theorem dX7_lay_14 : decode cX7_lay 14 = .ok (.ireturn, 1) := by decide +kernel
theorem dX7_lay_15 : decode cX7_lay 15 = .ok (.aload_n 0, 1) := by decide +kernel
theorem dX7_lay_16 : decode cX7_lay 16 = .ok (.getfield 10, 3) := by decide +kernel
theorem dX7_lay_19 : decode cX7_lay 19 = .ok (.iload_n 1, 1) := by decide +kernel
theorem dX7_lay_20 : decode cX7_lay 20 = .ok (.iload_n 2, 1) := by decide +kernel
theorem dX7_lay_21 : decode cX7_lay 21 = .ok (.iconst 1, 1) := by decide +kernel
theorem dX7_lay_22 : decode cX7_lay 22 = .ok (.invokevirtual 88, 3) := by decide +kernel
theorem dX7_lay_25 : decode cX7_lay 25 = .ok (.ifCond .ne 9, 3) := by decide +kernel
theorem dX7_lay_28 : decode cX7_lay 28 = .ok (.aload_n 0, 1) := by decide +kernel
theorem dX7_lay_29 : decode cX7_lay 29 = .ok (.iconst 2, 1) := by decide +kernel
theorem dX7_lay_30 : decode cX7_lay 30 = .ok (.invokevirtual 77, 3) := by decide +kernel
theorem dX7_lay_33 : decode cX7_lay 33 = .ok (.ireturn, 1) := by decide +kernel
theorem dX7_lay_34 : decode cX7_lay 34 = .ok (.aload_n 0, 1) := by decide +kernel
theorem dX7_lay_35 : decode cX7_lay 35 = .ok (.getfield 10, 3) := by decide +kernel
theorem dX7_lay_38 : decode cX7_lay 38 = .ok (.iload_n 1, 1) := by decide +kernel
theorem dX7_lay_39 : decode cX7_lay 39 = .ok (.iload_n 2, 1) := by decide +kernel
theorem dX7_lay_40 : decode cX7_lay 40 = .ok (.iload_n 3, 1) := by decide +kernel
theorem dX7_lay_41 : decode cX7_lay 41 = .ok (.i2b, 1) := by decide +kernel
theorem dX7_lay_42 : decode cX7_lay 42 = .ok (.invokevirtual 92, 3) := by decide +kernel
theorem dX7_lay_45 : decode cX7_lay 45 = .ok (.sipush 1000, 3) := by decide +kernel
theorem dX7_lay_48 : decode cX7_lay 48 = .ok (.iadd, 1) := by decide +kernel
theorem dX7_lay_49 : decode cX7_lay 49 = .ok (.ireturn, 1) := by decide +kernel
set_option maxRecDepth 20000 in
theorem ggX7_tear_X7_refusalOfStuff : GoodIn wsX7_tear wsX7_refusalOfStuff := goodIn_r _ [6, 1, 7, 8, 5, 9, 10, 11, 12, 13, 14, 15, 16, 17, 18, 19, 20, 21, 22, 23, 24, 29, 30, 31, 32, 33, 34, 35, 36, 37, 38, 39, 40, 41] (by decide +kernel) (by decide +kernel)
set_option maxRecDepth 20000 in
theorem gX7_tear_X7_refusalOfStuff : GoodIn wsX7_tear (wsV RX7 85 RX7 yX7_refusalOfStuff wsX7_refusalOfStuff) := goodIn_app (goodIn_of _ (by decide +kernel)) ggX7_tear_X7_refusalOfStuff
set_option maxRecDepth 20000 in
theorem ggX7_tear_X6_end : GoodIn wsX7_tear wsX6_end := goodIn_r _ [28, 18, 39, 40, 41] (by decide +kernel) (by decide +kernel)
set_option maxRecDepth 20000 in
theorem gX7_tear_X6_end : GoodIn wsX7_tear (wsV RX7 96 RX6 yX6_end wsX6_end) := goodIn_app (goodIn_of _ (by decide +kernel)) ggX7_tear_X6_end
theorem dX7_tear_0 : decode cX7_tear 0 = .ok (.aload_n 0, 1) := by decide +kernel
theorem dX7_tear_1 : decode cX7_tear 1 = .ok (.iload_n 1, 1) := by decide +kernel
theorem dX7_tear_2 : decode cX7_tear 2 = .ok (.invokevirtual 85, 3) := by decide +kernel
theorem dX7_tear_5 : decode cX7_tear 5 = .ok (.istore_n 2, 1) := by decide +kernel
theorem dX7_tear_6 : decode cX7_tear 6 = .ok (.iload_n 2, 1) := by decide +kernel
theorem dX7_tear_7 : decode cX7_tear 7 = .ok (.ifCond .eq 5, 3) := by decide +kernel
theorem dX7_tear_10 : decode cX7_tear 10 = .ok (.iload_n 2, 1) := by decide +kernel
theorem dX7_tear_11 : decode cX7_tear 11 = .ok (.ireturn, 1) := by decide +kernel
theorem dX7_tear_12 : decode cX7_tear 12 = .ok (.aload_n 0, 1) := by decide +kernel
theorem dX7_tear_13 : decode cX7_tear 13 = .ok (.getfield 10, 3) := by decide +kernel
theorem dX7_tear_16 : decode cX7_tear 16 = .ok (.iload_n 1, 1) := by decide +kernel
theorem dX7_tear_17 : decode cX7_tear 17 = .ok (.invokevirtual 96, 3) := by decide +kernel
theorem dX7_tear_20 : decode cX7_tear 20 = .ok (.iconst 1, 1) := by decide +kernel
theorem dX7_tear_21 : decode cX7_tear 21 = .ok (.ireturn, 1) := by decide +kernel
set_option maxRecDepth 20000 in
theorem ggX7_copy_X7_isStuff : GoodIn wsX7_copy wsX7_isStuff := goodIn_r _ [5, 6, 7, 4, 8] (by decide +kernel) (by decide +kernel)
set_option maxRecDepth 20000 in
theorem gX7_copy_X7_isStuff : GoodIn wsX7_copy (va_wsS RX7 73 yX7_isStuff wsX7_isStuff) := goodIn_app (goodIn_of _ (by decide +kernel)) ggX7_copy_X7_isStuff
set_option maxRecDepth 20000 in
theorem ggX7_copy_X6_isThere : GoodIn wsX7_copy wsX6_isThere := goodIn_r _ [13, 14, 44, 45, 46] (by decide +kernel) (by decide +kernel)
set_option maxRecDepth 20000 in
theorem gX7_copy_X6_isThere : GoodIn wsX7_copy (wsV RX7 100 RX6 yX6_isThere wsX6_isThere) := goodIn_app (goodIn_of _ (by decide +kernel)) ggX7_copy_X6_isThere
set_option maxRecDepth 20000 in
theorem ggX7_copy_X7_refuse : GoodIn wsX7_copy wsX7_refuse := goodIn_r _ [18, 19, 20, 6, 7, 4, 8, 34, 35, 36, 37, 38, 39, 40, 41, 42, 43] (by decide +kernel) (by decide +kernel)
set_option maxRecDepth 20000 in
theorem gX7_copy_X7_refuse : GoodIn wsX7_copy (wsV RX7 77 RX7 yX7_refuse wsX7_refuse) := goodIn_app (goodIn_of _ (by decide +kernel)) ggX7_copy_X7_refuse
set_option maxRecDepth 20000 in
theorem ggX7_copy_X6_hasBytes : GoodIn wsX7_copy wsX6_hasBytes := goodIn_r _ [24, 14, 44, 45, 46] (by decide +kernel) (by decide +kernel)
set_option maxRecDepth 20000 in
theorem gX7_copy_X6_hasBytes : GoodIn wsX7_copy (wsV RX7 88 RX6 yX6_hasBytes wsX6_hasBytes) := goodIn_app (goodIn_of _ (by decide +kernel)) ggX7_copy_X6_hasBytes
set_option maxRecDepth 20000 in
theorem ggX7_copy_X6_transfer : GoodIn wsX7_copy wsX6_transfer := goodIn_r _ [28, 29, 30, 31, 32, 33, 44, 45, 46] (by decide +kernel) (by decide +kernel)
set_option maxRecDepth 20000 in
theorem gX7_copy_X6_transfer : GoodIn wsX7_copy (wsV RX7 103 RX6 yX6_transfer wsX6_transfer) := goodIn_app (goodIn_of _ (by decide +kernel)) ggX7_copy_X6_transfer
theorem dX7_copy_0 : decode cX7_copy 0 = .ok (.iload_n 1, 1) := by decide +kernel
theorem dX7_copy_1 : decode cX7_copy 1 = .ok (.invokestatic 73, 3) := by decide +kernel
theorem dX7_copy_4 : decode cX7_copy 4 = .ok (.ifCond .eq 10, 3) := by decide +kernel
theorem dX7_copy_7 : decode cX7_copy 7 = .ok (.iload_n 3, 1) := by decide +kernel
theorem dX7_copy_8 : decode cX7_copy 8 = .ok (.invokestatic 73, 3) := by decide +kernel
theorem dX7_copy_11 : decode cX7_copy 11 = .ok (.ifCond .ne 5, 3) := by decide +kernel
theorem dX7_copy_14 : decode cX7_copy 14 = .ok (.iconst (-1), 1) := by decide +kernel
theorem dX7_copy_15 : decode cX7_copy 15 = .ok (.ireturn, 1) := by decide +kernel
theorem dX7_copy_16 : decode cX7_copy 16 = .ok (.aload_n 0, 1) := by decide +kernel
theorem dX7_copy_17 : decode cX7_copy 17 = .ok (.getfield 10, 3) := by decide +kernel
theorem dX7_copy_20 : decode cX7_copy 20 = .ok (.iload_n 1, 1) := by decide +kernel
theorem dX7_copy_21 : decode cX7_copy 21 = .ok (.invokevirtual 100, 3) := by decide +kernel
theorem dX7_copy_24 : decode cX7_copy 24 = .ok (.ifCond .eq 14, 3) := by decide +kernel
theorem dX7_copy_27 : decode cX7_copy 27 = .ok (.aload_n 0, 1) := by decide +kernel
theorem dX7_copy_28 : decode cX7_copy 28 = .ok (.getfield 10, 3) := by decide +kernel
theorem dX7_copy_31 : decode cX7_copy 31 = .ok (.iload_n 3, 1) := by decide +kernel
theorem dX7_copy_32 : decode cX7_copy 32 = .ok (.invokevirtual 100, 3) := by decide +kernel
theorem dX7_copy_35 : decode cX7_copy 35 = .ok (.ifCond .ne 9, 3) := by decide +kernel
theorem dX7_copy_38 : decode cX7_copy 38 = .ok (.aload_n 0, 1) := by decide +kernel
theorem dX7_copy_39 : decode cX7_copy 39 = .ok (.iconst 1, 1) := by decide +kernel
theorem dX7_copy_40 : decode cX7_copy 40 = .ok (.invokevirtual 77, 3) := by decide +kernel
theorem dX7_copy_43 : decode cX7_copy 43 = .ok (.ireturn, 1) := by decide +kernel
theorem dX7_copy_44 : decode cX7_copy 44 = .ok (.aload_n 0, 1) := by decide +kernel
theorem dX7_copy_45 : decode cX7_copy 45 = .ok (.getfield 10, 3) := by decide +kernel
theorem dX7_copy_48 : decode cX7_copy 48 = .ok (.iload_n 1, 1) := by decide +kernel
theorem dX7_copy_49 : decode cX7_copy 49 = .ok (.iload_n 2, 1) := by decide +kernel
theorem dX7_copy_50 : decode cX7_copy 50 = .ok (.iload 5, 2) := by decide +kernel
theorem dX7_copy_52 : decode cX7_copy 52 = .ok (.invokevirtual 88, 3) := by decide +kernel
theorem dX7_copy_55 : decode cX7_copy 55 = .ok (.ifCond .eq 18, 3) := by decide +kernel
theorem dX7_copy_58 : decode cX7_copy 58 = .ok (.aload_n 0, 1) := by decide +kernel
theorem dX7_copy_59 : decode cX7_copy 59 = .ok (.getfield 10, 3) := by decide +kernel
theorem dX7_copy_62 : decode cX7_copy 62 = .ok (.iload_n 3, 1) := by decide +kernel
theorem dX7_copy_63 : decode cX7_copy 63 = .ok (.iload 4, 2) := by decide +kernel
theorem dX7_copy_65 : decode cX7_copy 65 = .ok (.iload 5, 2) := by decide +kernel
theorem dX7_copy_67 : decode cX7_copy 67 = .ok (.invokevirtual 88, 3) := by decide +kernel
theorem dX7_copy_70 : decode cX7_copy 70 = .ok (.ifCond .ne 9, 3) := by decide +kernel
theorem dX7_copy_73 : decode cX7_copy 73 = .ok (.aload_n 0, 1) := by decide +kernel
theorem dX7_copy_74 : decode cX7_copy 74 = .ok (.iconst 2, 1) := by decide +kernel
theorem dX7_copy_75 : decode cX7_copy 75 = .ok (.invokevirtual 77, 3) := by decide +kernel
theorem dX7_copy_78 : decode cX7_copy 78 = .ok (.ireturn, 1) := by decide +kernel
theorem dX7_copy_79 : decode cX7_copy 79 = .ok (.aload_n 0, 1) := by decide +kernel
theorem dX7_copy_80 : decode cX7_copy 80 = .ok (.getfield 10, 3) := by decide +kernel
theorem dX7_copy_83 : decode cX7_copy 83 = .ok (.iload_n 1, 1) := by decide +kernel
theorem dX7_copy_84 : decode cX7_copy 84 = .ok (.iload_n 2, 1) := by decide +kernel
theorem dX7_copy_85 : decode cX7_copy 85 = .ok (.iload_n 3, 1) := by decide +kernel
theorem dX7_copy_86 : decode cX7_copy 86 = .ok (.iload 4, 2) := by decide +kernel
theorem dX7_copy_88 : decode cX7_copy 88 = .ok (.iload 5, 2) := by decide +kernel
theorem dX7_copy_90 : decode cX7_copy 90 = .ok (.invokevirtual 103, 3) := by decide +kernel
theorem dX7_copy_93 : decode cX7_copy 93 = .ok (.iconst 1, 1) := by decide +kernel
theorem dX7_copy_94 : decode cX7_copy 94 = .ok (.ireturn, 1) := by decide +kernel
set_option maxRecDepth 20000 in
theorem ggX7_weigh_X7_isStuff : GoodIn wsX7_weigh wsX7_isStuff := goodIn_r _ [5, 6, 7, 4, 8] (by decide +kernel) (by decide +kernel)
set_option maxRecDepth 20000 in
theorem gX7_weigh_X7_isStuff : GoodIn wsX7_weigh (va_wsS RX7 73 yX7_isStuff wsX7_isStuff) := goodIn_app (goodIn_of _ (by decide +kernel)) ggX7_weigh_X7_isStuff
set_option maxRecDepth 20000 in
theorem ggX7_weigh_X7_isWithin : GoodIn wsX7_weigh wsX7_isWithin := goodIn_r _ [8] (by decide +kernel) (by decide +kernel)
set_option maxRecDepth 20000 in
theorem gX7_weigh_X7_isWithin : GoodIn wsX7_weigh (va_wsS RX7 107 yX7_isWithin wsX7_isWithin) := goodIn_app (goodIn_of _ (by decide +kernel)) ggX7_weigh_X7_isWithin
set_option maxRecDepth 20000 in
theorem ggX7_weigh_X6_reweigh : GoodIn wsX7_weigh wsX6_reweigh := goodIn_r _ [13, 14, 25, 26, 27] (by decide +kernel) (by decide +kernel)
set_option maxRecDepth 20000 in
theorem gX7_weigh_X6_reweigh : GoodIn wsX7_weigh (wsV RX7 110 RX6 yX6_reweigh wsX6_reweigh) := goodIn_app (goodIn_of _ (by decide +kernel)) ggX7_weigh_X6_reweigh
theorem dX7_weigh_0 : decode cX7_weigh 0 = .ok (.iload_n 1, 1) := by decide +kernel
theorem dX7_weigh_1 : decode cX7_weigh 1 = .ok (.invokestatic 73, 3) := by decide +kernel
theorem dX7_weigh_4 : decode cX7_weigh 4 = .ok (.ifCond .eq 13, 3) := by decide +kernel
theorem dX7_weigh_7 : decode cX7_weigh 7 = .ok (.iload_n 2, 1) := by decide +kernel
theorem dX7_weigh_8 : decode cX7_weigh 8 = .ok (.iconst 1, 1) := by decide +kernel
theorem dX7_weigh_9 : decode cX7_weigh 9 = .ok (.bipush 50, 2) := by decide +kernel
theorem dX7_weigh_11 : decode cX7_weigh 11 = .ok (.invokestatic 107, 3) := by decide +kernel
theorem dX7_weigh_14 : decode cX7_weigh 14 = .ok (.ifCond .ne 5, 3) := by decide +kernel
theorem dX7_weigh_17 : decode cX7_weigh 17 = .ok (.iconst (-1), 1) := by decide +kernel
theorem dX7_weigh_18 : decode cX7_weigh 18 = .ok (.ireturn, 1) := by decide +kernel
theorem dX7_weigh_19 : decode cX7_weigh 19 = .ok (.aload_n 0, 1) := by decide +kernel
theorem dX7_weigh_20 : decode cX7_weigh 20 = .ok (.getfield 10, 3) := by decide +kernel
theorem dX7_weigh_23 : decode cX7_weigh 23 = .ok (.iload_n 1, 1) := by decide +kernel
theorem dX7_weigh_24 : decode cX7_weigh 24 = .ok (.iload_n 2, 1) := by decide +kernel
theorem dX7_weigh_25 : decode cX7_weigh 25 = .ok (.invokevirtual 110, 3) := by decide +kernel
theorem dX7_weigh_28 : decode cX7_weigh 28 = .ok (.ireturn, 1) := by decide +kernel
set_option maxRecDepth 20000 in
theorem ggX7_mean_X7_refusalOfStuff : GoodIn wsX7_mean wsX7_refusalOfStuff := goodIn_r _ [6, 1, 7, 8, 5, 9, 10, 11, 12, 13, 14, 15, 16, 17, 18, 19, 20, 21, 22, 23, 24, 34, 35, 36, 37, 38, 39, 40, 41, 42, 43, 44, 45, 46] (by decide +kernel) (by decide +kernel)
set_option maxRecDepth 20000 in
theorem gX7_mean_X7_refusalOfStuff : GoodIn wsX7_mean (wsV RX7 85 RX7 yX7_refusalOfStuff wsX7_refusalOfStuff) := goodIn_app (goodIn_of _ (by decide +kernel)) ggX7_mean_X7_refusalOfStuff
set_option maxRecDepth 20000 in
theorem ggX7_mean_X6_sizeOf : GoodIn wsX7_mean wsX6_sizeOf := goodIn_r _ [28, 18, 44, 45, 46] (by decide +kernel) (by decide +kernel)
set_option maxRecDepth 20000 in
theorem gX7_mean_X6_sizeOf : GoodIn wsX7_mean (wsV RX7 114 RX6 yX6_sizeOf wsX6_sizeOf) := goodIn_app (goodIn_of _ (by decide +kernel)) ggX7_mean_X6_sizeOf
set_option maxRecDepth 20000 in
theorem ggX7_mean_X7_refuse : GoodIn wsX7_mean wsX7_refuse := goodIn_r _ [22, 23, 24, 10, 11, 5, 12, 34, 35, 36, 37, 38, 39, 40, 41, 42, 43] (by decide +kernel) (by decide +kernel)
set_option maxRecDepth 20000 in
theorem gX7_mean_X7_refuse : GoodIn wsX7_mean (wsV RX7 77 RX7 yX7_refuse wsX7_refuse) := goodIn_app (goodIn_of _ (by decide +kernel)) ggX7_mean_X7_refuse
set_option maxRecDepth 20000 in
theorem ggX7_mean_X6_sumOf : GoodIn wsX7_mean wsX6_sumOf := goodIn_r _ [32, 18, 33, 44, 45, 46] (by decide +kernel) (by decide +kernel)
set_option maxRecDepth 20000 in
theorem gX7_mean_X6_sumOf : GoodIn wsX7_mean (wsV RX7 117 RX6 yX6_sumOf wsX6_sumOf) := goodIn_app (goodIn_of _ (by decide +kernel)) ggX7_mean_X6_sumOf
theorem dX7_mean_0 : decode cX7_mean 0 = .ok (.aload_n 0, 1) := by decide +kernel
theorem dX7_mean_1 : decode cX7_mean 1 = .ok (.iload_n 1, 1) := by decide +kernel
theorem dX7_mean_2 : decode cX7_mean 2 = .ok (.invokevirtual 85, 3) := by decide +kernel
theorem dX7_mean_5 : decode cX7_mean 5 = .ok (.istore_n 2, 1) := by decide +kernel
theorem dX7_mean_6 : decode cX7_mean 6 = .ok (.iload_n 2, 1) := by decide +kernel
theorem dX7_mean_7 : decode cX7_mean 7 = .ok (.ifCond .eq 5, 3) := by decide +kernel
theorem dX7_mean_10 : decode cX7_mean 10 = .ok (.iload_n 2, 1) := by decide +kernel
theorem dX7_mean_11 : decode cX7_mean 11 = .ok (.ireturn, 1) := by decide +kernel
theorem dX7_mean_12 : decode cX7_mean 12 = .ok (.aload_n 0, 1) := by decide +kernel
theorem dX7_mean_13 : decode cX7_mean 13 = .ok (.getfield 10, 3) := by decide +kernel
theorem dX7_mean_16 : decode cX7_mean 16 = .ok (.iload_n 1, 1) := by decide +kernel
theorem dX7_mean_17 : decode cX7_mean 17 = .ok (.invokevirtual 114, 3) := by decide +kernel
theorem dX7_mean_20 : decode cX7_mean 20 = .ok (.istore_n 3, 1) := by decide +kernel
theorem dX7_mean_21 : decode cX7_mean 21 = .ok (.iload_n 3, 1) := by decide +kernel
theorem dX7_mean_22 : decode cX7_mean 22 = .ok (.ifCond .gt 9, 3) := by decide +kernel
theorem dX7_mean_25 : decode cX7_mean 25 = .ok (.aload_n 0, 1) := by decide +kernel
theorem dX7_mean_26 : decode cX7_mean 26 = .ok (.iconst 4, 1) := by decide +kernel
theorem dX7_mean_27 : decode cX7_mean 27 = .ok (.invokevirtual 77, 3) := by decide +kernel
theorem dX7_mean_30 : decode cX7_mean 30 = .ok (.ireturn, 1) := by decide +kernel
theorem dX7_mean_31 : decode cX7_mean 31 = .ok (.aload_n 0, 1) := by decide +kernel
theorem dX7_mean_32 : decode cX7_mean 32 = .ok (.getfield 10, 3) := by decide +kernel
theorem dX7_mean_35 : decode cX7_mean 35 = .ok (.iload_n 1, 1) := by decide +kernel
theorem dX7_mean_36 : decode cX7_mean 36 = .ok (.invokevirtual 117, 3) := by decide +kernel
theorem dX7_mean_39 : decode cX7_mean 39 = .ok (.iload_n 3, 1) := by decide +kernel
theorem dX7_mean_40 : decode cX7_mean 40 = .ok (.idiv, 1) := by decide +kernel
theorem dX7_mean_41 : decode cX7_mean 41 = .ok (.ireturn, 1) := by decide +kernel
set_option maxRecDepth 20000 in
theorem ggX7_leg_X7_isWay : GoodIn wsX7_leg wsX7_isWay := goodIn_r _ [5, 6, 7, 4, 8] (by decide +kernel) (by decide +kernel)
set_option maxRecDepth 20000 in
theorem gX7_leg_X7_isWay : GoodIn wsX7_leg (va_wsS RX7 120 yX7_isWay wsX7_isWay) := goodIn_app (goodIn_of _ (by decide +kernel)) ggX7_leg_X7_isWay
set_option maxRecDepth 20000 in
theorem ggX7_leg_X7_isWithin : GoodIn wsX7_leg wsX7_isWithin := goodIn_r _ [8] (by decide +kernel) (by decide +kernel)
set_option maxRecDepth 20000 in
theorem gX7_leg_X7_isWithin : GoodIn wsX7_leg (va_wsS RX7 107 yX7_isWithin wsX7_isWithin) := goodIn_app (goodIn_of _ (by decide +kernel)) ggX7_leg_X7_isWithin
set_option maxRecDepth 20000 in
theorem ggX7_leg_X7_isStuff : GoodIn wsX7_leg wsX7_isStuff := goodIn_r _ [11, 6, 7, 4, 8] (by decide +kernel) (by decide +kernel)
set_option maxRecDepth 20000 in
theorem gX7_leg_X7_isStuff : GoodIn wsX7_leg (va_wsS RX7 73 yX7_isStuff wsX7_isStuff) := goodIn_app (goodIn_of _ (by decide +kernel)) ggX7_leg_X7_isStuff
set_option maxRecDepth 20000 in
theorem ggX7_leg_X5_legs : GoodIn wsX7_leg wsX5_legs := goodIn_r _ [16, 17, 36, 37, 38, 39, 40, 41, 42] (by decide +kernel) (by decide +kernel)
set_option maxRecDepth 20000 in
theorem gX7_leg_X5_legs : GoodIn wsX7_leg (wsV RX7 123 RX5 yX5_legs wsX5_legs) := goodIn_app (goodIn_of _ (by decide +kernel)) ggX7_leg_X5_legs
set_option maxRecDepth 20000 in
theorem ggX7_leg_X5_append : GoodIn wsX7_leg wsX5_append := goodIn_r _ [21, 22, 17, 23, 24, 25, 36, 37, 38, 39, 40, 41, 42] (by decide +kernel) (by decide +kernel)
set_option maxRecDepth 20000 in
theorem gX7_leg_X5_append : GoodIn wsX7_leg (wsV RX7 127 RX5 yX5_append wsX5_append) := goodIn_app (goodIn_of _ (by decide +kernel)) ggX7_leg_X5_append
theorem dX7_leg_0 : decode cX7_leg 0 = .ok (.iload_n 1, 1) := by decide +kernel
theorem dX7_leg_1 : decode cX7_leg 1 = .ok (.invokestatic 120, 3) := by decide +kernel
theorem dX7_leg_4 : decode cX7_leg 4 = .ok (.ifCond .eq 20, 3) := by decide +kernel
theorem dX7_leg_7 : decode cX7_leg 7 = .ok (.iload_n 2, 1) := by decide +kernel
theorem dX7_leg_8 : decode cX7_leg 8 = .ok (.iconst 1, 1) := by decide +kernel
theorem dX7_leg_9 : decode cX7_leg 9 = .ok (.bipush 20, 2) := by decide +kernel
theorem dX7_leg_11 : decode cX7_leg 11 = .ok (.invokestatic 107, 3) := by decide +kernel
theorem dX7_leg_14 : decode cX7_leg 14 = .ok (.ifCond .eq 10, 3) := by decide +kernel
theorem dX7_leg_17 : decode cX7_leg 17 = .ok (.iload_n 3, 1) := by decide +kernel
theorem dX7_leg_18 : decode cX7_leg 18 = .ok (.invokestatic 73, 3) := by decide +kernel
theorem dX7_leg_21 : decode cX7_leg 21 = .ok (.ifCond .ne 5, 3) := by decide +kernel
theorem dX7_leg_24 : decode cX7_leg 24 = .ok (.iconst (-1), 1) := by decide +kernel
theorem dX7_leg_25 : decode cX7_leg 25 = .ok (.ireturn, 1) := by decide +kernel
theorem dX7_leg_26 : decode cX7_leg 26 = .ok (.aload_n 0, 1) := by decide +kernel
theorem dX7_leg_27 : decode cX7_leg 27 = .ok (.getfield 21, 3) := by decide +kernel
theorem dX7_leg_30 : decode cX7_leg 30 = .ok (.invokevirtual 123, 3) := by decide +kernel
theorem dX7_leg_33 : decode cX7_leg 33 = .ok (.bipush 12, 2) := by decide +kernel
theorem dX7_leg_35 : decode cX7_leg 35 = .ok (.if_icmp .lt 6, 3) := by decide +kernel
theorem dX7_leg_38 : decode cX7_leg 38 = .ok (.bipush (-2), 2) := by decide +kernel
theorem dX7_leg_40 : decode cX7_leg 40 = .ok (.ireturn, 1) := by decide +kernel
theorem dX7_leg_41 : decode cX7_leg 41 = .ok (.aload_n 0, 1) := by decide +kernel
theorem dX7_leg_42 : decode cX7_leg 42 = .ok (.getfield 21, 3) := by decide +kernel
theorem dX7_leg_45 : decode cX7_leg 45 = .ok (.iload_n 1, 1) := by decide +kernel
theorem dX7_leg_46 : decode cX7_leg 46 = .ok (.iload_n 2, 1) := by decide +kernel
theorem dX7_leg_47 : decode cX7_leg 47 = .ok (.iload_n 3, 1) := by decide +kernel
theorem dX7_leg_48 : decode cX7_leg 48 = .ok (.invokevirtual 127, 3) := by decide +kernel
theorem dX7_leg_51 : decode cX7_leg 51 = .ok (.aload_n 0, 1) := by decide +kernel
theorem dX7_leg_52 : decode cX7_leg 52 = .ok (.getfield 21, 3) := by decide +kernel
theorem dX7_leg_55 : decode cX7_leg 55 = .ok (.invokevirtual 123, 3) := by decide +kernel
theorem dX7_leg_58 : decode cX7_leg 58 = .ok (.ireturn, 1) := by decide +kernel
set_option maxRecDepth 20000 in
theorem ggX7_cut_X5_legs : GoodIn wsX7_cut wsX5_legs := goodIn_r _ [6, 7, 24, 25, 26, 27, 28, 29, 30] (by decide +kernel) (by decide +kernel)
set_option maxRecDepth 20000 in
theorem gX7_cut_X5_legs : GoodIn wsX7_cut (wsV RX7 123 RX5 yX5_legs wsX5_legs) := goodIn_app (goodIn_of _ (by decide +kernel)) ggX7_cut_X5_legs
set_option maxRecDepth 20000 in
theorem ggX7_cut_X5_removeLast : GoodIn wsX7_cut wsX5_removeLast := goodIn_r _ [11, 7, 12, 13, 24, 25, 26, 27, 28, 29, 30] (by decide +kernel) (by decide +kernel)
set_option maxRecDepth 20000 in
theorem gX7_cut_X5_removeLast : GoodIn wsX7_cut (wsV RX7 131 RX5 yX5_removeLast wsX5_removeLast) := goodIn_app (goodIn_of _ (by decide +kernel)) ggX7_cut_X5_removeLast
theorem dX7_cut_0 : decode cX7_cut 0 = .ok (.aload_n 0, 1) := by decide +kernel
theorem dX7_cut_1 : decode cX7_cut 1 = .ok (.getfield 21, 3) := by decide +kernel
theorem dX7_cut_4 : decode cX7_cut 4 = .ok (.invokevirtual 123, 3) := by decide +kernel
theorem dX7_cut_7 : decode cX7_cut 7 = .ok (.ifCond .ne 6, 3) := by decide +kernel
theorem dX7_cut_10 : decode cX7_cut 10 = .ok (.bipush (-4), 2) := by decide +kernel
theorem dX7_cut_12 : decode cX7_cut 12 = .ok (.ireturn, 1) := by decide +kernel
theorem dX7_cut_13 : decode cX7_cut 13 = .ok (.aload_n 0, 1) := by decide +kernel
theorem dX7_cut_14 : decode cX7_cut 14 = .ok (.getfield 21, 3) := by decide +kernel
theorem dX7_cut_17 : decode cX7_cut 17 = .ok (.invokevirtual 131, 3) := by decide +kernel
theorem dX7_cut_20 : decode cX7_cut 20 = .ok (.aload_n 0, 1) := by decide +kernel
theorem dX7_cut_21 : decode cX7_cut 21 = .ok (.getfield 21, 3) := by decide +kernel
theorem dX7_cut_24 : decode cX7_cut 24 = .ok (.invokevirtual 123, 3) := by decide +kernel
theorem dX7_cut_27 : decode cX7_cut 27 = .ok (.ireturn, 1) := by decide +kernel
set_option maxRecDepth 20000 in
theorem ggX7_where_X5_length : GoodIn wsX7_where wsX5_length := goodIn_r _ [7, 8, 50, 51, 52, 53, 54, 55, 56] (by decide +kernel) (by decide +kernel)
set_option maxRecDepth 20000 in
theorem gX7_where_X5_length : GoodIn wsX7_where (wsV RX7 134 RX5 yX5_length wsX5_length) := goodIn_app (goodIn_of _ (by decide +kernel)) ggX7_where_X5_length
set_option maxRecDepth 20000 in
theorem ggX7_where_X7_isWithin : GoodIn wsX7_where wsX7_isWithin := goodIn_r _ [12] (by decide +kernel) (by decide +kernel)
set_option maxRecDepth 20000 in
theorem gX7_where_X7_isWithin : GoodIn wsX7_where (va_wsS RX7 107 yX7_isWithin wsX7_isWithin) := goodIn_app (goodIn_of _ (by decide +kernel)) ggX7_where_X7_isWithin
set_option maxRecDepth 20000 in
theorem ggX7_where_X7_isAxis : GoodIn wsX7_where wsX7_isAxis := goodIn_r _ [15, 9, 10, 11, 12] (by decide +kernel) (by decide +kernel)
set_option maxRecDepth 20000 in
theorem gX7_where_X7_isAxis : GoodIn wsX7_where (va_wsS RX7 137 yX7_isAxis wsX7_isAxis) := goodIn_app (goodIn_of _ (by decide +kernel)) ggX7_where_X7_isAxis
set_option maxRecDepth 20000 in
theorem ggX7_where_X5_position : GoodIn wsX7_where wsX5_position := goodIn_r _ [19, 20, 21, 22, 23, 24, 6, 25, 26, 27, 28, 29, 30, 31, 32, 33, 34, 35, 36, 37, 38, 39, 50, 51, 52, 53, 54, 55, 56] (by decide +kernel) (by decide +kernel)
set_option maxRecDepth 20000 in
theorem gX7_where_X5_position : GoodIn wsX7_where (wsV RX7 140 RX5 yX5_position wsX5_position) := goodIn_app (goodIn_of _ (by decide +kernel)) ggX7_where_X5_position
theorem dX7_where_0 : decode cX7_where 0 = .ok (.iload_n 1, 1) := by decide +kernel
theorem dX7_where_1 : decode cX7_where 1 = .ok (.iconst 0, 1) := by decide +kernel
theorem dX7_where_2 : decode cX7_where 2 = .ok (.aload_n 0, 1) := by decide +kernel
theorem dX7_where_3 : decode cX7_where 3 = .ok (.getfield 21, 3) := by decide +kernel
theorem dX7_where_6 : decode cX7_where 6 = .ok (.invokevirtual 134, 3) := by decide +kernel
theorem dX7_where_9 : decode cX7_where 9 = .ok (.invokestatic 107, 3) := by decide +kernel
theorem dX7_where_12 : decode cX7_where 12 = .ok (.ifCond .eq 10, 3) := by decide +kernel
theorem dX7_where_15 : decode cX7_where 15 = .ok (.iload_n 2, 1) := by decide +kernel
theorem dX7_where_16 : decode cX7_where 16 = .ok (.invokestatic 137, 3) := by decide +kernel
theorem dX7_where_19 : decode cX7_where 19 = .ok (.ifCond .ne 5, 3) := by decide +kernel
theorem dX7_where_22 : decode cX7_where 22 = .ok (.iconst (-1), 1) := by decide +kernel
theorem dX7_where_23 : decode cX7_where 23 = .ok (.ireturn, 1) := by decide +kernel
theorem dX7_where_24 : decode cX7_where 24 = .ok (.aload_n 0, 1) := by decide +kernel
theorem dX7_where_25 : decode cX7_where 25 = .ok (.aload_n 0, 1) := by decide +kernel
theorem dX7_where_26 : decode cX7_where 26 = .ok (.getfield 21, 3) := by decide +kernel
theorem dX7_where_29 : decode cX7_where 29 = .ok (.iload_n 1, 1) := by decide +kernel
theorem dX7_where_30 : decode cX7_where 30 = .ok (.iload_n 2, 1) := by decide +kernel
theorem dX7_where_31 : decode cX7_where 31 = .ok (.invokevirtual 140, 3) := by decide +kernel
theorem dX7_where_34 : decode cX7_where 34 = .ok (.putfield 70, 3) := by decide +kernel
theorem dX7_where_37 : decode cX7_where 37 = .ok (.iconst 1, 1) := by decide +kernel
theorem dX7_where_38 : decode cX7_where 38 = .ok (.ireturn, 1) := by decide +kernel
set_option maxRecDepth 20000 in
theorem ggX7_grown_X7_isStep : GoodIn wsX7_grown wsX7_isStep := goodIn_r _ [6, 7, 8, 5, 9] (by decide +kernel) (by decide +kernel)
set_option maxRecDepth 20000 in
theorem gX7_grown_X7_isStep : GoodIn wsX7_grown (va_wsS RX7 143 yX7_isStep wsX7_isStep) := goodIn_app (goodIn_of _ (by decide +kernel)) ggX7_grown_X7_isStep
set_option maxRecDepth 20000 in
theorem ggX7_grown_X7_isAxis : GoodIn wsX7_grown wsX7_isAxis := goodIn_r _ [12, 7, 8, 5, 9] (by decide +kernel) (by decide +kernel)
set_option maxRecDepth 20000 in
theorem gX7_grown_X7_isAxis : GoodIn wsX7_grown (va_wsS RX7 137 yX7_isAxis wsX7_isAxis) := goodIn_app (goodIn_of _ (by decide +kernel)) ggX7_grown_X7_isAxis
set_option maxRecDepth 20000 in
theorem ggX7_grown_X5_length : GoodIn wsX7_grown wsX5_length := goodIn_r _ [17, 18, 62, 63, 64, 65, 66, 67, 68] (by decide +kernel) (by decide +kernel)
set_option maxRecDepth 20000 in
theorem gX7_grown_X5_length : GoodIn wsX7_grown (wsV RX7 134 RX5 yX5_length wsX5_length) := goodIn_app (goodIn_of _ (by decide +kernel)) ggX7_grown_X5_length
set_option maxRecDepth 20000 in
theorem ggX7_grown_X5_growth : GoodIn wsX7_grown wsX5_growth := goodIn_r _ [22, 23, 24, 25, 26, 27, 28, 29, 16, 30, 31, 32, 33, 34, 35, 36, 37, 38, 39, 40, 41, 42, 43, 44, 45, 46, 47, 48, 49, 50, 51, 62, 63, 64, 65, 66, 67, 68, 69, 70, 71] (by decide +kernel) (by decide +kernel)
set_option maxRecDepth 20000 in
theorem gX7_grown_X5_growth : GoodIn wsX7_grown (wsV RX7 146 RX5 yX5_growth wsX5_growth) := goodIn_app (goodIn_of _ (by decide +kernel)) ggX7_grown_X5_growth
theorem dX7_grown_0 : decode cX7_grown 0 = .ok (.iload_n 1, 1) := by decide +kernel
theorem dX7_grown_1 : decode cX7_grown 1 = .ok (.invokestatic 143, 3) := by decide +kernel
theorem dX7_grown_4 : decode cX7_grown 4 = .ok (.ifCond .eq 10, 3) := by decide +kernel
theorem dX7_grown_7 : decode cX7_grown 7 = .ok (.iload_n 2, 1) := by decide +kernel
theorem dX7_grown_8 : decode cX7_grown 8 = .ok (.invokestatic 137, 3) := by decide +kernel
theorem dX7_grown_11 : decode cX7_grown 11 = .ok (.ifCond .ne 5, 3) := by decide +kernel
theorem dX7_grown_14 : decode cX7_grown 14 = .ok (.iconst (-1), 1) := by decide +kernel
theorem dX7_grown_15 : decode cX7_grown 15 = .ok (.ireturn, 1) := by decide +kernel
theorem dX7_grown_16 : decode cX7_grown 16 = .ok (.aload_n 0, 1) := by decide +kernel
theorem dX7_grown_17 : decode cX7_grown 17 = .ok (.aload_n 0, 1) := by decide +kernel
theorem dX7_grown_18 : decode cX7_grown 18 = .ok (.getfield 21, 3) := by decide +kernel
theorem dX7_grown_21 : decode cX7_grown 21 = .ok (.aload_n 0, 1) := by decide +kernel
theorem dX7_grown_22 : decode cX7_grown 22 = .ok (.getfield 21, 3) := by decide +kernel
theorem dX7_grown_25 : decode cX7_grown 25 = .ok (.invokevirtual 134, 3) := by decide +kernel
theorem dX7_grown_28 : decode cX7_grown 28 = .ok (.iload_n 1, 1) := by decide +kernel
theorem dX7_grown_29 : decode cX7_grown 29 = .ok (.iload_n 2, 1) := by decide +kernel
theorem dX7_grown_30 : decode cX7_grown 30 = .ok (.invokevirtual 146, 3) := by decide +kernel
theorem dX7_grown_33 : decode cX7_grown 33 = .ok (.putfield 70, 3) := by decide +kernel
theorem dX7_grown_36 : decode cX7_grown 36 = .ok (.iconst 1, 1) := by decide +kernel
theorem dX7_grown_37 : decode cX7_grown 37 = .ok (.ireturn, 1) := by decide +kernel
set_option maxRecDepth 20000 in
theorem ggX7_move_X5_length : GoodIn wsX7_move wsX5_length := goodIn_r _ [7, 8, 59, 60, 61, 62, 63, 64, 65] (by decide +kernel) (by decide +kernel)
set_option maxRecDepth 20000 in
theorem gX7_move_X5_length : GoodIn wsX7_move (wsV RX7 134 RX5 yX5_length wsX5_length) := goodIn_app (goodIn_of _ (by decide +kernel)) ggX7_move_X5_length
set_option maxRecDepth 20000 in
theorem ggX7_move_X7_isWithin : GoodIn wsX7_move wsX7_isWithin := goodIn_r _ [12] (by decide +kernel) (by decide +kernel)
set_option maxRecDepth 20000 in
theorem gX7_move_X7_isWithin : GoodIn wsX7_move (va_wsS RX7 107 yX7_isWithin wsX7_isWithin) := goodIn_app (goodIn_of _ (by decide +kernel)) ggX7_move_X7_isWithin
set_option maxRecDepth 20000 in
theorem ggX7_move_X7_isStep : GoodIn wsX7_move wsX7_isStep := goodIn_r _ [15, 9, 10, 11, 12] (by decide +kernel) (by decide +kernel)
set_option maxRecDepth 20000 in
theorem gX7_move_X7_isStep : GoodIn wsX7_move (va_wsS RX7 143 yX7_isStep wsX7_isStep) := goodIn_app (goodIn_of _ (by decide +kernel)) ggX7_move_X7_isStep
set_option maxRecDepth 20000 in
theorem ggX7_move_X5_growth : GoodIn wsX7_move wsX5_growth := goodIn_r _ [19, 20, 21, 22, 23, 24, 25, 26, 6, 27, 28, 29, 30, 31, 32, 33, 34, 35, 36, 37, 38, 39, 40, 41, 42, 43, 44, 45, 46, 47, 48, 59, 60, 61, 62, 63, 64, 65, 66, 67, 68] (by decide +kernel) (by decide +kernel)
set_option maxRecDepth 20000 in
theorem gX7_move_X5_growth : GoodIn wsX7_move (wsV RX7 146 RX5 yX5_growth wsX5_growth) := goodIn_app (goodIn_of _ (by decide +kernel)) ggX7_move_X5_growth
theorem dX7_move_0 : decode cX7_move 0 = .ok (.iload_n 1, 1) := by decide +kernel
theorem dX7_move_1 : decode cX7_move 1 = .ok (.iconst 0, 1) := by decide +kernel
theorem dX7_move_2 : decode cX7_move 2 = .ok (.aload_n 0, 1) := by decide +kernel
theorem dX7_move_3 : decode cX7_move 3 = .ok (.getfield 21, 3) := by decide +kernel
theorem dX7_move_6 : decode cX7_move 6 = .ok (.invokevirtual 134, 3) := by decide +kernel
theorem dX7_move_9 : decode cX7_move 9 = .ok (.invokestatic 107, 3) := by decide +kernel
theorem dX7_move_12 : decode cX7_move 12 = .ok (.ifCond .eq 10, 3) := by decide +kernel
theorem dX7_move_15 : decode cX7_move 15 = .ok (.iload_n 2, 1) := by decide +kernel
theorem dX7_move_16 : decode cX7_move 16 = .ok (.invokestatic 143, 3) := by decide +kernel
theorem dX7_move_19 : decode cX7_move 19 = .ok (.ifCond .ne 5, 3) := by decide +kernel
theorem dX7_move_22 : decode cX7_move 22 = .ok (.iconst (-1), 1) := by decide +kernel
theorem dX7_move_23 : decode cX7_move 23 = .ok (.ireturn, 1) := by decide +kernel
theorem dX7_move_24 : decode cX7_move 24 = .ok (.aload_n 0, 1) := by decide +kernel
theorem dX7_move_25 : decode cX7_move 25 = .ok (.aload_n 0, 1) := by decide +kernel
theorem dX7_move_26 : decode cX7_move 26 = .ok (.getfield 21, 3) := by decide +kernel
theorem dX7_move_29 : decode cX7_move 29 = .ok (.iload_n 1, 1) := by decide +kernel
theorem dX7_move_30 : decode cX7_move 30 = .ok (.iload_n 2, 1) := by decide +kernel
theorem dX7_move_31 : decode cX7_move 31 = .ok (.iconst 2, 1) := by decide +kernel
theorem dX7_move_32 : decode cX7_move 32 = .ok (.invokevirtual 146, 3) := by decide +kernel
theorem dX7_move_35 : decode cX7_move 35 = .ok (.putfield 70, 3) := by decide +kernel
theorem dX7_move_38 : decode cX7_move 38 = .ok (.iconst 1, 1) := by decide +kernel
theorem dX7_move_39 : decode cX7_move 39 = .ok (.ireturn, 1) := by decide +kernel
set_option maxRecDepth 20000 in
theorem ggX7_soft_X7_isStep : GoodIn wsX7_soft wsX7_isStep := goodIn_r _ [6, 7, 8, 5, 9] (by decide +kernel) (by decide +kernel)
set_option maxRecDepth 20000 in
theorem gX7_soft_X7_isStep : GoodIn wsX7_soft (va_wsS RX7 143 yX7_isStep wsX7_isStep) := goodIn_app (goodIn_of _ (by decide +kernel)) ggX7_soft_X7_isStep
set_option maxRecDepth 20000 in
theorem ggX7_soft_X7_isThickness : GoodIn wsX7_soft wsX7_isThickness := goodIn_r _ [12, 7, 8, 5, 9] (by decide +kernel) (by decide +kernel)
set_option maxRecDepth 20000 in
theorem gX7_soft_X7_isThickness : GoodIn wsX7_soft (va_wsS RX7 150 yX7_isThickness wsX7_isThickness) := goodIn_app (goodIn_of _ (by decide +kernel)) ggX7_soft_X7_isThickness
set_option maxRecDepth 20000 in
theorem ggX7_soft_X5_legs : GoodIn wsX7_soft wsX5_legs := goodIn_r _ [17, 18, 73, 74, 75, 76, 77, 78, 79] (by decide +kernel) (by decide +kernel)
set_option maxRecDepth 20000 in
theorem gX7_soft_X5_legs : GoodIn wsX7_soft (wsV RX7 123 RX5 yX5_legs wsX5_legs) := goodIn_app (goodIn_of _ (by decide +kernel)) ggX7_soft_X5_legs
set_option maxRecDepth 20000 in
theorem ggX7_soft_X5_spare : GoodIn wsX7_soft wsX5_spare := goodIn_r _ [22, 23, 24, 25, 26, 16, 27, 18, 28, 29, 30, 31, 32, 33, 34, 35, 36, 37, 38, 39, 40, 41, 42, 43, 44, 45, 46, 47, 48, 49, 50, 51, 52, 53, 54, 55, 56, 57, 58, 59, 60, 61, 62, 73, 74, 75, 76, 77, 78, 79, 80, 81, 82] (by decide +kernel) (by decide +kernel)
set_option maxRecDepth 20000 in
theorem gX7_soft_X5_spare : GoodIn wsX7_soft (wsV RX7 153 RX5 yX5_spare wsX5_spare) := goodIn_app (goodIn_of _ (by decide +kernel)) ggX7_soft_X5_spare
theorem dX7_soft_0 : decode cX7_soft 0 = .ok (.iload_n 1, 1) := by decide +kernel
theorem dX7_soft_1 : decode cX7_soft 1 = .ok (.invokestatic 143, 3) := by decide +kernel
theorem dX7_soft_4 : decode cX7_soft 4 = .ok (.ifCond .eq 10, 3) := by decide +kernel
theorem dX7_soft_7 : decode cX7_soft 7 = .ok (.iload_n 2, 1) := by decide +kernel
theorem dX7_soft_8 : decode cX7_soft 8 = .ok (.invokestatic 150, 3) := by decide +kernel
theorem dX7_soft_11 : decode cX7_soft 11 = .ok (.ifCond .ne 5, 3) := by decide +kernel
theorem dX7_soft_14 : decode cX7_soft 14 = .ok (.iconst (-1), 1) := by decide +kernel
theorem dX7_soft_15 : decode cX7_soft 15 = .ok (.ireturn, 1) := by decide +kernel
theorem dX7_soft_16 : decode cX7_soft 16 = .ok (.aload_n 0, 1) := by decide +kernel
theorem dX7_soft_17 : decode cX7_soft 17 = .ok (.getfield 21, 3) := by decide +kernel
theorem dX7_soft_20 : decode cX7_soft 20 = .ok (.invokevirtual 123, 3) := by decide +kernel
theorem dX7_soft_23 : decode cX7_soft 23 = .ok (.ifCond .ne 6, 3) := by decide +kernel
theorem dX7_soft_26 : decode cX7_soft 26 = .ok (.bipush (-4), 2) := by decide +kernel
theorem dX7_soft_28 : decode cX7_soft 28 = .ok (.ireturn, 1) := by decide +kernel
theorem dX7_soft_29 : decode cX7_soft 29 = .ok (.aload_n 0, 1) := by decide +kernel
theorem dX7_soft_30 : decode cX7_soft 30 = .ok (.aload_n 0, 1) := by decide +kernel
theorem dX7_soft_31 : decode cX7_soft 31 = .ok (.getfield 21, 3) := by decide +kernel
theorem dX7_soft_34 : decode cX7_soft 34 = .ok (.iload_n 1, 1) := by decide +kernel
theorem dX7_soft_35 : decode cX7_soft 35 = .ok (.iload_n 2, 1) := by decide +kernel
theorem dX7_soft_36 : decode cX7_soft 36 = .ok (.iconst 0, 1) := by decide +kernel
theorem dX7_soft_37 : decode cX7_soft 37 = .ok (.invokevirtual 153, 3) := by decide +kernel
theorem dX7_soft_40 : decode cX7_soft 40 = .ok (.putfield 70, 3) := by decide +kernel
theorem dX7_soft_43 : decode cX7_soft 43 = .ok (.aload_n 0, 1) := by decide +kernel
theorem dX7_soft_44 : decode cX7_soft 44 = .ok (.getfield 70, 3) := by decide +kernel
theorem dX7_soft_47 : decode cX7_soft 47 = .ok (.ifCond .lt 7, 3) := by decide +kernel
theorem dX7_soft_50 : decode cX7_soft 50 = .ok (.iconst 1, 1) := by decide +kernel
theorem dX7_soft_51 : decode cX7_soft 51 = .ok (.goto 4, 3) := by decide +kernel
theorem dX7_soft_54 : decode cX7_soft 54 = .ok (.iconst 0, 1) := by decide +kernel
theorem dX7_soft_55 : decode cX7_soft 55 = .ok (.ireturn, 1) := by decide +kernel
set_option maxRecDepth 20000 in
theorem ggX7_loop_X5_legs : GoodIn wsX7_loop wsX5_legs := goodIn_r _ [6, 7, 105, 106, 107, 108, 109, 110, 111] (by decide +kernel) (by decide +kernel)
set_option maxRecDepth 20000 in
theorem gX7_loop_X5_legs : GoodIn wsX7_loop (wsV RX7 123 RX5 yX5_legs wsX5_legs) := goodIn_app (goodIn_of _ (by decide +kernel)) ggX7_loop_X5_legs
set_option maxRecDepth 20000 in
theorem ggX7_loop_X7_isWithin : GoodIn wsX7_loop wsX7_isWithin := goodIn_r _ [11] (by decide +kernel) (by decide +kernel)
set_option maxRecDepth 20000 in
theorem gX7_loop_X7_isWithin : GoodIn wsX7_loop (va_wsS RX7 107 yX7_isWithin wsX7_isWithin) := goodIn_app (goodIn_of _ (by decide +kernel)) ggX7_loop_X7_isWithin
set_option maxRecDepth 20000 in
theorem ggX7_loop_X7_isWay : GoodIn wsX7_loop wsX7_isWay := goodIn_r _ [14, 8, 9, 10, 11] (by decide +kernel) (by decide +kernel)
set_option maxRecDepth 20000 in
theorem gX7_loop_X7_isWay : GoodIn wsX7_loop (va_wsS RX7 120 yX7_isWay wsX7_isWay) := goodIn_app (goodIn_of _ (by decide +kernel)) ggX7_loop_X7_isWay
set_option maxRecDepth 20000 in
theorem ggX7_loop_X7_isStep : GoodIn wsX7_loop wsX7_isStep := goodIn_r _ [17, 8, 9, 10, 11] (by decide +kernel) (by decide +kernel)
set_option maxRecDepth 20000 in
theorem gX7_loop_X7_isStep : GoodIn wsX7_loop (va_wsS RX7 143 yX7_isStep wsX7_isStep) := goodIn_app (goodIn_of _ (by decide +kernel)) ggX7_loop_X7_isStep
set_option maxRecDepth 20000 in
theorem ggX7_loop_X7_isThickness : GoodIn wsX7_loop wsX7_isThickness := goodIn_r _ [20, 8, 9, 10, 11] (by decide +kernel) (by decide +kernel)
set_option maxRecDepth 20000 in
theorem gX7_loop_X7_isThickness : GoodIn wsX7_loop (va_wsS RX7 150 yX7_isThickness wsX7_isThickness) := goodIn_app (goodIn_of _ (by decide +kernel)) ggX7_loop_X7_isThickness
set_option maxRecDepth 20000 in
theorem ggX7_loop_X5_isAcross : GoodIn wsX7_loop wsX5_isAcross := goodIn_r _ [24, 25, 26, 27, 5, 28, 105, 106, 107, 108, 109, 110, 111] (by decide +kernel) (by decide +kernel)
set_option maxRecDepth 20000 in
theorem gX7_loop_X5_isAcross : GoodIn wsX7_loop (wsV RX7 156 RX5 yX5_isAcross wsX5_isAcross) := goodIn_app (goodIn_of _ (by decide +kernel)) ggX7_loop_X5_isAcross
set_option maxRecDepth 20000 in
theorem ggX7_loop_X5_unitsOf : GoodIn wsX7_loop wsX5_unitsOf := goodIn_r _ [32, 33, 105, 106, 107, 108, 109, 110, 111] (by decide +kernel) (by decide +kernel)
set_option maxRecDepth 20000 in
theorem gX7_loop_X5_unitsOf : GoodIn wsX7_loop (wsV RX7 160 RX5 yX5_unitsOf wsX5_unitsOf) := goodIn_app (goodIn_of _ (by decide +kernel)) ggX7_loop_X5_unitsOf
set_option maxRecDepth 20000 in
theorem ggX7_loop_X5_firstSoft : GoodIn wsX7_loop wsX5_firstSoft := goodIn_r _ [37, 38, 39, 40, 5, 41, 42, 43, 44, 45, 46, 7, 25, 47, 48, 33, 26, 27, 28, 49, 50, 51, 52, 53, 54, 55, 56, 57, 58, 59, 60, 61, 62, 63, 64, 65, 66, 67, 68, 69, 70, 71, 72, 73, 74, 75, 76, 105, 106, 107, 108, 109, 110, 111, 112, 113, 114] (by decide +kernel) (by decide +kernel)
set_option maxRecDepth 20000 in
theorem gX7_loop_X5_firstSoft : GoodIn wsX7_loop (wsV RX7 163 RX5 yX5_firstSoft wsX5_firstSoft) := goodIn_app (goodIn_of _ (by decide +kernel)) ggX7_loop_X5_firstSoft
set_option maxRecDepth 20000 in
theorem ggX7_loop_X5_leastLoop : GoodIn wsX7_loop wsX5_leastLoop := goodIn_r _ [80, 33, 81, 22, 23, 5, 24, 25, 26, 27, 28, 82, 83, 84, 85, 7, 86, 87, 88, 89, 90, 70, 71, 72, 73, 49, 50, 51, 59, 60, 61, 62, 63, 64, 65, 66, 67, 68, 69, 91, 92, 93, 94, 105, 106, 107, 108, 109, 110, 111] (by decide +kernel) (by decide +kernel)
set_option maxRecDepth 20000 in
theorem gX7_loop_X5_leastLoop : GoodIn wsX7_loop (wsV RX7 166 RX5 yX5_leastLoop wsX5_leastLoop) := goodIn_app (goodIn_of _ (by decide +kernel)) ggX7_loop_X5_leastLoop
theorem dX7_loop_0 : decode cX7_loop 0 = .ok (.iload_n 1, 1) := by decide +kernel
theorem dX7_loop_1 : decode cX7_loop 1 = .ok (.iconst 0, 1) := by decide +kernel
theorem dX7_loop_2 : decode cX7_loop 2 = .ok (.aload_n 0, 1) := by decide +kernel
theorem dX7_loop_3 : decode cX7_loop 3 = .ok (.getfield 21, 3) := by decide +kernel
theorem dX7_loop_6 : decode cX7_loop 6 = .ok (.invokevirtual 123, 3) := by decide +kernel
theorem dX7_loop_9 : decode cX7_loop 9 = .ok (.iconst 1, 1) := by decide +kernel
theorem dX7_loop_10 : decode cX7_loop 10 = .ok (.isub, 1) := by decide +kernel
theorem dX7_loop_11 : decode cX7_loop 11 = .ok (.invokestatic 107, 3) := by decide +kernel
theorem dX7_loop_14 : decode cX7_loop 14 = .ok (.ifCond .eq 25, 3) := by decide +kernel
theorem dX7_loop_17 : decode cX7_loop 17 = .ok (.iload_n 2, 1) := by decide +kernel
theorem dX7_loop_18 : decode cX7_loop 18 = .ok (.invokestatic 120, 3) := by decide +kernel
theorem dX7_loop_21 : decode cX7_loop 21 = .ok (.ifCond .eq 18, 3) := by decide +kernel
theorem dX7_loop_24 : decode cX7_loop 24 = .ok (.iload_n 3, 1) := by decide +kernel
theorem dX7_loop_25 : decode cX7_loop 25 = .ok (.invokestatic 143, 3) := by decide +kernel
theorem dX7_loop_28 : decode cX7_loop 28 = .ok (.ifCond .eq 11, 3) := by decide +kernel
theorem dX7_loop_31 : decode cX7_loop 31 = .ok (.iload 4, 2) := by decide +kernel
theorem dX7_loop_33 : decode cX7_loop 33 = .ok (.invokestatic 150, 3) := by decide +kernel
theorem dX7_loop_36 : decode cX7_loop 36 = .ok (.ifCond .ne 5, 3) := by decide +kernel
theorem dX7_loop_39 : decode cX7_loop 39 = .ok (.iconst (-1), 1) := by decide +kernel
theorem dX7_loop_40 : decode cX7_loop 40 = .ok (.ireturn, 1) := by decide +kernel
theorem dX7_loop_41 : decode cX7_loop 41 = .ok (.aload_n 0, 1) := by decide +kernel
theorem dX7_loop_42 : decode cX7_loop 42 = .ok (.getfield 21, 3) := by decide +kernel
theorem dX7_loop_45 : decode cX7_loop 45 = .ok (.iload_n 1, 1) := by decide +kernel
theorem dX7_loop_46 : decode cX7_loop 46 = .ok (.iload_n 2, 1) := by decide +kernel
theorem dX7_loop_47 : decode cX7_loop 47 = .ok (.invokevirtual 156, 3) := by decide +kernel
theorem dX7_loop_50 : decode cX7_loop 50 = .ok (.ifCond .ne 5, 3) := by decide +kernel
theorem dX7_loop_53 : decode cX7_loop 53 = .ok (.iconst (-1), 1) := by decide +kernel
theorem dX7_loop_54 : decode cX7_loop 54 = .ok (.ireturn, 1) := by decide +kernel
theorem dX7_loop_55 : decode cX7_loop 55 = .ok (.aload_n 0, 1) := by decide +kernel
theorem dX7_loop_56 : decode cX7_loop 56 = .ok (.getfield 21, 3) := by decide +kernel
theorem dX7_loop_59 : decode cX7_loop 59 = .ok (.iload_n 1, 1) := by decide +kernel
theorem dX7_loop_60 : decode cX7_loop 60 = .ok (.invokevirtual 160, 3) := by decide +kernel
theorem dX7_loop_63 : decode cX7_loop 63 = .ok (.iconst 3, 1) := by decide +kernel
theorem dX7_loop_64 : decode cX7_loop 64 = .ok (.if_icmp .ge 6, 3) := by decide +kernel
theorem dX7_loop_67 : decode cX7_loop 67 = .ok (.bipush (-4), 2) := by decide +kernel
theorem dX7_loop_69 : decode cX7_loop 69 = .ok (.ireturn, 1) := by decide +kernel
theorem dX7_loop_70 : decode cX7_loop 70 = .ok (.aload_n 0, 1) := by decide +kernel
theorem dX7_loop_71 : decode cX7_loop 71 = .ok (.getfield 21, 3) := by decide +kernel
theorem dX7_loop_74 : decode cX7_loop 74 = .ok (.iload_n 1, 1) := by decide +kernel
theorem dX7_loop_75 : decode cX7_loop 75 = .ok (.iload_n 2, 1) := by decide +kernel
theorem dX7_loop_76 : decode cX7_loop 76 = .ok (.aload_n 0, 1) := by decide +kernel
theorem dX7_loop_77 : decode cX7_loop 77 = .ok (.getfield 21, 3) := by decide +kernel
theorem dX7_loop_80 : decode cX7_loop 80 = .ok (.iload_n 3, 1) := by decide +kernel
theorem dX7_loop_81 : decode cX7_loop 81 = .ok (.iload 4, 2) := by decide +kernel
theorem dX7_loop_83 : decode cX7_loop 83 = .ok (.invokevirtual 163, 3) := by decide +kernel
theorem dX7_loop_86 : decode cX7_loop 86 = .ok (.invokevirtual 166, 3) := by decide +kernel
theorem dX7_loop_89 : decode cX7_loop 89 = .ok (.ireturn, 1) := by decide +kernel
set_option maxRecDepth 20000 in
theorem ggX7_bestLoop_X7_isStep : GoodIn wsX7_bestLoop wsX7_isStep := goodIn_r _ [6, 7, 8, 5, 9] (by decide +kernel) (by decide +kernel)
set_option maxRecDepth 20000 in
theorem gX7_bestLoop_X7_isStep : GoodIn wsX7_bestLoop (va_wsS RX7 143 yX7_isStep wsX7_isStep) := goodIn_app (goodIn_of _ (by decide +kernel)) ggX7_bestLoop_X7_isStep
set_option maxRecDepth 20000 in
theorem ggX7_bestLoop_X7_isThickness : GoodIn wsX7_bestLoop wsX7_isThickness := goodIn_r _ [12, 7, 8, 5, 9] (by decide +kernel) (by decide +kernel)
set_option maxRecDepth 20000 in
theorem gX7_bestLoop_X7_isThickness : GoodIn wsX7_bestLoop (va_wsS RX7 150 yX7_isThickness wsX7_isThickness) := goodIn_app (goodIn_of _ (by decide +kernel)) ggX7_bestLoop_X7_isThickness
set_option maxRecDepth 20000 in
theorem ggX7_bestLoop_X5_legs : GoodIn wsX7_bestLoop wsX5_legs := goodIn_r _ [17, 18, 98, 99, 100, 101, 102, 103, 104] (by decide +kernel) (by decide +kernel)
set_option maxRecDepth 20000 in
theorem gX7_bestLoop_X5_legs : GoodIn wsX7_bestLoop (wsV RX7 123 RX5 yX5_legs wsX5_legs) := goodIn_app (goodIn_of _ (by decide +kernel)) ggX7_bestLoop_X5_legs
set_option maxRecDepth 20000 in
theorem ggX7_bestLoop_X5_firstSoft : GoodIn wsX7_bestLoop wsX5_firstSoft := goodIn_r _ [22, 23, 24, 25, 16, 26, 27, 28, 29, 30, 31, 18, 32, 33, 34, 35, 36, 37, 38, 39, 40, 41, 42, 43, 44, 45, 46, 47, 48, 49, 50, 51, 52, 53, 54, 55, 56, 57, 58, 59, 60, 61, 62, 63, 64, 65, 66, 98, 99, 100, 101, 102, 103, 104, 105, 106, 107] (by decide +kernel) (by decide +kernel)
set_option maxRecDepth 20000 in
theorem gX7_bestLoop_X5_firstSoft : GoodIn wsX7_bestLoop (wsV RX7 163 RX5 yX5_firstSoft wsX5_firstSoft) := goodIn_app (goodIn_of _ (by decide +kernel)) ggX7_bestLoop_X5_firstSoft
set_option maxRecDepth 20000 in
theorem ggX7_bestLoop_X5_leastLoop : GoodIn wsX7_bestLoop wsX5_leastLoop := goodIn_r _ [70, 35, 71, 72, 73, 16, 74, 32, 36, 37, 38, 75, 76, 77, 78, 18, 79, 80, 81, 82, 83, 60, 61, 62, 63, 39, 40, 41, 49, 50, 51, 52, 53, 54, 55, 56, 57, 58, 59, 84, 85, 86, 87, 98, 99, 100, 101, 102, 103, 104] (by decide +kernel) (by decide +kernel)
set_option maxRecDepth 20000 in
theorem gX7_bestLoop_X5_leastLoop : GoodIn wsX7_bestLoop (wsV RX7 166 RX5 yX5_leastLoop wsX5_leastLoop) := goodIn_app (goodIn_of _ (by decide +kernel)) ggX7_bestLoop_X5_leastLoop
theorem dX7_bestLoop_0 : decode cX7_bestLoop 0 = .ok (.iload_n 1, 1) := by decide +kernel
theorem dX7_bestLoop_1 : decode cX7_bestLoop 1 = .ok (.invokestatic 143, 3) := by decide +kernel
theorem dX7_bestLoop_4 : decode cX7_bestLoop 4 = .ok (.ifCond .eq 10, 3) := by decide +kernel
theorem dX7_bestLoop_7 : decode cX7_bestLoop 7 = .ok (.iload_n 2, 1) := by decide +kernel
theorem dX7_bestLoop_8 : decode cX7_bestLoop 8 = .ok (.invokestatic 150, 3) := by decide +kernel
theorem dX7_bestLoop_11 : decode cX7_bestLoop 11 = .ok (.ifCond .ne 5, 3) := by decide +kernel
theorem dX7_bestLoop_14 : decode cX7_bestLoop 14 = .ok (.iconst (-1), 1) := by decide +kernel
theorem dX7_bestLoop_15 : decode cX7_bestLoop 15 = .ok (.ireturn, 1) := by decide +kernel
theorem dX7_bestLoop_16 : decode cX7_bestLoop 16 = .ok (.aload_n 0, 1) := by decide +kernel
theorem dX7_bestLoop_17 : decode cX7_bestLoop 17 = .ok (.getfield 21, 3) := by decide +kernel
theorem dX7_bestLoop_20 : decode cX7_bestLoop 20 = .ok (.invokevirtual 123, 3) := by decide +kernel
theorem dX7_bestLoop_23 : decode cX7_bestLoop 23 = .ok (.ifCond .ne 6, 3) := by decide +kernel
theorem dX7_bestLoop_26 : decode cX7_bestLoop 26 = .ok (.bipush (-4), 2) := by decide +kernel
theorem dX7_bestLoop_28 : decode cX7_bestLoop 28 = .ok (.ireturn, 1) := by decide +kernel
theorem dX7_bestLoop_29 : decode cX7_bestLoop 29 = .ok (.aload_n 0, 1) := by decide +kernel
theorem dX7_bestLoop_30 : decode cX7_bestLoop 30 = .ok (.getfield 21, 3) := by decide +kernel
theorem dX7_bestLoop_33 : decode cX7_bestLoop 33 = .ok (.iload_n 1, 1) := by decide +kernel
theorem dX7_bestLoop_34 : decode cX7_bestLoop 34 = .ok (.iload_n 2, 1) := by decide +kernel
theorem dX7_bestLoop_35 : decode cX7_bestLoop 35 = .ok (.invokevirtual 163, 3) := by decide +kernel
theorem dX7_bestLoop_38 : decode cX7_bestLoop 38 = .ok (.istore_n 3, 1) := by decide +kernel
theorem dX7_bestLoop_39 : decode cX7_bestLoop 39 = .ok (.bipush (-9), 2) := by decide +kernel
theorem dX7_bestLoop_41 : decode cX7_bestLoop 41 = .ok (.istore 4, 2) := by decide +kernel
theorem dX7_bestLoop_43 : decode cX7_bestLoop 43 = .ok (.iconst 0, 1) := by decide +kernel
theorem dX7_bestLoop_44 : decode cX7_bestLoop 44 = .ok (.istore 5, 2) := by decide +kernel
theorem dX7_bestLoop_46 : decode cX7_bestLoop 46 = .ok (.bipush 21, 2) := by decide +kernel
theorem dX7_bestLoop_48 : decode cX7_bestLoop 48 = .ok (.istore 6, 2) := by decide +kernel
theorem dX7_bestLoop_50 : decode cX7_bestLoop 50 = .ok (.iconst 0, 1) := by decide +kernel
theorem dX7_bestLoop_51 : decode cX7_bestLoop 51 = .ok (.istore 7, 2) := by decide +kernel
theorem dX7_bestLoop_53 : decode cX7_bestLoop 53 = .ok (.iload 7, 2) := by decide +kernel
theorem dX7_bestLoop_55 : decode cX7_bestLoop 55 = .ok (.aload_n 0, 1) := by decide +kernel
theorem dX7_bestLoop_56 : decode cX7_bestLoop 56 = .ok (.getfield 21, 3) := by decide +kernel
theorem dX7_bestLoop_59 : decode cX7_bestLoop 59 = .ok (.invokevirtual 123, 3) := by decide +kernel
theorem dX7_bestLoop_62 : decode cX7_bestLoop 62 = .ok (.if_icmp .ge 65, 3) := by decide +kernel
theorem dX7_bestLoop_65 : decode cX7_bestLoop 65 = .ok (.iconst 0, 1) := by decide +kernel
theorem dX7_bestLoop_66 : decode cX7_bestLoop 66 = .ok (.istore 8, 2) := by decide +kernel
theorem dX7_bestLoop_68 : decode cX7_bestLoop 68 = .ok (.iload 8, 2) := by decide +kernel
theorem dX7_bestLoop_70 : decode cX7_bestLoop 70 = .ok (.bipush 6, 2) := by decide +kernel
theorem dX7_bestLoop_72 : decode cX7_bestLoop 72 = .ok (.if_icmp .ge 49, 3) := by decide +kernel
theorem dX7_bestLoop_75 : decode cX7_bestLoop 75 = .ok (.aload_n 0, 1) := by decide +kernel
theorem dX7_bestLoop_76 : decode cX7_bestLoop 76 = .ok (.getfield 21, 3) := by decide +kernel
theorem dX7_bestLoop_79 : decode cX7_bestLoop 79 = .ok (.iload 7, 2) := by decide +kernel
theorem dX7_bestLoop_81 : decode cX7_bestLoop 81 = .ok (.iload 8, 2) := by decide +kernel
theorem dX7_bestLoop_83 : decode cX7_bestLoop 83 = .ok (.iload_n 3, 1) := by decide +kernel
theorem dX7_bestLoop_84 : decode cX7_bestLoop 84 = .ok (.invokevirtual 166, 3) := by decide +kernel
theorem dX7_bestLoop_87 : decode cX7_bestLoop 87 = .ok (.istore 9, 2) := by decide +kernel
theorem dX7_bestLoop_89 : decode cX7_bestLoop 89 = .ok (.iload 9, 2) := by decide +kernel
theorem dX7_bestLoop_91 : decode cX7_bestLoop 91 = .ok (.bipush (-9), 2) := by decide +kernel
theorem dX7_bestLoop_93 : decode cX7_bestLoop 93 = .ok (.if_icmp .eq 22, 3) := by decide +kernel
theorem dX7_bestLoop_96 : decode cX7_bestLoop 96 = .ok (.iload 9, 2) := by decide +kernel
theorem dX7_bestLoop_98 : decode cX7_bestLoop 98 = .ok (.iload 6, 2) := by decide +kernel
theorem dX7_bestLoop_100 : decode cX7_bestLoop 100 = .ok (.if_icmp .ge 15, 3) := by decide +kernel
theorem dX7_bestLoop_103 : decode cX7_bestLoop 103 = .ok (.iload 7, 2) := by decide +kernel
theorem dX7_bestLoop_105 : decode cX7_bestLoop 105 = .ok (.istore 4, 2) := by decide +kernel
theorem dX7_bestLoop_107 : decode cX7_bestLoop 107 = .ok (.iload 8, 2) := by decide +kernel
theorem dX7_bestLoop_109 : decode cX7_bestLoop 109 = .ok (.istore 5, 2) := by decide +kernel
theorem dX7_bestLoop_111 : decode cX7_bestLoop 111 = .ok (.iload 9, 2) := by decide +kernel
theorem dX7_bestLoop_113 : decode cX7_bestLoop 113 = .ok (.istore 6, 2) := by decide +kernel
theorem dX7_bestLoop_115 : decode cX7_bestLoop 115 = .ok (.iinc 8 1, 3) := by decide +kernel
theorem dX7_bestLoop_118 : decode cX7_bestLoop 118 = .ok (.goto (-50), 3) := by decide +kernel
theorem dX7_bestLoop_121 : decode cX7_bestLoop 121 = .ok (.iinc 7 1, 3) := by decide +kernel
theorem dX7_bestLoop_124 : decode cX7_bestLoop 124 = .ok (.goto (-71), 3) := by decide +kernel
theorem dX7_bestLoop_127 : decode cX7_bestLoop 127 = .ok (.iload 4, 2) := by decide +kernel
theorem dX7_bestLoop_129 : decode cX7_bestLoop 129 = .ok (.bipush (-9), 2) := by decide +kernel
theorem dX7_bestLoop_131 : decode cX7_bestLoop 131 = .ok (.if_icmp .eq 15, 3) := by decide +kernel
theorem dX7_bestLoop_134 : decode cX7_bestLoop 134 = .ok (.aload_n 0, 1) := by decide +kernel
theorem dX7_bestLoop_135 : decode cX7_bestLoop 135 = .ok (.iload 6, 2) := by decide +kernel
theorem dX7_bestLoop_137 : decode cX7_bestLoop 137 = .ok (.bipush 100, 2) := by decide +kernel
theorem dX7_bestLoop_139 : decode cX7_bestLoop 139 = .ok (.iload 5, 2) := by decide +kernel
theorem dX7_bestLoop_141 : decode cX7_bestLoop 141 = .ok (.imul, 1) := by decide +kernel
theorem dX7_bestLoop_142 : decode cX7_bestLoop 142 = .ok (.iadd, 1) := by decide +kernel
theorem dX7_bestLoop_143 : decode cX7_bestLoop 143 = .ok (.putfield 70, 3) := by decide +kernel
theorem dX7_bestLoop_146 : decode cX7_bestLoop 146 = .ok (.iload 4, 2) := by decide +kernel
theorem dX7_bestLoop_148 : decode cX7_bestLoop 148 = .ok (.ireturn, 1) := by decide +kernel
set_option maxRecDepth 20000 in
theorem ggX7_rest_X7_isKind : GoodIn wsX7_rest wsX7_isKind := goodIn_r _ [6, 7, 8, 5, 9] (by decide +kernel) (by decide +kernel)
set_option maxRecDepth 20000 in
theorem gX7_rest_X7_isKind : GoodIn wsX7_rest (va_wsS RX7 169 yX7_isKind wsX7_isKind) := goodIn_app (goodIn_of _ (by decide +kernel)) ggX7_rest_X7_isKind
set_option maxRecDepth 20000 in
theorem ggX7_rest_X5_length : GoodIn wsX7_rest wsX5_length := goodIn_r _ [14, 15, 51, 52, 53, 54, 55, 56, 57] (by decide +kernel) (by decide +kernel)
set_option maxRecDepth 20000 in
theorem gX7_rest_X5_length : GoodIn wsX7_rest (wsV RX7 134 RX5 yX5_length wsX5_length) := goodIn_app (goodIn_of _ (by decide +kernel)) ggX7_rest_X5_length
set_option maxRecDepth 20000 in
theorem ggX7_rest_X7_isWithin : GoodIn wsX7_rest wsX7_isWithin := goodIn_r _ [9] (by decide +kernel) (by decide +kernel)
set_option maxRecDepth 20000 in
theorem gX7_rest_X7_isWithin : GoodIn wsX7_rest (va_wsS RX7 107 yX7_isWithin wsX7_isWithin) := goodIn_app (goodIn_of _ (by decide +kernel)) ggX7_rest_X7_isWithin
set_option maxRecDepth 20000 in
theorem ggX7_rest_X4_isTaken : GoodIn wsX7_rest wsX4_isTaken := goodIn_r _ [20, 21, 22, 23, 24, 25, 19, 26, 27, 58, 59, 60, 61, 62, 63, 64] (by decide +kernel) (by decide +kernel)
set_option maxRecDepth 20000 in
theorem gX7_rest_X4_isTaken : GoodIn wsX7_rest (wsV RX7 172 RX4 yX4_isTaken wsX4_isTaken) := goodIn_app (goodIn_of _ (by decide +kernel)) ggX7_rest_X4_isTaken
set_option maxRecDepth 20000 in
theorem ggX7_rest_X7_isRate : GoodIn wsX7_rest wsX7_isRate := goodIn_r _ [30, 7, 8, 5, 9] (by decide +kernel) (by decide +kernel)
set_option maxRecDepth 20000 in
theorem gX7_rest_X7_isRate : GoodIn wsX7_rest (va_wsS RX7 175 yX7_isRate wsX7_isRate) := goodIn_app (goodIn_of _ (by decide +kernel)) ggX7_rest_X7_isRate
set_option maxRecDepth 20000 in
theorem ggX7_rest_X4_made : GoodIn wsX7_rest wsX4_made := goodIn_r _ [34, 21, 58, 59, 60, 61, 62, 63, 64] (by decide +kernel) (by decide +kernel)
set_option maxRecDepth 20000 in
theorem gX7_rest_X4_made : GoodIn wsX7_rest (wsV RX7 178 RX4 yX4_made wsX4_made) := goodIn_app (goodIn_of _ (by decide +kernel)) ggX7_rest_X4_made
set_option maxRecDepth 20000 in
theorem ggX7_rest_X4_put : GoodIn wsX7_rest wsX4_put := goodIn_r _ [38, 27, 21, 22, 39, 40, 58, 59, 60, 61, 62, 63, 64] (by decide +kernel) (by decide +kernel)
set_option maxRecDepth 20000 in
theorem gX7_rest_X4_put : GoodIn wsX7_rest (wsV RX7 181 RX4 yX4_put wsX4_put) := goodIn_app (goodIn_of _ (by decide +kernel)) ggX7_rest_X4_put
theorem dX7_rest_0 : decode cX7_rest 0 = .ok (.iload_n 1, 1) := by decide +kernel
theorem dX7_rest_1 : decode cX7_rest 1 = .ok (.invokestatic 169, 3) := by decide +kernel
theorem dX7_rest_4 : decode cX7_rest 4 = .ok (.ifCond .eq 31, 3) := by decide +kernel
theorem dX7_rest_7 : decode cX7_rest 7 = .ok (.iload_n 2, 1) := by decide +kernel
theorem dX7_rest_8 : decode cX7_rest 8 = .ok (.iconst 1, 1) := by decide +kernel
theorem dX7_rest_9 : decode cX7_rest 9 = .ok (.aload_n 0, 1) := by decide +kernel
theorem dX7_rest_10 : decode cX7_rest 10 = .ok (.getfield 21, 3) := by decide +kernel
theorem dX7_rest_13 : decode cX7_rest 13 = .ok (.invokevirtual 134, 3) := by decide +kernel
theorem dX7_rest_16 : decode cX7_rest 16 = .ok (.iconst 1, 1) := by decide +kernel
theorem dX7_rest_17 : decode cX7_rest 17 = .ok (.isub, 1) := by decide +kernel
theorem dX7_rest_18 : decode cX7_rest 18 = .ok (.invokestatic 107, 3) := by decide +kernel
theorem dX7_rest_21 : decode cX7_rest 21 = .ok (.ifCond .eq 14, 3) := by decide +kernel
theorem dX7_rest_24 : decode cX7_rest 24 = .ok (.aload_n 0, 1) := by decide +kernel
theorem dX7_rest_25 : decode cX7_rest 25 = .ok (.getfield 30, 3) := by decide +kernel
theorem dX7_rest_28 : decode cX7_rest 28 = .ok (.iload_n 2, 1) := by decide +kernel
theorem dX7_rest_29 : decode cX7_rest 29 = .ok (.invokevirtual 172, 3) := by decide +kernel
theorem dX7_rest_32 : decode cX7_rest 32 = .ok (.ifCond .eq 5, 3) := by decide +kernel
theorem dX7_rest_35 : decode cX7_rest 35 = .ok (.iconst (-1), 1) := by decide +kernel
theorem dX7_rest_36 : decode cX7_rest 36 = .ok (.ireturn, 1) := by decide +kernel
theorem dX7_rest_37 : decode cX7_rest 37 = .ok (.iload_n 1, 1) := by decide +kernel
theorem dX7_rest_38 : decode cX7_rest 38 = .ok (.iconst 2, 1) := by decide +kernel
theorem dX7_rest_39 : decode cX7_rest 39 = .ok (.if_icmp .ne 12, 3) := by decide +kernel
theorem dX7_rest_42 : decode cX7_rest 42 = .ok (.iload_n 3, 1) := by decide +kernel
theorem dX7_rest_43 : decode cX7_rest 43 = .ok (.invokestatic 175, 3) := by decide +kernel
theorem dX7_rest_46 : decode cX7_rest 46 = .ok (.ifCond .ne 5, 3) := by decide +kernel
theorem dX7_rest_49 : decode cX7_rest 49 = .ok (.iconst (-1), 1) := by decide +kernel
theorem dX7_rest_50 : decode cX7_rest 50 = .ok (.ireturn, 1) := by decide +kernel
theorem dX7_rest_51 : decode cX7_rest 51 = .ok (.aload_n 0, 1) := by decide +kernel
theorem dX7_rest_52 : decode cX7_rest 52 = .ok (.getfield 30, 3) := by decide +kernel
theorem dX7_rest_55 : decode cX7_rest 55 = .ok (.invokevirtual 178, 3) := by decide +kernel
theorem dX7_rest_58 : decode cX7_rest 58 = .ok (.bipush 12, 2) := by decide +kernel
theorem dX7_rest_60 : decode cX7_rest 60 = .ok (.if_icmp .lt 6, 3) := by decide +kernel
theorem dX7_rest_63 : decode cX7_rest 63 = .ok (.bipush (-2), 2) := by decide +kernel
theorem dX7_rest_65 : decode cX7_rest 65 = .ok (.ireturn, 1) := by decide +kernel
theorem dX7_rest_66 : decode cX7_rest 66 = .ok (.aload_n 0, 1) := by decide +kernel
theorem dX7_rest_67 : decode cX7_rest 67 = .ok (.getfield 30, 3) := by decide +kernel
theorem dX7_rest_70 : decode cX7_rest 70 = .ok (.iload_n 1, 1) := by decide +kernel
theorem dX7_rest_71 : decode cX7_rest 71 = .ok (.iload_n 2, 1) := by decide +kernel
theorem dX7_rest_72 : decode cX7_rest 72 = .ok (.iload_n 1, 1) := by decide +kernel
theorem dX7_rest_73 : decode cX7_rest 73 = .ok (.iconst 2, 1) := by decide +kernel
theorem dX7_rest_74 : decode cX7_rest 74 = .ok (.if_icmp .ne 7, 3) := by decide +kernel
theorem dX7_rest_77 : decode cX7_rest 77 = .ok (.iload_n 3, 1) := by decide +kernel
theorem dX7_rest_78 : decode cX7_rest 78 = .ok (.goto 5, 3) := by decide +kernel
theorem dX7_rest_81 : decode cX7_rest 81 = .ok (.bipush (-9), 2) := by decide +kernel
theorem dX7_rest_83 : decode cX7_rest 83 = .ok (.invokevirtual 181, 3) := by decide +kernel
theorem dX7_rest_86 : decode cX7_rest 86 = .ok (.ireturn, 1) := by decide +kernel
set_option maxRecDepth 20000 in
theorem ggX7_drop_X7_refusalOfRest : GoodIn wsX7_drop wsX7_refusalOfRest := goodIn_r _ [6, 1, 7, 8, 9, 10, 11, 12, 13, 14, 5, 15, 16, 17, 18, 19, 20, 21, 22, 23, 24, 25, 26, 31, 32, 33, 34, 35, 36, 37, 38, 39, 40, 41, 42, 43, 44, 45, 46, 47] (by decide +kernel) (by decide +kernel)
set_option maxRecDepth 20000 in
theorem gX7_drop_X7_refusalOfRest : GoodIn wsX7_drop (wsV RX7 184 RX7 yX7_refusalOfRest wsX7_refusalOfRest) := goodIn_app (goodIn_of _ (by decide +kernel)) ggX7_drop_X7_refusalOfRest
set_option maxRecDepth 20000 in
theorem ggX7_drop_X4_remove : GoodIn wsX7_drop wsX4_remove := goodIn_r _ [30, 20, 41, 42, 43, 44, 45, 46, 47] (by decide +kernel) (by decide +kernel)
set_option maxRecDepth 20000 in
theorem gX7_drop_X4_remove : GoodIn wsX7_drop (wsV RX7 188 RX4 yX4_remove wsX4_remove) := goodIn_app (goodIn_of _ (by decide +kernel)) ggX7_drop_X4_remove
theorem dX7_drop_0 : decode cX7_drop 0 = .ok (.aload_n 0, 1) := by decide +kernel
theorem dX7_drop_1 : decode cX7_drop 1 = .ok (.iload_n 1, 1) := by decide +kernel
theorem dX7_drop_2 : decode cX7_drop 2 = .ok (.iconst 1, 1) := by decide +kernel
theorem dX7_drop_3 : decode cX7_drop 3 = .ok (.invokevirtual 184, 3) := by decide +kernel
theorem dX7_drop_6 : decode cX7_drop 6 = .ok (.istore_n 2, 1) := by decide +kernel
theorem dX7_drop_7 : decode cX7_drop 7 = .ok (.iload_n 2, 1) := by decide +kernel
theorem dX7_drop_8 : decode cX7_drop 8 = .ok (.ifCond .eq 5, 3) := by decide +kernel
theorem dX7_drop_11 : decode cX7_drop 11 = .ok (.iload_n 2, 1) := by decide +kernel
theorem dX7_drop_12 : decode cX7_drop 12 = .ok (.ireturn, 1) := by decide +kernel
theorem dX7_drop_13 : decode cX7_drop 13 = .ok (.aload_n 0, 1) := by decide +kernel
theorem dX7_drop_14 : decode cX7_drop 14 = .ok (.getfield 30, 3) := by decide +kernel
theorem dX7_drop_17 : decode cX7_drop 17 = .ok (.iload_n 1, 1) := by decide +kernel
theorem dX7_drop_18 : decode cX7_drop 18 = .ok (.invokevirtual 188, 3) := by decide +kernel
theorem dX7_drop_21 : decode cX7_drop 21 = .ok (.iconst 1, 1) := by decide +kernel
theorem dX7_drop_22 : decode cX7_drop 22 = .ok (.ireturn, 1) := by decide +kernel
set_option maxRecDepth 20000 in
theorem ggX7_told_X7_isWithin : GoodIn wsX7_told wsX7_isWithin := goodIn_r _ [5] (by decide +kernel) (by decide +kernel)
set_option maxRecDepth 20000 in
theorem gX7_told_X7_isWithin : GoodIn wsX7_told (va_wsS RX7 107 yX7_isWithin wsX7_isWithin) := goodIn_app (goodIn_of _ (by decide +kernel)) ggX7_told_X7_isWithin
set_option maxRecDepth 20000 in
theorem ggX7_told_X7_refusalOfRest : GoodIn wsX7_told wsX7_refusalOfRest := goodIn_r _ [9, 1, 10, 11, 12, 13, 14, 15, 2, 3, 4, 5, 16, 17, 18, 19, 20, 21, 22, 23, 24, 25, 26, 45, 46, 47, 48, 49, 50, 51, 52, 53, 54, 55, 56, 57, 58, 59, 60, 61] (by decide +kernel) (by decide +kernel)
set_option maxRecDepth 20000 in
theorem gX7_told_X7_refusalOfRest : GoodIn wsX7_told (wsV RX7 184 RX7 yX7_refusalOfRest wsX7_refusalOfRest) := goodIn_app (goodIn_of _ (by decide +kernel)) ggX7_told_X7_refusalOfRest
set_option maxRecDepth 20000 in
theorem ggX7_told_X4_tell : GoodIn wsX7_told wsX4_tell := goodIn_r _ [30, 20, 31, 32, 33, 34, 35, 13, 36, 37, 38, 17, 18, 19, 39, 40, 41, 42, 43, 44, 55, 56, 57, 58, 59, 60, 61, 62, 63, 64, 65, 66, 67, 68] (by decide +kernel) (by decide +kernel)
set_option maxRecDepth 20000 in
theorem gX7_told_X4_tell : GoodIn wsX7_told (wsV RX7 191 RX4 yX4_tell wsX4_tell) := goodIn_app (goodIn_of _ (by decide +kernel)) ggX7_told_X4_tell
theorem dX7_told_0 : decode cX7_told 0 = .ok (.aload_n 0, 1) := by decide +kernel
theorem dX7_told_1 : decode cX7_told 1 = .ok (.iload_n 1, 1) := by decide +kernel
theorem dX7_told_2 : decode cX7_told 2 = .ok (.iload_n 2, 1) := by decide +kernel
theorem dX7_told_3 : decode cX7_told 3 = .ok (.iconst 0, 1) := by decide +kernel
theorem dX7_told_4 : decode cX7_told 4 = .ok (.iconst 3, 1) := by decide +kernel
theorem dX7_told_5 : decode cX7_told 5 = .ok (.invokestatic 107, 3) := by decide +kernel
theorem dX7_told_8 : decode cX7_told 8 = .ok (.invokevirtual 184, 3) := by decide +kernel
theorem dX7_told_11 : decode cX7_told 11 = .ok (.istore_n 3, 1) := by decide +kernel
theorem dX7_told_12 : decode cX7_told 12 = .ok (.iload_n 3, 1) := by decide +kernel
theorem dX7_told_13 : decode cX7_told 13 = .ok (.ifCond .eq 5, 3) := by decide +kernel
theorem dX7_told_16 : decode cX7_told 16 = .ok (.iload_n 3, 1) := by decide +kernel
theorem dX7_told_17 : decode cX7_told 17 = .ok (.ireturn, 1) := by decide +kernel
theorem dX7_told_18 : decode cX7_told 18 = .ok (.aload_n 0, 1) := by decide +kernel
theorem dX7_told_19 : decode cX7_told 19 = .ok (.getfield 30, 3) := by decide +kernel
theorem dX7_told_22 : decode cX7_told 22 = .ok (.iload_n 1, 1) := by decide +kernel
theorem dX7_told_23 : decode cX7_told 23 = .ok (.iload_n 2, 1) := by decide +kernel
theorem dX7_told_24 : decode cX7_told 24 = .ok (.invokevirtual 191, 3) := by decide +kernel
theorem dX7_told_27 : decode cX7_told 27 = .ok (.ireturn, 1) := by decide +kernel
set_option maxRecDepth 20000 in
theorem ggX7_is_X7_isKind : GoodIn wsX7_is wsX7_isKind := goodIn_r _ [5, 6, 7, 4, 8] (by decide +kernel) (by decide +kernel)
set_option maxRecDepth 20000 in
theorem gX7_is_X7_isKind : GoodIn wsX7_is (va_wsS RX7 169 yX7_isKind wsX7_isKind) := goodIn_app (goodIn_of _ (by decide +kernel)) ggX7_is_X7_isKind
set_option maxRecDepth 20000 in
theorem ggX7_is_X7_refusalOfRest : GoodIn wsX7_is wsX7_refusalOfRest := goodIn_r _ [12, 1, 13, 14, 15, 16, 17, 18, 6, 7, 4, 8, 19, 20, 21, 22, 23, 24, 25, 26, 27, 28, 29, 34, 35, 36, 37, 38, 39, 40, 41, 42, 43, 44, 45, 46, 47, 48, 49, 50] (by decide +kernel) (by decide +kernel)
set_option maxRecDepth 20000 in
theorem gX7_is_X7_refusalOfRest : GoodIn wsX7_is (wsV RX7 184 RX7 yX7_refusalOfRest wsX7_refusalOfRest) := goodIn_app (goodIn_of _ (by decide +kernel)) ggX7_is_X7_refusalOfRest
set_option maxRecDepth 20000 in
theorem ggX7_is_X4_isOfKind : GoodIn wsX7_is wsX4_isOfKind := goodIn_r _ [33, 23, 44, 45, 46, 47, 48, 49, 50] (by decide +kernel) (by decide +kernel)
set_option maxRecDepth 20000 in
theorem gX7_is_X4_isOfKind : GoodIn wsX7_is (wsV RX7 194 RX4 yX4_isOfKind wsX4_isOfKind) := goodIn_app (goodIn_of _ (by decide +kernel)) ggX7_is_X4_isOfKind
theorem dX7_is_0 : decode cX7_is 0 = .ok (.aload_n 0, 1) := by decide +kernel
theorem dX7_is_1 : decode cX7_is 1 = .ok (.iload_n 1, 1) := by decide +kernel
theorem dX7_is_2 : decode cX7_is 2 = .ok (.iload_n 2, 1) := by decide +kernel
theorem dX7_is_3 : decode cX7_is 3 = .ok (.invokestatic 169, 3) := by decide +kernel
theorem dX7_is_6 : decode cX7_is 6 = .ok (.invokevirtual 184, 3) := by decide +kernel
theorem dX7_is_9 : decode cX7_is 9 = .ok (.istore_n 3, 1) := by decide +kernel
theorem dX7_is_10 : decode cX7_is 10 = .ok (.iload_n 3, 1) := by decide +kernel
theorem dX7_is_11 : decode cX7_is 11 = .ok (.ifCond .eq 5, 3) := by decide +kernel
theorem dX7_is_14 : decode cX7_is 14 = .ok (.iload_n 3, 1) := by decide +kernel
theorem dX7_is_15 : decode cX7_is 15 = .ok (.ireturn, 1) := by decide +kernel
theorem dX7_is_16 : decode cX7_is 16 = .ok (.aload_n 0, 1) := by decide +kernel
theorem dX7_is_17 : decode cX7_is 17 = .ok (.getfield 30, 3) := by decide +kernel
theorem dX7_is_20 : decode cX7_is 20 = .ok (.iload_n 1, 1) := by decide +kernel
theorem dX7_is_21 : decode cX7_is 21 = .ok (.iload_n 2, 1) := by decide +kernel
theorem dX7_is_22 : decode cX7_is 22 = .ok (.invokevirtual 194, 3) := by decide +kernel
theorem dX7_is_25 : decode cX7_is 25 = .ok (.ifCond .eq 7, 3) := by decide +kernel
theorem dX7_is_28 : decode cX7_is 28 = .ok (.iconst 1, 1) := by decide +kernel
theorem dX7_is_29 : decode cX7_is 29 = .ok (.goto 4, 3) := by decide +kernel
theorem dX7_is_32 : decode cX7_is 32 = .ok (.iconst 0, 1) := by decide +kernel
theorem dX7_is_33 : decode cX7_is 33 = .ok (.ireturn, 1) := by decide +kernel
set_option maxRecDepth 20000 in
theorem ggX7_lifts_X7_isStep : GoodIn wsX7_lifts wsX7_isStep := goodIn_r _ [5, 6, 7, 4, 8] (by decide +kernel) (by decide +kernel)
set_option maxRecDepth 20000 in
theorem gX7_lifts_X7_isStep : GoodIn wsX7_lifts (va_wsS RX7 143 yX7_isStep wsX7_isStep) := goodIn_app (goodIn_of _ (by decide +kernel)) ggX7_lifts_X7_isStep
set_option maxRecDepth 20000 in
theorem ggX7_lifts_X7_refusalOfRest : GoodIn wsX7_lifts wsX7_refusalOfRest := goodIn_r _ [12, 1, 13, 14, 15, 16, 17, 18, 6, 7, 4, 8, 19, 20, 21, 22, 23, 24, 25, 26, 27, 28, 29, 80, 81, 82, 83, 84, 85, 86, 87, 88, 89, 90, 91, 92, 93, 94, 95, 96] (by decide +kernel) (by decide +kernel)
set_option maxRecDepth 20000 in
theorem gX7_lifts_X7_refusalOfRest : GoodIn wsX7_lifts (wsV RX7 184 RX7 yX7_refusalOfRest wsX7_refusalOfRest) := goodIn_app (goodIn_of _ (by decide +kernel)) ggX7_lifts_X7_refusalOfRest
set_option maxRecDepth 20000 in
theorem ggX7_lifts_X4_isLifted : GoodIn wsX7_lifts wsX4_isLifted := goodIn_r _ [33, 23, 34, 35, 36, 37, 38, 16, 39, 40, 20, 21, 22, 41, 42, 43, 44, 45, 46, 47, 48, 49, 50, 51, 52, 53, 54, 55, 56, 57, 58, 59, 60, 61, 62, 63, 64, 65, 66, 67, 68, 69, 70, 71, 72, 73, 74, 75, 76, 77, 78, 79, 90, 91, 92, 93, 94, 95, 96, 97, 98, 99, 100, 101, 102, 103, 104, 105, 106] (by decide +kernel) (by decide +kernel)
set_option maxRecDepth 20000 in
theorem gX7_lifts_X4_isLifted : GoodIn wsX7_lifts (wsV RX7 197 RX4 yX4_isLifted wsX4_isLifted) := goodIn_app (goodIn_of _ (by decide +kernel)) ggX7_lifts_X4_isLifted
theorem dX7_lifts_0 : decode cX7_lifts 0 = .ok (.aload_n 0, 1) := by decide +kernel
theorem dX7_lifts_1 : decode cX7_lifts 1 = .ok (.iload_n 1, 1) := by decide +kernel
theorem dX7_lifts_2 : decode cX7_lifts 2 = .ok (.iload_n 2, 1) := by decide +kernel
theorem dX7_lifts_3 : decode cX7_lifts 3 = .ok (.invokestatic 143, 3) := by decide +kernel
theorem dX7_lifts_6 : decode cX7_lifts 6 = .ok (.invokevirtual 184, 3) := by decide +kernel
theorem dX7_lifts_9 : decode cX7_lifts 9 = .ok (.istore_n 3, 1) := by decide +kernel
theorem dX7_lifts_10 : decode cX7_lifts 10 = .ok (.iload_n 3, 1) := by decide +kernel
theorem dX7_lifts_11 : decode cX7_lifts 11 = .ok (.ifCond .eq 5, 3) := by decide +kernel
theorem dX7_lifts_14 : decode cX7_lifts 14 = .ok (.iload_n 3, 1) := by decide +kernel
theorem dX7_lifts_15 : decode cX7_lifts 15 = .ok (.ireturn, 1) := by decide +kernel
theorem dX7_lifts_16 : decode cX7_lifts 16 = .ok (.aload_n 0, 1) := by decide +kernel
theorem dX7_lifts_17 : decode cX7_lifts 17 = .ok (.getfield 30, 3) := by decide +kernel
theorem dX7_lifts_20 : decode cX7_lifts 20 = .ok (.iload_n 1, 1) := by decide +kernel
theorem dX7_lifts_21 : decode cX7_lifts 21 = .ok (.iload_n 2, 1) := by decide +kernel
theorem dX7_lifts_22 : decode cX7_lifts 22 = .ok (.invokevirtual 197, 3) := by decide +kernel
theorem dX7_lifts_25 : decode cX7_lifts 25 = .ok (.ifCond .eq 7, 3) := by decide +kernel
theorem dX7_lifts_28 : decode cX7_lifts 28 = .ok (.iconst 1, 1) := by decide +kernel
theorem dX7_lifts_29 : decode cX7_lifts 29 = .ok (.goto 4, 3) := by decide +kernel
theorem dX7_lifts_32 : decode cX7_lifts 32 = .ok (.iconst 0, 1) := by decide +kernel
theorem dX7_lifts_33 : decode cX7_lifts 33 = .ok (.ireturn, 1) := by decide +kernel
set_option maxRecDepth 20000 in
theorem ggX7_load_X7_isStep : GoodIn wsX7_load wsX7_isStep := goodIn_r _ [7, 8, 9, 6, 10] (by decide +kernel) (by decide +kernel)
set_option maxRecDepth 20000 in
theorem gX7_load_X7_isStep : GoodIn wsX7_load (va_wsS RX7 143 yX7_isStep wsX7_isStep) := goodIn_app (goodIn_of _ (by decide +kernel)) ggX7_load_X7_isStep
set_option maxRecDepth 20000 in
theorem ggX7_load_X7_refusalOfRest : GoodIn wsX7_load wsX7_refusalOfRest := goodIn_r _ [14, 1, 15, 16, 17, 18, 19, 20, 8, 9, 6, 10, 21, 22, 23, 24, 25, 26, 27, 28, 29, 30, 31, 112, 113, 114, 115, 116, 117, 118, 119, 120, 121, 122, 123, 124, 125, 126, 127, 128] (by decide +kernel) (by decide +kernel)
set_option maxRecDepth 20000 in
theorem gX7_load_X7_refusalOfRest : GoodIn wsX7_load (wsV RX7 184 RX7 yX7_refusalOfRest wsX7_refusalOfRest) := goodIn_app (goodIn_of _ (by decide +kernel)) ggX7_load_X7_refusalOfRest
set_option maxRecDepth 20000 in
theorem ggX7_load_X4_noteBearing : GoodIn wsX7_load wsX4_noteBearing := goodIn_r _ [35, 20, 36, 25, 37, 38, 39, 18, 40, 41, 42, 43, 22, 23, 24, 44, 45, 46, 47, 48, 49, 50, 51, 52, 53, 54, 55, 56, 57, 58, 59, 60, 61, 62, 63, 64, 65, 66, 67, 68, 69, 70, 71, 72, 73, 74, 75, 76, 77, 78, 79, 80, 81, 82, 83, 84, 85, 86, 122, 123, 124, 125, 126, 127, 128, 129, 130, 131, 132, 133, 134, 135, 136, 137, 138] (by decide +kernel) (by decide +kernel)
set_option maxRecDepth 20000 in
theorem gX7_load_X4_noteBearing : GoodIn wsX7_load (wsV RX7 200 RX4 yX4_noteBearing wsX4_noteBearing) := goodIn_app (goodIn_of _ (by decide +kernel)) ggX7_load_X4_noteBearing
set_option maxRecDepth 20000 in
theorem ggX7_load_X4_twiceLoad : GoodIn wsX7_load wsX4_twiceLoad := goodIn_r _ [90, 36, 42, 20, 41, 91, 85, 82, 86, 92, 81, 83, 44, 45, 46, 47, 48, 49, 93, 94, 95, 96, 58, 60, 61, 62, 97, 98, 99, 72, 100, 101, 76, 77, 78, 79, 80, 84, 122, 123, 124, 125, 126, 127, 128, 129, 130, 131, 132, 133, 134, 135, 136, 137, 138] (by decide +kernel) (by decide +kernel)
set_option maxRecDepth 20000 in
theorem gX7_load_X4_twiceLoad : GoodIn wsX7_load (wsV RX7 203 RX4 yX4_twiceLoad wsX4_twiceLoad) := goodIn_app (goodIn_of _ (by decide +kernel)) ggX7_load_X4_twiceLoad
set_option maxRecDepth 20000 in
theorem ggX7_load_X2_put : GoodIn wsX7_load wsX2_put := goodIn_r _ [106, 107, 108, 109, 110, 105, 111, 139, 140] (by decide +kernel) (by decide +kernel)
set_option maxRecDepth 20000 in
theorem gX7_load_X2_put : GoodIn wsX7_load (wsV RX7 208 RX2 yX2_put wsX2_put) := goodIn_app (goodIn_of _ (by decide +kernel)) ggX7_load_X2_put
theorem dX7_load_0 : decode cX7_load 0 = .ok (.aload_n 0, 1) := by decide +kernel
theorem dX7_load_1 : decode cX7_load 1 = .ok (.iload_n 1, 1) := by decide +kernel
theorem dX7_load_2 : decode cX7_load 2 = .ok (.iload_n 2, 1) := by decide +kernel
theorem dX7_load_3 : decode cX7_load 3 = .ok (.invokestatic 143, 3) := by decide +kernel
theorem dX7_load_6 : decode cX7_load 6 = .ok (.invokevirtual 184, 3) := by decide +kernel
theorem dX7_load_9 : decode cX7_load 9 = .ok (.istore_n 3, 1) := by decide +kernel
theorem dX7_load_10 : decode cX7_load 10 = .ok (.iload_n 3, 1) := by decide +kernel
theorem dX7_load_11 : decode cX7_load 11 = .ok (.ifCond .eq 5, 3) := by decide +kernel
theorem dX7_load_14 : decode cX7_load 14 = .ok (.iload_n 3, 1) := by decide +kernel
theorem dX7_load_15 : decode cX7_load 15 = .ok (.ireturn, 1) := by decide +kernel
theorem dX7_load_16 : decode cX7_load 16 = .ok (.aload_n 0, 1) := by decide +kernel
theorem dX7_load_17 : decode cX7_load 17 = .ok (.getfield 30, 3) := by decide +kernel
theorem dX7_load_20 : decode cX7_load 20 = .ok (.iload_n 2, 1) := by decide +kernel
theorem dX7_load_21 : decode cX7_load 21 = .ok (.invokevirtual 200, 3) := by decide +kernel
theorem dX7_load_24 : decode cX7_load 24 = .ok (.aload_n 0, 1) := by decide +kernel
theorem dX7_load_25 : decode cX7_load 25 = .ok (.getfield 58, 3) := by decide +kernel
theorem dX7_load_28 : decode cX7_load 28 = .ok (.aload_n 0, 1) := by decide +kernel
theorem dX7_load_29 : decode cX7_load 29 = .ok (.getfield 30, 3) := by decide +kernel
theorem dX7_load_32 : decode cX7_load 32 = .ok (.iload_n 1, 1) := by decide +kernel
theorem dX7_load_33 : decode cX7_load 33 = .ok (.bipush (-9), 2) := by decide +kernel
theorem dX7_load_35 : decode cX7_load 35 = .ok (.invokevirtual 203, 3) := by decide +kernel
theorem dX7_load_38 : decode cX7_load 38 = .ok (.i2l, 1) := by decide +kernel
theorem dX7_load_39 : decode cX7_load 39 = .ok (.ldc2_w 206, 3) := by decide +kernel
theorem dX7_load_42 : decode cX7_load 42 = .ok (.invokevirtual 208, 3) := by decide +kernel
theorem dX7_load_45 : decode cX7_load 45 = .ok (.iconst 1, 1) := by decide +kernel
theorem dX7_load_46 : decode cX7_load 46 = .ok (.ireturn, 1) := by decide +kernel
set_option maxRecDepth 20000 in
theorem ggX7_change_X7_refusalOfSpring : GoodIn wsX7_change wsX7_refusalOfSpring := goodIn_r _ [8, 2, 9, 10, 7, 11, 12, 13, 14, 15, 16, 17, 18, 19, 20, 21, 22, 23, 24, 25, 26, 27, 28, 29, 30, 31, 32, 33, 34, 35, 36, 37, 38, 39, 98, 99, 100, 101, 102, 103, 104, 105, 106, 107, 108, 109, 110, 111, 112, 113, 114] (by decide +kernel) (by decide +kernel)
set_option maxRecDepth 20000 in
theorem gX7_change_X7_refusalOfSpring : GoodIn wsX7_change (wsV RX7 211 RX7 yX7_refusalOfSpring wsX7_refusalOfSpring) := goodIn_app (goodIn_of _ (by decide +kernel)) ggX7_change_X7_refusalOfSpring
set_option maxRecDepth 20000 in
theorem ggX7_change_X4_rateOf : GoodIn wsX7_change wsX4_rateOf := goodIn_r _ [43, 44, 108, 109, 110, 111, 112, 113, 114] (by decide +kernel) (by decide +kernel)
set_option maxRecDepth 20000 in
theorem gX7_change_X4_rateOf : GoodIn wsX7_change (wsV RX7 214 RX4 yX4_rateOf wsX4_rateOf) := goodIn_app (goodIn_of _ (by decide +kernel)) ggX7_change_X4_rateOf
set_option maxRecDepth 20000 in
theorem ggX7_change_X4_travel : GoodIn wsX7_change wsX4_travel := goodIn_r _ [48, 49, 50, 51, 52, 53, 54, 55, 56, 57, 58, 59, 60, 61, 62, 63, 64, 65, 66, 67, 68, 69, 70, 71, 72, 73, 74, 75, 76, 77, 78, 79, 80, 81, 82, 83, 84, 85, 86, 87, 108, 109, 110, 111, 112, 113, 114, 115, 116, 117, 118, 119, 120, 121, 122, 123, 124] (by decide +kernel) (by decide +kernel)
set_option maxRecDepth 20000 in
theorem gX7_change_X4_travel : GoodIn wsX7_change (wsV RX7 217 RX4 yX4_travel wsX4_travel) := goodIn_app (goodIn_of _ (by decide +kernel)) ggX7_change_X4_travel
set_option maxRecDepth 20000 in
theorem ggX7_change_X2_put : GoodIn wsX7_change wsX2_put := goodIn_r _ [92, 93, 94, 95, 96, 91, 97, 125, 126] (by decide +kernel) (by decide +kernel)
set_option maxRecDepth 20000 in
theorem gX7_change_X2_put : GoodIn wsX7_change (wsV RX7 208 RX2 yX2_put wsX2_put) := goodIn_app (goodIn_of _ (by decide +kernel)) ggX7_change_X2_put
theorem dX7_change_0 : decode cX7_change 0 = .ok (.aload_n 0, 1) := by decide +kernel
theorem dX7_change_1 : decode cX7_change 1 = .ok (.iload_n 1, 1) := by decide +kernel
theorem dX7_change_2 : decode cX7_change 2 = .ok (.iload_n 2, 1) := by decide +kernel
theorem dX7_change_3 : decode cX7_change 3 = .ok (.invokevirtual 211, 3) := by decide +kernel
theorem dX7_change_6 : decode cX7_change 6 = .ok (.istore_n 3, 1) := by decide +kernel
theorem dX7_change_7 : decode cX7_change 7 = .ok (.iload_n 3, 1) := by decide +kernel
theorem dX7_change_8 : decode cX7_change 8 = .ok (.ifCond .eq 5, 3) := by decide +kernel
theorem dX7_change_11 : decode cX7_change 11 = .ok (.iload_n 3, 1) := by decide +kernel
theorem dX7_change_12 : decode cX7_change 12 = .ok (.ireturn, 1) := by decide +kernel
theorem dX7_change_13 : decode cX7_change 13 = .ok (.aload_n 0, 1) := by decide +kernel
theorem dX7_change_14 : decode cX7_change 14 = .ok (.getfield 58, 3) := by decide +kernel
theorem dX7_change_17 : decode cX7_change 17 = .ok (.aload_n 0, 1) := by decide +kernel
theorem dX7_change_18 : decode cX7_change 18 = .ok (.getfield 30, 3) := by decide +kernel
theorem dX7_change_21 : decode cX7_change 21 = .ok (.iload_n 1, 1) := by decide +kernel
theorem dX7_change_22 : decode cX7_change 22 = .ok (.invokevirtual 214, 3) := by decide +kernel
theorem dX7_change_25 : decode cX7_change 25 = .ok (.i2l, 1) := by decide +kernel
theorem dX7_change_26 : decode cX7_change 26 = .ok (.aload_n 0, 1) := by decide +kernel
theorem dX7_change_27 : decode cX7_change 27 = .ok (.getfield 30, 3) := by decide +kernel
theorem dX7_change_30 : decode cX7_change 30 = .ok (.iload_n 1, 1) := by decide +kernel
theorem dX7_change_31 : decode cX7_change 31 = .ok (.iload_n 2, 1) := by decide +kernel
theorem dX7_change_32 : decode cX7_change 32 = .ok (.invokevirtual 217, 3) := by decide +kernel
theorem dX7_change_35 : decode cX7_change 35 = .ok (.i2l, 1) := by decide +kernel
theorem dX7_change_36 : decode cX7_change 36 = .ok (.lmul, 1) := by decide +kernel
theorem dX7_change_37 : decode cX7_change 37 = .ok (.ldc2_w 220, 3) := by decide +kernel
theorem dX7_change_40 : decode cX7_change 40 = .ok (.invokevirtual 208, 3) := by decide +kernel
theorem dX7_change_43 : decode cX7_change 43 = .ok (.iconst 1, 1) := by decide +kernel
theorem dX7_change_44 : decode cX7_change 44 = .ok (.ireturn, 1) := by decide +kernel
set_option maxRecDepth 20000 in
theorem ggX7_firm_X7_refusalOfSpring : GoodIn wsX7_firm wsX7_refusalOfSpring := goodIn_r _ [9, 1, 10, 11, 8, 12, 13, 14, 15, 16, 17, 18, 19, 20, 21, 22, 23, 24, 25, 26, 27, 28, 29, 30, 31, 32, 33, 34, 35, 36, 37, 38, 39, 40, 133, 134, 135, 136, 137, 138, 139, 140, 141, 142, 143, 144, 145, 146, 147, 148, 149] (by decide +kernel) (by decide +kernel)
set_option maxRecDepth 20000 in
theorem gX7_firm_X7_refusalOfSpring : GoodIn wsX7_firm (wsV RX7 211 RX7 yX7_refusalOfSpring wsX7_refusalOfSpring) := goodIn_app (goodIn_of _ (by decide +kernel)) ggX7_firm_X7_refusalOfSpring
set_option maxRecDepth 20000 in
theorem ggX7_firm_X4_noteBearing : GoodIn wsX7_firm wsX4_noteBearing := goodIn_r _ [44, 25, 45, 30, 46, 47, 48, 23, 49, 50, 51, 52, 27, 28, 29, 53, 54, 55, 56, 57, 58, 59, 60, 61, 62, 63, 64, 65, 66, 67, 68, 69, 70, 71, 72, 73, 74, 75, 76, 77, 78, 79, 80, 81, 82, 83, 84, 85, 86, 87, 88, 89, 90, 91, 92, 93, 94, 95, 143, 144, 145, 146, 147, 148, 149, 150, 151, 152, 153, 154, 155, 156, 157, 158, 159] (by decide +kernel) (by decide +kernel)
set_option maxRecDepth 20000 in
theorem gX7_firm_X4_noteBearing : GoodIn wsX7_firm (wsV RX7 200 RX4 yX4_noteBearing wsX4_noteBearing) := goodIn_app (goodIn_of _ (by decide +kernel)) ggX7_firm_X4_noteBearing
set_option maxRecDepth 20000 in
theorem ggX7_firm_X4_twiceLoad : GoodIn wsX7_firm wsX4_twiceLoad := goodIn_r _ [99, 45, 51, 25, 50, 100, 94, 91, 95, 101, 90, 92, 53, 54, 55, 56, 57, 58, 102, 103, 104, 105, 67, 69, 70, 71, 106, 107, 108, 81, 109, 110, 85, 86, 87, 88, 89, 93, 143, 144, 145, 146, 147, 148, 149, 150, 151, 152, 153, 154, 155, 156, 157, 158, 159] (by decide +kernel) (by decide +kernel)
set_option maxRecDepth 20000 in
theorem gX7_firm_X4_twiceLoad : GoodIn wsX7_firm (wsV RX7 203 RX4 yX4_twiceLoad wsX4_twiceLoad) := goodIn_app (goodIn_of _ (by decide +kernel)) ggX7_firm_X4_twiceLoad
set_option maxRecDepth 20000 in
theorem ggX7_firm_X7_refuse : GoodIn wsX7_firm wsX7_refuse := goodIn_r _ [34, 35, 36, 13, 14, 8, 15, 133, 134, 135, 136, 137, 138, 139, 140, 141, 142] (by decide +kernel) (by decide +kernel)
set_option maxRecDepth 20000 in
theorem gX7_firm_X7_refuse : GoodIn wsX7_firm (wsV RX7 77 RX7 yX7_refuse wsX7_refuse) := goodIn_app (goodIn_of _ (by decide +kernel)) ggX7_firm_X7_refuse
set_option maxRecDepth 20000 in
theorem ggX7_firm_X4_rateOf : GoodIn wsX7_firm wsX4_rateOf := goodIn_r _ [114, 115, 143, 144, 145, 146, 147, 148, 149] (by decide +kernel) (by decide +kernel)
set_option maxRecDepth 20000 in
theorem gX7_firm_X4_rateOf : GoodIn wsX7_firm (wsV RX7 214 RX4 yX4_rateOf wsX4_rateOf) := goodIn_app (goodIn_of _ (by decide +kernel)) ggX7_firm_X4_rateOf
set_option maxRecDepth 20000 in
theorem ggX7_firm_X4_travel : GoodIn wsX7_firm wsX4_travel := goodIn_r _ [119, 51, 50, 120, 121, 91, 122, 63, 64, 65, 56, 66, 67, 68, 69, 70, 71, 72, 73, 74, 75, 76, 77, 78, 79, 80, 81, 82, 83, 84, 85, 86, 87, 88, 89, 90, 92, 93, 94, 95, 143, 144, 145, 146, 147, 148, 149, 150, 151, 152, 153, 154, 155, 156, 157, 158, 159] (by decide +kernel) (by decide +kernel)
set_option maxRecDepth 20000 in
theorem gX7_firm_X4_travel : GoodIn wsX7_firm (wsV RX7 217 RX4 yX4_travel wsX4_travel) := goodIn_app (goodIn_of _ (by decide +kernel)) ggX7_firm_X4_travel
set_option maxRecDepth 20000 in
theorem ggX7_firm_X2_put : GoodIn wsX7_firm wsX2_put := goodIn_r _ [127, 128, 129, 130, 131, 126, 132, 160, 161] (by decide +kernel) (by decide +kernel)
set_option maxRecDepth 20000 in
theorem gX7_firm_X2_put : GoodIn wsX7_firm (wsV RX7 208 RX2 yX2_put wsX2_put) := goodIn_app (goodIn_of _ (by decide +kernel)) ggX7_firm_X2_put
theorem dX7_firm_0 : decode cX7_firm 0 = .ok (.aload_n 0, 1) := by decide +kernel
theorem dX7_firm_1 : decode cX7_firm 1 = .ok (.iload_n 1, 1) := by decide +kernel
theorem dX7_firm_2 : decode cX7_firm 2 = .ok (.iload_n 2, 1) := by decide +kernel
theorem dX7_firm_3 : decode cX7_firm 3 = .ok (.invokevirtual 211, 3) := by decide +kernel
theorem dX7_firm_6 : decode cX7_firm 6 = .ok (.istore_n 3, 1) := by decide +kernel
theorem dX7_firm_7 : decode cX7_firm 7 = .ok (.iload_n 3, 1) := by decide +kernel
theorem dX7_firm_8 : decode cX7_firm 8 = .ok (.ifCond .eq 5, 3) := by decide +kernel
theorem dX7_firm_11 : decode cX7_firm 11 = .ok (.iload_n 3, 1) := by decide +kernel
theorem dX7_firm_12 : decode cX7_firm 12 = .ok (.ireturn, 1) := by decide +kernel
theorem dX7_firm_13 : decode cX7_firm 13 = .ok (.aload_n 0, 1) := by decide +kernel
theorem dX7_firm_14 : decode cX7_firm 14 = .ok (.getfield 30, 3) := by decide +kernel
theorem dX7_firm_17 : decode cX7_firm 17 = .ok (.iload_n 2, 1) := by decide +kernel
theorem dX7_firm_18 : decode cX7_firm 18 = .ok (.invokevirtual 200, 3) := by decide +kernel
theorem dX7_firm_21 : decode cX7_firm 21 = .ok (.aload_n 0, 1) := by decide +kernel
theorem dX7_firm_22 : decode cX7_firm 22 = .ok (.getfield 30, 3) := by decide +kernel
theorem dX7_firm_25 : decode cX7_firm 25 = .ok (.iload_n 1, 1) := by decide +kernel
theorem dX7_firm_26 : decode cX7_firm 26 = .ok (.bipush (-9), 2) := by decide +kernel
theorem dX7_firm_28 : decode cX7_firm 28 = .ok (.invokevirtual 203, 3) := by decide +kernel
theorem dX7_firm_31 : decode cX7_firm 31 = .ok (.i2l, 1) := by decide +kernel
theorem dX7_firm_32 : decode cX7_firm 32 = .ok (.lstore 4, 2) := by decide +kernel
theorem dX7_firm_34 : decode cX7_firm 34 = .ok (.lload 4, 2) := by decide +kernel
theorem dX7_firm_36 : decode cX7_firm 36 = .ok (.lconst 0, 1) := by decide +kernel
theorem dX7_firm_37 : decode cX7_firm 37 = .ok (.lcmp, 1) := by decide +kernel
theorem dX7_firm_38 : decode cX7_firm 38 = .ok (.ifCond .ne 9, 3) := by decide +kernel
theorem dX7_firm_41 : decode cX7_firm 41 = .ok (.aload_n 0, 1) := by decide +kernel
theorem dX7_firm_42 : decode cX7_firm 42 = .ok (.iconst 4, 1) := by decide +kernel
theorem dX7_firm_43 : decode cX7_firm 43 = .ok (.invokevirtual 77, 3) := by decide +kernel
theorem dX7_firm_46 : decode cX7_firm 46 = .ok (.ireturn, 1) := by decide +kernel
theorem dX7_firm_47 : decode cX7_firm 47 = .ok (.aload_n 0, 1) := by decide +kernel
theorem dX7_firm_48 : decode cX7_firm 48 = .ok (.getfield 58, 3) := by decide +kernel
theorem dX7_firm_51 : decode cX7_firm 51 = .ok (.ldc2_w 206, 3) := by decide +kernel
theorem dX7_firm_54 : decode cX7_firm 54 = .ok (.aload_n 0, 1) := by decide +kernel
theorem dX7_firm_55 : decode cX7_firm 55 = .ok (.getfield 30, 3) := by decide +kernel
theorem dX7_firm_58 : decode cX7_firm 58 = .ok (.iload_n 1, 1) := by decide +kernel
theorem dX7_firm_59 : decode cX7_firm 59 = .ok (.invokevirtual 214, 3) := by decide +kernel
theorem dX7_firm_62 : decode cX7_firm 62 = .ok (.i2l, 1) := by decide +kernel
theorem dX7_firm_63 : decode cX7_firm 63 = .ok (.lmul, 1) := by decide +kernel
theorem dX7_firm_64 : decode cX7_firm 64 = .ok (.aload_n 0, 1) := by decide +kernel
theorem dX7_firm_65 : decode cX7_firm 65 = .ok (.getfield 30, 3) := by decide +kernel
theorem dX7_firm_68 : decode cX7_firm 68 = .ok (.iload_n 1, 1) := by decide +kernel
theorem dX7_firm_69 : decode cX7_firm 69 = .ok (.iload_n 2, 1) := by decide +kernel
theorem dX7_firm_70 : decode cX7_firm 70 = .ok (.invokevirtual 217, 3) := by decide +kernel
theorem dX7_firm_73 : decode cX7_firm 73 = .ok (.i2l, 1) := by decide +kernel
theorem dX7_firm_74 : decode cX7_firm 74 = .ok (.lmul, 1) := by decide +kernel
theorem dX7_firm_75 : decode cX7_firm 75 = .ok (.ldc2_w 220, 3) := by decide +kernel
theorem dX7_firm_78 : decode cX7_firm 78 = .ok (.lload 4, 2) := by decide +kernel
theorem dX7_firm_80 : decode cX7_firm 80 = .ok (.lmul, 1) := by decide +kernel
theorem dX7_firm_81 : decode cX7_firm 81 = .ok (.invokevirtual 208, 3) := by decide +kernel
theorem dX7_firm_84 : decode cX7_firm 84 = .ok (.iconst 1, 1) := by decide +kernel
theorem dX7_firm_85 : decode cX7_firm 85 = .ok (.ireturn, 1) := by decide +kernel
set_option maxRecDepth 20000 in
theorem ggX7_list_X7_isRate : GoodIn wsX7_list wsX7_isRate := goodIn_r _ [5, 6, 7, 4, 8] (by decide +kernel) (by decide +kernel)
set_option maxRecDepth 20000 in
theorem gX7_list_X7_isRate : GoodIn wsX7_list (va_wsS RX7 175 yX7_isRate wsX7_isRate) := goodIn_app (goodIn_of _ (by decide +kernel)) ggX7_list_X7_isRate
set_option maxRecDepth 20000 in
theorem ggX7_list_X3_size : GoodIn wsX7_list wsX3_size := goodIn_r _ [13, 14, 30, 31] (by decide +kernel) (by decide +kernel)
set_option maxRecDepth 20000 in
theorem gX7_list_X3_size : GoodIn wsX7_list (wsV RX7 222 RX3 yX3_size wsX3_size) := goodIn_app (goodIn_of _ (by decide +kernel)) ggX7_list_X3_size
set_option maxRecDepth 20000 in
theorem ggX7_list_X3_append : GoodIn wsX7_list wsX3_append := goodIn_r _ [18, 19, 14, 30, 31] (by decide +kernel) (by decide +kernel)
set_option maxRecDepth 20000 in
theorem gX7_list_X3_append : GoodIn wsX7_list (wsV RX7 225 RX3 yX3_append wsX3_append) := goodIn_app (goodIn_of _ (by decide +kernel)) ggX7_list_X3_append
theorem dX7_list_0 : decode cX7_list 0 = .ok (.iload_n 1, 1) := by decide +kernel
theorem dX7_list_1 : decode cX7_list 1 = .ok (.invokestatic 175, 3) := by decide +kernel
theorem dX7_list_4 : decode cX7_list 4 = .ok (.ifCond .ne 5, 3) := by decide +kernel
theorem dX7_list_7 : decode cX7_list 7 = .ok (.iconst (-1), 1) := by decide +kernel
theorem dX7_list_8 : decode cX7_list 8 = .ok (.ireturn, 1) := by decide +kernel
theorem dX7_list_9 : decode cX7_list 9 = .ok (.aload_n 0, 1) := by decide +kernel
theorem dX7_list_10 : decode cX7_list 10 = .ok (.getfield 37, 3) := by decide +kernel
theorem dX7_list_13 : decode cX7_list 13 = .ok (.invokevirtual 222, 3) := by decide +kernel
theorem dX7_list_16 : decode cX7_list 16 = .ok (.bipush 12, 2) := by decide +kernel
theorem dX7_list_18 : decode cX7_list 18 = .ok (.if_icmp .lt 6, 3) := by decide +kernel
theorem dX7_list_21 : decode cX7_list 21 = .ok (.bipush (-2), 2) := by decide +kernel
theorem dX7_list_23 : decode cX7_list 23 = .ok (.ireturn, 1) := by decide +kernel
theorem dX7_list_24 : decode cX7_list 24 = .ok (.aload_n 0, 1) := by decide +kernel
theorem dX7_list_25 : decode cX7_list 25 = .ok (.getfield 37, 3) := by decide +kernel
theorem dX7_list_28 : decode cX7_list 28 = .ok (.iload_n 1, 1) := by decide +kernel
theorem dX7_list_29 : decode cX7_list 29 = .ok (.invokevirtual 225, 3) := by decide +kernel
theorem dX7_list_32 : decode cX7_list 32 = .ok (.aload_n 0, 1) := by decide +kernel
theorem dX7_list_33 : decode cX7_list 33 = .ok (.getfield 37, 3) := by decide +kernel
theorem dX7_list_36 : decode cX7_list 36 = .ok (.invokevirtual 222, 3) := by decide +kernel
theorem dX7_list_39 : decode cX7_list 39 = .ok (.ireturn, 1) := by decide +kernel
set_option maxRecDepth 20000 in
theorem ggX7_choose_X7_refusalOfSpring : GoodIn wsX7_choose wsX7_refusalOfSpring := goodIn_r _ [7, 1, 8, 9, 6, 10, 11, 12, 13, 14, 15, 16, 17, 18, 19, 20, 21, 22, 23, 24, 25, 26, 27, 28, 29, 30, 31, 32, 33, 34, 35, 36, 37, 38, 130, 131, 132, 133, 134, 135, 136, 137, 138, 139, 140, 141, 142, 143, 144, 145, 146] (by decide +kernel) (by decide +kernel)
set_option maxRecDepth 20000 in
theorem gX7_choose_X7_refusalOfSpring : GoodIn wsX7_choose (wsV RX7 211 RX7 yX7_refusalOfSpring wsX7_refusalOfSpring) := goodIn_app (goodIn_of _ (by decide +kernel)) ggX7_choose_X7_refusalOfSpring
set_option maxRecDepth 20000 in
theorem ggX7_choose_X4_noteBearing : GoodIn wsX7_choose wsX4_noteBearing := goodIn_r _ [42, 23, 43, 28, 44, 45, 46, 21, 47, 48, 49, 50, 25, 26, 27, 51, 52, 53, 54, 55, 56, 57, 58, 59, 60, 61, 62, 63, 64, 65, 66, 67, 68, 69, 70, 71, 72, 73, 74, 75, 76, 77, 78, 79, 80, 81, 82, 83, 84, 85, 86, 87, 88, 89, 90, 91, 92, 93, 140, 141, 142, 143, 144, 145, 146, 147, 148, 149, 150, 151, 152, 153, 154, 155, 156] (by decide +kernel) (by decide +kernel)
set_option maxRecDepth 20000 in
theorem gX7_choose_X4_noteBearing : GoodIn wsX7_choose (wsV RX7 200 RX4 yX4_noteBearing wsX4_noteBearing) := goodIn_app (goodIn_of _ (by decide +kernel)) ggX7_choose_X4_noteBearing
set_option maxRecDepth 20000 in
theorem ggX7_choose_X4_twiceLoad : GoodIn wsX7_choose wsX4_twiceLoad := goodIn_r _ [97, 43, 49, 23, 48, 98, 92, 89, 93, 99, 88, 90, 51, 52, 53, 54, 55, 56, 100, 101, 102, 103, 65, 67, 68, 69, 104, 105, 106, 79, 107, 108, 83, 84, 85, 86, 87, 91, 140, 141, 142, 143, 144, 145, 146, 147, 148, 149, 150, 151, 152, 153, 154, 155, 156] (by decide +kernel) (by decide +kernel)
set_option maxRecDepth 20000 in
theorem gX7_choose_X4_twiceLoad : GoodIn wsX7_choose (wsV RX7 203 RX4 yX4_twiceLoad wsX4_twiceLoad) := goodIn_app (goodIn_of _ (by decide +kernel)) ggX7_choose_X4_twiceLoad
set_option maxRecDepth 20000 in
theorem ggX7_choose_X7_refuse : GoodIn wsX7_choose wsX7_refuse := goodIn_r _ [32, 33, 34, 11, 12, 6, 13, 130, 131, 132, 133, 134, 135, 136, 137, 138, 139] (by decide +kernel) (by decide +kernel)
set_option maxRecDepth 20000 in
theorem gX7_choose_X7_refuse : GoodIn wsX7_choose (wsV RX7 77 RX7 yX7_refuse wsX7_refuse) := goodIn_app (goodIn_of _ (by decide +kernel)) ggX7_choose_X7_refuse
set_option maxRecDepth 20000 in
theorem ggX7_choose_X4_travel : GoodIn wsX7_choose wsX4_travel := goodIn_r _ [112, 49, 48, 113, 114, 89, 115, 61, 62, 63, 54, 64, 65, 66, 67, 68, 69, 70, 71, 72, 73, 74, 75, 76, 77, 78, 79, 80, 81, 82, 83, 84, 85, 86, 87, 88, 90, 91, 92, 93, 140, 141, 142, 143, 144, 145, 146, 147, 148, 149, 150, 151, 152, 153, 154, 155, 156] (by decide +kernel) (by decide +kernel)
set_option maxRecDepth 20000 in
theorem gX7_choose_X4_travel : GoodIn wsX7_choose (wsV RX7 217 RX4 yX4_travel wsX4_travel) := goodIn_app (goodIn_of _ (by decide +kernel)) ggX7_choose_X4_travel
set_option maxRecDepth 20000 in
theorem ggX7_choose_X3_greatestFirmEnough : GoodIn wsX7_choose wsX3_greatestFirmEnough := goodIn_r _ [120, 121, 122, 123, 124, 157, 158] (by decide +kernel) (by decide +kernel)
set_option maxRecDepth 20000 in
theorem gX7_choose_X3_greatestFirmEnough : GoodIn wsX7_choose (wsV RX7 227 RX3 yX3_greatestFirmEnough wsX3_greatestFirmEnough) := goodIn_app (goodIn_of _ (by decide +kernel)) ggX7_choose_X3_greatestFirmEnough
set_option maxRecDepth 20000 in
theorem ggX7_choose_X4_setRate : GoodIn wsX7_choose wsX4_setRate := goodIn_r _ [128, 129, 140, 141, 142, 143, 144, 145, 146] (by decide +kernel) (by decide +kernel)
set_option maxRecDepth 20000 in
theorem gX7_choose_X4_setRate : GoodIn wsX7_choose (wsV RX7 230 RX4 yX4_setRate wsX4_setRate) := goodIn_app (goodIn_of _ (by decide +kernel)) ggX7_choose_X4_setRate
theorem dX7_choose_0 : decode cX7_choose 0 = .ok (.aload_n 0, 1) := by decide +kernel
theorem dX7_choose_1 : decode cX7_choose 1 = .ok (.iload_n 1, 1) := by decide +kernel
theorem dX7_choose_2 : decode cX7_choose 2 = .ok (.iload_n 2, 1) := by decide +kernel
theorem dX7_choose_3 : decode cX7_choose 3 = .ok (.invokevirtual 211, 3) := by decide +kernel
theorem dX7_choose_6 : decode cX7_choose 6 = .ok (.istore_n 3, 1) := by decide +kernel
theorem dX7_choose_7 : decode cX7_choose 7 = .ok (.iload_n 3, 1) := by decide +kernel
theorem dX7_choose_8 : decode cX7_choose 8 = .ok (.ifCond .eq 5, 3) := by decide +kernel
theorem dX7_choose_11 : decode cX7_choose 11 = .ok (.iload_n 3, 1) := by decide +kernel
theorem dX7_choose_12 : decode cX7_choose 12 = .ok (.ireturn, 1) := by decide +kernel
theorem dX7_choose_13 : decode cX7_choose 13 = .ok (.aload_n 0, 1) := by decide +kernel
theorem dX7_choose_14 : decode cX7_choose 14 = .ok (.getfield 30, 3) := by decide +kernel
theorem dX7_choose_17 : decode cX7_choose 17 = .ok (.iload_n 2, 1) := by decide +kernel
theorem dX7_choose_18 : decode cX7_choose 18 = .ok (.invokevirtual 200, 3) := by decide +kernel
theorem dX7_choose_21 : decode cX7_choose 21 = .ok (.aload_n 0, 1) := by decide +kernel
theorem dX7_choose_22 : decode cX7_choose 22 = .ok (.getfield 30, 3) := by decide +kernel
theorem dX7_choose_25 : decode cX7_choose 25 = .ok (.iload_n 1, 1) := by decide +kernel
theorem dX7_choose_26 : decode cX7_choose 26 = .ok (.bipush (-9), 2) := by decide +kernel
theorem dX7_choose_28 : decode cX7_choose 28 = .ok (.invokevirtual 203, 3) := by decide +kernel
theorem dX7_choose_31 : decode cX7_choose 31 = .ok (.istore 4, 2) := by decide +kernel
theorem dX7_choose_33 : decode cX7_choose 33 = .ok (.iload 4, 2) := by decide +kernel
theorem dX7_choose_35 : decode cX7_choose 35 = .ok (.ifCond .ne 9, 3) := by decide +kernel
theorem dX7_choose_38 : decode cX7_choose 38 = .ok (.aload_n 0, 1) := by decide +kernel
theorem dX7_choose_39 : decode cX7_choose 39 = .ok (.iconst 4, 1) := by decide +kernel
theorem dX7_choose_40 : decode cX7_choose 40 = .ok (.invokevirtual 77, 3) := by decide +kernel
theorem dX7_choose_43 : decode cX7_choose 43 = .ok (.ireturn, 1) := by decide +kernel
theorem dX7_choose_44 : decode cX7_choose 44 = .ok (.aload_n 0, 1) := by decide +kernel
theorem dX7_choose_45 : decode cX7_choose 45 = .ok (.getfield 37, 3) := by decide +kernel
theorem dX7_choose_48 : decode cX7_choose 48 = .ok (.aload_n 0, 1) := by decide +kernel
theorem dX7_choose_49 : decode cX7_choose 49 = .ok (.getfield 30, 3) := by decide +kernel
theorem dX7_choose_52 : decode cX7_choose 52 = .ok (.iload_n 1, 1) := by decide +kernel
theorem dX7_choose_53 : decode cX7_choose 53 = .ok (.iload_n 2, 1) := by decide +kernel
theorem dX7_choose_54 : decode cX7_choose 54 = .ok (.invokevirtual 217, 3) := by decide +kernel
theorem dX7_choose_57 : decode cX7_choose 57 = .ok (.iload 4, 2) := by decide +kernel
theorem dX7_choose_59 : decode cX7_choose 59 = .ok (.invokevirtual 227, 3) := by decide +kernel
theorem dX7_choose_62 : decode cX7_choose 62 = .ok (.istore 5, 2) := by decide +kernel
theorem dX7_choose_64 : decode cX7_choose 64 = .ok (.iload 5, 2) := by decide +kernel
theorem dX7_choose_66 : decode cX7_choose 66 = .ok (.bipush (-9), 2) := by decide +kernel
theorem dX7_choose_68 : decode cX7_choose 68 = .ok (.if_icmp .eq 13, 3) := by decide +kernel
theorem dX7_choose_71 : decode cX7_choose 71 = .ok (.aload_n 0, 1) := by decide +kernel
theorem dX7_choose_72 : decode cX7_choose 72 = .ok (.getfield 30, 3) := by decide +kernel
theorem dX7_choose_75 : decode cX7_choose 75 = .ok (.iload_n 1, 1) := by decide +kernel
theorem dX7_choose_76 : decode cX7_choose 76 = .ok (.iload 5, 2) := by decide +kernel
theorem dX7_choose_78 : decode cX7_choose 78 = .ok (.invokevirtual 230, 3) := by decide +kernel
theorem dX7_choose_81 : decode cX7_choose 81 = .ok (.iload 5, 2) := by decide +kernel
theorem dX7_choose_83 : decode cX7_choose 83 = .ok (.ireturn, 1) := by decide +kernel
set_option maxRecDepth 20000 in
theorem ggX7_amount_X7_isCase : GoodIn wsX7_amount wsX7_isCase := goodIn_r _ [5, 6, 7, 4, 8] (by decide +kernel) (by decide +kernel)
set_option maxRecDepth 20000 in
theorem gX7_amount_X7_isCase : GoodIn wsX7_amount (va_wsS RX7 233 yX7_isCase wsX7_isCase) := goodIn_app (goodIn_of _ (by decide +kernel)) ggX7_amount_X7_isCase
set_option maxRecDepth 20000 in
theorem ggX7_amount_X7_isWithin : GoodIn wsX7_amount wsX7_isWithin := goodIn_r _ [8] (by decide +kernel) (by decide +kernel)
set_option maxRecDepth 20000 in
theorem gX7_amount_X7_isWithin : GoodIn wsX7_amount (va_wsS RX7 107 yX7_isWithin wsX7_isWithin) := goodIn_app (goodIn_of _ (by decide +kernel)) ggX7_amount_X7_isWithin
set_option maxRecDepth 20000 in
theorem ggX7_amount_X0_put : GoodIn wsX7_amount wsX0_put := goodIn_r _ [13, 14, 15, 16, 27, 28, 29, 30] (by decide +kernel) (by decide +kernel)
set_option maxRecDepth 20000 in
theorem gX7_amount_X0_put : GoodIn wsX7_amount (wsV RX7 236 RX0 yX0_put wsX0_put) := goodIn_app (goodIn_of _ (by decide +kernel)) ggX7_amount_X0_put
theorem dX7_amount_0 : decode cX7_amount 0 = .ok (.iload_n 1, 1) := by decide +kernel
theorem dX7_amount_1 : decode cX7_amount 1 = .ok (.invokestatic 233, 3) := by decide +kernel
theorem dX7_amount_4 : decode cX7_amount 4 = .ok (.ifCond .eq 16, 3) := by decide +kernel
theorem dX7_amount_7 : decode cX7_amount 7 = .ok (.iload_n 2, 1) := by decide +kernel
theorem dX7_amount_8 : decode cX7_amount 8 = .ok (.sipush (-10000), 3) := by decide +kernel
theorem dX7_amount_11 : decode cX7_amount 11 = .ok (.sipush 10000, 3) := by decide +kernel
theorem dX7_amount_14 : decode cX7_amount 14 = .ok (.invokestatic 107, 3) := by decide +kernel
theorem dX7_amount_17 : decode cX7_amount 17 = .ok (.ifCond .ne 5, 3) := by decide +kernel
theorem dX7_amount_20 : decode cX7_amount 20 = .ok (.iconst (-1), 1) := by decide +kernel
theorem dX7_amount_21 : decode cX7_amount 21 = .ok (.ireturn, 1) := by decide +kernel
theorem dX7_amount_22 : decode cX7_amount 22 = .ok (.iload_n 3, 1) := by decide +kernel
theorem dX7_amount_23 : decode cX7_amount 23 = .ok (.bipush (-9), 2) := by decide +kernel
theorem dX7_amount_25 : decode cX7_amount 25 = .ok (.iload 4, 2) := by decide +kernel
theorem dX7_amount_27 : decode cX7_amount 27 = .ok (.invokestatic 107, 3) := by decide +kernel
theorem dX7_amount_30 : decode cX7_amount 30 = .ok (.ifCond .eq 10, 3) := by decide +kernel
theorem dX7_amount_33 : decode cX7_amount 33 = .ok (.iload 4, 2) := by decide +kernel
theorem dX7_amount_35 : decode cX7_amount 35 = .ok (.bipush 9, 2) := by decide +kernel
theorem dX7_amount_37 : decode cX7_amount 37 = .ok (.if_icmp .le 5, 3) := by decide +kernel
theorem dX7_amount_40 : decode cX7_amount 40 = .ok (.iconst (-1), 1) := by decide +kernel
theorem dX7_amount_41 : decode cX7_amount 41 = .ok (.ireturn, 1) := by decide +kernel
theorem dX7_amount_42 : decode cX7_amount 42 = .ok (.aload_n 0, 1) := by decide +kernel
theorem dX7_amount_43 : decode cX7_amount 43 = .ok (.getfield 44, 3) := by decide +kernel
theorem dX7_amount_46 : decode cX7_amount 46 = .ok (.iload_n 1, 1) := by decide +kernel
theorem dX7_amount_47 : decode cX7_amount 47 = .ok (.iload_n 2, 1) := by decide +kernel
theorem dX7_amount_48 : decode cX7_amount 48 = .ok (.iload_n 3, 1) := by decide +kernel
theorem dX7_amount_49 : decode cX7_amount 49 = .ok (.iload 4, 2) := by decide +kernel
theorem dX7_amount_51 : decode cX7_amount 51 = .ok (.invokevirtual 236, 3) := by decide +kernel
theorem dX7_amount_54 : decode cX7_amount 54 = .ok (.iconst 1, 1) := by decide +kernel
theorem dX7_amount_55 : decode cX7_amount 55 = .ok (.ireturn, 1) := by decide +kernel
set_option maxRecDepth 20000 in
theorem ggX7_bar_X7_isCase : GoodIn wsX7_bar wsX7_isCase := goodIn_r _ [5, 6, 7, 4, 8] (by decide +kernel) (by decide +kernel)
set_option maxRecDepth 20000 in
theorem gX7_bar_X7_isCase : GoodIn wsX7_bar (va_wsS RX7 233 yX7_isCase wsX7_isCase) := goodIn_app (goodIn_of _ (by decide +kernel)) ggX7_bar_X7_isCase
set_option maxRecDepth 20000 in
theorem ggX7_bar_X0_setBarred : GoodIn wsX7_bar wsX0_setBarred := goodIn_r _ [13, 14, 25, 26, 27, 28] (by decide +kernel) (by decide +kernel)
set_option maxRecDepth 20000 in
theorem gX7_bar_X0_setBarred : GoodIn wsX7_bar (wsV RX7 239 RX0 yX0_setBarred wsX0_setBarred) := goodIn_app (goodIn_of _ (by decide +kernel)) ggX7_bar_X0_setBarred
theorem dX7_bar_0 : decode cX7_bar 0 = .ok (.iload_n 1, 1) := by decide +kernel
theorem dX7_bar_1 : decode cX7_bar 1 = .ok (.invokestatic 233, 3) := by decide +kernel
theorem dX7_bar_4 : decode cX7_bar 4 = .ok (.ifCond .eq 15, 3) := by decide +kernel
theorem dX7_bar_7 : decode cX7_bar 7 = .ok (.iload_n 2, 1) := by decide +kernel
theorem dX7_bar_8 : decode cX7_bar 8 = .ok (.invokestatic 233, 3) := by decide +kernel
theorem dX7_bar_11 : decode cX7_bar 11 = .ok (.ifCond .eq 8, 3) := by decide +kernel
theorem dX7_bar_14 : decode cX7_bar 14 = .ok (.iload_n 1, 1) := by decide +kernel
theorem dX7_bar_15 : decode cX7_bar 15 = .ok (.iload_n 2, 1) := by decide +kernel
theorem dX7_bar_16 : decode cX7_bar 16 = .ok (.if_icmp .ne 5, 3) := by decide +kernel
theorem dX7_bar_19 : decode cX7_bar 19 = .ok (.iconst (-1), 1) := by decide +kernel
theorem dX7_bar_20 : decode cX7_bar 20 = .ok (.ireturn, 1) := by decide +kernel
theorem dX7_bar_21 : decode cX7_bar 21 = .ok (.aload_n 0, 1) := by decide +kernel
theorem dX7_bar_22 : decode cX7_bar 22 = .ok (.getfield 44, 3) := by decide +kernel
theorem dX7_bar_25 : decode cX7_bar 25 = .ok (.iload_n 1, 1) := by decide +kernel
theorem dX7_bar_26 : decode cX7_bar 26 = .ok (.iload_n 2, 1) := by decide +kernel
theorem dX7_bar_27 : decode cX7_bar 27 = .ok (.iload_n 3, 1) := by decide +kernel
theorem dX7_bar_28 : decode cX7_bar 28 = .ok (.invokevirtual 239, 3) := by decide +kernel
theorem dX7_bar_31 : decode cX7_bar 31 = .ok (.ifCond .eq 7, 3) := by decide +kernel
theorem dX7_bar_34 : decode cX7_bar 34 = .ok (.iconst 1, 1) := by decide +kernel
theorem dX7_bar_35 : decode cX7_bar 35 = .ok (.goto 4, 3) := by decide +kernel
theorem dX7_bar_38 : decode cX7_bar 38 = .ok (.iconst 0, 1) := by decide +kernel
theorem dX7_bar_39 : decode cX7_bar 39 = .ok (.ireturn, 1) := by decide +kernel
set_option maxRecDepth 20000 in
theorem ggX7_worst_X0_worstSet : GoodIn wsX7_worst wsX0_worstSet := goodIn_r _ [7, 8, 9, 10, 6, 11, 12, 13, 14, 15, 16, 17, 18, 19, 20, 21, 22, 23, 35, 36, 37, 38] (by decide +kernel) (by decide +kernel)
set_option maxRecDepth 20000 in
theorem gX7_worst_X0_worstSet : GoodIn wsX7_worst (wsV RX7 243 RX0 yX0_worstSet wsX0_worstSet) := goodIn_app (goodIn_of _ (by decide +kernel)) ggX7_worst_X0_worstSet
set_option maxRecDepth 20000 in
theorem ggX7_worst_X0_joined : GoodIn wsX7_worst wsX0_joined := goodIn_r _ [16, 17, 18, 19, 20, 21, 22, 23, 35, 36, 37, 38] (by decide +kernel) (by decide +kernel)
set_option maxRecDepth 20000 in
theorem gX7_worst_X0_joined : GoodIn wsX7_worst (wsV RX7 246 RX0 yX0_joined wsX0_joined) := goodIn_app (goodIn_of _ (by decide +kernel)) ggX7_worst_X0_joined
theorem dX7_worst_0 : decode cX7_worst 0 = .ok (.aload_n 0, 1) := by decide +kernel
theorem dX7_worst_1 : decode cX7_worst 1 = .ok (.aload_n 0, 1) := by decide +kernel
theorem dX7_worst_2 : decode cX7_worst 2 = .ok (.getfield 44, 3) := by decide +kernel
theorem dX7_worst_5 : decode cX7_worst 5 = .ok (.invokevirtual 243, 3) := by decide +kernel
theorem dX7_worst_8 : decode cX7_worst 8 = .ok (.putfield 70, 3) := by decide +kernel
theorem dX7_worst_11 : decode cX7_worst 11 = .ok (.aload_n 0, 1) := by decide +kernel
theorem dX7_worst_12 : decode cX7_worst 12 = .ok (.getfield 44, 3) := by decide +kernel
theorem dX7_worst_15 : decode cX7_worst 15 = .ok (.aload_n 0, 1) := by decide +kernel
theorem dX7_worst_16 : decode cX7_worst 16 = .ok (.getfield 70, 3) := by decide +kernel
theorem dX7_worst_19 : decode cX7_worst 19 = .ok (.invokevirtual 246, 3) := by decide +kernel
theorem dX7_worst_22 : decode cX7_worst 22 = .ok (.ireturn, 1) := by decide +kernel
set_option maxRecDepth 20000 in
theorem ggX7_cycle_X7_isWithin : GoodIn wsX7_cycle wsX7_isWithin := goodIn_r _ [6] (by decide +kernel) (by decide +kernel)
set_option maxRecDepth 20000 in
theorem gX7_cycle_X7_isWithin : GoodIn wsX7_cycle (va_wsS RX7 107 yX7_isWithin wsX7_isWithin) := goodIn_app (goodIn_of _ (by decide +kernel)) ggX7_cycle_X7_isWithin
set_option maxRecDepth 20000 in
theorem ggX7_cycle_X1_lines : GoodIn wsX7_cycle wsX1_lines := goodIn_r _ [11, 12, 28, 29] (by decide +kernel) (by decide +kernel)
set_option maxRecDepth 20000 in
theorem gX7_cycle_X1_lines : GoodIn wsX7_cycle (wsV RX7 250 RX1 yX1_lines wsX1_lines) := goodIn_app (goodIn_of _ (by decide +kernel)) ggX7_cycle_X1_lines
set_option maxRecDepth 20000 in
theorem ggX7_cycle_X1_append : GoodIn wsX7_cycle wsX1_append := goodIn_r _ [16, 12, 17, 28, 29] (by decide +kernel) (by decide +kernel)
set_option maxRecDepth 20000 in
theorem gX7_cycle_X1_append : GoodIn wsX7_cycle (wsV RX7 253 RX1 yX1_append wsX1_append) := goodIn_app (goodIn_of _ (by decide +kernel)) ggX7_cycle_X1_append
theorem dX7_cycle_0 : decode cX7_cycle 0 = .ok (.iload_n 1, 1) := by decide +kernel
theorem dX7_cycle_1 : decode cX7_cycle 1 = .ok (.iconst 1, 1) := by decide +kernel
theorem dX7_cycle_2 : decode cX7_cycle 2 = .ok (.ldc 249, 2) := by decide +kernel
theorem dX7_cycle_4 : decode cX7_cycle 4 = .ok (.invokestatic 107, 3) := by decide +kernel
theorem dX7_cycle_7 : decode cX7_cycle 7 = .ok (.ifCond .eq 13, 3) := by decide +kernel
theorem dX7_cycle_10 : decode cX7_cycle 10 = .ok (.iload_n 2, 1) := by decide +kernel
theorem dX7_cycle_11 : decode cX7_cycle 11 = .ok (.iconst 1, 1) := by decide +kernel
theorem dX7_cycle_12 : decode cX7_cycle 12 = .ok (.bipush 60, 2) := by decide +kernel
theorem dX7_cycle_14 : decode cX7_cycle 14 = .ok (.invokestatic 107, 3) := by decide +kernel
theorem dX7_cycle_17 : decode cX7_cycle 17 = .ok (.ifCond .ne 5, 3) := by decide +kernel
theorem dX7_cycle_20 : decode cX7_cycle 20 = .ok (.iconst (-1), 1) := by decide +kernel
theorem dX7_cycle_21 : decode cX7_cycle 21 = .ok (.ireturn, 1) := by decide +kernel
theorem dX7_cycle_22 : decode cX7_cycle 22 = .ok (.aload_n 0, 1) := by decide +kernel
theorem dX7_cycle_23 : decode cX7_cycle 23 = .ok (.getfield 51, 3) := by decide +kernel
theorem dX7_cycle_26 : decode cX7_cycle 26 = .ok (.invokevirtual 250, 3) := by decide +kernel
theorem dX7_cycle_29 : decode cX7_cycle 29 = .ok (.bipush 30, 2) := by decide +kernel
theorem dX7_cycle_31 : decode cX7_cycle 31 = .ok (.if_icmp .lt 6, 3) := by decide +kernel
theorem dX7_cycle_34 : decode cX7_cycle 34 = .ok (.bipush (-2), 2) := by decide +kernel
theorem dX7_cycle_36 : decode cX7_cycle 36 = .ok (.ireturn, 1) := by decide +kernel
theorem dX7_cycle_37 : decode cX7_cycle 37 = .ok (.aload_n 0, 1) := by decide +kernel
theorem dX7_cycle_38 : decode cX7_cycle 38 = .ok (.getfield 51, 3) := by decide +kernel
theorem dX7_cycle_41 : decode cX7_cycle 41 = .ok (.iload_n 1, 1) := by decide +kernel
theorem dX7_cycle_42 : decode cX7_cycle 42 = .ok (.iload_n 2, 1) := by decide +kernel
theorem dX7_cycle_43 : decode cX7_cycle 43 = .ok (.invokevirtual 253, 3) := by decide +kernel
theorem dX7_cycle_46 : decode cX7_cycle 46 = .ok (.aload_n 0, 1) := by decide +kernel
theorem dX7_cycle_47 : decode cX7_cycle 47 = .ok (.getfield 51, 3) := by decide +kernel
theorem dX7_cycle_50 : decode cX7_cycle 50 = .ok (.invokevirtual 250, 3) := by decide +kernel
theorem dX7_cycle_53 : decode cX7_cycle 53 = .ok (.ireturn, 1) := by decide +kernel
set_option maxRecDepth 20000 in
theorem ggX7_used_X1_partsUsed : GoodIn wsX7_used wsX1_partsUsed := goodIn_r _ [8, 9, 30, 31] (by decide +kernel) (by decide +kernel)
set_option maxRecDepth 20000 in
theorem gX7_used_X1_partsUsed : GoodIn wsX7_used (wsV RX7 255 RX1 yX1_partsUsed wsX1_partsUsed) := goodIn_app (goodIn_of _ (by decide +kernel)) ggX7_used_X1_partsUsed
set_option maxRecDepth 20000 in
theorem ggX7_used_X2_put : GoodIn wsX7_used wsX2_put := goodIn_r _ [14, 15, 16, 17, 18, 13, 19, 32, 33] (by decide +kernel) (by decide +kernel)
set_option maxRecDepth 20000 in
theorem gX7_used_X2_put : GoodIn wsX7_used (wsV RX7 208 RX2 yX2_put wsX2_put) := goodIn_app (goodIn_of _ (by decide +kernel)) ggX7_used_X2_put
theorem dX7_used_0 : decode cX7_used 0 = .ok (.aload_n 0, 1) := by decide +kernel
theorem dX7_used_1 : decode cX7_used 1 = .ok (.getfield 51, 3) := by decide +kernel
theorem dX7_used_4 : decode cX7_used 4 = .ok (.invokevirtual 255, 3) := by decide +kernel
theorem dX7_used_7 : decode cX7_used 7 = .ok (.lstore_n 1, 1) := by decide +kernel
theorem dX7_used_8 : decode cX7_used 8 = .ok (.aload_n 0, 1) := by decide +kernel
theorem dX7_used_9 : decode cX7_used 9 = .ok (.getfield 58, 3) := by decide +kernel
theorem dX7_used_12 : decode cX7_used 12 = .ok (.lload_n 1, 1) := by decide +kernel
theorem dX7_used_13 : decode cX7_used 13 = .ok (.ldc2_w 259, 3) := by decide +kernel
theorem dX7_used_16 : decode cX7_used 16 = .ok (.invokevirtual 208, 3) := by decide +kernel
theorem dX7_used_19 : decode cX7_used 19 = .ok (.lload_n 1, 1) := by decide +kernel
theorem dX7_used_20 : decode cX7_used 20 = .ok (.ldc2_w 259, 3) := by decide +kernel
theorem dX7_used_23 : decode cX7_used 23 = .ok (.lcmp, 1) := by decide +kernel
theorem dX7_used_24 : decode cX7_used 24 = .ok (.ifCond .le 7, 3) := by decide +kernel
theorem dX7_used_27 : decode cX7_used 27 = .ok (.iconst 1, 1) := by decide +kernel
theorem dX7_used_28 : decode cX7_used 28 = .ok (.goto 4, 3) := by decide +kernel
theorem dX7_used_31 : decode cX7_used 31 = .ok (.iconst 0, 1) := by decide +kernel
theorem dX7_used_32 : decode cX7_used 32 = .ok (.ireturn, 1) := by decide +kernel
set_option maxRecDepth 20000 in
theorem ggX7_read_X7_isWithin : GoodIn wsX7_read wsX7_isWithin := goodIn_r _ [6] (by decide +kernel) (by decide +kernel)
set_option maxRecDepth 20000 in
theorem gX7_read_X7_isWithin : GoodIn wsX7_read (va_wsS RX7 107 yX7_isWithin wsX7_isWithin) := goodIn_app (goodIn_of _ (by decide +kernel)) ggX7_read_X7_isWithin
set_option maxRecDepth 20000 in
theorem ggX7_read_X7_refusalOfRest : GoodIn wsX7_read wsX7_refusalOfRest := goodIn_r _ [10, 2, 11, 12, 13, 14, 15, 16, 3, 4, 5, 6, 17, 18, 19, 20, 21, 22, 23, 24, 25, 26, 27, 33, 34, 35, 36, 37, 38, 39, 40, 41, 42, 43, 44, 45, 46, 47, 48, 49] (by decide +kernel) (by decide +kernel)
set_option maxRecDepth 20000 in
theorem gX7_read_X7_refusalOfRest : GoodIn wsX7_read (wsV RX7 184 RX7 yX7_refusalOfRest wsX7_refusalOfRest) := goodIn_app (goodIn_of _ (by decide +kernel)) ggX7_read_X7_refusalOfRest
set_option maxRecDepth 20000 in
theorem ggX7_read_X4_replaceReading : GoodIn wsX7_read wsX4_replaceReading := goodIn_r _ [31, 32, 43, 44, 45, 46, 47, 48, 49] (by decide +kernel) (by decide +kernel)
set_option maxRecDepth 20000 in
theorem gX7_read_X4_replaceReading : GoodIn wsX7_read (wsV RX7 261 RX4 yX4_replaceReading wsX4_replaceReading) := goodIn_app (goodIn_of _ (by decide +kernel)) ggX7_read_X4_replaceReading
theorem dX7_read_0 : decode cX7_read 0 = .ok (.aload_n 0, 1) := by decide +kernel
theorem dX7_read_1 : decode cX7_read 1 = .ok (.iload_n 1, 1) := by decide +kernel
theorem dX7_read_2 : decode cX7_read 2 = .ok (.iload_n 2, 1) := by decide +kernel
theorem dX7_read_3 : decode cX7_read 3 = .ok (.bipush (-9), 2) := by decide +kernel
theorem dX7_read_5 : decode cX7_read 5 = .ok (.if_icmp .eq 13, 3) := by decide +kernel
theorem dX7_read_8 : decode cX7_read 8 = .ok (.iload_n 2, 1) := by decide +kernel
theorem dX7_read_9 : decode cX7_read 9 = .ok (.iconst 0, 1) := by decide +kernel
theorem dX7_read_10 : decode cX7_read 10 = .ok (.ldc 249, 2) := by decide +kernel
theorem dX7_read_12 : decode cX7_read 12 = .ok (.invokestatic 107, 3) := by decide +kernel
theorem dX7_read_15 : decode cX7_read 15 = .ok (.ifCond .eq 7, 3) := by decide +kernel
theorem dX7_read_18 : decode cX7_read 18 = .ok (.iconst 1, 1) := by decide +kernel
theorem dX7_read_19 : decode cX7_read 19 = .ok (.goto 4, 3) := by decide +kernel
theorem dX7_read_22 : decode cX7_read 22 = .ok (.iconst 0, 1) := by decide +kernel
theorem dX7_read_23 : decode cX7_read 23 = .ok (.invokevirtual 184, 3) := by decide +kernel
theorem dX7_read_26 : decode cX7_read 26 = .ok (.istore_n 3, 1) := by decide +kernel
theorem dX7_read_27 : decode cX7_read 27 = .ok (.iload_n 3, 1) := by decide +kernel
theorem dX7_read_28 : decode cX7_read 28 = .ok (.ifCond .eq 5, 3) := by decide +kernel
theorem dX7_read_31 : decode cX7_read 31 = .ok (.iload_n 3, 1) := by decide +kernel
theorem dX7_read_32 : decode cX7_read 32 = .ok (.ireturn, 1) := by decide +kernel
theorem dX7_read_33 : decode cX7_read 33 = .ok (.aload_n 0, 1) := by decide +kernel
theorem dX7_read_34 : decode cX7_read 34 = .ok (.getfield 30, 3) := by decide +kernel
theorem dX7_read_37 : decode cX7_read 37 = .ok (.iload_n 1, 1) := by decide +kernel
theorem dX7_read_38 : decode cX7_read 38 = .ok (.iload_n 2, 1) := by decide +kernel
theorem dX7_read_39 : decode cX7_read 39 = .ok (.invokevirtual 261, 3) := by decide +kernel
theorem dX7_read_42 : decode cX7_read 42 = .ok (.ireturn, 1) := by decide +kernel
set_option maxRecDepth 20000 in
theorem ggX7_missing_X7_isStep : GoodIn wsX7_missing wsX7_isStep := goodIn_r _ [6, 7, 8, 5, 9] (by decide +kernel) (by decide +kernel)
set_option maxRecDepth 20000 in
theorem gX7_missing_X7_isStep : GoodIn wsX7_missing (va_wsS RX7 143 yX7_isStep wsX7_isStep) := goodIn_app (goodIn_of _ (by decide +kernel)) ggX7_missing_X7_isStep
set_option maxRecDepth 20000 in
theorem ggX7_missing_X4_hasReading : GoodIn wsX7_missing wsX4_hasReading := goodIn_r _ [14, 15, 16, 17, 18, 13, 19, 20, 21, 22, 23, 24, 25, 120, 121, 122, 123, 124, 125, 126] (by decide +kernel) (by decide +kernel)
set_option maxRecDepth 20000 in
theorem gX7_missing_X4_hasReading : GoodIn wsX7_missing (wsV RX7 264 RX4 yX4_hasReading wsX4_hasReading) := goodIn_app (goodIn_of _ (by decide +kernel)) ggX7_missing_X4_hasReading
set_option maxRecDepth 20000 in
theorem ggX7_missing_X4_noteBearing : GoodIn wsX7_missing wsX4_noteBearing := goodIn_r _ [29, 15, 30, 25, 31, 32, 33, 13, 34, 35, 36, 21, 22, 23, 24, 37, 38, 39, 40, 41, 42, 43, 44, 45, 46, 47, 48, 49, 50, 51, 52, 53, 54, 55, 56, 57, 58, 59, 60, 61, 62, 63, 64, 65, 66, 67, 68, 69, 70, 71, 72, 73, 74, 75, 76, 77, 78, 79, 120, 121, 122, 123, 124, 125, 126, 127, 128, 129, 130, 131, 132, 133, 134, 135, 136] (by decide +kernel) (by decide +kernel)
set_option maxRecDepth 20000 in
theorem gX7_missing_X4_noteBearing : GoodIn wsX7_missing (wsV RX7 200 RX4 yX4_noteBearing wsX4_noteBearing) := goodIn_app (goodIn_of _ (by decide +kernel)) ggX7_missing_X4_noteBearing
set_option maxRecDepth 20000 in
theorem ggX7_missing_X4_differenceWithout : GoodIn wsX7_missing wsX4_differenceWithout := goodIn_r _ [83, 15, 20, 84, 85, 75, 86, 16, 17, 18, 13, 19, 21, 22, 23, 24, 25, 87, 88, 89, 90, 30, 36, 35, 91, 78, 79, 92, 74, 76, 37, 38, 39, 40, 41, 42, 93, 94, 95, 96, 51, 53, 54, 55, 97, 98, 99, 65, 100, 101, 69, 70, 71, 72, 73, 77, 120, 121, 122, 123, 124, 125, 126, 127, 128, 129, 130, 131, 132, 133, 134, 135, 136] (by decide +kernel) (by decide +kernel)
set_option maxRecDepth 20000 in
theorem gX7_missing_X4_differenceWithout : GoodIn wsX7_missing (wsV RX7 268 RX4 yX4_differenceWithout wsX4_differenceWithout) := goodIn_app (goodIn_of _ (by decide +kernel)) ggX7_missing_X4_differenceWithout
set_option maxRecDepth 20000 in
theorem ggX7_missing_X4_made : GoodIn wsX7_missing wsX4_made := goodIn_r _ [105, 15, 120, 121, 122, 123, 124, 125, 126] (by decide +kernel) (by decide +kernel)
set_option maxRecDepth 20000 in
theorem gX7_missing_X4_made : GoodIn wsX7_missing (wsV RX7 178 RX4 yX4_made wsX4_made) := goodIn_app (goodIn_of _ (by decide +kernel)) ggX7_missing_X4_made
set_option maxRecDepth 20000 in
theorem ggX7_missing_X4_isBearing : GoodIn wsX7_missing wsX4_isBearing := goodIn_r _ [109, 30, 120, 121, 122, 123, 124, 125, 126] (by decide +kernel) (by decide +kernel)
set_option maxRecDepth 20000 in
theorem gX7_missing_X4_isBearing : GoodIn wsX7_missing (wsV RX7 271 RX4 yX4_isBearing wsX4_isBearing) := goodIn_app (goodIn_of _ (by decide +kernel)) ggX7_missing_X4_isBearing
theorem dX7_missing_0 : decode cX7_missing 0 = .ok (.iload_n 1, 1) := by decide +kernel
theorem dX7_missing_1 : decode cX7_missing 1 = .ok (.invokestatic 143, 3) := by decide +kernel
theorem dX7_missing_4 : decode cX7_missing 4 = .ok (.ifCond .ne 5, 3) := by decide +kernel
theorem dX7_missing_7 : decode cX7_missing 7 = .ok (.iconst (-1), 1) := by decide +kernel
theorem dX7_missing_8 : decode cX7_missing 8 = .ok (.ireturn, 1) := by decide +kernel
theorem dX7_missing_9 : decode cX7_missing 9 = .ok (.aload_n 0, 1) := by decide +kernel
theorem dX7_missing_10 : decode cX7_missing 10 = .ok (.getfield 30, 3) := by decide +kernel
theorem dX7_missing_13 : decode cX7_missing 13 = .ok (.invokevirtual 264, 3) := by decide +kernel
theorem dX7_missing_16 : decode cX7_missing 16 = .ok (.ifCond .ne 6, 3) := by decide +kernel
theorem dX7_missing_19 : decode cX7_missing 19 = .ok (.bipush (-4), 2) := by decide +kernel
theorem dX7_missing_21 : decode cX7_missing 21 = .ok (.ireturn, 1) := by decide +kernel
theorem dX7_missing_22 : decode cX7_missing 22 = .ok (.aload_n 0, 1) := by decide +kernel
theorem dX7_missing_23 : decode cX7_missing 23 = .ok (.getfield 30, 3) := by decide +kernel
theorem dX7_missing_26 : decode cX7_missing 26 = .ok (.iload_n 1, 1) := by decide +kernel
theorem dX7_missing_27 : decode cX7_missing 27 = .ok (.invokevirtual 200, 3) := by decide +kernel
theorem dX7_missing_30 : decode cX7_missing 30 = .ok (.bipush (-9), 2) := by decide +kernel
theorem dX7_missing_32 : decode cX7_missing 32 = .ok (.istore_n 2, 1) := by decide +kernel
theorem dX7_missing_33 : decode cX7_missing 33 = .ok (.aload_n 0, 1) := by decide +kernel
theorem dX7_missing_34 : decode cX7_missing 34 = .ok (.getfield 30, 3) := by decide +kernel
theorem dX7_missing_37 : decode cX7_missing 37 = .ok (.bipush (-9), 2) := by decide +kernel
theorem dX7_missing_39 : decode cX7_missing 39 = .ok (.invokevirtual 268, 3) := by decide +kernel
theorem dX7_missing_42 : decode cX7_missing 42 = .ok (.istore_n 3, 1) := by decide +kernel
theorem dX7_missing_43 : decode cX7_missing 43 = .ok (.iconst 0, 1) := by decide +kernel
theorem dX7_missing_44 : decode cX7_missing 44 = .ok (.istore 4, 2) := by decide +kernel
theorem dX7_missing_46 : decode cX7_missing 46 = .ok (.iload 4, 2) := by decide +kernel
theorem dX7_missing_48 : decode cX7_missing 48 = .ok (.aload_n 0, 1) := by decide +kernel
theorem dX7_missing_49 : decode cX7_missing 49 = .ok (.getfield 30, 3) := by decide +kernel
theorem dX7_missing_52 : decode cX7_missing 52 = .ok (.invokevirtual 178, 3) := by decide +kernel
theorem dX7_missing_55 : decode cX7_missing 55 = .ok (.if_icmp .ge 44, 3) := by decide +kernel
theorem dX7_missing_58 : decode cX7_missing 58 = .ok (.aload_n 0, 1) := by decide +kernel
theorem dX7_missing_59 : decode cX7_missing 59 = .ok (.getfield 30, 3) := by decide +kernel
theorem dX7_missing_62 : decode cX7_missing 62 = .ok (.iload 4, 2) := by decide +kernel
theorem dX7_missing_64 : decode cX7_missing 64 = .ok (.invokevirtual 271, 3) := by decide +kernel
theorem dX7_missing_67 : decode cX7_missing 67 = .ok (.ifCond .eq 26, 3) := by decide +kernel
theorem dX7_missing_70 : decode cX7_missing 70 = .ok (.aload_n 0, 1) := by decide +kernel
theorem dX7_missing_71 : decode cX7_missing 71 = .ok (.getfield 30, 3) := by decide +kernel
theorem dX7_missing_74 : decode cX7_missing 74 = .ok (.iload 4, 2) := by decide +kernel
theorem dX7_missing_76 : decode cX7_missing 76 = .ok (.invokevirtual 268, 3) := by decide +kernel
theorem dX7_missing_79 : decode cX7_missing 79 = .ok (.istore 5, 2) := by decide +kernel
theorem dX7_missing_81 : decode cX7_missing 81 = .ok (.iload 5, 2) := by decide +kernel
theorem dX7_missing_83 : decode cX7_missing 83 = .ok (.iload_n 3, 1) := by decide +kernel
theorem dX7_missing_84 : decode cX7_missing 84 = .ok (.if_icmp .ge 9, 3) := by decide +kernel
theorem dX7_missing_87 : decode cX7_missing 87 = .ok (.iload 4, 2) := by decide +kernel
theorem dX7_missing_89 : decode cX7_missing 89 = .ok (.istore_n 2, 1) := by decide +kernel
theorem dX7_missing_90 : decode cX7_missing 90 = .ok (.iload 5, 2) := by decide +kernel
theorem dX7_missing_92 : decode cX7_missing 92 = .ok (.istore_n 3, 1) := by decide +kernel
theorem dX7_missing_93 : decode cX7_missing 93 = .ok (.iinc 4 1, 3) := by decide +kernel
theorem dX7_missing_96 : decode cX7_missing 96 = .ok (.goto (-50), 3) := by decide +kernel
theorem dX7_missing_99 : decode cX7_missing 99 = .ok (.aload_n 0, 1) := by decide +kernel
theorem dX7_missing_100 : decode cX7_missing 100 = .ok (.iload_n 3, 1) := by decide +kernel
theorem dX7_missing_101 : decode cX7_missing 101 = .ok (.putfield 70, 3) := by decide +kernel
theorem dX7_missing_104 : decode cX7_missing 104 = .ok (.iload_n 2, 1) := by decide +kernel
theorem dX7_missing_105 : decode cX7_missing 105 = .ok (.ireturn, 1) := by decide +kernel
theorem dX7_asked_0 : decode cX7_asked 0 = .ok (.aload_n 0, 1) := by decide +kernel
theorem dX7_asked_1 : decode cX7_asked 1 = .ok (.getfield 70, 3) := by decide +kernel
theorem dX7_asked_4 : decode cX7_asked 4 = .ok (.ireturn, 1) := by decide +kernel
theorem dX7_upper_0 : decode cX7_upper 0 = .ok (.aload_n 0, 1) := by decide +kernel
theorem dX7_upper_1 : decode cX7_upper 1 = .ok (.getfield 58, 3) := by decide +kernel
theorem dX7_upper_4 : decode cX7_upper 4 = .ok (.getfield 274, 3) := by decide +kernel
theorem dX7_upper_7 : decode cX7_upper 7 = .ok (.lreturn, 1) := by decide +kernel
theorem dX7_lower_0 : decode cX7_lower 0 = .ok (.aload_n 0, 1) := by decide +kernel
theorem dX7_lower_1 : decode cX7_lower 1 = .ok (.getfield 58, 3) := by decide +kernel
theorem dX7_lower_4 : decode cX7_lower 4 = .ok (.getfield 278, 3) := by decide +kernel
theorem dX7_lower_7 : decode cX7_lower 7 = .ok (.lreturn, 1) := by decide +kernel
set_option maxRecDepth 20000 in
theorem ggX7_count_X5_legs : GoodIn wsX7_count wsX5_legs := goodIn_r _ [9, 10, 53, 54, 55, 56, 57, 58, 59] (by decide +kernel) (by decide +kernel)
set_option maxRecDepth 20000 in
theorem gX7_count_X5_legs : GoodIn wsX7_count (wsV RX7 123 RX5 yX5_legs wsX5_legs) := goodIn_app (goodIn_of _ (by decide +kernel)) ggX7_count_X5_legs
set_option maxRecDepth 20000 in
theorem ggX7_count_X5_length : GoodIn wsX7_count wsX5_length := goodIn_r _ [14, 15, 53, 54, 55, 56, 57, 58, 59] (by decide +kernel) (by decide +kernel)
set_option maxRecDepth 20000 in
theorem gX7_count_X5_length : GoodIn wsX7_count (wsV RX7 134 RX5 yX5_length wsX5_length) := goodIn_app (goodIn_of _ (by decide +kernel)) ggX7_count_X5_length
set_option maxRecDepth 20000 in
theorem ggX7_count_X4_made : GoodIn wsX7_count wsX4_made := goodIn_r _ [20, 21, 60, 61, 62, 63, 64, 65, 66] (by decide +kernel) (by decide +kernel)
set_option maxRecDepth 20000 in
theorem gX7_count_X4_made : GoodIn wsX7_count (wsV RX7 178 RX4 yX4_made wsX4_made) := goodIn_app (goodIn_of _ (by decide +kernel)) ggX7_count_X4_made
set_option maxRecDepth 20000 in
theorem ggX7_count_X4_kept : GoodIn wsX7_count wsX4_kept := goodIn_r _ [25, 21, 26, 27, 28, 19, 29, 30, 60, 61, 62, 63, 64, 65, 66] (by decide +kernel) (by decide +kernel)
set_option maxRecDepth 20000 in
theorem gX7_count_X4_kept : GoodIn wsX7_count (wsV RX7 281 RX4 yX4_kept wsX4_kept) := goodIn_app (goodIn_of _ (by decide +kernel)) ggX7_count_X4_kept
set_option maxRecDepth 20000 in
theorem ggX7_count_X3_size : GoodIn wsX7_count wsX3_size := goodIn_r _ [35, 36, 67, 68] (by decide +kernel) (by decide +kernel)
set_option maxRecDepth 20000 in
theorem gX7_count_X3_size : GoodIn wsX7_count (wsV RX7 222 RX3 yX3_size wsX3_size) := goodIn_app (goodIn_of _ (by decide +kernel)) ggX7_count_X3_size
set_option maxRecDepth 20000 in
theorem ggX7_count_X1_lines : GoodIn wsX7_count wsX1_lines := goodIn_r _ [41, 42, 69, 70] (by decide +kernel) (by decide +kernel)
set_option maxRecDepth 20000 in
theorem gX7_count_X1_lines : GoodIn wsX7_count (wsV RX7 250 RX1 yX1_lines wsX1_lines) := goodIn_app (goodIn_of _ (by decide +kernel)) ggX7_count_X1_lines
theorem dX7_count_0 : decode cX7_count 0 = .ok (.iload_n 1, 1) := by decide +kernel
theorem dX7_count_1 : decode cX7_count 1 = .ok (.tableswitch 87 0 5 #[39, 47, 55, 63, 71, 79], 39) := by decide +kernel
theorem dX7_count_40 : decode cX7_count 40 = .ok (.aload_n 0, 1) := by decide +kernel
theorem dX7_count_41 : decode cX7_count 41 = .ok (.getfield 21, 3) := by decide +kernel
theorem dX7_count_44 : decode cX7_count 44 = .ok (.invokevirtual 123, 3) := by decide +kernel
theorem dX7_count_47 : decode cX7_count 47 = .ok (.ireturn, 1) := by decide +kernel
theorem dX7_count_48 : decode cX7_count 48 = .ok (.aload_n 0, 1) := by decide +kernel
theorem dX7_count_49 : decode cX7_count 49 = .ok (.getfield 21, 3) := by decide +kernel
theorem dX7_count_52 : decode cX7_count 52 = .ok (.invokevirtual 134, 3) := by decide +kernel
theorem dX7_count_55 : decode cX7_count 55 = .ok (.ireturn, 1) := by decide +kernel
theorem dX7_count_56 : decode cX7_count 56 = .ok (.aload_n 0, 1) := by decide +kernel
theorem dX7_count_57 : decode cX7_count 57 = .ok (.getfield 30, 3) := by decide +kernel
theorem dX7_count_60 : decode cX7_count 60 = .ok (.invokevirtual 178, 3) := by decide +kernel
theorem dX7_count_63 : decode cX7_count 63 = .ok (.ireturn, 1) := by decide +kernel
theorem dX7_count_64 : decode cX7_count 64 = .ok (.aload_n 0, 1) := by decide +kernel
theorem dX7_count_65 : decode cX7_count 65 = .ok (.getfield 30, 3) := by decide +kernel
theorem dX7_count_68 : decode cX7_count 68 = .ok (.invokevirtual 281, 3) := by decide +kernel
theorem dX7_count_71 : decode cX7_count 71 = .ok (.ireturn, 1) := by decide +kernel
theorem dX7_count_72 : decode cX7_count 72 = .ok (.aload_n 0, 1) := by decide +kernel
theorem dX7_count_73 : decode cX7_count 73 = .ok (.getfield 37, 3) := by decide +kernel
theorem dX7_count_76 : decode cX7_count 76 = .ok (.invokevirtual 222, 3) := by decide +kernel
theorem dX7_count_79 : decode cX7_count 79 = .ok (.ireturn, 1) := by decide +kernel
theorem dX7_count_80 : decode cX7_count 80 = .ok (.aload_n 0, 1) := by decide +kernel
theorem dX7_count_81 : decode cX7_count 81 = .ok (.getfield 51, 3) := by decide +kernel
theorem dX7_count_84 : decode cX7_count 84 = .ok (.invokevirtual 250, 3) := by decide +kernel
theorem dX7_count_87 : decode cX7_count 87 = .ok (.ireturn, 1) := by decide +kernel
theorem dX7_count_88 : decode cX7_count 88 = .ok (.iconst (-1), 1) := by decide +kernel
theorem dX7_count_89 : decode cX7_count 89 = .ok (.ireturn, 1) := by decide +kernel
theorem dX7_finding_0 : decode cX7_finding 0 = .ok (.aload_n 0, 1) := by decide +kernel
theorem dX7_finding_1 : decode cX7_finding 1 = .ok (.getfield 66, 3) := by decide +kernel
theorem dX7_finding_4 : decode cX7_finding 4 = .ok (.ireturn, 1) := by decide +kernel
set_option maxRecDepth 20000 in
theorem ggX7_findings_X7_isWithin : GoodIn wsX7_findings wsX7_isWithin := goodIn_r _ [5] (by decide +kernel) (by decide +kernel)
set_option maxRecDepth 20000 in
theorem gX7_findings_X7_isWithin : GoodIn wsX7_findings (va_wsS RX7 107 yX7_isWithin wsX7_isWithin) := goodIn_app (goodIn_of _ (by decide +kernel)) ggX7_findings_X7_isWithin
theorem dX7_findings_0 : decode cX7_findings 0 = .ok (.iload_n 1, 1) := by decide +kernel
theorem dX7_findings_1 : decode cX7_findings 1 = .ok (.iconst 1, 1) := by decide +kernel
theorem dX7_findings_2 : decode cX7_findings 2 = .ok (.iconst 5, 1) := by decide +kernel
theorem dX7_findings_3 : decode cX7_findings 3 = .ok (.invokestatic 107, 3) := by decide +kernel
theorem dX7_findings_6 : decode cX7_findings 6 = .ok (.ifCond .eq 12, 3) := by decide +kernel
theorem dX7_findings_9 : decode cX7_findings 9 = .ok (.aload_n 0, 1) := by decide +kernel
theorem dX7_findings_10 : decode cX7_findings 10 = .ok (.getfield 62, 3) := by decide +kernel
theorem dX7_findings_13 : decode cX7_findings 13 = .ok (.iload_n 1, 1) := by decide +kernel
theorem dX7_findings_14 : decode cX7_findings 14 = .ok (.iaload, 1) := by decide +kernel
theorem dX7_findings_15 : decode cX7_findings 15 = .ok (.goto 4, 3) := by decide +kernel
theorem dX7_findings_18 : decode cX7_findings 18 = .ok (.iconst (-1), 1) := by decide +kernel
theorem dX7_findings_19 : decode cX7_findings 19 = .ok (.ireturn, 1) := by decide +kernel
set_option maxRecDepth 20000 in
theorem ggX7_digest_X7_count : GoodIn wsX7_digest wsX7_count := goodIn_r _ [11, 3, 4, 12, 13, 14, 15, 16, 17, 18, 19, 20, 21, 22, 23, 24, 25, 26, 27, 28, 29, 30, 31, 32, 33, 34, 35, 36, 37, 38, 39, 40, 41, 42, 43, 44, 45, 46, 47, 48, 49, 50, 51, 96, 97, 98, 99, 100, 101, 102, 103, 104, 105, 106, 107, 108, 109, 110, 111, 112, 113, 114, 115, 116, 117, 118, 119, 120, 121, 122, 123] (by decide +kernel) (by decide +kernel)
set_option maxRecDepth 20000 in
theorem gX7_digest_X7_count : GoodIn wsX7_digest (wsV RX7 288 RX7 yX7_count wsX7_count) := goodIn_app (goodIn_of _ (by decide +kernel)) ggX7_digest_X7_count
set_option maxRecDepth 20000 in
theorem ggX7_digest_X5_mixInto : GoodIn wsX7_digest wsX5_mixInto := goodIn_r _ [55, 19, 56, 57, 58, 59, 106, 107, 108, 109, 110, 111, 112] (by decide +kernel) (by decide +kernel)
set_option maxRecDepth 20000 in
theorem gX7_digest_X5_mixInto : GoodIn wsX7_digest (wsV RX7 291 RX5 yX5_mixInto wsX5_mixInto) := goodIn_app (goodIn_of _ (by decide +kernel)) ggX7_digest_X5_mixInto
set_option maxRecDepth 20000 in
theorem ggX7_digest_X4_mixInto : GoodIn wsX7_digest wsX4_mixInto := goodIn_r _ [63, 30, 64, 65, 35, 36, 37, 28, 38, 39, 66, 67, 68, 69, 70, 71, 72, 73, 74, 75, 76, 77, 21, 22, 17, 23, 24, 113, 114, 115, 116, 117, 118, 119, 106, 107, 108, 109, 110, 111, 112] (by decide +kernel) (by decide +kernel)
set_option maxRecDepth 20000 in
theorem gX7_digest_X4_mixInto : GoodIn wsX7_digest (wsV RX7 295 RX4 yX4_mixInto wsX4_mixInto) := goodIn_app (goodIn_of _ (by decide +kernel)) ggX7_digest_X4_mixInto
set_option maxRecDepth 20000 in
theorem ggX7_digest_X0_mixInto : GoodIn wsX7_digest wsX0_mixInto := goodIn_r _ [82, 83, 84, 85, 86, 124, 125, 126, 127] (by decide +kernel) (by decide +kernel)
set_option maxRecDepth 20000 in
theorem gX7_digest_X0_mixInto : GoodIn wsX7_digest (wsV RX7 296 RX0 yX0_mixInto wsX0_mixInto) := goodIn_app (goodIn_of _ (by decide +kernel)) ggX7_digest_X0_mixInto
set_option maxRecDepth 20000 in
theorem ggX7_digest_X6_mixInto : GoodIn wsX7_digest wsX6_mixInto := goodIn_r _ [91, 92, 93, 94, 95, 128, 129, 130] (by decide +kernel) (by decide +kernel)
set_option maxRecDepth 20000 in
theorem gX7_digest_X6_mixInto : GoodIn wsX7_digest (wsV RX7 297 RX6 yX6_mixInto wsX6_mixInto) := goodIn_app (goodIn_of _ (by decide +kernel)) ggX7_digest_X6_mixInto
theorem dX7_digest_0 : decode cX7_digest 0 = .ok (.ldc2_w 284, 3) := by decide +kernel
theorem dX7_digest_3 : decode cX7_digest 3 = .ok (.lstore_n 1, 1) := by decide +kernel
theorem dX7_digest_4 : decode cX7_digest 4 = .ok (.iconst 0, 1) := by decide +kernel
theorem dX7_digest_5 : decode cX7_digest 5 = .ok (.istore_n 3, 1) := by decide +kernel
theorem dX7_digest_6 : decode cX7_digest 6 = .ok (.iload_n 3, 1) := by decide +kernel
theorem dX7_digest_7 : decode cX7_digest 7 = .ok (.iconst 5, 1) := by decide +kernel
theorem dX7_digest_8 : decode cX7_digest 8 = .ok (.if_icmp .gt 22, 3) := by decide +kernel
theorem dX7_digest_11 : decode cX7_digest 11 = .ok (.ldc2_w 286, 3) := by decide +kernel
theorem dX7_digest_14 : decode cX7_digest 14 = .ok (.lload_n 1, 1) := by decide +kernel
theorem dX7_digest_15 : decode cX7_digest 15 = .ok (.lmul, 1) := by decide +kernel
theorem dX7_digest_16 : decode cX7_digest 16 = .ok (.aload_n 0, 1) := by decide +kernel
theorem dX7_digest_17 : decode cX7_digest 17 = .ok (.iload_n 3, 1) := by decide +kernel
theorem dX7_digest_18 : decode cX7_digest 18 = .ok (.invokevirtual 288, 3) := by decide +kernel
theorem dX7_digest_21 : decode cX7_digest 21 = .ok (.i2l, 1) := by decide +kernel
theorem dX7_digest_22 : decode cX7_digest 22 = .ok (.ladd, 1) := by decide +kernel
theorem dX7_digest_23 : decode cX7_digest 23 = .ok (.lstore_n 1, 1) := by decide +kernel
theorem dX7_digest_24 : decode cX7_digest 24 = .ok (.iinc 3 1, 3) := by decide +kernel
theorem dX7_digest_27 : decode cX7_digest 27 = .ok (.goto (-21), 3) := by decide +kernel
theorem dX7_digest_30 : decode cX7_digest 30 = .ok (.aload_n 0, 1) := by decide +kernel
theorem dX7_digest_31 : decode cX7_digest 31 = .ok (.getfield 21, 3) := by decide +kernel
theorem dX7_digest_34 : decode cX7_digest 34 = .ok (.lload_n 1, 1) := by decide +kernel
theorem dX7_digest_35 : decode cX7_digest 35 = .ok (.invokevirtual 291, 3) := by decide +kernel
theorem dX7_digest_38 : decode cX7_digest 38 = .ok (.lstore_n 1, 1) := by decide +kernel
theorem dX7_digest_39 : decode cX7_digest 39 = .ok (.aload_n 0, 1) := by decide +kernel
theorem dX7_digest_40 : decode cX7_digest 40 = .ok (.getfield 30, 3) := by decide +kernel
theorem dX7_digest_43 : decode cX7_digest 43 = .ok (.lload_n 1, 1) := by decide +kernel
theorem dX7_digest_44 : decode cX7_digest 44 = .ok (.invokevirtual 295, 3) := by decide +kernel
theorem dX7_digest_47 : decode cX7_digest 47 = .ok (.lstore_n 1, 1) := by decide +kernel
theorem dX7_digest_48 : decode cX7_digest 48 = .ok (.aload_n 0, 1) := by decide +kernel
theorem dX7_digest_49 : decode cX7_digest 49 = .ok (.getfield 44, 3) := by decide +kernel
theorem dX7_digest_52 : decode cX7_digest 52 = .ok (.lload_n 1, 1) := by decide +kernel
theorem dX7_digest_53 : decode cX7_digest 53 = .ok (.invokevirtual 296, 3) := by decide +kernel
theorem dX7_digest_56 : decode cX7_digest 56 = .ok (.lstore_n 1, 1) := by decide +kernel
theorem dX7_digest_57 : decode cX7_digest 57 = .ok (.aload_n 0, 1) := by decide +kernel
theorem dX7_digest_58 : decode cX7_digest 58 = .ok (.getfield 10, 3) := by decide +kernel
theorem dX7_digest_61 : decode cX7_digest 61 = .ok (.lload_n 1, 1) := by decide +kernel
theorem dX7_digest_62 : decode cX7_digest 62 = .ok (.invokevirtual 297, 3) := by decide +kernel
theorem dX7_digest_65 : decode cX7_digest 65 = .ok (.lreturn, 1) := by decide +kernel
set_option maxRecDepth 20000 in
theorem ggX7_refuse_X7_isWithin : GoodIn wsX7_refuse wsX7_isWithin := goodIn_r _ [6] (by decide +kernel) (by decide +kernel)
set_option maxRecDepth 20000 in
theorem gX7_refuse_X7_isWithin : GoodIn wsX7_refuse (va_wsS RX7 107 yX7_isWithin wsX7_isWithin) := goodIn_app (goodIn_of _ (by decide +kernel)) ggX7_refuse_X7_isWithin
theorem dX7_refuse_0 : decode cX7_refuse 0 = .ok (.iload_n 1, 1) := by decide +kernel
theorem dX7_refuse_1 : decode cX7_refuse 1 = .ok (.iconst 1, 1) := by decide +kernel
theorem dX7_refuse_2 : decode cX7_refuse 2 = .ok (.iconst 5, 1) := by decide +kernel
theorem dX7_refuse_3 : decode cX7_refuse 3 = .ok (.invokestatic 107, 3) := by decide +kernel
theorem dX7_refuse_6 : decode cX7_refuse 6 = .ok (.ifCond .eq 18, 3) := by decide +kernel
theorem dX7_refuse_9 : decode cX7_refuse 9 = .ok (.aload_n 0, 1) := by decide +kernel
theorem dX7_refuse_10 : decode cX7_refuse 10 = .ok (.getfield 62, 3) := by decide +kernel
theorem dX7_refuse_13 : decode cX7_refuse 13 = .ok (.iload_n 1, 1) := by decide +kernel
theorem dX7_refuse_14 : decode cX7_refuse 14 = .ok (.dup2, 1) := by decide +kernel
theorem dX7_refuse_15 : decode cX7_refuse 15 = .ok (.iaload, 1) := by decide +kernel
theorem dX7_refuse_16 : decode cX7_refuse 16 = .ok (.iconst 1, 1) := by decide +kernel
theorem dX7_refuse_17 : decode cX7_refuse 17 = .ok (.iadd, 1) := by decide +kernel
theorem dX7_refuse_18 : decode cX7_refuse 18 = .ok (.iastore, 1) := by decide +kernel
theorem dX7_refuse_19 : decode cX7_refuse 19 = .ok (.aload_n 0, 1) := by decide +kernel
theorem dX7_refuse_20 : decode cX7_refuse 20 = .ok (.iload_n 1, 1) := by decide +kernel
theorem dX7_refuse_21 : decode cX7_refuse 21 = .ok (.putfield 66, 3) := by decide +kernel
theorem dX7_refuse_24 : decode cX7_refuse 24 = .ok (.bipush (-3), 2) := by decide +kernel
theorem dX7_refuse_26 : decode cX7_refuse 26 = .ok (.ireturn, 1) := by decide +kernel
set_option maxRecDepth 20000 in
theorem ggX7_refusalOfStuff_X7_isStuff : GoodIn wsX7_refusalOfStuff wsX7_isStuff := goodIn_r _ [5, 6, 7, 4, 8] (by decide +kernel) (by decide +kernel)
set_option maxRecDepth 20000 in
theorem gX7_refusalOfStuff_X7_isStuff : GoodIn wsX7_refusalOfStuff (va_wsS RX7 73 yX7_isStuff wsX7_isStuff) := goodIn_app (goodIn_of _ (by decide +kernel)) ggX7_refusalOfStuff_X7_isStuff
set_option maxRecDepth 20000 in
theorem ggX7_refusalOfStuff_X6_isThere : GoodIn wsX7_refusalOfStuff wsX6_isThere := goodIn_r _ [13, 14, 31, 32, 33] (by decide +kernel) (by decide +kernel)
set_option maxRecDepth 20000 in
theorem gX7_refusalOfStuff_X6_isThere : GoodIn wsX7_refusalOfStuff (wsV RX7 100 RX6 yX6_isThere wsX6_isThere) := goodIn_app (goodIn_of _ (by decide +kernel)) ggX7_refusalOfStuff_X6_isThere
set_option maxRecDepth 20000 in
theorem ggX7_refusalOfStuff_X7_refuse : GoodIn wsX7_refusalOfStuff wsX7_refuse := goodIn_r _ [18, 19, 20, 6, 7, 4, 8, 21, 22, 23, 24, 25, 26, 27, 28, 29, 30] (by decide +kernel) (by decide +kernel)
set_option maxRecDepth 20000 in
theorem gX7_refusalOfStuff_X7_refuse : GoodIn wsX7_refusalOfStuff (wsV RX7 77 RX7 yX7_refuse wsX7_refuse) := goodIn_app (goodIn_of _ (by decide +kernel)) ggX7_refusalOfStuff_X7_refuse
theorem dX7_refusalOfStuff_0 : decode cX7_refusalOfStuff 0 = .ok (.iload_n 1, 1) := by decide +kernel
theorem dX7_refusalOfStuff_1 : decode cX7_refusalOfStuff 1 = .ok (.invokestatic 73, 3) := by decide +kernel
theorem dX7_refusalOfStuff_4 : decode cX7_refusalOfStuff 4 = .ok (.ifCond .ne 5, 3) := by decide +kernel
theorem dX7_refusalOfStuff_7 : decode cX7_refusalOfStuff 7 = .ok (.iconst (-1), 1) := by decide +kernel
theorem dX7_refusalOfStuff_8 : decode cX7_refusalOfStuff 8 = .ok (.ireturn, 1) := by decide +kernel
theorem dX7_refusalOfStuff_9 : decode cX7_refusalOfStuff 9 = .ok (.aload_n 0, 1) := by decide +kernel
theorem dX7_refusalOfStuff_10 : decode cX7_refusalOfStuff 10 = .ok (.getfield 10, 3) := by decide +kernel
theorem dX7_refusalOfStuff_13 : decode cX7_refusalOfStuff 13 = .ok (.iload_n 1, 1) := by decide +kernel
theorem dX7_refusalOfStuff_14 : decode cX7_refusalOfStuff 14 = .ok (.invokevirtual 100, 3) := by decide +kernel
theorem dX7_refusalOfStuff_17 : decode cX7_refusalOfStuff 17 = .ok (.ifCond .eq 7, 3) := by decide +kernel
theorem dX7_refusalOfStuff_20 : decode cX7_refusalOfStuff 20 = .ok (.iconst 0, 1) := by decide +kernel
theorem dX7_refusalOfStuff_21 : decode cX7_refusalOfStuff 21 = .ok (.goto 8, 3) := by decide +kernel
theorem dX7_refusalOfStuff_24 : decode cX7_refusalOfStuff 24 = .ok (.aload_n 0, 1) := by decide +kernel
theorem dX7_refusalOfStuff_25 : decode cX7_refusalOfStuff 25 = .ok (.iconst 1, 1) := by decide +kernel
theorem dX7_refusalOfStuff_26 : decode cX7_refusalOfStuff 26 = .ok (.invokevirtual 77, 3) := by decide +kernel
theorem dX7_refusalOfStuff_29 : decode cX7_refusalOfStuff 29 = .ok (.ireturn, 1) := by decide +kernel
set_option maxRecDepth 20000 in
theorem ggX7_refusalOfRest_X4_made : GoodIn wsX7_refusalOfRest wsX4_made := goodIn_r _ [6, 7, 33, 34, 35, 36, 37, 38, 39] (by decide +kernel) (by decide +kernel)
set_option maxRecDepth 20000 in
theorem gX7_refusalOfRest_X4_made : GoodIn wsX7_refusalOfRest (wsV RX7 178 RX4 yX4_made wsX4_made) := goodIn_app (goodIn_of _ (by decide +kernel)) ggX7_refusalOfRest_X4_made
set_option maxRecDepth 20000 in
theorem ggX7_refusalOfRest_X7_isWithin : GoodIn wsX7_refusalOfRest wsX7_isWithin := goodIn_r _ [11] (by decide +kernel) (by decide +kernel)
set_option maxRecDepth 20000 in
theorem gX7_refusalOfRest_X7_isWithin : GoodIn wsX7_refusalOfRest (va_wsS RX7 107 yX7_isWithin wsX7_isWithin) := goodIn_app (goodIn_of _ (by decide +kernel)) ggX7_refusalOfRest_X7_isWithin
set_option maxRecDepth 20000 in
theorem ggX7_refusalOfRest_X4_isGone : GoodIn wsX7_refusalOfRest wsX4_isGone := goodIn_r _ [15, 16, 33, 34, 35, 36, 37, 38, 39] (by decide +kernel) (by decide +kernel)
set_option maxRecDepth 20000 in
theorem gX7_refusalOfRest_X4_isGone : GoodIn wsX7_refusalOfRest (wsV RX7 298 RX4 yX4_isGone wsX4_isGone) := goodIn_app (goodIn_of _ (by decide +kernel)) ggX7_refusalOfRest_X4_isGone
set_option maxRecDepth 20000 in
theorem ggX7_refusalOfRest_X7_refuse : GoodIn wsX7_refusalOfRest wsX7_refuse := goodIn_r _ [20, 21, 22, 8, 9, 10, 11, 23, 24, 25, 26, 27, 28, 29, 30, 31, 32] (by decide +kernel) (by decide +kernel)
set_option maxRecDepth 20000 in
theorem gX7_refusalOfRest_X7_refuse : GoodIn wsX7_refusalOfRest (wsV RX7 77 RX7 yX7_refuse wsX7_refuse) := goodIn_app (goodIn_of _ (by decide +kernel)) ggX7_refusalOfRest_X7_refuse
theorem dX7_refusalOfRest_0 : decode cX7_refusalOfRest 0 = .ok (.iload_n 1, 1) := by decide +kernel
theorem dX7_refusalOfRest_1 : decode cX7_refusalOfRest 1 = .ok (.iconst 0, 1) := by decide +kernel
theorem dX7_refusalOfRest_2 : decode cX7_refusalOfRest 2 = .ok (.aload_n 0, 1) := by decide +kernel
theorem dX7_refusalOfRest_3 : decode cX7_refusalOfRest 3 = .ok (.getfield 30, 3) := by decide +kernel
theorem dX7_refusalOfRest_6 : decode cX7_refusalOfRest 6 = .ok (.invokevirtual 178, 3) := by decide +kernel
theorem dX7_refusalOfRest_9 : decode cX7_refusalOfRest 9 = .ok (.iconst 1, 1) := by decide +kernel
theorem dX7_refusalOfRest_10 : decode cX7_refusalOfRest 10 = .ok (.isub, 1) := by decide +kernel
theorem dX7_refusalOfRest_11 : decode cX7_refusalOfRest 11 = .ok (.invokestatic 107, 3) := by decide +kernel
theorem dX7_refusalOfRest_14 : decode cX7_refusalOfRest 14 = .ok (.ifCond .eq 7, 3) := by decide +kernel
theorem dX7_refusalOfRest_17 : decode cX7_refusalOfRest 17 = .ok (.iload_n 2, 1) := by decide +kernel
theorem dX7_refusalOfRest_18 : decode cX7_refusalOfRest 18 = .ok (.ifCond .ne 5, 3) := by decide +kernel
theorem dX7_refusalOfRest_21 : decode cX7_refusalOfRest 21 = .ok (.iconst (-1), 1) := by decide +kernel
theorem dX7_refusalOfRest_22 : decode cX7_refusalOfRest 22 = .ok (.ireturn, 1) := by decide +kernel
theorem dX7_refusalOfRest_23 : decode cX7_refusalOfRest 23 = .ok (.aload_n 0, 1) := by decide +kernel
theorem dX7_refusalOfRest_24 : decode cX7_refusalOfRest 24 = .ok (.getfield 30, 3) := by decide +kernel
theorem dX7_refusalOfRest_27 : decode cX7_refusalOfRest 27 = .ok (.iload_n 1, 1) := by decide +kernel
theorem dX7_refusalOfRest_28 : decode cX7_refusalOfRest 28 = .ok (.invokevirtual 298, 3) := by decide +kernel
theorem dX7_refusalOfRest_31 : decode cX7_refusalOfRest 31 = .ok (.ifCond .eq 11, 3) := by decide +kernel
theorem dX7_refusalOfRest_34 : decode cX7_refusalOfRest 34 = .ok (.aload_n 0, 1) := by decide +kernel
theorem dX7_refusalOfRest_35 : decode cX7_refusalOfRest 35 = .ok (.iconst 1, 1) := by decide +kernel
theorem dX7_refusalOfRest_36 : decode cX7_refusalOfRest 36 = .ok (.invokevirtual 77, 3) := by decide +kernel
theorem dX7_refusalOfRest_39 : decode cX7_refusalOfRest 39 = .ok (.goto 4, 3) := by decide +kernel
theorem dX7_refusalOfRest_42 : decode cX7_refusalOfRest 42 = .ok (.iconst 0, 1) := by decide +kernel
theorem dX7_refusalOfRest_43 : decode cX7_refusalOfRest 43 = .ok (.ireturn, 1) := by decide +kernel
set_option maxRecDepth 20000 in
theorem ggX7_refusalOfSpring_X7_isStep : GoodIn wsX7_refusalOfSpring wsX7_isStep := goodIn_r _ [5, 6, 7, 4, 8] (by decide +kernel) (by decide +kernel)
set_option maxRecDepth 20000 in
theorem gX7_refusalOfSpring_X7_isStep : GoodIn wsX7_refusalOfSpring (va_wsS RX7 143 yX7_isStep wsX7_isStep) := goodIn_app (goodIn_of _ (by decide +kernel)) ggX7_refusalOfSpring_X7_isStep
set_option maxRecDepth 20000 in
theorem ggX7_refusalOfSpring_X7_refusalOfRest : GoodIn wsX7_refusalOfSpring wsX7_refusalOfRest := goodIn_r _ [12, 1, 13, 14, 15, 16, 17, 18, 6, 7, 4, 8, 19, 20, 21, 22, 23, 24, 25, 26, 27, 28, 29, 34, 35, 36, 37, 38, 39, 40, 41, 42, 43, 44, 45, 46, 47, 48, 49, 50] (by decide +kernel) (by decide +kernel)
set_option maxRecDepth 20000 in
theorem gX7_refusalOfSpring_X7_refusalOfRest : GoodIn wsX7_refusalOfSpring (wsV RX7 184 RX7 yX7_refusalOfRest wsX7_refusalOfRest) := goodIn_app (goodIn_of _ (by decide +kernel)) ggX7_refusalOfSpring_X7_refusalOfRest
set_option maxRecDepth 20000 in
theorem ggX7_refusalOfSpring_X4_isOfKind : GoodIn wsX7_refusalOfSpring wsX4_isOfKind := goodIn_r _ [33, 23, 44, 45, 46, 47, 48, 49, 50] (by decide +kernel) (by decide +kernel)
set_option maxRecDepth 20000 in
theorem gX7_refusalOfSpring_X4_isOfKind : GoodIn wsX7_refusalOfSpring (wsV RX7 194 RX4 yX4_isOfKind wsX4_isOfKind) := goodIn_app (goodIn_of _ (by decide +kernel)) ggX7_refusalOfSpring_X4_isOfKind
set_option maxRecDepth 20000 in
theorem ggX7_refusalOfSpring_X7_refuse : GoodIn wsX7_refusalOfSpring wsX7_refuse := goodIn_r _ [27, 28, 29, 6, 7, 4, 8, 34, 35, 36, 37, 38, 39, 40, 41, 42, 43] (by decide +kernel) (by decide +kernel)
set_option maxRecDepth 20000 in
theorem gX7_refusalOfSpring_X7_refuse : GoodIn wsX7_refusalOfSpring (wsV RX7 77 RX7 yX7_refuse wsX7_refuse) := goodIn_app (goodIn_of _ (by decide +kernel)) ggX7_refusalOfSpring_X7_refuse
theorem dX7_refusalOfSpring_0 : decode cX7_refusalOfSpring 0 = .ok (.aload_n 0, 1) := by decide +kernel
theorem dX7_refusalOfSpring_1 : decode cX7_refusalOfSpring 1 = .ok (.iload_n 1, 1) := by decide +kernel
theorem dX7_refusalOfSpring_2 : decode cX7_refusalOfSpring 2 = .ok (.iload_n 2, 1) := by decide +kernel
theorem dX7_refusalOfSpring_3 : decode cX7_refusalOfSpring 3 = .ok (.invokestatic 143, 3) := by decide +kernel
theorem dX7_refusalOfSpring_6 : decode cX7_refusalOfSpring 6 = .ok (.invokevirtual 184, 3) := by decide +kernel
theorem dX7_refusalOfSpring_9 : decode cX7_refusalOfSpring 9 = .ok (.istore_n 3, 1) := by decide +kernel
theorem dX7_refusalOfSpring_10 : decode cX7_refusalOfSpring 10 = .ok (.iload_n 3, 1) := by decide +kernel
theorem dX7_refusalOfSpring_11 : decode cX7_refusalOfSpring 11 = .ok (.ifCond .eq 5, 3) := by decide +kernel
theorem dX7_refusalOfSpring_14 : decode cX7_refusalOfSpring 14 = .ok (.iload_n 3, 1) := by decide +kernel
theorem dX7_refusalOfSpring_15 : decode cX7_refusalOfSpring 15 = .ok (.ireturn, 1) := by decide +kernel
theorem dX7_refusalOfSpring_16 : decode cX7_refusalOfSpring 16 = .ok (.aload_n 0, 1) := by decide +kernel
theorem dX7_refusalOfSpring_17 : decode cX7_refusalOfSpring 17 = .ok (.getfield 30, 3) := by decide +kernel
theorem dX7_refusalOfSpring_20 : decode cX7_refusalOfSpring 20 = .ok (.iload_n 1, 1) := by decide +kernel
theorem dX7_refusalOfSpring_21 : decode cX7_refusalOfSpring 21 = .ok (.iconst 2, 1) := by decide +kernel
theorem dX7_refusalOfSpring_22 : decode cX7_refusalOfSpring 22 = .ok (.invokevirtual 194, 3) := by decide +kernel
theorem dX7_refusalOfSpring_25 : decode cX7_refusalOfSpring 25 = .ok (.ifCond .eq 7, 3) := by decide +kernel
theorem dX7_refusalOfSpring_28 : decode cX7_refusalOfSpring 28 = .ok (.iconst 0, 1) := by decide +kernel
theorem dX7_refusalOfSpring_29 : decode cX7_refusalOfSpring 29 = .ok (.goto 8, 3) := by decide +kernel
theorem dX7_refusalOfSpring_32 : decode cX7_refusalOfSpring 32 = .ok (.aload_n 0, 1) := by decide +kernel
theorem dX7_refusalOfSpring_33 : decode cX7_refusalOfSpring 33 = .ok (.iconst 3, 1) := by decide +kernel
theorem dX7_refusalOfSpring_34 : decode cX7_refusalOfSpring 34 = .ok (.invokevirtual 77, 3) := by decide +kernel
theorem dX7_refusalOfSpring_37 : decode cX7_refusalOfSpring 37 = .ok (.ireturn, 1) := by decide +kernel
theorem dX7_isWithin_0 : decode cX7_isWithin 0 = .ok (.iload_n 0, 1) := by decide +kernel
theorem dX7_isWithin_1 : decode cX7_isWithin 1 = .ok (.iload_n 1, 1) := by decide +kernel
theorem dX7_isWithin_2 : decode cX7_isWithin 2 = .ok (.if_icmp .lt 12, 3) := by decide +kernel
theorem dX7_isWithin_5 : decode cX7_isWithin 5 = .ok (.iload_n 0, 1) := by decide +kernel
theorem dX7_isWithin_6 : decode cX7_isWithin 6 = .ok (.iload_n 2, 1) := by decide +kernel
theorem dX7_isWithin_7 : decode cX7_isWithin 7 = .ok (.if_icmp .gt 7, 3) := by decide +kernel
theorem dX7_isWithin_10 : decode cX7_isWithin 10 = .ok (.iconst 1, 1) := by decide +kernel
theorem dX7_isWithin_11 : decode cX7_isWithin 11 = .ok (.goto 4, 3) := by decide +kernel
theorem dX7_isWithin_14 : decode cX7_isWithin 14 = .ok (.iconst 0, 1) := by decide +kernel
theorem dX7_isWithin_15 : decode cX7_isWithin 15 = .ok (.ireturn, 1) := by decide +kernel
set_option maxRecDepth 20000 in
theorem ggX7_isStuff_X7_isWithin : GoodIn wsX7_isStuff wsX7_isWithin := goodIn_r _ [4] (by decide +kernel) (by decide +kernel)
set_option maxRecDepth 20000 in
theorem gX7_isStuff_X7_isWithin : GoodIn wsX7_isStuff (va_wsS RX7 107 yX7_isWithin wsX7_isWithin) := goodIn_app (goodIn_of _ (by decide +kernel)) ggX7_isStuff_X7_isWithin
theorem dX7_isStuff_0 : decode cX7_isStuff 0 = .ok (.iload_n 0, 1) := by decide +kernel
theorem dX7_isStuff_1 : decode cX7_isStuff 1 = .ok (.iconst 0, 1) := by decide +kernel
theorem dX7_isStuff_2 : decode cX7_isStuff 2 = .ok (.iconst 3, 1) := by decide +kernel
theorem dX7_isStuff_3 : decode cX7_isStuff 3 = .ok (.invokestatic 107, 3) := by decide +kernel
theorem dX7_isStuff_6 : decode cX7_isStuff 6 = .ok (.ireturn, 1) := by decide +kernel
set_option maxRecDepth 20000 in
theorem ggX7_isStep_X7_isWithin : GoodIn wsX7_isStep wsX7_isWithin := goodIn_r _ [4] (by decide +kernel) (by decide +kernel)
set_option maxRecDepth 20000 in
theorem gX7_isStep_X7_isWithin : GoodIn wsX7_isStep (va_wsS RX7 107 yX7_isWithin wsX7_isWithin) := goodIn_app (goodIn_of _ (by decide +kernel)) ggX7_isStep_X7_isWithin
theorem dX7_isStep_0 : decode cX7_isStep 0 = .ok (.iload_n 0, 1) := by decide +kernel
theorem dX7_isStep_1 : decode cX7_isStep 1 = .ok (.iconst 0, 1) := by decide +kernel
theorem dX7_isStep_2 : decode cX7_isStep 2 = .ok (.bipush 15, 2) := by decide +kernel
theorem dX7_isStep_4 : decode cX7_isStep 4 = .ok (.invokestatic 107, 3) := by decide +kernel
theorem dX7_isStep_7 : decode cX7_isStep 7 = .ok (.ireturn, 1) := by decide +kernel
set_option maxRecDepth 20000 in
theorem ggX7_isWay_X7_isWithin : GoodIn wsX7_isWay wsX7_isWithin := goodIn_r _ [4] (by decide +kernel) (by decide +kernel)
set_option maxRecDepth 20000 in
theorem gX7_isWay_X7_isWithin : GoodIn wsX7_isWay (va_wsS RX7 107 yX7_isWithin wsX7_isWithin) := goodIn_app (goodIn_of _ (by decide +kernel)) ggX7_isWay_X7_isWithin
theorem dX7_isWay_0 : decode cX7_isWay 0 = .ok (.iload_n 0, 1) := by decide +kernel
theorem dX7_isWay_1 : decode cX7_isWay 1 = .ok (.iconst 0, 1) := by decide +kernel
theorem dX7_isWay_2 : decode cX7_isWay 2 = .ok (.iconst 5, 1) := by decide +kernel
theorem dX7_isWay_3 : decode cX7_isWay 3 = .ok (.invokestatic 107, 3) := by decide +kernel
theorem dX7_isWay_6 : decode cX7_isWay 6 = .ok (.ireturn, 1) := by decide +kernel
set_option maxRecDepth 20000 in
theorem ggX7_isAxis_X7_isWithin : GoodIn wsX7_isAxis wsX7_isWithin := goodIn_r _ [4] (by decide +kernel) (by decide +kernel)
set_option maxRecDepth 20000 in
theorem gX7_isAxis_X7_isWithin : GoodIn wsX7_isAxis (va_wsS RX7 107 yX7_isWithin wsX7_isWithin) := goodIn_app (goodIn_of _ (by decide +kernel)) ggX7_isAxis_X7_isWithin
theorem dX7_isAxis_0 : decode cX7_isAxis 0 = .ok (.iload_n 0, 1) := by decide +kernel
theorem dX7_isAxis_1 : decode cX7_isAxis 1 = .ok (.iconst 0, 1) := by decide +kernel
theorem dX7_isAxis_2 : decode cX7_isAxis 2 = .ok (.iconst 2, 1) := by decide +kernel
theorem dX7_isAxis_3 : decode cX7_isAxis 3 = .ok (.invokestatic 107, 3) := by decide +kernel
theorem dX7_isAxis_6 : decode cX7_isAxis 6 = .ok (.ireturn, 1) := by decide +kernel
set_option maxRecDepth 20000 in
theorem ggX7_isThickness_X7_isWithin : GoodIn wsX7_isThickness wsX7_isWithin := goodIn_r _ [4] (by decide +kernel) (by decide +kernel)
set_option maxRecDepth 20000 in
theorem gX7_isThickness_X7_isWithin : GoodIn wsX7_isThickness (va_wsS RX7 107 yX7_isWithin wsX7_isWithin) := goodIn_app (goodIn_of _ (by decide +kernel)) ggX7_isThickness_X7_isWithin
theorem dX7_isThickness_0 : decode cX7_isThickness 0 = .ok (.iload_n 0, 1) := by decide +kernel
theorem dX7_isThickness_1 : decode cX7_isThickness 1 = .ok (.iconst 1, 1) := by decide +kernel
theorem dX7_isThickness_2 : decode cX7_isThickness 2 = .ok (.bipush 100, 2) := by decide +kernel
theorem dX7_isThickness_4 : decode cX7_isThickness 4 = .ok (.invokestatic 107, 3) := by decide +kernel
theorem dX7_isThickness_7 : decode cX7_isThickness 7 = .ok (.ireturn, 1) := by decide +kernel
set_option maxRecDepth 20000 in
theorem ggX7_isKind_X7_isWithin : GoodIn wsX7_isKind wsX7_isWithin := goodIn_r _ [4] (by decide +kernel) (by decide +kernel)
set_option maxRecDepth 20000 in
theorem gX7_isKind_X7_isWithin : GoodIn wsX7_isKind (va_wsS RX7 107 yX7_isWithin wsX7_isWithin) := goodIn_app (goodIn_of _ (by decide +kernel)) ggX7_isKind_X7_isWithin
theorem dX7_isKind_0 : decode cX7_isKind 0 = .ok (.iload_n 0, 1) := by decide +kernel
theorem dX7_isKind_1 : decode cX7_isKind 1 = .ok (.iconst 0, 1) := by decide +kernel
theorem dX7_isKind_2 : decode cX7_isKind 2 = .ok (.iconst 3, 1) := by decide +kernel
theorem dX7_isKind_3 : decode cX7_isKind 3 = .ok (.invokestatic 107, 3) := by decide +kernel
theorem dX7_isKind_6 : decode cX7_isKind 6 = .ok (.ireturn, 1) := by decide +kernel
set_option maxRecDepth 20000 in
theorem ggX7_isRate_X7_isWithin : GoodIn wsX7_isRate wsX7_isWithin := goodIn_r _ [4] (by decide +kernel) (by decide +kernel)
set_option maxRecDepth 20000 in
theorem gX7_isRate_X7_isWithin : GoodIn wsX7_isRate (va_wsS RX7 107 yX7_isWithin wsX7_isWithin) := goodIn_app (goodIn_of _ (by decide +kernel)) ggX7_isRate_X7_isWithin
theorem dX7_isRate_0 : decode cX7_isRate 0 = .ok (.iload_n 0, 1) := by decide +kernel
theorem dX7_isRate_1 : decode cX7_isRate 1 = .ok (.iconst 1, 1) := by decide +kernel
theorem dX7_isRate_2 : decode cX7_isRate 2 = .ok (.sipush 500, 3) := by decide +kernel
theorem dX7_isRate_5 : decode cX7_isRate 5 = .ok (.invokestatic 107, 3) := by decide +kernel
theorem dX7_isRate_8 : decode cX7_isRate 8 = .ok (.ireturn, 1) := by decide +kernel
set_option maxRecDepth 20000 in
theorem ggX7_isCase_X7_isWithin : GoodIn wsX7_isCase wsX7_isWithin := goodIn_r _ [4] (by decide +kernel) (by decide +kernel)
set_option maxRecDepth 20000 in
theorem gX7_isCase_X7_isWithin : GoodIn wsX7_isCase (va_wsS RX7 107 yX7_isWithin wsX7_isWithin) := goodIn_app (goodIn_of _ (by decide +kernel)) ggX7_isCase_X7_isWithin
theorem dX7_isCase_0 : decode cX7_isCase 0 = .ok (.iload_n 0, 1) := by decide +kernel
theorem dX7_isCase_1 : decode cX7_isCase 1 = .ok (.iconst 0, 1) := by decide +kernel
theorem dX7_isCase_2 : decode cX7_isCase 2 = .ok (.bipush 7, 2) := by decide +kernel
theorem dX7_isCase_4 : decode cX7_isCase 4 = .ok (.invokestatic 107, 3) := by decide +kernel
theorem dX7_isCase_7 : decode cX7_isCase 7 = .ok (.ireturn, 1) := by decide +kernel
