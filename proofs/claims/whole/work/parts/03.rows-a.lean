theorem dX0_init_0 : decode cX0_init 0 = .ok (.aload_n 0, 1) := by decide +kernel
theorem dX0_init_1 : decode cX0_init 1 = .ok (.invokespecial 3, 3) := by decide +kernel
theorem dX0_init_4 : decode cX0_init 4 = .ok (.aload_n 0, 1) := by decide +kernel
theorem dX0_init_5 : decode cX0_init 5 = .ok (.bipush 8, 2) := by decide +kernel
theorem dX0_init_7 : decode cX0_init 7 = .ok (.newarray .int, 2) := by decide +kernel
theorem dX0_init_9 : decode cX0_init 9 = .ok (.putfield 9, 3) := by decide +kernel
theorem dX0_init_12 : decode cX0_init 12 = .ok (.aload_n 0, 1) := by decide +kernel
theorem dX0_init_13 : decode cX0_init 13 = .ok (.bipush 8, 2) := by decide +kernel
theorem dX0_init_15 : decode cX0_init 15 = .ok (.newarray .int, 2) := by decide +kernel
theorem dX0_init_17 : decode cX0_init 17 = .ok (.putfield 15, 3) := by decide +kernel
theorem dX0_init_20 : decode cX0_init 20 = .ok (.aload_n 0, 1) := by decide +kernel
theorem dX0_init_21 : decode cX0_init 21 = .ok (.bipush 8, 2) := by decide +kernel
theorem dX0_init_23 : decode cX0_init 23 = .ok (.newarray .int, 2) := by decide +kernel
theorem dX0_init_25 : decode cX0_init 25 = .ok (.putfield 18, 3) := by decide +kernel
theorem dX0_init_28 : decode cX0_init 28 = .ok (.aload_n 0, 1) := by decide +kernel
theorem dX0_init_29 : decode cX0_init 29 = .ok (.bipush 8, 2) := by decide +kernel
theorem dX0_init_31 : decode cX0_init 31 = .ok (.newarray .int, 2) := by decide +kernel
theorem dX0_init_33 : decode cX0_init 33 = .ok (.putfield 21, 3) := by decide +kernel
theorem dX0_init_36 : decode cX0_init 36 = .ok (.aload_n 0, 1) := by decide +kernel
theorem dX0_init_37 : decode cX0_init 37 = .ok (.getfield 18, 3) := by decide +kernel
theorem dX0_init_40 : decode cX0_init 40 = .ok (.iconst 1, 1) := by decide +kernel
theorem dX0_init_41 : decode cX0_init 41 = .ok (.invokestatic 24, 3) := by decide +kernel
theorem dX0_init_44 : decode cX0_init 44 = .ok (.return_, 1) := by decide +kernel
theorem dX0_put_0 : decode cX0_put 0 = .ok (.aload_n 0, 1) := by decide +kernel
theorem dX0_put_1 : decode cX0_put 1 = .ok (.getfield 9, 3) := by decide +kernel
theorem dX0_put_4 : decode cX0_put 4 = .ok (.iload_n 1, 1) := by decide +kernel
theorem dX0_put_5 : decode cX0_put 5 = .ok (.iload_n 2, 1) := by decide +kernel
theorem dX0_put_6 : decode cX0_put 6 = .ok (.iastore, 1) := by decide +kernel
theorem dX0_put_7 : decode cX0_put 7 = .ok (.aload_n 0, 1) := by decide +kernel
theorem dX0_put_8 : decode cX0_put 8 = .ok (.getfield 15, 3) := by decide +kernel
theorem dX0_put_11 : decode cX0_put 11 = .ok (.iload_n 1, 1) := by decide +kernel
theorem dX0_put_12 : decode cX0_put 12 = .ok (.iload_n 3, 1) := by decide +kernel
theorem dX0_put_13 : decode cX0_put 13 = .ok (.iastore, 1) := by decide +kernel
theorem dX0_put_14 : decode cX0_put 14 = .ok (.aload_n 0, 1) := by decide +kernel
theorem dX0_put_15 : decode cX0_put 15 = .ok (.getfield 18, 3) := by decide +kernel
theorem dX0_put_18 : decode cX0_put 18 = .ok (.iload_n 1, 1) := by decide +kernel
theorem dX0_put_19 : decode cX0_put 19 = .ok (.iload 4, 2) := by decide +kernel
theorem dX0_put_21 : decode cX0_put 21 = .ok (.iastore, 1) := by decide +kernel
theorem dX0_put_22 : decode cX0_put 22 = .ok (.return_, 1) := by decide +kernel
theorem dX0_setBarred_0 : decode cX0_setBarred 0 = .ok (.aload_n 0, 1) := by decide +kernel
theorem dX0_setBarred_1 : decode cX0_setBarred 1 = .ok (.getfield 21, 3) := by decide +kernel
theorem dX0_setBarred_4 : decode cX0_setBarred 4 = .ok (.iload_n 1, 1) := by decide +kernel
theorem dX0_setBarred_5 : decode cX0_setBarred 5 = .ok (.iaload, 1) := by decide +kernel
theorem dX0_setBarred_6 : decode cX0_setBarred 6 = .ok (.iconst 1, 1) := by decide +kernel
theorem dX0_setBarred_7 : decode cX0_setBarred 7 = .ok (.iload_n 2, 1) := by decide +kernel
theorem dX0_setBarred_8 : decode cX0_setBarred 8 = .ok (.ishl, 1) := by decide +kernel
theorem dX0_setBarred_9 : decode cX0_setBarred 9 = .ok (.iand, 1) := by decide +kernel
theorem dX0_setBarred_10 : decode cX0_setBarred 10 = .ok (.ifCond .eq 7, 3) := by decide +kernel
theorem dX0_setBarred_13 : decode cX0_setBarred 13 = .ok (.iconst 1, 1) := by decide +kernel
theorem dX0_setBarred_14 : decode cX0_setBarred 14 = .ok (.goto 4, 3) := by decide +kernel
theorem dX0_setBarred_17 : decode cX0_setBarred 17 = .ok (.iconst 0, 1) := by decide +kernel
theorem dX0_setBarred_18 : decode cX0_setBarred 18 = .ok (.istore 4, 2) := by decide +kernel
theorem dX0_setBarred_20 : decode cX0_setBarred 20 = .ok (.iload 4, 2) := by decide +kernel
theorem dX0_setBarred_22 : decode cX0_setBarred 22 = .ok (.iload_n 3, 1) := by decide +kernel
theorem dX0_setBarred_23 : decode cX0_setBarred 23 = .ok (.if_icmp .eq 27, 3) := by decide +kernel
theorem dX0_setBarred_26 : decode cX0_setBarred 26 = .ok (.aload_n 0, 1) := by decide +kernel
theorem dX0_setBarred_27 : decode cX0_setBarred 27 = .ok (.getfield 21, 3) := by decide +kernel
theorem dX0_setBarred_30 : decode cX0_setBarred 30 = .ok (.iload_n 1, 1) := by decide +kernel
theorem dX0_setBarred_31 : decode cX0_setBarred 31 = .ok (.dup2, 1) := by decide +kernel
theorem dX0_setBarred_32 : decode cX0_setBarred 32 = .ok (.iaload, 1) := by decide +kernel
theorem dX0_setBarred_33 : decode cX0_setBarred 33 = .ok (.iconst 1, 1) := by decide +kernel
theorem dX0_setBarred_34 : decode cX0_setBarred 34 = .ok (.iload_n 2, 1) := by decide +kernel
theorem dX0_setBarred_35 : decode cX0_setBarred 35 = .ok (.ishl, 1) := by decide +kernel
theorem dX0_setBarred_36 : decode cX0_setBarred 36 = .ok (.ixor, 1) := by decide +kernel
theorem dX0_setBarred_37 : decode cX0_setBarred 37 = .ok (.iastore, 1) := by decide +kernel
theorem dX0_setBarred_38 : decode cX0_setBarred 38 = .ok (.aload_n 0, 1) := by decide +kernel
theorem dX0_setBarred_39 : decode cX0_setBarred 39 = .ok (.getfield 21, 3) := by decide +kernel
theorem dX0_setBarred_42 : decode cX0_setBarred 42 = .ok (.iload_n 2, 1) := by decide +kernel
theorem dX0_setBarred_43 : decode cX0_setBarred 43 = .ok (.dup2, 1) := by decide +kernel
theorem dX0_setBarred_44 : decode cX0_setBarred 44 = .ok (.iaload, 1) := by decide +kernel
theorem dX0_setBarred_45 : decode cX0_setBarred 45 = .ok (.iconst 1, 1) := by decide +kernel
theorem dX0_setBarred_46 : decode cX0_setBarred 46 = .ok (.iload_n 1, 1) := by decide +kernel
theorem dX0_setBarred_47 : decode cX0_setBarred 47 = .ok (.ishl, 1) := by decide +kernel
theorem dX0_setBarred_48 : decode cX0_setBarred 48 = .ok (.ixor, 1) := by decide +kernel
theorem dX0_setBarred_49 : decode cX0_setBarred 49 = .ok (.iastore, 1) := by decide +kernel
theorem dX0_setBarred_50 : decode cX0_setBarred 50 = .ok (.iload 4, 2) := by decide +kernel
theorem dX0_setBarred_52 : decode cX0_setBarred 52 = .ok (.ireturn, 1) := by decide +kernel
set_option maxRecDepth 20000 in
theorem ggX0_worstSet_X0_goesTogether : GoodIn wsX0_worstSet wsX0_goesTogether := goodIn_r _ [5, 6, 18, 19, 20, 21] (by decide +kernel) (by decide +kernel)
set_option maxRecDepth 20000 in
theorem gX0_worstSet_X0_goesTogether : GoodIn wsX0_worstSet (wsV RX0 30 RX0 yX0_goesTogether wsX0_goesTogether) := goodIn_app (goodIn_of _ (by decide +kernel)) ggX0_worstSet_X0_goesTogether
set_option maxRecDepth 20000 in
theorem ggX0_worstSet_X0_joined : GoodIn wsX0_worstSet wsX0_joined := goodIn_r _ [10, 11, 12, 13, 14, 15, 16, 17, 18, 19, 20, 21] (by decide +kernel) (by decide +kernel)
set_option maxRecDepth 20000 in
theorem gX0_worstSet_X0_joined : GoodIn wsX0_worstSet (wsV RX0 34 RX0 yX0_joined wsX0_joined) := goodIn_app (goodIn_of _ (by decide +kernel)) ggX0_worstSet_X0_joined
theorem dX0_worstSet_0 : decode cX0_worstSet 0 = .ok (.iconst 0, 1) := by decide +kernel
theorem dX0_worstSet_1 : decode cX0_worstSet 1 = .ok (.istore_n 1, 1) := by decide +kernel
theorem dX0_worstSet_2 : decode cX0_worstSet 2 = .ok (.iconst 0, 1) := by decide +kernel
theorem dX0_worstSet_3 : decode cX0_worstSet 3 = .ok (.istore_n 2, 1) := by decide +kernel
theorem dX0_worstSet_4 : decode cX0_worstSet 4 = .ok (.iconst 1, 1) := by decide +kernel
theorem dX0_worstSet_5 : decode cX0_worstSet 5 = .ok (.istore_n 3, 1) := by decide +kernel
theorem dX0_worstSet_6 : decode cX0_worstSet 6 = .ok (.iload_n 3, 1) := by decide +kernel
theorem dX0_worstSet_7 : decode cX0_worstSet 7 = .ok (.sipush 256, 3) := by decide +kernel
theorem dX0_worstSet_10 : decode cX0_worstSet 10 = .ok (.if_icmp .ge 35, 3) := by decide +kernel
theorem dX0_worstSet_13 : decode cX0_worstSet 13 = .ok (.aload_n 0, 1) := by decide +kernel
theorem dX0_worstSet_14 : decode cX0_worstSet 14 = .ok (.iload_n 3, 1) := by decide +kernel
theorem dX0_worstSet_15 : decode cX0_worstSet 15 = .ok (.invokevirtual 30, 3) := by decide +kernel
theorem dX0_worstSet_18 : decode cX0_worstSet 18 = .ok (.ifCond .eq 21, 3) := by decide +kernel
theorem dX0_worstSet_21 : decode cX0_worstSet 21 = .ok (.aload_n 0, 1) := by decide +kernel
theorem dX0_worstSet_22 : decode cX0_worstSet 22 = .ok (.iload_n 3, 1) := by decide +kernel
theorem dX0_worstSet_23 : decode cX0_worstSet 23 = .ok (.invokevirtual 34, 3) := by decide +kernel
theorem dX0_worstSet_26 : decode cX0_worstSet 26 = .ok (.istore 4, 2) := by decide +kernel
theorem dX0_worstSet_28 : decode cX0_worstSet 28 = .ok (.iload 4, 2) := by decide +kernel
theorem dX0_worstSet_30 : decode cX0_worstSet 30 = .ok (.iload_n 2, 1) := by decide +kernel
theorem dX0_worstSet_31 : decode cX0_worstSet 31 = .ok (.if_icmp .le 8, 3) := by decide +kernel
theorem dX0_worstSet_34 : decode cX0_worstSet 34 = .ok (.iload_n 3, 1) := by decide +kernel
theorem dX0_worstSet_35 : decode cX0_worstSet 35 = .ok (.istore_n 1, 1) := by decide +kernel
theorem dX0_worstSet_36 : decode cX0_worstSet 36 = .ok (.iload 4, 2) := by decide +kernel
theorem dX0_worstSet_38 : decode cX0_worstSet 38 = .ok (.istore_n 2, 1) := by decide +kernel
theorem dX0_worstSet_39 : decode cX0_worstSet 39 = .ok (.iinc 3 1, 3) := by decide +kernel
theorem dX0_worstSet_42 : decode cX0_worstSet 42 = .ok (.goto (-36), 3) := by decide +kernel
theorem dX0_worstSet_45 : decode cX0_worstSet 45 = .ok (.iload_n 1, 1) := by decide +kernel
theorem dX0_worstSet_46 : decode cX0_worstSet 46 = .ok (.ireturn, 1) := by decide +kernel
theorem dX0_goesTogether_0 : decode cX0_goesTogether 0 = .ok (.iconst 0, 1) := by decide +kernel
theorem dX0_goesTogether_1 : decode cX0_goesTogether 1 = .ok (.istore_n 2, 1) := by decide +kernel
theorem dX0_goesTogether_2 : decode cX0_goesTogether 2 = .ok (.iload_n 2, 1) := by decide +kernel
theorem dX0_goesTogether_3 : decode cX0_goesTogether 3 = .ok (.bipush 8, 2) := by decide +kernel
theorem dX0_goesTogether_5 : decode cX0_goesTogether 5 = .ok (.if_icmp .ge 30, 3) := by decide +kernel
theorem dX0_goesTogether_8 : decode cX0_goesTogether 8 = .ok (.iload_n 1, 1) := by decide +kernel
theorem dX0_goesTogether_9 : decode cX0_goesTogether 9 = .ok (.iconst 1, 1) := by decide +kernel
theorem dX0_goesTogether_10 : decode cX0_goesTogether 10 = .ok (.iload_n 2, 1) := by decide +kernel
theorem dX0_goesTogether_11 : decode cX0_goesTogether 11 = .ok (.ishl, 1) := by decide +kernel
theorem dX0_goesTogether_12 : decode cX0_goesTogether 12 = .ok (.iand, 1) := by decide +kernel
theorem dX0_goesTogether_13 : decode cX0_goesTogether 13 = .ok (.ifCond .eq 16, 3) := by decide +kernel
theorem dX0_goesTogether_16 : decode cX0_goesTogether 16 = .ok (.iload_n 1, 1) := by decide +kernel
theorem dX0_goesTogether_17 : decode cX0_goesTogether 17 = .ok (.aload_n 0, 1) := by decide +kernel
theorem dX0_goesTogether_18 : decode cX0_goesTogether 18 = .ok (.getfield 21, 3) := by decide +kernel
theorem dX0_goesTogether_21 : decode cX0_goesTogether 21 = .ok (.iload_n 2, 1) := by decide +kernel
theorem dX0_goesTogether_22 : decode cX0_goesTogether 22 = .ok (.iaload, 1) := by decide +kernel
theorem dX0_goesTogether_23 : decode cX0_goesTogether 23 = .ok (.iand, 1) := by decide +kernel
theorem dX0_goesTogether_24 : decode cX0_goesTogether 24 = .ok (.ifCond .eq 5, 3) := by decide +kernel
theorem dX0_goesTogether_27 : decode cX0_goesTogether 27 = .ok (.iconst 0, 1) := by decide +kernel
theorem dX0_goesTogether_28 : decode cX0_goesTogether 28 = .ok (.ireturn, 1) := by decide +kernel
theorem dX0_goesTogether_29 : decode cX0_goesTogether 29 = .ok (.iinc 2 1, 3) := by decide +kernel
theorem dX0_goesTogether_32 : decode cX0_goesTogether 32 = .ok (.goto (-30), 3) := by decide +kernel
theorem dX0_goesTogether_35 : decode cX0_goesTogether 35 = .ok (.iconst 1, 1) := by decide +kernel
theorem dX0_goesTogether_36 : decode cX0_goesTogether 36 = .ok (.ireturn, 1) := by decide +kernel
theorem dX0_joined_0 : decode cX0_joined 0 = .ok (.iconst 0, 1) := by decide +kernel
theorem dX0_joined_1 : decode cX0_joined 1 = .ok (.istore_n 2, 1) := by decide +kernel
theorem dX0_joined_2 : decode cX0_joined 2 = .ok (.iconst 0, 1) := by decide +kernel
theorem dX0_joined_3 : decode cX0_joined 3 = .ok (.istore_n 3, 1) := by decide +kernel
theorem dX0_joined_4 : decode cX0_joined 4 = .ok (.iload_n 3, 1) := by decide +kernel
theorem dX0_joined_5 : decode cX0_joined 5 = .ok (.bipush 8, 2) := by decide +kernel
theorem dX0_joined_7 : decode cX0_joined 7 = .ok (.if_icmp .ge 49, 3) := by decide +kernel
theorem dX0_joined_10 : decode cX0_joined 10 = .ok (.iload_n 1, 1) := by decide +kernel
theorem dX0_joined_11 : decode cX0_joined 11 = .ok (.iconst 1, 1) := by decide +kernel
theorem dX0_joined_12 : decode cX0_joined 12 = .ok (.iload_n 3, 1) := by decide +kernel
theorem dX0_joined_13 : decode cX0_joined 13 = .ok (.ishl, 1) := by decide +kernel
theorem dX0_joined_14 : decode cX0_joined 14 = .ok (.iand, 1) := by decide +kernel
theorem dX0_joined_15 : decode cX0_joined 15 = .ok (.ifCond .eq 35, 3) := by decide +kernel
theorem dX0_joined_18 : decode cX0_joined 18 = .ok (.iload_n 2, 1) := by decide +kernel
theorem dX0_joined_19 : decode cX0_joined 19 = .ok (.aload_n 0, 1) := by decide +kernel
theorem dX0_joined_20 : decode cX0_joined 20 = .ok (.getfield 9, 3) := by decide +kernel
theorem dX0_joined_23 : decode cX0_joined 23 = .ok (.iload_n 3, 1) := by decide +kernel
theorem dX0_joined_24 : decode cX0_joined 24 = .ok (.iaload, 1) := by decide +kernel
theorem dX0_joined_25 : decode cX0_joined 25 = .ok (.aload_n 0, 1) := by decide +kernel
theorem dX0_joined_26 : decode cX0_joined 26 = .ok (.getfield 15, 3) := by decide +kernel
theorem dX0_joined_29 : decode cX0_joined 29 = .ok (.iload_n 3, 1) := by decide +kernel
theorem dX0_joined_30 : decode cX0_joined 30 = .ok (.iaload, 1) := by decide +kernel
theorem dX0_joined_31 : decode cX0_joined 31 = .ok (.imul, 1) := by decide +kernel
theorem dX0_joined_32 : decode cX0_joined 32 = .ok (.aload_n 0, 1) := by decide +kernel
theorem dX0_joined_33 : decode cX0_joined 33 = .ok (.getfield 9, 3) := by decide +kernel
theorem dX0_joined_36 : decode cX0_joined 36 = .ok (.iload_n 3, 1) := by decide +kernel
theorem dX0_joined_37 : decode cX0_joined 37 = .ok (.iaload, 1) := by decide +kernel
theorem dX0_joined_38 : decode cX0_joined 38 = .ok (.aload_n 0, 1) := by decide +kernel
theorem dX0_joined_39 : decode cX0_joined 39 = .ok (.getfield 18, 3) := by decide +kernel
theorem dX0_joined_42 : decode cX0_joined 42 = .ok (.iload_n 3, 1) := by decide +kernel
theorem dX0_joined_43 : decode cX0_joined 43 = .ok (.iaload, 1) := by decide +kernel
theorem dX0_joined_44 : decode cX0_joined 44 = .ok (.imul, 1) := by decide +kernel
theorem dX0_joined_45 : decode cX0_joined 45 = .ok (.invokestatic 38, 3) := by decide +kernel
theorem dX0_joined_48 : decode cX0_joined 48 = .ok (.iadd, 1) := by decide +kernel
theorem dX0_joined_49 : decode cX0_joined 49 = .ok (.istore_n 2, 1) := by decide +kernel
theorem dX0_joined_50 : decode cX0_joined 50 = .ok (.iinc 3 1, 3) := by decide +kernel
theorem dX0_joined_53 : decode cX0_joined 53 = .ok (.goto (-49), 3) := by decide +kernel
theorem dX0_joined_56 : decode cX0_joined 56 = .ok (.iload_n 2, 1) := by decide +kernel
theorem dX0_joined_57 : decode cX0_joined 57 = .ok (.ireturn, 1) := by decide +kernel
theorem dX0_mixInto_0 : decode cX0_mixInto 0 = .ok (.iconst 0, 1) := by decide +kernel
theorem dX0_mixInto_1 : decode cX0_mixInto 1 = .ok (.istore_n 3, 1) := by decide +kernel
theorem dX0_mixInto_2 : decode cX0_mixInto 2 = .ok (.iload_n 3, 1) := by decide +kernel
theorem dX0_mixInto_3 : decode cX0_mixInto 3 = .ok (.bipush 8, 2) := by decide +kernel
theorem dX0_mixInto_5 : decode cX0_mixInto 5 = .ok (.if_icmp .ge 51, 3) := by decide +kernel
theorem dX0_mixInto_8 : decode cX0_mixInto 8 = .ok (.ldc2_w 44, 3) := by decide +kernel
theorem dX0_mixInto_11 : decode cX0_mixInto 11 = .ok (.lload_n 1, 1) := by decide +kernel
theorem dX0_mixInto_12 : decode cX0_mixInto 12 = .ok (.lmul, 1) := by decide +kernel
theorem dX0_mixInto_13 : decode cX0_mixInto 13 = .ok (.aload_n 0, 1) := by decide +kernel
theorem dX0_mixInto_14 : decode cX0_mixInto 14 = .ok (.getfield 9, 3) := by decide +kernel
theorem dX0_mixInto_17 : decode cX0_mixInto 17 = .ok (.iload_n 3, 1) := by decide +kernel
theorem dX0_mixInto_18 : decode cX0_mixInto 18 = .ok (.iaload, 1) := by decide +kernel
theorem dX0_mixInto_19 : decode cX0_mixInto 19 = .ok (.i2l, 1) := by decide +kernel
theorem dX0_mixInto_20 : decode cX0_mixInto 20 = .ok (.ladd, 1) := by decide +kernel
theorem dX0_mixInto_21 : decode cX0_mixInto 21 = .ok (.lstore_n 1, 1) := by decide +kernel
theorem dX0_mixInto_22 : decode cX0_mixInto 22 = .ok (.ldc2_w 44, 3) := by decide +kernel
theorem dX0_mixInto_25 : decode cX0_mixInto 25 = .ok (.lload_n 1, 1) := by decide +kernel
theorem dX0_mixInto_26 : decode cX0_mixInto 26 = .ok (.lmul, 1) := by decide +kernel
theorem dX0_mixInto_27 : decode cX0_mixInto 27 = .ok (.aload_n 0, 1) := by decide +kernel
theorem dX0_mixInto_28 : decode cX0_mixInto 28 = .ok (.getfield 15, 3) := by decide +kernel
theorem dX0_mixInto_31 : decode cX0_mixInto 31 = .ok (.iload_n 3, 1) := by decide +kernel
theorem dX0_mixInto_32 : decode cX0_mixInto 32 = .ok (.iaload, 1) := by decide +kernel
theorem dX0_mixInto_33 : decode cX0_mixInto 33 = .ok (.i2l, 1) := by decide +kernel
theorem dX0_mixInto_34 : decode cX0_mixInto 34 = .ok (.ladd, 1) := by decide +kernel
theorem dX0_mixInto_35 : decode cX0_mixInto 35 = .ok (.lstore_n 1, 1) := by decide +kernel
theorem dX0_mixInto_36 : decode cX0_mixInto 36 = .ok (.ldc2_w 44, 3) := by decide +kernel
theorem dX0_mixInto_39 : decode cX0_mixInto 39 = .ok (.lload_n 1, 1) := by decide +kernel
theorem dX0_mixInto_40 : decode cX0_mixInto 40 = .ok (.lmul, 1) := by decide +kernel
theorem dX0_mixInto_41 : decode cX0_mixInto 41 = .ok (.aload_n 0, 1) := by decide +kernel
theorem dX0_mixInto_42 : decode cX0_mixInto 42 = .ok (.getfield 18, 3) := by decide +kernel
theorem dX0_mixInto_45 : decode cX0_mixInto 45 = .ok (.iload_n 3, 1) := by decide +kernel
theorem dX0_mixInto_46 : decode cX0_mixInto 46 = .ok (.iaload, 1) := by decide +kernel
theorem dX0_mixInto_47 : decode cX0_mixInto 47 = .ok (.i2l, 1) := by decide +kernel
theorem dX0_mixInto_48 : decode cX0_mixInto 48 = .ok (.ladd, 1) := by decide +kernel
theorem dX0_mixInto_49 : decode cX0_mixInto 49 = .ok (.lstore_n 1, 1) := by decide +kernel
theorem dX0_mixInto_50 : decode cX0_mixInto 50 = .ok (.iinc 3 1, 3) := by decide +kernel
theorem dX0_mixInto_53 : decode cX0_mixInto 53 = .ok (.goto (-51), 3) := by decide +kernel
theorem dX0_mixInto_56 : decode cX0_mixInto 56 = .ok (.lload_n 1, 1) := by decide +kernel
theorem dX0_mixInto_57 : decode cX0_mixInto 57 = .ok (.lreturn, 1) := by decide +kernel
theorem dX1_init_0 : decode cX1_init 0 = .ok (.aload_n 0, 1) := by decide +kernel
theorem dX1_init_1 : decode cX1_init 1 = .ok (.invokespecial 1, 3) := by decide +kernel
theorem dX1_init_4 : decode cX1_init 4 = .ok (.aload_n 0, 1) := by decide +kernel
theorem dX1_init_5 : decode cX1_init 5 = .ok (.iconst 0, 1) := by decide +kernel
theorem dX1_init_6 : decode cX1_init 6 = .ok (.putfield 7, 3) := by decide +kernel
theorem dX1_init_9 : decode cX1_init 9 = .ok (.aload_n 0, 1) := by decide +kernel
theorem dX1_init_10 : decode cX1_init 10 = .ok (.lconst 0, 1) := by decide +kernel
theorem dX1_init_11 : decode cX1_init 11 = .ok (.putfield 13, 3) := by decide +kernel
theorem dX1_init_14 : decode cX1_init 14 = .ok (.return_, 1) := by decide +kernel
theorem dX1_lines_0 : decode cX1_lines 0 = .ok (.aload_n 0, 1) := by decide +kernel
theorem dX1_lines_1 : decode cX1_lines 1 = .ok (.getfield 7, 3) := by decide +kernel
theorem dX1_lines_4 : decode cX1_lines 4 = .ok (.ireturn, 1) := by decide +kernel
theorem dX1_partsUsed_0 : decode cX1_partsUsed 0 = .ok (.aload_n 0, 1) := by decide +kernel
theorem dX1_partsUsed_1 : decode cX1_partsUsed 1 = .ok (.getfield 13, 3) := by decide +kernel
theorem dX1_partsUsed_4 : decode cX1_partsUsed 4 = .ok (.lreturn, 1) := by decide +kernel
theorem dX1_append_0 : decode cX1_append 0 = .ok (.aload_n 0, 1) := by decide +kernel
theorem dX1_append_1 : decode cX1_append 1 = .ok (.dup, 1) := by decide +kernel
theorem dX1_append_2 : decode cX1_append 2 = .ok (.getfield 7, 3) := by decide +kernel
theorem dX1_append_5 : decode cX1_append 5 = .ok (.iconst 1, 1) := by decide +kernel
theorem dX1_append_6 : decode cX1_append 6 = .ok (.iadd, 1) := by decide +kernel
theorem dX1_append_7 : decode cX1_append 7 = .ok (.putfield 7, 3) := by decide +kernel
theorem dX1_append_10 : decode cX1_append 10 = .ok (.aload_n 0, 1) := by decide +kernel
theorem dX1_append_11 : decode cX1_append 11 = .ok (.dup, 1) := by decide +kernel
theorem dX1_append_12 : decode cX1_append 12 = .ok (.getfield 13, 3) := by decide +kernel
theorem dX1_append_15 : decode cX1_append 15 = .ok (.iload_n 1, 1) := by decide +kernel
theorem dX1_append_16 : decode cX1_append 16 = .ok (.i2l, 1) := by decide +kernel
theorem dX1_append_17 : decode cX1_append 17 = .ok (.iload_n 2, 1) := by decide +kernel
theorem dX1_append_18 : decode cX1_append 18 = .ok (.iconst 4, 1) := by decide +kernel
theorem dX1_append_19 : decode cX1_append 19 = .ok (.idiv, 1) := by decide +kernel
theorem dX1_append_20 : decode cX1_append 20 = .ok (.lshl, 1) := by decide +kernel
theorem dX1_append_21 : decode cX1_append 21 = .ok (.ladd, 1) := by decide +kernel
theorem dX1_append_22 : decode cX1_append 22 = .ok (.putfield 13, 3) := by decide +kernel
theorem dX1_append_25 : decode cX1_append 25 = .ok (.return_, 1) := by decide +kernel
theorem dX2_init_0 : decode cX2_init 0 = .ok (.aload_n 0, 1) := by decide +kernel
theorem dX2_init_1 : decode cX2_init 1 = .ok (.invokespecial 1, 3) := by decide +kernel
theorem dX2_init_4 : decode cX2_init 4 = .ok (.aload_n 0, 1) := by decide +kernel
theorem dX2_init_5 : decode cX2_init 5 = .ok (.lconst 0, 1) := by decide +kernel
theorem dX2_init_6 : decode cX2_init 6 = .ok (.putfield 7, 3) := by decide +kernel
theorem dX2_init_9 : decode cX2_init 9 = .ok (.aload_n 0, 1) := by decide +kernel
theorem dX2_init_10 : decode cX2_init 10 = .ok (.lconst 1, 1) := by decide +kernel
theorem dX2_init_11 : decode cX2_init 11 = .ok (.putfield 13, 3) := by decide +kernel
theorem dX2_init_14 : decode cX2_init 14 = .ok (.return_, 1) := by decide +kernel
set_option maxRecDepth 20000 in
theorem ggX2_put_X2_greatestShared : GoodIn wsX2_put wsX2_greatestShared := goodIn_r _ [6] (by decide +kernel) (by decide +kernel)
set_option maxRecDepth 20000 in
theorem gX2_put_X2_greatestShared : GoodIn wsX2_put (va_wsS RX2 16 yX2_greatestShared wsX2_greatestShared) := goodIn_app (goodIn_of _ (by decide +kernel)) ggX2_put_X2_greatestShared
theorem dX2_put_0 : decode cX2_put 0 = .ok (.lload_n 1, 1) := by decide +kernel
theorem dX2_put_1 : decode cX2_put 1 = .ok (.lload_n 3, 1) := by decide +kernel
theorem dX2_put_2 : decode cX2_put 2 = .ok (.invokestatic 16, 3) := by decide +kernel
theorem dX2_put_5 : decode cX2_put 5 = .ok (.lstore 5, 2) := by decide +kernel
theorem dX2_put_7 : decode cX2_put 7 = .ok (.lload 5, 2) := by decide +kernel
theorem dX2_put_9 : decode cX2_put 9 = .ok (.lconst 0, 1) := by decide +kernel
theorem dX2_put_10 : decode cX2_put 10 = .ok (.lcmp, 1) := by decide +kernel
theorem dX2_put_11 : decode cX2_put 11 = .ok (.ifCond .le 19, 3) := by decide +kernel
theorem dX2_put_14 : decode cX2_put 14 = .ok (.aload_n 0, 1) := by decide +kernel
theorem dX2_put_15 : decode cX2_put 15 = .ok (.lload_n 1, 1) := by decide +kernel
theorem dX2_put_16 : decode cX2_put 16 = .ok (.lload 5, 2) := by decide +kernel
theorem dX2_put_18 : decode cX2_put 18 = .ok (.ldiv, 1) := by decide +kernel
theorem dX2_put_19 : decode cX2_put 19 = .ok (.putfield 7, 3) := by decide +kernel
theorem dX2_put_22 : decode cX2_put 22 = .ok (.aload_n 0, 1) := by decide +kernel
theorem dX2_put_23 : decode cX2_put 23 = .ok (.lload_n 3, 1) := by decide +kernel
theorem dX2_put_24 : decode cX2_put 24 = .ok (.lload 5, 2) := by decide +kernel
theorem dX2_put_26 : decode cX2_put 26 = .ok (.ldiv, 1) := by decide +kernel
theorem dX2_put_27 : decode cX2_put 27 = .ok (.putfield 13, 3) := by decide +kernel
theorem dX2_put_30 : decode cX2_put 30 = .ok (.return_, 1) := by decide +kernel
theorem dX2_greatestShared_0 : decode cX2_greatestShared 0 = .ok (.iconst 0, 1) := by decide +kernel
theorem dX2_greatestShared_1 : decode cX2_greatestShared 1 = .ok (.istore 4, 2) := by decide +kernel
theorem dX2_greatestShared_3 : decode cX2_greatestShared 3 = .ok (.iload 4, 2) := by decide +kernel
theorem dX2_greatestShared_5 : decode cX2_greatestShared 5 = .ok (.sipush 200, 3) := by decide +kernel
theorem dX2_greatestShared_8 : decode cX2_greatestShared 8 = .ok (.if_icmp .ge 25, 3) := by decide +kernel
theorem dX2_greatestShared_11 : decode cX2_greatestShared 11 = .ok (.lload_n 2, 1) := by decide +kernel
theorem dX2_greatestShared_12 : decode cX2_greatestShared 12 = .ok (.lconst 0, 1) := by decide +kernel
theorem dX2_greatestShared_13 : decode cX2_greatestShared 13 = .ok (.lcmp, 1) := by decide +kernel
theorem dX2_greatestShared_14 : decode cX2_greatestShared 14 = .ok (.ifCond .eq 19, 3) := by decide +kernel
theorem dX2_greatestShared_17 : decode cX2_greatestShared 17 = .ok (.lload_n 0, 1) := by decide +kernel
theorem dX2_greatestShared_18 : decode cX2_greatestShared 18 = .ok (.lload_n 2, 1) := by decide +kernel
theorem dX2_greatestShared_19 : decode cX2_greatestShared 19 = .ok (.lrem, 1) := by decide +kernel
theorem dX2_greatestShared_20 : decode cX2_greatestShared 20 = .ok (.lstore 5, 2) := by decide +kernel
theorem dX2_greatestShared_22 : decode cX2_greatestShared 22 = .ok (.lload_n 2, 1) := by decide +kernel
theorem dX2_greatestShared_23 : decode cX2_greatestShared 23 = .ok (.lstore_n 0, 1) := by decide +kernel
theorem dX2_greatestShared_24 : decode cX2_greatestShared 24 = .ok (.lload 5, 2) := by decide +kernel
theorem dX2_greatestShared_26 : decode cX2_greatestShared 26 = .ok (.lstore_n 2, 1) := by decide +kernel
theorem dX2_greatestShared_27 : decode cX2_greatestShared 27 = .ok (.iinc 4 1, 3) := by decide +kernel
theorem dX2_greatestShared_30 : decode cX2_greatestShared 30 = .ok (.goto (-27), 3) := by decide +kernel
theorem dX2_greatestShared_33 : decode cX2_greatestShared 33 = .ok (.lload_n 0, 1) := by decide +kernel
theorem dX2_greatestShared_34 : decode cX2_greatestShared 34 = .ok (.lreturn, 1) := by decide +kernel
theorem dX3_init_0 : decode cX3_init 0 = .ok (.aload_n 0, 1) := by decide +kernel
theorem dX3_init_1 : decode cX3_init 1 = .ok (.invokespecial 3, 3) := by decide +kernel
theorem dX3_init_4 : decode cX3_init 4 = .ok (.aload_n 0, 1) := by decide +kernel
theorem dX3_init_5 : decode cX3_init 5 = .ok (.bipush 12, 2) := by decide +kernel
theorem dX3_init_7 : decode cX3_init 7 = .ok (.newarray .int, 2) := by decide +kernel
theorem dX3_init_9 : decode cX3_init 9 = .ok (.putfield 9, 3) := by decide +kernel
theorem dX3_init_12 : decode cX3_init 12 = .ok (.aload_n 0, 1) := by decide +kernel
theorem dX3_init_13 : decode cX3_init 13 = .ok (.iconst 0, 1) := by decide +kernel
theorem dX3_init_14 : decode cX3_init 14 = .ok (.putfield 15, 3) := by decide +kernel
theorem dX3_init_17 : decode cX3_init 17 = .ok (.return_, 1) := by decide +kernel
theorem dX3_size_0 : decode cX3_size 0 = .ok (.aload_n 0, 1) := by decide +kernel
theorem dX3_size_1 : decode cX3_size 1 = .ok (.getfield 15, 3) := by decide +kernel
theorem dX3_size_4 : decode cX3_size 4 = .ok (.ireturn, 1) := by decide +kernel
theorem dX3_append_0 : decode cX3_append 0 = .ok (.aload_n 0, 1) := by decide +kernel
theorem dX3_append_1 : decode cX3_append 1 = .ok (.getfield 9, 3) := by decide +kernel
theorem dX3_append_4 : decode cX3_append 4 = .ok (.aload_n 0, 1) := by decide +kernel
theorem dX3_append_5 : decode cX3_append 5 = .ok (.getfield 15, 3) := by decide +kernel
theorem dX3_append_8 : decode cX3_append 8 = .ok (.iload_n 1, 1) := by decide +kernel
theorem dX3_append_9 : decode cX3_append 9 = .ok (.iastore, 1) := by decide +kernel
theorem dX3_append_10 : decode cX3_append 10 = .ok (.aload_n 0, 1) := by decide +kernel
theorem dX3_append_11 : decode cX3_append 11 = .ok (.dup, 1) := by decide +kernel
theorem dX3_append_12 : decode cX3_append 12 = .ok (.getfield 15, 3) := by decide +kernel
theorem dX3_append_15 : decode cX3_append 15 = .ok (.iconst 1, 1) := by decide +kernel
theorem dX3_append_16 : decode cX3_append 16 = .ok (.iadd, 1) := by decide +kernel
theorem dX3_append_17 : decode cX3_append 17 = .ok (.putfield 15, 3) := by decide +kernel
theorem dX3_append_20 : decode cX3_append 20 = .ok (.return_, 1) := by decide +kernel
theorem dX3_greatestFirmEnough_0 : decode cX3_greatestFirmEnough 0 = .ok (.bipush (-9), 2) := by decide +kernel
theorem dX3_greatestFirmEnough_2 : decode cX3_greatestFirmEnough 2 = .ok (.istore_n 3, 1) := by decide +kernel
theorem dX3_greatestFirmEnough_3 : decode cX3_greatestFirmEnough 3 = .ok (.iconst 0, 1) := by decide +kernel
theorem dX3_greatestFirmEnough_4 : decode cX3_greatestFirmEnough 4 = .ok (.istore 4, 2) := by decide +kernel
theorem dX3_greatestFirmEnough_6 : decode cX3_greatestFirmEnough 6 = .ok (.iload 4, 2) := by decide +kernel
theorem dX3_greatestFirmEnough_8 : decode cX3_greatestFirmEnough 8 = .ok (.aload_n 0, 1) := by decide +kernel
theorem dX3_greatestFirmEnough_9 : decode cX3_greatestFirmEnough 9 = .ok (.getfield 15, 3) := by decide +kernel
theorem dX3_greatestFirmEnough_12 : decode cX3_greatestFirmEnough 12 = .ok (.if_icmp .ge 65, 3) := by decide +kernel
theorem dX3_greatestFirmEnough_15 : decode cX3_greatestFirmEnough 15 = .ok (.ldc2_w 19, 3) := by decide +kernel
theorem dX3_greatestFirmEnough_18 : decode cX3_greatestFirmEnough 18 = .ok (.aload_n 0, 1) := by decide +kernel
theorem dX3_greatestFirmEnough_19 : decode cX3_greatestFirmEnough 19 = .ok (.getfield 9, 3) := by decide +kernel
theorem dX3_greatestFirmEnough_22 : decode cX3_greatestFirmEnough 22 = .ok (.iload 4, 2) := by decide +kernel
theorem dX3_greatestFirmEnough_24 : decode cX3_greatestFirmEnough 24 = .ok (.iaload, 1) := by decide +kernel
theorem dX3_greatestFirmEnough_25 : decode cX3_greatestFirmEnough 25 = .ok (.i2l, 1) := by decide +kernel
theorem dX3_greatestFirmEnough_26 : decode cX3_greatestFirmEnough 26 = .ok (.lmul, 1) := by decide +kernel
theorem dX3_greatestFirmEnough_27 : decode cX3_greatestFirmEnough 27 = .ok (.iload_n 1, 1) := by decide +kernel
theorem dX3_greatestFirmEnough_28 : decode cX3_greatestFirmEnough 28 = .ok (.i2l, 1) := by decide +kernel
theorem dX3_greatestFirmEnough_29 : decode cX3_greatestFirmEnough 29 = .ok (.lmul, 1) := by decide +kernel
theorem dX3_greatestFirmEnough_30 : decode cX3_greatestFirmEnough 30 = .ok (.ldc2_w 21, 3) := by decide +kernel
theorem dX3_greatestFirmEnough_33 : decode cX3_greatestFirmEnough 33 = .ok (.iload_n 2, 1) := by decide +kernel
theorem dX3_greatestFirmEnough_34 : decode cX3_greatestFirmEnough 34 = .ok (.i2l, 1) := by decide +kernel
theorem dX3_greatestFirmEnough_35 : decode cX3_greatestFirmEnough 35 = .ok (.lmul, 1) := by decide +kernel
theorem dX3_greatestFirmEnough_36 : decode cX3_greatestFirmEnough 36 = .ok (.lcmp, 1) := by decide +kernel
theorem dX3_greatestFirmEnough_37 : decode cX3_greatestFirmEnough 37 = .ok (.ifCond .gt 7, 3) := by decide +kernel
theorem dX3_greatestFirmEnough_40 : decode cX3_greatestFirmEnough 40 = .ok (.iconst 1, 1) := by decide +kernel
theorem dX3_greatestFirmEnough_41 : decode cX3_greatestFirmEnough 41 = .ok (.goto 4, 3) := by decide +kernel
theorem dX3_greatestFirmEnough_44 : decode cX3_greatestFirmEnough 44 = .ok (.iconst 0, 1) := by decide +kernel
theorem dX3_greatestFirmEnough_45 : decode cX3_greatestFirmEnough 45 = .ok (.istore 5, 2) := by decide +kernel
theorem dX3_greatestFirmEnough_47 : decode cX3_greatestFirmEnough 47 = .ok (.iload 5, 2) := by decide +kernel
theorem dX3_greatestFirmEnough_49 : decode cX3_greatestFirmEnough 49 = .ok (.ifCond .eq 22, 3) := by decide +kernel
theorem dX3_greatestFirmEnough_52 : decode cX3_greatestFirmEnough 52 = .ok (.aload_n 0, 1) := by decide +kernel
theorem dX3_greatestFirmEnough_53 : decode cX3_greatestFirmEnough 53 = .ok (.getfield 9, 3) := by decide +kernel
theorem dX3_greatestFirmEnough_56 : decode cX3_greatestFirmEnough 56 = .ok (.iload 4, 2) := by decide +kernel
theorem dX3_greatestFirmEnough_58 : decode cX3_greatestFirmEnough 58 = .ok (.iaload, 1) := by decide +kernel
theorem dX3_greatestFirmEnough_59 : decode cX3_greatestFirmEnough 59 = .ok (.iload_n 3, 1) := by decide +kernel
theorem dX3_greatestFirmEnough_60 : decode cX3_greatestFirmEnough 60 = .ok (.if_icmp .le 11, 3) := by decide +kernel
theorem dX3_greatestFirmEnough_63 : decode cX3_greatestFirmEnough 63 = .ok (.aload_n 0, 1) := by decide +kernel
theorem dX3_greatestFirmEnough_64 : decode cX3_greatestFirmEnough 64 = .ok (.getfield 9, 3) := by decide +kernel
theorem dX3_greatestFirmEnough_67 : decode cX3_greatestFirmEnough 67 = .ok (.iload 4, 2) := by decide +kernel
theorem dX3_greatestFirmEnough_69 : decode cX3_greatestFirmEnough 69 = .ok (.iaload, 1) := by decide +kernel
theorem dX3_greatestFirmEnough_70 : decode cX3_greatestFirmEnough 70 = .ok (.istore_n 3, 1) := by decide +kernel
theorem dX3_greatestFirmEnough_71 : decode cX3_greatestFirmEnough 71 = .ok (.iinc 4 1, 3) := by decide +kernel
theorem dX3_greatestFirmEnough_74 : decode cX3_greatestFirmEnough 74 = .ok (.goto (-68), 3) := by decide +kernel
theorem dX3_greatestFirmEnough_77 : decode cX3_greatestFirmEnough 77 = .ok (.iload_n 3, 1) := by decide +kernel
theorem dX3_greatestFirmEnough_78 : decode cX3_greatestFirmEnough 78 = .ok (.ireturn, 1) := by decide +kernel
theorem dX4_init_0 : decode cX4_init 0 = .ok (.aload_n 0, 1) := by decide +kernel
theorem dX4_init_1 : decode cX4_init 1 = .ok (.invokespecial 3, 3) := by decide +kernel
theorem dX4_init_4 : decode cX4_init 4 = .ok (.aload_n 0, 1) := by decide +kernel
theorem dX4_init_5 : decode cX4_init 5 = .ok (.bipush 12, 2) := by decide +kernel
theorem dX4_init_7 : decode cX4_init 7 = .ok (.newarray .int, 2) := by decide +kernel
theorem dX4_init_9 : decode cX4_init 9 = .ok (.putfield 9, 3) := by decide +kernel
theorem dX4_init_12 : decode cX4_init 12 = .ok (.aload_n 0, 1) := by decide +kernel
theorem dX4_init_13 : decode cX4_init 13 = .ok (.bipush 12, 2) := by decide +kernel
theorem dX4_init_15 : decode cX4_init 15 = .ok (.newarray .int, 2) := by decide +kernel
theorem dX4_init_17 : decode cX4_init 17 = .ok (.putfield 15, 3) := by decide +kernel
theorem dX4_init_20 : decode cX4_init 20 = .ok (.aload_n 0, 1) := by decide +kernel
theorem dX4_init_21 : decode cX4_init 21 = .ok (.bipush 12, 2) := by decide +kernel
theorem dX4_init_23 : decode cX4_init 23 = .ok (.newarray .int, 2) := by decide +kernel
theorem dX4_init_25 : decode cX4_init 25 = .ok (.putfield 18, 3) := by decide +kernel
theorem dX4_init_28 : decode cX4_init 28 = .ok (.aload_n 0, 1) := by decide +kernel
theorem dX4_init_29 : decode cX4_init 29 = .ok (.bipush 12, 2) := by decide +kernel
theorem dX4_init_31 : decode cX4_init 31 = .ok (.newarray .int, 2) := by decide +kernel
theorem dX4_init_33 : decode cX4_init 33 = .ok (.putfield 21, 3) := by decide +kernel
theorem dX4_init_36 : decode cX4_init 36 = .ok (.aload_n 0, 1) := by decide +kernel
theorem dX4_init_37 : decode cX4_init 37 = .ok (.bipush 12, 2) := by decide +kernel
theorem dX4_init_39 : decode cX4_init 39 = .ok (.newarray .boolean, 2) := by decide +kernel
theorem dX4_init_41 : decode cX4_init 41 = .ok (.putfield 24, 3) := by decide +kernel
theorem dX4_init_44 : decode cX4_init 44 = .ok (.aload_n 0, 1) := by decide +kernel
theorem dX4_init_45 : decode cX4_init 45 = .ok (.iconst 0, 1) := by decide +kernel
theorem dX4_init_46 : decode cX4_init 46 = .ok (.putfield 28, 3) := by decide +kernel
theorem dX4_init_49 : decode cX4_init 49 = .ok (.aload_n 0, 1) := by decide +kernel
theorem dX4_init_50 : decode cX4_init 50 = .ok (.aload_n 1, 1) := by decide +kernel
theorem dX4_init_51 : decode cX4_init 51 = .ok (.putfield 32, 3) := by decide +kernel
theorem dX4_init_54 : decode cX4_init 54 = .ok (.return_, 1) := by decide +kernel
theorem dX4_made_0 : decode cX4_made 0 = .ok (.aload_n 0, 1) := by decide +kernel
theorem dX4_made_1 : decode cX4_made 1 = .ok (.getfield 28, 3) := by decide +kernel
theorem dX4_made_4 : decode cX4_made 4 = .ok (.ireturn, 1) := by decide +kernel
set_option maxRecDepth 20000 in
theorem ggX4_kept_X4_isGone : GoodIn wsX4_kept wsX4_isGone := goodIn_r _ [6, 7, 8, 9, 10, 11, 12, 13, 14] (by decide +kernel) (by decide +kernel)
set_option maxRecDepth 20000 in
theorem gX4_kept_X4_isGone : GoodIn wsX4_kept (wsV RX4 36 RX4 yX4_isGone wsX4_isGone) := goodIn_app (goodIn_of _ (by decide +kernel)) ggX4_kept_X4_isGone
theorem dX4_kept_0 : decode cX4_kept 0 = .ok (.iconst 0, 1) := by decide +kernel
theorem dX4_kept_1 : decode cX4_kept 1 = .ok (.istore_n 1, 1) := by decide +kernel
theorem dX4_kept_2 : decode cX4_kept 2 = .ok (.iconst 0, 1) := by decide +kernel
theorem dX4_kept_3 : decode cX4_kept 3 = .ok (.istore_n 2, 1) := by decide +kernel
theorem dX4_kept_4 : decode cX4_kept 4 = .ok (.iload_n 2, 1) := by decide +kernel
theorem dX4_kept_5 : decode cX4_kept 5 = .ok (.aload_n 0, 1) := by decide +kernel
theorem dX4_kept_6 : decode cX4_kept 6 = .ok (.getfield 28, 3) := by decide +kernel
theorem dX4_kept_9 : decode cX4_kept 9 = .ok (.if_icmp .ge 25, 3) := by decide +kernel
theorem dX4_kept_12 : decode cX4_kept 12 = .ok (.iload_n 1, 1) := by decide +kernel
theorem dX4_kept_13 : decode cX4_kept 13 = .ok (.aload_n 0, 1) := by decide +kernel
theorem dX4_kept_14 : decode cX4_kept 14 = .ok (.iload_n 2, 1) := by decide +kernel
theorem dX4_kept_15 : decode cX4_kept 15 = .ok (.invokevirtual 36, 3) := by decide +kernel
theorem dX4_kept_18 : decode cX4_kept 18 = .ok (.ifCond .eq 7, 3) := by decide +kernel
theorem dX4_kept_21 : decode cX4_kept 21 = .ok (.iconst 0, 1) := by decide +kernel
theorem dX4_kept_22 : decode cX4_kept 22 = .ok (.goto 4, 3) := by decide +kernel
theorem dX4_kept_25 : decode cX4_kept 25 = .ok (.iconst 1, 1) := by decide +kernel
theorem dX4_kept_26 : decode cX4_kept 26 = .ok (.iadd, 1) := by decide +kernel
theorem dX4_kept_27 : decode cX4_kept 27 = .ok (.istore_n 1, 1) := by decide +kernel
theorem dX4_kept_28 : decode cX4_kept 28 = .ok (.iinc 2 1, 3) := by decide +kernel
theorem dX4_kept_31 : decode cX4_kept 31 = .ok (.goto (-27), 3) := by decide +kernel
theorem dX4_kept_34 : decode cX4_kept 34 = .ok (.iload_n 1, 1) := by decide +kernel
theorem dX4_kept_35 : decode cX4_kept 35 = .ok (.ireturn, 1) := by decide +kernel
theorem dX4_isGone_0 : decode cX4_isGone 0 = .ok (.aload_n 0, 1) := by decide +kernel
theorem dX4_isGone_1 : decode cX4_isGone 1 = .ok (.getfield 9, 3) := by decide +kernel
theorem dX4_isGone_4 : decode cX4_isGone 4 = .ok (.iload_n 1, 1) := by decide +kernel
theorem dX4_isGone_5 : decode cX4_isGone 5 = .ok (.iaload, 1) := by decide +kernel
theorem dX4_isGone_6 : decode cX4_isGone 6 = .ok (.iconst (-1), 1) := by decide +kernel
theorem dX4_isGone_7 : decode cX4_isGone 7 = .ok (.if_icmp .ne 7, 3) := by decide +kernel
theorem dX4_isGone_10 : decode cX4_isGone 10 = .ok (.iconst 1, 1) := by decide +kernel
theorem dX4_isGone_11 : decode cX4_isGone 11 = .ok (.goto 4, 3) := by decide +kernel
theorem dX4_isGone_14 : decode cX4_isGone 14 = .ok (.iconst 0, 1) := by decide +kernel
theorem dX4_isGone_15 : decode cX4_isGone 15 = .ok (.ireturn, 1) := by decide +kernel
set_option maxRecDepth 20000 in
theorem ggX4_isTaken_X4_isGone : GoodIn wsX4_isTaken wsX4_isGone := goodIn_r _ [7, 8, 9, 10, 11, 12, 13, 14, 15] (by decide +kernel) (by decide +kernel)
set_option maxRecDepth 20000 in
theorem gX4_isTaken_X4_isGone : GoodIn wsX4_isTaken (wsV RX4 36 RX4 yX4_isGone wsX4_isGone) := goodIn_app (goodIn_of _ (by decide +kernel)) ggX4_isTaken_X4_isGone
theorem dX4_isTaken_0 : decode cX4_isTaken 0 = .ok (.iconst 0, 1) := by decide +kernel
theorem dX4_isTaken_1 : decode cX4_isTaken 1 = .ok (.istore_n 2, 1) := by decide +kernel
theorem dX4_isTaken_2 : decode cX4_isTaken 2 = .ok (.iload_n 2, 1) := by decide +kernel
theorem dX4_isTaken_3 : decode cX4_isTaken 3 = .ok (.aload_n 0, 1) := by decide +kernel
theorem dX4_isTaken_4 : decode cX4_isTaken 4 = .ok (.getfield 28, 3) := by decide +kernel
theorem dX4_isTaken_7 : decode cX4_isTaken 7 = .ok (.if_icmp .ge 29, 3) := by decide +kernel
theorem dX4_isTaken_10 : decode cX4_isTaken 10 = .ok (.aload_n 0, 1) := by decide +kernel
theorem dX4_isTaken_11 : decode cX4_isTaken 11 = .ok (.iload_n 2, 1) := by decide +kernel
theorem dX4_isTaken_12 : decode cX4_isTaken 12 = .ok (.invokevirtual 36, 3) := by decide +kernel
theorem dX4_isTaken_15 : decode cX4_isTaken 15 = .ok (.ifCond .ne 15, 3) := by decide +kernel
theorem dX4_isTaken_18 : decode cX4_isTaken 18 = .ok (.aload_n 0, 1) := by decide +kernel
theorem dX4_isTaken_19 : decode cX4_isTaken 19 = .ok (.getfield 15, 3) := by decide +kernel
theorem dX4_isTaken_22 : decode cX4_isTaken 22 = .ok (.iload_n 2, 1) := by decide +kernel
theorem dX4_isTaken_23 : decode cX4_isTaken 23 = .ok (.iaload, 1) := by decide +kernel
theorem dX4_isTaken_24 : decode cX4_isTaken 24 = .ok (.iload_n 1, 1) := by decide +kernel
theorem dX4_isTaken_25 : decode cX4_isTaken 25 = .ok (.if_icmp .ne 5, 3) := by decide +kernel
theorem dX4_isTaken_28 : decode cX4_isTaken 28 = .ok (.iconst 1, 1) := by decide +kernel
theorem dX4_isTaken_29 : decode cX4_isTaken 29 = .ok (.ireturn, 1) := by decide +kernel
theorem dX4_isTaken_30 : decode cX4_isTaken 30 = .ok (.iinc 2 1, 3) := by decide +kernel
theorem dX4_isTaken_33 : decode cX4_isTaken 33 = .ok (.goto (-31), 3) := by decide +kernel
theorem dX4_isTaken_36 : decode cX4_isTaken 36 = .ok (.iconst 0, 1) := by decide +kernel
theorem dX4_isTaken_37 : decode cX4_isTaken 37 = .ok (.ireturn, 1) := by decide +kernel
theorem dX4_put_0 : decode cX4_put 0 = .ok (.aload_n 0, 1) := by decide +kernel
theorem dX4_put_1 : decode cX4_put 1 = .ok (.getfield 9, 3) := by decide +kernel
theorem dX4_put_4 : decode cX4_put 4 = .ok (.aload_n 0, 1) := by decide +kernel
theorem dX4_put_5 : decode cX4_put 5 = .ok (.getfield 28, 3) := by decide +kernel
theorem dX4_put_8 : decode cX4_put 8 = .ok (.iload_n 1, 1) := by decide +kernel
theorem dX4_put_9 : decode cX4_put 9 = .ok (.iastore, 1) := by decide +kernel
theorem dX4_put_10 : decode cX4_put 10 = .ok (.aload_n 0, 1) := by decide +kernel
theorem dX4_put_11 : decode cX4_put 11 = .ok (.getfield 15, 3) := by decide +kernel
theorem dX4_put_14 : decode cX4_put 14 = .ok (.aload_n 0, 1) := by decide +kernel
theorem dX4_put_15 : decode cX4_put 15 = .ok (.getfield 28, 3) := by decide +kernel
theorem dX4_put_18 : decode cX4_put 18 = .ok (.iload_n 2, 1) := by decide +kernel
theorem dX4_put_19 : decode cX4_put 19 = .ok (.iastore, 1) := by decide +kernel
theorem dX4_put_20 : decode cX4_put 20 = .ok (.aload_n 0, 1) := by decide +kernel
theorem dX4_put_21 : decode cX4_put 21 = .ok (.getfield 18, 3) := by decide +kernel
theorem dX4_put_24 : decode cX4_put 24 = .ok (.aload_n 0, 1) := by decide +kernel
theorem dX4_put_25 : decode cX4_put 25 = .ok (.getfield 28, 3) := by decide +kernel
theorem dX4_put_28 : decode cX4_put 28 = .ok (.iload_n 3, 1) := by decide +kernel
theorem dX4_put_29 : decode cX4_put 29 = .ok (.iastore, 1) := by decide +kernel
theorem dX4_put_30 : decode cX4_put 30 = .ok (.aload_n 0, 1) := by decide +kernel
theorem dX4_put_31 : decode cX4_put 31 = .ok (.getfield 21, 3) := by decide +kernel
theorem dX4_put_34 : decode cX4_put 34 = .ok (.aload_n 0, 1) := by decide +kernel
theorem dX4_put_35 : decode cX4_put 35 = .ok (.getfield 28, 3) := by decide +kernel
theorem dX4_put_38 : decode cX4_put 38 = .ok (.bipush (-9), 2) := by decide +kernel
theorem dX4_put_40 : decode cX4_put 40 = .ok (.iastore, 1) := by decide +kernel
theorem dX4_put_41 : decode cX4_put 41 = .ok (.aload_n 0, 1) := by decide +kernel
theorem dX4_put_42 : decode cX4_put 42 = .ok (.dup, 1) := by decide +kernel
theorem dX4_put_43 : decode cX4_put 43 = .ok (.getfield 28, 3) := by decide +kernel
theorem dX4_put_46 : decode cX4_put 46 = .ok (.iconst 1, 1) := by decide +kernel
theorem dX4_put_47 : decode cX4_put 47 = .ok (.iadd, 1) := by decide +kernel
theorem dX4_put_48 : decode cX4_put 48 = .ok (.putfield 28, 3) := by decide +kernel
theorem dX4_put_51 : decode cX4_put 51 = .ok (.aload_n 0, 1) := by decide +kernel
theorem dX4_put_52 : decode cX4_put 52 = .ok (.getfield 28, 3) := by decide +kernel
theorem dX4_put_55 : decode cX4_put 55 = .ok (.iconst 1, 1) := by decide +kernel
theorem dX4_put_56 : decode cX4_put 56 = .ok (.isub, 1) := by decide +kernel
theorem dX4_put_57 : decode cX4_put 57 = .ok (.ireturn, 1) := by decide +kernel
theorem dX4_remove_0 : decode cX4_remove 0 = .ok (.aload_n 0, 1) := by decide +kernel
theorem dX4_remove_1 : decode cX4_remove 1 = .ok (.getfield 9, 3) := by decide +kernel
theorem dX4_remove_4 : decode cX4_remove 4 = .ok (.iload_n 1, 1) := by decide +kernel
theorem dX4_remove_5 : decode cX4_remove 5 = .ok (.iconst (-1), 1) := by decide +kernel
theorem dX4_remove_6 : decode cX4_remove 6 = .ok (.iastore, 1) := by decide +kernel
theorem dX4_remove_7 : decode cX4_remove 7 = .ok (.return_, 1) := by decide +kernel
set_option maxRecDepth 20000 in
theorem ggX4_tell_X4_isPresent : GoodIn wsX4_tell wsX4_isPresent := goodIn_r _ [8, 2, 9, 10, 11, 12, 7, 13, 1, 14, 15, 16, 17, 18, 19, 20, 21, 22, 23, 24, 25, 26, 27, 28, 29, 30, 31, 32, 33] (by decide +kernel) (by decide +kernel)
set_option maxRecDepth 20000 in
theorem gX4_tell_X4_isPresent : GoodIn wsX4_tell (wsV RX4 40 RX4 yX4_isPresent wsX4_isPresent) := goodIn_app (goodIn_of _ (by decide +kernel)) ggX4_tell_X4_isPresent
theorem dX4_tell_0 : decode cX4_tell 0 = .ok (.iload_n 2, 1) := by decide +kernel
theorem dX4_tell_1 : decode cX4_tell 1 = .ok (.tableswitch 48 0 2 #[27, 34, 41], 27) := by decide +kernel
theorem dX4_tell_28 : decode cX4_tell 28 = .ok (.aload_n 0, 1) := by decide +kernel
theorem dX4_tell_29 : decode cX4_tell 29 = .ok (.getfield 9, 3) := by decide +kernel
theorem dX4_tell_32 : decode cX4_tell 32 = .ok (.iload_n 1, 1) := by decide +kernel
theorem dX4_tell_33 : decode cX4_tell 33 = .ok (.iaload, 1) := by decide +kernel
theorem dX4_tell_34 : decode cX4_tell 34 = .ok (.ireturn, 1) := by decide +kernel
theorem dX4_tell_35 : decode cX4_tell 35 = .ok (.aload_n 0, 1) := by decide +kernel
theorem dX4_tell_36 : decode cX4_tell 36 = .ok (.getfield 15, 3) := by decide +kernel
theorem dX4_tell_39 : decode cX4_tell 39 = .ok (.iload_n 1, 1) := by decide +kernel
theorem dX4_tell_40 : decode cX4_tell 40 = .ok (.iaload, 1) := by decide +kernel
theorem dX4_tell_41 : decode cX4_tell 41 = .ok (.ireturn, 1) := by decide +kernel
theorem dX4_tell_42 : decode cX4_tell 42 = .ok (.aload_n 0, 1) := by decide +kernel
theorem dX4_tell_43 : decode cX4_tell 43 = .ok (.getfield 18, 3) := by decide +kernel
theorem dX4_tell_46 : decode cX4_tell 46 = .ok (.iload_n 1, 1) := by decide +kernel
theorem dX4_tell_47 : decode cX4_tell 47 = .ok (.iaload, 1) := by decide +kernel
theorem dX4_tell_48 : decode cX4_tell 48 = .ok (.ireturn, 1) := by decide +kernel
theorem dX4_tell_49 : decode cX4_tell 49 = .ok (.aload_n 0, 1) := by decide +kernel
theorem dX4_tell_50 : decode cX4_tell 50 = .ok (.iload_n 1, 1) := by decide +kernel
theorem dX4_tell_51 : decode cX4_tell 51 = .ok (.invokevirtual 40, 3) := by decide +kernel
theorem dX4_tell_54 : decode cX4_tell 54 = .ok (.ifCond .eq 7, 3) := by decide +kernel
theorem dX4_tell_57 : decode cX4_tell 57 = .ok (.iconst 1, 1) := by decide +kernel
theorem dX4_tell_58 : decode cX4_tell 58 = .ok (.goto 4, 3) := by decide +kernel
theorem dX4_tell_61 : decode cX4_tell 61 = .ok (.iconst 0, 1) := by decide +kernel
theorem dX4_tell_62 : decode cX4_tell 62 = .ok (.ireturn, 1) := by decide +kernel
set_option maxRecDepth 20000 in
theorem ggX4_isPresent_X4_isGone : GoodIn wsX4_isPresent wsX4_isGone := goodIn_r _ [7, 8, 15, 16, 17, 18, 19, 20, 21] (by decide +kernel) (by decide +kernel)
set_option maxRecDepth 20000 in
theorem gX4_isPresent_X4_isGone : GoodIn wsX4_isPresent (wsV RX4 36 RX4 yX4_isGone wsX4_isGone) := goodIn_app (goodIn_of _ (by decide +kernel)) ggX4_isPresent_X4_isGone
set_option maxRecDepth 20000 in
theorem ggX4_isPresent_X5_length : GoodIn wsX4_isPresent wsX5_length := goodIn_r _ [13, 14, 22, 23, 24, 25, 26, 27, 28] (by decide +kernel) (by decide +kernel)
set_option maxRecDepth 20000 in
theorem gX4_isPresent_X5_length : GoodIn wsX4_isPresent (wsV RX4 43 RX5 yX5_length wsX5_length) := goodIn_app (goodIn_of _ (by decide +kernel)) ggX4_isPresent_X5_length
theorem dX4_isPresent_0 : decode cX4_isPresent 0 = .ok (.aload_n 0, 1) := by decide +kernel
theorem dX4_isPresent_1 : decode cX4_isPresent 1 = .ok (.iload_n 1, 1) := by decide +kernel
theorem dX4_isPresent_2 : decode cX4_isPresent 2 = .ok (.invokevirtual 36, 3) := by decide +kernel
theorem dX4_isPresent_5 : decode cX4_isPresent 5 = .ok (.ifCond .ne 23, 3) := by decide +kernel
theorem dX4_isPresent_8 : decode cX4_isPresent 8 = .ok (.aload_n 0, 1) := by decide +kernel
theorem dX4_isPresent_9 : decode cX4_isPresent 9 = .ok (.getfield 15, 3) := by decide +kernel
theorem dX4_isPresent_12 : decode cX4_isPresent 12 = .ok (.iload_n 1, 1) := by decide +kernel
theorem dX4_isPresent_13 : decode cX4_isPresent 13 = .ok (.iaload, 1) := by decide +kernel
theorem dX4_isPresent_14 : decode cX4_isPresent 14 = .ok (.aload_n 0, 1) := by decide +kernel
theorem dX4_isPresent_15 : decode cX4_isPresent 15 = .ok (.getfield 32, 3) := by decide +kernel
theorem dX4_isPresent_18 : decode cX4_isPresent 18 = .ok (.invokevirtual 43, 3) := by decide +kernel
theorem dX4_isPresent_21 : decode cX4_isPresent 21 = .ok (.if_icmp .ge 7, 3) := by decide +kernel
theorem dX4_isPresent_24 : decode cX4_isPresent 24 = .ok (.iconst 1, 1) := by decide +kernel
theorem dX4_isPresent_25 : decode cX4_isPresent 25 = .ok (.goto 4, 3) := by decide +kernel
theorem dX4_isPresent_28 : decode cX4_isPresent 28 = .ok (.iconst 0, 1) := by decide +kernel
theorem dX4_isPresent_29 : decode cX4_isPresent 29 = .ok (.ireturn, 1) := by decide +kernel
theorem dX4_isOfKind_0 : decode cX4_isOfKind 0 = .ok (.aload_n 0, 1) := by decide +kernel
theorem dX4_isOfKind_1 : decode cX4_isOfKind 1 = .ok (.getfield 9, 3) := by decide +kernel
theorem dX4_isOfKind_4 : decode cX4_isOfKind 4 = .ok (.iload_n 1, 1) := by decide +kernel
theorem dX4_isOfKind_5 : decode cX4_isOfKind 5 = .ok (.iaload, 1) := by decide +kernel
theorem dX4_isOfKind_6 : decode cX4_isOfKind 6 = .ok (.istore_n 3, 1) := by decide +kernel
theorem dX4_isOfKind_7 : decode cX4_isOfKind 7 = .ok (.iload_n 3, 1) := by decide +kernel
theorem dX4_isOfKind_8 : decode cX4_isOfKind 8 = .ok (.iload_n 2, 1) := by decide +kernel
theorem dX4_isOfKind_9 : decode cX4_isOfKind 9 = .ok (.if_icmp .eq 17, 3) := by decide +kernel
theorem dX4_isOfKind_12 : decode cX4_isOfKind 12 = .ok (.iload_n 2, 1) := by decide +kernel
theorem dX4_isOfKind_13 : decode cX4_isOfKind 13 = .ok (.ifCond .eq 13, 3) := by decide +kernel
theorem dX4_isOfKind_16 : decode cX4_isOfKind 16 = .ok (.iload_n 2, 1) := by decide +kernel
theorem dX4_isOfKind_17 : decode cX4_isOfKind 17 = .ok (.iconst 1, 1) := by decide +kernel
theorem dX4_isOfKind_18 : decode cX4_isOfKind 18 = .ok (.if_icmp .ne 12, 3) := by decide +kernel
theorem dX4_isOfKind_21 : decode cX4_isOfKind 21 = .ok (.iload_n 3, 1) := by decide +kernel
theorem dX4_isOfKind_22 : decode cX4_isOfKind 22 = .ok (.iconst 2, 1) := by decide +kernel
theorem dX4_isOfKind_23 : decode cX4_isOfKind 23 = .ok (.if_icmp .ne 7, 3) := by decide +kernel
theorem dX4_isOfKind_26 : decode cX4_isOfKind 26 = .ok (.iconst 1, 1) := by decide +kernel
theorem dX4_isOfKind_27 : decode cX4_isOfKind 27 = .ok (.goto 4, 3) := by decide +kernel
theorem dX4_isOfKind_30 : decode cX4_isOfKind 30 = .ok (.iconst 0, 1) := by decide +kernel
theorem dX4_isOfKind_31 : decode cX4_isOfKind 31 = .ok (.ireturn, 1) := by decide +kernel
set_option maxRecDepth 20000 in
theorem ggX4_isLifted_X4_isPresent : GoodIn wsX4_isLifted wsX4_isPresent := goodIn_r _ [8, 3, 2, 9, 10, 11, 7, 12, 1, 13, 14, 15, 16, 17, 18, 52, 53, 54, 55, 56, 57, 58, 59, 60, 61, 62, 63, 64, 65] (by decide +kernel) (by decide +kernel)
set_option maxRecDepth 20000 in
theorem gX4_isLifted_X4_isPresent : GoodIn wsX4_isLifted (wsV RX4 40 RX4 yX4_isPresent wsX4_isPresent) := goodIn_app (goodIn_of _ (by decide +kernel)) ggX4_isLifted_X4_isPresent
set_option maxRecDepth 20000 in
theorem ggX4_isLifted_X5_growth : GoodIn wsX4_isLifted wsX5_growth := goodIn_r _ [22, 23, 24, 25, 26, 27, 28, 29, 16, 30, 31, 32, 33, 34, 35, 36, 37, 38, 39, 40, 41, 42, 43, 44, 45, 46, 47, 48, 49, 50, 51, 59, 60, 61, 62, 63, 64, 65, 66, 67, 68] (by decide +kernel) (by decide +kernel)
set_option maxRecDepth 20000 in
theorem gX4_isLifted_X5_growth : GoodIn wsX4_isLifted (wsV RX4 49 RX5 yX5_growth wsX5_growth) := goodIn_app (goodIn_of _ (by decide +kernel)) ggX4_isLifted_X5_growth
theorem dX4_isLifted_0 : decode cX4_isLifted 0 = .ok (.aload_n 0, 1) := by decide +kernel
theorem dX4_isLifted_1 : decode cX4_isLifted 1 = .ok (.iload_n 1, 1) := by decide +kernel
theorem dX4_isLifted_2 : decode cX4_isLifted 2 = .ok (.invokevirtual 40, 3) := by decide +kernel
theorem dX4_isLifted_5 : decode cX4_isLifted 5 = .ok (.ifCond .eq 26, 3) := by decide +kernel
theorem dX4_isLifted_8 : decode cX4_isLifted 8 = .ok (.aload_n 0, 1) := by decide +kernel
theorem dX4_isLifted_9 : decode cX4_isLifted 9 = .ok (.getfield 9, 3) := by decide +kernel
theorem dX4_isLifted_12 : decode cX4_isLifted 12 = .ok (.iload_n 1, 1) := by decide +kernel
theorem dX4_isLifted_13 : decode cX4_isLifted 13 = .ok (.iaload, 1) := by decide +kernel
theorem dX4_isLifted_14 : decode cX4_isLifted 14 = .ok (.ifCond .eq 13, 3) := by decide +kernel
theorem dX4_isLifted_17 : decode cX4_isLifted 17 = .ok (.aload_n 0, 1) := by decide +kernel
theorem dX4_isLifted_18 : decode cX4_isLifted 18 = .ok (.getfield 9, 3) := by decide +kernel
theorem dX4_isLifted_21 : decode cX4_isLifted 21 = .ok (.iload_n 1, 1) := by decide +kernel
theorem dX4_isLifted_22 : decode cX4_isLifted 22 = .ok (.iaload, 1) := by decide +kernel
theorem dX4_isLifted_23 : decode cX4_isLifted 23 = .ok (.iconst 1, 1) := by decide +kernel
theorem dX4_isLifted_24 : decode cX4_isLifted 24 = .ok (.if_icmp .ne 7, 3) := by decide +kernel
theorem dX4_isLifted_27 : decode cX4_isLifted 27 = .ok (.iconst 1, 1) := by decide +kernel
theorem dX4_isLifted_28 : decode cX4_isLifted 28 = .ok (.goto 4, 3) := by decide +kernel
theorem dX4_isLifted_31 : decode cX4_isLifted 31 = .ok (.iconst 0, 1) := by decide +kernel
theorem dX4_isLifted_32 : decode cX4_isLifted 32 = .ok (.istore_n 3, 1) := by decide +kernel
theorem dX4_isLifted_33 : decode cX4_isLifted 33 = .ok (.iload_n 3, 1) := by decide +kernel
theorem dX4_isLifted_34 : decode cX4_isLifted 34 = .ok (.ifCond .eq 25, 3) := by decide +kernel
theorem dX4_isLifted_37 : decode cX4_isLifted 37 = .ok (.aload_n 0, 1) := by decide +kernel
theorem dX4_isLifted_38 : decode cX4_isLifted 38 = .ok (.getfield 32, 3) := by decide +kernel
theorem dX4_isLifted_41 : decode cX4_isLifted 41 = .ok (.aload_n 0, 1) := by decide +kernel
theorem dX4_isLifted_42 : decode cX4_isLifted 42 = .ok (.getfield 15, 3) := by decide +kernel
theorem dX4_isLifted_45 : decode cX4_isLifted 45 = .ok (.iload_n 1, 1) := by decide +kernel
theorem dX4_isLifted_46 : decode cX4_isLifted 46 = .ok (.iaload, 1) := by decide +kernel
theorem dX4_isLifted_47 : decode cX4_isLifted 47 = .ok (.iload_n 2, 1) := by decide +kernel
theorem dX4_isLifted_48 : decode cX4_isLifted 48 = .ok (.iconst 2, 1) := by decide +kernel
theorem dX4_isLifted_49 : decode cX4_isLifted 49 = .ok (.invokevirtual 49, 3) := by decide +kernel
theorem dX4_isLifted_52 : decode cX4_isLifted 52 = .ok (.ifCond .le 7, 3) := by decide +kernel
theorem dX4_isLifted_55 : decode cX4_isLifted 55 = .ok (.iconst 1, 1) := by decide +kernel
theorem dX4_isLifted_56 : decode cX4_isLifted 56 = .ok (.goto 4, 3) := by decide +kernel
theorem dX4_isLifted_59 : decode cX4_isLifted 59 = .ok (.iconst 0, 1) := by decide +kernel
theorem dX4_isLifted_60 : decode cX4_isLifted 60 = .ok (.ireturn, 1) := by decide +kernel
theorem dX4_rateOf_0 : decode cX4_rateOf 0 = .ok (.aload_n 0, 1) := by decide +kernel
theorem dX4_rateOf_1 : decode cX4_rateOf 1 = .ok (.getfield 18, 3) := by decide +kernel
theorem dX4_rateOf_4 : decode cX4_rateOf 4 = .ok (.iload_n 1, 1) := by decide +kernel
theorem dX4_rateOf_5 : decode cX4_rateOf 5 = .ok (.iaload, 1) := by decide +kernel
theorem dX4_rateOf_6 : decode cX4_rateOf 6 = .ok (.ireturn, 1) := by decide +kernel
theorem dX4_setRate_0 : decode cX4_setRate 0 = .ok (.aload_n 0, 1) := by decide +kernel
theorem dX4_setRate_1 : decode cX4_setRate 1 = .ok (.getfield 18, 3) := by decide +kernel
theorem dX4_setRate_4 : decode cX4_setRate 4 = .ok (.iload_n 1, 1) := by decide +kernel
theorem dX4_setRate_5 : decode cX4_setRate 5 = .ok (.iload_n 2, 1) := by decide +kernel
theorem dX4_setRate_6 : decode cX4_setRate 6 = .ok (.iastore, 1) := by decide +kernel
theorem dX4_setRate_7 : decode cX4_setRate 7 = .ok (.return_, 1) := by decide +kernel
set_option maxRecDepth 20000 in
theorem ggX4_travel_X5_growth : GoodIn wsX4_travel wsX5_growth := goodIn_r _ [11, 12, 13, 14, 15, 16, 17, 18, 10, 19, 20, 21, 22, 23, 24, 25, 26, 27, 28, 29, 30, 31, 32, 33, 34, 35, 5, 36, 37, 38, 39, 47, 48, 49, 50, 51, 52, 53, 54, 55, 56] (by decide +kernel) (by decide +kernel)
set_option maxRecDepth 20000 in
theorem gX4_travel_X5_growth : GoodIn wsX4_travel (wsV RX4 49 RX5 yX5_growth wsX5_growth) := goodIn_app (goodIn_of _ (by decide +kernel)) ggX4_travel_X5_growth
theorem dX4_travel_0 : decode cX4_travel 0 = .ok (.aload_n 0, 1) := by decide +kernel
theorem dX4_travel_1 : decode cX4_travel 1 = .ok (.getfield 32, 3) := by decide +kernel
theorem dX4_travel_4 : decode cX4_travel 4 = .ok (.aload_n 0, 1) := by decide +kernel
theorem dX4_travel_5 : decode cX4_travel 5 = .ok (.getfield 15, 3) := by decide +kernel
theorem dX4_travel_8 : decode cX4_travel 8 = .ok (.iload_n 1, 1) := by decide +kernel
theorem dX4_travel_9 : decode cX4_travel 9 = .ok (.iaload, 1) := by decide +kernel
theorem dX4_travel_10 : decode cX4_travel 10 = .ok (.iload_n 2, 1) := by decide +kernel
theorem dX4_travel_11 : decode cX4_travel 11 = .ok (.iconst 2, 1) := by decide +kernel
theorem dX4_travel_12 : decode cX4_travel 12 = .ok (.invokevirtual 49, 3) := by decide +kernel
theorem dX4_travel_15 : decode cX4_travel 15 = .ok (.invokestatic 53, 3) := by decide +kernel
theorem dX4_travel_18 : decode cX4_travel 18 = .ok (.ireturn, 1) := by decide +kernel
set_option maxRecDepth 20000 in
theorem ggX4_noteBearing_X4_isPresent : GoodIn wsX4_noteBearing wsX4_isPresent := goodIn_r _ [8, 9, 10, 11, 12, 13, 7, 14, 3, 15, 16, 17, 18, 19, 20, 58, 59, 60, 61, 62, 63, 64, 65, 66, 67, 68, 69, 70, 71] (by decide +kernel) (by decide +kernel)
set_option maxRecDepth 20000 in
theorem gX4_noteBearing_X4_isPresent : GoodIn wsX4_noteBearing (wsV RX4 40 RX4 yX4_isPresent wsX4_isPresent) := goodIn_app (goodIn_of _ (by decide +kernel)) ggX4_noteBearing_X4_isPresent
set_option maxRecDepth 20000 in
theorem ggX4_noteBearing_X4_isLifted : GoodIn wsX4_noteBearing wsX4_isLifted := goodIn_r _ [24, 3, 10, 9, 4, 5, 6, 7, 8, 11, 12, 13, 14, 15, 16, 17, 18, 19, 20, 25, 26, 27, 28, 29, 30, 31, 32, 33, 34, 35, 36, 37, 38, 39, 40, 41, 42, 43, 44, 45, 46, 47, 48, 49, 50, 51, 52, 53, 54, 55, 56, 57, 58, 59, 60, 61, 62, 63, 64, 65, 66, 67, 68, 69, 70, 71, 72, 73, 74] (by decide +kernel) (by decide +kernel)
set_option maxRecDepth 20000 in
theorem gX4_noteBearing_X4_isLifted : GoodIn wsX4_noteBearing (wsV RX4 59 RX4 yX4_isLifted wsX4_isLifted) := goodIn_app (goodIn_of _ (by decide +kernel)) ggX4_noteBearing_X4_isLifted
theorem dX4_noteBearing_0 : decode cX4_noteBearing 0 = .ok (.iconst 0, 1) := by decide +kernel
theorem dX4_noteBearing_1 : decode cX4_noteBearing 1 = .ok (.istore_n 2, 1) := by decide +kernel
theorem dX4_noteBearing_2 : decode cX4_noteBearing 2 = .ok (.iload_n 2, 1) := by decide +kernel
theorem dX4_noteBearing_3 : decode cX4_noteBearing 3 = .ok (.aload_n 0, 1) := by decide +kernel
theorem dX4_noteBearing_4 : decode cX4_noteBearing 4 = .ok (.getfield 28, 3) := by decide +kernel
theorem dX4_noteBearing_7 : decode cX4_noteBearing 7 = .ok (.if_icmp .ge 47, 3) := by decide +kernel
theorem dX4_noteBearing_10 : decode cX4_noteBearing 10 = .ok (.aload_n 0, 1) := by decide +kernel
theorem dX4_noteBearing_11 : decode cX4_noteBearing 11 = .ok (.getfield 24, 3) := by decide +kernel
theorem dX4_noteBearing_14 : decode cX4_noteBearing 14 = .ok (.iload_n 2, 1) := by decide +kernel
theorem dX4_noteBearing_15 : decode cX4_noteBearing 15 = .ok (.aload_n 0, 1) := by decide +kernel
theorem dX4_noteBearing_16 : decode cX4_noteBearing 16 = .ok (.iload_n 2, 1) := by decide +kernel
theorem dX4_noteBearing_17 : decode cX4_noteBearing 17 = .ok (.invokevirtual 40, 3) := by decide +kernel
theorem dX4_noteBearing_20 : decode cX4_noteBearing 20 = .ok (.ifCond .eq 26, 3) := by decide +kernel
theorem dX4_noteBearing_23 : decode cX4_noteBearing 23 = .ok (.aload_n 0, 1) := by decide +kernel
theorem dX4_noteBearing_24 : decode cX4_noteBearing 24 = .ok (.getfield 9, 3) := by decide +kernel
theorem dX4_noteBearing_27 : decode cX4_noteBearing 27 = .ok (.iload_n 2, 1) := by decide +kernel
theorem dX4_noteBearing_28 : decode cX4_noteBearing 28 = .ok (.iaload, 1) := by decide +kernel
theorem dX4_noteBearing_29 : decode cX4_noteBearing 29 = .ok (.iconst 3, 1) := by decide +kernel
theorem dX4_noteBearing_30 : decode cX4_noteBearing 30 = .ok (.if_icmp .eq 16, 3) := by decide +kernel
theorem dX4_noteBearing_33 : decode cX4_noteBearing 33 = .ok (.aload_n 0, 1) := by decide +kernel
theorem dX4_noteBearing_34 : decode cX4_noteBearing 34 = .ok (.iload_n 2, 1) := by decide +kernel
theorem dX4_noteBearing_35 : decode cX4_noteBearing 35 = .ok (.iload_n 1, 1) := by decide +kernel
theorem dX4_noteBearing_36 : decode cX4_noteBearing 36 = .ok (.invokevirtual 59, 3) := by decide +kernel
theorem dX4_noteBearing_39 : decode cX4_noteBearing 39 = .ok (.ifCond .ne 7, 3) := by decide +kernel
theorem dX4_noteBearing_42 : decode cX4_noteBearing 42 = .ok (.iconst 1, 1) := by decide +kernel
theorem dX4_noteBearing_43 : decode cX4_noteBearing 43 = .ok (.goto 4, 3) := by decide +kernel
theorem dX4_noteBearing_46 : decode cX4_noteBearing 46 = .ok (.iconst 0, 1) := by decide +kernel
theorem dX4_noteBearing_47 : decode cX4_noteBearing 47 = .ok (.bastore, 1) := by decide +kernel
theorem dX4_noteBearing_48 : decode cX4_noteBearing 48 = .ok (.iinc 2 1, 3) := by decide +kernel
theorem dX4_noteBearing_51 : decode cX4_noteBearing 51 = .ok (.goto (-49), 3) := by decide +kernel
theorem dX4_noteBearing_54 : decode cX4_noteBearing 54 = .ok (.return_, 1) := by decide +kernel
theorem dX4_isBearing_0 : decode cX4_isBearing 0 = .ok (.aload_n 0, 1) := by decide +kernel
theorem dX4_isBearing_1 : decode cX4_isBearing 1 = .ok (.getfield 24, 3) := by decide +kernel
theorem dX4_isBearing_4 : decode cX4_isBearing 4 = .ok (.iload_n 1, 1) := by decide +kernel
theorem dX4_isBearing_5 : decode cX4_isBearing 5 = .ok (.baload, 1) := by decide +kernel
theorem dX4_isBearing_6 : decode cX4_isBearing 6 = .ok (.ireturn, 1) := by decide +kernel
set_option maxRecDepth 20000 in
theorem ggX4_twiceLoad_X5_length : GoodIn wsX4_twiceLoad wsX5_length := goodIn_r _ [16, 17, 45, 46, 47, 48, 49, 50, 51] (by decide +kernel) (by decide +kernel)
set_option maxRecDepth 20000 in
theorem gX4_twiceLoad_X5_length : GoodIn wsX4_twiceLoad (wsV RX4 43 RX5 yX5_length wsX5_length) := goodIn_app (goodIn_of _ (by decide +kernel)) ggX4_twiceLoad_X5_length
set_option maxRecDepth 20000 in
theorem ggX4_twiceLoad_X5_weight : GoodIn wsX4_twiceLoad wsX5_weight := goodIn_r _ [21, 22, 23, 24, 25, 26, 27, 28, 29, 30, 31, 32, 33, 34, 15, 35, 36, 10, 7, 11, 37, 6, 8, 45, 46, 47, 48, 49, 50, 51, 52, 53, 54] (by decide +kernel) (by decide +kernel)
set_option maxRecDepth 20000 in
theorem gX4_twiceLoad_X5_weight : GoodIn wsX4_twiceLoad (wsV RX4 70 RX5 yX5_weight wsX5_weight) := goodIn_app (goodIn_of _ (by decide +kernel)) ggX4_twiceLoad_X5_weight
theorem dX4_twiceLoad_0 : decode cX4_twiceLoad 0 = .ok (.aload_n 0, 1) := by decide +kernel
theorem dX4_twiceLoad_1 : decode cX4_twiceLoad 1 = .ok (.getfield 24, 3) := by decide +kernel
theorem dX4_twiceLoad_4 : decode cX4_twiceLoad 4 = .ok (.iload_n 1, 1) := by decide +kernel
theorem dX4_twiceLoad_5 : decode cX4_twiceLoad 5 = .ok (.baload, 1) := by decide +kernel
theorem dX4_twiceLoad_6 : decode cX4_twiceLoad 6 = .ok (.ifCond .eq 8, 3) := by decide +kernel
theorem dX4_twiceLoad_9 : decode cX4_twiceLoad 9 = .ok (.iload_n 1, 1) := by decide +kernel
theorem dX4_twiceLoad_10 : decode cX4_twiceLoad 10 = .ok (.iload_n 2, 1) := by decide +kernel
theorem dX4_twiceLoad_11 : decode cX4_twiceLoad 11 = .ok (.if_icmp .ne 5, 3) := by decide +kernel
theorem dX4_twiceLoad_14 : decode cX4_twiceLoad 14 = .ok (.iconst 0, 1) := by decide +kernel
theorem dX4_twiceLoad_15 : decode cX4_twiceLoad 15 = .ok (.ireturn, 1) := by decide +kernel
theorem dX4_twiceLoad_16 : decode cX4_twiceLoad 16 = .ok (.iconst 0, 1) := by decide +kernel
theorem dX4_twiceLoad_17 : decode cX4_twiceLoad 17 = .ok (.istore_n 3, 1) := by decide +kernel
theorem dX4_twiceLoad_18 : decode cX4_twiceLoad 18 = .ok (.aload_n 0, 1) := by decide +kernel
theorem dX4_twiceLoad_19 : decode cX4_twiceLoad 19 = .ok (.getfield 32, 3) := by decide +kernel
theorem dX4_twiceLoad_22 : decode cX4_twiceLoad 22 = .ok (.invokevirtual 43, 3) := by decide +kernel
theorem dX4_twiceLoad_25 : decode cX4_twiceLoad 25 = .ok (.istore 4, 2) := by decide +kernel
theorem dX4_twiceLoad_27 : decode cX4_twiceLoad 27 = .ok (.iconst 0, 1) := by decide +kernel
theorem dX4_twiceLoad_28 : decode cX4_twiceLoad 28 = .ok (.istore 5, 2) := by decide +kernel
theorem dX4_twiceLoad_30 : decode cX4_twiceLoad 30 = .ok (.iload 5, 2) := by decide +kernel
theorem dX4_twiceLoad_32 : decode cX4_twiceLoad 32 = .ok (.aload_n 0, 1) := by decide +kernel
theorem dX4_twiceLoad_33 : decode cX4_twiceLoad 33 = .ok (.getfield 28, 3) := by decide +kernel
theorem dX4_twiceLoad_36 : decode cX4_twiceLoad 36 = .ok (.if_icmp .ge 86, 3) := by decide +kernel
theorem dX4_twiceLoad_39 : decode cX4_twiceLoad 39 = .ok (.aload_n 0, 1) := by decide +kernel
theorem dX4_twiceLoad_40 : decode cX4_twiceLoad 40 = .ok (.getfield 24, 3) := by decide +kernel
theorem dX4_twiceLoad_43 : decode cX4_twiceLoad 43 = .ok (.iload 5, 2) := by decide +kernel
theorem dX4_twiceLoad_45 : decode cX4_twiceLoad 45 = .ok (.baload, 1) := by decide +kernel
theorem dX4_twiceLoad_46 : decode cX4_twiceLoad 46 = .ok (.ifCond .eq 70, 3) := by decide +kernel
theorem dX4_twiceLoad_49 : decode cX4_twiceLoad 49 = .ok (.iload 5, 2) := by decide +kernel
theorem dX4_twiceLoad_51 : decode cX4_twiceLoad 51 = .ok (.iload_n 2, 1) := by decide +kernel
theorem dX4_twiceLoad_52 : decode cX4_twiceLoad 52 = .ok (.if_icmp .eq 64, 3) := by decide +kernel
theorem dX4_twiceLoad_55 : decode cX4_twiceLoad 55 = .ok (.aload_n 0, 1) := by decide +kernel
theorem dX4_twiceLoad_56 : decode cX4_twiceLoad 56 = .ok (.getfield 15, 3) := by decide +kernel
theorem dX4_twiceLoad_59 : decode cX4_twiceLoad 59 = .ok (.iload 5, 2) := by decide +kernel
theorem dX4_twiceLoad_61 : decode cX4_twiceLoad 61 = .ok (.iaload, 1) := by decide +kernel
theorem dX4_twiceLoad_62 : decode cX4_twiceLoad 62 = .ok (.aload_n 0, 1) := by decide +kernel
theorem dX4_twiceLoad_63 : decode cX4_twiceLoad 63 = .ok (.getfield 15, 3) := by decide +kernel
theorem dX4_twiceLoad_66 : decode cX4_twiceLoad 66 = .ok (.iload_n 1, 1) := by decide +kernel
theorem dX4_twiceLoad_67 : decode cX4_twiceLoad 67 = .ok (.iaload, 1) := by decide +kernel
theorem dX4_twiceLoad_68 : decode cX4_twiceLoad 68 = .ok (.if_icmp .ge 18, 3) := by decide +kernel
theorem dX4_twiceLoad_71 : decode cX4_twiceLoad 71 = .ok (.iload_n 3, 1) := by decide +kernel
theorem dX4_twiceLoad_72 : decode cX4_twiceLoad 72 = .ok (.aload_n 0, 1) := by decide +kernel
theorem dX4_twiceLoad_73 : decode cX4_twiceLoad 73 = .ok (.getfield 15, 3) := by decide +kernel
theorem dX4_twiceLoad_76 : decode cX4_twiceLoad 76 = .ok (.iload 5, 2) := by decide +kernel
theorem dX4_twiceLoad_78 : decode cX4_twiceLoad 78 = .ok (.iaload, 1) := by decide +kernel
theorem dX4_twiceLoad_79 : decode cX4_twiceLoad 79 = .ok (.invokestatic 63, 3) := by decide +kernel
theorem dX4_twiceLoad_82 : decode cX4_twiceLoad 82 = .ok (.istore_n 3, 1) := by decide +kernel
theorem dX4_twiceLoad_83 : decode cX4_twiceLoad 83 = .ok (.goto 33, 3) := by decide +kernel
theorem dX4_twiceLoad_86 : decode cX4_twiceLoad 86 = .ok (.aload_n 0, 1) := by decide +kernel
theorem dX4_twiceLoad_87 : decode cX4_twiceLoad 87 = .ok (.getfield 15, 3) := by decide +kernel
theorem dX4_twiceLoad_90 : decode cX4_twiceLoad 90 = .ok (.iload 5, 2) := by decide +kernel
theorem dX4_twiceLoad_92 : decode cX4_twiceLoad 92 = .ok (.iaload, 1) := by decide +kernel
theorem dX4_twiceLoad_93 : decode cX4_twiceLoad 93 = .ok (.aload_n 0, 1) := by decide +kernel
theorem dX4_twiceLoad_94 : decode cX4_twiceLoad 94 = .ok (.getfield 15, 3) := by decide +kernel
theorem dX4_twiceLoad_97 : decode cX4_twiceLoad 97 = .ok (.iload_n 1, 1) := by decide +kernel
theorem dX4_twiceLoad_98 : decode cX4_twiceLoad 98 = .ok (.iaload, 1) := by decide +kernel
theorem dX4_twiceLoad_99 : decode cX4_twiceLoad 99 = .ok (.if_icmp .le 17, 3) := by decide +kernel
theorem dX4_twiceLoad_102 : decode cX4_twiceLoad 102 = .ok (.iload 4, 2) := by decide +kernel
theorem dX4_twiceLoad_104 : decode cX4_twiceLoad 104 = .ok (.aload_n 0, 1) := by decide +kernel
theorem dX4_twiceLoad_105 : decode cX4_twiceLoad 105 = .ok (.getfield 15, 3) := by decide +kernel
theorem dX4_twiceLoad_108 : decode cX4_twiceLoad 108 = .ok (.iload 5, 2) := by decide +kernel
theorem dX4_twiceLoad_110 : decode cX4_twiceLoad 110 = .ok (.iaload, 1) := by decide +kernel
theorem dX4_twiceLoad_111 : decode cX4_twiceLoad 111 = .ok (.invokestatic 67, 3) := by decide +kernel
theorem dX4_twiceLoad_114 : decode cX4_twiceLoad 114 = .ok (.istore 4, 2) := by decide +kernel
theorem dX4_twiceLoad_116 : decode cX4_twiceLoad 116 = .ok (.iinc 5 1, 3) := by decide +kernel
theorem dX4_twiceLoad_119 : decode cX4_twiceLoad 119 = .ok (.goto (-89), 3) := by decide +kernel
theorem dX4_twiceLoad_122 : decode cX4_twiceLoad 122 = .ok (.aload_n 0, 1) := by decide +kernel
theorem dX4_twiceLoad_123 : decode cX4_twiceLoad 123 = .ok (.getfield 32, 3) := by decide +kernel
theorem dX4_twiceLoad_126 : decode cX4_twiceLoad 126 = .ok (.iload_n 3, 1) := by decide +kernel
theorem dX4_twiceLoad_127 : decode cX4_twiceLoad 127 = .ok (.iload 4, 2) := by decide +kernel
theorem dX4_twiceLoad_129 : decode cX4_twiceLoad 129 = .ok (.invokevirtual 70, 3) := by decide +kernel
theorem dX4_twiceLoad_132 : decode cX4_twiceLoad 132 = .ok (.ireturn, 1) := by decide +kernel
theorem dX4_replaceReading_0 : decode cX4_replaceReading 0 = .ok (.aload_n 0, 1) := by decide +kernel
theorem dX4_replaceReading_1 : decode cX4_replaceReading 1 = .ok (.getfield 21, 3) := by decide +kernel
theorem dX4_replaceReading_4 : decode cX4_replaceReading 4 = .ok (.iload_n 1, 1) := by decide +kernel
theorem dX4_replaceReading_5 : decode cX4_replaceReading 5 = .ok (.iaload, 1) := by decide +kernel
theorem dX4_replaceReading_6 : decode cX4_replaceReading 6 = .ok (.istore_n 3, 1) := by decide +kernel
theorem dX4_replaceReading_7 : decode cX4_replaceReading 7 = .ok (.aload_n 0, 1) := by decide +kernel
theorem dX4_replaceReading_8 : decode cX4_replaceReading 8 = .ok (.getfield 21, 3) := by decide +kernel
theorem dX4_replaceReading_11 : decode cX4_replaceReading 11 = .ok (.iload_n 1, 1) := by decide +kernel
theorem dX4_replaceReading_12 : decode cX4_replaceReading 12 = .ok (.iload_n 2, 1) := by decide +kernel
theorem dX4_replaceReading_13 : decode cX4_replaceReading 13 = .ok (.iastore, 1) := by decide +kernel
theorem dX4_replaceReading_14 : decode cX4_replaceReading 14 = .ok (.iload_n 3, 1) := by decide +kernel
theorem dX4_replaceReading_15 : decode cX4_replaceReading 15 = .ok (.ireturn, 1) := by decide +kernel
set_option maxRecDepth 20000 in
theorem ggX4_isRead_X4_isGone : GoodIn wsX4_isRead wsX4_isGone := goodIn_r _ [6, 7, 8, 9, 10, 11, 12, 13, 14] (by decide +kernel) (by decide +kernel)
set_option maxRecDepth 20000 in
theorem gX4_isRead_X4_isGone : GoodIn wsX4_isRead (wsV RX4 36 RX4 yX4_isGone wsX4_isGone) := goodIn_app (goodIn_of _ (by decide +kernel)) ggX4_isRead_X4_isGone
theorem dX4_isRead_0 : decode cX4_isRead 0 = .ok (.aload_n 0, 1) := by decide +kernel
theorem dX4_isRead_1 : decode cX4_isRead 1 = .ok (.iload_n 1, 1) := by decide +kernel
theorem dX4_isRead_2 : decode cX4_isRead 2 = .ok (.invokevirtual 36, 3) := by decide +kernel
theorem dX4_isRead_5 : decode cX4_isRead 5 = .ok (.ifCond .ne 18, 3) := by decide +kernel
theorem dX4_isRead_8 : decode cX4_isRead 8 = .ok (.aload_n 0, 1) := by decide +kernel
theorem dX4_isRead_9 : decode cX4_isRead 9 = .ok (.getfield 21, 3) := by decide +kernel
theorem dX4_isRead_12 : decode cX4_isRead 12 = .ok (.iload_n 1, 1) := by decide +kernel
theorem dX4_isRead_13 : decode cX4_isRead 13 = .ok (.iaload, 1) := by decide +kernel
theorem dX4_isRead_14 : decode cX4_isRead 14 = .ok (.bipush (-9), 2) := by decide +kernel
theorem dX4_isRead_16 : decode cX4_isRead 16 = .ok (.if_icmp .eq 7, 3) := by decide +kernel
theorem dX4_isRead_19 : decode cX4_isRead 19 = .ok (.iconst 1, 1) := by decide +kernel
theorem dX4_isRead_20 : decode cX4_isRead 20 = .ok (.goto 4, 3) := by decide +kernel
theorem dX4_isRead_23 : decode cX4_isRead 23 = .ok (.iconst 0, 1) := by decide +kernel
theorem dX4_isRead_24 : decode cX4_isRead 24 = .ok (.ireturn, 1) := by decide +kernel
set_option maxRecDepth 20000 in
theorem ggX4_hasReading_X4_isRead : GoodIn wsX4_hasReading wsX4_isRead := goodIn_r _ [6, 7, 8, 9, 10, 5, 11, 12, 13, 14, 15, 16, 17, 18, 19] (by decide +kernel) (by decide +kernel)
set_option maxRecDepth 20000 in
theorem gX4_hasReading_X4_isRead : GoodIn wsX4_hasReading (wsV RX4 73 RX4 yX4_isRead wsX4_isRead) := goodIn_app (goodIn_of _ (by decide +kernel)) ggX4_hasReading_X4_isRead
theorem dX4_hasReading_0 : decode cX4_hasReading 0 = .ok (.iconst 0, 1) := by decide +kernel
theorem dX4_hasReading_1 : decode cX4_hasReading 1 = .ok (.istore_n 1, 1) := by decide +kernel
theorem dX4_hasReading_2 : decode cX4_hasReading 2 = .ok (.iload_n 1, 1) := by decide +kernel
theorem dX4_hasReading_3 : decode cX4_hasReading 3 = .ok (.aload_n 0, 1) := by decide +kernel
theorem dX4_hasReading_4 : decode cX4_hasReading 4 = .ok (.getfield 28, 3) := by decide +kernel
theorem dX4_hasReading_7 : decode cX4_hasReading 7 = .ok (.if_icmp .ge 19, 3) := by decide +kernel
theorem dX4_hasReading_10 : decode cX4_hasReading 10 = .ok (.aload_n 0, 1) := by decide +kernel
theorem dX4_hasReading_11 : decode cX4_hasReading 11 = .ok (.iload_n 1, 1) := by decide +kernel
theorem dX4_hasReading_12 : decode cX4_hasReading 12 = .ok (.invokevirtual 73, 3) := by decide +kernel
theorem dX4_hasReading_15 : decode cX4_hasReading 15 = .ok (.ifCond .eq 5, 3) := by decide +kernel
theorem dX4_hasReading_18 : decode cX4_hasReading 18 = .ok (.iconst 1, 1) := by decide +kernel
theorem dX4_hasReading_19 : decode cX4_hasReading 19 = .ok (.ireturn, 1) := by decide +kernel
theorem dX4_hasReading_20 : decode cX4_hasReading 20 = .ok (.iinc 1 1, 3) := by decide +kernel
theorem dX4_hasReading_23 : decode cX4_hasReading 23 = .ok (.goto (-21), 3) := by decide +kernel
theorem dX4_hasReading_26 : decode cX4_hasReading 26 = .ok (.iconst 0, 1) := by decide +kernel
theorem dX4_hasReading_27 : decode cX4_hasReading 27 = .ok (.ireturn, 1) := by decide +kernel
set_option maxRecDepth 20000 in
theorem ggX4_differenceWithout_X4_isRead : GoodIn wsX4_differenceWithout wsX4_isRead := goodIn_r _ [11, 2, 12, 13, 14, 10, 15, 16, 56, 57, 58, 59, 60, 61, 62] (by decide +kernel) (by decide +kernel)
set_option maxRecDepth 20000 in
theorem gX4_differenceWithout_X4_isRead : GoodIn wsX4_differenceWithout (wsV RX4 73 RX4 yX4_isRead wsX4_isRead) := goodIn_app (goodIn_of _ (by decide +kernel)) ggX4_differenceWithout_X4_isRead
set_option maxRecDepth 20000 in
theorem ggX4_differenceWithout_X4_twiceLoad : GoodIn wsX4_differenceWithout wsX4_twiceLoad := goodIn_r _ [20, 21, 22, 1, 23, 24, 25, 5, 26, 27, 28, 29, 30, 31, 32, 33, 34, 35, 36, 37, 38, 39, 40, 41, 42, 43, 44, 45, 46, 47, 48, 49, 50, 51, 52, 53, 54, 55, 56, 57, 58, 59, 60, 61, 62, 63, 64, 65, 66, 67, 68, 69, 70, 71, 72] (by decide +kernel) (by decide +kernel)
set_option maxRecDepth 20000 in
theorem gX4_differenceWithout_X4_twiceLoad : GoodIn wsX4_differenceWithout (wsV RX4 76 RX4 yX4_twiceLoad wsX4_twiceLoad) := goodIn_app (goodIn_of _ (by decide +kernel)) ggX4_differenceWithout_X4_twiceLoad
theorem dX4_differenceWithout_0 : decode cX4_differenceWithout 0 = .ok (.iconst 0, 1) := by decide +kernel
theorem dX4_differenceWithout_1 : decode cX4_differenceWithout 1 = .ok (.istore_n 2, 1) := by decide +kernel
theorem dX4_differenceWithout_2 : decode cX4_differenceWithout 2 = .ok (.iconst 0, 1) := by decide +kernel
theorem dX4_differenceWithout_3 : decode cX4_differenceWithout 3 = .ok (.istore_n 3, 1) := by decide +kernel
theorem dX4_differenceWithout_4 : decode cX4_differenceWithout 4 = .ok (.iload_n 3, 1) := by decide +kernel
theorem dX4_differenceWithout_5 : decode cX4_differenceWithout 5 = .ok (.aload_n 0, 1) := by decide +kernel
theorem dX4_differenceWithout_6 : decode cX4_differenceWithout 6 = .ok (.getfield 28, 3) := by decide +kernel
theorem dX4_differenceWithout_9 : decode cX4_differenceWithout 9 = .ok (.if_icmp .ge 41, 3) := by decide +kernel
theorem dX4_differenceWithout_12 : decode cX4_differenceWithout 12 = .ok (.aload_n 0, 1) := by decide +kernel
theorem dX4_differenceWithout_13 : decode cX4_differenceWithout 13 = .ok (.iload_n 3, 1) := by decide +kernel
theorem dX4_differenceWithout_14 : decode cX4_differenceWithout 14 = .ok (.invokevirtual 73, 3) := by decide +kernel
theorem dX4_differenceWithout_17 : decode cX4_differenceWithout 17 = .ok (.ifCond .eq 27, 3) := by decide +kernel
theorem dX4_differenceWithout_20 : decode cX4_differenceWithout 20 = .ok (.iload_n 3, 1) := by decide +kernel
theorem dX4_differenceWithout_21 : decode cX4_differenceWithout 21 = .ok (.iload_n 1, 1) := by decide +kernel
theorem dX4_differenceWithout_22 : decode cX4_differenceWithout 22 = .ok (.if_icmp .eq 22, 3) := by decide +kernel
theorem dX4_differenceWithout_25 : decode cX4_differenceWithout 25 = .ok (.iload_n 2, 1) := by decide +kernel
theorem dX4_differenceWithout_26 : decode cX4_differenceWithout 26 = .ok (.aload_n 0, 1) := by decide +kernel
theorem dX4_differenceWithout_27 : decode cX4_differenceWithout 27 = .ok (.iload_n 3, 1) := by decide +kernel
theorem dX4_differenceWithout_28 : decode cX4_differenceWithout 28 = .ok (.iload_n 1, 1) := by decide +kernel
theorem dX4_differenceWithout_29 : decode cX4_differenceWithout 29 = .ok (.invokevirtual 76, 3) := by decide +kernel
theorem dX4_differenceWithout_32 : decode cX4_differenceWithout 32 = .ok (.aload_n 0, 1) := by decide +kernel
theorem dX4_differenceWithout_33 : decode cX4_differenceWithout 33 = .ok (.getfield 21, 3) := by decide +kernel
theorem dX4_differenceWithout_36 : decode cX4_differenceWithout 36 = .ok (.iload_n 3, 1) := by decide +kernel
theorem dX4_differenceWithout_37 : decode cX4_differenceWithout 37 = .ok (.iaload, 1) := by decide +kernel
theorem dX4_differenceWithout_38 : decode cX4_differenceWithout 38 = .ok (.isub, 1) := by decide +kernel
theorem dX4_differenceWithout_39 : decode cX4_differenceWithout 39 = .ok (.invokestatic 53, 3) := by decide +kernel
theorem dX4_differenceWithout_42 : decode cX4_differenceWithout 42 = .ok (.iadd, 1) := by decide +kernel
theorem dX4_differenceWithout_43 : decode cX4_differenceWithout 43 = .ok (.istore_n 2, 1) := by decide +kernel
theorem dX4_differenceWithout_44 : decode cX4_differenceWithout 44 = .ok (.iinc 3 1, 3) := by decide +kernel
theorem dX4_differenceWithout_47 : decode cX4_differenceWithout 47 = .ok (.goto (-43), 3) := by decide +kernel
theorem dX4_differenceWithout_50 : decode cX4_differenceWithout 50 = .ok (.iload_n 2, 1) := by decide +kernel
theorem dX4_differenceWithout_51 : decode cX4_differenceWithout 51 = .ok (.ireturn, 1) := by decide +kernel
set_option maxRecDepth 20000 in
theorem ggX4_mixInto_X4_isGone : GoodIn wsX4_mixInto wsX4_isGone := goodIn_r _ [8, 9, 27, 28, 29, 30, 31, 32, 33] (by decide +kernel) (by decide +kernel)
set_option maxRecDepth 20000 in
theorem gX4_mixInto_X4_isGone : GoodIn wsX4_mixInto (wsV RX4 36 RX4 yX4_isGone wsX4_isGone) := goodIn_app (goodIn_of _ (by decide +kernel)) ggX4_mixInto_X4_isGone
set_option maxRecDepth 20000 in
theorem ggX4_mixInto_X4_tell : GoodIn wsX4_mixInto wsX4_tell := goodIn_r _ [13, 9, 14, 15, 16, 17, 18, 7, 19, 20, 4, 5, 6, 8, 21, 22, 23, 24, 25, 26, 27, 28, 29, 30, 31, 32, 33, 34, 35, 36, 37, 38, 39, 40] (by decide +kernel) (by decide +kernel)
set_option maxRecDepth 20000 in
theorem gX4_mixInto_X4_tell : GoodIn wsX4_mixInto (wsV RX4 81 RX4 yX4_tell wsX4_tell) := goodIn_app (goodIn_of _ (by decide +kernel)) ggX4_mixInto_X4_tell
theorem dX4_mixInto_0 : decode cX4_mixInto 0 = .ok (.iconst 0, 1) := by decide +kernel
theorem dX4_mixInto_1 : decode cX4_mixInto 1 = .ok (.istore_n 3, 1) := by decide +kernel
theorem dX4_mixInto_2 : decode cX4_mixInto 2 = .ok (.iload_n 3, 1) := by decide +kernel
theorem dX4_mixInto_3 : decode cX4_mixInto 3 = .ok (.aload_n 0, 1) := by decide +kernel
theorem dX4_mixInto_4 : decode cX4_mixInto 4 = .ok (.getfield 28, 3) := by decide +kernel
theorem dX4_mixInto_7 : decode cX4_mixInto 7 = .ok (.if_icmp .ge 72, 3) := by decide +kernel
theorem dX4_mixInto_10 : decode cX4_mixInto 10 = .ok (.aload_n 0, 1) := by decide +kernel
theorem dX4_mixInto_11 : decode cX4_mixInto 11 = .ok (.iload_n 3, 1) := by decide +kernel
theorem dX4_mixInto_12 : decode cX4_mixInto 12 = .ok (.invokevirtual 36, 3) := by decide +kernel
theorem dX4_mixInto_15 : decode cX4_mixInto 15 = .ok (.ifCond .eq 14, 3) := by decide +kernel
theorem dX4_mixInto_18 : decode cX4_mixInto 18 = .ok (.ldc2_w 79, 3) := by decide +kernel
theorem dX4_mixInto_21 : decode cX4_mixInto 21 = .ok (.lload_n 1, 1) := by decide +kernel
theorem dX4_mixInto_22 : decode cX4_mixInto 22 = .ok (.lmul, 1) := by decide +kernel
theorem dX4_mixInto_23 : decode cX4_mixInto 23 = .ok (.lconst 1, 1) := by decide +kernel
theorem dX4_mixInto_24 : decode cX4_mixInto 24 = .ok (.lsub, 1) := by decide +kernel
theorem dX4_mixInto_25 : decode cX4_mixInto 25 = .ok (.lstore_n 1, 1) := by decide +kernel
theorem dX4_mixInto_26 : decode cX4_mixInto 26 = .ok (.goto 47, 3) := by decide +kernel
theorem dX4_mixInto_29 : decode cX4_mixInto 29 = .ok (.iconst 0, 1) := by decide +kernel
theorem dX4_mixInto_30 : decode cX4_mixInto 30 = .ok (.istore 4, 2) := by decide +kernel
theorem dX4_mixInto_32 : decode cX4_mixInto 32 = .ok (.iload 4, 2) := by decide +kernel
theorem dX4_mixInto_34 : decode cX4_mixInto 34 = .ok (.iconst 3, 1) := by decide +kernel
theorem dX4_mixInto_35 : decode cX4_mixInto 35 = .ok (.if_icmp .gt 24, 3) := by decide +kernel
theorem dX4_mixInto_38 : decode cX4_mixInto 38 = .ok (.ldc2_w 79, 3) := by decide +kernel
theorem dX4_mixInto_41 : decode cX4_mixInto 41 = .ok (.lload_n 1, 1) := by decide +kernel
theorem dX4_mixInto_42 : decode cX4_mixInto 42 = .ok (.lmul, 1) := by decide +kernel
theorem dX4_mixInto_43 : decode cX4_mixInto 43 = .ok (.aload_n 0, 1) := by decide +kernel
theorem dX4_mixInto_44 : decode cX4_mixInto 44 = .ok (.iload_n 3, 1) := by decide +kernel
theorem dX4_mixInto_45 : decode cX4_mixInto 45 = .ok (.iload 4, 2) := by decide +kernel
theorem dX4_mixInto_47 : decode cX4_mixInto 47 = .ok (.invokevirtual 81, 3) := by decide +kernel
theorem dX4_mixInto_50 : decode cX4_mixInto 50 = .ok (.i2l, 1) := by decide +kernel
theorem dX4_mixInto_51 : decode cX4_mixInto 51 = .ok (.ladd, 1) := by decide +kernel
theorem dX4_mixInto_52 : decode cX4_mixInto 52 = .ok (.lstore_n 1, 1) := by decide +kernel
theorem dX4_mixInto_53 : decode cX4_mixInto 53 = .ok (.iinc 4 1, 3) := by decide +kernel
theorem dX4_mixInto_56 : decode cX4_mixInto 56 = .ok (.goto (-24), 3) := by decide +kernel
theorem dX4_mixInto_59 : decode cX4_mixInto 59 = .ok (.ldc2_w 79, 3) := by decide +kernel
theorem dX4_mixInto_62 : decode cX4_mixInto 62 = .ok (.lload_n 1, 1) := by decide +kernel
theorem dX4_mixInto_63 : decode cX4_mixInto 63 = .ok (.lmul, 1) := by decide +kernel
theorem dX4_mixInto_64 : decode cX4_mixInto 64 = .ok (.aload_n 0, 1) := by decide +kernel
theorem dX4_mixInto_65 : decode cX4_mixInto 65 = .ok (.getfield 21, 3) := by decide +kernel
theorem dX4_mixInto_68 : decode cX4_mixInto 68 = .ok (.iload_n 3, 1) := by decide +kernel
theorem dX4_mixInto_69 : decode cX4_mixInto 69 = .ok (.iaload, 1) := by decide +kernel
theorem dX4_mixInto_70 : decode cX4_mixInto 70 = .ok (.i2l, 1) := by decide +kernel
theorem dX4_mixInto_71 : decode cX4_mixInto 71 = .ok (.ladd, 1) := by decide +kernel
theorem dX4_mixInto_72 : decode cX4_mixInto 72 = .ok (.lstore_n 1, 1) := by decide +kernel
theorem dX4_mixInto_73 : decode cX4_mixInto 73 = .ok (.iinc 3 1, 3) := by decide +kernel
theorem dX4_mixInto_76 : decode cX4_mixInto 76 = .ok (.goto (-74), 3) := by decide +kernel
theorem dX4_mixInto_79 : decode cX4_mixInto 79 = .ok (.lload_n 1, 1) := by decide +kernel
theorem dX4_mixInto_80 : decode cX4_mixInto 80 = .ok (.lreturn, 1) := by decide +kernel
theorem dX5_init_0 : decode cX5_init 0 = .ok (.aload_n 0, 1) := by decide +kernel
theorem dX5_init_1 : decode cX5_init 1 = .ok (.invokespecial 3, 3) := by decide +kernel
theorem dX5_init_4 : decode cX5_init 4 = .ok (.aload_n 0, 1) := by decide +kernel
theorem dX5_init_5 : decode cX5_init 5 = .ok (.bipush 12, 2) := by decide +kernel
theorem dX5_init_7 : decode cX5_init 7 = .ok (.newarray .int, 2) := by decide +kernel
theorem dX5_init_9 : decode cX5_init 9 = .ok (.putfield 9, 3) := by decide +kernel
theorem dX5_init_12 : decode cX5_init 12 = .ok (.aload_n 0, 1) := by decide +kernel
theorem dX5_init_13 : decode cX5_init 13 = .ok (.bipush 12, 2) := by decide +kernel
theorem dX5_init_15 : decode cX5_init 15 = .ok (.newarray .int, 2) := by decide +kernel
theorem dX5_init_17 : decode cX5_init 17 = .ok (.putfield 15, 3) := by decide +kernel
theorem dX5_init_20 : decode cX5_init 20 = .ok (.aload_n 0, 1) := by decide +kernel
theorem dX5_init_21 : decode cX5_init 21 = .ok (.bipush 12, 2) := by decide +kernel
theorem dX5_init_23 : decode cX5_init 23 = .ok (.newarray .int, 2) := by decide +kernel
theorem dX5_init_25 : decode cX5_init 25 = .ok (.putfield 18, 3) := by decide +kernel
theorem dX5_init_28 : decode cX5_init 28 = .ok (.aload_n 0, 1) := by decide +kernel
theorem dX5_init_29 : decode cX5_init 29 = .ok (.iconst 3, 1) := by decide +kernel
theorem dX5_init_30 : decode cX5_init 30 = .ok (.newarray .int, 2) := by decide +kernel
theorem dX5_init_32 : decode cX5_init 32 = .ok (.putfield 21, 3) := by decide +kernel
theorem dX5_init_35 : decode cX5_init 35 = .ok (.aload_n 0, 1) := by decide +kernel
theorem dX5_init_36 : decode cX5_init 36 = .ok (.iconst 0, 1) := by decide +kernel
theorem dX5_init_37 : decode cX5_init 37 = .ok (.putfield 24, 3) := by decide +kernel
theorem dX5_init_40 : decode cX5_init 40 = .ok (.aload_n 0, 1) := by decide +kernel
theorem dX5_init_41 : decode cX5_init 41 = .ok (.iconst 0, 1) := by decide +kernel
theorem dX5_init_42 : decode cX5_init 42 = .ok (.putfield 28, 3) := by decide +kernel
theorem dX5_init_45 : decode cX5_init 45 = .ok (.aload_n 0, 1) := by decide +kernel
theorem dX5_init_46 : decode cX5_init 46 = .ok (.aload_n 1, 1) := by decide +kernel
theorem dX5_init_47 : decode cX5_init 47 = .ok (.putfield 31, 3) := by decide +kernel
theorem dX5_init_50 : decode cX5_init 50 = .ok (.return_, 1) := by decide +kernel
theorem dX5_legs_0 : decode cX5_legs 0 = .ok (.aload_n 0, 1) := by decide +kernel
theorem dX5_legs_1 : decode cX5_legs 1 = .ok (.getfield 24, 3) := by decide +kernel
theorem dX5_legs_4 : decode cX5_legs 4 = .ok (.ireturn, 1) := by decide +kernel
theorem dX5_length_0 : decode cX5_length 0 = .ok (.aload_n 0, 1) := by decide +kernel
theorem dX5_length_1 : decode cX5_length 1 = .ok (.getfield 28, 3) := by decide +kernel
theorem dX5_length_4 : decode cX5_length 4 = .ok (.ireturn, 1) := by decide +kernel
theorem dX5_unitsOf_0 : decode cX5_unitsOf 0 = .ok (.aload_n 0, 1) := by decide +kernel
theorem dX5_unitsOf_1 : decode cX5_unitsOf 1 = .ok (.getfield 15, 3) := by decide +kernel
theorem dX5_unitsOf_4 : decode cX5_unitsOf 4 = .ok (.iload_n 1, 1) := by decide +kernel
theorem dX5_unitsOf_5 : decode cX5_unitsOf 5 = .ok (.iaload, 1) := by decide +kernel
theorem dX5_unitsOf_6 : decode cX5_unitsOf 6 = .ok (.ireturn, 1) := by decide +kernel
set_option maxRecDepth 20000 in
theorem ggX5_isAcross_X5_axisOf : GoodIn wsX5_isAcross wsX5_axisOf := goodIn_r _ [5] (by decide +kernel) (by decide +kernel)
set_option maxRecDepth 20000 in
theorem gX5_isAcross_X5_axisOf : GoodIn wsX5_isAcross (va_wsS RX5 35 yX5_axisOf wsX5_axisOf) := goodIn_app (goodIn_of _ (by decide +kernel)) ggX5_isAcross_X5_axisOf
theorem dX5_isAcross_0 : decode cX5_isAcross 0 = .ok (.iload_n 2, 1) := by decide +kernel
theorem dX5_isAcross_1 : decode cX5_isAcross 1 = .ok (.invokestatic 35, 3) := by decide +kernel
theorem dX5_isAcross_4 : decode cX5_isAcross 4 = .ok (.aload_n 0, 1) := by decide +kernel
theorem dX5_isAcross_5 : decode cX5_isAcross 5 = .ok (.getfield 9, 3) := by decide +kernel
theorem dX5_isAcross_8 : decode cX5_isAcross 8 = .ok (.iload_n 1, 1) := by decide +kernel
theorem dX5_isAcross_9 : decode cX5_isAcross 9 = .ok (.iaload, 1) := by decide +kernel
theorem dX5_isAcross_10 : decode cX5_isAcross 10 = .ok (.invokestatic 35, 3) := by decide +kernel
theorem dX5_isAcross_13 : decode cX5_isAcross 13 = .ok (.if_icmp .eq 7, 3) := by decide +kernel
theorem dX5_isAcross_16 : decode cX5_isAcross 16 = .ok (.iconst 1, 1) := by decide +kernel
theorem dX5_isAcross_17 : decode cX5_isAcross 17 = .ok (.goto 4, 3) := by decide +kernel
theorem dX5_isAcross_20 : decode cX5_isAcross 20 = .ok (.iconst 0, 1) := by decide +kernel
theorem dX5_isAcross_21 : decode cX5_isAcross 21 = .ok (.ireturn, 1) := by decide +kernel
theorem dX5_append_0 : decode cX5_append 0 = .ok (.aload_n 0, 1) := by decide +kernel
theorem dX5_append_1 : decode cX5_append 1 = .ok (.getfield 9, 3) := by decide +kernel
theorem dX5_append_4 : decode cX5_append 4 = .ok (.aload_n 0, 1) := by decide +kernel
theorem dX5_append_5 : decode cX5_append 5 = .ok (.getfield 24, 3) := by decide +kernel
theorem dX5_append_8 : decode cX5_append 8 = .ok (.iload_n 1, 1) := by decide +kernel
theorem dX5_append_9 : decode cX5_append 9 = .ok (.iastore, 1) := by decide +kernel
theorem dX5_append_10 : decode cX5_append 10 = .ok (.aload_n 0, 1) := by decide +kernel
theorem dX5_append_11 : decode cX5_append 11 = .ok (.getfield 15, 3) := by decide +kernel
theorem dX5_append_14 : decode cX5_append 14 = .ok (.aload_n 0, 1) := by decide +kernel
theorem dX5_append_15 : decode cX5_append 15 = .ok (.getfield 24, 3) := by decide +kernel
theorem dX5_append_18 : decode cX5_append 18 = .ok (.iload_n 2, 1) := by decide +kernel
theorem dX5_append_19 : decode cX5_append 19 = .ok (.iastore, 1) := by decide +kernel
theorem dX5_append_20 : decode cX5_append 20 = .ok (.aload_n 0, 1) := by decide +kernel
theorem dX5_append_21 : decode cX5_append 21 = .ok (.getfield 18, 3) := by decide +kernel
theorem dX5_append_24 : decode cX5_append 24 = .ok (.aload_n 0, 1) := by decide +kernel
theorem dX5_append_25 : decode cX5_append 25 = .ok (.getfield 24, 3) := by decide +kernel
theorem dX5_append_28 : decode cX5_append 28 = .ok (.iload_n 3, 1) := by decide +kernel
theorem dX5_append_29 : decode cX5_append 29 = .ok (.iastore, 1) := by decide +kernel
theorem dX5_append_30 : decode cX5_append 30 = .ok (.aload_n 0, 1) := by decide +kernel
theorem dX5_append_31 : decode cX5_append 31 = .ok (.dup, 1) := by decide +kernel
theorem dX5_append_32 : decode cX5_append 32 = .ok (.getfield 24, 3) := by decide +kernel
theorem dX5_append_35 : decode cX5_append 35 = .ok (.iconst 1, 1) := by decide +kernel
theorem dX5_append_36 : decode cX5_append 36 = .ok (.iadd, 1) := by decide +kernel
theorem dX5_append_37 : decode cX5_append 37 = .ok (.putfield 24, 3) := by decide +kernel
theorem dX5_append_40 : decode cX5_append 40 = .ok (.aload_n 0, 1) := by decide +kernel
theorem dX5_append_41 : decode cX5_append 41 = .ok (.dup, 1) := by decide +kernel
theorem dX5_append_42 : decode cX5_append 42 = .ok (.getfield 28, 3) := by decide +kernel
theorem dX5_append_45 : decode cX5_append 45 = .ok (.iload_n 2, 1) := by decide +kernel
theorem dX5_append_46 : decode cX5_append 46 = .ok (.iadd, 1) := by decide +kernel
theorem dX5_append_47 : decode cX5_append 47 = .ok (.putfield 28, 3) := by decide +kernel
theorem dX5_append_50 : decode cX5_append 50 = .ok (.return_, 1) := by decide +kernel
theorem dX5_removeLast_0 : decode cX5_removeLast 0 = .ok (.aload_n 0, 1) := by decide +kernel
theorem dX5_removeLast_1 : decode cX5_removeLast 1 = .ok (.dup, 1) := by decide +kernel
theorem dX5_removeLast_2 : decode cX5_removeLast 2 = .ok (.getfield 24, 3) := by decide +kernel
theorem dX5_removeLast_5 : decode cX5_removeLast 5 = .ok (.iconst 1, 1) := by decide +kernel
theorem dX5_removeLast_6 : decode cX5_removeLast 6 = .ok (.isub, 1) := by decide +kernel
theorem dX5_removeLast_7 : decode cX5_removeLast 7 = .ok (.putfield 24, 3) := by decide +kernel
theorem dX5_removeLast_10 : decode cX5_removeLast 10 = .ok (.aload_n 0, 1) := by decide +kernel
theorem dX5_removeLast_11 : decode cX5_removeLast 11 = .ok (.dup, 1) := by decide +kernel
theorem dX5_removeLast_12 : decode cX5_removeLast 12 = .ok (.getfield 28, 3) := by decide +kernel
theorem dX5_removeLast_15 : decode cX5_removeLast 15 = .ok (.aload_n 0, 1) := by decide +kernel
theorem dX5_removeLast_16 : decode cX5_removeLast 16 = .ok (.getfield 15, 3) := by decide +kernel
theorem dX5_removeLast_19 : decode cX5_removeLast 19 = .ok (.aload_n 0, 1) := by decide +kernel
theorem dX5_removeLast_20 : decode cX5_removeLast 20 = .ok (.getfield 24, 3) := by decide +kernel
theorem dX5_removeLast_23 : decode cX5_removeLast 23 = .ok (.iaload, 1) := by decide +kernel
theorem dX5_removeLast_24 : decode cX5_removeLast 24 = .ok (.isub, 1) := by decide +kernel
theorem dX5_removeLast_25 : decode cX5_removeLast 25 = .ok (.putfield 28, 3) := by decide +kernel
theorem dX5_removeLast_28 : decode cX5_removeLast 28 = .ok (.return_, 1) := by decide +kernel
set_option maxRecDepth 20000 in
theorem ggX5_position_X5_axisOf : GoodIn wsX5_position wsX5_axisOf := goodIn_r _ [7] (by decide +kernel) (by decide +kernel)
set_option maxRecDepth 20000 in
theorem gX5_position_X5_axisOf : GoodIn wsX5_position (va_wsS RX5 35 yX5_axisOf wsX5_axisOf) := goodIn_app (goodIn_of _ (by decide +kernel)) ggX5_position_X5_axisOf
set_option maxRecDepth 20000 in
theorem ggX5_position_X5_signOf : GoodIn wsX5_position wsX5_signOf := goodIn_r _ [10] (by decide +kernel) (by decide +kernel)
set_option maxRecDepth 20000 in
theorem gX5_position_X5_signOf : GoodIn wsX5_position (va_wsS RX5 39 yX5_signOf wsX5_signOf) := goodIn_app (goodIn_of _ (by decide +kernel)) ggX5_position_X5_signOf
set_option maxRecDepth 20000 in
theorem ggX5_position_X5_unitsBetween : GoodIn wsX5_position wsX5_unitsBetween := goodIn_r _ [14, 3, 15, 16, 17, 18, 19, 20, 21, 22, 23, 24, 25, 26, 27, 28] (by decide +kernel) (by decide +kernel)
set_option maxRecDepth 20000 in
theorem gX5_position_X5_unitsBetween : GoodIn wsX5_position (wsV RX5 42 RX5 yX5_unitsBetween wsX5_unitsBetween) := goodIn_app (goodIn_of _ (by decide +kernel)) ggX5_position_X5_unitsBetween
theorem dX5_position_0 : decode cX5_position 0 = .ok (.iconst 0, 1) := by decide +kernel
theorem dX5_position_1 : decode cX5_position 1 = .ok (.istore_n 3, 1) := by decide +kernel
theorem dX5_position_2 : decode cX5_position 2 = .ok (.iconst 0, 1) := by decide +kernel
theorem dX5_position_3 : decode cX5_position 3 = .ok (.istore 4, 2) := by decide +kernel
theorem dX5_position_5 : decode cX5_position 5 = .ok (.iconst 0, 1) := by decide +kernel
theorem dX5_position_6 : decode cX5_position 6 = .ok (.istore 5, 2) := by decide +kernel
theorem dX5_position_8 : decode cX5_position 8 = .ok (.iload 5, 2) := by decide +kernel
theorem dX5_position_10 : decode cX5_position 10 = .ok (.aload_n 0, 1) := by decide +kernel
theorem dX5_position_11 : decode cX5_position 11 = .ok (.getfield 24, 3) := by decide +kernel
theorem dX5_position_14 : decode cX5_position 14 = .ok (.if_icmp .ge 59, 3) := by decide +kernel
theorem dX5_position_17 : decode cX5_position 17 = .ok (.aload_n 0, 1) := by decide +kernel
theorem dX5_position_18 : decode cX5_position 18 = .ok (.getfield 9, 3) := by decide +kernel
theorem dX5_position_21 : decode cX5_position 21 = .ok (.iload 5, 2) := by decide +kernel
theorem dX5_position_23 : decode cX5_position 23 = .ok (.iaload, 1) := by decide +kernel
theorem dX5_position_24 : decode cX5_position 24 = .ok (.invokestatic 35, 3) := by decide +kernel
theorem dX5_position_27 : decode cX5_position 27 = .ok (.iload_n 2, 1) := by decide +kernel
theorem dX5_position_28 : decode cX5_position 28 = .ok (.if_icmp .ne 27, 3) := by decide +kernel
theorem dX5_position_31 : decode cX5_position 31 = .ok (.iload_n 3, 1) := by decide +kernel
theorem dX5_position_32 : decode cX5_position 32 = .ok (.aload_n 0, 1) := by decide +kernel
theorem dX5_position_33 : decode cX5_position 33 = .ok (.getfield 9, 3) := by decide +kernel
theorem dX5_position_36 : decode cX5_position 36 = .ok (.iload 5, 2) := by decide +kernel
theorem dX5_position_38 : decode cX5_position 38 = .ok (.iaload, 1) := by decide +kernel
theorem dX5_position_39 : decode cX5_position 39 = .ok (.invokestatic 39, 3) := by decide +kernel
theorem dX5_position_42 : decode cX5_position 42 = .ok (.aload_n 0, 1) := by decide +kernel
theorem dX5_position_43 : decode cX5_position 43 = .ok (.iload 5, 2) := by decide +kernel
theorem dX5_position_45 : decode cX5_position 45 = .ok (.iload 4, 2) := by decide +kernel
theorem dX5_position_47 : decode cX5_position 47 = .ok (.iconst 0, 1) := by decide +kernel
theorem dX5_position_48 : decode cX5_position 48 = .ok (.iload_n 1, 1) := by decide +kernel
theorem dX5_position_49 : decode cX5_position 49 = .ok (.invokevirtual 42, 3) := by decide +kernel
theorem dX5_position_52 : decode cX5_position 52 = .ok (.imul, 1) := by decide +kernel
theorem dX5_position_53 : decode cX5_position 53 = .ok (.iadd, 1) := by decide +kernel
theorem dX5_position_54 : decode cX5_position 54 = .ok (.istore_n 3, 1) := by decide +kernel
theorem dX5_position_55 : decode cX5_position 55 = .ok (.iload 4, 2) := by decide +kernel
theorem dX5_position_57 : decode cX5_position 57 = .ok (.aload_n 0, 1) := by decide +kernel
theorem dX5_position_58 : decode cX5_position 58 = .ok (.getfield 15, 3) := by decide +kernel
theorem dX5_position_61 : decode cX5_position 61 = .ok (.iload 5, 2) := by decide +kernel
theorem dX5_position_63 : decode cX5_position 63 = .ok (.iaload, 1) := by decide +kernel
theorem dX5_position_64 : decode cX5_position 64 = .ok (.iadd, 1) := by decide +kernel
theorem dX5_position_65 : decode cX5_position 65 = .ok (.istore 4, 2) := by decide +kernel
theorem dX5_position_67 : decode cX5_position 67 = .ok (.iinc 5 1, 3) := by decide +kernel
theorem dX5_position_70 : decode cX5_position 70 = .ok (.goto (-62), 3) := by decide +kernel
theorem dX5_position_73 : decode cX5_position 73 = .ok (.iload_n 3, 1) := by decide +kernel
theorem dX5_position_74 : decode cX5_position 74 = .ok (.ireturn, 1) := by decide +kernel
set_option maxRecDepth 20000 in
theorem ggX5_growth_X5_axisOf : GoodIn wsX5_growth wsX5_axisOf := goodIn_r _ [9] (by decide +kernel) (by decide +kernel)
set_option maxRecDepth 20000 in
theorem gX5_growth_X5_axisOf : GoodIn wsX5_growth (va_wsS RX5 35 yX5_axisOf wsX5_axisOf) := goodIn_app (goodIn_of _ (by decide +kernel)) ggX5_growth_X5_axisOf
set_option maxRecDepth 20000 in
theorem ggX5_growth_X5_signOf : GoodIn wsX5_growth wsX5_signOf := goodIn_r _ [12] (by decide +kernel) (by decide +kernel)
set_option maxRecDepth 20000 in
theorem gX5_growth_X5_signOf : GoodIn wsX5_growth (va_wsS RX5 39 yX5_signOf wsX5_signOf) := goodIn_app (goodIn_of _ (by decide +kernel)) ggX5_growth_X5_signOf
set_option maxRecDepth 20000 in
theorem ggX5_growth_X6_growthAt : GoodIn wsX5_growth wsX6_growthAt := goodIn_r _ [17, 18, 19, 38, 39, 40] (by decide +kernel) (by decide +kernel)
set_option maxRecDepth 20000 in
theorem gX5_growth_X6_growthAt : GoodIn wsX5_growth (wsV RX5 46 RX6 yX6_growthAt wsX6_growthAt) := goodIn_app (goodIn_of _ (by decide +kernel)) ggX5_growth_X6_growthAt
set_option maxRecDepth 20000 in
theorem ggX5_growth_X5_unitsBetween : GoodIn wsX5_growth wsX5_unitsBetween := goodIn_r _ [23, 5, 24, 25, 26, 27, 28, 29, 30, 31, 32, 33, 34, 35, 36, 37] (by decide +kernel) (by decide +kernel)
set_option maxRecDepth 20000 in
theorem gX5_growth_X5_unitsBetween : GoodIn wsX5_growth (wsV RX5 42 RX5 yX5_unitsBetween wsX5_unitsBetween) := goodIn_app (goodIn_of _ (by decide +kernel)) ggX5_growth_X5_unitsBetween
theorem dX5_growth_0 : decode cX5_growth 0 = .ok (.iconst 0, 1) := by decide +kernel
theorem dX5_growth_1 : decode cX5_growth 1 = .ok (.istore 4, 2) := by decide +kernel
theorem dX5_growth_3 : decode cX5_growth 3 = .ok (.iconst 0, 1) := by decide +kernel
theorem dX5_growth_4 : decode cX5_growth 4 = .ok (.istore 5, 2) := by decide +kernel
theorem dX5_growth_6 : decode cX5_growth 6 = .ok (.iconst 0, 1) := by decide +kernel
theorem dX5_growth_7 : decode cX5_growth 7 = .ok (.istore 6, 2) := by decide +kernel
theorem dX5_growth_9 : decode cX5_growth 9 = .ok (.iload 6, 2) := by decide +kernel
theorem dX5_growth_11 : decode cX5_growth 11 = .ok (.aload_n 0, 1) := by decide +kernel
theorem dX5_growth_12 : decode cX5_growth 12 = .ok (.getfield 24, 3) := by decide +kernel
theorem dX5_growth_15 : decode cX5_growth 15 = .ok (.if_icmp .ge 81, 3) := by decide +kernel
theorem dX5_growth_18 : decode cX5_growth 18 = .ok (.aload_n 0, 1) := by decide +kernel
theorem dX5_growth_19 : decode cX5_growth 19 = .ok (.getfield 9, 3) := by decide +kernel
theorem dX5_growth_22 : decode cX5_growth 22 = .ok (.iload 6, 2) := by decide +kernel
theorem dX5_growth_24 : decode cX5_growth 24 = .ok (.iaload, 1) := by decide +kernel
theorem dX5_growth_25 : decode cX5_growth 25 = .ok (.invokestatic 35, 3) := by decide +kernel
theorem dX5_growth_28 : decode cX5_growth 28 = .ok (.iload_n 3, 1) := by decide +kernel
theorem dX5_growth_29 : decode cX5_growth 29 = .ok (.if_icmp .ne 49, 3) := by decide +kernel
theorem dX5_growth_32 : decode cX5_growth 32 = .ok (.aload_n 0, 1) := by decide +kernel
theorem dX5_growth_33 : decode cX5_growth 33 = .ok (.getfield 9, 3) := by decide +kernel
theorem dX5_growth_36 : decode cX5_growth 36 = .ok (.iload 6, 2) := by decide +kernel
theorem dX5_growth_38 : decode cX5_growth 38 = .ok (.iaload, 1) := by decide +kernel
theorem dX5_growth_39 : decode cX5_growth 39 = .ok (.invokestatic 39, 3) := by decide +kernel
theorem dX5_growth_42 : decode cX5_growth 42 = .ok (.aload_n 0, 1) := by decide +kernel
theorem dX5_growth_43 : decode cX5_growth 43 = .ok (.getfield 31, 3) := by decide +kernel
theorem dX5_growth_46 : decode cX5_growth 46 = .ok (.aload_n 0, 1) := by decide +kernel
theorem dX5_growth_47 : decode cX5_growth 47 = .ok (.getfield 18, 3) := by decide +kernel
theorem dX5_growth_50 : decode cX5_growth 50 = .ok (.iload 6, 2) := by decide +kernel
theorem dX5_growth_52 : decode cX5_growth 52 = .ok (.iaload, 1) := by decide +kernel
theorem dX5_growth_53 : decode cX5_growth 53 = .ok (.iload_n 2, 1) := by decide +kernel
theorem dX5_growth_54 : decode cX5_growth 54 = .ok (.invokevirtual 46, 3) := by decide +kernel
theorem dX5_growth_57 : decode cX5_growth 57 = .ok (.imul, 1) := by decide +kernel
theorem dX5_growth_58 : decode cX5_growth 58 = .ok (.istore 7, 2) := by decide +kernel
theorem dX5_growth_60 : decode cX5_growth 60 = .ok (.iload 4, 2) := by decide +kernel
theorem dX5_growth_62 : decode cX5_growth 62 = .ok (.iload 7, 2) := by decide +kernel
theorem dX5_growth_64 : decode cX5_growth 64 = .ok (.aload_n 0, 1) := by decide +kernel
theorem dX5_growth_65 : decode cX5_growth 65 = .ok (.iload 6, 2) := by decide +kernel
theorem dX5_growth_67 : decode cX5_growth 67 = .ok (.iload 5, 2) := by decide +kernel
theorem dX5_growth_69 : decode cX5_growth 69 = .ok (.iconst 0, 1) := by decide +kernel
theorem dX5_growth_70 : decode cX5_growth 70 = .ok (.iload_n 1, 1) := by decide +kernel
theorem dX5_growth_71 : decode cX5_growth 71 = .ok (.invokevirtual 42, 3) := by decide +kernel
theorem dX5_growth_74 : decode cX5_growth 74 = .ok (.imul, 1) := by decide +kernel
theorem dX5_growth_75 : decode cX5_growth 75 = .ok (.iadd, 1) := by decide +kernel
theorem dX5_growth_76 : decode cX5_growth 76 = .ok (.istore 4, 2) := by decide +kernel
theorem dX5_growth_78 : decode cX5_growth 78 = .ok (.iload 5, 2) := by decide +kernel
theorem dX5_growth_80 : decode cX5_growth 80 = .ok (.aload_n 0, 1) := by decide +kernel
theorem dX5_growth_81 : decode cX5_growth 81 = .ok (.getfield 15, 3) := by decide +kernel
theorem dX5_growth_84 : decode cX5_growth 84 = .ok (.iload 6, 2) := by decide +kernel
theorem dX5_growth_86 : decode cX5_growth 86 = .ok (.iaload, 1) := by decide +kernel
theorem dX5_growth_87 : decode cX5_growth 87 = .ok (.iadd, 1) := by decide +kernel
theorem dX5_growth_88 : decode cX5_growth 88 = .ok (.istore 5, 2) := by decide +kernel
theorem dX5_growth_90 : decode cX5_growth 90 = .ok (.iinc 6 1, 3) := by decide +kernel
theorem dX5_growth_93 : decode cX5_growth 93 = .ok (.goto (-84), 3) := by decide +kernel
theorem dX5_growth_96 : decode cX5_growth 96 = .ok (.iload 4, 2) := by decide +kernel
theorem dX5_growth_98 : decode cX5_growth 98 = .ok (.ireturn, 1) := by decide +kernel
set_option maxRecDepth 20000 in
theorem ggX5_weight_X6_weightOf : GoodIn wsX5_weight wsX6_weightOf := goodIn_r _ [9, 10, 30, 31, 32] (by decide +kernel) (by decide +kernel)
set_option maxRecDepth 20000 in
theorem gX5_weight_X6_weightOf : GoodIn wsX5_weight (wsV RX5 52 RX6 yX6_weightOf wsX6_weightOf) := goodIn_app (goodIn_of _ (by decide +kernel)) ggX5_weight_X6_weightOf
set_option maxRecDepth 20000 in
theorem ggX5_weight_X5_unitsBetween : GoodIn wsX5_weight wsX5_unitsBetween := goodIn_r _ [15, 4, 16, 17, 18, 19, 20, 21, 22, 23, 24, 25, 26, 27, 28, 29] (by decide +kernel) (by decide +kernel)
set_option maxRecDepth 20000 in
theorem gX5_weight_X5_unitsBetween : GoodIn wsX5_weight (wsV RX5 42 RX5 yX5_unitsBetween wsX5_unitsBetween) := goodIn_app (goodIn_of _ (by decide +kernel)) ggX5_weight_X5_unitsBetween
theorem dX5_weight_0 : decode cX5_weight 0 = .ok (.iconst 0, 1) := by decide +kernel
theorem dX5_weight_1 : decode cX5_weight 1 = .ok (.istore_n 3, 1) := by decide +kernel
theorem dX5_weight_2 : decode cX5_weight 2 = .ok (.iconst 0, 1) := by decide +kernel
theorem dX5_weight_3 : decode cX5_weight 3 = .ok (.istore 4, 2) := by decide +kernel
theorem dX5_weight_5 : decode cX5_weight 5 = .ok (.iconst 0, 1) := by decide +kernel
theorem dX5_weight_6 : decode cX5_weight 6 = .ok (.istore 5, 2) := by decide +kernel
theorem dX5_weight_8 : decode cX5_weight 8 = .ok (.iload 5, 2) := by decide +kernel
theorem dX5_weight_10 : decode cX5_weight 10 = .ok (.aload_n 0, 1) := by decide +kernel
theorem dX5_weight_11 : decode cX5_weight 11 = .ok (.getfield 24, 3) := by decide +kernel
theorem dX5_weight_14 : decode cX5_weight 14 = .ok (.if_icmp .ge 49, 3) := by decide +kernel
theorem dX5_weight_17 : decode cX5_weight 17 = .ok (.iload_n 3, 1) := by decide +kernel
theorem dX5_weight_18 : decode cX5_weight 18 = .ok (.aload_n 0, 1) := by decide +kernel
theorem dX5_weight_19 : decode cX5_weight 19 = .ok (.getfield 31, 3) := by decide +kernel
theorem dX5_weight_22 : decode cX5_weight 22 = .ok (.aload_n 0, 1) := by decide +kernel
theorem dX5_weight_23 : decode cX5_weight 23 = .ok (.getfield 18, 3) := by decide +kernel
theorem dX5_weight_26 : decode cX5_weight 26 = .ok (.iload 5, 2) := by decide +kernel
theorem dX5_weight_28 : decode cX5_weight 28 = .ok (.iaload, 1) := by decide +kernel
theorem dX5_weight_29 : decode cX5_weight 29 = .ok (.invokevirtual 52, 3) := by decide +kernel
theorem dX5_weight_32 : decode cX5_weight 32 = .ok (.aload_n 0, 1) := by decide +kernel
theorem dX5_weight_33 : decode cX5_weight 33 = .ok (.iload 5, 2) := by decide +kernel
theorem dX5_weight_35 : decode cX5_weight 35 = .ok (.iload 4, 2) := by decide +kernel
theorem dX5_weight_37 : decode cX5_weight 37 = .ok (.iload_n 1, 1) := by decide +kernel
theorem dX5_weight_38 : decode cX5_weight 38 = .ok (.iload_n 2, 1) := by decide +kernel
theorem dX5_weight_39 : decode cX5_weight 39 = .ok (.invokevirtual 42, 3) := by decide +kernel
theorem dX5_weight_42 : decode cX5_weight 42 = .ok (.imul, 1) := by decide +kernel
theorem dX5_weight_43 : decode cX5_weight 43 = .ok (.iadd, 1) := by decide +kernel
theorem dX5_weight_44 : decode cX5_weight 44 = .ok (.istore_n 3, 1) := by decide +kernel
theorem dX5_weight_45 : decode cX5_weight 45 = .ok (.iload 4, 2) := by decide +kernel
theorem dX5_weight_47 : decode cX5_weight 47 = .ok (.aload_n 0, 1) := by decide +kernel
theorem dX5_weight_48 : decode cX5_weight 48 = .ok (.getfield 15, 3) := by decide +kernel
theorem dX5_weight_51 : decode cX5_weight 51 = .ok (.iload 5, 2) := by decide +kernel
theorem dX5_weight_53 : decode cX5_weight 53 = .ok (.iaload, 1) := by decide +kernel
theorem dX5_weight_54 : decode cX5_weight 54 = .ok (.iadd, 1) := by decide +kernel
theorem dX5_weight_55 : decode cX5_weight 55 = .ok (.istore 4, 2) := by decide +kernel
theorem dX5_weight_57 : decode cX5_weight 57 = .ok (.iinc 5 1, 3) := by decide +kernel
theorem dX5_weight_60 : decode cX5_weight 60 = .ok (.goto (-52), 3) := by decide +kernel
theorem dX5_weight_63 : decode cX5_weight 63 = .ok (.iload_n 3, 1) := by decide +kernel
theorem dX5_weight_64 : decode cX5_weight 64 = .ok (.ireturn, 1) := by decide +kernel
theorem dX5_unitsBetween_0 : decode cX5_unitsBetween 0 = .ok (.iconst 0, 1) := by decide +kernel
theorem dX5_unitsBetween_1 : decode cX5_unitsBetween 1 = .ok (.iload_n 2, 1) := by decide +kernel
theorem dX5_unitsBetween_2 : decode cX5_unitsBetween 2 = .ok (.aload_n 0, 1) := by decide +kernel
theorem dX5_unitsBetween_3 : decode cX5_unitsBetween 3 = .ok (.getfield 15, 3) := by decide +kernel
theorem dX5_unitsBetween_6 : decode cX5_unitsBetween 6 = .ok (.iload_n 1, 1) := by decide +kernel
theorem dX5_unitsBetween_7 : decode cX5_unitsBetween 7 = .ok (.iaload, 1) := by decide +kernel
theorem dX5_unitsBetween_8 : decode cX5_unitsBetween 8 = .ok (.iadd, 1) := by decide +kernel
theorem dX5_unitsBetween_9 : decode cX5_unitsBetween 9 = .ok (.iload 4, 2) := by decide +kernel
theorem dX5_unitsBetween_11 : decode cX5_unitsBetween 11 = .ok (.invokestatic 55, 3) := by decide +kernel
theorem dX5_unitsBetween_14 : decode cX5_unitsBetween 14 = .ok (.iload_n 2, 1) := by decide +kernel
theorem dX5_unitsBetween_15 : decode cX5_unitsBetween 15 = .ok (.iload_n 3, 1) := by decide +kernel
theorem dX5_unitsBetween_16 : decode cX5_unitsBetween 16 = .ok (.invokestatic 60, 3) := by decide +kernel
theorem dX5_unitsBetween_19 : decode cX5_unitsBetween 19 = .ok (.isub, 1) := by decide +kernel
theorem dX5_unitsBetween_20 : decode cX5_unitsBetween 20 = .ok (.invokestatic 60, 3) := by decide +kernel
theorem dX5_unitsBetween_23 : decode cX5_unitsBetween 23 = .ok (.ireturn, 1) := by decide +kernel
set_option maxRecDepth 20000 in
theorem ggX5_spare_X5_growth : GoodIn wsX5_spare wsX5_growth := goodIn_r _ [6, 7, 8, 9, 10, 11, 12, 13, 5, 14, 15, 16, 17, 18, 19, 20, 21, 22, 23, 24, 25, 26, 27, 28, 29, 30, 31, 32, 33, 34, 35, 43, 44, 45, 46, 47, 48, 49, 50, 51, 52] (by decide +kernel) (by decide +kernel)
set_option maxRecDepth 20000 in
theorem gX5_spare_X5_growth : GoodIn wsX5_spare (wsV RX5 63 RX5 yX5_growth wsX5_growth) := goodIn_app (goodIn_of _ (by decide +kernel)) ggX5_spare_X5_growth
set_option maxRecDepth 20000 in
theorem ggX5_spare_X5_position : GoodIn wsX5_spare wsX5_position := goodIn_r _ [39, 7, 8, 11, 12, 13, 5, 14, 15, 16, 17, 25, 26, 27, 28, 29, 30, 31, 32, 33, 34, 35, 43, 44, 45, 46, 47, 48, 49] (by decide +kernel) (by decide +kernel)
set_option maxRecDepth 20000 in
theorem gX5_spare_X5_position : GoodIn wsX5_spare (wsV RX5 67 RX5 yX5_position wsX5_position) := goodIn_app (goodIn_of _ (by decide +kernel)) ggX5_spare_X5_position
set_option maxRecDepth 20000 in
theorem ggX5_spare_X5_root : GoodIn wsX5_spare wsX5_root := goodIn_r _ [42] (by decide +kernel) (by decide +kernel)
set_option maxRecDepth 20000 in
theorem gX5_spare_X5_root : GoodIn wsX5_spare (va_wsS RX5 70 yX5_root wsX5_root) := goodIn_app (goodIn_of _ (by decide +kernel)) ggX5_spare_X5_root
theorem dX5_spare_0 : decode cX5_spare 0 = .ok (.lconst 0, 1) := by decide +kernel
theorem dX5_spare_1 : decode cX5_spare 1 = .ok (.lstore 4, 2) := by decide +kernel
theorem dX5_spare_3 : decode cX5_spare 3 = .ok (.lconst 0, 1) := by decide +kernel
theorem dX5_spare_4 : decode cX5_spare 4 = .ok (.lstore 6, 2) := by decide +kernel
theorem dX5_spare_6 : decode cX5_spare 6 = .ok (.iconst 0, 1) := by decide +kernel
theorem dX5_spare_7 : decode cX5_spare 7 = .ok (.istore 8, 2) := by decide +kernel
theorem dX5_spare_9 : decode cX5_spare 9 = .ok (.iload 8, 2) := by decide +kernel
theorem dX5_spare_11 : decode cX5_spare 11 = .ok (.iconst 3, 1) := by decide +kernel
theorem dX5_spare_12 : decode cX5_spare 12 = .ok (.if_icmp .ge 56, 3) := by decide +kernel
theorem dX5_spare_15 : decode cX5_spare 15 = .ok (.aload_n 0, 1) := by decide +kernel
theorem dX5_spare_16 : decode cX5_spare 16 = .ok (.aload_n 0, 1) := by decide +kernel
theorem dX5_spare_17 : decode cX5_spare 17 = .ok (.getfield 28, 3) := by decide +kernel
theorem dX5_spare_20 : decode cX5_spare 20 = .ok (.iload_n 1, 1) := by decide +kernel
theorem dX5_spare_21 : decode cX5_spare 21 = .ok (.iload 8, 2) := by decide +kernel
theorem dX5_spare_23 : decode cX5_spare 23 = .ok (.invokevirtual 63, 3) := by decide +kernel
theorem dX5_spare_26 : decode cX5_spare 26 = .ok (.i2l, 1) := by decide +kernel
theorem dX5_spare_27 : decode cX5_spare 27 = .ok (.lstore 9, 2) := by decide +kernel
theorem dX5_spare_29 : decode cX5_spare 29 = .ok (.aload_n 0, 1) := by decide +kernel
theorem dX5_spare_30 : decode cX5_spare 30 = .ok (.aload_n 0, 1) := by decide +kernel
theorem dX5_spare_31 : decode cX5_spare 31 = .ok (.getfield 28, 3) := by decide +kernel
theorem dX5_spare_34 : decode cX5_spare 34 = .ok (.iload 8, 2) := by decide +kernel
theorem dX5_spare_36 : decode cX5_spare 36 = .ok (.invokevirtual 67, 3) := by decide +kernel
theorem dX5_spare_39 : decode cX5_spare 39 = .ok (.i2l, 1) := by decide +kernel
theorem dX5_spare_40 : decode cX5_spare 40 = .ok (.lstore 11, 2) := by decide +kernel
theorem dX5_spare_42 : decode cX5_spare 42 = .ok (.lload 4, 2) := by decide +kernel
theorem dX5_spare_44 : decode cX5_spare 44 = .ok (.lload 9, 2) := by decide +kernel
theorem dX5_spare_46 : decode cX5_spare 46 = .ok (.lload 9, 2) := by decide +kernel
theorem dX5_spare_48 : decode cX5_spare 48 = .ok (.lmul, 1) := by decide +kernel
theorem dX5_spare_49 : decode cX5_spare 49 = .ok (.ladd, 1) := by decide +kernel
theorem dX5_spare_50 : decode cX5_spare 50 = .ok (.lstore 4, 2) := by decide +kernel
theorem dX5_spare_52 : decode cX5_spare 52 = .ok (.lload 6, 2) := by decide +kernel
theorem dX5_spare_54 : decode cX5_spare 54 = .ok (.lload 11, 2) := by decide +kernel
theorem dX5_spare_56 : decode cX5_spare 56 = .ok (.lload 11, 2) := by decide +kernel
theorem dX5_spare_58 : decode cX5_spare 58 = .ok (.lmul, 1) := by decide +kernel
theorem dX5_spare_59 : decode cX5_spare 59 = .ok (.ladd, 1) := by decide +kernel
theorem dX5_spare_60 : decode cX5_spare 60 = .ok (.lstore 6, 2) := by decide +kernel
theorem dX5_spare_62 : decode cX5_spare 62 = .ok (.iinc 8 1, 3) := by decide +kernel
theorem dX5_spare_65 : decode cX5_spare 65 = .ok (.goto (-56), 3) := by decide +kernel
theorem dX5_spare_68 : decode cX5_spare 68 = .ok (.aload_n 0, 1) := by decide +kernel
theorem dX5_spare_69 : decode cX5_spare 69 = .ok (.getfield 28, 3) := by decide +kernel
theorem dX5_spare_72 : decode cX5_spare 72 = .ok (.iload_n 3, 1) := by decide +kernel
theorem dX5_spare_73 : decode cX5_spare 73 = .ok (.iadd, 1) := by decide +kernel
theorem dX5_spare_74 : decode cX5_spare 74 = .ok (.lload 6, 2) := by decide +kernel
theorem dX5_spare_76 : decode cX5_spare 76 = .ok (.invokestatic 70, 3) := by decide +kernel
theorem dX5_spare_79 : decode cX5_spare 79 = .ok (.isub, 1) := by decide +kernel
theorem dX5_spare_80 : decode cX5_spare 80 = .ok (.istore 8, 2) := by decide +kernel
theorem dX5_spare_82 : decode cX5_spare 82 = .ok (.bipush 30, 2) := by decide +kernel
theorem dX5_spare_84 : decode cX5_spare 84 = .ok (.iload 8, 2) := by decide +kernel
theorem dX5_spare_86 : decode cX5_spare 86 = .ok (.imul, 1) := by decide +kernel
theorem dX5_spare_87 : decode cX5_spare 87 = .ok (.iload 8, 2) := by decide +kernel
theorem dX5_spare_89 : decode cX5_spare 89 = .ok (.imul, 1) := by decide +kernel
theorem dX5_spare_90 : decode cX5_spare 90 = .ok (.iload_n 2, 1) := by decide +kernel
theorem dX5_spare_91 : decode cX5_spare 91 = .ok (.lload 4, 2) := by decide +kernel
theorem dX5_spare_93 : decode cX5_spare 93 = .ok (.invokestatic 70, 3) := by decide +kernel
theorem dX5_spare_96 : decode cX5_spare 96 = .ok (.imul, 1) := by decide +kernel
theorem dX5_spare_97 : decode cX5_spare 97 = .ok (.isub, 1) := by decide +kernel
theorem dX5_spare_98 : decode cX5_spare 98 = .ok (.ireturn, 1) := by decide +kernel
set_option maxRecDepth 20000 in
theorem ggX5_firstSoft_X5_spare : GoodIn wsX5_firstSoft wsX5_spare := goodIn_r _ [5, 6, 7, 8, 9, 4, 10, 11, 12, 13, 14, 15, 16, 17, 18, 19, 20, 21, 22, 23, 24, 25, 26, 27, 28, 29, 30, 31, 32, 33, 34, 35, 36, 37, 38, 39, 40, 41, 42, 43, 44, 45, 46, 47, 48, 49, 50, 51, 52, 53, 54, 55, 56] (by decide +kernel) (by decide +kernel)
set_option maxRecDepth 20000 in
theorem gX5_firstSoft_X5_spare : GoodIn wsX5_firstSoft (wsV RX5 74 RX5 yX5_spare wsX5_spare) := goodIn_app (goodIn_of _ (by decide +kernel)) ggX5_firstSoft_X5_spare
theorem dX5_firstSoft_0 : decode cX5_firstSoft 0 = .ok (.iconst 1, 1) := by decide +kernel
theorem dX5_firstSoft_1 : decode cX5_firstSoft 1 = .ok (.istore_n 3, 1) := by decide +kernel
theorem dX5_firstSoft_2 : decode cX5_firstSoft 2 = .ok (.iload_n 3, 1) := by decide +kernel
theorem dX5_firstSoft_3 : decode cX5_firstSoft 3 = .ok (.bipush 20, 2) := by decide +kernel
theorem dX5_firstSoft_5 : decode cX5_firstSoft 5 = .ok (.if_icmp .gt 23, 3) := by decide +kernel
theorem dX5_firstSoft_8 : decode cX5_firstSoft 8 = .ok (.aload_n 0, 1) := by decide +kernel
theorem dX5_firstSoft_9 : decode cX5_firstSoft 9 = .ok (.iload_n 1, 1) := by decide +kernel
theorem dX5_firstSoft_10 : decode cX5_firstSoft 10 = .ok (.iload_n 2, 1) := by decide +kernel
theorem dX5_firstSoft_11 : decode cX5_firstSoft 11 = .ok (.iconst 2, 1) := by decide +kernel
theorem dX5_firstSoft_12 : decode cX5_firstSoft 12 = .ok (.iload_n 3, 1) := by decide +kernel
theorem dX5_firstSoft_13 : decode cX5_firstSoft 13 = .ok (.imul, 1) := by decide +kernel
theorem dX5_firstSoft_14 : decode cX5_firstSoft 14 = .ok (.invokevirtual 74, 3) := by decide +kernel
theorem dX5_firstSoft_17 : decode cX5_firstSoft 17 = .ok (.ifCond .lt 5, 3) := by decide +kernel
theorem dX5_firstSoft_20 : decode cX5_firstSoft 20 = .ok (.iload_n 3, 1) := by decide +kernel
theorem dX5_firstSoft_21 : decode cX5_firstSoft 21 = .ok (.ireturn, 1) := by decide +kernel
theorem dX5_firstSoft_22 : decode cX5_firstSoft 22 = .ok (.iinc 3 1, 3) := by decide +kernel
theorem dX5_firstSoft_25 : decode cX5_firstSoft 25 = .ok (.goto (-23), 3) := by decide +kernel
theorem dX5_firstSoft_28 : decode cX5_firstSoft 28 = .ok (.bipush 21, 2) := by decide +kernel
theorem dX5_firstSoft_30 : decode cX5_firstSoft 30 = .ok (.ireturn, 1) := by decide +kernel
set_option maxRecDepth 20000 in
theorem ggX5_leastLoop_X5_isAcross : GoodIn wsX5_leastLoop wsX5_isAcross := goodIn_r _ [6, 7, 8, 9, 5, 10, 43, 44, 45, 46, 47, 48, 49] (by decide +kernel) (by decide +kernel)
set_option maxRecDepth 20000 in
theorem gX5_leastLoop_X5_isAcross : GoodIn wsX5_leastLoop (wsV RX5 77 RX5 yX5_isAcross wsX5_isAcross) := goodIn_app (goodIn_of _ (by decide +kernel)) ggX5_leastLoop_X5_isAcross
set_option maxRecDepth 20000 in
theorem ggX5_leastLoop_X5_loopsThatMeet : GoodIn wsX5_leastLoop wsX5_loopsThatMeet := goodIn_r _ [14, 15, 7, 1, 16, 17, 18, 19, 5, 20, 21, 22, 23, 24, 8, 9, 10, 25, 26, 27, 28, 29, 30, 31, 32, 33, 34, 35, 36, 37, 38, 39, 40, 41, 42, 43, 44, 45, 46, 47, 48, 49] (by decide +kernel) (by decide +kernel)
set_option maxRecDepth 20000 in
theorem gX5_leastLoop_X5_loopsThatMeet : GoodIn wsX5_leastLoop (wsV RX5 81 RX5 yX5_loopsThatMeet wsX5_loopsThatMeet) := goodIn_app (goodIn_of _ (by decide +kernel)) ggX5_leastLoop_X5_loopsThatMeet
theorem dX5_leastLoop_0 : decode cX5_leastLoop 0 = .ok (.aload_n 0, 1) := by decide +kernel
theorem dX5_leastLoop_1 : decode cX5_leastLoop 1 = .ok (.getfield 15, 3) := by decide +kernel
theorem dX5_leastLoop_4 : decode cX5_leastLoop 4 = .ok (.iload_n 1, 1) := by decide +kernel
theorem dX5_leastLoop_5 : decode cX5_leastLoop 5 = .ok (.iaload, 1) := by decide +kernel
theorem dX5_leastLoop_6 : decode cX5_leastLoop 6 = .ok (.iconst 3, 1) := by decide +kernel
theorem dX5_leastLoop_7 : decode cX5_leastLoop 7 = .ok (.if_icmp .lt 18, 3) := by decide +kernel
theorem dX5_leastLoop_10 : decode cX5_leastLoop 10 = .ok (.aload_n 0, 1) := by decide +kernel
theorem dX5_leastLoop_11 : decode cX5_leastLoop 11 = .ok (.iload_n 1, 1) := by decide +kernel
theorem dX5_leastLoop_12 : decode cX5_leastLoop 12 = .ok (.iload_n 2, 1) := by decide +kernel
theorem dX5_leastLoop_13 : decode cX5_leastLoop 13 = .ok (.invokevirtual 77, 3) := by decide +kernel
theorem dX5_leastLoop_16 : decode cX5_leastLoop 16 = .ok (.ifCond .eq 9, 3) := by decide +kernel
theorem dX5_leastLoop_19 : decode cX5_leastLoop 19 = .ok (.iload_n 3, 1) := by decide +kernel
theorem dX5_leastLoop_20 : decode cX5_leastLoop 20 = .ok (.bipush 20, 2) := by decide +kernel
theorem dX5_leastLoop_22 : decode cX5_leastLoop 22 = .ok (.if_icmp .le 6, 3) := by decide +kernel
theorem dX5_leastLoop_25 : decode cX5_leastLoop 25 = .ok (.bipush (-9), 2) := by decide +kernel
theorem dX5_leastLoop_27 : decode cX5_leastLoop 27 = .ok (.ireturn, 1) := by decide +kernel
theorem dX5_leastLoop_28 : decode cX5_leastLoop 28 = .ok (.aload_n 0, 1) := by decide +kernel
theorem dX5_leastLoop_29 : decode cX5_leastLoop 29 = .ok (.iload_n 1, 1) := by decide +kernel
theorem dX5_leastLoop_30 : decode cX5_leastLoop 30 = .ok (.iload_n 2, 1) := by decide +kernel
theorem dX5_leastLoop_31 : decode cX5_leastLoop 31 = .ok (.invokevirtual 81, 3) := by decide +kernel
theorem dX5_leastLoop_34 : decode cX5_leastLoop 34 = .ok (.istore 4, 2) := by decide +kernel
theorem dX5_leastLoop_36 : decode cX5_leastLoop 36 = .ok (.iload_n 3, 1) := by decide +kernel
theorem dX5_leastLoop_37 : decode cX5_leastLoop 37 = .ok (.istore 5, 2) := by decide +kernel
theorem dX5_leastLoop_39 : decode cX5_leastLoop 39 = .ok (.iload 5, 2) := by decide +kernel
theorem dX5_leastLoop_41 : decode cX5_leastLoop 41 = .ok (.bipush 20, 2) := by decide +kernel
theorem dX5_leastLoop_43 : decode cX5_leastLoop 43 = .ok (.if_icmp .gt 22, 3) := by decide +kernel
theorem dX5_leastLoop_46 : decode cX5_leastLoop 46 = .ok (.iload 4, 2) := by decide +kernel
theorem dX5_leastLoop_48 : decode cX5_leastLoop 48 = .ok (.iconst 1, 1) := by decide +kernel
theorem dX5_leastLoop_49 : decode cX5_leastLoop 49 = .ok (.iload 5, 2) := by decide +kernel
theorem dX5_leastLoop_51 : decode cX5_leastLoop 51 = .ok (.ishl, 1) := by decide +kernel
theorem dX5_leastLoop_52 : decode cX5_leastLoop 52 = .ok (.iand, 1) := by decide +kernel
theorem dX5_leastLoop_53 : decode cX5_leastLoop 53 = .ok (.ifCond .ne 6, 3) := by decide +kernel
theorem dX5_leastLoop_56 : decode cX5_leastLoop 56 = .ok (.iload 5, 2) := by decide +kernel
theorem dX5_leastLoop_58 : decode cX5_leastLoop 58 = .ok (.ireturn, 1) := by decide +kernel
theorem dX5_leastLoop_59 : decode cX5_leastLoop 59 = .ok (.iinc 5 1, 3) := by decide +kernel
theorem dX5_leastLoop_62 : decode cX5_leastLoop 62 = .ok (.goto (-23), 3) := by decide +kernel
theorem dX5_leastLoop_65 : decode cX5_leastLoop 65 = .ok (.bipush (-9), 2) := by decide +kernel
theorem dX5_leastLoop_67 : decode cX5_leastLoop 67 = .ok (.ireturn, 1) := by decide +kernel
set_option maxRecDepth 20000 in
theorem ggX5_loopsThatMeet_X5_startAtFoot : GoodIn wsX5_loopsThatMeet wsX5_startAtFoot := goodIn_r _ [9, 3, 4, 10, 11, 12, 8, 13, 1, 2, 14, 15, 16, 17, 18, 19, 20, 21, 22, 23, 24, 25, 26, 27, 28, 29, 30, 35, 36, 37, 38, 39, 40, 41] (by decide +kernel) (by decide +kernel)
set_option maxRecDepth 20000 in
theorem gX5_loopsThatMeet_X5_startAtFoot : GoodIn wsX5_loopsThatMeet (wsV RX5 84 RX5 yX5_startAtFoot wsX5_startAtFoot) := goodIn_app (goodIn_of _ (by decide +kernel)) ggX5_loopsThatMeet_X5_startAtFoot
set_option maxRecDepth 20000 in
theorem ggX5_loopsThatMeet_X5_loopsThatMeetPoint : GoodIn wsX5_loopsThatMeet wsX5_loopsThatMeetPoint := goodIn_r _ [34, 2, 3, 4, 14, 15, 8, 16, 17, 18, 19, 35, 36, 37, 38, 39, 40, 41] (by decide +kernel) (by decide +kernel)
set_option maxRecDepth 20000 in
theorem gX5_loopsThatMeet_X5_loopsThatMeetPoint : GoodIn wsX5_loopsThatMeet (wsV RX5 88 RX5 yX5_loopsThatMeetPoint wsX5_loopsThatMeetPoint) := goodIn_app (goodIn_of _ (by decide +kernel)) ggX5_loopsThatMeet_X5_loopsThatMeetPoint
set_option maxRecDepth 20000 in
theorem ggX5_loopsThatMeet_X5_axisOf : GoodIn wsX5_loopsThatMeet wsX5_axisOf := goodIn_r _ [16] (by decide +kernel) (by decide +kernel)
set_option maxRecDepth 20000 in
theorem gX5_loopsThatMeet_X5_axisOf : GoodIn wsX5_loopsThatMeet (va_wsS RX5 35 yX5_axisOf wsX5_axisOf) := goodIn_app (goodIn_of _ (by decide +kernel)) ggX5_loopsThatMeet_X5_axisOf
set_option maxRecDepth 20000 in
theorem ggX5_loopsThatMeet_X5_signOf : GoodIn wsX5_loopsThatMeet wsX5_signOf := goodIn_r _ [19] (by decide +kernel) (by decide +kernel)
set_option maxRecDepth 20000 in
theorem gX5_loopsThatMeet_X5_signOf : GoodIn wsX5_loopsThatMeet (va_wsS RX5 39 yX5_signOf wsX5_signOf) := goodIn_app (goodIn_of _ (by decide +kernel)) ggX5_loopsThatMeet_X5_signOf
theorem dX5_loopsThatMeet_0 : decode cX5_loopsThatMeet 0 = .ok (.aload_n 0, 1) := by decide +kernel
theorem dX5_loopsThatMeet_1 : decode cX5_loopsThatMeet 1 = .ok (.iload_n 1, 1) := by decide +kernel
theorem dX5_loopsThatMeet_2 : decode cX5_loopsThatMeet 2 = .ok (.invokevirtual 84, 3) := by decide +kernel
theorem dX5_loopsThatMeet_5 : decode cX5_loopsThatMeet 5 = .ok (.aload_n 0, 1) := by decide +kernel
theorem dX5_loopsThatMeet_6 : decode cX5_loopsThatMeet 6 = .ok (.iload_n 1, 1) := by decide +kernel
theorem dX5_loopsThatMeet_7 : decode cX5_loopsThatMeet 7 = .ok (.iload_n 2, 1) := by decide +kernel
theorem dX5_loopsThatMeet_8 : decode cX5_loopsThatMeet 8 = .ok (.invokevirtual 88, 3) := by decide +kernel
theorem dX5_loopsThatMeet_11 : decode cX5_loopsThatMeet 11 = .ok (.istore_n 3, 1) := by decide +kernel
theorem dX5_loopsThatMeet_12 : decode cX5_loopsThatMeet 12 = .ok (.iconst 0, 1) := by decide +kernel
theorem dX5_loopsThatMeet_13 : decode cX5_loopsThatMeet 13 = .ok (.istore 4, 2) := by decide +kernel
theorem dX5_loopsThatMeet_15 : decode cX5_loopsThatMeet 15 = .ok (.iload 4, 2) := by decide +kernel
theorem dX5_loopsThatMeet_17 : decode cX5_loopsThatMeet 17 = .ok (.aload_n 0, 1) := by decide +kernel
theorem dX5_loopsThatMeet_18 : decode cX5_loopsThatMeet 18 = .ok (.getfield 24, 3) := by decide +kernel
theorem dX5_loopsThatMeet_21 : decode cX5_loopsThatMeet 21 = .ok (.if_icmp .ge 71, 3) := by decide +kernel
theorem dX5_loopsThatMeet_24 : decode cX5_loopsThatMeet 24 = .ok (.aload_n 0, 1) := by decide +kernel
theorem dX5_loopsThatMeet_25 : decode cX5_loopsThatMeet 25 = .ok (.getfield 9, 3) := by decide +kernel
theorem dX5_loopsThatMeet_28 : decode cX5_loopsThatMeet 28 = .ok (.iload 4, 2) := by decide +kernel
theorem dX5_loopsThatMeet_30 : decode cX5_loopsThatMeet 30 = .ok (.iaload, 1) := by decide +kernel
theorem dX5_loopsThatMeet_31 : decode cX5_loopsThatMeet 31 = .ok (.invokestatic 35, 3) := by decide +kernel
theorem dX5_loopsThatMeet_34 : decode cX5_loopsThatMeet 34 = .ok (.istore 5, 2) := by decide +kernel
theorem dX5_loopsThatMeet_36 : decode cX5_loopsThatMeet 36 = .ok (.iconst 0, 1) := by decide +kernel
theorem dX5_loopsThatMeet_37 : decode cX5_loopsThatMeet 37 = .ok (.istore 6, 2) := by decide +kernel
theorem dX5_loopsThatMeet_39 : decode cX5_loopsThatMeet 39 = .ok (.iload 6, 2) := by decide +kernel
theorem dX5_loopsThatMeet_41 : decode cX5_loopsThatMeet 41 = .ok (.aload_n 0, 1) := by decide +kernel
theorem dX5_loopsThatMeet_42 : decode cX5_loopsThatMeet 42 = .ok (.getfield 15, 3) := by decide +kernel
theorem dX5_loopsThatMeet_45 : decode cX5_loopsThatMeet 45 = .ok (.iload 4, 2) := by decide +kernel
theorem dX5_loopsThatMeet_47 : decode cX5_loopsThatMeet 47 = .ok (.iaload, 1) := by decide +kernel
theorem dX5_loopsThatMeet_48 : decode cX5_loopsThatMeet 48 = .ok (.if_icmp .ge 38, 3) := by decide +kernel
theorem dX5_loopsThatMeet_51 : decode cX5_loopsThatMeet 51 = .ok (.aload_n 0, 1) := by decide +kernel
theorem dX5_loopsThatMeet_52 : decode cX5_loopsThatMeet 52 = .ok (.getfield 21, 3) := by decide +kernel
theorem dX5_loopsThatMeet_55 : decode cX5_loopsThatMeet 55 = .ok (.iload 5, 2) := by decide +kernel
theorem dX5_loopsThatMeet_57 : decode cX5_loopsThatMeet 57 = .ok (.dup2, 1) := by decide +kernel
theorem dX5_loopsThatMeet_58 : decode cX5_loopsThatMeet 58 = .ok (.iaload, 1) := by decide +kernel
theorem dX5_loopsThatMeet_59 : decode cX5_loopsThatMeet 59 = .ok (.aload_n 0, 1) := by decide +kernel
theorem dX5_loopsThatMeet_60 : decode cX5_loopsThatMeet 60 = .ok (.getfield 9, 3) := by decide +kernel
theorem dX5_loopsThatMeet_63 : decode cX5_loopsThatMeet 63 = .ok (.iload 4, 2) := by decide +kernel
theorem dX5_loopsThatMeet_65 : decode cX5_loopsThatMeet 65 = .ok (.iaload, 1) := by decide +kernel
theorem dX5_loopsThatMeet_66 : decode cX5_loopsThatMeet 66 = .ok (.invokestatic 39, 3) := by decide +kernel
theorem dX5_loopsThatMeet_69 : decode cX5_loopsThatMeet 69 = .ok (.iadd, 1) := by decide +kernel
theorem dX5_loopsThatMeet_70 : decode cX5_loopsThatMeet 70 = .ok (.iastore, 1) := by decide +kernel
theorem dX5_loopsThatMeet_71 : decode cX5_loopsThatMeet 71 = .ok (.iload_n 3, 1) := by decide +kernel
theorem dX5_loopsThatMeet_72 : decode cX5_loopsThatMeet 72 = .ok (.aload_n 0, 1) := by decide +kernel
theorem dX5_loopsThatMeet_73 : decode cX5_loopsThatMeet 73 = .ok (.iload_n 1, 1) := by decide +kernel
theorem dX5_loopsThatMeet_74 : decode cX5_loopsThatMeet 74 = .ok (.iload_n 2, 1) := by decide +kernel
theorem dX5_loopsThatMeet_75 : decode cX5_loopsThatMeet 75 = .ok (.invokevirtual 88, 3) := by decide +kernel
theorem dX5_loopsThatMeet_78 : decode cX5_loopsThatMeet 78 = .ok (.ior, 1) := by decide +kernel
theorem dX5_loopsThatMeet_79 : decode cX5_loopsThatMeet 79 = .ok (.istore_n 3, 1) := by decide +kernel
theorem dX5_loopsThatMeet_80 : decode cX5_loopsThatMeet 80 = .ok (.iinc 6 1, 3) := by decide +kernel
theorem dX5_loopsThatMeet_83 : decode cX5_loopsThatMeet 83 = .ok (.goto (-44), 3) := by decide +kernel
theorem dX5_loopsThatMeet_86 : decode cX5_loopsThatMeet 86 = .ok (.iinc 4 1, 3) := by decide +kernel
theorem dX5_loopsThatMeet_89 : decode cX5_loopsThatMeet 89 = .ok (.goto (-74), 3) := by decide +kernel
theorem dX5_loopsThatMeet_92 : decode cX5_loopsThatMeet 92 = .ok (.iload_n 3, 1) := by decide +kernel
theorem dX5_loopsThatMeet_93 : decode cX5_loopsThatMeet 93 = .ok (.ireturn, 1) := by decide +kernel
set_option maxRecDepth 20000 in
theorem ggX5_startAtFoot_X5_position : GoodIn wsX5_startAtFoot wsX5_position := goodIn_r _ [7, 8, 9, 1, 10, 11, 6, 12, 13, 14, 15, 16, 17, 18, 19, 20, 21, 22, 23, 24, 25, 26, 27, 28, 29, 30, 31, 32, 33] (by decide +kernel) (by decide +kernel)
set_option maxRecDepth 20000 in
theorem gX5_startAtFoot_X5_position : GoodIn wsX5_startAtFoot (wsV RX5 67 RX5 yX5_position wsX5_position) := goodIn_app (goodIn_of _ (by decide +kernel)) ggX5_startAtFoot_X5_position
theorem dX5_startAtFoot_0 : decode cX5_startAtFoot 0 = .ok (.aload_n 0, 1) := by decide +kernel
theorem dX5_startAtFoot_1 : decode cX5_startAtFoot 1 = .ok (.getfield 15, 3) := by decide +kernel
theorem dX5_startAtFoot_4 : decode cX5_startAtFoot 4 = .ok (.iload_n 1, 1) := by decide +kernel
theorem dX5_startAtFoot_5 : decode cX5_startAtFoot 5 = .ok (.iaload, 1) := by decide +kernel
theorem dX5_startAtFoot_6 : decode cX5_startAtFoot 6 = .ok (.iconst 3, 1) := by decide +kernel
theorem dX5_startAtFoot_7 : decode cX5_startAtFoot 7 = .ok (.idiv, 1) := by decide +kernel
theorem dX5_startAtFoot_8 : decode cX5_startAtFoot 8 = .ok (.istore_n 2, 1) := by decide +kernel
theorem dX5_startAtFoot_9 : decode cX5_startAtFoot 9 = .ok (.iconst 0, 1) := by decide +kernel
theorem dX5_startAtFoot_10 : decode cX5_startAtFoot 10 = .ok (.istore_n 3, 1) := by decide +kernel
theorem dX5_startAtFoot_11 : decode cX5_startAtFoot 11 = .ok (.iload_n 3, 1) := by decide +kernel
theorem dX5_startAtFoot_12 : decode cX5_startAtFoot 12 = .ok (.iload_n 1, 1) := by decide +kernel
theorem dX5_startAtFoot_13 : decode cX5_startAtFoot 13 = .ok (.if_icmp .ge 18, 3) := by decide +kernel
theorem dX5_startAtFoot_16 : decode cX5_startAtFoot 16 = .ok (.iload_n 2, 1) := by decide +kernel
theorem dX5_startAtFoot_17 : decode cX5_startAtFoot 17 = .ok (.aload_n 0, 1) := by decide +kernel
theorem dX5_startAtFoot_18 : decode cX5_startAtFoot 18 = .ok (.getfield 15, 3) := by decide +kernel
theorem dX5_startAtFoot_21 : decode cX5_startAtFoot 21 = .ok (.iload_n 3, 1) := by decide +kernel
theorem dX5_startAtFoot_22 : decode cX5_startAtFoot 22 = .ok (.iaload, 1) := by decide +kernel
theorem dX5_startAtFoot_23 : decode cX5_startAtFoot 23 = .ok (.iadd, 1) := by decide +kernel
theorem dX5_startAtFoot_24 : decode cX5_startAtFoot 24 = .ok (.istore_n 2, 1) := by decide +kernel
theorem dX5_startAtFoot_25 : decode cX5_startAtFoot 25 = .ok (.iinc 3 1, 3) := by decide +kernel
theorem dX5_startAtFoot_28 : decode cX5_startAtFoot 28 = .ok (.goto (-17), 3) := by decide +kernel
theorem dX5_startAtFoot_31 : decode cX5_startAtFoot 31 = .ok (.iconst 0, 1) := by decide +kernel
theorem dX5_startAtFoot_32 : decode cX5_startAtFoot 32 = .ok (.istore_n 3, 1) := by decide +kernel
theorem dX5_startAtFoot_33 : decode cX5_startAtFoot 33 = .ok (.iload_n 3, 1) := by decide +kernel
theorem dX5_startAtFoot_34 : decode cX5_startAtFoot 34 = .ok (.iconst 3, 1) := by decide +kernel
theorem dX5_startAtFoot_35 : decode cX5_startAtFoot 35 = .ok (.if_icmp .ge 22, 3) := by decide +kernel
theorem dX5_startAtFoot_38 : decode cX5_startAtFoot 38 = .ok (.aload_n 0, 1) := by decide +kernel
theorem dX5_startAtFoot_39 : decode cX5_startAtFoot 39 = .ok (.getfield 21, 3) := by decide +kernel
theorem dX5_startAtFoot_42 : decode cX5_startAtFoot 42 = .ok (.iload_n 3, 1) := by decide +kernel
theorem dX5_startAtFoot_43 : decode cX5_startAtFoot 43 = .ok (.aload_n 0, 1) := by decide +kernel
theorem dX5_startAtFoot_44 : decode cX5_startAtFoot 44 = .ok (.iload_n 2, 1) := by decide +kernel
theorem dX5_startAtFoot_45 : decode cX5_startAtFoot 45 = .ok (.iload_n 3, 1) := by decide +kernel
theorem dX5_startAtFoot_46 : decode cX5_startAtFoot 46 = .ok (.invokevirtual 67, 3) := by decide +kernel
theorem dX5_startAtFoot_49 : decode cX5_startAtFoot 49 = .ok (.ineg, 1) := by decide +kernel
theorem dX5_startAtFoot_50 : decode cX5_startAtFoot 50 = .ok (.iastore, 1) := by decide +kernel
theorem dX5_startAtFoot_51 : decode cX5_startAtFoot 51 = .ok (.iinc 3 1, 3) := by decide +kernel
theorem dX5_startAtFoot_54 : decode cX5_startAtFoot 54 = .ok (.goto (-21), 3) := by decide +kernel
theorem dX5_startAtFoot_57 : decode cX5_startAtFoot 57 = .ok (.return_, 1) := by decide +kernel
set_option maxRecDepth 20000 in
theorem ggX5_loopsThatMeetPoint_X5_axisOf : GoodIn wsX5_loopsThatMeetPoint wsX5_axisOf := goodIn_r _ [7] (by decide +kernel) (by decide +kernel)
set_option maxRecDepth 20000 in
theorem gX5_loopsThatMeetPoint_X5_axisOf : GoodIn wsX5_loopsThatMeetPoint (va_wsS RX5 35 yX5_axisOf wsX5_axisOf) := goodIn_app (goodIn_of _ (by decide +kernel)) ggX5_loopsThatMeetPoint_X5_axisOf
set_option maxRecDepth 20000 in
theorem ggX5_loopsThatMeetPoint_X5_signOf : GoodIn wsX5_loopsThatMeetPoint wsX5_signOf := goodIn_r _ [10] (by decide +kernel) (by decide +kernel)
set_option maxRecDepth 20000 in
theorem gX5_loopsThatMeetPoint_X5_signOf : GoodIn wsX5_loopsThatMeetPoint (va_wsS RX5 39 yX5_signOf wsX5_signOf) := goodIn_app (goodIn_of _ (by decide +kernel)) ggX5_loopsThatMeetPoint_X5_signOf
theorem dX5_loopsThatMeetPoint_0 : decode cX5_loopsThatMeetPoint 0 = .ok (.aload_n 0, 1) := by decide +kernel
theorem dX5_loopsThatMeetPoint_1 : decode cX5_loopsThatMeetPoint 1 = .ok (.getfield 9, 3) := by decide +kernel
theorem dX5_loopsThatMeetPoint_4 : decode cX5_loopsThatMeetPoint 4 = .ok (.iload_n 1, 1) := by decide +kernel
theorem dX5_loopsThatMeetPoint_5 : decode cX5_loopsThatMeetPoint 5 = .ok (.iaload, 1) := by decide +kernel
theorem dX5_loopsThatMeetPoint_6 : decode cX5_loopsThatMeetPoint 6 = .ok (.invokestatic 35, 3) := by decide +kernel
theorem dX5_loopsThatMeetPoint_9 : decode cX5_loopsThatMeetPoint 9 = .ok (.istore_n 3, 1) := by decide +kernel
theorem dX5_loopsThatMeetPoint_10 : decode cX5_loopsThatMeetPoint 10 = .ok (.iload_n 2, 1) := by decide +kernel
theorem dX5_loopsThatMeetPoint_11 : decode cX5_loopsThatMeetPoint 11 = .ok (.invokestatic 35, 3) := by decide +kernel
theorem dX5_loopsThatMeetPoint_14 : decode cX5_loopsThatMeetPoint 14 = .ok (.istore 4, 2) := by decide +kernel
theorem dX5_loopsThatMeetPoint_16 : decode cX5_loopsThatMeetPoint 16 = .ok (.iconst 3, 1) := by decide +kernel
theorem dX5_loopsThatMeetPoint_17 : decode cX5_loopsThatMeetPoint 17 = .ok (.iload_n 3, 1) := by decide +kernel
theorem dX5_loopsThatMeetPoint_18 : decode cX5_loopsThatMeetPoint 18 = .ok (.isub, 1) := by decide +kernel
theorem dX5_loopsThatMeetPoint_19 : decode cX5_loopsThatMeetPoint 19 = .ok (.iload 4, 2) := by decide +kernel
theorem dX5_loopsThatMeetPoint_21 : decode cX5_loopsThatMeetPoint 21 = .ok (.isub, 1) := by decide +kernel
theorem dX5_loopsThatMeetPoint_22 : decode cX5_loopsThatMeetPoint 22 = .ok (.istore 5, 2) := by decide +kernel
theorem dX5_loopsThatMeetPoint_24 : decode cX5_loopsThatMeetPoint 24 = .ok (.aload_n 0, 1) := by decide +kernel
theorem dX5_loopsThatMeetPoint_25 : decode cX5_loopsThatMeetPoint 25 = .ok (.getfield 15, 3) := by decide +kernel
theorem dX5_loopsThatMeetPoint_28 : decode cX5_loopsThatMeetPoint 28 = .ok (.iload_n 1, 1) := by decide +kernel
theorem dX5_loopsThatMeetPoint_29 : decode cX5_loopsThatMeetPoint 29 = .ok (.iaload, 1) := by decide +kernel
theorem dX5_loopsThatMeetPoint_30 : decode cX5_loopsThatMeetPoint 30 = .ok (.iconst 3, 1) := by decide +kernel
theorem dX5_loopsThatMeetPoint_31 : decode cX5_loopsThatMeetPoint 31 = .ok (.idiv, 1) := by decide +kernel
theorem dX5_loopsThatMeetPoint_32 : decode cX5_loopsThatMeetPoint 32 = .ok (.istore 6, 2) := by decide +kernel
theorem dX5_loopsThatMeetPoint_34 : decode cX5_loopsThatMeetPoint 34 = .ok (.aload_n 0, 1) := by decide +kernel
theorem dX5_loopsThatMeetPoint_35 : decode cX5_loopsThatMeetPoint 35 = .ok (.getfield 9, 3) := by decide +kernel
theorem dX5_loopsThatMeetPoint_38 : decode cX5_loopsThatMeetPoint 38 = .ok (.iload_n 1, 1) := by decide +kernel
theorem dX5_loopsThatMeetPoint_39 : decode cX5_loopsThatMeetPoint 39 = .ok (.iaload, 1) := by decide +kernel
theorem dX5_loopsThatMeetPoint_40 : decode cX5_loopsThatMeetPoint 40 = .ok (.invokestatic 39, 3) := by decide +kernel
theorem dX5_loopsThatMeetPoint_43 : decode cX5_loopsThatMeetPoint 43 = .ok (.aload_n 0, 1) := by decide +kernel
theorem dX5_loopsThatMeetPoint_44 : decode cX5_loopsThatMeetPoint 44 = .ok (.getfield 21, 3) := by decide +kernel
theorem dX5_loopsThatMeetPoint_47 : decode cX5_loopsThatMeetPoint 47 = .ok (.iload_n 3, 1) := by decide +kernel
theorem dX5_loopsThatMeetPoint_48 : decode cX5_loopsThatMeetPoint 48 = .ok (.iaload, 1) := by decide +kernel
theorem dX5_loopsThatMeetPoint_49 : decode cX5_loopsThatMeetPoint 49 = .ok (.imul, 1) := by decide +kernel
theorem dX5_loopsThatMeetPoint_50 : decode cX5_loopsThatMeetPoint 50 = .ok (.istore 7, 2) := by decide +kernel
theorem dX5_loopsThatMeetPoint_52 : decode cX5_loopsThatMeetPoint 52 = .ok (.iload_n 2, 1) := by decide +kernel
theorem dX5_loopsThatMeetPoint_53 : decode cX5_loopsThatMeetPoint 53 = .ok (.invokestatic 39, 3) := by decide +kernel
theorem dX5_loopsThatMeetPoint_56 : decode cX5_loopsThatMeetPoint 56 = .ok (.aload_n 0, 1) := by decide +kernel
theorem dX5_loopsThatMeetPoint_57 : decode cX5_loopsThatMeetPoint 57 = .ok (.getfield 21, 3) := by decide +kernel
theorem dX5_loopsThatMeetPoint_60 : decode cX5_loopsThatMeetPoint 60 = .ok (.iload 4, 2) := by decide +kernel
theorem dX5_loopsThatMeetPoint_62 : decode cX5_loopsThatMeetPoint 62 = .ok (.iaload, 1) := by decide +kernel
theorem dX5_loopsThatMeetPoint_63 : decode cX5_loopsThatMeetPoint 63 = .ok (.imul, 1) := by decide +kernel
theorem dX5_loopsThatMeetPoint_64 : decode cX5_loopsThatMeetPoint 64 = .ok (.istore 8, 2) := by decide +kernel
theorem dX5_loopsThatMeetPoint_66 : decode cX5_loopsThatMeetPoint 66 = .ok (.aload_n 0, 1) := by decide +kernel
theorem dX5_loopsThatMeetPoint_67 : decode cX5_loopsThatMeetPoint 67 = .ok (.getfield 21, 3) := by decide +kernel
theorem dX5_loopsThatMeetPoint_70 : decode cX5_loopsThatMeetPoint 70 = .ok (.iload 5, 2) := by decide +kernel
theorem dX5_loopsThatMeetPoint_72 : decode cX5_loopsThatMeetPoint 72 = .ok (.iaload, 1) := by decide +kernel
theorem dX5_loopsThatMeetPoint_73 : decode cX5_loopsThatMeetPoint 73 = .ok (.ifCond .ne 28, 3) := by decide +kernel
theorem dX5_loopsThatMeetPoint_76 : decode cX5_loopsThatMeetPoint 76 = .ok (.iload 7, 2) := by decide +kernel
theorem dX5_loopsThatMeetPoint_78 : decode cX5_loopsThatMeetPoint 78 = .ok (.ifCond .lt 23, 3) := by decide +kernel
theorem dX5_loopsThatMeetPoint_81 : decode cX5_loopsThatMeetPoint 81 = .ok (.iload 7, 2) := by decide +kernel
theorem dX5_loopsThatMeetPoint_83 : decode cX5_loopsThatMeetPoint 83 = .ok (.iload 6, 2) := by decide +kernel
theorem dX5_loopsThatMeetPoint_85 : decode cX5_loopsThatMeetPoint 85 = .ok (.if_icmp .gt 16, 3) := by decide +kernel
theorem dX5_loopsThatMeetPoint_88 : decode cX5_loopsThatMeetPoint 88 = .ok (.iload 8, 2) := by decide +kernel
theorem dX5_loopsThatMeetPoint_90 : decode cX5_loopsThatMeetPoint 90 = .ok (.iconst 1, 1) := by decide +kernel
theorem dX5_loopsThatMeetPoint_91 : decode cX5_loopsThatMeetPoint 91 = .ok (.if_icmp .lt 10, 3) := by decide +kernel
theorem dX5_loopsThatMeetPoint_94 : decode cX5_loopsThatMeetPoint 94 = .ok (.iload 8, 2) := by decide +kernel
theorem dX5_loopsThatMeetPoint_96 : decode cX5_loopsThatMeetPoint 96 = .ok (.bipush 20, 2) := by decide +kernel
theorem dX5_loopsThatMeetPoint_98 : decode cX5_loopsThatMeetPoint 98 = .ok (.if_icmp .le 5, 3) := by decide +kernel
theorem dX5_loopsThatMeetPoint_101 : decode cX5_loopsThatMeetPoint 101 = .ok (.iconst 0, 1) := by decide +kernel
theorem dX5_loopsThatMeetPoint_102 : decode cX5_loopsThatMeetPoint 102 = .ok (.ireturn, 1) := by decide +kernel
theorem dX5_loopsThatMeetPoint_103 : decode cX5_loopsThatMeetPoint 103 = .ok (.iload 7, 2) := by decide +kernel
theorem dX5_loopsThatMeetPoint_105 : decode cX5_loopsThatMeetPoint 105 = .ok (.ifCond .eq 10, 3) := by decide +kernel
theorem dX5_loopsThatMeetPoint_108 : decode cX5_loopsThatMeetPoint 108 = .ok (.iload 7, 2) := by decide +kernel
theorem dX5_loopsThatMeetPoint_110 : decode cX5_loopsThatMeetPoint 110 = .ok (.iload 6, 2) := by decide +kernel
theorem dX5_loopsThatMeetPoint_112 : decode cX5_loopsThatMeetPoint 112 = .ok (.if_icmp .ne 10, 3) := by decide +kernel
theorem dX5_loopsThatMeetPoint_115 : decode cX5_loopsThatMeetPoint 115 = .ok (.iconst (-1), 1) := by decide +kernel
theorem dX5_loopsThatMeetPoint_116 : decode cX5_loopsThatMeetPoint 116 = .ok (.iload 8, 2) := by decide +kernel
theorem dX5_loopsThatMeetPoint_118 : decode cX5_loopsThatMeetPoint 118 = .ok (.ishl, 1) := by decide +kernel
theorem dX5_loopsThatMeetPoint_119 : decode cX5_loopsThatMeetPoint 119 = .ok (.goto 7, 3) := by decide +kernel
theorem dX5_loopsThatMeetPoint_122 : decode cX5_loopsThatMeetPoint 122 = .ok (.iconst 1, 1) := by decide +kernel
theorem dX5_loopsThatMeetPoint_123 : decode cX5_loopsThatMeetPoint 123 = .ok (.iload 8, 2) := by decide +kernel
theorem dX5_loopsThatMeetPoint_125 : decode cX5_loopsThatMeetPoint 125 = .ok (.ishl, 1) := by decide +kernel
theorem dX5_loopsThatMeetPoint_126 : decode cX5_loopsThatMeetPoint 126 = .ok (.ireturn, 1) := by decide +kernel
theorem dX5_mixInto_0 : decode cX5_mixInto 0 = .ok (.iconst 0, 1) := by decide +kernel
theorem dX5_mixInto_1 : decode cX5_mixInto 1 = .ok (.istore_n 3, 1) := by decide +kernel
theorem dX5_mixInto_2 : decode cX5_mixInto 2 = .ok (.iload_n 3, 1) := by decide +kernel
theorem dX5_mixInto_3 : decode cX5_mixInto 3 = .ok (.aload_n 0, 1) := by decide +kernel
theorem dX5_mixInto_4 : decode cX5_mixInto 4 = .ok (.getfield 24, 3) := by decide +kernel
theorem dX5_mixInto_7 : decode cX5_mixInto 7 = .ok (.if_icmp .ge 51, 3) := by decide +kernel
theorem dX5_mixInto_10 : decode cX5_mixInto 10 = .ok (.ldc2_w 91, 3) := by decide +kernel
theorem dX5_mixInto_13 : decode cX5_mixInto 13 = .ok (.lload_n 1, 1) := by decide +kernel
theorem dX5_mixInto_14 : decode cX5_mixInto 14 = .ok (.lmul, 1) := by decide +kernel
theorem dX5_mixInto_15 : decode cX5_mixInto 15 = .ok (.aload_n 0, 1) := by decide +kernel
theorem dX5_mixInto_16 : decode cX5_mixInto 16 = .ok (.getfield 9, 3) := by decide +kernel
theorem dX5_mixInto_19 : decode cX5_mixInto 19 = .ok (.iload_n 3, 1) := by decide +kernel
theorem dX5_mixInto_20 : decode cX5_mixInto 20 = .ok (.iaload, 1) := by decide +kernel
theorem dX5_mixInto_21 : decode cX5_mixInto 21 = .ok (.i2l, 1) := by decide +kernel
theorem dX5_mixInto_22 : decode cX5_mixInto 22 = .ok (.ladd, 1) := by decide +kernel
theorem dX5_mixInto_23 : decode cX5_mixInto 23 = .ok (.lstore_n 1, 1) := by decide +kernel
theorem dX5_mixInto_24 : decode cX5_mixInto 24 = .ok (.ldc2_w 91, 3) := by decide +kernel
theorem dX5_mixInto_27 : decode cX5_mixInto 27 = .ok (.lload_n 1, 1) := by decide +kernel
theorem dX5_mixInto_28 : decode cX5_mixInto 28 = .ok (.lmul, 1) := by decide +kernel
theorem dX5_mixInto_29 : decode cX5_mixInto 29 = .ok (.aload_n 0, 1) := by decide +kernel
theorem dX5_mixInto_30 : decode cX5_mixInto 30 = .ok (.getfield 15, 3) := by decide +kernel
theorem dX5_mixInto_33 : decode cX5_mixInto 33 = .ok (.iload_n 3, 1) := by decide +kernel
theorem dX5_mixInto_34 : decode cX5_mixInto 34 = .ok (.iaload, 1) := by decide +kernel
theorem dX5_mixInto_35 : decode cX5_mixInto 35 = .ok (.i2l, 1) := by decide +kernel
theorem dX5_mixInto_36 : decode cX5_mixInto 36 = .ok (.ladd, 1) := by decide +kernel
theorem dX5_mixInto_37 : decode cX5_mixInto 37 = .ok (.lstore_n 1, 1) := by decide +kernel
theorem dX5_mixInto_38 : decode cX5_mixInto 38 = .ok (.ldc2_w 91, 3) := by decide +kernel
theorem dX5_mixInto_41 : decode cX5_mixInto 41 = .ok (.lload_n 1, 1) := by decide +kernel
theorem dX5_mixInto_42 : decode cX5_mixInto 42 = .ok (.lmul, 1) := by decide +kernel
theorem dX5_mixInto_43 : decode cX5_mixInto 43 = .ok (.aload_n 0, 1) := by decide +kernel
theorem dX5_mixInto_44 : decode cX5_mixInto 44 = .ok (.getfield 18, 3) := by decide +kernel
theorem dX5_mixInto_47 : decode cX5_mixInto 47 = .ok (.iload_n 3, 1) := by decide +kernel
theorem dX5_mixInto_48 : decode cX5_mixInto 48 = .ok (.iaload, 1) := by decide +kernel
theorem dX5_mixInto_49 : decode cX5_mixInto 49 = .ok (.i2l, 1) := by decide +kernel
theorem dX5_mixInto_50 : decode cX5_mixInto 50 = .ok (.ladd, 1) := by decide +kernel
theorem dX5_mixInto_51 : decode cX5_mixInto 51 = .ok (.lstore_n 1, 1) := by decide +kernel
theorem dX5_mixInto_52 : decode cX5_mixInto 52 = .ok (.iinc 3 1, 3) := by decide +kernel
theorem dX5_mixInto_55 : decode cX5_mixInto 55 = .ok (.goto (-53), 3) := by decide +kernel
theorem dX5_mixInto_58 : decode cX5_mixInto 58 = .ok (.lload_n 1, 1) := by decide +kernel
theorem dX5_mixInto_59 : decode cX5_mixInto 59 = .ok (.lreturn, 1) := by decide +kernel
theorem dX5_axisOf_0 : decode cX5_axisOf 0 = .ok (.iload_n 0, 1) := by decide +kernel
theorem dX5_axisOf_1 : decode cX5_axisOf 1 = .ok (.iconst 1, 1) := by decide +kernel
theorem dX5_axisOf_2 : decode cX5_axisOf 2 = .ok (.ishr, 1) := by decide +kernel
theorem dX5_axisOf_3 : decode cX5_axisOf 3 = .ok (.ireturn, 1) := by decide +kernel
theorem dX5_signOf_0 : decode cX5_signOf 0 = .ok (.iload_n 0, 1) := by decide +kernel
theorem dX5_signOf_1 : decode cX5_signOf 1 = .ok (.iconst 1, 1) := by decide +kernel
theorem dX5_signOf_2 : decode cX5_signOf 2 = .ok (.iand, 1) := by decide +kernel
theorem dX5_signOf_3 : decode cX5_signOf 3 = .ok (.ifCond .ne 7, 3) := by decide +kernel
theorem dX5_signOf_6 : decode cX5_signOf 6 = .ok (.iconst 1, 1) := by decide +kernel
theorem dX5_signOf_7 : decode cX5_signOf 7 = .ok (.goto 4, 3) := by decide +kernel
theorem dX5_signOf_10 : decode cX5_signOf 10 = .ok (.iconst (-1), 1) := by decide +kernel
theorem dX5_signOf_11 : decode cX5_signOf 11 = .ok (.ireturn, 1) := by decide +kernel
theorem dX5_root_0 : decode cX5_root 0 = .ok (.lconst 0, 1) := by decide +kernel
theorem dX5_root_1 : decode cX5_root 1 = .ok (.lstore_n 2, 1) := by decide +kernel
theorem dX5_root_2 : decode cX5_root 2 = .ok (.bipush 30, 2) := by decide +kernel
theorem dX5_root_4 : decode cX5_root 4 = .ok (.istore 4, 2) := by decide +kernel
theorem dX5_root_6 : decode cX5_root 6 = .ok (.iload 4, 2) := by decide +kernel
theorem dX5_root_8 : decode cX5_root 8 = .ok (.ifCond .lt 30, 3) := by decide +kernel
theorem dX5_root_11 : decode cX5_root 11 = .ok (.lload_n 2, 1) := by decide +kernel
theorem dX5_root_12 : decode cX5_root 12 = .ok (.lconst 1, 1) := by decide +kernel
theorem dX5_root_13 : decode cX5_root 13 = .ok (.iload 4, 2) := by decide +kernel
theorem dX5_root_15 : decode cX5_root 15 = .ok (.lshl, 1) := by decide +kernel
theorem dX5_root_16 : decode cX5_root 16 = .ok (.ladd, 1) := by decide +kernel
theorem dX5_root_17 : decode cX5_root 17 = .ok (.lstore 5, 2) := by decide +kernel
theorem dX5_root_19 : decode cX5_root 19 = .ok (.lload 5, 2) := by decide +kernel
theorem dX5_root_21 : decode cX5_root 21 = .ok (.lload 5, 2) := by decide +kernel
theorem dX5_root_23 : decode cX5_root 23 = .ok (.lmul, 1) := by decide +kernel
theorem dX5_root_24 : decode cX5_root 24 = .ok (.lload_n 0, 1) := by decide +kernel
theorem dX5_root_25 : decode cX5_root 25 = .ok (.lcmp, 1) := by decide +kernel
theorem dX5_root_26 : decode cX5_root 26 = .ok (.ifCond .gt 6, 3) := by decide +kernel
theorem dX5_root_29 : decode cX5_root 29 = .ok (.lload 5, 2) := by decide +kernel
theorem dX5_root_31 : decode cX5_root 31 = .ok (.lstore_n 2, 1) := by decide +kernel
theorem dX5_root_32 : decode cX5_root 32 = .ok (.iinc 4 (-1), 3) := by decide +kernel
theorem dX5_root_35 : decode cX5_root 35 = .ok (.goto (-29), 3) := by decide +kernel
theorem dX5_root_38 : decode cX5_root 38 = .ok (.lload_n 2, 1) := by decide +kernel
theorem dX5_root_39 : decode cX5_root 39 = .ok (.l2i, 1) := by decide +kernel
theorem dX5_root_40 : decode cX5_root 40 = .ok (.ireturn, 1) := by decide +kernel
set_option maxRecDepth 20000 in
theorem ggX6_init_J7_fill_53178 : GoodIn wsX6_init wsJ7_fill_53178 := goodIn_r _ [12] (by decide +kernel) (by decide +kernel)
set_option maxRecDepth 20000 in
theorem gX6_init_J7_fill_53178 : GoodIn wsX6_init (va_wsS RX6 22 yJ7_fill_53178 wsJ7_fill_53178) := goodIn_app (goodIn_of _ (by decide +kernel)) ggX6_init_J7_fill_53178
theorem dX6_init_0 : decode cX6_init 0 = .ok (.aload_n 0, 1) := by decide +kernel
theorem dX6_init_1 : decode cX6_init 1 = .ok (.invokespecial 3, 3) := by decide +kernel
theorem dX6_init_4 : decode cX6_init 4 = .ok (.aload_n 0, 1) := by decide +kernel
theorem dX6_init_5 : decode cX6_init 5 = .ok (.bipush 64, 2) := by decide +kernel
theorem dX6_init_7 : decode cX6_init 7 = .ok (.newarray .byte, 2) := by decide +kernel
theorem dX6_init_9 : decode cX6_init 9 = .ok (.putfield 9, 3) := by decide +kernel
theorem dX6_init_12 : decode cX6_init 12 = .ok (.aload_n 0, 1) := by decide +kernel
theorem dX6_init_13 : decode cX6_init 13 = .ok (.iconst 4, 1) := by decide +kernel
theorem dX6_init_14 : decode cX6_init 14 = .ok (.newarray .int, 2) := by decide +kernel
theorem dX6_init_16 : decode cX6_init 16 = .ok (.putfield 15, 3) := by decide +kernel
theorem dX6_init_19 : decode cX6_init 19 = .ok (.aload_n 0, 1) := by decide +kernel
theorem dX6_init_20 : decode cX6_init 20 = .ok (.iconst 4, 1) := by decide +kernel
theorem dX6_init_21 : decode cX6_init 21 = .ok (.newarray .int, 2) := by decide +kernel
theorem dX6_init_23 : decode cX6_init 23 = .ok (.putfield 19, 3) := by decide +kernel
theorem dX6_init_26 : decode cX6_init 26 = .ok (.aload_n 0, 1) := by decide +kernel
theorem dX6_init_27 : decode cX6_init 27 = .ok (.getfield 15, 3) := by decide +kernel
theorem dX6_init_30 : decode cX6_init 30 = .ok (.iconst (-1), 1) := by decide +kernel
theorem dX6_init_31 : decode cX6_init 31 = .ok (.invokestatic 22, 3) := by decide +kernel
theorem dX6_init_34 : decode cX6_init 34 = .ok (.aload_n 0, 1) := by decide +kernel
theorem dX6_init_35 : decode cX6_init 35 = .ok (.getfield 19, 3) := by decide +kernel
theorem dX6_init_38 : decode cX6_init 38 = .ok (.bipush 10, 2) := by decide +kernel
theorem dX6_init_40 : decode cX6_init 40 = .ok (.invokestatic 22, 3) := by decide +kernel
theorem dX6_init_43 : decode cX6_init 43 = .ok (.return_, 1) := by decide +kernel
theorem dX6_isThere_0 : decode cX6_isThere 0 = .ok (.aload_n 0, 1) := by decide +kernel
theorem dX6_isThere_1 : decode cX6_isThere 1 = .ok (.getfield 15, 3) := by decide +kernel
theorem dX6_isThere_4 : decode cX6_isThere 4 = .ok (.iload_n 1, 1) := by decide +kernel
theorem dX6_isThere_5 : decode cX6_isThere 5 = .ok (.iaload, 1) := by decide +kernel
theorem dX6_isThere_6 : decode cX6_isThere 6 = .ok (.iconst (-1), 1) := by decide +kernel
theorem dX6_isThere_7 : decode cX6_isThere 7 = .ok (.if_icmp .eq 7, 3) := by decide +kernel
theorem dX6_isThere_10 : decode cX6_isThere 10 = .ok (.iconst 1, 1) := by decide +kernel
theorem dX6_isThere_11 : decode cX6_isThere 11 = .ok (.goto 4, 3) := by decide +kernel
theorem dX6_isThere_14 : decode cX6_isThere 14 = .ok (.iconst 0, 1) := by decide +kernel
theorem dX6_isThere_15 : decode cX6_isThere 15 = .ok (.ireturn, 1) := by decide +kernel
theorem dX6_hasBytes_0 : decode cX6_hasBytes 0 = .ok (.iload_n 2, 1) := by decide +kernel
theorem dX6_hasBytes_1 : decode cX6_hasBytes 1 = .ok (.ifCond .lt 33, 3) := by decide +kernel
theorem dX6_hasBytes_4 : decode cX6_hasBytes 4 = .ok (.iload_n 3, 1) := by decide +kernel
theorem dX6_hasBytes_5 : decode cX6_hasBytes 5 = .ok (.ifCond .lt 29, 3) := by decide +kernel
theorem dX6_hasBytes_8 : decode cX6_hasBytes 8 = .ok (.iload_n 2, 1) := by decide +kernel
theorem dX6_hasBytes_9 : decode cX6_hasBytes 9 = .ok (.aload_n 0, 1) := by decide +kernel
theorem dX6_hasBytes_10 : decode cX6_hasBytes 10 = .ok (.getfield 15, 3) := by decide +kernel
theorem dX6_hasBytes_13 : decode cX6_hasBytes 13 = .ok (.iload_n 1, 1) := by decide +kernel
theorem dX6_hasBytes_14 : decode cX6_hasBytes 14 = .ok (.iaload, 1) := by decide +kernel
theorem dX6_hasBytes_15 : decode cX6_hasBytes 15 = .ok (.if_icmp .gt 19, 3) := by decide +kernel
theorem dX6_hasBytes_18 : decode cX6_hasBytes 18 = .ok (.iload_n 3, 1) := by decide +kernel
theorem dX6_hasBytes_19 : decode cX6_hasBytes 19 = .ok (.aload_n 0, 1) := by decide +kernel
theorem dX6_hasBytes_20 : decode cX6_hasBytes 20 = .ok (.getfield 15, 3) := by decide +kernel
theorem dX6_hasBytes_23 : decode cX6_hasBytes 23 = .ok (.iload_n 1, 1) := by decide +kernel
theorem dX6_hasBytes_24 : decode cX6_hasBytes 24 = .ok (.iaload, 1) := by decide +kernel
theorem dX6_hasBytes_25 : decode cX6_hasBytes 25 = .ok (.iload_n 2, 1) := by decide +kernel
theorem dX6_hasBytes_26 : decode cX6_hasBytes 26 = .ok (.isub, 1) := by decide +kernel
theorem dX6_hasBytes_27 : decode cX6_hasBytes 27 = .ok (.if_icmp .gt 7, 3) := by decide +kernel
theorem dX6_hasBytes_30 : decode cX6_hasBytes 30 = .ok (.iconst 1, 1) := by decide +kernel
theorem dX6_hasBytes_31 : decode cX6_hasBytes 31 = .ok (.goto 4, 3) := by decide +kernel
theorem dX6_hasBytes_34 : decode cX6_hasBytes 34 = .ok (.iconst 0, 1) := by decide +kernel
theorem dX6_hasBytes_35 : decode cX6_hasBytes 35 = .ok (.ireturn, 1) := by decide +kernel
theorem dX6_sizeOf_0 : decode cX6_sizeOf 0 = .ok (.aload_n 0, 1) := by decide +kernel
theorem dX6_sizeOf_1 : decode cX6_sizeOf 1 = .ok (.getfield 15, 3) := by decide +kernel
theorem dX6_sizeOf_4 : decode cX6_sizeOf 4 = .ok (.iload_n 1, 1) := by decide +kernel
theorem dX6_sizeOf_5 : decode cX6_sizeOf 5 = .ok (.iaload, 1) := by decide +kernel
theorem dX6_sizeOf_6 : decode cX6_sizeOf 6 = .ok (.ireturn, 1) := by decide +kernel
theorem dX6_weightOf_0 : decode cX6_weightOf 0 = .ok (.aload_n 0, 1) := by decide +kernel
theorem dX6_weightOf_1 : decode cX6_weightOf 1 = .ok (.getfield 19, 3) := by decide +kernel
theorem dX6_weightOf_4 : decode cX6_weightOf 4 = .ok (.iload_n 1, 1) := by decide +kernel
theorem dX6_weightOf_5 : decode cX6_weightOf 5 = .ok (.iaload, 1) := by decide +kernel
theorem dX6_weightOf_6 : decode cX6_weightOf 6 = .ok (.ireturn, 1) := by decide +kernel
theorem dX6_growthAt_0 : decode cX6_growthAt 0 = .ok (.iload_n 2, 1) := by decide +kernel
theorem dX6_growthAt_1 : decode cX6_growthAt 1 = .ok (.aload_n 0, 1) := by decide +kernel
theorem dX6_growthAt_2 : decode cX6_growthAt 2 = .ok (.getfield 15, 3) := by decide +kernel
theorem dX6_growthAt_5 : decode cX6_growthAt 5 = .ok (.iload_n 1, 1) := by decide +kernel
theorem dX6_growthAt_6 : decode cX6_growthAt 6 = .ok (.iaload, 1) := by decide +kernel
theorem dX6_growthAt_7 : decode cX6_growthAt 7 = .ok (.if_icmp .ge 17, 3) := by decide +kernel
theorem dX6_growthAt_10 : decode cX6_growthAt 10 = .ok (.aload_n 0, 1) := by decide +kernel
theorem dX6_growthAt_11 : decode cX6_growthAt 11 = .ok (.getfield 9, 3) := by decide +kernel
theorem dX6_growthAt_14 : decode cX6_growthAt 14 = .ok (.iload_n 1, 1) := by decide +kernel
theorem dX6_growthAt_15 : decode cX6_growthAt 15 = .ok (.bipush 16, 2) := by decide +kernel
theorem dX6_growthAt_17 : decode cX6_growthAt 17 = .ok (.imul, 1) := by decide +kernel
theorem dX6_growthAt_18 : decode cX6_growthAt 18 = .ok (.iload_n 2, 1) := by decide +kernel
theorem dX6_growthAt_19 : decode cX6_growthAt 19 = .ok (.iadd, 1) := by decide +kernel
theorem dX6_growthAt_20 : decode cX6_growthAt 20 = .ok (.baload, 1) := by decide +kernel
theorem dX6_growthAt_21 : decode cX6_growthAt 21 = .ok (.goto 4, 3) := by decide +kernel
theorem dX6_growthAt_24 : decode cX6_growthAt 24 = .ok (.iconst 0, 1) := by decide +kernel
theorem dX6_growthAt_25 : decode cX6_growthAt 25 = .ok (.ireturn, 1) := by decide +kernel
theorem dX6_begin_0 : decode cX6_begin 0 = .ok (.iconst 0, 1) := by decide +kernel
theorem dX6_begin_1 : decode cX6_begin 1 = .ok (.istore_n 3, 1) := by decide +kernel
theorem dX6_begin_2 : decode cX6_begin 2 = .ok (.iload_n 3, 1) := by decide +kernel
theorem dX6_begin_3 : decode cX6_begin 3 = .ok (.bipush 16, 2) := by decide +kernel
theorem dX6_begin_5 : decode cX6_begin 5 = .ok (.if_icmp .ge 21, 3) := by decide +kernel
theorem dX6_begin_8 : decode cX6_begin 8 = .ok (.aload_n 0, 1) := by decide +kernel
theorem dX6_begin_9 : decode cX6_begin 9 = .ok (.getfield 9, 3) := by decide +kernel
theorem dX6_begin_12 : decode cX6_begin 12 = .ok (.iload_n 1, 1) := by decide +kernel
theorem dX6_begin_13 : decode cX6_begin 13 = .ok (.bipush 16, 2) := by decide +kernel
theorem dX6_begin_15 : decode cX6_begin 15 = .ok (.imul, 1) := by decide +kernel
theorem dX6_begin_16 : decode cX6_begin 16 = .ok (.iload_n 3, 1) := by decide +kernel
theorem dX6_begin_17 : decode cX6_begin 17 = .ok (.iadd, 1) := by decide +kernel
theorem dX6_begin_18 : decode cX6_begin 18 = .ok (.iconst 0, 1) := by decide +kernel
theorem dX6_begin_19 : decode cX6_begin 19 = .ok (.bastore, 1) := by decide +kernel
theorem dX6_begin_20 : decode cX6_begin 20 = .ok (.iinc 3 1, 3) := by decide +kernel
theorem dX6_begin_23 : decode cX6_begin 23 = .ok (.goto (-21), 3) := by decide +kernel
theorem dX6_begin_26 : decode cX6_begin 26 = .ok (.aload_n 0, 1) := by decide +kernel
theorem dX6_begin_27 : decode cX6_begin 27 = .ok (.getfield 15, 3) := by decide +kernel
theorem dX6_begin_30 : decode cX6_begin 30 = .ok (.iload_n 1, 1) := by decide +kernel
theorem dX6_begin_31 : decode cX6_begin 31 = .ok (.iload_n 2, 1) := by decide +kernel
theorem dX6_begin_32 : decode cX6_begin 32 = .ok (.iastore, 1) := by decide +kernel
theorem dX6_begin_33 : decode cX6_begin 33 = .ok (.return_, 1) := by decide +kernel
theorem dX6_end_0 : decode cX6_end 0 = .ok (.aload_n 0, 1) := by decide +kernel
theorem dX6_end_1 : decode cX6_end 1 = .ok (.getfield 15, 3) := by decide +kernel
theorem dX6_end_4 : decode cX6_end 4 = .ok (.iload_n 1, 1) := by decide +kernel
theorem dX6_end_5 : decode cX6_end 5 = .ok (.iconst (-1), 1) := by decide +kernel
theorem dX6_end_6 : decode cX6_end 6 = .ok (.iastore, 1) := by decide +kernel
theorem dX6_end_7 : decode cX6_end 7 = .ok (.return_, 1) := by decide +kernel
theorem dX6_replace_0 : decode cX6_replace 0 = .ok (.aload_n 0, 1) := by decide +kernel
theorem dX6_replace_1 : decode cX6_replace 1 = .ok (.getfield 9, 3) := by decide +kernel
theorem dX6_replace_4 : decode cX6_replace 4 = .ok (.iload_n 1, 1) := by decide +kernel
theorem dX6_replace_5 : decode cX6_replace 5 = .ok (.bipush 16, 2) := by decide +kernel
theorem dX6_replace_7 : decode cX6_replace 7 = .ok (.imul, 1) := by decide +kernel
theorem dX6_replace_8 : decode cX6_replace 8 = .ok (.iload_n 2, 1) := by decide +kernel
theorem dX6_replace_9 : decode cX6_replace 9 = .ok (.iadd, 1) := by decide +kernel
theorem dX6_replace_10 : decode cX6_replace 10 = .ok (.baload, 1) := by decide +kernel
theorem dX6_replace_11 : decode cX6_replace 11 = .ok (.istore 4, 2) := by decide +kernel
theorem dX6_replace_13 : decode cX6_replace 13 = .ok (.aload_n 0, 1) := by decide +kernel
theorem dX6_replace_14 : decode cX6_replace 14 = .ok (.getfield 9, 3) := by decide +kernel
theorem dX6_replace_17 : decode cX6_replace 17 = .ok (.iload_n 1, 1) := by decide +kernel
theorem dX6_replace_18 : decode cX6_replace 18 = .ok (.bipush 16, 2) := by decide +kernel
theorem dX6_replace_20 : decode cX6_replace 20 = .ok (.imul, 1) := by decide +kernel
theorem dX6_replace_21 : decode cX6_replace 21 = .ok (.iload_n 2, 1) := by decide +kernel
theorem dX6_replace_22 : decode cX6_replace 22 = .ok (.iadd, 1) := by decide +kernel
theorem dX6_replace_23 : decode cX6_replace 23 = .ok (.iload_n 3, 1) := by decide +kernel
theorem dX6_replace_24 : decode cX6_replace 24 = .ok (.bastore, 1) := by decide +kernel
theorem dX6_replace_25 : decode cX6_replace 25 = .ok (.iload 4, 2) := by decide +kernel
theorem dX6_replace_27 : decode cX6_replace 27 = .ok (.ireturn, 1) := by decide +kernel
theorem dX6_transfer_0 : decode cX6_transfer 0 = .ok (.aload_n 0, 1) := by decide +kernel
theorem dX6_transfer_1 : decode cX6_transfer 1 = .ok (.getfield 9, 3) := by decide +kernel
theorem dX6_transfer_4 : decode cX6_transfer 4 = .ok (.iload_n 1, 1) := by decide +kernel
theorem dX6_transfer_5 : decode cX6_transfer 5 = .ok (.bipush 16, 2) := by decide +kernel
theorem dX6_transfer_7 : decode cX6_transfer 7 = .ok (.imul, 1) := by decide +kernel
theorem dX6_transfer_8 : decode cX6_transfer 8 = .ok (.iload_n 2, 1) := by decide +kernel
theorem dX6_transfer_9 : decode cX6_transfer 9 = .ok (.iadd, 1) := by decide +kernel
theorem dX6_transfer_10 : decode cX6_transfer 10 = .ok (.aload_n 0, 1) := by decide +kernel
theorem dX6_transfer_11 : decode cX6_transfer 11 = .ok (.getfield 9, 3) := by decide +kernel
theorem dX6_transfer_14 : decode cX6_transfer 14 = .ok (.iload_n 3, 1) := by decide +kernel
theorem dX6_transfer_15 : decode cX6_transfer 15 = .ok (.bipush 16, 2) := by decide +kernel
theorem dX6_transfer_17 : decode cX6_transfer 17 = .ok (.imul, 1) := by decide +kernel
theorem dX6_transfer_18 : decode cX6_transfer 18 = .ok (.iload 4, 2) := by decide +kernel
theorem dX6_transfer_20 : decode cX6_transfer 20 = .ok (.iadd, 1) := by decide +kernel
theorem dX6_transfer_21 : decode cX6_transfer 21 = .ok (.iload 5, 2) := by decide +kernel
theorem dX6_transfer_23 : decode cX6_transfer 23 = .ok (.invokestatic 28, 3) := by decide +kernel
theorem dX6_transfer_26 : decode cX6_transfer 26 = .ok (.return_, 1) := by decide +kernel
theorem dX6_reweigh_0 : decode cX6_reweigh 0 = .ok (.aload_n 0, 1) := by decide +kernel
theorem dX6_reweigh_1 : decode cX6_reweigh 1 = .ok (.getfield 19, 3) := by decide +kernel
theorem dX6_reweigh_4 : decode cX6_reweigh 4 = .ok (.iload_n 1, 1) := by decide +kernel
theorem dX6_reweigh_5 : decode cX6_reweigh 5 = .ok (.iaload, 1) := by decide +kernel
theorem dX6_reweigh_6 : decode cX6_reweigh 6 = .ok (.istore_n 3, 1) := by decide +kernel
theorem dX6_reweigh_7 : decode cX6_reweigh 7 = .ok (.aload_n 0, 1) := by decide +kernel
theorem dX6_reweigh_8 : decode cX6_reweigh 8 = .ok (.getfield 19, 3) := by decide +kernel
theorem dX6_reweigh_11 : decode cX6_reweigh 11 = .ok (.iload_n 1, 1) := by decide +kernel
theorem dX6_reweigh_12 : decode cX6_reweigh 12 = .ok (.iload_n 2, 1) := by decide +kernel
theorem dX6_reweigh_13 : decode cX6_reweigh 13 = .ok (.iastore, 1) := by decide +kernel
theorem dX6_reweigh_14 : decode cX6_reweigh 14 = .ok (.iload_n 3, 1) := by decide +kernel
theorem dX6_reweigh_15 : decode cX6_reweigh 15 = .ok (.ireturn, 1) := by decide +kernel
theorem dX6_sumOf_0 : decode cX6_sumOf 0 = .ok (.iconst 0, 1) := by decide +kernel
theorem dX6_sumOf_1 : decode cX6_sumOf 1 = .ok (.istore_n 2, 1) := by decide +kernel
theorem dX6_sumOf_2 : decode cX6_sumOf 2 = .ok (.iconst 0, 1) := by decide +kernel
theorem dX6_sumOf_3 : decode cX6_sumOf 3 = .ok (.istore_n 3, 1) := by decide +kernel
theorem dX6_sumOf_4 : decode cX6_sumOf 4 = .ok (.iload_n 3, 1) := by decide +kernel
theorem dX6_sumOf_5 : decode cX6_sumOf 5 = .ok (.aload_n 0, 1) := by decide +kernel
theorem dX6_sumOf_6 : decode cX6_sumOf 6 = .ok (.getfield 15, 3) := by decide +kernel
theorem dX6_sumOf_9 : decode cX6_sumOf 9 = .ok (.iload_n 1, 1) := by decide +kernel
theorem dX6_sumOf_10 : decode cX6_sumOf 10 = .ok (.iaload, 1) := by decide +kernel
theorem dX6_sumOf_11 : decode cX6_sumOf 11 = .ok (.if_icmp .ge 23, 3) := by decide +kernel
theorem dX6_sumOf_14 : decode cX6_sumOf 14 = .ok (.iload_n 2, 1) := by decide +kernel
theorem dX6_sumOf_15 : decode cX6_sumOf 15 = .ok (.aload_n 0, 1) := by decide +kernel
theorem dX6_sumOf_16 : decode cX6_sumOf 16 = .ok (.getfield 9, 3) := by decide +kernel
theorem dX6_sumOf_19 : decode cX6_sumOf 19 = .ok (.iload_n 1, 1) := by decide +kernel
theorem dX6_sumOf_20 : decode cX6_sumOf 20 = .ok (.bipush 16, 2) := by decide +kernel
theorem dX6_sumOf_22 : decode cX6_sumOf 22 = .ok (.imul, 1) := by decide +kernel
theorem dX6_sumOf_23 : decode cX6_sumOf 23 = .ok (.iload_n 3, 1) := by decide +kernel
theorem dX6_sumOf_24 : decode cX6_sumOf 24 = .ok (.iadd, 1) := by decide +kernel
theorem dX6_sumOf_25 : decode cX6_sumOf 25 = .ok (.baload, 1) := by decide +kernel
theorem dX6_sumOf_26 : decode cX6_sumOf 26 = .ok (.iadd, 1) := by decide +kernel
theorem dX6_sumOf_27 : decode cX6_sumOf 27 = .ok (.istore_n 2, 1) := by decide +kernel
theorem dX6_sumOf_28 : decode cX6_sumOf 28 = .ok (.iinc 3 1, 3) := by decide +kernel
theorem dX6_sumOf_31 : decode cX6_sumOf 31 = .ok (.goto (-27), 3) := by decide +kernel
theorem dX6_sumOf_34 : decode cX6_sumOf 34 = .ok (.iload_n 2, 1) := by decide +kernel
theorem dX6_sumOf_35 : decode cX6_sumOf 35 = .ok (.ireturn, 1) := by decide +kernel
theorem dX6_mixInto_0 : decode cX6_mixInto 0 = .ok (.iconst 0, 1) := by decide +kernel
theorem dX6_mixInto_1 : decode cX6_mixInto 1 = .ok (.istore_n 3, 1) := by decide +kernel
theorem dX6_mixInto_2 : decode cX6_mixInto 2 = .ok (.iload_n 3, 1) := by decide +kernel
theorem dX6_mixInto_3 : decode cX6_mixInto 3 = .ok (.iconst 4, 1) := by decide +kernel
theorem dX6_mixInto_4 : decode cX6_mixInto 4 = .ok (.if_icmp .ge 77, 3) := by decide +kernel
theorem dX6_mixInto_7 : decode cX6_mixInto 7 = .ok (.ldc2_w 34, 3) := by decide +kernel
theorem dX6_mixInto_10 : decode cX6_mixInto 10 = .ok (.lload_n 1, 1) := by decide +kernel
theorem dX6_mixInto_11 : decode cX6_mixInto 11 = .ok (.lmul, 1) := by decide +kernel
theorem dX6_mixInto_12 : decode cX6_mixInto 12 = .ok (.aload_n 0, 1) := by decide +kernel
theorem dX6_mixInto_13 : decode cX6_mixInto 13 = .ok (.getfield 19, 3) := by decide +kernel
theorem dX6_mixInto_16 : decode cX6_mixInto 16 = .ok (.iload_n 3, 1) := by decide +kernel
theorem dX6_mixInto_17 : decode cX6_mixInto 17 = .ok (.iaload, 1) := by decide +kernel
theorem dX6_mixInto_18 : decode cX6_mixInto 18 = .ok (.i2l, 1) := by decide +kernel
theorem dX6_mixInto_19 : decode cX6_mixInto 19 = .ok (.ladd, 1) := by decide +kernel
theorem dX6_mixInto_20 : decode cX6_mixInto 20 = .ok (.lstore_n 1, 1) := by decide +kernel
theorem dX6_mixInto_21 : decode cX6_mixInto 21 = .ok (.ldc2_w 34, 3) := by decide +kernel
theorem dX6_mixInto_24 : decode cX6_mixInto 24 = .ok (.lload_n 1, 1) := by decide +kernel
theorem dX6_mixInto_25 : decode cX6_mixInto 25 = .ok (.lmul, 1) := by decide +kernel
theorem dX6_mixInto_26 : decode cX6_mixInto 26 = .ok (.aload_n 0, 1) := by decide +kernel
theorem dX6_mixInto_27 : decode cX6_mixInto 27 = .ok (.getfield 15, 3) := by decide +kernel
theorem dX6_mixInto_30 : decode cX6_mixInto 30 = .ok (.iload_n 3, 1) := by decide +kernel
theorem dX6_mixInto_31 : decode cX6_mixInto 31 = .ok (.iaload, 1) := by decide +kernel
theorem dX6_mixInto_32 : decode cX6_mixInto 32 = .ok (.i2l, 1) := by decide +kernel
theorem dX6_mixInto_33 : decode cX6_mixInto 33 = .ok (.ladd, 1) := by decide +kernel
theorem dX6_mixInto_34 : decode cX6_mixInto 34 = .ok (.lstore_n 1, 1) := by decide +kernel
theorem dX6_mixInto_35 : decode cX6_mixInto 35 = .ok (.iconst 0, 1) := by decide +kernel
theorem dX6_mixInto_36 : decode cX6_mixInto 36 = .ok (.istore 4, 2) := by decide +kernel
theorem dX6_mixInto_38 : decode cX6_mixInto 38 = .ok (.iload 4, 2) := by decide +kernel
theorem dX6_mixInto_40 : decode cX6_mixInto 40 = .ok (.aload_n 0, 1) := by decide +kernel
theorem dX6_mixInto_41 : decode cX6_mixInto 41 = .ok (.getfield 15, 3) := by decide +kernel
theorem dX6_mixInto_44 : decode cX6_mixInto 44 = .ok (.iload_n 3, 1) := by decide +kernel
theorem dX6_mixInto_45 : decode cX6_mixInto 45 = .ok (.iaload, 1) := by decide +kernel
theorem dX6_mixInto_46 : decode cX6_mixInto 46 = .ok (.if_icmp .ge 29, 3) := by decide +kernel
theorem dX6_mixInto_49 : decode cX6_mixInto 49 = .ok (.ldc2_w 34, 3) := by decide +kernel
theorem dX6_mixInto_52 : decode cX6_mixInto 52 = .ok (.lload_n 1, 1) := by decide +kernel
theorem dX6_mixInto_53 : decode cX6_mixInto 53 = .ok (.lmul, 1) := by decide +kernel
theorem dX6_mixInto_54 : decode cX6_mixInto 54 = .ok (.aload_n 0, 1) := by decide +kernel
theorem dX6_mixInto_55 : decode cX6_mixInto 55 = .ok (.getfield 9, 3) := by decide +kernel
theorem dX6_mixInto_58 : decode cX6_mixInto 58 = .ok (.iload_n 3, 1) := by decide +kernel
theorem dX6_mixInto_59 : decode cX6_mixInto 59 = .ok (.bipush 16, 2) := by decide +kernel
theorem dX6_mixInto_61 : decode cX6_mixInto 61 = .ok (.imul, 1) := by decide +kernel
theorem dX6_mixInto_62 : decode cX6_mixInto 62 = .ok (.iload 4, 2) := by decide +kernel
theorem dX6_mixInto_64 : decode cX6_mixInto 64 = .ok (.iadd, 1) := by decide +kernel
theorem dX6_mixInto_65 : decode cX6_mixInto 65 = .ok (.baload, 1) := by decide +kernel
theorem dX6_mixInto_66 : decode cX6_mixInto 66 = .ok (.i2l, 1) := by decide +kernel
theorem dX6_mixInto_67 : decode cX6_mixInto 67 = .ok (.ladd, 1) := by decide +kernel
theorem dX6_mixInto_68 : decode cX6_mixInto 68 = .ok (.lstore_n 1, 1) := by decide +kernel
theorem dX6_mixInto_69 : decode cX6_mixInto 69 = .ok (.iinc 4 1, 3) := by decide +kernel
theorem dX6_mixInto_72 : decode cX6_mixInto 72 = .ok (.goto (-34), 3) := by decide +kernel
theorem dX6_mixInto_75 : decode cX6_mixInto 75 = .ok (.iinc 3 1, 3) := by decide +kernel
theorem dX6_mixInto_78 : decode cX6_mixInto 78 = .ok (.goto (-76), 3) := by decide +kernel
theorem dX6_mixInto_81 : decode cX6_mixInto 81 = .ok (.lload_n 1, 1) := by decide +kernel
theorem dX6_mixInto_82 : decode cX6_mixInto 82 = .ok (.lreturn, 1) := by decide +kernel
