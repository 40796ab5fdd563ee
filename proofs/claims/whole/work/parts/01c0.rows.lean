theorem dX0_dealt_0 : decode cX0_dealt 0 = .ok (.iload_n 0, 1) := by decide +kernel
theorem dX0_dealt_1 : decode cX0_dealt 1 = .ok (.iload_n 1, 1) := by decide +kernel
theorem dX0_dealt_2 : decode cX0_dealt 2 = .ok (.imul, 1) := by decide +kernel
theorem dX0_dealt_3 : decode cX0_dealt 3 = .ok (.iload_n 2, 1) := by decide +kernel
theorem dX0_dealt_4 : decode cX0_dealt 4 = .ok (.iadd, 1) := by decide +kernel
theorem dX0_dealt_5 : decode cX0_dealt 5 = .ok (.bipush 32, 2) := by decide +kernel
theorem dX0_dealt_7 : decode cX0_dealt 7 = .ok (.irem, 1) := by decide +kernel
theorem dX0_dealt_8 : decode cX0_dealt 8 = .ok (.ireturn, 1) := by decide +kernel
set_option maxRecDepth 20000 in
theorem ggX0_dealtHand_X0_dealt : GoodIn wsX0_dealtHand wsX0_dealt := goodIn_r _ [4] (by decide +kernel) (by decide +kernel)
set_option maxRecDepth 20000 in
theorem gX0_dealtHand_X0_dealt : GoodIn wsX0_dealtHand (va_wsS RX0 11 yX0_dealt wsX0_dealt) := goodIn_app (goodIn_of _ (by decide +kernel)) ggX0_dealtHand_X0_dealt
theorem dX0_dealtHand_0 : decode cX0_dealtHand 0 = .ok (.iconst 0, 1) := by decide +kernel
theorem dX0_dealtHand_1 : decode cX0_dealtHand 1 = .ok (.istore_n 3, 1) := by decide +kernel
theorem dX0_dealtHand_2 : decode cX0_dealtHand 2 = .ok (.iconst 0, 1) := by decide +kernel
theorem dX0_dealtHand_3 : decode cX0_dealtHand 3 = .ok (.istore 4, 2) := by decide +kernel
theorem dX0_dealtHand_5 : decode cX0_dealtHand 5 = .ok (.iload 4, 2) := by decide +kernel
theorem dX0_dealtHand_7 : decode cX0_dealtHand 7 = .ok (.iconst 4, 1) := by decide +kernel
theorem dX0_dealtHand_8 : decode cX0_dealtHand 8 = .ok (.if_icmp .ge 25, 3) := by decide +kernel
theorem dX0_dealtHand_11 : decode cX0_dealtHand 11 = .ok (.iload_n 3, 1) := by decide +kernel
theorem dX0_dealtHand_12 : decode cX0_dealtHand 12 = .ok (.iconst 1, 1) := by decide +kernel
theorem dX0_dealtHand_13 : decode cX0_dealtHand 13 = .ok (.iload_n 0, 1) := by decide +kernel
theorem dX0_dealtHand_14 : decode cX0_dealtHand 14 = .ok (.iconst 4, 1) := by decide +kernel
theorem dX0_dealtHand_15 : decode cX0_dealtHand 15 = .ok (.iload_n 1, 1) := by decide +kernel
theorem dX0_dealtHand_16 : decode cX0_dealtHand 16 = .ok (.imul, 1) := by decide +kernel
theorem dX0_dealtHand_17 : decode cX0_dealtHand 17 = .ok (.iload 4, 2) := by decide +kernel
theorem dX0_dealtHand_19 : decode cX0_dealtHand 19 = .ok (.iadd, 1) := by decide +kernel
theorem dX0_dealtHand_20 : decode cX0_dealtHand 20 = .ok (.iload_n 2, 1) := by decide +kernel
theorem dX0_dealtHand_21 : decode cX0_dealtHand 21 = .ok (.invokestatic 11, 3) := by decide +kernel
theorem dX0_dealtHand_24 : decode cX0_dealtHand 24 = .ok (.ishl, 1) := by decide +kernel
theorem dX0_dealtHand_25 : decode cX0_dealtHand 25 = .ok (.ior, 1) := by decide +kernel
theorem dX0_dealtHand_26 : decode cX0_dealtHand 26 = .ok (.istore_n 3, 1) := by decide +kernel
theorem dX0_dealtHand_27 : decode cX0_dealtHand 27 = .ok (.iinc 4 1, 3) := by decide +kernel
theorem dX0_dealtHand_30 : decode cX0_dealtHand 30 = .ok (.goto (-25), 3) := by decide +kernel
theorem dX0_dealtHand_33 : decode cX0_dealtHand 33 = .ok (.iload_n 3, 1) := by decide +kernel
theorem dX0_dealtHand_34 : decode cX0_dealtHand 34 = .ok (.ireturn, 1) := by decide +kernel
theorem dX0_suit_0 : decode cX0_suit 0 = .ok (.iload_n 0, 1) := by decide +kernel
theorem dX0_suit_1 : decode cX0_suit 1 = .ok (.bipush 8, 2) := by decide +kernel
theorem dX0_suit_3 : decode cX0_suit 3 = .ok (.idiv, 1) := by decide +kernel
theorem dX0_suit_4 : decode cX0_suit 4 = .ok (.ireturn, 1) := by decide +kernel
theorem dX0_suitSet_0 : decode cX0_suitSet 0 = .ok (.sipush 255, 3) := by decide +kernel
theorem dX0_suitSet_3 : decode cX0_suitSet 3 = .ok (.bipush 8, 2) := by decide +kernel
theorem dX0_suitSet_5 : decode cX0_suitSet 5 = .ok (.iload_n 0, 1) := by decide +kernel
theorem dX0_suitSet_6 : decode cX0_suitSet 6 = .ok (.imul, 1) := by decide +kernel
theorem dX0_suitSet_7 : decode cX0_suitSet 7 = .ok (.ishl, 1) := by decide +kernel
theorem dX0_suitSet_8 : decode cX0_suitSet 8 = .ok (.ireturn, 1) := by decide +kernel
set_option maxRecDepth 20000 in
theorem ggX0_beating_X0_suit : GoodIn wsX0_beating wsX0_suit := goodIn_r _ [4] (by decide +kernel) (by decide +kernel)
set_option maxRecDepth 20000 in
theorem gX0_beating_X0_suit : GoodIn wsX0_beating (va_wsS RX0 15 yX0_suit wsX0_suit) := goodIn_app (goodIn_of _ (by decide +kernel)) ggX0_beating_X0_suit
set_option maxRecDepth 20000 in
theorem ggX0_beating_X0_suitSet : GoodIn wsX0_beating wsX0_suitSet := goodIn_r _ [7] (by decide +kernel) (by decide +kernel)
set_option maxRecDepth 20000 in
theorem gX0_beating_X0_suitSet : GoodIn wsX0_beating (va_wsS RX0 19 yX0_suitSet wsX0_suitSet) := goodIn_app (goodIn_of _ (by decide +kernel)) ggX0_beating_X0_suitSet
theorem dX0_beating_0 : decode cX0_beating 0 = .ok (.iconst (-1), 1) := by decide +kernel
theorem dX0_beating_1 : decode cX0_beating 1 = .ok (.iload_n 1, 1) := by decide +kernel
theorem dX0_beating_2 : decode cX0_beating 2 = .ok (.ishl, 1) := by decide +kernel
theorem dX0_beating_3 : decode cX0_beating 3 = .ok (.iconst 1, 1) := by decide +kernel
theorem dX0_beating_4 : decode cX0_beating 4 = .ok (.ishl, 1) := by decide +kernel
theorem dX0_beating_5 : decode cX0_beating 5 = .ok (.istore_n 3, 1) := by decide +kernel
theorem dX0_beating_6 : decode cX0_beating 6 = .ok (.iload_n 1, 1) := by decide +kernel
theorem dX0_beating_7 : decode cX0_beating 7 = .ok (.invokestatic 15, 3) := by decide +kernel
theorem dX0_beating_10 : decode cX0_beating 10 = .ok (.invokestatic 19, 3) := by decide +kernel
theorem dX0_beating_13 : decode cX0_beating 13 = .ok (.iload_n 3, 1) := by decide +kernel
theorem dX0_beating_14 : decode cX0_beating 14 = .ok (.iand, 1) := by decide +kernel
theorem dX0_beating_15 : decode cX0_beating 15 = .ok (.istore 4, 2) := by decide +kernel
theorem dX0_beating_17 : decode cX0_beating 17 = .ok (.iload_n 1, 1) := by decide +kernel
theorem dX0_beating_18 : decode cX0_beating 18 = .ok (.invokestatic 15, 3) := by decide +kernel
theorem dX0_beating_21 : decode cX0_beating 21 = .ok (.iload_n 2, 1) := by decide +kernel
theorem dX0_beating_22 : decode cX0_beating 22 = .ok (.if_icmp .eq 12, 3) := by decide +kernel
theorem dX0_beating_25 : decode cX0_beating 25 = .ok (.iload 4, 2) := by decide +kernel
theorem dX0_beating_27 : decode cX0_beating 27 = .ok (.iload_n 2, 1) := by decide +kernel
theorem dX0_beating_28 : decode cX0_beating 28 = .ok (.invokestatic 19, 3) := by decide +kernel
theorem dX0_beating_31 : decode cX0_beating 31 = .ok (.ior, 1) := by decide +kernel
theorem dX0_beating_32 : decode cX0_beating 32 = .ok (.istore 4, 2) := by decide +kernel
theorem dX0_beating_34 : decode cX0_beating 34 = .ok (.iload_n 0, 1) := by decide +kernel
theorem dX0_beating_35 : decode cX0_beating 35 = .ok (.iload 4, 2) := by decide +kernel
theorem dX0_beating_37 : decode cX0_beating 37 = .ok (.iand, 1) := by decide +kernel
theorem dX0_beating_38 : decode cX0_beating 38 = .ok (.ireturn, 1) := by decide +kernel
set_option maxRecDepth 20000 in
theorem ggX0_lowest_J6_bitCount_0f7a4 : GoodIn wsX0_lowest wsJ6_bitCount_0f7a4 := goodIn_r _ [5, 6, 7, 8] (by decide +kernel) (by decide +kernel)
set_option maxRecDepth 20000 in
theorem gX0_lowest_J6_bitCount_0f7a4 : GoodIn wsX0_lowest (va_wsS RX0 23 yJ6_bitCount_0f7a4 wsJ6_bitCount_0f7a4) := goodIn_app (goodIn_of _ (by decide +kernel)) ggX0_lowest_J6_bitCount_0f7a4
theorem dX0_lowest_0 : decode cX0_lowest 0 = .ok (.iconst 0, 1) := by decide +kernel
theorem dX0_lowest_1 : decode cX0_lowest 1 = .ok (.istore_n 1, 1) := by decide +kernel
theorem dX0_lowest_2 : decode cX0_lowest 2 = .ok (.iload_n 1, 1) := by decide +kernel
theorem dX0_lowest_3 : decode cX0_lowest 3 = .ok (.bipush 8, 2) := by decide +kernel
theorem dX0_lowest_5 : decode cX0_lowest 5 = .ok (.if_icmp .ge 30, 3) := by decide +kernel
theorem dX0_lowest_8 : decode cX0_lowest 8 = .ok (.iload_n 0, 1) := by decide +kernel
theorem dX0_lowest_9 : decode cX0_lowest 9 = .ok (.ldc 22, 2) := by decide +kernel
theorem dX0_lowest_11 : decode cX0_lowest 11 = .ok (.iload_n 1, 1) := by decide +kernel
theorem dX0_lowest_12 : decode cX0_lowest 12 = .ok (.ishl, 1) := by decide +kernel
theorem dX0_lowest_13 : decode cX0_lowest 13 = .ok (.iand, 1) := by decide +kernel
theorem dX0_lowest_14 : decode cX0_lowest 14 = .ok (.istore_n 2, 1) := by decide +kernel
theorem dX0_lowest_15 : decode cX0_lowest 15 = .ok (.iload_n 2, 1) := by decide +kernel
theorem dX0_lowest_16 : decode cX0_lowest 16 = .ok (.ifCond .eq 13, 3) := by decide +kernel
theorem dX0_lowest_19 : decode cX0_lowest 19 = .ok (.iload_n 2, 1) := by decide +kernel
theorem dX0_lowest_20 : decode cX0_lowest 20 = .ok (.iload_n 2, 1) := by decide +kernel
theorem dX0_lowest_21 : decode cX0_lowest 21 = .ok (.ineg, 1) := by decide +kernel
theorem dX0_lowest_22 : decode cX0_lowest 22 = .ok (.iand, 1) := by decide +kernel
theorem dX0_lowest_23 : decode cX0_lowest 23 = .ok (.iconst 1, 1) := by decide +kernel
theorem dX0_lowest_24 : decode cX0_lowest 24 = .ok (.isub, 1) := by decide +kernel
theorem dX0_lowest_25 : decode cX0_lowest 25 = .ok (.invokestatic 23, 3) := by decide +kernel
theorem dX0_lowest_28 : decode cX0_lowest 28 = .ok (.ireturn, 1) := by decide +kernel
theorem dX0_lowest_29 : decode cX0_lowest 29 = .ok (.iinc 1 1, 3) := by decide +kernel
theorem dX0_lowest_32 : decode cX0_lowest 32 = .ok (.goto (-30), 3) := by decide +kernel
theorem dX0_lowest_35 : decode cX0_lowest 35 = .ok (.iconst (-1), 1) := by decide +kernel
theorem dX0_lowest_36 : decode cX0_lowest 36 = .ok (.ireturn, 1) := by decide +kernel
set_option maxRecDepth 20000 in
theorem ggX0_highest_J6_bitCount_0f7a4 : GoodIn wsX0_highest wsJ6_bitCount_0f7a4 := goodIn_r _ [5, 6, 7, 8] (by decide +kernel) (by decide +kernel)
set_option maxRecDepth 20000 in
theorem gX0_highest_J6_bitCount_0f7a4 : GoodIn wsX0_highest (va_wsS RX0 23 yJ6_bitCount_0f7a4 wsJ6_bitCount_0f7a4) := goodIn_app (goodIn_of _ (by decide +kernel)) ggX0_highest_J6_bitCount_0f7a4
theorem dX0_highest_0 : decode cX0_highest 0 = .ok (.bipush 7, 2) := by decide +kernel
theorem dX0_highest_2 : decode cX0_highest 2 = .ok (.istore_n 1, 1) := by decide +kernel
theorem dX0_highest_3 : decode cX0_highest 3 = .ok (.iload_n 1, 1) := by decide +kernel
theorem dX0_highest_4 : decode cX0_highest 4 = .ok (.ifCond .lt 30, 3) := by decide +kernel
theorem dX0_highest_7 : decode cX0_highest 7 = .ok (.iload_n 0, 1) := by decide +kernel
theorem dX0_highest_8 : decode cX0_highest 8 = .ok (.ldc 22, 2) := by decide +kernel
theorem dX0_highest_10 : decode cX0_highest 10 = .ok (.iload_n 1, 1) := by decide +kernel
theorem dX0_highest_11 : decode cX0_highest 11 = .ok (.ishl, 1) := by decide +kernel
theorem dX0_highest_12 : decode cX0_highest 12 = .ok (.iand, 1) := by decide +kernel
theorem dX0_highest_13 : decode cX0_highest 13 = .ok (.istore_n 2, 1) := by decide +kernel
theorem dX0_highest_14 : decode cX0_highest 14 = .ok (.iload_n 2, 1) := by decide +kernel
theorem dX0_highest_15 : decode cX0_highest 15 = .ok (.ifCond .eq 13, 3) := by decide +kernel
theorem dX0_highest_18 : decode cX0_highest 18 = .ok (.iload_n 2, 1) := by decide +kernel
theorem dX0_highest_19 : decode cX0_highest 19 = .ok (.iload_n 2, 1) := by decide +kernel
theorem dX0_highest_20 : decode cX0_highest 20 = .ok (.ineg, 1) := by decide +kernel
theorem dX0_highest_21 : decode cX0_highest 21 = .ok (.iand, 1) := by decide +kernel
theorem dX0_highest_22 : decode cX0_highest 22 = .ok (.iconst 1, 1) := by decide +kernel
theorem dX0_highest_23 : decode cX0_highest 23 = .ok (.isub, 1) := by decide +kernel
theorem dX0_highest_24 : decode cX0_highest 24 = .ok (.invokestatic 23, 3) := by decide +kernel
theorem dX0_highest_27 : decode cX0_highest 27 = .ok (.ireturn, 1) := by decide +kernel
theorem dX0_highest_28 : decode cX0_highest 28 = .ok (.iinc 1 (-1), 3) := by decide +kernel
theorem dX0_highest_31 : decode cX0_highest 31 = .ok (.goto (-28), 3) := by decide +kernel
theorem dX0_highest_34 : decode cX0_highest 34 = .ok (.iconst (-1), 1) := by decide +kernel
theorem dX0_highest_35 : decode cX0_highest 35 = .ok (.ireturn, 1) := by decide +kernel
theorem dX1_init_0 : decode cX1_init 0 = .ok (.aload_n 0, 1) := by decide +kernel
theorem dX1_init_1 : decode cX1_init 1 = .ok (.invokespecial 3, 3) := by decide +kernel
theorem dX1_init_4 : decode cX1_init 4 = .ok (.aload_n 0, 1) := by decide +kernel
theorem dX1_init_5 : decode cX1_init 5 = .ok (.iconst 2, 1) := by decide +kernel
theorem dX1_init_6 : decode cX1_init 6 = .ok (.newarray .int, 2) := by decide +kernel
theorem dX1_init_8 : decode cX1_init 8 = .ok (.putfield 9, 3) := by decide +kernel
theorem dX1_init_11 : decode cX1_init 11 = .ok (.aload_n 0, 1) := by decide +kernel
theorem dX1_init_12 : decode cX1_init 12 = .ok (.iconst 4, 1) := by decide +kernel
theorem dX1_init_13 : decode cX1_init 13 = .ok (.newarray .int, 2) := by decide +kernel
theorem dX1_init_15 : decode cX1_init 15 = .ok (.putfield 15, 3) := by decide +kernel
theorem dX1_init_18 : decode cX1_init 18 = .ok (.aload_n 0, 1) := by decide +kernel
theorem dX1_init_19 : decode cX1_init 19 = .ok (.iconst 4, 1) := by decide +kernel
theorem dX1_init_20 : decode cX1_init 20 = .ok (.newarray .int, 2) := by decide +kernel
theorem dX1_init_22 : decode cX1_init 22 = .ok (.putfield 18, 3) := by decide +kernel
theorem dX1_init_25 : decode cX1_init 25 = .ok (.aload_n 0, 1) := by decide +kernel
theorem dX1_init_26 : decode cX1_init 26 = .ok (.iconst 4, 1) := by decide +kernel
theorem dX1_init_27 : decode cX1_init 27 = .ok (.newarray .int, 2) := by decide +kernel
theorem dX1_init_29 : decode cX1_init 29 = .ok (.putfield 21, 3) := by decide +kernel
theorem dX1_init_32 : decode cX1_init 32 = .ok (.aload_n 0, 1) := by decide +kernel
theorem dX1_init_33 : decode cX1_init 33 = .ok (.iconst 4, 1) := by decide +kernel
theorem dX1_init_34 : decode cX1_init 34 = .ok (.newarray .int, 2) := by decide +kernel
theorem dX1_init_36 : decode cX1_init 36 = .ok (.putfield 24, 3) := by decide +kernel
theorem dX1_init_39 : decode cX1_init 39 = .ok (.return_, 1) := by decide +kernel
set_option maxRecDepth 20000 in
theorem ggX1_play_X4_hand : GoodIn wsX1_play wsX4_hand := goodIn_r _ [8, 9, 10, 11, 12, 13, 14, 15, 16, 17, 81, 82, 83, 84, 85, 86, 87, 88] (by decide +kernel) (by decide +kernel)
set_option maxRecDepth 20000 in
theorem gX1_play_X4_hand : GoodIn wsX1_play (wsV RX1 27 RX4 yX4_hand wsX4_hand) := goodIn_app (goodIn_of _ (by decide +kernel)) ggX1_play_X4_hand
set_option maxRecDepth 20000 in
theorem ggX1_play_X1_playTrick : GoodIn wsX1_play wsX1_playTrick := goodIn_r _ [22, 23, 24, 1, 2, 25, 26, 27, 3, 28, 29, 30, 7, 31, 10, 32, 33, 34, 35, 36, 37, 13, 38, 39, 40, 41, 42, 43, 44, 45, 46, 47, 48, 49, 50, 51, 52, 53, 54, 55, 56, 57, 58, 59, 60, 61, 62, 63, 64, 65, 66, 67, 68, 69, 70, 71, 72, 73, 74, 75, 81, 82, 83, 84, 85, 86, 87, 88, 76, 77, 78, 79, 80] (by decide +kernel) (by decide +kernel)
set_option maxRecDepth 20000 in
theorem gX1_play_X1_playTrick : GoodIn wsX1_play (wsV RX1 37 RX1 yX1_playTrick wsX1_playTrick) := goodIn_app (goodIn_of _ (by decide +kernel)) ggX1_play_X1_playTrick
theorem dX1_play_0 : decode cX1_play 0 = .ok (.aload_n 0, 1) := by decide +kernel
theorem dX1_play_1 : decode cX1_play 1 = .ok (.getfield 9, 3) := by decide +kernel
theorem dX1_play_4 : decode cX1_play 4 = .ok (.iconst 0, 1) := by decide +kernel
theorem dX1_play_5 : decode cX1_play 5 = .ok (.aload_n 1, 1) := by decide +kernel
theorem dX1_play_6 : decode cX1_play 6 = .ok (.iconst 0, 1) := by decide +kernel
theorem dX1_play_7 : decode cX1_play 7 = .ok (.invokevirtual 27, 3) := by decide +kernel
theorem dX1_play_10 : decode cX1_play 10 = .ok (.iastore, 1) := by decide +kernel
theorem dX1_play_11 : decode cX1_play 11 = .ok (.aload_n 0, 1) := by decide +kernel
theorem dX1_play_12 : decode cX1_play 12 = .ok (.getfield 9, 3) := by decide +kernel
theorem dX1_play_15 : decode cX1_play 15 = .ok (.iconst 1, 1) := by decide +kernel
theorem dX1_play_16 : decode cX1_play 16 = .ok (.aload_n 1, 1) := by decide +kernel
theorem dX1_play_17 : decode cX1_play 17 = .ok (.iconst 1, 1) := by decide +kernel
theorem dX1_play_18 : decode cX1_play 18 = .ok (.invokevirtual 27, 3) := by decide +kernel
theorem dX1_play_21 : decode cX1_play 21 = .ok (.iastore, 1) := by decide +kernel
theorem dX1_play_22 : decode cX1_play 22 = .ok (.aload_n 1, 1) := by decide +kernel
theorem dX1_play_23 : decode cX1_play 23 = .ok (.getfield 33, 3) := by decide +kernel
theorem dX1_play_26 : decode cX1_play 26 = .ok (.iconst 2, 1) := by decide +kernel
theorem dX1_play_27 : decode cX1_play 27 = .ok (.irem, 1) := by decide +kernel
theorem dX1_play_28 : decode cX1_play 28 = .ok (.istore_n 2, 1) := by decide +kernel
theorem dX1_play_29 : decode cX1_play 29 = .ok (.iconst 0, 1) := by decide +kernel
theorem dX1_play_30 : decode cX1_play 30 = .ok (.istore_n 3, 1) := by decide +kernel
theorem dX1_play_31 : decode cX1_play 31 = .ok (.iload_n 3, 1) := by decide +kernel
theorem dX1_play_32 : decode cX1_play 32 = .ok (.iconst 4, 1) := by decide +kernel
theorem dX1_play_33 : decode cX1_play 33 = .ok (.if_icmp .ge 23, 3) := by decide +kernel
theorem dX1_play_36 : decode cX1_play 36 = .ok (.aload_n 0, 1) := by decide +kernel
theorem dX1_play_37 : decode cX1_play 37 = .ok (.aload_n 1, 1) := by decide +kernel
theorem dX1_play_38 : decode cX1_play 38 = .ok (.iload_n 3, 1) := by decide +kernel
theorem dX1_play_39 : decode cX1_play 39 = .ok (.iload_n 2, 1) := by decide +kernel
theorem dX1_play_40 : decode cX1_play 40 = .ok (.invokevirtual 37, 3) := by decide +kernel
theorem dX1_play_43 : decode cX1_play 43 = .ok (.aload_n 0, 1) := by decide +kernel
theorem dX1_play_44 : decode cX1_play 44 = .ok (.getfield 24, 3) := by decide +kernel
theorem dX1_play_47 : decode cX1_play 47 = .ok (.iload_n 3, 1) := by decide +kernel
theorem dX1_play_48 : decode cX1_play 48 = .ok (.iaload, 1) := by decide +kernel
theorem dX1_play_49 : decode cX1_play 49 = .ok (.istore_n 2, 1) := by decide +kernel
theorem dX1_play_50 : decode cX1_play 50 = .ok (.iinc 3 1, 3) := by decide +kernel
theorem dX1_play_53 : decode cX1_play 53 = .ok (.goto (-22), 3) := by decide +kernel
theorem dX1_play_56 : decode cX1_play 56 = .ok (.return_, 1) := by decide +kernel
set_option maxRecDepth 20000 in
theorem ggX1_playTrick_X4_trump : GoodIn wsX1_playTrick wsX4_trump := goodIn_r _ [13, 14, 60, 61, 62, 63, 64, 65, 66, 67] (by decide +kernel) (by decide +kernel)
set_option maxRecDepth 20000 in
theorem gX1_playTrick_X4_trump : GoodIn wsX1_playTrick (wsV RX1 41 RX4 yX4_trump wsX4_trump) := goodIn_app (goodIn_of _ (by decide +kernel)) ggX1_playTrick_X4_trump
set_option maxRecDepth 20000 in
theorem ggX1_playTrick_X2_lead : GoodIn wsX1_playTrick wsX2_lead := goodIn_r _ [18, 19, 20, 21, 22, 23, 24, 25, 26, 27, 28, 29, 30, 31, 32, 33, 34, 35, 36, 37] (by decide +kernel) (by decide +kernel)
set_option maxRecDepth 20000 in
theorem gX1_playTrick_X2_lead : GoodIn wsX1_playTrick (va_wsS RX1 51 yX2_lead wsX2_lead) := goodIn_app (goodIn_of _ (by decide +kernel)) ggX1_playTrick_X2_lead
set_option maxRecDepth 20000 in
theorem ggX1_playTrick_X2_mayPlay : GoodIn wsX1_playTrick wsX2_mayPlay := goodIn_r _ [40, 41, 42, 21, 43, 19, 20, 22, 44, 45, 17, 46, 47, 48, 49, 50] (by decide +kernel) (by decide +kernel)
set_option maxRecDepth 20000 in
theorem gX1_playTrick_X2_mayPlay : GoodIn wsX1_playTrick (va_wsS RX1 57 yX2_mayPlay wsX2_mayPlay) := goodIn_app (goodIn_of _ (by decide +kernel)) ggX1_playTrick_X2_mayPlay
set_option maxRecDepth 20000 in
theorem ggX1_playTrick_X2_follow : GoodIn wsX1_playTrick wsX2_follow := goodIn_r _ [53, 54, 55, 21, 56, 57, 42, 43, 58, 20, 22, 23, 24, 25, 26, 27, 28, 29, 30, 31, 32, 33, 34, 35, 36, 41] (by decide +kernel) (by decide +kernel)
set_option maxRecDepth 20000 in
theorem gX1_playTrick_X2_follow : GoodIn wsX1_playTrick (va_wsS RX1 61 yX2_follow wsX2_follow) := goodIn_app (goodIn_of _ (by decide +kernel)) ggX1_playTrick_X2_follow
set_option maxRecDepth 20000 in
theorem ggX1_playTrick_X0_beating : GoodIn wsX1_playTrick wsX0_beating := goodIn_r _ [56, 57, 42, 21, 43, 58, 20, 22] (by decide +kernel) (by decide +kernel)
set_option maxRecDepth 20000 in
theorem gX1_playTrick_X0_beating : GoodIn wsX1_playTrick (va_wsS RX1 64 yX0_beating wsX0_beating) := goodIn_app (goodIn_of _ (by decide +kernel)) ggX1_playTrick_X0_beating
theorem dX1_playTrick_0 : decode cX1_playTrick 0 = .ok (.iconst 1, 1) := by decide +kernel
theorem dX1_playTrick_1 : decode cX1_playTrick 1 = .ok (.iload_n 3, 1) := by decide +kernel
theorem dX1_playTrick_2 : decode cX1_playTrick 2 = .ok (.isub, 1) := by decide +kernel
theorem dX1_playTrick_3 : decode cX1_playTrick 3 = .ok (.istore 4, 2) := by decide +kernel
theorem dX1_playTrick_5 : decode cX1_playTrick 5 = .ok (.aload_n 1, 1) := by decide +kernel
theorem dX1_playTrick_6 : decode cX1_playTrick 6 = .ok (.invokevirtual 41, 3) := by decide +kernel
theorem dX1_playTrick_9 : decode cX1_playTrick 9 = .ok (.istore 5, 2) := by decide +kernel
theorem dX1_playTrick_11 : decode cX1_playTrick 11 = .ok (.aload_n 1, 1) := by decide +kernel
theorem dX1_playTrick_12 : decode cX1_playTrick 12 = .ok (.getfield 45, 3) := by decide +kernel
theorem dX1_playTrick_15 : decode cX1_playTrick 15 = .ok (.aload_n 1, 1) := by decide +kernel
theorem dX1_playTrick_16 : decode cX1_playTrick 16 = .ok (.getfield 48, 3) := by decide +kernel
theorem dX1_playTrick_19 : decode cX1_playTrick 19 = .ok (.iload 4, 2) := by decide +kernel
theorem dX1_playTrick_21 : decode cX1_playTrick 21 = .ok (.iaload, 1) := by decide +kernel
theorem dX1_playTrick_22 : decode cX1_playTrick 22 = .ok (.iaload, 1) := by decide +kernel
theorem dX1_playTrick_23 : decode cX1_playTrick 23 = .ok (.istore 6, 2) := by decide +kernel
theorem dX1_playTrick_25 : decode cX1_playTrick 25 = .ok (.aload_n 1, 1) := by decide +kernel
theorem dX1_playTrick_26 : decode cX1_playTrick 26 = .ok (.getfield 45, 3) := by decide +kernel
theorem dX1_playTrick_29 : decode cX1_playTrick 29 = .ok (.aload_n 1, 1) := by decide +kernel
theorem dX1_playTrick_30 : decode cX1_playTrick 30 = .ok (.getfield 48, 3) := by decide +kernel
theorem dX1_playTrick_33 : decode cX1_playTrick 33 = .ok (.iload_n 3, 1) := by decide +kernel
theorem dX1_playTrick_34 : decode cX1_playTrick 34 = .ok (.iaload, 1) := by decide +kernel
theorem dX1_playTrick_35 : decode cX1_playTrick 35 = .ok (.iaload, 1) := by decide +kernel
theorem dX1_playTrick_36 : decode cX1_playTrick 36 = .ok (.aload_n 0, 1) := by decide +kernel
theorem dX1_playTrick_37 : decode cX1_playTrick 37 = .ok (.getfield 9, 3) := by decide +kernel
theorem dX1_playTrick_40 : decode cX1_playTrick 40 = .ok (.iload_n 3, 1) := by decide +kernel
theorem dX1_playTrick_41 : decode cX1_playTrick 41 = .ok (.iaload, 1) := by decide +kernel
theorem dX1_playTrick_42 : decode cX1_playTrick 42 = .ok (.iload 5, 2) := by decide +kernel
theorem dX1_playTrick_44 : decode cX1_playTrick 44 = .ok (.invokestatic 51, 3) := by decide +kernel
theorem dX1_playTrick_47 : decode cX1_playTrick 47 = .ok (.istore 7, 2) := by decide +kernel
theorem dX1_playTrick_49 : decode cX1_playTrick 49 = .ok (.iload 6, 2) := by decide +kernel
theorem dX1_playTrick_51 : decode cX1_playTrick 51 = .ok (.aload_n 0, 1) := by decide +kernel
theorem dX1_playTrick_52 : decode cX1_playTrick 52 = .ok (.getfield 9, 3) := by decide +kernel
theorem dX1_playTrick_55 : decode cX1_playTrick 55 = .ok (.iload 4, 2) := by decide +kernel
theorem dX1_playTrick_57 : decode cX1_playTrick 57 = .ok (.iaload, 1) := by decide +kernel
theorem dX1_playTrick_58 : decode cX1_playTrick 58 = .ok (.iload 7, 2) := by decide +kernel
theorem dX1_playTrick_60 : decode cX1_playTrick 60 = .ok (.aload_n 1, 1) := by decide +kernel
theorem dX1_playTrick_61 : decode cX1_playTrick 61 = .ok (.getfield 33, 3) := by decide +kernel
theorem dX1_playTrick_64 : decode cX1_playTrick 64 = .ok (.invokestatic 57, 3) := by decide +kernel
theorem dX1_playTrick_67 : decode cX1_playTrick 67 = .ok (.istore 8, 2) := by decide +kernel
theorem dX1_playTrick_69 : decode cX1_playTrick 69 = .ok (.iload 6, 2) := by decide +kernel
theorem dX1_playTrick_71 : decode cX1_playTrick 71 = .ok (.iload 8, 2) := by decide +kernel
theorem dX1_playTrick_73 : decode cX1_playTrick 73 = .ok (.iload 7, 2) := by decide +kernel
theorem dX1_playTrick_75 : decode cX1_playTrick 75 = .ok (.iload 5, 2) := by decide +kernel
theorem dX1_playTrick_77 : decode cX1_playTrick 77 = .ok (.invokestatic 61, 3) := by decide +kernel
theorem dX1_playTrick_80 : decode cX1_playTrick 80 = .ok (.istore 9, 2) := by decide +kernel
theorem dX1_playTrick_82 : decode cX1_playTrick 82 = .ok (.aload_n 0, 1) := by decide +kernel
theorem dX1_playTrick_83 : decode cX1_playTrick 83 = .ok (.getfield 9, 3) := by decide +kernel
theorem dX1_playTrick_86 : decode cX1_playTrick 86 = .ok (.iload_n 3, 1) := by decide +kernel
theorem dX1_playTrick_87 : decode cX1_playTrick 87 = .ok (.dup2, 1) := by decide +kernel
theorem dX1_playTrick_88 : decode cX1_playTrick 88 = .ok (.iaload, 1) := by decide +kernel
theorem dX1_playTrick_89 : decode cX1_playTrick 89 = .ok (.iconst 1, 1) := by decide +kernel
theorem dX1_playTrick_90 : decode cX1_playTrick 90 = .ok (.iload 7, 2) := by decide +kernel
theorem dX1_playTrick_92 : decode cX1_playTrick 92 = .ok (.ishl, 1) := by decide +kernel
theorem dX1_playTrick_93 : decode cX1_playTrick 93 = .ok (.iconst (-1), 1) := by decide +kernel
theorem dX1_playTrick_94 : decode cX1_playTrick 94 = .ok (.ixor, 1) := by decide +kernel
theorem dX1_playTrick_95 : decode cX1_playTrick 95 = .ok (.iand, 1) := by decide +kernel
theorem dX1_playTrick_96 : decode cX1_playTrick 96 = .ok (.iastore, 1) := by decide +kernel
theorem dX1_playTrick_97 : decode cX1_playTrick 97 = .ok (.aload_n 0, 1) := by decide +kernel
theorem dX1_playTrick_98 : decode cX1_playTrick 98 = .ok (.getfield 9, 3) := by decide +kernel
theorem dX1_playTrick_101 : decode cX1_playTrick 101 = .ok (.iload 4, 2) := by decide +kernel
theorem dX1_playTrick_103 : decode cX1_playTrick 103 = .ok (.dup2, 1) := by decide +kernel
theorem dX1_playTrick_104 : decode cX1_playTrick 104 = .ok (.iaload, 1) := by decide +kernel
theorem dX1_playTrick_105 : decode cX1_playTrick 105 = .ok (.iconst 1, 1) := by decide +kernel
theorem dX1_playTrick_106 : decode cX1_playTrick 106 = .ok (.iload 9, 2) := by decide +kernel
theorem dX1_playTrick_108 : decode cX1_playTrick 108 = .ok (.ishl, 1) := by decide +kernel
theorem dX1_playTrick_109 : decode cX1_playTrick 109 = .ok (.iconst (-1), 1) := by decide +kernel
theorem dX1_playTrick_110 : decode cX1_playTrick 110 = .ok (.ixor, 1) := by decide +kernel
theorem dX1_playTrick_111 : decode cX1_playTrick 111 = .ok (.iand, 1) := by decide +kernel
theorem dX1_playTrick_112 : decode cX1_playTrick 112 = .ok (.iastore, 1) := by decide +kernel
theorem dX1_playTrick_113 : decode cX1_playTrick 113 = .ok (.aload_n 0, 1) := by decide +kernel
theorem dX1_playTrick_114 : decode cX1_playTrick 114 = .ok (.getfield 15, 3) := by decide +kernel
theorem dX1_playTrick_117 : decode cX1_playTrick 117 = .ok (.iload_n 2, 1) := by decide +kernel
theorem dX1_playTrick_118 : decode cX1_playTrick 118 = .ok (.iload_n 3, 1) := by decide +kernel
theorem dX1_playTrick_119 : decode cX1_playTrick 119 = .ok (.ifCond .ne 8, 3) := by decide +kernel
theorem dX1_playTrick_122 : decode cX1_playTrick 122 = .ok (.iload 7, 2) := by decide +kernel
theorem dX1_playTrick_124 : decode cX1_playTrick 124 = .ok (.goto 5, 3) := by decide +kernel
theorem dX1_playTrick_127 : decode cX1_playTrick 127 = .ok (.iload 9, 2) := by decide +kernel
theorem dX1_playTrick_129 : decode cX1_playTrick 129 = .ok (.iastore, 1) := by decide +kernel
theorem dX1_playTrick_130 : decode cX1_playTrick 130 = .ok (.aload_n 0, 1) := by decide +kernel
theorem dX1_playTrick_131 : decode cX1_playTrick 131 = .ok (.getfield 18, 3) := by decide +kernel
theorem dX1_playTrick_134 : decode cX1_playTrick 134 = .ok (.iload_n 2, 1) := by decide +kernel
theorem dX1_playTrick_135 : decode cX1_playTrick 135 = .ok (.iload_n 3, 1) := by decide +kernel
theorem dX1_playTrick_136 : decode cX1_playTrick 136 = .ok (.ifCond .ne 8, 3) := by decide +kernel
theorem dX1_playTrick_139 : decode cX1_playTrick 139 = .ok (.iload 9, 2) := by decide +kernel
theorem dX1_playTrick_141 : decode cX1_playTrick 141 = .ok (.goto 5, 3) := by decide +kernel
theorem dX1_playTrick_144 : decode cX1_playTrick 144 = .ok (.iload 7, 2) := by decide +kernel
theorem dX1_playTrick_146 : decode cX1_playTrick 146 = .ok (.iastore, 1) := by decide +kernel
theorem dX1_playTrick_147 : decode cX1_playTrick 147 = .ok (.aload_n 0, 1) := by decide +kernel
theorem dX1_playTrick_148 : decode cX1_playTrick 148 = .ok (.getfield 21, 3) := by decide +kernel
theorem dX1_playTrick_151 : decode cX1_playTrick 151 = .ok (.iload_n 2, 1) := by decide +kernel
theorem dX1_playTrick_152 : decode cX1_playTrick 152 = .ok (.iload_n 3, 1) := by decide +kernel
theorem dX1_playTrick_153 : decode cX1_playTrick 153 = .ok (.iastore, 1) := by decide +kernel
theorem dX1_playTrick_154 : decode cX1_playTrick 154 = .ok (.aload_n 0, 1) := by decide +kernel
theorem dX1_playTrick_155 : decode cX1_playTrick 155 = .ok (.getfield 24, 3) := by decide +kernel
theorem dX1_playTrick_158 : decode cX1_playTrick 158 = .ok (.iload_n 2, 1) := by decide +kernel
theorem dX1_playTrick_159 : decode cX1_playTrick 159 = .ok (.iconst 1, 1) := by decide +kernel
theorem dX1_playTrick_160 : decode cX1_playTrick 160 = .ok (.iload 9, 2) := by decide +kernel
theorem dX1_playTrick_162 : decode cX1_playTrick 162 = .ok (.ishl, 1) := by decide +kernel
theorem dX1_playTrick_163 : decode cX1_playTrick 163 = .ok (.iload 7, 2) := by decide +kernel
theorem dX1_playTrick_165 : decode cX1_playTrick 165 = .ok (.iload 5, 2) := by decide +kernel
theorem dX1_playTrick_167 : decode cX1_playTrick 167 = .ok (.invokestatic 64, 3) := by decide +kernel
theorem dX1_playTrick_170 : decode cX1_playTrick 170 = .ok (.ifCond .eq 8, 3) := by decide +kernel
theorem dX1_playTrick_173 : decode cX1_playTrick 173 = .ok (.iload 4, 2) := by decide +kernel
theorem dX1_playTrick_175 : decode cX1_playTrick 175 = .ok (.goto 4, 3) := by decide +kernel
theorem dX1_playTrick_178 : decode cX1_playTrick 178 = .ok (.iload_n 3, 1) := by decide +kernel
theorem dX1_playTrick_179 : decode cX1_playTrick 179 = .ok (.iastore, 1) := by decide +kernel
theorem dX1_playTrick_180 : decode cX1_playTrick 180 = .ok (.return_, 1) := by decide +kernel
theorem dX1_tricksOfFirst_0 : decode cX1_tricksOfFirst 0 = .ok (.iconst 0, 1) := by decide +kernel
theorem dX1_tricksOfFirst_1 : decode cX1_tricksOfFirst 1 = .ok (.istore_n 1, 1) := by decide +kernel
theorem dX1_tricksOfFirst_2 : decode cX1_tricksOfFirst 2 = .ok (.iconst 0, 1) := by decide +kernel
theorem dX1_tricksOfFirst_3 : decode cX1_tricksOfFirst 3 = .ok (.istore_n 2, 1) := by decide +kernel
theorem dX1_tricksOfFirst_4 : decode cX1_tricksOfFirst 4 = .ok (.iload_n 2, 1) := by decide +kernel
theorem dX1_tricksOfFirst_5 : decode cX1_tricksOfFirst 5 = .ok (.iconst 4, 1) := by decide +kernel
theorem dX1_tricksOfFirst_6 : decode cX1_tricksOfFirst 6 = .ok (.if_icmp .ge 26, 3) := by decide +kernel
theorem dX1_tricksOfFirst_9 : decode cX1_tricksOfFirst 9 = .ok (.iload_n 1, 1) := by decide +kernel
theorem dX1_tricksOfFirst_10 : decode cX1_tricksOfFirst 10 = .ok (.aload_n 0, 1) := by decide +kernel
theorem dX1_tricksOfFirst_11 : decode cX1_tricksOfFirst 11 = .ok (.getfield 24, 3) := by decide +kernel
theorem dX1_tricksOfFirst_14 : decode cX1_tricksOfFirst 14 = .ok (.iload_n 2, 1) := by decide +kernel
theorem dX1_tricksOfFirst_15 : decode cX1_tricksOfFirst 15 = .ok (.iaload, 1) := by decide +kernel
theorem dX1_tricksOfFirst_16 : decode cX1_tricksOfFirst 16 = .ok (.ifCond .ne 7, 3) := by decide +kernel
theorem dX1_tricksOfFirst_19 : decode cX1_tricksOfFirst 19 = .ok (.iconst 1, 1) := by decide +kernel
theorem dX1_tricksOfFirst_20 : decode cX1_tricksOfFirst 20 = .ok (.goto 4, 3) := by decide +kernel
theorem dX1_tricksOfFirst_23 : decode cX1_tricksOfFirst 23 = .ok (.iconst 0, 1) := by decide +kernel
theorem dX1_tricksOfFirst_24 : decode cX1_tricksOfFirst 24 = .ok (.iadd, 1) := by decide +kernel
theorem dX1_tricksOfFirst_25 : decode cX1_tricksOfFirst 25 = .ok (.istore_n 1, 1) := by decide +kernel
theorem dX1_tricksOfFirst_26 : decode cX1_tricksOfFirst 26 = .ok (.iinc 2 1, 3) := by decide +kernel
theorem dX1_tricksOfFirst_29 : decode cX1_tricksOfFirst 29 = .ok (.goto (-25), 3) := by decide +kernel
theorem dX1_tricksOfFirst_32 : decode cX1_tricksOfFirst 32 = .ok (.iload_n 1, 1) := by decide +kernel
theorem dX1_tricksOfFirst_33 : decode cX1_tricksOfFirst 33 = .ok (.ireturn, 1) := by decide +kernel
set_option maxRecDepth 20000 in
theorem ggX1_victor_X1_tricksOfFirst : GoodIn wsX1_victor wsX1_tricksOfFirst := goodIn_r _ [5, 6, 7, 8, 9, 10, 11] (by decide +kernel) (by decide +kernel)
set_option maxRecDepth 20000 in
theorem gX1_victor_X1_tricksOfFirst : GoodIn wsX1_victor (wsV RX1 69 RX1 yX1_tricksOfFirst wsX1_tricksOfFirst) := goodIn_app (goodIn_of _ (by decide +kernel)) ggX1_victor_X1_tricksOfFirst
theorem dX1_victor_0 : decode cX1_victor 0 = .ok (.aload_n 0, 1) := by decide +kernel
theorem dX1_victor_1 : decode cX1_victor 1 = .ok (.invokevirtual 69, 3) := by decide +kernel
theorem dX1_victor_4 : decode cX1_victor 4 = .ok (.istore_n 1, 1) := by decide +kernel
theorem dX1_victor_5 : decode cX1_victor 5 = .ok (.iload_n 1, 1) := by decide +kernel
theorem dX1_victor_6 : decode cX1_victor 6 = .ok (.iconst 2, 1) := by decide +kernel
theorem dX1_victor_7 : decode cX1_victor 7 = .ok (.if_icmp .ne 5, 3) := by decide +kernel
theorem dX1_victor_10 : decode cX1_victor 10 = .ok (.iconst (-1), 1) := by decide +kernel
theorem dX1_victor_11 : decode cX1_victor 11 = .ok (.ireturn, 1) := by decide +kernel
theorem dX1_victor_12 : decode cX1_victor 12 = .ok (.iload_n 1, 1) := by decide +kernel
theorem dX1_victor_13 : decode cX1_victor 13 = .ok (.iconst 2, 1) := by decide +kernel
theorem dX1_victor_14 : decode cX1_victor 14 = .ok (.if_icmp .le 7, 3) := by decide +kernel
theorem dX1_victor_17 : decode cX1_victor 17 = .ok (.iconst 0, 1) := by decide +kernel
theorem dX1_victor_18 : decode cX1_victor 18 = .ok (.goto 4, 3) := by decide +kernel
theorem dX1_victor_21 : decode cX1_victor 21 = .ok (.iconst 1, 1) := by decide +kernel
theorem dX1_victor_22 : decode cX1_victor 22 = .ok (.ireturn, 1) := by decide +kernel
theorem dX2_name_0 : decode cX2_name 0 = .ok (.iload_n 0, 1) := by decide +kernel
theorem dX2_name_1 : decode cX2_name 1 = .ok (.tableswitch 50 0 4 #[35, 38, 41, 44, 47], 35) := by decide +kernel
theorem dX2_name_36 : decode cX2_name 36 = .ok (.ldc 9, 2) := by decide +kernel
theorem dX2_name_38 : decode cX2_name 38 = .ok (.areturn, 1) := by decide +kernel
theorem dX2_name_39 : decode cX2_name 39 = .ok (.ldc 11, 2) := by decide +kernel
theorem dX2_name_41 : decode cX2_name 41 = .ok (.areturn, 1) := by decide +kernel
theorem dX2_name_42 : decode cX2_name 42 = .ok (.ldc 13, 2) := by decide +kernel
theorem dX2_name_44 : decode cX2_name 44 = .ok (.areturn, 1) := by decide +kernel
theorem dX2_name_45 : decode cX2_name 45 = .ok (.ldc 15, 2) := by decide +kernel
theorem dX2_name_47 : decode cX2_name 47 = .ok (.areturn, 1) := by decide +kernel
theorem dX2_name_48 : decode cX2_name 48 = .ok (.ldc 17, 2) := by decide +kernel
theorem dX2_name_50 : decode cX2_name 50 = .ok (.areturn, 1) := by decide +kernel
theorem dX2_name_51 : decode cX2_name 51 = .ok (.ldc 19, 2) := by decide +kernel
theorem dX2_name_53 : decode cX2_name 53 = .ok (.areturn, 1) := by decide +kernel
set_option maxRecDepth 20000 in
theorem ggX2_isUnder_X6_isKind : GoodIn wsX2_isUnder wsX6_isKind := goodIn_r _ [4] (by decide +kernel) (by decide +kernel)
set_option maxRecDepth 20000 in
theorem gX2_isUnder_X6_isKind_n21 : GoodIn wsX2_isUnder (wsX6_isKind) := ggX2_isUnder_X6_isKind
theorem dX2_isUnder_0 : decode cX2_isUnder 0 = .ok (.iload_n 0, 1) := by decide +kernel
theorem dX2_isUnder_1 : decode cX2_isUnder 1 = .ok (.istore_n 2, 1) := by decide +kernel
theorem dX2_isUnder_2 : decode cX2_isUnder 2 = .ok (.iconst 0, 1) := by decide +kernel
theorem dX2_isUnder_3 : decode cX2_isUnder 3 = .ok (.istore_n 3, 1) := by decide +kernel
theorem dX2_isUnder_4 : decode cX2_isUnder 4 = .ok (.iload_n 3, 1) := by decide +kernel
theorem dX2_isUnder_5 : decode cX2_isUnder 5 = .ok (.bipush 6, 2) := by decide +kernel
theorem dX2_isUnder_7 : decode cX2_isUnder 7 = .ok (.if_icmp .ge 29, 3) := by decide +kernel
theorem dX2_isUnder_10 : decode cX2_isUnder 10 = .ok (.iload_n 2, 1) := by decide +kernel
theorem dX2_isUnder_11 : decode cX2_isUnder 11 = .ok (.invokestatic 21, 3) := by decide +kernel
theorem dX2_isUnder_14 : decode cX2_isUnder 14 = .ok (.ifCond .eq 22, 3) := by decide +kernel
theorem dX2_isUnder_17 : decode cX2_isUnder 17 = .ok (.iload_n 2, 1) := by decide +kernel
theorem dX2_isUnder_18 : decode cX2_isUnder 18 = .ok (.iload_n 1, 1) := by decide +kernel
theorem dX2_isUnder_19 : decode cX2_isUnder 19 = .ok (.if_icmp .ne 5, 3) := by decide +kernel
theorem dX2_isUnder_22 : decode cX2_isUnder 22 = .ok (.iconst 1, 1) := by decide +kernel
theorem dX2_isUnder_23 : decode cX2_isUnder 23 = .ok (.ireturn, 1) := by decide +kernel
theorem dX2_isUnder_24 : decode cX2_isUnder 24 = .ok (.getstatic 25, 3) := by decide +kernel
theorem dX2_isUnder_27 : decode cX2_isUnder 27 = .ok (.iload_n 2, 1) := by decide +kernel
theorem dX2_isUnder_28 : decode cX2_isUnder 28 = .ok (.iaload, 1) := by decide +kernel
theorem dX2_isUnder_29 : decode cX2_isUnder 29 = .ok (.istore_n 2, 1) := by decide +kernel
theorem dX2_isUnder_30 : decode cX2_isUnder 30 = .ok (.iinc 3 1, 3) := by decide +kernel
theorem dX2_isUnder_33 : decode cX2_isUnder 33 = .ok (.goto (-29), 3) := by decide +kernel
theorem dX2_isUnder_36 : decode cX2_isUnder 36 = .ok (.iconst 0, 1) := by decide +kernel
theorem dX2_isUnder_37 : decode cX2_isUnder 37 = .ok (.ireturn, 1) := by decide +kernel
set_option maxRecDepth 20000 in
theorem ggX2_lead_X0_suitSet : GoodIn wsX2_lead wsX0_suitSet := goodIn_r _ [4] (by decide +kernel) (by decide +kernel)
set_option maxRecDepth 20000 in
theorem gX2_lead_X0_suitSet : GoodIn wsX2_lead (va_wsS RX2 31 yX0_suitSet wsX0_suitSet) := goodIn_app (goodIn_of _ (by decide +kernel)) ggX2_lead_X0_suitSet
set_option maxRecDepth 20000 in
theorem ggX2_lead_X0_lowest : GoodIn wsX2_lead wsX0_lowest := goodIn_r _ [7, 8, 9, 10, 11, 12, 13, 14, 15] (by decide +kernel) (by decide +kernel)
set_option maxRecDepth 20000 in
theorem gX2_lead_X0_lowest : GoodIn wsX2_lead (va_wsS RX2 37 yX0_lowest wsX0_lowest) := goodIn_app (goodIn_of _ (by decide +kernel)) ggX2_lead_X0_lowest
set_option maxRecDepth 20000 in
theorem ggX2_lead_X0_highest : GoodIn wsX2_lead wsX0_highest := goodIn_r _ [18, 8, 9, 10, 11, 12, 13, 14, 15] (by decide +kernel) (by decide +kernel)
set_option maxRecDepth 20000 in
theorem gX2_lead_X0_highest : GoodIn wsX2_lead (va_wsS RX2 40 yX0_highest wsX0_highest) := goodIn_app (goodIn_of _ (by decide +kernel)) ggX2_lead_X0_highest
set_option maxRecDepth 20000 in
theorem ggX2_lead_J6_bitCount_0f7a4 : GoodIn wsX2_lead wsJ6_bitCount_0f7a4 := goodIn_r _ [12, 13, 14, 15] (by decide +kernel) (by decide +kernel)
set_option maxRecDepth 20000 in
theorem gX2_lead_J6_bitCount_0f7a4 : GoodIn wsX2_lead (va_wsS RX2 43 yJ6_bitCount_0f7a4 wsJ6_bitCount_0f7a4) := goodIn_app (goodIn_of _ (by decide +kernel)) ggX2_lead_J6_bitCount_0f7a4
theorem dX2_lead_0 : decode cX2_lead 0 = .ok (.iload_n 1, 1) := by decide +kernel
theorem dX2_lead_1 : decode cX2_lead 1 = .ok (.iload_n 2, 1) := by decide +kernel
theorem dX2_lead_2 : decode cX2_lead 2 = .ok (.invokestatic 31, 3) := by decide +kernel
theorem dX2_lead_5 : decode cX2_lead 5 = .ok (.iand, 1) := by decide +kernel
theorem dX2_lead_6 : decode cX2_lead 6 = .ok (.istore_n 3, 1) := by decide +kernel
theorem dX2_lead_7 : decode cX2_lead 7 = .ok (.iload_n 0, 1) := by decide +kernel
theorem dX2_lead_8 : decode cX2_lead 8 = .ok (.tableswitch 74 1 5 #[36, 41, 36, 54, 41], 36) := by decide +kernel
theorem dX2_lead_44 : decode cX2_lead 44 = .ok (.iload_n 1, 1) := by decide +kernel
theorem dX2_lead_45 : decode cX2_lead 45 = .ok (.invokestatic 37, 3) := by decide +kernel
theorem dX2_lead_48 : decode cX2_lead 48 = .ok (.ireturn, 1) := by decide +kernel
theorem dX2_lead_49 : decode cX2_lead 49 = .ok (.iload_n 3, 1) := by decide +kernel
theorem dX2_lead_50 : decode cX2_lead 50 = .ok (.ifCond .eq 7, 3) := by decide +kernel
theorem dX2_lead_53 : decode cX2_lead 53 = .ok (.iload_n 3, 1) := by decide +kernel
theorem dX2_lead_54 : decode cX2_lead 54 = .ok (.goto 4, 3) := by decide +kernel
theorem dX2_lead_57 : decode cX2_lead 57 = .ok (.iload_n 1, 1) := by decide +kernel
theorem dX2_lead_58 : decode cX2_lead 58 = .ok (.invokestatic 40, 3) := by decide +kernel
theorem dX2_lead_61 : decode cX2_lead 61 = .ok (.ireturn, 1) := by decide +kernel
theorem dX2_lead_62 : decode cX2_lead 62 = .ok (.iload_n 1, 1) := by decide +kernel
theorem dX2_lead_63 : decode cX2_lead 63 = .ok (.invokestatic 43, 3) := by decide +kernel
theorem dX2_lead_66 : decode cX2_lead 66 = .ok (.iconst 2, 1) := by decide +kernel
theorem dX2_lead_67 : decode cX2_lead 67 = .ok (.if_icmp .gt 10, 3) := by decide +kernel
theorem dX2_lead_70 : decode cX2_lead 70 = .ok (.iload_n 1, 1) := by decide +kernel
theorem dX2_lead_71 : decode cX2_lead 71 = .ok (.invokestatic 40, 3) := by decide +kernel
theorem dX2_lead_74 : decode cX2_lead 74 = .ok (.goto 7, 3) := by decide +kernel
theorem dX2_lead_77 : decode cX2_lead 77 = .ok (.iload_n 1, 1) := by decide +kernel
theorem dX2_lead_78 : decode cX2_lead 78 = .ok (.invokestatic 37, 3) := by decide +kernel
theorem dX2_lead_81 : decode cX2_lead 81 = .ok (.ireturn, 1) := by decide +kernel
theorem dX2_lead_82 : decode cX2_lead 82 = .ok (.iload_n 1, 1) := by decide +kernel
theorem dX2_lead_83 : decode cX2_lead 83 = .ok (.invokestatic 40, 3) := by decide +kernel
theorem dX2_lead_86 : decode cX2_lead 86 = .ok (.ireturn, 1) := by decide +kernel
set_option maxRecDepth 20000 in
theorem ggX2_mayPlay_X0_suit : GoodIn wsX2_mayPlay wsX0_suit := goodIn_r _ [4] (by decide +kernel) (by decide +kernel)
set_option maxRecDepth 20000 in
theorem gX2_mayPlay_X0_suit : GoodIn wsX2_mayPlay (va_wsS RX2 48 yX0_suit wsX0_suit) := goodIn_app (goodIn_of _ (by decide +kernel)) ggX2_mayPlay_X0_suit
set_option maxRecDepth 20000 in
theorem ggX2_mayPlay_X0_suitSet : GoodIn wsX2_mayPlay wsX0_suitSet := goodIn_r _ [7] (by decide +kernel) (by decide +kernel)
set_option maxRecDepth 20000 in
theorem gX2_mayPlay_X0_suitSet : GoodIn wsX2_mayPlay (va_wsS RX2 31 yX0_suitSet wsX0_suitSet) := goodIn_app (goodIn_of _ (by decide +kernel)) ggX2_mayPlay_X0_suitSet
set_option maxRecDepth 20000 in
theorem ggX2_mayPlay_X2_isUnder : GoodIn wsX2_mayPlay wsX2_isUnder := goodIn_r _ [11, 12, 13, 14, 15] (by decide +kernel) (by decide +kernel)
set_option maxRecDepth 20000 in
theorem gX2_mayPlay_X2_isUnder : GoodIn wsX2_mayPlay (va_wsS RX2 51 yX2_isUnder wsX2_isUnder) := goodIn_app (goodIn_of _ (by decide +kernel)) ggX2_mayPlay_X2_isUnder
theorem dX2_mayPlay_0 : decode cX2_mayPlay 0 = .ok (.iload_n 1, 1) := by decide +kernel
theorem dX2_mayPlay_1 : decode cX2_mayPlay 1 = .ok (.iload_n 2, 1) := by decide +kernel
theorem dX2_mayPlay_2 : decode cX2_mayPlay 2 = .ok (.invokestatic 48, 3) := by decide +kernel
theorem dX2_mayPlay_5 : decode cX2_mayPlay 5 = .ok (.invokestatic 31, 3) := by decide +kernel
theorem dX2_mayPlay_8 : decode cX2_mayPlay 8 = .ok (.iand, 1) := by decide +kernel
theorem dX2_mayPlay_9 : decode cX2_mayPlay 9 = .ok (.istore 4, 2) := by decide +kernel
theorem dX2_mayPlay_11 : decode cX2_mayPlay 11 = .ok (.iload_n 3, 1) := by decide +kernel
theorem dX2_mayPlay_12 : decode cX2_mayPlay 12 = .ok (.iconst 3, 1) := by decide +kernel
theorem dX2_mayPlay_13 : decode cX2_mayPlay 13 = .ok (.irem, 1) := by decide +kernel
theorem dX2_mayPlay_14 : decode cX2_mayPlay 14 = .ok (.ifCond .ne 15, 3) := by decide +kernel
theorem dX2_mayPlay_17 : decode cX2_mayPlay 17 = .ok (.iload_n 0, 1) := by decide +kernel
theorem dX2_mayPlay_18 : decode cX2_mayPlay 18 = .ok (.iconst 2, 1) := by decide +kernel
theorem dX2_mayPlay_19 : decode cX2_mayPlay 19 = .ok (.invokestatic 51, 3) := by decide +kernel
theorem dX2_mayPlay_22 : decode cX2_mayPlay 22 = .ok (.ifCond .eq 7, 3) := by decide +kernel
theorem dX2_mayPlay_25 : decode cX2_mayPlay 25 = .ok (.iconst 1, 1) := by decide +kernel
theorem dX2_mayPlay_26 : decode cX2_mayPlay 26 = .ok (.goto 4, 3) := by decide +kernel
theorem dX2_mayPlay_29 : decode cX2_mayPlay 29 = .ok (.iconst 0, 1) := by decide +kernel
theorem dX2_mayPlay_30 : decode cX2_mayPlay 30 = .ok (.istore 5, 2) := by decide +kernel
theorem dX2_mayPlay_32 : decode cX2_mayPlay 32 = .ok (.iload 5, 2) := by decide +kernel
theorem dX2_mayPlay_34 : decode cX2_mayPlay 34 = .ok (.ifCond .ne 8, 3) := by decide +kernel
theorem dX2_mayPlay_37 : decode cX2_mayPlay 37 = .ok (.iload 4, 2) := by decide +kernel
theorem dX2_mayPlay_39 : decode cX2_mayPlay 39 = .ok (.ifCond .ne 7, 3) := by decide +kernel
theorem dX2_mayPlay_42 : decode cX2_mayPlay 42 = .ok (.iload_n 1, 1) := by decide +kernel
theorem dX2_mayPlay_43 : decode cX2_mayPlay 43 = .ok (.goto 5, 3) := by decide +kernel
theorem dX2_mayPlay_46 : decode cX2_mayPlay 46 = .ok (.iload 4, 2) := by decide +kernel
theorem dX2_mayPlay_48 : decode cX2_mayPlay 48 = .ok (.ireturn, 1) := by decide +kernel
set_option maxRecDepth 20000 in
theorem ggX2_follow_X0_beating : GoodIn wsX2_follow wsX0_beating := goodIn_r _ [4, 5, 6, 3, 7, 8, 9, 10] (by decide +kernel) (by decide +kernel)
set_option maxRecDepth 20000 in
theorem gX2_follow_X0_beating : GoodIn wsX2_follow (va_wsS RX2 55 yX0_beating wsX0_beating) := goodIn_app (goodIn_of _ (by decide +kernel)) ggX2_follow_X0_beating
set_option maxRecDepth 20000 in
theorem ggX2_follow_X0_lowest : GoodIn wsX2_follow wsX0_lowest := goodIn_r _ [13, 14, 15, 16, 17, 18, 19, 20, 21] (by decide +kernel) (by decide +kernel)
set_option maxRecDepth 20000 in
theorem gX2_follow_X0_lowest : GoodIn wsX2_follow (va_wsS RX2 37 yX0_lowest wsX0_lowest) := goodIn_app (goodIn_of _ (by decide +kernel)) ggX2_follow_X0_lowest
set_option maxRecDepth 20000 in
theorem ggX2_follow_X0_highest : GoodIn wsX2_follow wsX0_highest := goodIn_r _ [24, 14, 15, 16, 17, 18, 19, 20, 21] (by decide +kernel) (by decide +kernel)
set_option maxRecDepth 20000 in
theorem gX2_follow_X0_highest : GoodIn wsX2_follow (va_wsS RX2 40 yX0_highest wsX0_highest) := goodIn_app (goodIn_of _ (by decide +kernel)) ggX2_follow_X0_highest
set_option maxRecDepth 20000 in
theorem ggX2_follow_X0_suit : GoodIn wsX2_follow wsX0_suit := goodIn_r _ [7] (by decide +kernel) (by decide +kernel)
set_option maxRecDepth 20000 in
theorem gX2_follow_X0_suit : GoodIn wsX2_follow (va_wsS RX2 48 yX0_suit wsX0_suit) := goodIn_app (goodIn_of _ (by decide +kernel)) ggX2_follow_X0_suit
theorem dX2_follow_0 : decode cX2_follow 0 = .ok (.iload_n 1, 1) := by decide +kernel
theorem dX2_follow_1 : decode cX2_follow 1 = .ok (.iload_n 2, 1) := by decide +kernel
theorem dX2_follow_2 : decode cX2_follow 2 = .ok (.iload_n 3, 1) := by decide +kernel
theorem dX2_follow_3 : decode cX2_follow 3 = .ok (.invokestatic 55, 3) := by decide +kernel
theorem dX2_follow_6 : decode cX2_follow 6 = .ok (.istore 4, 2) := by decide +kernel
theorem dX2_follow_8 : decode cX2_follow 8 = .ok (.iload 4, 2) := by decide +kernel
theorem dX2_follow_10 : decode cX2_follow 10 = .ok (.ifCond .eq 8, 3) := by decide +kernel
theorem dX2_follow_13 : decode cX2_follow 13 = .ok (.iload 4, 2) := by decide +kernel
theorem dX2_follow_15 : decode cX2_follow 15 = .ok (.goto 4, 3) := by decide +kernel
theorem dX2_follow_18 : decode cX2_follow 18 = .ok (.iload_n 1, 1) := by decide +kernel
theorem dX2_follow_19 : decode cX2_follow 19 = .ok (.istore 5, 2) := by decide +kernel
theorem dX2_follow_21 : decode cX2_follow 21 = .ok (.iload_n 0, 1) := by decide +kernel
theorem dX2_follow_22 : decode cX2_follow 22 = .ok (.tableswitch 98 1 5 #[34, 98, 39, 62, 80], 34) := by decide +kernel
theorem dX2_follow_56 : decode cX2_follow 56 = .ok (.iload_n 1, 1) := by decide +kernel
theorem dX2_follow_57 : decode cX2_follow 57 = .ok (.invokestatic 37, 3) := by decide +kernel
theorem dX2_follow_60 : decode cX2_follow 60 = .ok (.ireturn, 1) := by decide +kernel
theorem dX2_follow_61 : decode cX2_follow 61 = .ok (.iload 4, 2) := by decide +kernel
theorem dX2_follow_63 : decode cX2_follow 63 = .ok (.iload_n 1, 1) := by decide +kernel
theorem dX2_follow_64 : decode cX2_follow 64 = .ok (.if_icmp .ne 10, 3) := by decide +kernel
theorem dX2_follow_67 : decode cX2_follow 67 = .ok (.iload_n 1, 1) := by decide +kernel
theorem dX2_follow_68 : decode cX2_follow 68 = .ok (.invokestatic 37, 3) := by decide +kernel
theorem dX2_follow_71 : decode cX2_follow 71 = .ok (.goto 12, 3) := by decide +kernel
theorem dX2_follow_74 : decode cX2_follow 74 = .ok (.iload_n 1, 1) := by decide +kernel
theorem dX2_follow_75 : decode cX2_follow 75 = .ok (.iload 4, 2) := by decide +kernel
theorem dX2_follow_77 : decode cX2_follow 77 = .ok (.iconst (-1), 1) := by decide +kernel
theorem dX2_follow_78 : decode cX2_follow 78 = .ok (.ixor, 1) := by decide +kernel
theorem dX2_follow_79 : decode cX2_follow 79 = .ok (.iand, 1) := by decide +kernel
theorem dX2_follow_80 : decode cX2_follow 80 = .ok (.invokestatic 40, 3) := by decide +kernel
theorem dX2_follow_83 : decode cX2_follow 83 = .ok (.ireturn, 1) := by decide +kernel
theorem dX2_follow_84 : decode cX2_follow 84 = .ok (.iload_n 2, 1) := by decide +kernel
theorem dX2_follow_85 : decode cX2_follow 85 = .ok (.invokestatic 48, 3) := by decide +kernel
theorem dX2_follow_88 : decode cX2_follow 88 = .ok (.iload_n 3, 1) := by decide +kernel
theorem dX2_follow_89 : decode cX2_follow 89 = .ok (.if_icmp .ne 8, 3) := by decide +kernel
theorem dX2_follow_92 : decode cX2_follow 92 = .ok (.iload 5, 2) := by decide +kernel
theorem dX2_follow_94 : decode cX2_follow 94 = .ok (.goto 4, 3) := by decide +kernel
theorem dX2_follow_97 : decode cX2_follow 97 = .ok (.iload_n 1, 1) := by decide +kernel
theorem dX2_follow_98 : decode cX2_follow 98 = .ok (.invokestatic 37, 3) := by decide +kernel
theorem dX2_follow_101 : decode cX2_follow 101 = .ok (.ireturn, 1) := by decide +kernel
theorem dX2_follow_102 : decode cX2_follow 102 = .ok (.iload 4, 2) := by decide +kernel
theorem dX2_follow_104 : decode cX2_follow 104 = .ok (.ifCond .eq 11, 3) := by decide +kernel
theorem dX2_follow_107 : decode cX2_follow 107 = .ok (.iload 4, 2) := by decide +kernel
theorem dX2_follow_109 : decode cX2_follow 109 = .ok (.invokestatic 40, 3) := by decide +kernel
theorem dX2_follow_112 : decode cX2_follow 112 = .ok (.goto 7, 3) := by decide +kernel
theorem dX2_follow_115 : decode cX2_follow 115 = .ok (.iload_n 1, 1) := by decide +kernel
theorem dX2_follow_116 : decode cX2_follow 116 = .ok (.invokestatic 37, 3) := by decide +kernel
theorem dX2_follow_119 : decode cX2_follow 119 = .ok (.ireturn, 1) := by decide +kernel
theorem dX2_follow_120 : decode cX2_follow 120 = .ok (.iload 5, 2) := by decide +kernel
theorem dX2_follow_122 : decode cX2_follow 122 = .ok (.invokestatic 37, 3) := by decide +kernel
theorem dX2_follow_125 : decode cX2_follow 125 = .ok (.ireturn, 1) := by decide +kernel
theorem dX3_init_0 : decode cX3_init 0 = .ok (.aload_n 0, 1) := by decide +kernel
theorem dX3_init_1 : decode cX3_init 1 = .ok (.invokespecial 1, 3) := by decide +kernel
theorem dX3_init_4 : decode cX3_init 4 = .ok (.aload_n 0, 1) := by decide +kernel
theorem dX3_init_5 : decode cX3_init 5 = .ok (.bipush 40, 2) := by decide +kernel
theorem dX3_init_7 : decode cX3_init 7 = .ok (.newarray .long, 2) := by decide +kernel
theorem dX3_init_9 : decode cX3_init 9 = .ok (.putfield 9, 3) := by decide +kernel
theorem dX3_init_12 : decode cX3_init 12 = .ok (.aload_n 0, 1) := by decide +kernel
theorem dX3_init_13 : decode cX3_init 13 = .ok (.iconst 0, 1) := by decide +kernel
theorem dX3_init_14 : decode cX3_init 14 = .ok (.putfield 13, 3) := by decide +kernel
theorem dX3_init_17 : decode cX3_init 17 = .ok (.aload_n 0, 1) := by decide +kernel
theorem dX3_init_18 : decode cX3_init 18 = .ok (.iconst 0, 1) := by decide +kernel
theorem dX3_init_19 : decode cX3_init 19 = .ok (.putfield 17, 3) := by decide +kernel
theorem dX3_init_22 : decode cX3_init 22 = .ok (.return_, 1) := by decide +kernel
theorem dX3_isMissing_0 : decode cX3_isMissing 0 = .ok (.aload_n 0, 1) := by decide +kernel
theorem dX3_isMissing_1 : decode cX3_isMissing 1 = .ok (.getfield 13, 3) := by decide +kernel
theorem dX3_isMissing_4 : decode cX3_isMissing 4 = .ok (.ifCond .ne 7, 3) := by decide +kernel
theorem dX3_isMissing_7 : decode cX3_isMissing 7 = .ok (.iconst 1, 1) := by decide +kernel
theorem dX3_isMissing_8 : decode cX3_isMissing 8 = .ok (.goto 4, 3) := by decide +kernel
theorem dX3_isMissing_11 : decode cX3_isMissing 11 = .ok (.iconst 0, 1) := by decide +kernel
theorem dX3_isMissing_12 : decode cX3_isMissing 12 = .ok (.ireturn, 1) := by decide +kernel
set_option maxRecDepth 20000 in
theorem ggX3_shape_J7_fill_d0a16 : GoodIn wsX3_shape wsJ7_fill_d0a16 := goodIn_r _ [7] (by decide +kernel) (by decide +kernel)
set_option maxRecDepth 20000 in
theorem gX3_shape_J7_fill_d0a16 : GoodIn wsX3_shape (va_wsS RX3 20 yJ7_fill_d0a16 wsJ7_fill_d0a16) := goodIn_app (goodIn_of _ (by decide +kernel)) ggX3_shape_J7_fill_d0a16
theorem dX3_shape_0 : decode cX3_shape 0 = .ok (.aload_n 0, 1) := by decide +kernel
theorem dX3_shape_1 : decode cX3_shape 1 = .ok (.iload_n 1, 1) := by decide +kernel
theorem dX3_shape_2 : decode cX3_shape 2 = .ok (.putfield 13, 3) := by decide +kernel
theorem dX3_shape_5 : decode cX3_shape 5 = .ok (.aload_n 0, 1) := by decide +kernel
theorem dX3_shape_6 : decode cX3_shape 6 = .ok (.iload_n 1, 1) := by decide +kernel
theorem dX3_shape_7 : decode cX3_shape 7 = .ok (.ifCond .ne 7, 3) := by decide +kernel
theorem dX3_shape_10 : decode cX3_shape 10 = .ok (.iconst 0, 1) := by decide +kernel
theorem dX3_shape_11 : decode cX3_shape 11 = .ok (.goto 4, 3) := by decide +kernel
theorem dX3_shape_14 : decode cX3_shape 14 = .ok (.iload_n 2, 1) := by decide +kernel
theorem dX3_shape_15 : decode cX3_shape 15 = .ok (.putfield 17, 3) := by decide +kernel
theorem dX3_shape_18 : decode cX3_shape 18 = .ok (.aload_n 0, 1) := by decide +kernel
theorem dX3_shape_19 : decode cX3_shape 19 = .ok (.getfield 9, 3) := by decide +kernel
theorem dX3_shape_22 : decode cX3_shape 22 = .ok (.lconst 0, 1) := by decide +kernel
theorem dX3_shape_23 : decode cX3_shape 23 = .ok (.invokestatic 20, 3) := by decide +kernel
theorem dX3_shape_26 : decode cX3_shape 26 = .ok (.return_, 1) := by decide +kernel
theorem dX3_put_0 : decode cX3_put 0 = .ok (.iload_n 1, 1) := by decide +kernel
theorem dX3_put_1 : decode cX3_put 1 = .ok (.ifCond .lt 11, 3) := by decide +kernel
theorem dX3_put_4 : decode cX3_put 4 = .ok (.iload_n 1, 1) := by decide +kernel
theorem dX3_put_5 : decode cX3_put 5 = .ok (.aload_n 0, 1) := by decide +kernel
theorem dX3_put_6 : decode cX3_put 6 = .ok (.getfield 17, 3) := by decide +kernel
theorem dX3_put_9 : decode cX3_put 9 = .ok (.if_icmp .lt 4, 3) := by decide +kernel
theorem dX3_put_12 : decode cX3_put 12 = .ok (.return_, 1) := by decide +kernel
theorem dX3_put_13 : decode cX3_put 13 = .ok (.aload_n 0, 1) := by decide +kernel
theorem dX3_put_14 : decode cX3_put 14 = .ok (.getfield 9, 3) := by decide +kernel
theorem dX3_put_17 : decode cX3_put 17 = .ok (.iload_n 1, 1) := by decide +kernel
theorem dX3_put_18 : decode cX3_put 18 = .ok (.aload_n 0, 1) := by decide +kernel
theorem dX3_put_19 : decode cX3_put 19 = .ok (.getfield 13, 3) := by decide +kernel
theorem dX3_put_22 : decode cX3_put 22 = .ok (.bipush 8, 2) := by decide +kernel
theorem dX3_put_24 : decode cX3_put 24 = .ok (.if_icmp .ne 10, 3) := by decide +kernel
theorem dX3_put_27 : decode cX3_put 27 = .ok (.lload_n 2, 1) := by decide +kernel
theorem dX3_put_28 : decode cX3_put 28 = .ok (.l2i, 1) := by decide +kernel
theorem dX3_put_29 : decode cX3_put 29 = .ok (.i2b, 1) := by decide +kernel
theorem dX3_put_30 : decode cX3_put 30 = .ok (.i2l, 1) := by decide +kernel
theorem dX3_put_31 : decode cX3_put 31 = .ok (.goto 20, 3) := by decide +kernel
theorem dX3_put_34 : decode cX3_put 34 = .ok (.aload_n 0, 1) := by decide +kernel
theorem dX3_put_35 : decode cX3_put 35 = .ok (.getfield 13, 3) := by decide +kernel
theorem dX3_put_38 : decode cX3_put 38 = .ok (.bipush 16, 2) := by decide +kernel
theorem dX3_put_40 : decode cX3_put 40 = .ok (.if_icmp .ne 10, 3) := by decide +kernel
theorem dX3_put_43 : decode cX3_put 43 = .ok (.lload_n 2, 1) := by decide +kernel
theorem dX3_put_44 : decode cX3_put 44 = .ok (.l2i, 1) := by decide +kernel
theorem dX3_put_45 : decode cX3_put 45 = .ok (.i2s, 1) := by decide +kernel
theorem dX3_put_46 : decode cX3_put 46 = .ok (.i2l, 1) := by decide +kernel
theorem dX3_put_47 : decode cX3_put 47 = .ok (.goto 4, 3) := by decide +kernel
theorem dX3_put_50 : decode cX3_put 50 = .ok (.lload_n 2, 1) := by decide +kernel
theorem dX3_put_51 : decode cX3_put 51 = .ok (.lastore, 1) := by decide +kernel
theorem dX3_put_52 : decode cX3_put 52 = .ok (.return_, 1) := by decide +kernel
theorem dX3_has_0 : decode cX3_has 0 = .ok (.iload_n 1, 1) := by decide +kernel
theorem dX3_has_1 : decode cX3_has 1 = .ok (.ifCond .lt 29, 3) := by decide +kernel
theorem dX3_has_4 : decode cX3_has 4 = .ok (.iload_n 2, 1) := by decide +kernel
theorem dX3_has_5 : decode cX3_has 5 = .ok (.ifCond .lt 25, 3) := by decide +kernel
theorem dX3_has_8 : decode cX3_has 8 = .ok (.iload_n 1, 1) := by decide +kernel
theorem dX3_has_9 : decode cX3_has 9 = .ok (.aload_n 0, 1) := by decide +kernel
theorem dX3_has_10 : decode cX3_has 10 = .ok (.getfield 17, 3) := by decide +kernel
theorem dX3_has_13 : decode cX3_has 13 = .ok (.if_icmp .gt 17, 3) := by decide +kernel
theorem dX3_has_16 : decode cX3_has 16 = .ok (.iload_n 2, 1) := by decide +kernel
theorem dX3_has_17 : decode cX3_has 17 = .ok (.aload_n 0, 1) := by decide +kernel
theorem dX3_has_18 : decode cX3_has 18 = .ok (.getfield 17, 3) := by decide +kernel
theorem dX3_has_21 : decode cX3_has 21 = .ok (.iload_n 1, 1) := by decide +kernel
theorem dX3_has_22 : decode cX3_has 22 = .ok (.isub, 1) := by decide +kernel
theorem dX3_has_23 : decode cX3_has 23 = .ok (.if_icmp .gt 7, 3) := by decide +kernel
theorem dX3_has_26 : decode cX3_has 26 = .ok (.iconst 1, 1) := by decide +kernel
theorem dX3_has_27 : decode cX3_has 27 = .ok (.goto 4, 3) := by decide +kernel
theorem dX3_has_30 : decode cX3_has 30 = .ok (.iconst 0, 1) := by decide +kernel
theorem dX3_has_31 : decode cX3_has 31 = .ok (.ireturn, 1) := by decide +kernel
set_option maxRecDepth 20000 in
theorem ggX4_init_J7_fill_53178 : GoodIn wsX4_init wsJ7_fill_53178 := goodIn_r _ [16] (by decide +kernel) (by decide +kernel)
set_option maxRecDepth 20000 in
theorem gX4_init_J7_fill_53178 : GoodIn wsX4_init (va_wsS RX4 37 yJ7_fill_53178 wsJ7_fill_53178) := goodIn_app (goodIn_of _ (by decide +kernel)) ggX4_init_J7_fill_53178
theorem dX4_init_0 : decode cX4_init 0 = .ok (.aload_n 0, 1) := by decide +kernel
theorem dX4_init_1 : decode cX4_init 1 = .ok (.invokespecial 3, 3) := by decide +kernel
theorem dX4_init_4 : decode cX4_init 4 = .ok (.aload_n 0, 1) := by decide +kernel
theorem dX4_init_5 : decode cX4_init 5 = .ok (.iconst 0, 1) := by decide +kernel
theorem dX4_init_6 : decode cX4_init 6 = .ok (.putfield 9, 3) := by decide +kernel
theorem dX4_init_9 : decode cX4_init 9 = .ok (.aload_n 0, 1) := by decide +kernel
theorem dX4_init_10 : decode cX4_init 10 = .ok (.iconst 5, 1) := by decide +kernel
theorem dX4_init_11 : decode cX4_init 11 = .ok (.putfield 15, 3) := by decide +kernel
theorem dX4_init_14 : decode cX4_init 14 = .ok (.aload_n 0, 1) := by decide +kernel
theorem dX4_init_15 : decode cX4_init 15 = .ok (.iconst 0, 1) := by decide +kernel
theorem dX4_init_16 : decode cX4_init 16 = .ok (.putfield 18, 3) := by decide +kernel
theorem dX4_init_19 : decode cX4_init 19 = .ok (.aload_n 0, 1) := by decide +kernel
theorem dX4_init_20 : decode cX4_init 20 = .ok (.bipush 8, 2) := by decide +kernel
theorem dX4_init_22 : decode cX4_init 22 = .ok (.newarray .int, 2) := by decide +kernel
theorem dX4_init_24 : decode cX4_init 24 = .ok (.putfield 21, 3) := by decide +kernel
theorem dX4_init_27 : decode cX4_init 27 = .ok (.aload_n 0, 1) := by decide +kernel
theorem dX4_init_28 : decode cX4_init 28 = .ok (.iconst 2, 1) := by decide +kernel
theorem dX4_init_29 : decode cX4_init 29 = .ok (.newarray .int, 2) := by decide +kernel
theorem dX4_init_31 : decode cX4_init 31 = .ok (.putfield 25, 3) := by decide +kernel
theorem dX4_init_34 : decode cX4_init 34 = .ok (.aload_n 0, 1) := by decide +kernel
theorem dX4_init_35 : decode cX4_init 35 = .ok (.iconst 2, 1) := by decide +kernel
theorem dX4_init_36 : decode cX4_init 36 = .ok (.newarray .int, 2) := by decide +kernel
theorem dX4_init_38 : decode cX4_init 38 = .ok (.putfield 28, 3) := by decide +kernel
theorem dX4_init_41 : decode cX4_init 41 = .ok (.aload_n 0, 1) := by decide +kernel
theorem dX4_init_42 : decode cX4_init 42 = .ok (.bipush 8, 2) := by decide +kernel
theorem dX4_init_44 : decode cX4_init 44 = .ok (.newarray .int, 2) := by decide +kernel
theorem dX4_init_46 : decode cX4_init 46 = .ok (.putfield 31, 3) := by decide +kernel
theorem dX4_init_49 : decode cX4_init 49 = .ok (.aload_n 0, 1) := by decide +kernel
theorem dX4_init_50 : decode cX4_init 50 = .ok (.bipush 8, 2) := by decide +kernel
theorem dX4_init_52 : decode cX4_init 52 = .ok (.newarray .int, 2) := by decide +kernel
theorem dX4_init_54 : decode cX4_init 54 = .ok (.putfield 34, 3) := by decide +kernel
theorem dX4_init_57 : decode cX4_init 57 = .ok (.aload_n 0, 1) := by decide +kernel
theorem dX4_init_58 : decode cX4_init 58 = .ok (.getfield 21, 3) := by decide +kernel
theorem dX4_init_61 : decode cX4_init 61 = .ok (.iconst (-1), 1) := by decide +kernel
theorem dX4_init_62 : decode cX4_init 62 = .ok (.invokestatic 37, 3) := by decide +kernel
theorem dX4_init_65 : decode cX4_init 65 = .ok (.aload_n 0, 1) := by decide +kernel
theorem dX4_init_66 : decode cX4_init 66 = .ok (.getfield 25, 3) := by decide +kernel
theorem dX4_init_69 : decode cX4_init 69 = .ok (.bipush 50, 2) := by decide +kernel
theorem dX4_init_71 : decode cX4_init 71 = .ok (.invokestatic 37, 3) := by decide +kernel
theorem dX4_init_74 : decode cX4_init 74 = .ok (.aload_n 0, 1) := by decide +kernel
theorem dX4_init_75 : decode cX4_init 75 = .ok (.getfield 28, 3) := by decide +kernel
theorem dX4_init_78 : decode cX4_init 78 = .ok (.iconst (-1), 1) := by decide +kernel
theorem dX4_init_79 : decode cX4_init 79 = .ok (.invokestatic 37, 3) := by decide +kernel
theorem dX4_init_82 : decode cX4_init 82 = .ok (.return_, 1) := by decide +kernel
theorem dX4_become_0 : decode cX4_become 0 = .ok (.aload_n 0, 1) := by decide +kernel
theorem dX4_become_1 : decode cX4_become 1 = .ok (.aload_n 1, 1) := by decide +kernel
theorem dX4_become_2 : decode cX4_become 2 = .ok (.getfield 9, 3) := by decide +kernel
theorem dX4_become_5 : decode cX4_become 5 = .ok (.putfield 9, 3) := by decide +kernel
theorem dX4_become_8 : decode cX4_become 8 = .ok (.aload_n 0, 1) := by decide +kernel
theorem dX4_become_9 : decode cX4_become 9 = .ok (.aload_n 1, 1) := by decide +kernel
theorem dX4_become_10 : decode cX4_become 10 = .ok (.getfield 15, 3) := by decide +kernel
theorem dX4_become_13 : decode cX4_become 13 = .ok (.putfield 15, 3) := by decide +kernel
theorem dX4_become_16 : decode cX4_become 16 = .ok (.aload_n 0, 1) := by decide +kernel
theorem dX4_become_17 : decode cX4_become 17 = .ok (.aload_n 1, 1) := by decide +kernel
theorem dX4_become_18 : decode cX4_become 18 = .ok (.getfield 18, 3) := by decide +kernel
theorem dX4_become_21 : decode cX4_become 21 = .ok (.putfield 18, 3) := by decide +kernel
theorem dX4_become_24 : decode cX4_become 24 = .ok (.aload_n 1, 1) := by decide +kernel
theorem dX4_become_25 : decode cX4_become 25 = .ok (.getfield 21, 3) := by decide +kernel
theorem dX4_become_28 : decode cX4_become 28 = .ok (.iconst 0, 1) := by decide +kernel
theorem dX4_become_29 : decode cX4_become 29 = .ok (.aload_n 0, 1) := by decide +kernel
theorem dX4_become_30 : decode cX4_become 30 = .ok (.getfield 21, 3) := by decide +kernel
theorem dX4_become_33 : decode cX4_become 33 = .ok (.iconst 0, 1) := by decide +kernel
theorem dX4_become_34 : decode cX4_become 34 = .ok (.bipush 8, 2) := by decide +kernel
theorem dX4_become_36 : decode cX4_become 36 = .ok (.invokestatic 43, 3) := by decide +kernel
theorem dX4_become_39 : decode cX4_become 39 = .ok (.aload_n 1, 1) := by decide +kernel
theorem dX4_become_40 : decode cX4_become 40 = .ok (.getfield 25, 3) := by decide +kernel
theorem dX4_become_43 : decode cX4_become 43 = .ok (.iconst 0, 1) := by decide +kernel
theorem dX4_become_44 : decode cX4_become 44 = .ok (.aload_n 0, 1) := by decide +kernel
theorem dX4_become_45 : decode cX4_become 45 = .ok (.getfield 25, 3) := by decide +kernel
theorem dX4_become_48 : decode cX4_become 48 = .ok (.iconst 0, 1) := by decide +kernel
theorem dX4_become_49 : decode cX4_become 49 = .ok (.iconst 2, 1) := by decide +kernel
theorem dX4_become_50 : decode cX4_become 50 = .ok (.invokestatic 43, 3) := by decide +kernel
theorem dX4_become_53 : decode cX4_become 53 = .ok (.aload_n 1, 1) := by decide +kernel
theorem dX4_become_54 : decode cX4_become 54 = .ok (.getfield 28, 3) := by decide +kernel
theorem dX4_become_57 : decode cX4_become 57 = .ok (.iconst 0, 1) := by decide +kernel
theorem dX4_become_58 : decode cX4_become 58 = .ok (.aload_n 0, 1) := by decide +kernel
theorem dX4_become_59 : decode cX4_become 59 = .ok (.getfield 28, 3) := by decide +kernel
theorem dX4_become_62 : decode cX4_become 62 = .ok (.iconst 0, 1) := by decide +kernel
theorem dX4_become_63 : decode cX4_become 63 = .ok (.iconst 2, 1) := by decide +kernel
theorem dX4_become_64 : decode cX4_become 64 = .ok (.invokestatic 43, 3) := by decide +kernel
theorem dX4_become_67 : decode cX4_become 67 = .ok (.aload_n 1, 1) := by decide +kernel
theorem dX4_become_68 : decode cX4_become 68 = .ok (.getfield 31, 3) := by decide +kernel
theorem dX4_become_71 : decode cX4_become 71 = .ok (.iconst 0, 1) := by decide +kernel
theorem dX4_become_72 : decode cX4_become 72 = .ok (.aload_n 0, 1) := by decide +kernel
theorem dX4_become_73 : decode cX4_become 73 = .ok (.getfield 31, 3) := by decide +kernel
theorem dX4_become_76 : decode cX4_become 76 = .ok (.iconst 0, 1) := by decide +kernel
theorem dX4_become_77 : decode cX4_become 77 = .ok (.bipush 8, 2) := by decide +kernel
theorem dX4_become_79 : decode cX4_become 79 = .ok (.invokestatic 43, 3) := by decide +kernel
theorem dX4_become_82 : decode cX4_become 82 = .ok (.aload_n 1, 1) := by decide +kernel
theorem dX4_become_83 : decode cX4_become 83 = .ok (.getfield 34, 3) := by decide +kernel
theorem dX4_become_86 : decode cX4_become 86 = .ok (.iconst 0, 1) := by decide +kernel
theorem dX4_become_87 : decode cX4_become 87 = .ok (.aload_n 0, 1) := by decide +kernel
theorem dX4_become_88 : decode cX4_become 88 = .ok (.getfield 34, 3) := by decide +kernel
theorem dX4_become_91 : decode cX4_become 91 = .ok (.iconst 0, 1) := by decide +kernel
theorem dX4_become_92 : decode cX4_become 92 = .ok (.bipush 8, 2) := by decide +kernel
theorem dX4_become_94 : decode cX4_become 94 = .ok (.invokestatic 43, 3) := by decide +kernel
theorem dX4_become_97 : decode cX4_become 97 = .ok (.return_, 1) := by decide +kernel
theorem dX4_trump_0 : decode cX4_trump 0 = .ok (.aload_n 0, 1) := by decide +kernel
theorem dX4_trump_1 : decode cX4_trump 1 = .ok (.getfield 9, 3) := by decide +kernel
theorem dX4_trump_4 : decode cX4_trump 4 = .ok (.iconst 4, 1) := by decide +kernel
theorem dX4_trump_5 : decode cX4_trump 5 = .ok (.irem, 1) := by decide +kernel
theorem dX4_trump_6 : decode cX4_trump 6 = .ok (.ireturn, 1) := by decide +kernel
theorem dX4_stake_0 : decode cX4_stake 0 = .ok (.aload_n 0, 1) := by decide +kernel
theorem dX4_stake_1 : decode cX4_stake 1 = .ok (.getfield 9, 3) := by decide +kernel
theorem dX4_stake_4 : decode cX4_stake 4 = .ok (.bipush 8, 2) := by decide +kernel
theorem dX4_stake_6 : decode cX4_stake 6 = .ok (.irem, 1) := by decide +kernel
theorem dX4_stake_7 : decode cX4_stake 7 = .ok (.ireturn, 1) := by decide +kernel
set_option maxRecDepth 20000 in
theorem ggX4_hand_X0_dealtHand : GoodIn wsX4_hand wsX0_dealtHand := goodIn_r _ [6, 7, 8, 5, 9] (by decide +kernel) (by decide +kernel)
set_option maxRecDepth 20000 in
theorem gX4_hand_X0_dealtHand : GoodIn wsX4_hand (va_wsS RX4 49 yX0_dealtHand wsX0_dealtHand) := goodIn_app (goodIn_of _ (by decide +kernel)) ggX4_hand_X0_dealtHand
theorem dX4_hand_0 : decode cX4_hand 0 = .ok (.aload_n 0, 1) := by decide +kernel
theorem dX4_hand_1 : decode cX4_hand 1 = .ok (.getfield 15, 3) := by decide +kernel
theorem dX4_hand_4 : decode cX4_hand 4 = .ok (.iload_n 1, 1) := by decide +kernel
theorem dX4_hand_5 : decode cX4_hand 5 = .ok (.aload_n 0, 1) := by decide +kernel
theorem dX4_hand_6 : decode cX4_hand 6 = .ok (.getfield 9, 3) := by decide +kernel
theorem dX4_hand_9 : decode cX4_hand 9 = .ok (.invokestatic 49, 3) := by decide +kernel
theorem dX4_hand_12 : decode cX4_hand 12 = .ok (.ireturn, 1) := by decide +kernel
theorem dX4_bothSent_0 : decode cX4_bothSent 0 = .ok (.aload_n 0, 1) := by decide +kernel
theorem dX4_bothSent_1 : decode cX4_bothSent 1 = .ok (.getfield 28, 3) := by decide +kernel
theorem dX4_bothSent_4 : decode cX4_bothSent 4 = .ok (.iconst 0, 1) := by decide +kernel
theorem dX4_bothSent_5 : decode cX4_bothSent 5 = .ok (.iaload, 1) := by decide +kernel
theorem dX4_bothSent_6 : decode cX4_bothSent 6 = .ok (.ifCond .lt 16, 3) := by decide +kernel
theorem dX4_bothSent_9 : decode cX4_bothSent 9 = .ok (.aload_n 0, 1) := by decide +kernel
theorem dX4_bothSent_10 : decode cX4_bothSent 10 = .ok (.getfield 28, 3) := by decide +kernel
theorem dX4_bothSent_13 : decode cX4_bothSent 13 = .ok (.iconst 1, 1) := by decide +kernel
theorem dX4_bothSent_14 : decode cX4_bothSent 14 = .ok (.iaload, 1) := by decide +kernel
theorem dX4_bothSent_15 : decode cX4_bothSent 15 = .ok (.ifCond .lt 7, 3) := by decide +kernel
theorem dX4_bothSent_18 : decode cX4_bothSent 18 = .ok (.iconst 1, 1) := by decide +kernel
theorem dX4_bothSent_19 : decode cX4_bothSent 19 = .ok (.goto 4, 3) := by decide +kernel
theorem dX4_bothSent_22 : decode cX4_bothSent 22 = .ok (.iconst 0, 1) := by decide +kernel
theorem dX4_bothSent_23 : decode cX4_bothSent 23 = .ok (.ireturn, 1) := by decide +kernel
theorem dX4_senders_0 : decode cX4_senders 0 = .ok (.aload_n 0, 1) := by decide +kernel
theorem dX4_senders_1 : decode cX4_senders 1 = .ok (.getfield 28, 3) := by decide +kernel
theorem dX4_senders_4 : decode cX4_senders 4 = .ok (.iconst 0, 1) := by decide +kernel
theorem dX4_senders_5 : decode cX4_senders 5 = .ok (.iaload, 1) := by decide +kernel
theorem dX4_senders_6 : decode cX4_senders 6 = .ok (.iload_n 1, 1) := by decide +kernel
theorem dX4_senders_7 : decode cX4_senders 7 = .ok (.if_icmp .ne 7, 3) := by decide +kernel
theorem dX4_senders_10 : decode cX4_senders 10 = .ok (.iconst 1, 1) := by decide +kernel
theorem dX4_senders_11 : decode cX4_senders 11 = .ok (.goto 4, 3) := by decide +kernel
theorem dX4_senders_14 : decode cX4_senders 14 = .ok (.iconst 0, 1) := by decide +kernel
theorem dX4_senders_15 : decode cX4_senders 15 = .ok (.aload_n 0, 1) := by decide +kernel
theorem dX4_senders_16 : decode cX4_senders 16 = .ok (.getfield 28, 3) := by decide +kernel
theorem dX4_senders_19 : decode cX4_senders 19 = .ok (.iconst 1, 1) := by decide +kernel
theorem dX4_senders_20 : decode cX4_senders 20 = .ok (.iaload, 1) := by decide +kernel
theorem dX4_senders_21 : decode cX4_senders 21 = .ok (.iload_n 1, 1) := by decide +kernel
theorem dX4_senders_22 : decode cX4_senders 22 = .ok (.if_icmp .ne 7, 3) := by decide +kernel
theorem dX4_senders_25 : decode cX4_senders 25 = .ok (.iconst 2, 1) := by decide +kernel
theorem dX4_senders_26 : decode cX4_senders 26 = .ok (.goto 4, 3) := by decide +kernel
theorem dX4_senders_29 : decode cX4_senders 29 = .ok (.iconst 0, 1) := by decide +kernel
theorem dX4_senders_30 : decode cX4_senders 30 = .ok (.iadd, 1) := by decide +kernel
theorem dX4_senders_31 : decode cX4_senders 31 = .ok (.ireturn, 1) := by decide +kernel
set_option maxRecDepth 20000 in
theorem ggX4_owned_X4_ownedSet : GoodIn wsX4_owned wsX4_ownedSet := goodIn_r _ [5, 6, 14, 15, 16, 17, 18, 19, 20, 21] (by decide +kernel) (by decide +kernel)
set_option maxRecDepth 20000 in
theorem gX4_owned_X4_ownedSet : GoodIn wsX4_owned (wsV RX4 55 RX4 yX4_ownedSet wsX4_ownedSet) := goodIn_app (goodIn_of _ (by decide +kernel)) ggX4_owned_X4_ownedSet
set_option maxRecDepth 20000 in
theorem ggX4_owned_J6_bitCount_0f7a4 : GoodIn wsX4_owned wsJ6_bitCount_0f7a4 := goodIn_r _ [10, 11, 12, 13] (by decide +kernel) (by decide +kernel)
set_option maxRecDepth 20000 in
theorem gX4_owned_J6_bitCount_0f7a4 : GoodIn wsX4_owned (va_wsS RX4 59 yJ6_bitCount_0f7a4 wsJ6_bitCount_0f7a4) := goodIn_app (goodIn_of _ (by decide +kernel)) ggX4_owned_J6_bitCount_0f7a4
theorem dX4_owned_0 : decode cX4_owned 0 = .ok (.aload_n 0, 1) := by decide +kernel
theorem dX4_owned_1 : decode cX4_owned 1 = .ok (.iload_n 1, 1) := by decide +kernel
theorem dX4_owned_2 : decode cX4_owned 2 = .ok (.invokevirtual 55, 3) := by decide +kernel
theorem dX4_owned_5 : decode cX4_owned 5 = .ok (.invokestatic 59, 3) := by decide +kernel
theorem dX4_owned_8 : decode cX4_owned 8 = .ok (.ireturn, 1) := by decide +kernel
theorem dX4_ownedSet_0 : decode cX4_ownedSet 0 = .ok (.iconst 0, 1) := by decide +kernel
theorem dX4_ownedSet_1 : decode cX4_ownedSet 1 = .ok (.istore_n 2, 1) := by decide +kernel
theorem dX4_ownedSet_2 : decode cX4_ownedSet 2 = .ok (.iconst 0, 1) := by decide +kernel
theorem dX4_ownedSet_3 : decode cX4_ownedSet 3 = .ok (.istore_n 3, 1) := by decide +kernel
theorem dX4_ownedSet_4 : decode cX4_ownedSet 4 = .ok (.iload_n 3, 1) := by decide +kernel
theorem dX4_ownedSet_5 : decode cX4_ownedSet 5 = .ok (.bipush 8, 2) := by decide +kernel
theorem dX4_ownedSet_7 : decode cX4_ownedSet 7 = .ok (.if_icmp .ge 25, 3) := by decide +kernel
theorem dX4_ownedSet_10 : decode cX4_ownedSet 10 = .ok (.aload_n 0, 1) := by decide +kernel
theorem dX4_ownedSet_11 : decode cX4_ownedSet 11 = .ok (.getfield 21, 3) := by decide +kernel
theorem dX4_ownedSet_14 : decode cX4_ownedSet 14 = .ok (.iload_n 3, 1) := by decide +kernel
theorem dX4_ownedSet_15 : decode cX4_ownedSet 15 = .ok (.iaload, 1) := by decide +kernel
theorem dX4_ownedSet_16 : decode cX4_ownedSet 16 = .ok (.iload_n 1, 1) := by decide +kernel
theorem dX4_ownedSet_17 : decode cX4_ownedSet 17 = .ok (.if_icmp .ne 9, 3) := by decide +kernel
theorem dX4_ownedSet_20 : decode cX4_ownedSet 20 = .ok (.iload_n 2, 1) := by decide +kernel
theorem dX4_ownedSet_21 : decode cX4_ownedSet 21 = .ok (.iconst 1, 1) := by decide +kernel
theorem dX4_ownedSet_22 : decode cX4_ownedSet 22 = .ok (.iload_n 3, 1) := by decide +kernel
theorem dX4_ownedSet_23 : decode cX4_ownedSet 23 = .ok (.ishl, 1) := by decide +kernel
theorem dX4_ownedSet_24 : decode cX4_ownedSet 24 = .ok (.ior, 1) := by decide +kernel
theorem dX4_ownedSet_25 : decode cX4_ownedSet 25 = .ok (.istore_n 2, 1) := by decide +kernel
theorem dX4_ownedSet_26 : decode cX4_ownedSet 26 = .ok (.iinc 3 1, 3) := by decide +kernel
theorem dX4_ownedSet_29 : decode cX4_ownedSet 29 = .ok (.goto (-25), 3) := by decide +kernel
theorem dX4_ownedSet_32 : decode cX4_ownedSet 32 = .ok (.iload_n 2, 1) := by decide +kernel
theorem dX4_ownedSet_33 : decode cX4_ownedSet 33 = .ok (.ireturn, 1) := by decide +kernel
theorem dX4_winsTogether_0 : decode cX4_winsTogether 0 = .ok (.iconst 0, 1) := by decide +kernel
theorem dX4_winsTogether_1 : decode cX4_winsTogether 1 = .ok (.istore_n 1, 1) := by decide +kernel
theorem dX4_winsTogether_2 : decode cX4_winsTogether 2 = .ok (.iconst 0, 1) := by decide +kernel
theorem dX4_winsTogether_3 : decode cX4_winsTogether 3 = .ok (.istore_n 2, 1) := by decide +kernel
theorem dX4_winsTogether_4 : decode cX4_winsTogether 4 = .ok (.iload_n 2, 1) := by decide +kernel
theorem dX4_winsTogether_5 : decode cX4_winsTogether 5 = .ok (.aload_n 0, 1) := by decide +kernel
theorem dX4_winsTogether_6 : decode cX4_winsTogether 6 = .ok (.getfield 18, 3) := by decide +kernel
theorem dX4_winsTogether_9 : decode cX4_winsTogether 9 = .ok (.if_icmp .ge 18, 3) := by decide +kernel
theorem dX4_winsTogether_12 : decode cX4_winsTogether 12 = .ok (.iload_n 1, 1) := by decide +kernel
theorem dX4_winsTogether_13 : decode cX4_winsTogether 13 = .ok (.aload_n 0, 1) := by decide +kernel
theorem dX4_winsTogether_14 : decode cX4_winsTogether 14 = .ok (.getfield 34, 3) := by decide +kernel
theorem dX4_winsTogether_17 : decode cX4_winsTogether 17 = .ok (.iload_n 2, 1) := by decide +kernel
theorem dX4_winsTogether_18 : decode cX4_winsTogether 18 = .ok (.iaload, 1) := by decide +kernel
theorem dX4_winsTogether_19 : decode cX4_winsTogether 19 = .ok (.iadd, 1) := by decide +kernel
theorem dX4_winsTogether_20 : decode cX4_winsTogether 20 = .ok (.istore_n 1, 1) := by decide +kernel
theorem dX4_winsTogether_21 : decode cX4_winsTogether 21 = .ok (.iinc 2 1, 3) := by decide +kernel
theorem dX4_winsTogether_24 : decode cX4_winsTogether 24 = .ok (.goto (-20), 3) := by decide +kernel
theorem dX4_winsTogether_27 : decode cX4_winsTogether 27 = .ok (.iload_n 1, 1) := by decide +kernel
theorem dX4_winsTogether_28 : decode cX4_winsTogether 28 = .ok (.ireturn, 1) := by decide +kernel
theorem dX4_seat_0 : decode cX4_seat 0 = .ok (.aload_n 0, 1) := by decide +kernel
theorem dX4_seat_1 : decode cX4_seat 1 = .ok (.getfield 18, 3) := by decide +kernel
theorem dX4_seat_4 : decode cX4_seat 4 = .ok (.bipush 8, 2) := by decide +kernel
theorem dX4_seat_6 : decode cX4_seat 6 = .ok (.if_icmp .lt 5, 3) := by decide +kernel
theorem dX4_seat_9 : decode cX4_seat 9 = .ok (.iconst (-1), 1) := by decide +kernel
theorem dX4_seat_10 : decode cX4_seat 10 = .ok (.ireturn, 1) := by decide +kernel
theorem dX4_seat_11 : decode cX4_seat 11 = .ok (.aload_n 0, 1) := by decide +kernel
theorem dX4_seat_12 : decode cX4_seat 12 = .ok (.getfield 31, 3) := by decide +kernel
theorem dX4_seat_15 : decode cX4_seat 15 = .ok (.aload_n 0, 1) := by decide +kernel
theorem dX4_seat_16 : decode cX4_seat 16 = .ok (.getfield 18, 3) := by decide +kernel
theorem dX4_seat_19 : decode cX4_seat 19 = .ok (.iload_n 1, 1) := by decide +kernel
theorem dX4_seat_20 : decode cX4_seat 20 = .ok (.iastore, 1) := by decide +kernel
theorem dX4_seat_21 : decode cX4_seat 21 = .ok (.aload_n 0, 1) := by decide +kernel
theorem dX4_seat_22 : decode cX4_seat 22 = .ok (.getfield 34, 3) := by decide +kernel
theorem dX4_seat_25 : decode cX4_seat 25 = .ok (.aload_n 0, 1) := by decide +kernel
theorem dX4_seat_26 : decode cX4_seat 26 = .ok (.getfield 18, 3) := by decide +kernel
theorem dX4_seat_29 : decode cX4_seat 29 = .ok (.iconst 0, 1) := by decide +kernel
theorem dX4_seat_30 : decode cX4_seat 30 = .ok (.iastore, 1) := by decide +kernel
theorem dX4_seat_31 : decode cX4_seat 31 = .ok (.aload_n 0, 1) := by decide +kernel
theorem dX4_seat_32 : decode cX4_seat 32 = .ok (.dup, 1) := by decide +kernel
theorem dX4_seat_33 : decode cX4_seat 33 = .ok (.getfield 18, 3) := by decide +kernel
theorem dX4_seat_36 : decode cX4_seat 36 = .ok (.iconst 1, 1) := by decide +kernel
theorem dX4_seat_37 : decode cX4_seat 37 = .ok (.iadd, 1) := by decide +kernel
theorem dX4_seat_38 : decode cX4_seat 38 = .ok (.putfield 18, 3) := by decide +kernel
theorem dX4_seat_41 : decode cX4_seat 41 = .ok (.aload_n 0, 1) := by decide +kernel
theorem dX4_seat_42 : decode cX4_seat 42 = .ok (.getfield 18, 3) := by decide +kernel
theorem dX4_seat_45 : decode cX4_seat 45 = .ok (.iconst 1, 1) := by decide +kernel
theorem dX4_seat_46 : decode cX4_seat 46 = .ok (.isub, 1) := by decide +kernel
theorem dX4_seat_47 : decode cX4_seat 47 = .ok (.ireturn, 1) := by decide +kernel
set_option maxRecDepth 20000 in
theorem ggX4_passMonths_X4_bothSent : GoodIn wsX4_passMonths wsX4_bothSent := goodIn_r _ [5, 6, 126, 127, 128, 129, 130, 131, 132, 133] (by decide +kernel) (by decide +kernel)
set_option maxRecDepth 20000 in
theorem gX4_passMonths_X4_bothSent : GoodIn wsX4_passMonths (wsV RX4 64 RX4 yX4_bothSent wsX4_bothSent) := goodIn_app (goodIn_of _ (by decide +kernel)) ggX4_passMonths_X4_bothSent
set_option maxRecDepth 20000 in
theorem ggX4_passMonths_X1_play : GoodIn wsX4_passMonths wsX1_play := goodIn_r _ [11, 12, 13, 14, 15, 16, 17, 4, 18, 19, 20, 21, 22, 23, 24, 25, 26, 27, 28, 29, 30, 10, 31, 32, 33, 34, 35, 36, 37, 38, 39, 40, 41, 42, 43, 44, 45, 46, 47, 48, 49, 50, 51, 52, 53, 54, 55, 56, 57, 58, 59, 60, 61, 62, 63, 64, 65, 66, 67, 68, 69, 70, 71, 72, 73, 74, 75, 76, 77, 78, 79, 80, 81, 82, 83, 84, 134, 135, 136, 137, 138, 126, 127, 128, 129, 130, 131, 132, 133] (by decide +kernel) (by decide +kernel)
set_option maxRecDepth 20000 in
theorem gX4_passMonths_X1_play : GoodIn wsX4_passMonths (wsV RX4 68 RX1 yX1_play wsX1_play) := goodIn_app (goodIn_of _ (by decide +kernel)) ggX4_passMonths_X1_play
set_option maxRecDepth 20000 in
theorem ggX4_passMonths_X1_victor : GoodIn wsX4_passMonths wsX1_victor := goodIn_r _ [88, 89, 90, 91, 10, 92, 14, 134, 135, 136, 137, 138] (by decide +kernel) (by decide +kernel)
set_option maxRecDepth 20000 in
theorem gX4_passMonths_X1_victor : GoodIn wsX4_passMonths (wsV RX4 74 RX1 yX1_victor wsX1_victor) := goodIn_app (goodIn_of _ (by decide +kernel)) ggX4_passMonths_X1_victor
set_option maxRecDepth 20000 in
theorem ggX4_passMonths_X4_reward : GoodIn wsX4_passMonths wsX4_reward := goodIn_r _ [96, 6, 97, 98, 99, 100, 101, 126, 127, 128, 129, 130, 131, 132, 133] (by decide +kernel) (by decide +kernel)
set_option maxRecDepth 20000 in
theorem gX4_passMonths_X4_reward : GoodIn wsX4_passMonths (wsV RX4 78 RX4 yX4_reward wsX4_reward) := goodIn_app (goodIn_of _ (by decide +kernel)) ggX4_passMonths_X4_reward
set_option maxRecDepth 20000 in
theorem ggX4_passMonths_X4_close : GoodIn wsX4_passMonths wsX4_close := goodIn_r _ [105, 106, 107, 108, 98, 99, 100, 101, 20, 109, 110, 111, 4, 112, 113, 114, 115, 116, 117, 118, 119, 120, 121, 53, 54, 55, 56, 57, 58, 126, 127, 128, 129, 130, 131, 132, 133] (by decide +kernel) (by decide +kernel)
set_option maxRecDepth 20000 in
theorem gX4_passMonths_X4_close : GoodIn wsX4_passMonths (wsV RX4 82 RX4 yX4_close wsX4_close) := goodIn_app (goodIn_of _ (by decide +kernel)) ggX4_passMonths_X4_close
set_option maxRecDepth 20000 in
theorem ggX4_passMonths_X4_onlySender : GoodIn wsX4_passMonths wsX4_onlySender := goodIn_r _ [125, 6, 126, 127, 128, 129, 130, 131, 132, 133] (by decide +kernel) (by decide +kernel)
set_option maxRecDepth 20000 in
theorem gX4_passMonths_X4_onlySender : GoodIn wsX4_passMonths (wsV RX4 85 RX4 yX4_onlySender wsX4_onlySender) := goodIn_app (goodIn_of _ (by decide +kernel)) ggX4_passMonths_X4_onlySender
theorem dX4_passMonths_0 : decode cX4_passMonths 0 = .ok (.iconst 0, 1) := by decide +kernel
theorem dX4_passMonths_1 : decode cX4_passMonths 1 = .ok (.istore_n 3, 1) := by decide +kernel
theorem dX4_passMonths_2 : decode cX4_passMonths 2 = .ok (.iload_n 3, 1) := by decide +kernel
theorem dX4_passMonths_3 : decode cX4_passMonths 3 = .ok (.iload_n 1, 1) := by decide +kernel
theorem dX4_passMonths_4 : decode cX4_passMonths 4 = .ok (.if_icmp .ge 48, 3) := by decide +kernel
theorem dX4_passMonths_7 : decode cX4_passMonths 7 = .ok (.aload_n 0, 1) := by decide +kernel
theorem dX4_passMonths_8 : decode cX4_passMonths 8 = .ok (.invokevirtual 64, 3) := by decide +kernel
theorem dX4_passMonths_11 : decode cX4_passMonths 11 = .ok (.ifCond .eq 27, 3) := by decide +kernel
theorem dX4_passMonths_14 : decode cX4_passMonths 14 = .ok (.aload_n 2, 1) := by decide +kernel
theorem dX4_passMonths_15 : decode cX4_passMonths 15 = .ok (.aload_n 0, 1) := by decide +kernel
theorem dX4_passMonths_16 : decode cX4_passMonths 16 = .ok (.invokevirtual 68, 3) := by decide +kernel
theorem dX4_passMonths_19 : decode cX4_passMonths 19 = .ok (.aload_n 0, 1) := by decide +kernel
theorem dX4_passMonths_20 : decode cX4_passMonths 20 = .ok (.aload_n 2, 1) := by decide +kernel
theorem dX4_passMonths_21 : decode cX4_passMonths 21 = .ok (.invokevirtual 74, 3) := by decide +kernel
theorem dX4_passMonths_24 : decode cX4_passMonths 24 = .ok (.invokevirtual 78, 3) := by decide +kernel
theorem dX4_passMonths_27 : decode cX4_passMonths 27 = .ok (.aload_n 0, 1) := by decide +kernel
theorem dX4_passMonths_28 : decode cX4_passMonths 28 = .ok (.aload_n 2, 1) := by decide +kernel
theorem dX4_passMonths_29 : decode cX4_passMonths 29 = .ok (.invokevirtual 74, 3) := by decide +kernel
theorem dX4_passMonths_32 : decode cX4_passMonths 32 = .ok (.invokevirtual 82, 3) := by decide +kernel
theorem dX4_passMonths_35 : decode cX4_passMonths 35 = .ok (.goto 11, 3) := by decide +kernel
theorem dX4_passMonths_38 : decode cX4_passMonths 38 = .ok (.aload_n 0, 1) := by decide +kernel
theorem dX4_passMonths_39 : decode cX4_passMonths 39 = .ok (.aload_n 0, 1) := by decide +kernel
theorem dX4_passMonths_40 : decode cX4_passMonths 40 = .ok (.invokevirtual 85, 3) := by decide +kernel
theorem dX4_passMonths_43 : decode cX4_passMonths 43 = .ok (.invokevirtual 82, 3) := by decide +kernel
theorem dX4_passMonths_46 : decode cX4_passMonths 46 = .ok (.iinc 3 1, 3) := by decide +kernel
theorem dX4_passMonths_49 : decode cX4_passMonths 49 = .ok (.goto (-47), 3) := by decide +kernel
theorem dX4_passMonths_52 : decode cX4_passMonths 52 = .ok (.return_, 1) := by decide +kernel
set_option maxRecDepth 20000 in
theorem ggX4_close_X4_stake : GoodIn wsX4_close wsX4_stake := goodIn_r _ [13, 8, 29, 30, 31, 32, 33, 34, 35, 36] (by decide +kernel) (by decide +kernel)
set_option maxRecDepth 20000 in
theorem gX4_close_X4_stake : GoodIn wsX4_close (wsV RX4 88 RX4 yX4_stake wsX4_stake) := goodIn_app (goodIn_of _ (by decide +kernel)) ggX4_close_X4_stake
set_option maxRecDepth 20000 in
theorem ggX4_close_X4_owned : GoodIn wsX4_close wsX4_owned := goodIn_r _ [17, 18, 19, 20, 12, 21, 1, 22, 23, 24, 25, 26, 27, 28, 29, 30, 31, 32, 33, 34, 35, 36] (by decide +kernel) (by decide +kernel)
set_option maxRecDepth 20000 in
theorem gX4_close_X4_owned : GoodIn wsX4_close (wsV RX4 92 RX4 yX4_owned wsX4_owned) := goodIn_app (goodIn_of _ (by decide +kernel)) ggX4_close_X4_owned
theorem dX4_close_0 : decode cX4_close 0 = .ok (.aload_n 0, 1) := by decide +kernel
theorem dX4_close_1 : decode cX4_close 1 = .ok (.getfield 21, 3) := by decide +kernel
theorem dX4_close_4 : decode cX4_close 4 = .ok (.aload_n 0, 1) := by decide +kernel
theorem dX4_close_5 : decode cX4_close 5 = .ok (.invokevirtual 88, 3) := by decide +kernel
theorem dX4_close_8 : decode cX4_close 8 = .ok (.iload_n 1, 1) := by decide +kernel
theorem dX4_close_9 : decode cX4_close 9 = .ok (.iastore, 1) := by decide +kernel
theorem dX4_close_10 : decode cX4_close 10 = .ok (.iconst 0, 1) := by decide +kernel
theorem dX4_close_11 : decode cX4_close 11 = .ok (.istore_n 2, 1) := by decide +kernel
theorem dX4_close_12 : decode cX4_close 12 = .ok (.iload_n 2, 1) := by decide +kernel
theorem dX4_close_13 : decode cX4_close 13 = .ok (.iconst 2, 1) := by decide +kernel
theorem dX4_close_14 : decode cX4_close 14 = .ok (.if_icmp .ge 32, 3) := by decide +kernel
theorem dX4_close_17 : decode cX4_close 17 = .ok (.aload_n 0, 1) := by decide +kernel
theorem dX4_close_18 : decode cX4_close 18 = .ok (.getfield 25, 3) := by decide +kernel
theorem dX4_close_21 : decode cX4_close 21 = .ok (.iload_n 2, 1) := by decide +kernel
theorem dX4_close_22 : decode cX4_close 22 = .ok (.ldc 91, 2) := by decide +kernel
theorem dX4_close_24 : decode cX4_close 24 = .ok (.aload_n 0, 1) := by decide +kernel
theorem dX4_close_25 : decode cX4_close 25 = .ok (.getfield 25, 3) := by decide +kernel
theorem dX4_close_28 : decode cX4_close 28 = .ok (.iload_n 2, 1) := by decide +kernel
theorem dX4_close_29 : decode cX4_close 29 = .ok (.iaload, 1) := by decide +kernel
theorem dX4_close_30 : decode cX4_close 30 = .ok (.aload_n 0, 1) := by decide +kernel
theorem dX4_close_31 : decode cX4_close 31 = .ok (.iload_n 2, 1) := by decide +kernel
theorem dX4_close_32 : decode cX4_close 32 = .ok (.invokevirtual 92, 3) := by decide +kernel
theorem dX4_close_35 : decode cX4_close 35 = .ok (.iadd, 1) := by decide +kernel
theorem dX4_close_36 : decode cX4_close 36 = .ok (.invokestatic 95, 3) := by decide +kernel
theorem dX4_close_39 : decode cX4_close 39 = .ok (.iastore, 1) := by decide +kernel
theorem dX4_close_40 : decode cX4_close 40 = .ok (.iinc 2 1, 3) := by decide +kernel
theorem dX4_close_43 : decode cX4_close 43 = .ok (.goto (-31), 3) := by decide +kernel
theorem dX4_close_46 : decode cX4_close 46 = .ok (.aload_n 0, 1) := by decide +kernel
theorem dX4_close_47 : decode cX4_close 47 = .ok (.dup, 1) := by decide +kernel
theorem dX4_close_48 : decode cX4_close 48 = .ok (.getfield 9, 3) := by decide +kernel
theorem dX4_close_51 : decode cX4_close 51 = .ok (.iconst 1, 1) := by decide +kernel
theorem dX4_close_52 : decode cX4_close 52 = .ok (.iadd, 1) := by decide +kernel
theorem dX4_close_53 : decode cX4_close 53 = .ok (.putfield 9, 3) := by decide +kernel
theorem dX4_close_56 : decode cX4_close 56 = .ok (.return_, 1) := by decide +kernel
theorem dX4_onlySender_0 : decode cX4_onlySender 0 = .ok (.aload_n 0, 1) := by decide +kernel
theorem dX4_onlySender_1 : decode cX4_onlySender 1 = .ok (.getfield 28, 3) := by decide +kernel
theorem dX4_onlySender_4 : decode cX4_onlySender 4 = .ok (.iconst 0, 1) := by decide +kernel
theorem dX4_onlySender_5 : decode cX4_onlySender 5 = .ok (.iaload, 1) := by decide +kernel
theorem dX4_onlySender_6 : decode cX4_onlySender 6 = .ok (.ifCond .lt 5, 3) := by decide +kernel
theorem dX4_onlySender_9 : decode cX4_onlySender 9 = .ok (.iconst 0, 1) := by decide +kernel
theorem dX4_onlySender_10 : decode cX4_onlySender 10 = .ok (.ireturn, 1) := by decide +kernel
theorem dX4_onlySender_11 : decode cX4_onlySender 11 = .ok (.aload_n 0, 1) := by decide +kernel
theorem dX4_onlySender_12 : decode cX4_onlySender 12 = .ok (.getfield 28, 3) := by decide +kernel
theorem dX4_onlySender_15 : decode cX4_onlySender 15 = .ok (.iconst 1, 1) := by decide +kernel
theorem dX4_onlySender_16 : decode cX4_onlySender 16 = .ok (.iaload, 1) := by decide +kernel
theorem dX4_onlySender_17 : decode cX4_onlySender 17 = .ok (.ifCond .lt 7, 3) := by decide +kernel
theorem dX4_onlySender_20 : decode cX4_onlySender 20 = .ok (.iconst 1, 1) := by decide +kernel
theorem dX4_onlySender_21 : decode cX4_onlySender 21 = .ok (.goto 4, 3) := by decide +kernel
theorem dX4_onlySender_24 : decode cX4_onlySender 24 = .ok (.iconst (-1), 1) := by decide +kernel
theorem dX4_onlySender_25 : decode cX4_onlySender 25 = .ok (.ireturn, 1) := by decide +kernel
theorem dX4_reward_0 : decode cX4_reward 0 = .ok (.iload_n 1, 1) := by decide +kernel
theorem dX4_reward_1 : decode cX4_reward 1 = .ok (.iconst (-1), 1) := by decide +kernel
theorem dX4_reward_2 : decode cX4_reward 2 = .ok (.if_icmp .eq 30, 3) := by decide +kernel
theorem dX4_reward_5 : decode cX4_reward 5 = .ok (.aload_n 0, 1) := by decide +kernel
theorem dX4_reward_6 : decode cX4_reward 6 = .ok (.getfield 28, 3) := by decide +kernel
theorem dX4_reward_9 : decode cX4_reward 9 = .ok (.iload_n 1, 1) := by decide +kernel
theorem dX4_reward_10 : decode cX4_reward 10 = .ok (.iaload, 1) := by decide +kernel
theorem dX4_reward_11 : decode cX4_reward 11 = .ok (.istore_n 2, 1) := by decide +kernel
theorem dX4_reward_12 : decode cX4_reward 12 = .ok (.aload_n 0, 1) := by decide +kernel
theorem dX4_reward_13 : decode cX4_reward 13 = .ok (.getfield 34, 3) := by decide +kernel
theorem dX4_reward_16 : decode cX4_reward 16 = .ok (.iload_n 2, 1) := by decide +kernel
theorem dX4_reward_17 : decode cX4_reward 17 = .ok (.sipush 9999, 3) := by decide +kernel
theorem dX4_reward_20 : decode cX4_reward 20 = .ok (.aload_n 0, 1) := by decide +kernel
theorem dX4_reward_21 : decode cX4_reward 21 = .ok (.getfield 34, 3) := by decide +kernel
theorem dX4_reward_24 : decode cX4_reward 24 = .ok (.iload_n 2, 1) := by decide +kernel
theorem dX4_reward_25 : decode cX4_reward 25 = .ok (.iaload, 1) := by decide +kernel
theorem dX4_reward_26 : decode cX4_reward 26 = .ok (.iconst 1, 1) := by decide +kernel
theorem dX4_reward_27 : decode cX4_reward 27 = .ok (.iadd, 1) := by decide +kernel
theorem dX4_reward_28 : decode cX4_reward 28 = .ok (.invokestatic 95, 3) := by decide +kernel
theorem dX4_reward_31 : decode cX4_reward 31 = .ok (.iastore, 1) := by decide +kernel
theorem dX4_reward_32 : decode cX4_reward 32 = .ok (.return_, 1) := by decide +kernel
theorem dX5_init_0 : decode cX5_init 0 = .ok (.aload_n 0, 1) := by decide +kernel
theorem dX5_init_1 : decode cX5_init 1 = .ok (.invokespecial 3, 3) := by decide +kernel
theorem dX5_init_4 : decode cX5_init 4 = .ok (.aload_n 0, 1) := by decide +kernel
theorem dX5_init_5 : decode cX5_init 5 = .ok (.bipush 120, 2) := by decide +kernel
theorem dX5_init_7 : decode cX5_init 7 = .ok (.newarray .int, 2) := by decide +kernel
theorem dX5_init_9 : decode cX5_init 9 = .ok (.putfield 11, 3) := by decide +kernel
theorem dX5_init_12 : decode cX5_init 12 = .ok (.aload_n 0, 1) := by decide +kernel
theorem dX5_init_13 : decode cX5_init 13 = .ok (.iconst 0, 1) := by decide +kernel
theorem dX5_init_14 : decode cX5_init 14 = .ok (.putfield 15, 3) := by decide +kernel
theorem dX5_init_17 : decode cX5_init 17 = .ok (.return_, 1) := by decide +kernel
theorem dX5_put_0 : decode cX5_put 0 = .ok (.aload_n 0, 1) := by decide +kernel
theorem dX5_put_1 : decode cX5_put 1 = .ok (.getfield 15, 3) := by decide +kernel
theorem dX5_put_4 : decode cX5_put 4 = .ok (.bipush 120, 2) := by decide +kernel
theorem dX5_put_6 : decode cX5_put 6 = .ok (.if_icmp .ge 23, 3) := by decide +kernel
theorem dX5_put_9 : decode cX5_put 9 = .ok (.aload_n 0, 1) := by decide +kernel
theorem dX5_put_10 : decode cX5_put 10 = .ok (.getfield 11, 3) := by decide +kernel
theorem dX5_put_13 : decode cX5_put 13 = .ok (.aload_n 0, 1) := by decide +kernel
theorem dX5_put_14 : decode cX5_put 14 = .ok (.getfield 15, 3) := by decide +kernel
theorem dX5_put_17 : decode cX5_put 17 = .ok (.iload_n 1, 1) := by decide +kernel
theorem dX5_put_18 : decode cX5_put 18 = .ok (.iastore, 1) := by decide +kernel
theorem dX5_put_19 : decode cX5_put 19 = .ok (.aload_n 0, 1) := by decide +kernel
theorem dX5_put_20 : decode cX5_put 20 = .ok (.dup, 1) := by decide +kernel
theorem dX5_put_21 : decode cX5_put 21 = .ok (.getfield 15, 3) := by decide +kernel
theorem dX5_put_24 : decode cX5_put 24 = .ok (.iconst 1, 1) := by decide +kernel
theorem dX5_put_25 : decode cX5_put 25 = .ok (.iadd, 1) := by decide +kernel
theorem dX5_put_26 : decode cX5_put 26 = .ok (.putfield 15, 3) := by decide +kernel
theorem dX5_put_29 : decode cX5_put 29 = .ok (.return_, 1) := by decide +kernel
set_option maxRecDepth 20000 in
theorem ggX5_parse_X5_step : GoodIn wsX5_parse wsX5_step := goodIn_r _ [8, 1, 9, 10, 2, 3, 11, 12, 7, 13, 14, 15, 16, 17, 18, 19, 20, 21, 22, 23, 24, 25, 26, 27, 28, 29, 121, 122, 123, 124, 125, 126] (by decide +kernel) (by decide +kernel)
set_option maxRecDepth 20000 in
theorem gX5_parse_X5_step : GoodIn wsX5_parse (wsV RX5 22 RX5 yX5_step wsX5_step) := goodIn_app (goodIn_of _ (by decide +kernel)) ggX5_parse_X5_step
set_option maxRecDepth 20000 in
theorem ggX5_parse_X5_takesItem : GoodIn wsX5_parse wsX5_takesItem := goodIn_r _ [33, 34, 35, 36, 37, 38, 39, 40, 7, 41, 3, 1, 2, 10, 42, 43, 44, 45, 46, 47, 48, 49, 50, 51, 52, 53, 54, 55, 56, 57, 58, 59, 60, 61, 62, 63, 64, 65, 66, 67, 68, 69, 70, 71, 72, 73, 74, 75, 76, 77, 78, 79, 80, 81, 82, 83, 84, 85, 86, 87, 88, 89, 90, 91, 92, 93, 94, 25, 95, 96, 97, 98, 99, 100, 101, 102, 103, 4, 5, 6, 8, 9, 11, 12, 13, 14, 15, 16, 17, 18, 19, 20, 21, 22, 23, 24, 26, 27, 28, 29, 104, 105, 106, 107, 108, 109, 110, 111, 112, 113, 114, 115, 116, 117, 118, 119, 120, 121, 122, 123, 124, 125, 126, 127, 128, 129, 130, 131, 132, 133, 134] (by decide +kernel) (by decide +kernel)
set_option maxRecDepth 20000 in
theorem gX5_parse_X5_takesItem : GoodIn wsX5_parse (wsV RX5 25 RX5 yX5_takesItem wsX5_takesItem) := goodIn_app (goodIn_of _ (by decide +kernel)) ggX5_parse_X5_takesItem
theorem dX5_parse_0 : decode cX5_parse 0 = .ok (.aload_n 0, 1) := by decide +kernel
theorem dX5_parse_1 : decode cX5_parse 1 = .ok (.iconst 0, 1) := by decide +kernel
theorem dX5_parse_2 : decode cX5_parse 2 = .ok (.putfield 19, 3) := by decide +kernel
theorem dX5_parse_5 : decode cX5_parse 5 = .ok (.aload_n 0, 1) := by decide +kernel
theorem dX5_parse_6 : decode cX5_parse 6 = .ok (.invokevirtual 22, 3) := by decide +kernel
theorem dX5_parse_9 : decode cX5_parse 9 = .ok (.iconst 1, 1) := by decide +kernel
theorem dX5_parse_10 : decode cX5_parse 10 = .ok (.istore_n 2, 1) := by decide +kernel
theorem dX5_parse_11 : decode cX5_parse 11 = .ok (.iload_n 2, 1) := by decide +kernel
theorem dX5_parse_12 : decode cX5_parse 12 = .ok (.bipush 120, 2) := by decide +kernel
theorem dX5_parse_14 : decode cX5_parse 14 = .ok (.if_icmp .gt 52, 3) := by decide +kernel
theorem dX5_parse_17 : decode cX5_parse 17 = .ok (.aload_n 0, 1) := by decide +kernel
theorem dX5_parse_18 : decode cX5_parse 18 = .ok (.aload_n 1, 1) := by decide +kernel
theorem dX5_parse_19 : decode cX5_parse 19 = .ok (.invokevirtual 25, 3) := by decide +kernel
theorem dX5_parse_22 : decode cX5_parse 22 = .ok (.ifCond .ne 10, 3) := by decide +kernel
theorem dX5_parse_25 : decode cX5_parse 25 = .ok (.iconst (-1), 1) := by decide +kernel
theorem dX5_parse_26 : decode cX5_parse 26 = .ok (.aload_n 0, 1) := by decide +kernel
theorem dX5_parse_27 : decode cX5_parse 27 = .ok (.getfield 29, 3) := by decide +kernel
theorem dX5_parse_30 : decode cX5_parse 30 = .ok (.isub, 1) := by decide +kernel
theorem dX5_parse_31 : decode cX5_parse 31 = .ok (.ireturn, 1) := by decide +kernel
theorem dX5_parse_32 : decode cX5_parse 32 = .ok (.aload_n 0, 1) := by decide +kernel
theorem dX5_parse_33 : decode cX5_parse 33 = .ok (.getfield 32, 3) := by decide +kernel
theorem dX5_parse_36 : decode cX5_parse 36 = .ok (.ifCond .ne 5, 3) := by decide +kernel
theorem dX5_parse_39 : decode cX5_parse 39 = .ok (.iload_n 2, 1) := by decide +kernel
theorem dX5_parse_40 : decode cX5_parse 40 = .ok (.ireturn, 1) := by decide +kernel
theorem dX5_parse_41 : decode cX5_parse 41 = .ok (.aload_n 0, 1) := by decide +kernel
theorem dX5_parse_42 : decode cX5_parse 42 = .ok (.getfield 32, 3) := by decide +kernel
theorem dX5_parse_45 : decode cX5_parse 45 = .ok (.iconst 3, 1) := by decide +kernel
theorem dX5_parse_46 : decode cX5_parse 46 = .ok (.if_icmp .eq 10, 3) := by decide +kernel
theorem dX5_parse_49 : decode cX5_parse 49 = .ok (.iconst (-1), 1) := by decide +kernel
theorem dX5_parse_50 : decode cX5_parse 50 = .ok (.aload_n 0, 1) := by decide +kernel
theorem dX5_parse_51 : decode cX5_parse 51 = .ok (.getfield 29, 3) := by decide +kernel
theorem dX5_parse_54 : decode cX5_parse 54 = .ok (.isub, 1) := by decide +kernel
theorem dX5_parse_55 : decode cX5_parse 55 = .ok (.ireturn, 1) := by decide +kernel
theorem dX5_parse_56 : decode cX5_parse 56 = .ok (.aload_n 0, 1) := by decide +kernel
theorem dX5_parse_57 : decode cX5_parse 57 = .ok (.invokevirtual 22, 3) := by decide +kernel
theorem dX5_parse_60 : decode cX5_parse 60 = .ok (.iinc 2 1, 3) := by decide +kernel
theorem dX5_parse_63 : decode cX5_parse 63 = .ok (.goto (-52), 3) := by decide +kernel
theorem dX5_parse_66 : decode cX5_parse 66 = .ok (.iconst (-1), 1) := by decide +kernel
theorem dX5_parse_67 : decode cX5_parse 67 = .ok (.aload_n 0, 1) := by decide +kernel
theorem dX5_parse_68 : decode cX5_parse 68 = .ok (.getfield 29, 3) := by decide +kernel
theorem dX5_parse_71 : decode cX5_parse 71 = .ok (.isub, 1) := by decide +kernel
theorem dX5_parse_72 : decode cX5_parse 72 = .ok (.ireturn, 1) := by decide +kernel
set_option maxRecDepth 20000 in
theorem ggX5_takesItem_X2_name : GoodIn wsX5_takesItem wsX2_name := goodIn_r _ [4] (by decide +kernel) (by decide +kernel)
set_option maxRecDepth 20000 in
theorem gX5_takesItem_X2_name : GoodIn wsX5_takesItem (va_wsS RX5 35 yX2_name wsX2_name) := goodIn_app (goodIn_of _ (by decide +kernel)) ggX5_takesItem_X2_name
set_option maxRecDepth 20000 in
theorem ggX5_takesItem_X5_isWord : GoodIn wsX5_takesItem wsX5_isWord := goodIn_r _ [9, 10, 11, 12, 13, 14, 15, 16, 17, 18, 19, 20, 21, 22, 23, 24, 25, 26, 27, 28, 29, 30, 31, 32, 33, 34, 35, 36, 37, 38, 39, 40, 41, 42, 43, 44, 45, 46, 47, 48, 49, 50, 51, 52, 53, 54, 55, 56, 57, 58, 59, 60, 61, 62, 117, 118, 119, 120, 121, 122] (by decide +kernel) (by decide +kernel)
set_option maxRecDepth 20000 in
theorem gX5_takesItem_X5_isWord : GoodIn wsX5_takesItem (wsV RX5 41 RX5 yX5_isWord wsX5_isWord) := goodIn_app (goodIn_of _ (by decide +kernel)) ggX5_takesItem_X5_isWord
set_option maxRecDepth 20000 in
theorem ggX5_takesItem_X5_takesEnvoy : GoodIn wsX5_takesItem wsX5_takesEnvoy := goodIn_r _ [66, 10, 67, 68, 69, 70, 71, 72, 73, 74, 75, 76, 77, 78, 79, 8, 80, 11, 81, 13, 12, 82, 83, 84, 85, 86, 87, 88, 89, 90, 91, 92, 93, 94, 95, 96, 97, 98, 99, 5, 6, 7, 9, 14, 15, 16, 17, 18, 19, 20, 21, 22, 23, 24, 25, 26, 27, 28, 29, 30, 31, 32, 33, 34, 35, 36, 37, 38, 39, 40, 41, 42, 43, 44, 45, 46, 47, 48, 49, 50, 51, 52, 53, 54, 55, 56, 57, 58, 59, 60, 61, 62, 100, 101, 102, 117, 118, 119, 120, 121, 122, 123, 124, 125, 126, 127, 128, 129, 130] (by decide +kernel) (by decide +kernel)
set_option maxRecDepth 20000 in
theorem gX5_takesItem_X5_takesEnvoy : GoodIn wsX5_takesItem (wsV RX5 45 RX5 yX5_takesEnvoy wsX5_takesEnvoy) := goodIn_app (goodIn_of _ (by decide +kernel)) ggX5_takesItem_X5_takesEnvoy
set_option maxRecDepth 20000 in
theorem ggX5_takesItem_X5_takesMix : GoodIn wsX5_takesItem wsX5_takesMix := goodIn_r _ [106, 10, 67, 107, 77, 78, 79, 8, 80, 11, 81, 13, 12, 82, 83, 84, 85, 86, 87, 88, 89, 90, 91, 92, 93, 94, 95, 96, 97, 98, 99, 108, 101, 109, 117, 118, 119, 120, 121, 122, 123, 124, 125, 126, 127, 128, 129, 130] (by decide +kernel) (by decide +kernel)
set_option maxRecDepth 20000 in
theorem gX5_takesItem_X5_takesMix : GoodIn wsX5_takesItem (wsV RX5 51 RX5 yX5_takesMix wsX5_takesMix) := goodIn_app (goodIn_of _ (by decide +kernel)) ggX5_takesItem_X5_takesMix
set_option maxRecDepth 20000 in
theorem ggX5_takesItem_X5_takesProvince : GoodIn wsX5_takesItem wsX5_takesProvince := goodIn_r _ [113, 10, 67, 114, 77, 78, 79, 8, 80, 11, 81, 13, 12, 82, 83, 84, 85, 86, 87, 88, 89, 90, 91, 92, 93, 94, 95, 96, 97, 98, 99, 115, 101, 116, 5, 6, 7, 9, 14, 15, 16, 17, 18, 19, 20, 21, 22, 23, 24, 25, 26, 27, 28, 29, 30, 31, 32, 33, 34, 35, 36, 37, 38, 39, 40, 41, 42, 43, 44, 45, 46, 47, 48, 49, 50, 51, 52, 53, 54, 55, 56, 57, 58, 59, 60, 61, 62, 100, 102, 117, 118, 119, 120, 121, 122, 123, 124, 125, 126, 127, 128, 129, 130] (by decide +kernel) (by decide +kernel)
set_option maxRecDepth 20000 in
theorem gX5_takesItem_X5_takesProvince : GoodIn wsX5_takesItem (wsV RX5 56 RX5 yX5_takesProvince wsX5_takesProvince) := goodIn_app (goodIn_of _ (by decide +kernel)) ggX5_takesItem_X5_takesProvince
theorem dX5_takesItem_0 : decode cX5_takesItem 0 = .ok (.iconst 0, 1) := by decide +kernel
theorem dX5_takesItem_1 : decode cX5_takesItem 1 = .ok (.istore_n 2, 1) := by decide +kernel
theorem dX5_takesItem_2 : decode cX5_takesItem 2 = .ok (.iload_n 2, 1) := by decide +kernel
theorem dX5_takesItem_3 : decode cX5_takesItem 3 = .ok (.bipush 6, 2) := by decide +kernel
theorem dX5_takesItem_5 : decode cX5_takesItem 5 = .ok (.if_icmp .ge 27, 3) := by decide +kernel
theorem dX5_takesItem_8 : decode cX5_takesItem 8 = .ok (.aload_n 0, 1) := by decide +kernel
theorem dX5_takesItem_9 : decode cX5_takesItem 9 = .ok (.iload_n 2, 1) := by decide +kernel
theorem dX5_takesItem_10 : decode cX5_takesItem 10 = .ok (.invokestatic 35, 3) := by decide +kernel
theorem dX5_takesItem_13 : decode cX5_takesItem 13 = .ok (.invokevirtual 41, 3) := by decide +kernel
theorem dX5_takesItem_16 : decode cX5_takesItem 16 = .ok (.ifCond .eq 10, 3) := by decide +kernel
theorem dX5_takesItem_19 : decode cX5_takesItem 19 = .ok (.aload_n 0, 1) := by decide +kernel
theorem dX5_takesItem_20 : decode cX5_takesItem 20 = .ok (.aload_n 1, 1) := by decide +kernel
theorem dX5_takesItem_21 : decode cX5_takesItem 21 = .ok (.iload_n 2, 1) := by decide +kernel
theorem dX5_takesItem_22 : decode cX5_takesItem 22 = .ok (.invokevirtual 45, 3) := by decide +kernel
theorem dX5_takesItem_25 : decode cX5_takesItem 25 = .ok (.ireturn, 1) := by decide +kernel
theorem dX5_takesItem_26 : decode cX5_takesItem 26 = .ok (.iinc 2 1, 3) := by decide +kernel
theorem dX5_takesItem_29 : decode cX5_takesItem 29 = .ok (.goto (-27), 3) := by decide +kernel
theorem dX5_takesItem_32 : decode cX5_takesItem 32 = .ok (.aload_n 0, 1) := by decide +kernel
theorem dX5_takesItem_33 : decode cX5_takesItem 33 = .ok (.ldc 49, 2) := by decide +kernel
theorem dX5_takesItem_35 : decode cX5_takesItem 35 = .ok (.invokevirtual 41, 3) := by decide +kernel
theorem dX5_takesItem_38 : decode cX5_takesItem 38 = .ok (.ifCond .eq 9, 3) := by decide +kernel
theorem dX5_takesItem_41 : decode cX5_takesItem 41 = .ok (.aload_n 0, 1) := by decide +kernel
theorem dX5_takesItem_42 : decode cX5_takesItem 42 = .ok (.aload_n 1, 1) := by decide +kernel
theorem dX5_takesItem_43 : decode cX5_takesItem 43 = .ok (.invokevirtual 51, 3) := by decide +kernel
theorem dX5_takesItem_46 : decode cX5_takesItem 46 = .ok (.ireturn, 1) := by decide +kernel
theorem dX5_takesItem_47 : decode cX5_takesItem 47 = .ok (.aload_n 0, 1) := by decide +kernel
theorem dX5_takesItem_48 : decode cX5_takesItem 48 = .ok (.ldc 54, 2) := by decide +kernel
theorem dX5_takesItem_50 : decode cX5_takesItem 50 = .ok (.invokevirtual 41, 3) := by decide +kernel
theorem dX5_takesItem_53 : decode cX5_takesItem 53 = .ok (.ifCond .eq 15, 3) := by decide +kernel
theorem dX5_takesItem_56 : decode cX5_takesItem 56 = .ok (.aload_n 0, 1) := by decide +kernel
theorem dX5_takesItem_57 : decode cX5_takesItem 57 = .ok (.aload_n 1, 1) := by decide +kernel
theorem dX5_takesItem_58 : decode cX5_takesItem 58 = .ok (.invokevirtual 56, 3) := by decide +kernel
theorem dX5_takesItem_61 : decode cX5_takesItem 61 = .ok (.ifCond .eq 7, 3) := by decide +kernel
theorem dX5_takesItem_64 : decode cX5_takesItem 64 = .ok (.iconst 1, 1) := by decide +kernel
theorem dX5_takesItem_65 : decode cX5_takesItem 65 = .ok (.goto 4, 3) := by decide +kernel
theorem dX5_takesItem_68 : decode cX5_takesItem 68 = .ok (.iconst 0, 1) := by decide +kernel
theorem dX5_takesItem_69 : decode cX5_takesItem 69 = .ok (.ireturn, 1) := by decide +kernel
set_option maxRecDepth 20000 in
theorem ggX5_takesEnvoy_X4_seat : GoodIn wsX5_takesEnvoy wsX4_seat := goodIn_r _ [8, 9, 10, 11, 101, 102, 103, 104, 105, 106, 107, 108] (by decide +kernel) (by decide +kernel)
set_option maxRecDepth 20000 in
theorem gX5_takesEnvoy_X4_seat : GoodIn wsX5_takesEnvoy (wsV RX5 59 RX4 yX4_seat wsX4_seat) := goodIn_app (goodIn_of _ (by decide +kernel)) ggX5_takesEnvoy_X4_seat
set_option maxRecDepth 20000 in
theorem ggX5_takesEnvoy_X5_step : GoodIn wsX5_takesEnvoy wsX5_step := goodIn_r _ [16, 17, 18, 19, 20, 1, 21, 22, 15, 23, 24, 25, 26, 27, 28, 29, 30, 31, 32, 33, 34, 2, 35, 36, 37, 38, 95, 96, 97, 98, 99, 100] (by decide +kernel) (by decide +kernel)
set_option maxRecDepth 20000 in
theorem gX5_takesEnvoy_X5_step : GoodIn wsX5_takesEnvoy (wsV RX5 22 RX5 yX5_step wsX5_step) := goodIn_app (goodIn_of _ (by decide +kernel)) ggX5_takesEnvoy_X5_step
set_option maxRecDepth 20000 in
theorem ggX5_takesEnvoy_X5_isWord : GoodIn wsX5_takesEnvoy wsX5_isWord := goodIn_r _ [42, 1, 17, 20, 19, 43, 44, 45, 46, 47, 48, 49, 50, 51, 52, 53, 54, 55, 56, 57, 58, 59, 60, 61, 62, 63, 64, 65, 66, 67, 68, 69, 70, 71, 72, 73, 74, 75, 76, 77, 78, 79, 80, 81, 82, 83, 84, 85, 86, 87, 88, 89, 90, 91, 95, 96, 97, 98, 99, 100] (by decide +kernel) (by decide +kernel)
set_option maxRecDepth 20000 in
theorem gX5_takesEnvoy_X5_isWord : GoodIn wsX5_takesEnvoy (wsV RX5 41 RX5 yX5_isWord wsX5_isWord) := goodIn_app (goodIn_of _ (by decide +kernel)) ggX5_takesEnvoy_X5_isWord
set_option maxRecDepth 20000 in
theorem ggX5_takesEnvoy_X6_isState : GoodIn wsX5_takesEnvoy wsX6_isState := goodIn_r _ [94] (by decide +kernel) (by decide +kernel)
set_option maxRecDepth 20000 in
theorem gX5_takesEnvoy_X6_isState_n70 : GoodIn wsX5_takesEnvoy (wsX6_isState) := ggX5_takesEnvoy_X6_isState
theorem dX5_takesEnvoy_0 : decode cX5_takesEnvoy 0 = .ok (.aload_n 1, 1) := by decide +kernel
theorem dX5_takesEnvoy_1 : decode cX5_takesEnvoy 1 = .ok (.iload_n 2, 1) := by decide +kernel
theorem dX5_takesEnvoy_2 : decode cX5_takesEnvoy 2 = .ok (.invokevirtual 59, 3) := by decide +kernel
theorem dX5_takesEnvoy_5 : decode cX5_takesEnvoy 5 = .ok (.istore_n 3, 1) := by decide +kernel
theorem dX5_takesEnvoy_6 : decode cX5_takesEnvoy 6 = .ok (.iload_n 3, 1) := by decide +kernel
theorem dX5_takesEnvoy_7 : decode cX5_takesEnvoy 7 = .ok (.iconst (-1), 1) := by decide +kernel
theorem dX5_takesEnvoy_8 : decode cX5_takesEnvoy 8 = .ok (.if_icmp .ne 5, 3) := by decide +kernel
theorem dX5_takesEnvoy_11 : decode cX5_takesEnvoy 11 = .ok (.iconst 0, 1) := by decide +kernel
theorem dX5_takesEnvoy_12 : decode cX5_takesEnvoy 12 = .ok (.ireturn, 1) := by decide +kernel
theorem dX5_takesEnvoy_13 : decode cX5_takesEnvoy 13 = .ok (.aload_n 0, 1) := by decide +kernel
theorem dX5_takesEnvoy_14 : decode cX5_takesEnvoy 14 = .ok (.invokevirtual 22, 3) := by decide +kernel
theorem dX5_takesEnvoy_17 : decode cX5_takesEnvoy 17 = .ok (.aload_n 0, 1) := by decide +kernel
theorem dX5_takesEnvoy_18 : decode cX5_takesEnvoy 18 = .ok (.ldc 65, 2) := by decide +kernel
theorem dX5_takesEnvoy_20 : decode cX5_takesEnvoy 20 = .ok (.invokevirtual 41, 3) := by decide +kernel
theorem dX5_takesEnvoy_23 : decode cX5_takesEnvoy 23 = .ok (.ifCond .ne 5, 3) := by decide +kernel
theorem dX5_takesEnvoy_26 : decode cX5_takesEnvoy 26 = .ok (.iconst 1, 1) := by decide +kernel
theorem dX5_takesEnvoy_27 : decode cX5_takesEnvoy 27 = .ok (.ireturn, 1) := by decide +kernel
theorem dX5_takesEnvoy_28 : decode cX5_takesEnvoy 28 = .ok (.aload_n 0, 1) := by decide +kernel
theorem dX5_takesEnvoy_29 : decode cX5_takesEnvoy 29 = .ok (.invokevirtual 22, 3) := by decide +kernel
theorem dX5_takesEnvoy_32 : decode cX5_takesEnvoy 32 = .ok (.aload_n 0, 1) := by decide +kernel
theorem dX5_takesEnvoy_33 : decode cX5_takesEnvoy 33 = .ok (.getfield 32, 3) := by decide +kernel
theorem dX5_takesEnvoy_36 : decode cX5_takesEnvoy 36 = .ok (.iconst 2, 1) := by decide +kernel
theorem dX5_takesEnvoy_37 : decode cX5_takesEnvoy 37 = .ok (.if_icmp .ne 13, 3) := by decide +kernel
theorem dX5_takesEnvoy_40 : decode cX5_takesEnvoy 40 = .ok (.aload_n 0, 1) := by decide +kernel
theorem dX5_takesEnvoy_41 : decode cX5_takesEnvoy 41 = .ok (.getfield 67, 3) := by decide +kernel
theorem dX5_takesEnvoy_44 : decode cX5_takesEnvoy 44 = .ok (.invokestatic 70, 3) := by decide +kernel
theorem dX5_takesEnvoy_47 : decode cX5_takesEnvoy 47 = .ok (.ifCond .ne 5, 3) := by decide +kernel
theorem dX5_takesEnvoy_50 : decode cX5_takesEnvoy 50 = .ok (.iconst 0, 1) := by decide +kernel
theorem dX5_takesEnvoy_51 : decode cX5_takesEnvoy 51 = .ok (.ireturn, 1) := by decide +kernel
theorem dX5_takesEnvoy_52 : decode cX5_takesEnvoy 52 = .ok (.aload_n 1, 1) := by decide +kernel
theorem dX5_takesEnvoy_53 : decode cX5_takesEnvoy 53 = .ok (.getfield 74, 3) := by decide +kernel
theorem dX5_takesEnvoy_56 : decode cX5_takesEnvoy 56 = .ok (.aload_n 0, 1) := by decide +kernel
theorem dX5_takesEnvoy_57 : decode cX5_takesEnvoy 57 = .ok (.getfield 67, 3) := by decide +kernel
theorem dX5_takesEnvoy_60 : decode cX5_takesEnvoy 60 = .ok (.iload_n 3, 1) := by decide +kernel
theorem dX5_takesEnvoy_61 : decode cX5_takesEnvoy 61 = .ok (.iastore, 1) := by decide +kernel
theorem dX5_takesEnvoy_62 : decode cX5_takesEnvoy 62 = .ok (.aload_n 0, 1) := by decide +kernel
theorem dX5_takesEnvoy_63 : decode cX5_takesEnvoy 63 = .ok (.invokevirtual 22, 3) := by decide +kernel
theorem dX5_takesEnvoy_66 : decode cX5_takesEnvoy 66 = .ok (.iconst 1, 1) := by decide +kernel
theorem dX5_takesEnvoy_67 : decode cX5_takesEnvoy 67 = .ok (.ireturn, 1) := by decide +kernel
set_option maxRecDepth 20000 in
theorem ggX5_takesMix_X5_step : GoodIn wsX5_takesMix wsX5_step := goodIn_r _ [8, 9, 10, 11, 12, 1, 13, 14, 7, 15, 16, 17, 18, 19, 20, 21, 22, 23, 24, 25, 26, 2, 27, 28, 29, 30, 34, 35, 36, 37, 38, 39] (by decide +kernel) (by decide +kernel)
set_option maxRecDepth 20000 in
theorem gX5_takesMix_X5_step : GoodIn wsX5_takesMix (wsV RX5 22 RX5 yX5_step wsX5_step) := goodIn_app (goodIn_of _ (by decide +kernel)) ggX5_takesMix_X5_step
set_option maxRecDepth 20000 in
theorem ggX5_takesMix_X6_isMix : GoodIn wsX5_takesMix wsX6_isMix := goodIn_r _ [33] (by decide +kernel) (by decide +kernel)
set_option maxRecDepth 20000 in
theorem gX5_takesMix_X6_isMix_n77 : GoodIn wsX5_takesMix (wsX6_isMix) := ggX5_takesMix_X6_isMix
theorem dX5_takesMix_0 : decode cX5_takesMix 0 = .ok (.aload_n 0, 1) := by decide +kernel
theorem dX5_takesMix_1 : decode cX5_takesMix 1 = .ok (.invokevirtual 22, 3) := by decide +kernel
theorem dX5_takesMix_4 : decode cX5_takesMix 4 = .ok (.aload_n 0, 1) := by decide +kernel
theorem dX5_takesMix_5 : decode cX5_takesMix 5 = .ok (.getfield 32, 3) := by decide +kernel
theorem dX5_takesMix_8 : decode cX5_takesMix 8 = .ok (.iconst 2, 1) := by decide +kernel
theorem dX5_takesMix_9 : decode cX5_takesMix 9 = .ok (.if_icmp .ne 13, 3) := by decide +kernel
theorem dX5_takesMix_12 : decode cX5_takesMix 12 = .ok (.aload_n 0, 1) := by decide +kernel
theorem dX5_takesMix_13 : decode cX5_takesMix 13 = .ok (.getfield 67, 3) := by decide +kernel
theorem dX5_takesMix_16 : decode cX5_takesMix 16 = .ok (.invokestatic 77, 3) := by decide +kernel
theorem dX5_takesMix_19 : decode cX5_takesMix 19 = .ok (.ifCond .ne 5, 3) := by decide +kernel
theorem dX5_takesMix_22 : decode cX5_takesMix 22 = .ok (.iconst 0, 1) := by decide +kernel
theorem dX5_takesMix_23 : decode cX5_takesMix 23 = .ok (.ireturn, 1) := by decide +kernel
theorem dX5_takesMix_24 : decode cX5_takesMix 24 = .ok (.aload_n 1, 1) := by decide +kernel
theorem dX5_takesMix_25 : decode cX5_takesMix 25 = .ok (.aload_n 0, 1) := by decide +kernel
theorem dX5_takesMix_26 : decode cX5_takesMix 26 = .ok (.getfield 67, 3) := by decide +kernel
theorem dX5_takesMix_29 : decode cX5_takesMix 29 = .ok (.putfield 80, 3) := by decide +kernel
theorem dX5_takesMix_32 : decode cX5_takesMix 32 = .ok (.aload_n 0, 1) := by decide +kernel
theorem dX5_takesMix_33 : decode cX5_takesMix 33 = .ok (.invokevirtual 22, 3) := by decide +kernel
theorem dX5_takesMix_36 : decode cX5_takesMix 36 = .ok (.iconst 1, 1) := by decide +kernel
theorem dX5_takesMix_37 : decode cX5_takesMix 37 = .ok (.ireturn, 1) := by decide +kernel
set_option maxRecDepth 20000 in
theorem ggX5_takesProvince_X5_step : GoodIn wsX5_takesProvince wsX5_step := goodIn_r _ [8, 9, 10, 11, 12, 1, 13, 14, 7, 15, 16, 17, 18, 19, 20, 21, 22, 23, 24, 25, 26, 2, 27, 28, 29, 30, 89, 90, 91, 92, 93, 94] (by decide +kernel) (by decide +kernel)
set_option maxRecDepth 20000 in
theorem gX5_takesProvince_X5_step : GoodIn wsX5_takesProvince (wsV RX5 22 RX5 yX5_step wsX5_step) := goodIn_app (goodIn_of _ (by decide +kernel)) ggX5_takesProvince_X5_step
set_option maxRecDepth 20000 in
theorem ggX5_takesProvince_X6_isProvince : GoodIn wsX5_takesProvince wsX6_isProvince := goodIn_r _ [33] (by decide +kernel) (by decide +kernel)
set_option maxRecDepth 20000 in
theorem gX5_takesProvince_X6_isProvince_n83 : GoodIn wsX5_takesProvince (wsX6_isProvince) := ggX5_takesProvince_X6_isProvince
set_option maxRecDepth 20000 in
theorem ggX5_takesProvince_X5_isWord : GoodIn wsX5_takesProvince wsX5_isWord := goodIn_r _ [37, 1, 9, 12, 11, 38, 39, 40, 41, 42, 43, 44, 45, 46, 47, 48, 49, 50, 51, 52, 53, 54, 55, 56, 57, 58, 59, 60, 61, 62, 63, 64, 65, 66, 67, 68, 69, 70, 71, 72, 73, 74, 75, 76, 77, 78, 79, 80, 81, 82, 83, 84, 85, 86, 89, 90, 91, 92, 93, 94] (by decide +kernel) (by decide +kernel)
set_option maxRecDepth 20000 in
theorem gX5_takesProvince_X5_isWord : GoodIn wsX5_takesProvince (wsV RX5 41 RX5 yX5_isWord wsX5_isWord) := goodIn_app (goodIn_of _ (by decide +kernel)) ggX5_takesProvince_X5_isWord
set_option maxRecDepth 20000 in
theorem ggX5_takesProvince_X6_isState : GoodIn wsX5_takesProvince wsX6_isState := goodIn_r _ [88] (by decide +kernel) (by decide +kernel)
set_option maxRecDepth 20000 in
theorem gX5_takesProvince_X6_isState_n70 : GoodIn wsX5_takesProvince (wsX6_isState) := ggX5_takesProvince_X6_isState
theorem dX5_takesProvince_0 : decode cX5_takesProvince 0 = .ok (.aload_n 0, 1) := by decide +kernel
theorem dX5_takesProvince_1 : decode cX5_takesProvince 1 = .ok (.invokevirtual 22, 3) := by decide +kernel
theorem dX5_takesProvince_4 : decode cX5_takesProvince 4 = .ok (.aload_n 0, 1) := by decide +kernel
theorem dX5_takesProvince_5 : decode cX5_takesProvince 5 = .ok (.getfield 32, 3) := by decide +kernel
theorem dX5_takesProvince_8 : decode cX5_takesProvince 8 = .ok (.iconst 2, 1) := by decide +kernel
theorem dX5_takesProvince_9 : decode cX5_takesProvince 9 = .ok (.if_icmp .ne 13, 3) := by decide +kernel
theorem dX5_takesProvince_12 : decode cX5_takesProvince 12 = .ok (.aload_n 0, 1) := by decide +kernel
theorem dX5_takesProvince_13 : decode cX5_takesProvince 13 = .ok (.getfield 67, 3) := by decide +kernel
theorem dX5_takesProvince_16 : decode cX5_takesProvince 16 = .ok (.invokestatic 83, 3) := by decide +kernel
theorem dX5_takesProvince_19 : decode cX5_takesProvince 19 = .ok (.ifCond .ne 5, 3) := by decide +kernel
theorem dX5_takesProvince_22 : decode cX5_takesProvince 22 = .ok (.iconst 0, 1) := by decide +kernel
theorem dX5_takesProvince_23 : decode cX5_takesProvince 23 = .ok (.ireturn, 1) := by decide +kernel
theorem dX5_takesProvince_24 : decode cX5_takesProvince 24 = .ok (.aload_n 0, 1) := by decide +kernel
theorem dX5_takesProvince_25 : decode cX5_takesProvince 25 = .ok (.getfield 67, 3) := by decide +kernel
theorem dX5_takesProvince_28 : decode cX5_takesProvince 28 = .ok (.istore_n 2, 1) := by decide +kernel
theorem dX5_takesProvince_29 : decode cX5_takesProvince 29 = .ok (.aload_n 0, 1) := by decide +kernel
theorem dX5_takesProvince_30 : decode cX5_takesProvince 30 = .ok (.invokevirtual 22, 3) := by decide +kernel
theorem dX5_takesProvince_33 : decode cX5_takesProvince 33 = .ok (.aload_n 0, 1) := by decide +kernel
theorem dX5_takesProvince_34 : decode cX5_takesProvince 34 = .ok (.ldc 86, 2) := by decide +kernel
theorem dX5_takesProvince_36 : decode cX5_takesProvince 36 = .ok (.invokevirtual 41, 3) := by decide +kernel
theorem dX5_takesProvince_39 : decode cX5_takesProvince 39 = .ok (.istore_n 3, 1) := by decide +kernel
theorem dX5_takesProvince_40 : decode cX5_takesProvince 40 = .ok (.iload_n 3, 1) := by decide +kernel
theorem dX5_takesProvince_41 : decode cX5_takesProvince 41 = .ok (.ifCond .ne 23, 3) := by decide +kernel
theorem dX5_takesProvince_44 : decode cX5_takesProvince 44 = .ok (.aload_n 0, 1) := by decide +kernel
theorem dX5_takesProvince_45 : decode cX5_takesProvince 45 = .ok (.getfield 32, 3) := by decide +kernel
theorem dX5_takesProvince_48 : decode cX5_takesProvince 48 = .ok (.iconst 2, 1) := by decide +kernel
theorem dX5_takesProvince_49 : decode cX5_takesProvince 49 = .ok (.if_icmp .ne 13, 3) := by decide +kernel
theorem dX5_takesProvince_52 : decode cX5_takesProvince 52 = .ok (.aload_n 0, 1) := by decide +kernel
theorem dX5_takesProvince_53 : decode cX5_takesProvince 53 = .ok (.getfield 67, 3) := by decide +kernel
theorem dX5_takesProvince_56 : decode cX5_takesProvince 56 = .ok (.invokestatic 70, 3) := by decide +kernel
theorem dX5_takesProvince_59 : decode cX5_takesProvince 59 = .ok (.ifCond .ne 5, 3) := by decide +kernel
theorem dX5_takesProvince_62 : decode cX5_takesProvince 62 = .ok (.iconst 0, 1) := by decide +kernel
theorem dX5_takesProvince_63 : decode cX5_takesProvince 63 = .ok (.ireturn, 1) := by decide +kernel
theorem dX5_takesProvince_64 : decode cX5_takesProvince 64 = .ok (.aload_n 1, 1) := by decide +kernel
theorem dX5_takesProvince_65 : decode cX5_takesProvince 65 = .ok (.getfield 88, 3) := by decide +kernel
theorem dX5_takesProvince_68 : decode cX5_takesProvince 68 = .ok (.iload_n 2, 1) := by decide +kernel
theorem dX5_takesProvince_69 : decode cX5_takesProvince 69 = .ok (.iload_n 3, 1) := by decide +kernel
theorem dX5_takesProvince_70 : decode cX5_takesProvince 70 = .ok (.ifCond .eq 7, 3) := by decide +kernel
theorem dX5_takesProvince_73 : decode cX5_takesProvince 73 = .ok (.iconst (-1), 1) := by decide +kernel
theorem dX5_takesProvince_74 : decode cX5_takesProvince 74 = .ok (.goto 7, 3) := by decide +kernel
theorem dX5_takesProvince_77 : decode cX5_takesProvince 77 = .ok (.aload_n 0, 1) := by decide +kernel
theorem dX5_takesProvince_78 : decode cX5_takesProvince 78 = .ok (.getfield 67, 3) := by decide +kernel
theorem dX5_takesProvince_81 : decode cX5_takesProvince 81 = .ok (.iastore, 1) := by decide +kernel
theorem dX5_takesProvince_82 : decode cX5_takesProvince 82 = .ok (.aload_n 0, 1) := by decide +kernel
theorem dX5_takesProvince_83 : decode cX5_takesProvince 83 = .ok (.invokevirtual 22, 3) := by decide +kernel
theorem dX5_takesProvince_86 : decode cX5_takesProvince 86 = .ok (.iconst 1, 1) := by decide +kernel
theorem dX5_takesProvince_87 : decode cX5_takesProvince 87 = .ok (.ireturn, 1) := by decide +kernel
set_option maxRecDepth 20000 in
theorem ggX5_step_X5_isLetter : GoodIn wsX5_step wsX5_isLetter := goodIn_r _ [9] (by decide +kernel) (by decide +kernel)
set_option maxRecDepth 20000 in
theorem gX5_step_X5_isLetter : GoodIn wsX5_step (va_wsS RX5 91 yX5_isLetter wsX5_isLetter) := goodIn_app (goodIn_of _ (by decide +kernel)) ggX5_step_X5_isLetter
set_option maxRecDepth 20000 in
theorem ggX5_step_X5_stepWord : GoodIn wsX5_step wsX5_stepWord := goodIn_r _ [13, 5, 1, 2, 3, 6, 7, 8, 9, 26, 27, 28, 29, 30, 31] (by decide +kernel) (by decide +kernel)
set_option maxRecDepth 20000 in
theorem gX5_step_X5_stepWord : GoodIn wsX5_step (wsV RX5 94 RX5 yX5_stepWord wsX5_stepWord) := goodIn_app (goodIn_of _ (by decide +kernel)) ggX5_step_X5_stepWord
set_option maxRecDepth 20000 in
theorem ggX5_step_X5_isDigit : GoodIn wsX5_step wsX5_isDigit := goodIn_r _ [16] (by decide +kernel) (by decide +kernel)
set_option maxRecDepth 20000 in
theorem gX5_step_X5_isDigit : GoodIn wsX5_step (va_wsS RX5 97 yX5_isDigit wsX5_isDigit) := goodIn_app (goodIn_of _ (by decide +kernel)) ggX5_step_X5_isDigit
set_option maxRecDepth 20000 in
theorem ggX5_step_X5_stepNumber : GoodIn wsX5_step wsX5_stepNumber := goodIn_r _ [20, 5, 21, 1, 2, 3, 22, 23, 24, 25, 14, 15, 8, 16, 26, 27, 28, 29, 30, 31] (by decide +kernel) (by decide +kernel)
set_option maxRecDepth 20000 in
theorem gX5_step_X5_stepNumber : GoodIn wsX5_step (wsV RX5 100 RX5 yX5_stepNumber wsX5_stepNumber) := goodIn_app (goodIn_of _ (by decide +kernel)) ggX5_step_X5_stepNumber
theorem dX5_step_0 : decode cX5_step 0 = .ok (.aload_n 0, 1) := by decide +kernel
theorem dX5_step_1 : decode cX5_step 1 = .ok (.getfield 19, 3) := by decide +kernel
theorem dX5_step_4 : decode cX5_step 4 = .ok (.aload_n 0, 1) := by decide +kernel
theorem dX5_step_5 : decode cX5_step 5 = .ok (.getfield 15, 3) := by decide +kernel
theorem dX5_step_8 : decode cX5_step 8 = .ok (.if_icmp .ge 30, 3) := by decide +kernel
theorem dX5_step_11 : decode cX5_step 11 = .ok (.aload_n 0, 1) := by decide +kernel
theorem dX5_step_12 : decode cX5_step 12 = .ok (.getfield 11, 3) := by decide +kernel
theorem dX5_step_15 : decode cX5_step 15 = .ok (.aload_n 0, 1) := by decide +kernel
theorem dX5_step_16 : decode cX5_step 16 = .ok (.getfield 19, 3) := by decide +kernel
theorem dX5_step_19 : decode cX5_step 19 = .ok (.iaload, 1) := by decide +kernel
theorem dX5_step_20 : decode cX5_step 20 = .ok (.bipush 32, 2) := by decide +kernel
theorem dX5_step_22 : decode cX5_step 22 = .ok (.if_icmp .ne 16, 3) := by decide +kernel
theorem dX5_step_25 : decode cX5_step 25 = .ok (.aload_n 0, 1) := by decide +kernel
theorem dX5_step_26 : decode cX5_step 26 = .ok (.dup, 1) := by decide +kernel
theorem dX5_step_27 : decode cX5_step 27 = .ok (.getfield 19, 3) := by decide +kernel
theorem dX5_step_30 : decode cX5_step 30 = .ok (.iconst 1, 1) := by decide +kernel
theorem dX5_step_31 : decode cX5_step 31 = .ok (.iadd, 1) := by decide +kernel
theorem dX5_step_32 : decode cX5_step 32 = .ok (.putfield 19, 3) := by decide +kernel
theorem dX5_step_35 : decode cX5_step 35 = .ok (.goto (-35), 3) := by decide +kernel
theorem dX5_step_38 : decode cX5_step 38 = .ok (.aload_n 0, 1) := by decide +kernel
theorem dX5_step_39 : decode cX5_step 39 = .ok (.aload_n 0, 1) := by decide +kernel
theorem dX5_step_40 : decode cX5_step 40 = .ok (.getfield 19, 3) := by decide +kernel
theorem dX5_step_43 : decode cX5_step 43 = .ok (.putfield 29, 3) := by decide +kernel
theorem dX5_step_46 : decode cX5_step 46 = .ok (.aload_n 0, 1) := by decide +kernel
theorem dX5_step_47 : decode cX5_step 47 = .ok (.getfield 19, 3) := by decide +kernel
theorem dX5_step_50 : decode cX5_step 50 = .ok (.aload_n 0, 1) := by decide +kernel
theorem dX5_step_51 : decode cX5_step 51 = .ok (.getfield 15, 3) := by decide +kernel
theorem dX5_step_54 : decode cX5_step 54 = .ok (.if_icmp .lt 11, 3) := by decide +kernel
theorem dX5_step_57 : decode cX5_step 57 = .ok (.aload_n 0, 1) := by decide +kernel
theorem dX5_step_58 : decode cX5_step 58 = .ok (.iconst 0, 1) := by decide +kernel
theorem dX5_step_59 : decode cX5_step 59 = .ok (.putfield 32, 3) := by decide +kernel
theorem dX5_step_62 : decode cX5_step 62 = .ok (.goto 80, 3) := by decide +kernel
theorem dX5_step_65 : decode cX5_step 65 = .ok (.aload_n 0, 1) := by decide +kernel
theorem dX5_step_66 : decode cX5_step 66 = .ok (.getfield 11, 3) := by decide +kernel
theorem dX5_step_69 : decode cX5_step 69 = .ok (.aload_n 0, 1) := by decide +kernel
theorem dX5_step_70 : decode cX5_step 70 = .ok (.getfield 19, 3) := by decide +kernel
theorem dX5_step_73 : decode cX5_step 73 = .ok (.iaload, 1) := by decide +kernel
theorem dX5_step_74 : decode cX5_step 74 = .ok (.invokestatic 91, 3) := by decide +kernel
theorem dX5_step_77 : decode cX5_step 77 = .ok (.ifCond .eq 10, 3) := by decide +kernel
theorem dX5_step_80 : decode cX5_step 80 = .ok (.aload_n 0, 1) := by decide +kernel
theorem dX5_step_81 : decode cX5_step 81 = .ok (.invokevirtual 94, 3) := by decide +kernel
theorem dX5_step_84 : decode cX5_step 84 = .ok (.goto 58, 3) := by decide +kernel
theorem dX5_step_87 : decode cX5_step 87 = .ok (.aload_n 0, 1) := by decide +kernel
theorem dX5_step_88 : decode cX5_step 88 = .ok (.getfield 11, 3) := by decide +kernel
theorem dX5_step_91 : decode cX5_step 91 = .ok (.aload_n 0, 1) := by decide +kernel
theorem dX5_step_92 : decode cX5_step 92 = .ok (.getfield 19, 3) := by decide +kernel
theorem dX5_step_95 : decode cX5_step 95 = .ok (.iaload, 1) := by decide +kernel
theorem dX5_step_96 : decode cX5_step 96 = .ok (.invokestatic 97, 3) := by decide +kernel
theorem dX5_step_99 : decode cX5_step 99 = .ok (.ifCond .eq 10, 3) := by decide +kernel
theorem dX5_step_102 : decode cX5_step 102 = .ok (.aload_n 0, 1) := by decide +kernel
theorem dX5_step_103 : decode cX5_step 103 = .ok (.invokevirtual 100, 3) := by decide +kernel
theorem dX5_step_106 : decode cX5_step 106 = .ok (.goto 36, 3) := by decide +kernel
theorem dX5_step_109 : decode cX5_step 109 = .ok (.aload_n 0, 1) := by decide +kernel
theorem dX5_step_110 : decode cX5_step 110 = .ok (.aload_n 0, 1) := by decide +kernel
theorem dX5_step_111 : decode cX5_step 111 = .ok (.getfield 11, 3) := by decide +kernel
theorem dX5_step_114 : decode cX5_step 114 = .ok (.aload_n 0, 1) := by decide +kernel
theorem dX5_step_115 : decode cX5_step 115 = .ok (.getfield 19, 3) := by decide +kernel
theorem dX5_step_118 : decode cX5_step 118 = .ok (.iaload, 1) := by decide +kernel
theorem dX5_step_119 : decode cX5_step 119 = .ok (.bipush 59, 2) := by decide +kernel
theorem dX5_step_121 : decode cX5_step 121 = .ok (.if_icmp .ne 7, 3) := by decide +kernel
theorem dX5_step_124 : decode cX5_step 124 = .ok (.iconst 3, 1) := by decide +kernel
theorem dX5_step_125 : decode cX5_step 125 = .ok (.goto 4, 3) := by decide +kernel
theorem dX5_step_128 : decode cX5_step 128 = .ok (.iconst 4, 1) := by decide +kernel
theorem dX5_step_129 : decode cX5_step 129 = .ok (.putfield 32, 3) := by decide +kernel
theorem dX5_step_132 : decode cX5_step 132 = .ok (.aload_n 0, 1) := by decide +kernel
theorem dX5_step_133 : decode cX5_step 133 = .ok (.dup, 1) := by decide +kernel
theorem dX5_step_134 : decode cX5_step 134 = .ok (.getfield 19, 3) := by decide +kernel
theorem dX5_step_137 : decode cX5_step 137 = .ok (.iconst 1, 1) := by decide +kernel
theorem dX5_step_138 : decode cX5_step 138 = .ok (.iadd, 1) := by decide +kernel
theorem dX5_step_139 : decode cX5_step 139 = .ok (.putfield 19, 3) := by decide +kernel
theorem dX5_step_142 : decode cX5_step 142 = .ok (.return_, 1) := by decide +kernel
set_option maxRecDepth 20000 in
theorem ggX5_stepWord_X5_isLetter : GoodIn wsX5_stepWord wsX5_isLetter := goodIn_r _ [8] (by decide +kernel) (by decide +kernel)
set_option maxRecDepth 20000 in
theorem gX5_stepWord_X5_isLetter : GoodIn wsX5_stepWord (va_wsS RX5 91 yX5_isLetter wsX5_isLetter) := goodIn_app (goodIn_of _ (by decide +kernel)) ggX5_stepWord_X5_isLetter
theorem dX5_stepWord_0 : decode cX5_stepWord 0 = .ok (.aload_n 0, 1) := by decide +kernel
theorem dX5_stepWord_1 : decode cX5_stepWord 1 = .ok (.iconst 1, 1) := by decide +kernel
theorem dX5_stepWord_2 : decode cX5_stepWord 2 = .ok (.putfield 32, 3) := by decide +kernel
theorem dX5_stepWord_5 : decode cX5_stepWord 5 = .ok (.aload_n 0, 1) := by decide +kernel
theorem dX5_stepWord_6 : decode cX5_stepWord 6 = .ok (.getfield 19, 3) := by decide +kernel
theorem dX5_stepWord_9 : decode cX5_stepWord 9 = .ok (.aload_n 0, 1) := by decide +kernel
theorem dX5_stepWord_10 : decode cX5_stepWord 10 = .ok (.getfield 15, 3) := by decide +kernel
theorem dX5_stepWord_13 : decode cX5_stepWord 13 = .ok (.if_icmp .ge 31, 3) := by decide +kernel
theorem dX5_stepWord_16 : decode cX5_stepWord 16 = .ok (.aload_n 0, 1) := by decide +kernel
theorem dX5_stepWord_17 : decode cX5_stepWord 17 = .ok (.getfield 11, 3) := by decide +kernel
theorem dX5_stepWord_20 : decode cX5_stepWord 20 = .ok (.aload_n 0, 1) := by decide +kernel
theorem dX5_stepWord_21 : decode cX5_stepWord 21 = .ok (.getfield 19, 3) := by decide +kernel
theorem dX5_stepWord_24 : decode cX5_stepWord 24 = .ok (.iaload, 1) := by decide +kernel
theorem dX5_stepWord_25 : decode cX5_stepWord 25 = .ok (.invokestatic 91, 3) := by decide +kernel
theorem dX5_stepWord_28 : decode cX5_stepWord 28 = .ok (.ifCond .eq 16, 3) := by decide +kernel
theorem dX5_stepWord_31 : decode cX5_stepWord 31 = .ok (.aload_n 0, 1) := by decide +kernel
theorem dX5_stepWord_32 : decode cX5_stepWord 32 = .ok (.dup, 1) := by decide +kernel
theorem dX5_stepWord_33 : decode cX5_stepWord 33 = .ok (.getfield 19, 3) := by decide +kernel
theorem dX5_stepWord_36 : decode cX5_stepWord 36 = .ok (.iconst 1, 1) := by decide +kernel
theorem dX5_stepWord_37 : decode cX5_stepWord 37 = .ok (.iadd, 1) := by decide +kernel
theorem dX5_stepWord_38 : decode cX5_stepWord 38 = .ok (.putfield 19, 3) := by decide +kernel
theorem dX5_stepWord_41 : decode cX5_stepWord 41 = .ok (.goto (-36), 3) := by decide +kernel
theorem dX5_stepWord_44 : decode cX5_stepWord 44 = .ok (.return_, 1) := by decide +kernel
set_option maxRecDepth 20000 in
theorem ggX5_stepNumber_X5_isDigit : GoodIn wsX5_stepNumber wsX5_isDigit := goodIn_r _ [13] (by decide +kernel) (by decide +kernel)
set_option maxRecDepth 20000 in
theorem gX5_stepNumber_X5_isDigit : GoodIn wsX5_stepNumber (va_wsS RX5 97 yX5_isDigit wsX5_isDigit) := goodIn_app (goodIn_of _ (by decide +kernel)) ggX5_stepNumber_X5_isDigit
theorem dX5_stepNumber_0 : decode cX5_stepNumber 0 = .ok (.aload_n 0, 1) := by decide +kernel
theorem dX5_stepNumber_1 : decode cX5_stepNumber 1 = .ok (.iconst 2, 1) := by decide +kernel
theorem dX5_stepNumber_2 : decode cX5_stepNumber 2 = .ok (.putfield 32, 3) := by decide +kernel
theorem dX5_stepNumber_5 : decode cX5_stepNumber 5 = .ok (.aload_n 0, 1) := by decide +kernel
theorem dX5_stepNumber_6 : decode cX5_stepNumber 6 = .ok (.iconst 0, 1) := by decide +kernel
theorem dX5_stepNumber_7 : decode cX5_stepNumber 7 = .ok (.putfield 67, 3) := by decide +kernel
theorem dX5_stepNumber_10 : decode cX5_stepNumber 10 = .ok (.aload_n 0, 1) := by decide +kernel
theorem dX5_stepNumber_11 : decode cX5_stepNumber 11 = .ok (.getfield 19, 3) := by decide +kernel
theorem dX5_stepNumber_14 : decode cX5_stepNumber 14 = .ok (.aload_n 0, 1) := by decide +kernel
theorem dX5_stepNumber_15 : decode cX5_stepNumber 15 = .ok (.getfield 15, 3) := by decide +kernel
theorem dX5_stepNumber_18 : decode cX5_stepNumber 18 = .ok (.if_icmp .ge 61, 3) := by decide +kernel
theorem dX5_stepNumber_21 : decode cX5_stepNumber 21 = .ok (.aload_n 0, 1) := by decide +kernel
theorem dX5_stepNumber_22 : decode cX5_stepNumber 22 = .ok (.getfield 11, 3) := by decide +kernel
theorem dX5_stepNumber_25 : decode cX5_stepNumber 25 = .ok (.aload_n 0, 1) := by decide +kernel
theorem dX5_stepNumber_26 : decode cX5_stepNumber 26 = .ok (.getfield 19, 3) := by decide +kernel
theorem dX5_stepNumber_29 : decode cX5_stepNumber 29 = .ok (.iaload, 1) := by decide +kernel
theorem dX5_stepNumber_30 : decode cX5_stepNumber 30 = .ok (.invokestatic 97, 3) := by decide +kernel
theorem dX5_stepNumber_33 : decode cX5_stepNumber 33 = .ok (.ifCond .eq 46, 3) := by decide +kernel
theorem dX5_stepNumber_36 : decode cX5_stepNumber 36 = .ok (.aload_n 0, 1) := by decide +kernel
theorem dX5_stepNumber_37 : decode cX5_stepNumber 37 = .ok (.sipush 1000, 3) := by decide +kernel
theorem dX5_stepNumber_40 : decode cX5_stepNumber 40 = .ok (.bipush 10, 2) := by decide +kernel
theorem dX5_stepNumber_42 : decode cX5_stepNumber 42 = .ok (.aload_n 0, 1) := by decide +kernel
theorem dX5_stepNumber_43 : decode cX5_stepNumber 43 = .ok (.getfield 67, 3) := by decide +kernel
theorem dX5_stepNumber_46 : decode cX5_stepNumber 46 = .ok (.imul, 1) := by decide +kernel
theorem dX5_stepNumber_47 : decode cX5_stepNumber 47 = .ok (.aload_n 0, 1) := by decide +kernel
theorem dX5_stepNumber_48 : decode cX5_stepNumber 48 = .ok (.getfield 11, 3) := by decide +kernel
theorem dX5_stepNumber_51 : decode cX5_stepNumber 51 = .ok (.aload_n 0, 1) := by decide +kernel
theorem dX5_stepNumber_52 : decode cX5_stepNumber 52 = .ok (.getfield 19, 3) := by decide +kernel
theorem dX5_stepNumber_55 : decode cX5_stepNumber 55 = .ok (.iaload, 1) := by decide +kernel
theorem dX5_stepNumber_56 : decode cX5_stepNumber 56 = .ok (.iadd, 1) := by decide +kernel
theorem dX5_stepNumber_57 : decode cX5_stepNumber 57 = .ok (.bipush 48, 2) := by decide +kernel
theorem dX5_stepNumber_59 : decode cX5_stepNumber 59 = .ok (.isub, 1) := by decide +kernel
theorem dX5_stepNumber_60 : decode cX5_stepNumber 60 = .ok (.invokestatic 103, 3) := by decide +kernel
theorem dX5_stepNumber_63 : decode cX5_stepNumber 63 = .ok (.putfield 67, 3) := by decide +kernel
theorem dX5_stepNumber_66 : decode cX5_stepNumber 66 = .ok (.aload_n 0, 1) := by decide +kernel
theorem dX5_stepNumber_67 : decode cX5_stepNumber 67 = .ok (.dup, 1) := by decide +kernel
theorem dX5_stepNumber_68 : decode cX5_stepNumber 68 = .ok (.getfield 19, 3) := by decide +kernel
theorem dX5_stepNumber_71 : decode cX5_stepNumber 71 = .ok (.iconst 1, 1) := by decide +kernel
theorem dX5_stepNumber_72 : decode cX5_stepNumber 72 = .ok (.iadd, 1) := by decide +kernel
theorem dX5_stepNumber_73 : decode cX5_stepNumber 73 = .ok (.putfield 19, 3) := by decide +kernel
theorem dX5_stepNumber_76 : decode cX5_stepNumber 76 = .ok (.goto (-66), 3) := by decide +kernel
theorem dX5_stepNumber_79 : decode cX5_stepNumber 79 = .ok (.return_, 1) := by decide +kernel
set_option maxRecDepth 20000 in
theorem ggX5_isWord_J0_length_8abf5 : GoodIn wsX5_isWord wsJ0_length_8abf5 := goodIn_r _ [9, 10, 11, 12, 13, 8, 14, 15, 16] (by decide +kernel) (by decide +kernel)
set_option maxRecDepth 20000 in
theorem gX5_isWord_J0_length_8abf5 : GoodIn wsX5_isWord (wsV RX5 109 RJ0 yJ0_length_8abf5 wsJ0_length_8abf5) := goodIn_app (goodIn_of _ (by decide +kernel)) ggX5_isWord_J0_length_8abf5
set_option maxRecDepth 20000 in
theorem ggX5_isWord_J0_charAt_5068e : GoodIn wsX5_isWord wsJ0_charAt_5068e := goodIn_r _ [20, 10, 21, 22, 23, 8, 24, 15, 16, 25, 26, 27, 28, 29, 30, 31, 32, 33, 34, 35, 36, 37, 38, 39, 40, 41, 42, 43, 44, 45, 46, 47, 48, 49, 50, 51, 52, 53] (by decide +kernel) (by decide +kernel)
set_option maxRecDepth 20000 in
theorem gX5_isWord_J0_charAt_5068e : GoodIn wsX5_isWord (wsV RX5 114 RJ0 yJ0_charAt_5068e wsJ0_charAt_5068e) := goodIn_app (goodIn_of _ (by decide +kernel)) ggX5_isWord_J0_charAt_5068e
theorem dX5_isWord_0 : decode cX5_isWord 0 = .ok (.aload_n 0, 1) := by decide +kernel
theorem dX5_isWord_1 : decode cX5_isWord 1 = .ok (.getfield 32, 3) := by decide +kernel
theorem dX5_isWord_4 : decode cX5_isWord 4 = .ok (.iconst 1, 1) := by decide +kernel
theorem dX5_isWord_5 : decode cX5_isWord 5 = .ok (.if_icmp .ne 19, 3) := by decide +kernel
theorem dX5_isWord_8 : decode cX5_isWord 8 = .ok (.aload_n 0, 1) := by decide +kernel
theorem dX5_isWord_9 : decode cX5_isWord 9 = .ok (.getfield 19, 3) := by decide +kernel
theorem dX5_isWord_12 : decode cX5_isWord 12 = .ok (.aload_n 0, 1) := by decide +kernel
theorem dX5_isWord_13 : decode cX5_isWord 13 = .ok (.getfield 29, 3) := by decide +kernel
theorem dX5_isWord_16 : decode cX5_isWord 16 = .ok (.isub, 1) := by decide +kernel
theorem dX5_isWord_17 : decode cX5_isWord 17 = .ok (.aload_n 1, 1) := by decide +kernel
theorem dX5_isWord_18 : decode cX5_isWord 18 = .ok (.invokevirtual 109, 3) := by decide +kernel
theorem dX5_isWord_21 : decode cX5_isWord 21 = .ok (.if_icmp .eq 5, 3) := by decide +kernel
theorem dX5_isWord_24 : decode cX5_isWord 24 = .ok (.iconst 0, 1) := by decide +kernel
theorem dX5_isWord_25 : decode cX5_isWord 25 = .ok (.ireturn, 1) := by decide +kernel
theorem dX5_isWord_26 : decode cX5_isWord 26 = .ok (.iconst 0, 1) := by decide +kernel
theorem dX5_isWord_27 : decode cX5_isWord 27 = .ok (.istore_n 2, 1) := by decide +kernel
theorem dX5_isWord_28 : decode cX5_isWord 28 = .ok (.iload_n 2, 1) := by decide +kernel
theorem dX5_isWord_29 : decode cX5_isWord 29 = .ok (.aload_n 1, 1) := by decide +kernel
theorem dX5_isWord_30 : decode cX5_isWord 30 = .ok (.invokevirtual 109, 3) := by decide +kernel
theorem dX5_isWord_33 : decode cX5_isWord 33 = .ok (.if_icmp .ge 30, 3) := by decide +kernel
theorem dX5_isWord_36 : decode cX5_isWord 36 = .ok (.aload_n 0, 1) := by decide +kernel
theorem dX5_isWord_37 : decode cX5_isWord 37 = .ok (.getfield 11, 3) := by decide +kernel
theorem dX5_isWord_40 : decode cX5_isWord 40 = .ok (.aload_n 0, 1) := by decide +kernel
theorem dX5_isWord_41 : decode cX5_isWord 41 = .ok (.getfield 29, 3) := by decide +kernel
theorem dX5_isWord_44 : decode cX5_isWord 44 = .ok (.iload_n 2, 1) := by decide +kernel
theorem dX5_isWord_45 : decode cX5_isWord 45 = .ok (.iadd, 1) := by decide +kernel
theorem dX5_isWord_46 : decode cX5_isWord 46 = .ok (.iaload, 1) := by decide +kernel
theorem dX5_isWord_47 : decode cX5_isWord 47 = .ok (.aload_n 1, 1) := by decide +kernel
theorem dX5_isWord_48 : decode cX5_isWord 48 = .ok (.iload_n 2, 1) := by decide +kernel
theorem dX5_isWord_49 : decode cX5_isWord 49 = .ok (.invokevirtual 114, 3) := by decide +kernel
theorem dX5_isWord_52 : decode cX5_isWord 52 = .ok (.if_icmp .eq 5, 3) := by decide +kernel
theorem dX5_isWord_55 : decode cX5_isWord 55 = .ok (.iconst 0, 1) := by decide +kernel
theorem dX5_isWord_56 : decode cX5_isWord 56 = .ok (.ireturn, 1) := by decide +kernel
