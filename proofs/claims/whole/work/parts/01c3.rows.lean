theorem dX7_ledBy_58 : decode cX7_ledBy 58 = .ok (.goto 4, 3) := by decide +kernel
theorem dX7_ledBy_61 : decode cX7_ledBy 61 = .ok (.iload_n 3, 1) := by decide +kernel
theorem dX7_ledBy_62 : decode cX7_ledBy 62 = .ok (.invokestatic 88, 3) := by decide +kernel
theorem dX7_ledBy_65 : decode cX7_ledBy 65 = .ok (.ireturn, 1) := by decide +kernel
theorem dX7_ledBy_66 : decode cX7_ledBy 66 = .ok (.iload_n 2, 1) := by decide +kernel
theorem dX7_ledBy_67 : decode cX7_ledBy 67 = .ok (.invokestatic 91, 3) := by decide +kernel
theorem dX7_ledBy_70 : decode cX7_ledBy 70 = .ok (.iconst 2, 1) := by decide +kernel
theorem dX7_ledBy_71 : decode cX7_ledBy 71 = .ok (.if_icmp .gt 10, 3) := by decide +kernel
theorem dX7_ledBy_74 : decode cX7_ledBy 74 = .ok (.iload_n 2, 1) := by decide +kernel
theorem dX7_ledBy_75 : decode cX7_ledBy 75 = .ok (.invokestatic 88, 3) := by decide +kernel
theorem dX7_ledBy_78 : decode cX7_ledBy 78 = .ok (.goto 7, 3) := by decide +kernel
theorem dX7_ledBy_81 : decode cX7_ledBy 81 = .ok (.iload_n 2, 1) := by decide +kernel
theorem dX7_ledBy_82 : decode cX7_ledBy 82 = .ok (.invokestatic 85, 3) := by decide +kernel
theorem dX7_ledBy_85 : decode cX7_ledBy 85 = .ok (.ireturn, 1) := by decide +kernel
theorem dX7_ledBy_86 : decode cX7_ledBy 86 = .ok (.iload_n 2, 1) := by decide +kernel
theorem dX7_ledBy_87 : decode cX7_ledBy 87 = .ok (.invokestatic 88, 3) := by decide +kernel
theorem dX7_ledBy_90 : decode cX7_ledBy 90 = .ok (.ireturn, 1) := by decide +kernel
set_option maxRecDepth 20000 in
theorem ggX7_mayOf_X7_it : GoodIn wsX7_mayOf wsX7_it := goodIn_r _ [6, 1, 7, 8, 9, 10, 11, 12, 13, 14, 15, 16, 17, 18, 19, 20, 21, 22, 23] (by decide +kernel) (by decide +kernel)
set_option maxRecDepth 20000 in
theorem gX7_mayOf_X7_it : GoodIn wsX7_mayOf (wsV RX7 82 RX7 yX7_it wsX7_it) := goodIn_app (goodIn_of _ (by decide +kernel)) ggX7_mayOf_X7_it
theorem dX7_mayOf_0 : decode cX7_mayOf 0 = .ok (.aload_n 0, 1) := by decide +kernel
theorem dX7_mayOf_1 : decode cX7_mayOf 1 = .ok (.iload_n 1, 1) := by decide +kernel
theorem dX7_mayOf_2 : decode cX7_mayOf 2 = .ok (.iconst 0, 1) := by decide +kernel
theorem dX7_mayOf_3 : decode cX7_mayOf 3 = .ok (.invokevirtual 82, 3) := by decide +kernel
theorem dX7_mayOf_6 : decode cX7_mayOf 6 = .ok (.iconst 2, 1) := by decide +kernel
theorem dX7_mayOf_7 : decode cX7_mayOf 7 = .ok (.if_icmp .eq 13, 3) := by decide +kernel
theorem dX7_mayOf_10 : decode cX7_mayOf 10 = .ok (.aload_n 0, 1) := by decide +kernel
theorem dX7_mayOf_11 : decode cX7_mayOf 11 = .ok (.iload_n 1, 1) := by decide +kernel
theorem dX7_mayOf_12 : decode cX7_mayOf 12 = .ok (.iconst 0, 1) := by decide +kernel
theorem dX7_mayOf_13 : decode cX7_mayOf 13 = .ok (.invokevirtual 82, 3) := by decide +kernel
theorem dX7_mayOf_16 : decode cX7_mayOf 16 = .ok (.iconst 5, 1) := by decide +kernel
theorem dX7_mayOf_17 : decode cX7_mayOf 17 = .ok (.if_icmp .ne 18, 3) := by decide +kernel
theorem dX7_mayOf_20 : decode cX7_mayOf 20 = .ok (.aload_n 0, 1) := by decide +kernel
theorem dX7_mayOf_21 : decode cX7_mayOf 21 = .ok (.getfield 9, 3) := by decide +kernel
theorem dX7_mayOf_24 : decode cX7_mayOf 24 = .ok (.iconst 0, 1) := by decide +kernel
theorem dX7_mayOf_25 : decode cX7_mayOf 25 = .ok (.iaload, 1) := by decide +kernel
theorem dX7_mayOf_26 : decode cX7_mayOf 26 = .ok (.iconst 3, 1) := by decide +kernel
theorem dX7_mayOf_27 : decode cX7_mayOf 27 = .ok (.irem, 1) := by decide +kernel
theorem dX7_mayOf_28 : decode cX7_mayOf 28 = .ok (.ifCond .ne 7, 3) := by decide +kernel
theorem dX7_mayOf_31 : decode cX7_mayOf 31 = .ok (.iconst 1, 1) := by decide +kernel
theorem dX7_mayOf_32 : decode cX7_mayOf 32 = .ok (.goto 4, 3) := by decide +kernel
theorem dX7_mayOf_35 : decode cX7_mayOf 35 = .ok (.iconst 0, 1) := by decide +kernel
theorem dX7_mayOf_36 : decode cX7_mayOf 36 = .ok (.istore 4, 2) := by decide +kernel
theorem dX7_mayOf_38 : decode cX7_mayOf 38 = .ok (.iload_n 2, 1) := by decide +kernel
theorem dX7_mayOf_39 : decode cX7_mayOf 39 = .ok (.sipush 255, 3) := by decide +kernel
theorem dX7_mayOf_42 : decode cX7_mayOf 42 = .ok (.bipush 8, 2) := by decide +kernel
theorem dX7_mayOf_44 : decode cX7_mayOf 44 = .ok (.iload_n 3, 1) := by decide +kernel
theorem dX7_mayOf_45 : decode cX7_mayOf 45 = .ok (.bipush 8, 2) := by decide +kernel
theorem dX7_mayOf_47 : decode cX7_mayOf 47 = .ok (.idiv, 1) := by decide +kernel
theorem dX7_mayOf_48 : decode cX7_mayOf 48 = .ok (.imul, 1) := by decide +kernel
theorem dX7_mayOf_49 : decode cX7_mayOf 49 = .ok (.ishl, 1) := by decide +kernel
theorem dX7_mayOf_50 : decode cX7_mayOf 50 = .ok (.iand, 1) := by decide +kernel
theorem dX7_mayOf_51 : decode cX7_mayOf 51 = .ok (.istore 5, 2) := by decide +kernel
theorem dX7_mayOf_53 : decode cX7_mayOf 53 = .ok (.iload 4, 2) := by decide +kernel
theorem dX7_mayOf_55 : decode cX7_mayOf 55 = .ok (.ifCond .ne 8, 3) := by decide +kernel
theorem dX7_mayOf_58 : decode cX7_mayOf 58 = .ok (.iload 5, 2) := by decide +kernel
theorem dX7_mayOf_60 : decode cX7_mayOf 60 = .ok (.ifCond .ne 7, 3) := by decide +kernel
theorem dX7_mayOf_63 : decode cX7_mayOf 63 = .ok (.iload_n 2, 1) := by decide +kernel
theorem dX7_mayOf_64 : decode cX7_mayOf 64 = .ok (.goto 5, 3) := by decide +kernel
theorem dX7_mayOf_67 : decode cX7_mayOf 67 = .ok (.iload 5, 2) := by decide +kernel
theorem dX7_mayOf_69 : decode cX7_mayOf 69 = .ok (.ireturn, 1) := by decide +kernel
set_option maxRecDepth 20000 in
theorem ggX7_followedBy_X7_mayOf : GoodIn wsX7_followedBy wsX7_mayOf := goodIn_r _ [5, 6, 7, 8, 9, 4, 10, 32, 33, 34, 35, 36, 37, 38, 39, 40, 41, 42, 43, 44, 45, 46, 47, 48] (by decide +kernel) (by decide +kernel)
set_option maxRecDepth 20000 in
theorem gX7_followedBy_X7_mayOf : GoodIn wsX7_followedBy (wsV RX7 94 RX7 yX7_mayOf wsX7_mayOf) := goodIn_app (goodIn_of _ (by decide +kernel)) ggX7_followedBy_X7_mayOf
set_option maxRecDepth 20000 in
theorem ggX7_followedBy_X7_beaters : GoodIn wsX7_followedBy wsX7_beaters := goodIn_r _ [14, 15, 16, 4, 17, 18, 19, 20, 21, 22, 23, 24, 25, 6, 32, 33, 34, 35, 36, 37, 38, 39, 40, 41, 42, 43, 44, 45, 46, 47, 48] (by decide +kernel) (by decide +kernel)
set_option maxRecDepth 20000 in
theorem gX7_followedBy_X7_beaters : GoodIn wsX7_followedBy (wsV RX7 98 RX7 yX7_beaters wsX7_beaters) := goodIn_app (goodIn_of _ (by decide +kernel)) ggX7_followedBy_X7_beaters
set_option maxRecDepth 20000 in
theorem ggX7_followedBy_X7_lowest : GoodIn wsX7_followedBy wsX7_lowest := goodIn_r _ [28, 15, 16, 4, 17] (by decide +kernel) (by decide +kernel)
set_option maxRecDepth 20000 in
theorem gX7_followedBy_X7_lowest : GoodIn wsX7_followedBy (va_wsS RX7 85 yX7_lowest wsX7_lowest) := goodIn_app (goodIn_of _ (by decide +kernel)) ggX7_followedBy_X7_lowest
set_option maxRecDepth 20000 in
theorem ggX7_followedBy_X7_it : GoodIn wsX7_followedBy wsX7_it := goodIn_r _ [10, 6, 32, 33, 34, 35, 36, 37, 38, 39, 40, 41, 42, 43, 44, 45, 46, 47, 48] (by decide +kernel) (by decide +kernel)
set_option maxRecDepth 20000 in
theorem gX7_followedBy_X7_it : GoodIn wsX7_followedBy (wsV RX7 82 RX7 yX7_it wsX7_it) := goodIn_app (goodIn_of _ (by decide +kernel)) ggX7_followedBy_X7_it
set_option maxRecDepth 20000 in
theorem ggX7_followedBy_X7_highest : GoodIn wsX7_followedBy wsX7_highest := goodIn_r _ [31, 15, 16, 4, 17] (by decide +kernel) (by decide +kernel)
set_option maxRecDepth 20000 in
theorem gX7_followedBy_X7_highest : GoodIn wsX7_followedBy (va_wsS RX7 88 yX7_highest wsX7_highest) := goodIn_app (goodIn_of _ (by decide +kernel)) ggX7_followedBy_X7_highest
set_option maxRecDepth 20000 in
theorem ggX7_followedBy_X7_isTrump : GoodIn wsX7_followedBy wsX7_isTrump := goodIn_r _ [25, 6, 32, 33, 34, 35, 36, 37, 38, 39, 40, 41, 42, 43, 44, 45, 46, 47, 48] (by decide +kernel) (by decide +kernel)
set_option maxRecDepth 20000 in
theorem gX7_followedBy_X7_isTrump : GoodIn wsX7_followedBy (wsV RX7 69 RX7 yX7_isTrump wsX7_isTrump) := goodIn_app (goodIn_of _ (by decide +kernel)) ggX7_followedBy_X7_isTrump
theorem dX7_followedBy_0 : decode cX7_followedBy 0 = .ok (.aload_n 0, 1) := by decide +kernel
theorem dX7_followedBy_1 : decode cX7_followedBy 1 = .ok (.iload_n 1, 1) := by decide +kernel
theorem dX7_followedBy_2 : decode cX7_followedBy 2 = .ok (.iload_n 2, 1) := by decide +kernel
theorem dX7_followedBy_3 : decode cX7_followedBy 3 = .ok (.iload_n 3, 1) := by decide +kernel
theorem dX7_followedBy_4 : decode cX7_followedBy 4 = .ok (.invokevirtual 94, 3) := by decide +kernel
theorem dX7_followedBy_7 : decode cX7_followedBy 7 = .ok (.istore 4, 2) := by decide +kernel
theorem dX7_followedBy_9 : decode cX7_followedBy 9 = .ok (.aload_n 0, 1) := by decide +kernel
theorem dX7_followedBy_10 : decode cX7_followedBy 10 = .ok (.iload 4, 2) := by decide +kernel
theorem dX7_followedBy_12 : decode cX7_followedBy 12 = .ok (.iload_n 3, 1) := by decide +kernel
theorem dX7_followedBy_13 : decode cX7_followedBy 13 = .ok (.invokevirtual 98, 3) := by decide +kernel
theorem dX7_followedBy_16 : decode cX7_followedBy 16 = .ok (.istore 5, 2) := by decide +kernel
theorem dX7_followedBy_18 : decode cX7_followedBy 18 = .ok (.iload 5, 2) := by decide +kernel
theorem dX7_followedBy_20 : decode cX7_followedBy 20 = .ok (.ifCond .ne 8, 3) := by decide +kernel
theorem dX7_followedBy_23 : decode cX7_followedBy 23 = .ok (.iload 4, 2) := by decide +kernel
theorem dX7_followedBy_25 : decode cX7_followedBy 25 = .ok (.goto 5, 3) := by decide +kernel
theorem dX7_followedBy_28 : decode cX7_followedBy 28 = .ok (.iload 5, 2) := by decide +kernel
theorem dX7_followedBy_30 : decode cX7_followedBy 30 = .ok (.invokestatic 85, 3) := by decide +kernel
theorem dX7_followedBy_33 : decode cX7_followedBy 33 = .ok (.istore 6, 2) := by decide +kernel
theorem dX7_followedBy_35 : decode cX7_followedBy 35 = .ok (.iload 4, 2) := by decide +kernel
theorem dX7_followedBy_37 : decode cX7_followedBy 37 = .ok (.iload 5, 2) := by decide +kernel
theorem dX7_followedBy_39 : decode cX7_followedBy 39 = .ok (.iconst (-1), 1) := by decide +kernel
theorem dX7_followedBy_40 : decode cX7_followedBy 40 = .ok (.ixor, 1) := by decide +kernel
theorem dX7_followedBy_41 : decode cX7_followedBy 41 = .ok (.iand, 1) := by decide +kernel
theorem dX7_followedBy_42 : decode cX7_followedBy 42 = .ok (.istore 7, 2) := by decide +kernel
theorem dX7_followedBy_44 : decode cX7_followedBy 44 = .ok (.aload_n 0, 1) := by decide +kernel
theorem dX7_followedBy_45 : decode cX7_followedBy 45 = .ok (.iload_n 1, 1) := by decide +kernel
theorem dX7_followedBy_46 : decode cX7_followedBy 46 = .ok (.iconst 0, 1) := by decide +kernel
theorem dX7_followedBy_47 : decode cX7_followedBy 47 = .ok (.invokevirtual 82, 3) := by decide +kernel
theorem dX7_followedBy_50 : decode cX7_followedBy 50 = .ok (.tableswitch 97 1 5 #[34, 97, 40, 59, 78], 34) := by decide +kernel
theorem dX7_followedBy_84 : decode cX7_followedBy 84 = .ok (.iload 4, 2) := by decide +kernel
theorem dX7_followedBy_86 : decode cX7_followedBy 86 = .ok (.invokestatic 85, 3) := by decide +kernel
theorem dX7_followedBy_89 : decode cX7_followedBy 89 = .ok (.ireturn, 1) := by decide +kernel
theorem dX7_followedBy_90 : decode cX7_followedBy 90 = .ok (.iload 7, 2) := by decide +kernel
theorem dX7_followedBy_92 : decode cX7_followedBy 92 = .ok (.ifCond .ne 11, 3) := by decide +kernel
theorem dX7_followedBy_95 : decode cX7_followedBy 95 = .ok (.iload 4, 2) := by decide +kernel
theorem dX7_followedBy_97 : decode cX7_followedBy 97 = .ok (.invokestatic 85, 3) := by decide +kernel
theorem dX7_followedBy_100 : decode cX7_followedBy 100 = .ok (.goto 8, 3) := by decide +kernel
theorem dX7_followedBy_103 : decode cX7_followedBy 103 = .ok (.iload 7, 2) := by decide +kernel
theorem dX7_followedBy_105 : decode cX7_followedBy 105 = .ok (.invokestatic 88, 3) := by decide +kernel
theorem dX7_followedBy_108 : decode cX7_followedBy 108 = .ok (.ireturn, 1) := by decide +kernel
theorem dX7_followedBy_109 : decode cX7_followedBy 109 = .ok (.aload_n 0, 1) := by decide +kernel
theorem dX7_followedBy_110 : decode cX7_followedBy 110 = .ok (.iload_n 3, 1) := by decide +kernel
theorem dX7_followedBy_111 : decode cX7_followedBy 111 = .ok (.invokevirtual 69, 3) := by decide +kernel
theorem dX7_followedBy_114 : decode cX7_followedBy 114 = .ok (.ifCond .eq 8, 3) := by decide +kernel
theorem dX7_followedBy_117 : decode cX7_followedBy 117 = .ok (.iload 6, 2) := by decide +kernel
theorem dX7_followedBy_119 : decode cX7_followedBy 119 = .ok (.goto 8, 3) := by decide +kernel
theorem dX7_followedBy_122 : decode cX7_followedBy 122 = .ok (.iload 4, 2) := by decide +kernel
theorem dX7_followedBy_124 : decode cX7_followedBy 124 = .ok (.invokestatic 85, 3) := by decide +kernel
theorem dX7_followedBy_127 : decode cX7_followedBy 127 = .ok (.ireturn, 1) := by decide +kernel
theorem dX7_followedBy_128 : decode cX7_followedBy 128 = .ok (.iload 5, 2) := by decide +kernel
theorem dX7_followedBy_130 : decode cX7_followedBy 130 = .ok (.ifCond .ne 11, 3) := by decide +kernel
theorem dX7_followedBy_133 : decode cX7_followedBy 133 = .ok (.iload 4, 2) := by decide +kernel
theorem dX7_followedBy_135 : decode cX7_followedBy 135 = .ok (.invokestatic 85, 3) := by decide +kernel
theorem dX7_followedBy_138 : decode cX7_followedBy 138 = .ok (.goto 8, 3) := by decide +kernel
theorem dX7_followedBy_141 : decode cX7_followedBy 141 = .ok (.iload 5, 2) := by decide +kernel
theorem dX7_followedBy_143 : decode cX7_followedBy 143 = .ok (.invokestatic 88, 3) := by decide +kernel
theorem dX7_followedBy_146 : decode cX7_followedBy 146 = .ok (.ireturn, 1) := by decide +kernel
theorem dX7_followedBy_147 : decode cX7_followedBy 147 = .ok (.iload 6, 2) := by decide +kernel
theorem dX7_followedBy_149 : decode cX7_followedBy 149 = .ok (.ireturn, 1) := by decide +kernel
theorem dX7_comesAs_0 : decode cX7_comesAs 0 = .ok (.aload_n 0, 1) := by decide +kernel
theorem dX7_comesAs_1 : decode cX7_comesAs 1 = .ok (.getfield 9, 3) := by decide +kernel
theorem dX7_comesAs_4 : decode cX7_comesAs 4 = .ok (.iconst 2, 1) := by decide +kernel
theorem dX7_comesAs_5 : decode cX7_comesAs 5 = .ok (.iaload, 1) := by decide +kernel
theorem dX7_comesAs_6 : decode cX7_comesAs 6 = .ok (.istore_n 2, 1) := by decide +kernel
theorem dX7_comesAs_7 : decode cX7_comesAs 7 = .ok (.aload_n 0, 1) := by decide +kernel
theorem dX7_comesAs_8 : decode cX7_comesAs 8 = .ok (.getfield 9, 3) := by decide +kernel
theorem dX7_comesAs_11 : decode cX7_comesAs 11 = .ok (.iconst 2, 1) := by decide +kernel
theorem dX7_comesAs_12 : decode cX7_comesAs 12 = .ok (.dup2, 1) := by decide +kernel
theorem dX7_comesAs_13 : decode cX7_comesAs 13 = .ok (.iaload, 1) := by decide +kernel
theorem dX7_comesAs_14 : decode cX7_comesAs 14 = .ok (.iconst 1, 1) := by decide +kernel
theorem dX7_comesAs_15 : decode cX7_comesAs 15 = .ok (.iadd, 1) := by decide +kernel
theorem dX7_comesAs_16 : decode cX7_comesAs 16 = .ok (.iastore, 1) := by decide +kernel
theorem dX7_comesAs_17 : decode cX7_comesAs 17 = .ok (.aload_n 0, 1) := by decide +kernel
theorem dX7_comesAs_18 : decode cX7_comesAs 18 = .ok (.getfield 9, 3) := by decide +kernel
theorem dX7_comesAs_21 : decode cX7_comesAs 21 = .ok (.bipush 15, 2) := by decide +kernel
theorem dX7_comesAs_23 : decode cX7_comesAs 23 = .ok (.iconst 2, 1) := by decide +kernel
theorem dX7_comesAs_24 : decode cX7_comesAs 24 = .ok (.iload_n 2, 1) := by decide +kernel
theorem dX7_comesAs_25 : decode cX7_comesAs 25 = .ok (.imul, 1) := by decide +kernel
theorem dX7_comesAs_26 : decode cX7_comesAs 26 = .ok (.iadd, 1) := by decide +kernel
theorem dX7_comesAs_27 : decode cX7_comesAs 27 = .ok (.iload_n 1, 1) := by decide +kernel
theorem dX7_comesAs_28 : decode cX7_comesAs 28 = .ok (.iastore, 1) := by decide +kernel
theorem dX7_comesAs_29 : decode cX7_comesAs 29 = .ok (.aload_n 0, 1) := by decide +kernel
theorem dX7_comesAs_30 : decode cX7_comesAs 30 = .ok (.getfield 9, 3) := by decide +kernel
theorem dX7_comesAs_33 : decode cX7_comesAs 33 = .ok (.bipush 15, 2) := by decide +kernel
theorem dX7_comesAs_35 : decode cX7_comesAs 35 = .ok (.iconst 2, 1) := by decide +kernel
theorem dX7_comesAs_36 : decode cX7_comesAs 36 = .ok (.iload_n 2, 1) := by decide +kernel
theorem dX7_comesAs_37 : decode cX7_comesAs 37 = .ok (.imul, 1) := by decide +kernel
theorem dX7_comesAs_38 : decode cX7_comesAs 38 = .ok (.iadd, 1) := by decide +kernel
theorem dX7_comesAs_39 : decode cX7_comesAs 39 = .ok (.iconst 1, 1) := by decide +kernel
theorem dX7_comesAs_40 : decode cX7_comesAs 40 = .ok (.iadd, 1) := by decide +kernel
theorem dX7_comesAs_41 : decode cX7_comesAs 41 = .ok (.iconst 0, 1) := by decide +kernel
theorem dX7_comesAs_42 : decode cX7_comesAs 42 = .ok (.iastore, 1) := by decide +kernel
theorem dX7_comesAs_43 : decode cX7_comesAs 43 = .ok (.iload_n 2, 1) := by decide +kernel
theorem dX7_comesAs_44 : decode cX7_comesAs 44 = .ok (.ireturn, 1) := by decide +kernel
set_option maxRecDepth 20000 in
theorem ggX7_envoy_X7_in : GoodIn wsX7_envoy wsX7_in := goodIn_r _ [7] (by decide +kernel) (by decide +kernel)
set_option maxRecDepth 20000 in
theorem gX7_envoy_X7_in : GoodIn wsX7_envoy (va_wsS RX7 47 yX7_in wsX7_in) := goodIn_app (goodIn_of _ (by decide +kernel)) ggX7_envoy_X7_in
set_option maxRecDepth 20000 in
theorem ggX7_envoy_X7_finds : GoodIn wsX7_envoy wsX7_finds := goodIn_r _ [11, 12, 1, 17, 18, 19, 20, 21, 22, 23, 24, 25, 26, 27, 28, 29, 30, 31, 32, 33] (by decide +kernel) (by decide +kernel)
set_option maxRecDepth 20000 in
theorem gX7_envoy_X7_finds : GoodIn wsX7_envoy (wsV RX7 43 RX7 yX7_finds wsX7_finds) := goodIn_app (goodIn_of _ (by decide +kernel)) ggX7_envoy_X7_finds
set_option maxRecDepth 20000 in
theorem ggX7_envoy_X7_comesAs : GoodIn wsX7_envoy wsX7_comesAs := goodIn_r _ [16, 2, 17, 18, 19, 20, 21, 22, 23, 24, 25, 26, 27, 28, 29, 30, 31, 32, 33] (by decide +kernel) (by decide +kernel)
set_option maxRecDepth 20000 in
theorem gX7_envoy_X7_comesAs : GoodIn wsX7_envoy (wsV RX7 102 RX7 yX7_comesAs wsX7_comesAs) := goodIn_app (goodIn_of _ (by decide +kernel)) ggX7_envoy_X7_comesAs
theorem dX7_envoy_0 : decode cX7_envoy 0 = .ok (.iload_n 1, 1) := by decide +kernel
theorem dX7_envoy_1 : decode cX7_envoy 1 = .ok (.i2l, 1) := by decide +kernel
theorem dX7_envoy_2 : decode cX7_envoy 2 = .ok (.iconst 0, 1) := by decide +kernel
theorem dX7_envoy_3 : decode cX7_envoy 3 = .ok (.iconst 5, 1) := by decide +kernel
theorem dX7_envoy_4 : decode cX7_envoy 4 = .ok (.invokestatic 47, 3) := by decide +kernel
theorem dX7_envoy_7 : decode cX7_envoy 7 = .ok (.ifCond .ne 10, 3) := by decide +kernel
theorem dX7_envoy_10 : decode cX7_envoy 10 = .ok (.aload_n 0, 1) := by decide +kernel
theorem dX7_envoy_11 : decode cX7_envoy 11 = .ok (.ldc 41, 2) := by decide +kernel
theorem dX7_envoy_13 : decode cX7_envoy 13 = .ok (.invokevirtual 43, 3) := by decide +kernel
theorem dX7_envoy_16 : decode cX7_envoy 16 = .ok (.ireturn, 1) := by decide +kernel
theorem dX7_envoy_17 : decode cX7_envoy 17 = .ok (.aload_n 0, 1) := by decide +kernel
theorem dX7_envoy_18 : decode cX7_envoy 18 = .ok (.getfield 9, 3) := by decide +kernel
theorem dX7_envoy_21 : decode cX7_envoy 21 = .ok (.iconst 2, 1) := by decide +kernel
theorem dX7_envoy_22 : decode cX7_envoy 22 = .ok (.iaload, 1) := by decide +kernel
theorem dX7_envoy_23 : decode cX7_envoy 23 = .ok (.bipush 8, 2) := by decide +kernel
theorem dX7_envoy_25 : decode cX7_envoy 25 = .ok (.if_icmp .ne 12, 3) := by decide +kernel
theorem dX7_envoy_28 : decode cX7_envoy 28 = .ok (.aload_n 0, 1) := by decide +kernel
theorem dX7_envoy_29 : decode cX7_envoy 29 = .ok (.ldc 101, 2) := by decide +kernel
theorem dX7_envoy_31 : decode cX7_envoy 31 = .ok (.invokevirtual 43, 3) := by decide +kernel
theorem dX7_envoy_34 : decode cX7_envoy 34 = .ok (.goto 8, 3) := by decide +kernel
theorem dX7_envoy_37 : decode cX7_envoy 37 = .ok (.aload_n 0, 1) := by decide +kernel
theorem dX7_envoy_38 : decode cX7_envoy 38 = .ok (.iload_n 1, 1) := by decide +kernel
theorem dX7_envoy_39 : decode cX7_envoy 39 = .ok (.invokevirtual 102, 3) := by decide +kernel
theorem dX7_envoy_42 : decode cX7_envoy 42 = .ok (.ireturn, 1) := by decide +kernel
set_option maxRecDepth 20000 in
theorem ggX7_of_X7_isEnvoy : GoodIn wsX7_of wsX7_isEnvoy := goodIn_r _ [7, 2, 8, 9, 6, 10, 20, 21, 22, 23, 24, 25, 26, 27, 28, 29, 30, 31, 32, 33, 34, 35, 36] (by decide +kernel) (by decide +kernel)
set_option maxRecDepth 20000 in
theorem gX7_of_X7_isEnvoy : GoodIn wsX7_of (wsV RX7 105 RX7 yX7_isEnvoy wsX7_isEnvoy) := goodIn_app (goodIn_of _ (by decide +kernel)) ggX7_of_X7_isEnvoy
set_option maxRecDepth 20000 in
theorem ggX7_of_X7_in : GoodIn wsX7_of wsX7_in := goodIn_r _ [10] (by decide +kernel) (by decide +kernel)
set_option maxRecDepth 20000 in
theorem gX7_of_X7_in : GoodIn wsX7_of (va_wsS RX7 47 yX7_in wsX7_in) := goodIn_app (goodIn_of _ (by decide +kernel)) ggX7_of_X7_in
set_option maxRecDepth 20000 in
theorem ggX7_of_X7_finds : GoodIn wsX7_of wsX7_finds := goodIn_r _ [14, 15, 1, 20, 21, 22, 23, 24, 25, 26, 27, 28, 29, 30, 31, 32, 33, 34, 35, 36] (by decide +kernel) (by decide +kernel)
set_option maxRecDepth 20000 in
theorem gX7_of_X7_finds : GoodIn wsX7_of (wsV RX7 43 RX7 yX7_finds wsX7_finds) := goodIn_app (goodIn_of _ (by decide +kernel)) ggX7_of_X7_finds
set_option maxRecDepth 20000 in
theorem ggX7_of_X7_it : GoodIn wsX7_of wsX7_it := goodIn_r _ [19, 2, 20, 21, 22, 23, 24, 25, 26, 27, 28, 29, 30, 31, 32, 33, 34, 35, 36] (by decide +kernel) (by decide +kernel)
set_option maxRecDepth 20000 in
theorem gX7_of_X7_it : GoodIn wsX7_of (wsV RX7 82 RX7 yX7_it wsX7_it) := goodIn_app (goodIn_of _ (by decide +kernel)) ggX7_of_X7_it
theorem dX7_of_0 : decode cX7_of 0 = .ok (.aload_n 0, 1) := by decide +kernel
theorem dX7_of_1 : decode cX7_of 1 = .ok (.iload_n 1, 1) := by decide +kernel
theorem dX7_of_2 : decode cX7_of 2 = .ok (.invokevirtual 105, 3) := by decide +kernel
theorem dX7_of_5 : decode cX7_of 5 = .ok (.ifCond .eq 13, 3) := by decide +kernel
theorem dX7_of_8 : decode cX7_of 8 = .ok (.iload_n 2, 1) := by decide +kernel
theorem dX7_of_9 : decode cX7_of 9 = .ok (.i2l, 1) := by decide +kernel
theorem dX7_of_10 : decode cX7_of 10 = .ok (.iconst 0, 1) := by decide +kernel
theorem dX7_of_11 : decode cX7_of 11 = .ok (.iconst 2, 1) := by decide +kernel
theorem dX7_of_12 : decode cX7_of 12 = .ok (.invokestatic 47, 3) := by decide +kernel
theorem dX7_of_15 : decode cX7_of 15 = .ok (.ifCond .ne 10, 3) := by decide +kernel
theorem dX7_of_18 : decode cX7_of 18 = .ok (.aload_n 0, 1) := by decide +kernel
theorem dX7_of_19 : decode cX7_of 19 = .ok (.ldc 41, 2) := by decide +kernel
theorem dX7_of_21 : decode cX7_of 21 = .ok (.invokevirtual 43, 3) := by decide +kernel
theorem dX7_of_24 : decode cX7_of 24 = .ok (.ireturn, 1) := by decide +kernel
theorem dX7_of_25 : decode cX7_of 25 = .ok (.aload_n 0, 1) := by decide +kernel
theorem dX7_of_26 : decode cX7_of 26 = .ok (.getfield 9, 3) := by decide +kernel
theorem dX7_of_29 : decode cX7_of 29 = .ok (.iconst 3, 1) := by decide +kernel
theorem dX7_of_30 : decode cX7_of 30 = .ok (.iaload, 1) := by decide +kernel
theorem dX7_of_31 : decode cX7_of 31 = .ok (.iload_n 1, 1) := by decide +kernel
theorem dX7_of_32 : decode cX7_of 32 = .ok (.if_icmp .ne 7, 3) := by decide +kernel
theorem dX7_of_35 : decode cX7_of 35 = .ok (.iconst 1, 1) := by decide +kernel
theorem dX7_of_36 : decode cX7_of 36 = .ok (.goto 4, 3) := by decide +kernel
theorem dX7_of_39 : decode cX7_of 39 = .ok (.iconst 0, 1) := by decide +kernel
theorem dX7_of_40 : decode cX7_of 40 = .ok (.aload_n 0, 1) := by decide +kernel
theorem dX7_of_41 : decode cX7_of 41 = .ok (.getfield 9, 3) := by decide +kernel
theorem dX7_of_44 : decode cX7_of 44 = .ok (.iconst 4, 1) := by decide +kernel
theorem dX7_of_45 : decode cX7_of 45 = .ok (.iaload, 1) := by decide +kernel
theorem dX7_of_46 : decode cX7_of 46 = .ok (.iload_n 1, 1) := by decide +kernel
theorem dX7_of_47 : decode cX7_of 47 = .ok (.if_icmp .ne 7, 3) := by decide +kernel
theorem dX7_of_50 : decode cX7_of 50 = .ok (.iconst 2, 1) := by decide +kernel
theorem dX7_of_51 : decode cX7_of 51 = .ok (.goto 4, 3) := by decide +kernel
theorem dX7_of_54 : decode cX7_of 54 = .ok (.iconst 0, 1) := by decide +kernel
theorem dX7_of_55 : decode cX7_of 55 = .ok (.iadd, 1) := by decide +kernel
theorem dX7_of_56 : decode cX7_of 56 = .ok (.istore_n 3, 1) := by decide +kernel
theorem dX7_of_57 : decode cX7_of 57 = .ok (.iload_n 2, 1) := by decide +kernel
theorem dX7_of_58 : decode cX7_of 58 = .ok (.iconst 2, 1) := by decide +kernel
theorem dX7_of_59 : decode cX7_of 59 = .ok (.if_icmp .ge 12, 3) := by decide +kernel
theorem dX7_of_62 : decode cX7_of 62 = .ok (.aload_n 0, 1) := by decide +kernel
theorem dX7_of_63 : decode cX7_of 63 = .ok (.iload_n 1, 1) := by decide +kernel
theorem dX7_of_64 : decode cX7_of 64 = .ok (.iload_n 2, 1) := by decide +kernel
theorem dX7_of_65 : decode cX7_of 65 = .ok (.invokevirtual 82, 3) := by decide +kernel
theorem dX7_of_68 : decode cX7_of 68 = .ok (.goto 4, 3) := by decide +kernel
theorem dX7_of_71 : decode cX7_of 71 = .ok (.iload_n 3, 1) := by decide +kernel
theorem dX7_of_72 : decode cX7_of 72 = .ok (.ireturn, 1) := by decide +kernel
set_option maxRecDepth 20000 in
theorem ggX7_turn_X7_isEnvoy : GoodIn wsX7_turn wsX7_isEnvoy := goodIn_r _ [6, 7, 8, 9, 5, 10, 20, 21, 22, 23, 24, 25, 26, 27, 28, 29, 30, 31, 32, 33, 34, 35, 36] (by decide +kernel) (by decide +kernel)
set_option maxRecDepth 20000 in
theorem gX7_turn_X7_isEnvoy : GoodIn wsX7_turn (wsV RX7 105 RX7 yX7_isEnvoy wsX7_isEnvoy) := goodIn_app (goodIn_of _ (by decide +kernel)) ggX7_turn_X7_isEnvoy
set_option maxRecDepth 20000 in
theorem ggX7_turn_X7_in : GoodIn wsX7_turn wsX7_in := goodIn_r _ [10] (by decide +kernel) (by decide +kernel)
set_option maxRecDepth 20000 in
theorem gX7_turn_X7_in : GoodIn wsX7_turn (va_wsS RX7 47 yX7_in wsX7_in) := goodIn_app (goodIn_of _ (by decide +kernel)) ggX7_turn_X7_in
set_option maxRecDepth 20000 in
theorem ggX7_turn_X7_becomes : GoodIn wsX7_turn wsX7_becomes := goodIn_r _ [14, 7, 20, 21, 22, 23, 24, 25, 26, 27, 28, 29, 30, 31, 32, 33, 34, 35, 36] (by decide +kernel) (by decide +kernel)
set_option maxRecDepth 20000 in
theorem gX7_turn_X7_becomes : GoodIn wsX7_turn (wsV RX7 55 RX7 yX7_becomes wsX7_becomes) := goodIn_app (goodIn_of _ (by decide +kernel)) ggX7_turn_X7_becomes
set_option maxRecDepth 20000 in
theorem ggX7_turn_X7_finds : GoodIn wsX7_turn wsX7_finds := goodIn_r _ [18, 19, 1, 20, 21, 22, 23, 24, 25, 26, 27, 28, 29, 30, 31, 32, 33, 34, 35, 36] (by decide +kernel) (by decide +kernel)
set_option maxRecDepth 20000 in
theorem gX7_turn_X7_finds : GoodIn wsX7_turn (wsV RX7 43 RX7 yX7_finds wsX7_finds) := goodIn_app (goodIn_of _ (by decide +kernel)) ggX7_turn_X7_finds
theorem dX7_turn_0 : decode cX7_turn 0 = .ok (.aload_n 0, 1) := by decide +kernel
theorem dX7_turn_1 : decode cX7_turn 1 = .ok (.iload_n 1, 1) := by decide +kernel
theorem dX7_turn_2 : decode cX7_turn 2 = .ok (.invokevirtual 105, 3) := by decide +kernel
theorem dX7_turn_5 : decode cX7_turn 5 = .ok (.ifCond .eq 27, 3) := by decide +kernel
theorem dX7_turn_8 : decode cX7_turn 8 = .ok (.iload_n 2, 1) := by decide +kernel
theorem dX7_turn_9 : decode cX7_turn 9 = .ok (.i2l, 1) := by decide +kernel
theorem dX7_turn_10 : decode cX7_turn 10 = .ok (.iconst 0, 1) := by decide +kernel
theorem dX7_turn_11 : decode cX7_turn 11 = .ok (.iconst 5, 1) := by decide +kernel
theorem dX7_turn_12 : decode cX7_turn 12 = .ok (.invokestatic 47, 3) := by decide +kernel
theorem dX7_turn_15 : decode cX7_turn 15 = .ok (.ifCond .eq 17, 3) := by decide +kernel
theorem dX7_turn_18 : decode cX7_turn 18 = .ok (.aload_n 0, 1) := by decide +kernel
theorem dX7_turn_19 : decode cX7_turn 19 = .ok (.bipush 15, 2) := by decide +kernel
theorem dX7_turn_21 : decode cX7_turn 21 = .ok (.iconst 2, 1) := by decide +kernel
theorem dX7_turn_22 : decode cX7_turn 22 = .ok (.iload_n 1, 1) := by decide +kernel
theorem dX7_turn_23 : decode cX7_turn 23 = .ok (.imul, 1) := by decide +kernel
theorem dX7_turn_24 : decode cX7_turn 24 = .ok (.iadd, 1) := by decide +kernel
theorem dX7_turn_25 : decode cX7_turn 25 = .ok (.iload_n 2, 1) := by decide +kernel
theorem dX7_turn_26 : decode cX7_turn 26 = .ok (.invokevirtual 55, 3) := by decide +kernel
theorem dX7_turn_29 : decode cX7_turn 29 = .ok (.goto 9, 3) := by decide +kernel
theorem dX7_turn_32 : decode cX7_turn 32 = .ok (.aload_n 0, 1) := by decide +kernel
theorem dX7_turn_33 : decode cX7_turn 33 = .ok (.ldc 41, 2) := by decide +kernel
theorem dX7_turn_35 : decode cX7_turn 35 = .ok (.invokevirtual 43, 3) := by decide +kernel
theorem dX7_turn_38 : decode cX7_turn 38 = .ok (.ireturn, 1) := by decide +kernel
set_option maxRecDepth 20000 in
theorem ggX7_as_X7_isEnvoy : GoodIn wsX7_as wsX7_isEnvoy := goodIn_r _ [7, 8, 9, 10, 6, 11, 21, 22, 23, 24, 25, 26, 27, 28, 29, 30, 31, 32, 33, 34, 35, 36, 37] (by decide +kernel) (by decide +kernel)
set_option maxRecDepth 20000 in
theorem gX7_as_X7_isEnvoy : GoodIn wsX7_as (wsV RX7 105 RX7 yX7_isEnvoy wsX7_isEnvoy) := goodIn_app (goodIn_of _ (by decide +kernel)) ggX7_as_X7_isEnvoy
set_option maxRecDepth 20000 in
theorem ggX7_as_X7_in : GoodIn wsX7_as wsX7_in := goodIn_r _ [11] (by decide +kernel) (by decide +kernel)
set_option maxRecDepth 20000 in
theorem gX7_as_X7_in : GoodIn wsX7_as (va_wsS RX7 47 yX7_in wsX7_in) := goodIn_app (goodIn_of _ (by decide +kernel)) ggX7_as_X7_in
set_option maxRecDepth 20000 in
theorem ggX7_as_X7_finds : GoodIn wsX7_as wsX7_finds := goodIn_r _ [15, 16, 1, 21, 22, 23, 24, 25, 26, 27, 28, 29, 30, 31, 32, 33, 34, 35, 36, 37] (by decide +kernel) (by decide +kernel)
set_option maxRecDepth 20000 in
theorem gX7_as_X7_finds : GoodIn wsX7_as (wsV RX7 43 RX7 yX7_finds wsX7_finds) := goodIn_app (goodIn_of _ (by decide +kernel)) ggX7_as_X7_finds
set_option maxRecDepth 20000 in
theorem ggX7_as_X7_it : GoodIn wsX7_as wsX7_it := goodIn_r _ [20, 8, 21, 22, 23, 24, 25, 26, 27, 28, 29, 30, 31, 32, 33, 34, 35, 36, 37] (by decide +kernel) (by decide +kernel)
set_option maxRecDepth 20000 in
theorem gX7_as_X7_it : GoodIn wsX7_as (wsV RX7 82 RX7 yX7_it wsX7_it) := goodIn_app (goodIn_of _ (by decide +kernel)) ggX7_as_X7_it
theorem dX7_as_0 : decode cX7_as 0 = .ok (.aload_n 0, 1) := by decide +kernel
theorem dX7_as_1 : decode cX7_as 1 = .ok (.iload_n 1, 1) := by decide +kernel
theorem dX7_as_2 : decode cX7_as 2 = .ok (.invokevirtual 105, 3) := by decide +kernel
theorem dX7_as_5 : decode cX7_as 5 = .ok (.ifCond .eq 13, 3) := by decide +kernel
theorem dX7_as_8 : decode cX7_as 8 = .ok (.iload_n 2, 1) := by decide +kernel
theorem dX7_as_9 : decode cX7_as 9 = .ok (.i2l, 1) := by decide +kernel
theorem dX7_as_10 : decode cX7_as 10 = .ok (.iconst 0, 1) := by decide +kernel
theorem dX7_as_11 : decode cX7_as 11 = .ok (.iconst 5, 1) := by decide +kernel
theorem dX7_as_12 : decode cX7_as 12 = .ok (.invokestatic 47, 3) := by decide +kernel
theorem dX7_as_15 : decode cX7_as 15 = .ok (.ifCond .ne 10, 3) := by decide +kernel
theorem dX7_as_18 : decode cX7_as 18 = .ok (.aload_n 0, 1) := by decide +kernel
theorem dX7_as_19 : decode cX7_as 19 = .ok (.ldc 41, 2) := by decide +kernel
theorem dX7_as_21 : decode cX7_as 21 = .ok (.invokevirtual 43, 3) := by decide +kernel
theorem dX7_as_24 : decode cX7_as 24 = .ok (.ireturn, 1) := by decide +kernel
theorem dX7_as_25 : decode cX7_as 25 = .ok (.aload_n 0, 1) := by decide +kernel
theorem dX7_as_26 : decode cX7_as 26 = .ok (.iload_n 1, 1) := by decide +kernel
theorem dX7_as_27 : decode cX7_as 27 = .ok (.iconst 0, 1) := by decide +kernel
theorem dX7_as_28 : decode cX7_as 28 = .ok (.invokevirtual 82, 3) := by decide +kernel
theorem dX7_as_31 : decode cX7_as 31 = .ok (.istore_n 3, 1) := by decide +kernel
theorem dX7_as_32 : decode cX7_as 32 = .ok (.iload_n 2, 1) := by decide +kernel
theorem dX7_as_33 : decode cX7_as 33 = .ok (.ifCond .eq 28, 3) := by decide +kernel
theorem dX7_as_36 : decode cX7_as 36 = .ok (.iload_n 2, 1) := by decide +kernel
theorem dX7_as_37 : decode cX7_as 37 = .ok (.iload_n 3, 1) := by decide +kernel
theorem dX7_as_38 : decode cX7_as 38 = .ok (.if_icmp .eq 23, 3) := by decide +kernel
theorem dX7_as_41 : decode cX7_as 41 = .ok (.iload_n 2, 1) := by decide +kernel
theorem dX7_as_42 : decode cX7_as 42 = .ok (.iconst 1, 1) := by decide +kernel
theorem dX7_as_43 : decode cX7_as 43 = .ok (.if_icmp .ne 8, 3) := by decide +kernel
theorem dX7_as_46 : decode cX7_as 46 = .ok (.iload_n 3, 1) := by decide +kernel
theorem dX7_as_47 : decode cX7_as 47 = .ok (.iconst 4, 1) := by decide +kernel
theorem dX7_as_48 : decode cX7_as 48 = .ok (.if_icmp .eq 13, 3) := by decide +kernel
theorem dX7_as_51 : decode cX7_as 51 = .ok (.iload_n 2, 1) := by decide +kernel
theorem dX7_as_52 : decode cX7_as 52 = .ok (.iconst 2, 1) := by decide +kernel
theorem dX7_as_53 : decode cX7_as 53 = .ok (.if_icmp .ne 12, 3) := by decide +kernel
theorem dX7_as_56 : decode cX7_as 56 = .ok (.iload_n 3, 1) := by decide +kernel
theorem dX7_as_57 : decode cX7_as 57 = .ok (.iconst 5, 1) := by decide +kernel
theorem dX7_as_58 : decode cX7_as 58 = .ok (.if_icmp .ne 7, 3) := by decide +kernel
theorem dX7_as_61 : decode cX7_as 61 = .ok (.iconst 1, 1) := by decide +kernel
theorem dX7_as_62 : decode cX7_as 62 = .ok (.goto 4, 3) := by decide +kernel
theorem dX7_as_65 : decode cX7_as 65 = .ok (.iconst 0, 1) := by decide +kernel
theorem dX7_as_66 : decode cX7_as 66 = .ok (.istore 4, 2) := by decide +kernel
theorem dX7_as_68 : decode cX7_as 68 = .ok (.iload 4, 2) := by decide +kernel
theorem dX7_as_70 : decode cX7_as 70 = .ok (.ifCond .eq 12, 3) := by decide +kernel
theorem dX7_as_73 : decode cX7_as 73 = .ok (.aload_n 0, 1) := by decide +kernel
theorem dX7_as_74 : decode cX7_as 74 = .ok (.iload_n 1, 1) := by decide +kernel
theorem dX7_as_75 : decode cX7_as 75 = .ok (.iconst 1, 1) := by decide +kernel
theorem dX7_as_76 : decode cX7_as 76 = .ok (.invokevirtual 82, 3) := by decide +kernel
theorem dX7_as_79 : decode cX7_as 79 = .ok (.goto 9, 3) := by decide +kernel
theorem dX7_as_82 : decode cX7_as 82 = .ok (.aload_n 0, 1) := by decide +kernel
theorem dX7_as_83 : decode cX7_as 83 = .ok (.ldc 108, 2) := by decide +kernel
theorem dX7_as_85 : decode cX7_as 85 = .ok (.invokevirtual 43, 3) := by decide +kernel
theorem dX7_as_88 : decode cX7_as 88 = .ok (.ireturn, 1) := by decide +kernel
set_option maxRecDepth 20000 in
theorem ggX7_won_X7_isEnvoy : GoodIn wsX7_won wsX7_isEnvoy := goodIn_r _ [6, 7, 8, 9, 5, 10, 20, 21, 22, 23, 24, 25, 26, 27, 28, 29, 30, 31, 32, 33, 34, 35, 36] (by decide +kernel) (by decide +kernel)
set_option maxRecDepth 20000 in
theorem gX7_won_X7_isEnvoy : GoodIn wsX7_won (wsV RX7 105 RX7 yX7_isEnvoy wsX7_isEnvoy) := goodIn_app (goodIn_of _ (by decide +kernel)) ggX7_won_X7_isEnvoy
set_option maxRecDepth 20000 in
theorem ggX7_won_X7_in : GoodIn wsX7_won wsX7_in := goodIn_r _ [10] (by decide +kernel) (by decide +kernel)
set_option maxRecDepth 20000 in
theorem gX7_won_X7_in : GoodIn wsX7_won (va_wsS RX7 47 yX7_in wsX7_in) := goodIn_app (goodIn_of _ (by decide +kernel)) ggX7_won_X7_in
set_option maxRecDepth 20000 in
theorem ggX7_won_X7_becomes : GoodIn wsX7_won wsX7_becomes := goodIn_r _ [14, 7, 20, 21, 22, 23, 24, 25, 26, 27, 28, 29, 30, 31, 32, 33, 34, 35, 36] (by decide +kernel) (by decide +kernel)
set_option maxRecDepth 20000 in
theorem gX7_won_X7_becomes : GoodIn wsX7_won (wsV RX7 55 RX7 yX7_becomes wsX7_becomes) := goodIn_app (goodIn_of _ (by decide +kernel)) ggX7_won_X7_becomes
set_option maxRecDepth 20000 in
theorem ggX7_won_X7_finds : GoodIn wsX7_won wsX7_finds := goodIn_r _ [18, 19, 1, 20, 21, 22, 23, 24, 25, 26, 27, 28, 29, 30, 31, 32, 33, 34, 35, 36] (by decide +kernel) (by decide +kernel)
set_option maxRecDepth 20000 in
theorem gX7_won_X7_finds : GoodIn wsX7_won (wsV RX7 43 RX7 yX7_finds wsX7_finds) := goodIn_app (goodIn_of _ (by decide +kernel)) ggX7_won_X7_finds
theorem dX7_won_0 : decode cX7_won 0 = .ok (.aload_n 0, 1) := by decide +kernel
theorem dX7_won_1 : decode cX7_won 1 = .ok (.iload_n 1, 1) := by decide +kernel
theorem dX7_won_2 : decode cX7_won 2 = .ok (.invokevirtual 105, 3) := by decide +kernel
theorem dX7_won_5 : decode cX7_won 5 = .ok (.ifCond .eq 31, 3) := by decide +kernel
theorem dX7_won_8 : decode cX7_won 8 = .ok (.iload_n 2, 1) := by decide +kernel
theorem dX7_won_9 : decode cX7_won 9 = .ok (.i2l, 1) := by decide +kernel
theorem dX7_won_10 : decode cX7_won 10 = .ok (.iconst 0, 1) := by decide +kernel
theorem dX7_won_11 : decode cX7_won 11 = .ok (.sipush 9999, 3) := by decide +kernel
theorem dX7_won_14 : decode cX7_won 14 = .ok (.invokestatic 47, 3) := by decide +kernel
theorem dX7_won_17 : decode cX7_won 17 = .ok (.ifCond .eq 19, 3) := by decide +kernel
theorem dX7_won_20 : decode cX7_won 20 = .ok (.aload_n 0, 1) := by decide +kernel
theorem dX7_won_21 : decode cX7_won 21 = .ok (.bipush 15, 2) := by decide +kernel
theorem dX7_won_23 : decode cX7_won 23 = .ok (.iconst 2, 1) := by decide +kernel
theorem dX7_won_24 : decode cX7_won 24 = .ok (.iload_n 1, 1) := by decide +kernel
theorem dX7_won_25 : decode cX7_won 25 = .ok (.imul, 1) := by decide +kernel
theorem dX7_won_26 : decode cX7_won 26 = .ok (.iadd, 1) := by decide +kernel
theorem dX7_won_27 : decode cX7_won 27 = .ok (.iconst 1, 1) := by decide +kernel
theorem dX7_won_28 : decode cX7_won 28 = .ok (.iadd, 1) := by decide +kernel
theorem dX7_won_29 : decode cX7_won 29 = .ok (.iload_n 2, 1) := by decide +kernel
theorem dX7_won_30 : decode cX7_won 30 = .ok (.invokevirtual 55, 3) := by decide +kernel
theorem dX7_won_33 : decode cX7_won 33 = .ok (.goto 9, 3) := by decide +kernel
theorem dX7_won_36 : decode cX7_won 36 = .ok (.aload_n 0, 1) := by decide +kernel
theorem dX7_won_37 : decode cX7_won 37 = .ok (.ldc 41, 2) := by decide +kernel
theorem dX7_won_39 : decode cX7_won 39 = .ok (.invokevirtual 43, 3) := by decide +kernel
theorem dX7_won_42 : decode cX7_won 42 = .ok (.ireturn, 1) := by decide +kernel
set_option maxRecDepth 20000 in
theorem ggX7_send_X7_isState : GoodIn wsX7_send wsX7_isState := goodIn_r _ [5, 6, 7, 4, 8] (by decide +kernel) (by decide +kernel)
set_option maxRecDepth 20000 in
theorem gX7_send_X7_isState : GoodIn wsX7_send (va_wsS RX7 62 yX7_isState wsX7_isState) := goodIn_app (goodIn_of _ (by decide +kernel)) ggX7_send_X7_isState
set_option maxRecDepth 20000 in
theorem ggX7_send_X7_isEnvoy : GoodIn wsX7_send wsX7_isEnvoy := goodIn_r _ [12, 13, 6, 7, 4, 8, 23, 24, 25, 26, 27, 28, 29, 30, 31, 32, 33, 34, 35, 36, 37, 38, 39] (by decide +kernel) (by decide +kernel)
set_option maxRecDepth 20000 in
theorem gX7_send_X7_isEnvoy : GoodIn wsX7_send (wsV RX7 105 RX7 yX7_isEnvoy wsX7_isEnvoy) := goodIn_app (goodIn_of _ (by decide +kernel)) ggX7_send_X7_isEnvoy
set_option maxRecDepth 20000 in
theorem ggX7_send_X7_becomes : GoodIn wsX7_send wsX7_becomes := goodIn_r _ [17, 13, 23, 24, 25, 26, 27, 28, 29, 30, 31, 32, 33, 34, 35, 36, 37, 38, 39] (by decide +kernel) (by decide +kernel)
set_option maxRecDepth 20000 in
theorem gX7_send_X7_becomes : GoodIn wsX7_send (wsV RX7 55 RX7 yX7_becomes wsX7_becomes) := goodIn_app (goodIn_of _ (by decide +kernel)) ggX7_send_X7_becomes
set_option maxRecDepth 20000 in
theorem ggX7_send_X7_finds : GoodIn wsX7_send wsX7_finds := goodIn_r _ [21, 22, 1, 23, 24, 25, 26, 27, 28, 29, 30, 31, 32, 33, 34, 35, 36, 37, 38, 39] (by decide +kernel) (by decide +kernel)
set_option maxRecDepth 20000 in
theorem gX7_send_X7_finds : GoodIn wsX7_send (wsV RX7 43 RX7 yX7_finds wsX7_finds) := goodIn_app (goodIn_of _ (by decide +kernel)) ggX7_send_X7_finds
theorem dX7_send_0 : decode cX7_send 0 = .ok (.iload_n 1, 1) := by decide +kernel
theorem dX7_send_1 : decode cX7_send 1 = .ok (.invokestatic 62, 3) := by decide +kernel
theorem dX7_send_4 : decode cX7_send 4 = .ok (.ifCond .eq 27, 3) := by decide +kernel
theorem dX7_send_7 : decode cX7_send 7 = .ok (.iload_n 2, 1) := by decide +kernel
theorem dX7_send_8 : decode cX7_send 8 = .ok (.iconst (-1), 1) := by decide +kernel
theorem dX7_send_9 : decode cX7_send 9 = .ok (.if_icmp .eq 11, 3) := by decide +kernel
theorem dX7_send_12 : decode cX7_send 12 = .ok (.aload_n 0, 1) := by decide +kernel
theorem dX7_send_13 : decode cX7_send 13 = .ok (.iload_n 2, 1) := by decide +kernel
theorem dX7_send_14 : decode cX7_send 14 = .ok (.invokevirtual 105, 3) := by decide +kernel
theorem dX7_send_17 : decode cX7_send 17 = .ok (.ifCond .eq 14, 3) := by decide +kernel
theorem dX7_send_20 : decode cX7_send 20 = .ok (.aload_n 0, 1) := by decide +kernel
theorem dX7_send_21 : decode cX7_send 21 = .ok (.iconst 3, 1) := by decide +kernel
theorem dX7_send_22 : decode cX7_send 22 = .ok (.iload_n 1, 1) := by decide +kernel
theorem dX7_send_23 : decode cX7_send 23 = .ok (.iadd, 1) := by decide +kernel
theorem dX7_send_24 : decode cX7_send 24 = .ok (.iload_n 2, 1) := by decide +kernel
theorem dX7_send_25 : decode cX7_send 25 = .ok (.invokevirtual 55, 3) := by decide +kernel
theorem dX7_send_28 : decode cX7_send 28 = .ok (.goto 9, 3) := by decide +kernel
theorem dX7_send_31 : decode cX7_send 31 = .ok (.aload_n 0, 1) := by decide +kernel
theorem dX7_send_32 : decode cX7_send 32 = .ok (.ldc 41, 2) := by decide +kernel
theorem dX7_send_34 : decode cX7_send 34 = .ok (.invokevirtual 43, 3) := by decide +kernel
theorem dX7_send_37 : decode cX7_send 37 = .ok (.ireturn, 1) := by decide +kernel
set_option maxRecDepth 20000 in
theorem ggX7_leads_X7_isEnvoy : GoodIn wsX7_leads wsX7_isEnvoy := goodIn_r _ [6, 7, 8, 9, 5, 10, 51, 52, 53, 54, 55, 56, 57, 58, 59, 60, 61, 62, 63, 64, 65, 66, 67] (by decide +kernel) (by decide +kernel)
set_option maxRecDepth 20000 in
theorem gX7_leads_X7_isEnvoy : GoodIn wsX7_leads (wsV RX7 105 RX7 yX7_isEnvoy wsX7_isEnvoy) := goodIn_app (goodIn_of _ (by decide +kernel)) ggX7_leads_X7_isEnvoy
set_option maxRecDepth 20000 in
theorem ggX7_leads_X7_isState : GoodIn wsX7_leads wsX7_isState := goodIn_r _ [13, 8, 9, 5, 10] (by decide +kernel) (by decide +kernel)
set_option maxRecDepth 20000 in
theorem gX7_leads_X7_isState : GoodIn wsX7_leads (va_wsS RX7 62 yX7_isState wsX7_isState) := goodIn_app (goodIn_of _ (by decide +kernel)) ggX7_leads_X7_isState
set_option maxRecDepth 20000 in
theorem ggX7_leads_X7_handOf : GoodIn wsX7_leads wsX7_handOf := goodIn_r _ [17, 7, 18, 19, 20, 5, 21, 51, 52, 53, 54, 55, 56, 57, 58, 59, 60, 61, 62, 63, 64, 65, 66, 67] (by decide +kernel) (by decide +kernel)
set_option maxRecDepth 20000 in
theorem gX7_leads_X7_handOf : GoodIn wsX7_leads (wsV RX7 109 RX7 yX7_handOf wsX7_handOf) := goodIn_app (goodIn_of _ (by decide +kernel)) ggX7_leads_X7_handOf
set_option maxRecDepth 20000 in
theorem ggX7_leads_X7_ledBy : GoodIn wsX7_leads wsX7_ledBy := goodIn_r _ [25, 26, 27, 28, 5, 29, 7, 30, 31, 32, 33, 34, 35, 36, 37, 38, 39, 40, 41, 42, 43, 44, 45, 51, 52, 53, 54, 55, 56, 57, 58, 59, 60, 61, 62, 63, 64, 65, 66, 67] (by decide +kernel) (by decide +kernel)
set_option maxRecDepth 20000 in
theorem gX7_leads_X7_ledBy : GoodIn wsX7_leads (wsV RX7 112 RX7 yX7_ledBy wsX7_ledBy) := goodIn_app (goodIn_of _ (by decide +kernel)) ggX7_leads_X7_ledBy
set_option maxRecDepth 20000 in
theorem ggX7_leads_X7_finds : GoodIn wsX7_leads wsX7_finds := goodIn_r _ [49, 50, 1, 51, 52, 53, 54, 55, 56, 57, 58, 59, 60, 61, 62, 63, 64, 65, 66, 67] (by decide +kernel) (by decide +kernel)
set_option maxRecDepth 20000 in
theorem gX7_leads_X7_finds : GoodIn wsX7_leads (wsV RX7 43 RX7 yX7_finds wsX7_finds) := goodIn_app (goodIn_of _ (by decide +kernel)) ggX7_leads_X7_finds
theorem dX7_leads_0 : decode cX7_leads 0 = .ok (.aload_n 0, 1) := by decide +kernel
theorem dX7_leads_1 : decode cX7_leads 1 = .ok (.iload_n 1, 1) := by decide +kernel
theorem dX7_leads_2 : decode cX7_leads 2 = .ok (.invokevirtual 105, 3) := by decide +kernel
theorem dX7_leads_5 : decode cX7_leads 5 = .ok (.ifCond .eq 23, 3) := by decide +kernel
theorem dX7_leads_8 : decode cX7_leads 8 = .ok (.iload_n 2, 1) := by decide +kernel
theorem dX7_leads_9 : decode cX7_leads 9 = .ok (.invokestatic 62, 3) := by decide +kernel
theorem dX7_leads_12 : decode cX7_leads 12 = .ok (.ifCond .eq 16, 3) := by decide +kernel
theorem dX7_leads_15 : decode cX7_leads 15 = .ok (.aload_n 0, 1) := by decide +kernel
theorem dX7_leads_16 : decode cX7_leads 16 = .ok (.iload_n 1, 1) := by decide +kernel
theorem dX7_leads_17 : decode cX7_leads 17 = .ok (.aload_n 0, 1) := by decide +kernel
theorem dX7_leads_18 : decode cX7_leads 18 = .ok (.iload_n 2, 1) := by decide +kernel
theorem dX7_leads_19 : decode cX7_leads 19 = .ok (.invokevirtual 109, 3) := by decide +kernel
theorem dX7_leads_22 : decode cX7_leads 22 = .ok (.invokevirtual 112, 3) := by decide +kernel
theorem dX7_leads_25 : decode cX7_leads 25 = .ok (.goto 9, 3) := by decide +kernel
theorem dX7_leads_28 : decode cX7_leads 28 = .ok (.aload_n 0, 1) := by decide +kernel
theorem dX7_leads_29 : decode cX7_leads 29 = .ok (.ldc 41, 2) := by decide +kernel
theorem dX7_leads_31 : decode cX7_leads 31 = .ok (.invokevirtual 43, 3) := by decide +kernel
theorem dX7_leads_34 : decode cX7_leads 34 = .ok (.ireturn, 1) := by decide +kernel
set_option maxRecDepth 20000 in
theorem ggX7_follows_X7_isEnvoy : GoodIn wsX7_follows wsX7_isEnvoy := goodIn_r _ [6, 7, 8, 9, 5, 10, 60, 61, 62, 63, 64, 65, 66, 67, 68, 69, 70, 71, 72, 73, 74, 75, 76] (by decide +kernel) (by decide +kernel)
set_option maxRecDepth 20000 in
theorem gX7_follows_X7_isEnvoy : GoodIn wsX7_follows (wsV RX7 105 RX7 yX7_isEnvoy wsX7_isEnvoy) := goodIn_app (goodIn_of _ (by decide +kernel)) ggX7_follows_X7_isEnvoy
set_option maxRecDepth 20000 in
theorem ggX7_follows_X7_isState : GoodIn wsX7_follows wsX7_isState := goodIn_r _ [13, 8, 9, 5, 10] (by decide +kernel) (by decide +kernel)
set_option maxRecDepth 20000 in
theorem gX7_follows_X7_isState : GoodIn wsX7_follows (va_wsS RX7 62 yX7_isState wsX7_isState) := goodIn_app (goodIn_of _ (by decide +kernel)) ggX7_follows_X7_isState
set_option maxRecDepth 20000 in
theorem ggX7_follows_X7_in : GoodIn wsX7_follows wsX7_in := goodIn_r _ [10] (by decide +kernel) (by decide +kernel)
set_option maxRecDepth 20000 in
theorem gX7_follows_X7_in : GoodIn wsX7_follows (va_wsS RX7 47 yX7_in wsX7_in) := goodIn_app (goodIn_of _ (by decide +kernel)) ggX7_follows_X7_in
set_option maxRecDepth 20000 in
theorem ggX7_follows_X7_handOf : GoodIn wsX7_follows wsX7_handOf := goodIn_r _ [17, 7, 18, 19, 20, 5, 21, 60, 61, 62, 63, 64, 65, 66, 67, 68, 69, 70, 71, 72, 73, 74, 75, 76] (by decide +kernel) (by decide +kernel)
set_option maxRecDepth 20000 in
theorem gX7_follows_X7_handOf : GoodIn wsX7_follows (wsV RX7 109 RX7 yX7_handOf wsX7_handOf) := goodIn_app (goodIn_of _ (by decide +kernel)) ggX7_follows_X7_handOf
set_option maxRecDepth 20000 in
theorem ggX7_follows_X7_followedBy : GoodIn wsX7_follows wsX7_followedBy := goodIn_r _ [25, 26, 27, 28, 5, 29, 7, 30, 31, 32, 33, 34, 35, 36, 37, 38, 39, 40, 41, 42, 43, 44, 45, 46, 47, 48, 49, 50, 51, 52, 53, 54, 60, 61, 62, 63, 64, 65, 66, 67, 68, 69, 70, 71, 72, 73, 74, 75, 76] (by decide +kernel) (by decide +kernel)
set_option maxRecDepth 20000 in
theorem gX7_follows_X7_followedBy : GoodIn wsX7_follows (wsV RX7 115 RX7 yX7_followedBy wsX7_followedBy) := goodIn_app (goodIn_of _ (by decide +kernel)) ggX7_follows_X7_followedBy
set_option maxRecDepth 20000 in
theorem ggX7_follows_X7_finds : GoodIn wsX7_follows wsX7_finds := goodIn_r _ [58, 59, 1, 60, 61, 62, 63, 64, 65, 66, 67, 68, 69, 70, 71, 72, 73, 74, 75, 76] (by decide +kernel) (by decide +kernel)
set_option maxRecDepth 20000 in
theorem gX7_follows_X7_finds : GoodIn wsX7_follows (wsV RX7 43 RX7 yX7_finds wsX7_finds) := goodIn_app (goodIn_of _ (by decide +kernel)) ggX7_follows_X7_finds
theorem dX7_follows_0 : decode cX7_follows 0 = .ok (.aload_n 0, 1) := by decide +kernel
theorem dX7_follows_1 : decode cX7_follows 1 = .ok (.iload_n 1, 1) := by decide +kernel
theorem dX7_follows_2 : decode cX7_follows 2 = .ok (.invokevirtual 105, 3) := by decide +kernel
theorem dX7_follows_5 : decode cX7_follows 5 = .ok (.ifCond .eq 35, 3) := by decide +kernel
theorem dX7_follows_8 : decode cX7_follows 8 = .ok (.iload_n 2, 1) := by decide +kernel
theorem dX7_follows_9 : decode cX7_follows 9 = .ok (.invokestatic 62, 3) := by decide +kernel
theorem dX7_follows_12 : decode cX7_follows 12 = .ok (.ifCond .eq 28, 3) := by decide +kernel
theorem dX7_follows_15 : decode cX7_follows 15 = .ok (.iload_n 3, 1) := by decide +kernel
theorem dX7_follows_16 : decode cX7_follows 16 = .ok (.i2l, 1) := by decide +kernel
theorem dX7_follows_17 : decode cX7_follows 17 = .ok (.iconst 0, 1) := by decide +kernel
theorem dX7_follows_18 : decode cX7_follows 18 = .ok (.bipush 31, 2) := by decide +kernel
theorem dX7_follows_20 : decode cX7_follows 20 = .ok (.invokestatic 47, 3) := by decide +kernel
theorem dX7_follows_23 : decode cX7_follows 23 = .ok (.ifCond .eq 17, 3) := by decide +kernel
theorem dX7_follows_26 : decode cX7_follows 26 = .ok (.aload_n 0, 1) := by decide +kernel
theorem dX7_follows_27 : decode cX7_follows 27 = .ok (.iload_n 1, 1) := by decide +kernel
theorem dX7_follows_28 : decode cX7_follows 28 = .ok (.aload_n 0, 1) := by decide +kernel
theorem dX7_follows_29 : decode cX7_follows 29 = .ok (.iload_n 2, 1) := by decide +kernel
theorem dX7_follows_30 : decode cX7_follows 30 = .ok (.invokevirtual 109, 3) := by decide +kernel
theorem dX7_follows_33 : decode cX7_follows 33 = .ok (.iload_n 3, 1) := by decide +kernel
theorem dX7_follows_34 : decode cX7_follows 34 = .ok (.invokevirtual 115, 3) := by decide +kernel
theorem dX7_follows_37 : decode cX7_follows 37 = .ok (.goto 9, 3) := by decide +kernel
theorem dX7_follows_40 : decode cX7_follows 40 = .ok (.aload_n 0, 1) := by decide +kernel
theorem dX7_follows_41 : decode cX7_follows 41 = .ok (.ldc 41, 2) := by decide +kernel
theorem dX7_follows_43 : decode cX7_follows 43 = .ok (.invokevirtual 43, 3) := by decide +kernel
theorem dX7_follows_46 : decode cX7_follows 46 = .ok (.ireturn, 1) := by decide +kernel
theorem dX7_arePlaying_0 : decode cX7_arePlaying 0 = .ok (.aload_n 0, 1) := by decide +kernel
theorem dX7_arePlaying_1 : decode cX7_arePlaying 1 = .ok (.getfield 9, 3) := by decide +kernel
theorem dX7_arePlaying_4 : decode cX7_arePlaying 4 = .ok (.iconst 3, 1) := by decide +kernel
theorem dX7_arePlaying_5 : decode cX7_arePlaying 5 = .ok (.iaload, 1) := by decide +kernel
theorem dX7_arePlaying_6 : decode cX7_arePlaying 6 = .ok (.ifCond .lt 16, 3) := by decide +kernel
theorem dX7_arePlaying_9 : decode cX7_arePlaying 9 = .ok (.aload_n 0, 1) := by decide +kernel
theorem dX7_arePlaying_10 : decode cX7_arePlaying 10 = .ok (.getfield 9, 3) := by decide +kernel
theorem dX7_arePlaying_13 : decode cX7_arePlaying 13 = .ok (.iconst 4, 1) := by decide +kernel
theorem dX7_arePlaying_14 : decode cX7_arePlaying 14 = .ok (.iaload, 1) := by decide +kernel
theorem dX7_arePlaying_15 : decode cX7_arePlaying 15 = .ok (.ifCond .lt 7, 3) := by decide +kernel
theorem dX7_arePlaying_18 : decode cX7_arePlaying 18 = .ok (.iconst 1, 1) := by decide +kernel
theorem dX7_arePlaying_19 : decode cX7_arePlaying 19 = .ok (.goto 4, 3) := by decide +kernel
theorem dX7_arePlaying_22 : decode cX7_arePlaying 22 = .ok (.iconst 0, 1) := by decide +kernel
theorem dX7_arePlaying_23 : decode cX7_arePlaying 23 = .ok (.ireturn, 1) := by decide +kernel
set_option maxRecDepth 20000 in
theorem ggX7_plays_X7_handOf : GoodIn wsX7_plays wsX7_handOf := goodIn_r _ [8, 2, 9, 10, 11, 7, 12, 57, 58, 59, 60, 61, 62, 63, 64, 65, 66, 67, 68, 69, 70, 71, 72, 73] (by decide +kernel) (by decide +kernel)
set_option maxRecDepth 20000 in
theorem gX7_plays_X7_handOf : GoodIn wsX7_plays (wsV RX7 109 RX7 yX7_handOf wsX7_handOf) := goodIn_app (goodIn_of _ (by decide +kernel)) ggX7_plays_X7_handOf
set_option maxRecDepth 20000 in
theorem ggX7_plays_X7_ledBy : GoodIn wsX7_plays wsX7_ledBy := goodIn_r _ [16, 17, 18, 19, 7, 20, 2, 21, 22, 23, 24, 25, 26, 27, 28, 29, 30, 31, 32, 33, 34, 35, 36, 57, 58, 59, 60, 61, 62, 63, 64, 65, 66, 67, 68, 69, 70, 71, 72, 73] (by decide +kernel) (by decide +kernel)
set_option maxRecDepth 20000 in
theorem gX7_plays_X7_ledBy : GoodIn wsX7_plays (wsV RX7 112 RX7 yX7_ledBy wsX7_ledBy) := goodIn_app (goodIn_of _ (by decide +kernel)) ggX7_plays_X7_ledBy
set_option maxRecDepth 20000 in
theorem ggX7_plays_X7_followedBy : GoodIn wsX7_plays wsX7_followedBy := goodIn_r _ [40, 41, 42, 43, 7, 44, 2, 21, 22, 23, 24, 45, 46, 47, 48, 28, 29, 30, 49, 50, 51, 52, 53, 54, 55, 56, 25, 26, 27, 31, 32, 33, 57, 58, 59, 60, 61, 62, 63, 64, 65, 66, 67, 68, 69, 70, 71, 72, 73] (by decide +kernel) (by decide +kernel)
set_option maxRecDepth 20000 in
theorem gX7_plays_X7_followedBy : GoodIn wsX7_plays (wsV RX7 115 RX7 yX7_followedBy wsX7_followedBy) := goodIn_app (goodIn_of _ (by decide +kernel)) ggX7_plays_X7_followedBy
set_option maxRecDepth 20000 in
theorem ggX7_plays_X7_doesBeat : GoodIn wsX7_plays wsX7_doesBeat := goodIn_r _ [52, 53, 54, 55, 7, 56, 2, 57, 58, 59, 60, 61, 62, 63, 64, 65, 66, 67, 68, 69, 70, 71, 72, 73] (by decide +kernel) (by decide +kernel)
set_option maxRecDepth 20000 in
theorem gX7_plays_X7_doesBeat : GoodIn wsX7_plays (wsV RX7 76 RX7 yX7_doesBeat wsX7_doesBeat) := goodIn_app (goodIn_of _ (by decide +kernel)) ggX7_plays_X7_doesBeat
theorem dX7_plays_0 : decode cX7_plays 0 = .ok (.aload_n 0, 1) := by decide +kernel
theorem dX7_plays_1 : decode cX7_plays 1 = .ok (.getfield 25, 3) := by decide +kernel
theorem dX7_plays_4 : decode cX7_plays 4 = .ok (.iconst 0, 1) := by decide +kernel
theorem dX7_plays_5 : decode cX7_plays 5 = .ok (.aload_n 0, 1) := by decide +kernel
theorem dX7_plays_6 : decode cX7_plays 6 = .ok (.iconst 0, 1) := by decide +kernel
theorem dX7_plays_7 : decode cX7_plays 7 = .ok (.invokevirtual 109, 3) := by decide +kernel
theorem dX7_plays_10 : decode cX7_plays 10 = .ok (.iastore, 1) := by decide +kernel
theorem dX7_plays_11 : decode cX7_plays 11 = .ok (.aload_n 0, 1) := by decide +kernel
theorem dX7_plays_12 : decode cX7_plays 12 = .ok (.getfield 25, 3) := by decide +kernel
theorem dX7_plays_15 : decode cX7_plays 15 = .ok (.iconst 1, 1) := by decide +kernel
theorem dX7_plays_16 : decode cX7_plays 16 = .ok (.aload_n 0, 1) := by decide +kernel
theorem dX7_plays_17 : decode cX7_plays 17 = .ok (.iconst 1, 1) := by decide +kernel
theorem dX7_plays_18 : decode cX7_plays 18 = .ok (.invokevirtual 109, 3) := by decide +kernel
theorem dX7_plays_21 : decode cX7_plays 21 = .ok (.iastore, 1) := by decide +kernel
theorem dX7_plays_22 : decode cX7_plays 22 = .ok (.aload_n 0, 1) := by decide +kernel
theorem dX7_plays_23 : decode cX7_plays 23 = .ok (.getfield 9, 3) := by decide +kernel
theorem dX7_plays_26 : decode cX7_plays 26 = .ok (.iconst 0, 1) := by decide +kernel
theorem dX7_plays_27 : decode cX7_plays 27 = .ok (.iaload, 1) := by decide +kernel
theorem dX7_plays_28 : decode cX7_plays 28 = .ok (.iconst 2, 1) := by decide +kernel
theorem dX7_plays_29 : decode cX7_plays 29 = .ok (.irem, 1) := by decide +kernel
theorem dX7_plays_30 : decode cX7_plays 30 = .ok (.istore_n 1, 1) := by decide +kernel
theorem dX7_plays_31 : decode cX7_plays 31 = .ok (.iconst 0, 1) := by decide +kernel
theorem dX7_plays_32 : decode cX7_plays 32 = .ok (.istore_n 2, 1) := by decide +kernel
theorem dX7_plays_33 : decode cX7_plays 33 = .ok (.iconst 0, 1) := by decide +kernel
theorem dX7_plays_34 : decode cX7_plays 34 = .ok (.istore_n 3, 1) := by decide +kernel
theorem dX7_plays_35 : decode cX7_plays 35 = .ok (.iload_n 3, 1) := by decide +kernel
theorem dX7_plays_36 : decode cX7_plays 36 = .ok (.iconst 4, 1) := by decide +kernel
theorem dX7_plays_37 : decode cX7_plays 37 = .ok (.if_icmp .ge 172, 3) := by decide +kernel
theorem dX7_plays_40 : decode cX7_plays 40 = .ok (.iconst 1, 1) := by decide +kernel
theorem dX7_plays_41 : decode cX7_plays 41 = .ok (.iload_n 1, 1) := by decide +kernel
theorem dX7_plays_42 : decode cX7_plays 42 = .ok (.isub, 1) := by decide +kernel
theorem dX7_plays_43 : decode cX7_plays 43 = .ok (.istore 4, 2) := by decide +kernel
theorem dX7_plays_45 : decode cX7_plays 45 = .ok (.aload_n 0, 1) := by decide +kernel
theorem dX7_plays_46 : decode cX7_plays 46 = .ok (.aload_n 0, 1) := by decide +kernel
theorem dX7_plays_47 : decode cX7_plays 47 = .ok (.getfield 9, 3) := by decide +kernel
theorem dX7_plays_50 : decode cX7_plays 50 = .ok (.iconst 3, 1) := by decide +kernel
theorem dX7_plays_51 : decode cX7_plays 51 = .ok (.iload_n 1, 1) := by decide +kernel
theorem dX7_plays_52 : decode cX7_plays 52 = .ok (.iadd, 1) := by decide +kernel
theorem dX7_plays_53 : decode cX7_plays 53 = .ok (.iaload, 1) := by decide +kernel
theorem dX7_plays_54 : decode cX7_plays 54 = .ok (.aload_n 0, 1) := by decide +kernel
theorem dX7_plays_55 : decode cX7_plays 55 = .ok (.getfield 25, 3) := by decide +kernel
theorem dX7_plays_58 : decode cX7_plays 58 = .ok (.iload_n 1, 1) := by decide +kernel
theorem dX7_plays_59 : decode cX7_plays 59 = .ok (.iaload, 1) := by decide +kernel
theorem dX7_plays_60 : decode cX7_plays 60 = .ok (.invokevirtual 112, 3) := by decide +kernel
theorem dX7_plays_63 : decode cX7_plays 63 = .ok (.istore 5, 2) := by decide +kernel
theorem dX7_plays_65 : decode cX7_plays 65 = .ok (.aload_n 0, 1) := by decide +kernel
theorem dX7_plays_66 : decode cX7_plays 66 = .ok (.aload_n 0, 1) := by decide +kernel
theorem dX7_plays_67 : decode cX7_plays 67 = .ok (.getfield 9, 3) := by decide +kernel
theorem dX7_plays_70 : decode cX7_plays 70 = .ok (.iconst 3, 1) := by decide +kernel
theorem dX7_plays_71 : decode cX7_plays 71 = .ok (.iload 4, 2) := by decide +kernel
theorem dX7_plays_73 : decode cX7_plays 73 = .ok (.iadd, 1) := by decide +kernel
theorem dX7_plays_74 : decode cX7_plays 74 = .ok (.iaload, 1) := by decide +kernel
theorem dX7_plays_75 : decode cX7_plays 75 = .ok (.aload_n 0, 1) := by decide +kernel
theorem dX7_plays_76 : decode cX7_plays 76 = .ok (.getfield 25, 3) := by decide +kernel
theorem dX7_plays_79 : decode cX7_plays 79 = .ok (.iload 4, 2) := by decide +kernel
theorem dX7_plays_81 : decode cX7_plays 81 = .ok (.iaload, 1) := by decide +kernel
theorem dX7_plays_82 : decode cX7_plays 82 = .ok (.iload 5, 2) := by decide +kernel
theorem dX7_plays_84 : decode cX7_plays 84 = .ok (.invokevirtual 115, 3) := by decide +kernel
theorem dX7_plays_87 : decode cX7_plays 87 = .ok (.istore 6, 2) := by decide +kernel
theorem dX7_plays_89 : decode cX7_plays 89 = .ok (.aload_n 0, 1) := by decide +kernel
theorem dX7_plays_90 : decode cX7_plays 90 = .ok (.iload 6, 2) := by decide +kernel
theorem dX7_plays_92 : decode cX7_plays 92 = .ok (.iload 5, 2) := by decide +kernel
theorem dX7_plays_94 : decode cX7_plays 94 = .ok (.invokevirtual 76, 3) := by decide +kernel
theorem dX7_plays_97 : decode cX7_plays 97 = .ok (.ifCond .eq 8, 3) := by decide +kernel
theorem dX7_plays_100 : decode cX7_plays 100 = .ok (.iload 4, 2) := by decide +kernel
theorem dX7_plays_102 : decode cX7_plays 102 = .ok (.goto 4, 3) := by decide +kernel
theorem dX7_plays_105 : decode cX7_plays 105 = .ok (.iload_n 1, 1) := by decide +kernel
theorem dX7_plays_106 : decode cX7_plays 106 = .ok (.istore 7, 2) := by decide +kernel
theorem dX7_plays_108 : decode cX7_plays 108 = .ok (.aload_n 0, 1) := by decide +kernel
theorem dX7_plays_109 : decode cX7_plays 109 = .ok (.getfield 25, 3) := by decide +kernel
theorem dX7_plays_112 : decode cX7_plays 112 = .ok (.iload_n 1, 1) := by decide +kernel
theorem dX7_plays_113 : decode cX7_plays 113 = .ok (.dup2, 1) := by decide +kernel
theorem dX7_plays_114 : decode cX7_plays 114 = .ok (.iaload, 1) := by decide +kernel
theorem dX7_plays_115 : decode cX7_plays 115 = .ok (.iconst 1, 1) := by decide +kernel
theorem dX7_plays_116 : decode cX7_plays 116 = .ok (.iload 5, 2) := by decide +kernel
theorem dX7_plays_118 : decode cX7_plays 118 = .ok (.ishl, 1) := by decide +kernel
theorem dX7_plays_119 : decode cX7_plays 119 = .ok (.iconst (-1), 1) := by decide +kernel
theorem dX7_plays_120 : decode cX7_plays 120 = .ok (.ixor, 1) := by decide +kernel
theorem dX7_plays_121 : decode cX7_plays 121 = .ok (.iand, 1) := by decide +kernel
theorem dX7_plays_122 : decode cX7_plays 122 = .ok (.iastore, 1) := by decide +kernel
theorem dX7_plays_123 : decode cX7_plays 123 = .ok (.aload_n 0, 1) := by decide +kernel
theorem dX7_plays_124 : decode cX7_plays 124 = .ok (.getfield 25, 3) := by decide +kernel
theorem dX7_plays_127 : decode cX7_plays 127 = .ok (.iload 4, 2) := by decide +kernel
theorem dX7_plays_129 : decode cX7_plays 129 = .ok (.dup2, 1) := by decide +kernel
theorem dX7_plays_130 : decode cX7_plays 130 = .ok (.iaload, 1) := by decide +kernel
theorem dX7_plays_131 : decode cX7_plays 131 = .ok (.iconst 1, 1) := by decide +kernel
theorem dX7_plays_132 : decode cX7_plays 132 = .ok (.iload 6, 2) := by decide +kernel
theorem dX7_plays_134 : decode cX7_plays 134 = .ok (.ishl, 1) := by decide +kernel
theorem dX7_plays_135 : decode cX7_plays 135 = .ok (.iconst (-1), 1) := by decide +kernel
theorem dX7_plays_136 : decode cX7_plays 136 = .ok (.ixor, 1) := by decide +kernel
theorem dX7_plays_137 : decode cX7_plays 137 = .ok (.iand, 1) := by decide +kernel
theorem dX7_plays_138 : decode cX7_plays 138 = .ok (.iastore, 1) := by decide +kernel
theorem dX7_plays_139 : decode cX7_plays 139 = .ok (.aload_n 0, 1) := by decide +kernel
theorem dX7_plays_140 : decode cX7_plays 140 = .ok (.getfield 22, 3) := by decide +kernel
theorem dX7_plays_143 : decode cX7_plays 143 = .ok (.iconst 4, 1) := by decide +kernel
theorem dX7_plays_144 : decode cX7_plays 144 = .ok (.iload_n 3, 1) := by decide +kernel
theorem dX7_plays_145 : decode cX7_plays 145 = .ok (.imul, 1) := by decide +kernel
theorem dX7_plays_146 : decode cX7_plays 146 = .ok (.iload_n 1, 1) := by decide +kernel
theorem dX7_plays_147 : decode cX7_plays 147 = .ok (.iadd, 1) := by decide +kernel
theorem dX7_plays_148 : decode cX7_plays 148 = .ok (.iload 5, 2) := by decide +kernel
theorem dX7_plays_150 : decode cX7_plays 150 = .ok (.iastore, 1) := by decide +kernel
theorem dX7_plays_151 : decode cX7_plays 151 = .ok (.aload_n 0, 1) := by decide +kernel
theorem dX7_plays_152 : decode cX7_plays 152 = .ok (.getfield 22, 3) := by decide +kernel
theorem dX7_plays_155 : decode cX7_plays 155 = .ok (.iconst 4, 1) := by decide +kernel
theorem dX7_plays_156 : decode cX7_plays 156 = .ok (.iload_n 3, 1) := by decide +kernel
theorem dX7_plays_157 : decode cX7_plays 157 = .ok (.imul, 1) := by decide +kernel
theorem dX7_plays_158 : decode cX7_plays 158 = .ok (.iload 4, 2) := by decide +kernel
theorem dX7_plays_160 : decode cX7_plays 160 = .ok (.iadd, 1) := by decide +kernel
theorem dX7_plays_161 : decode cX7_plays 161 = .ok (.iload 6, 2) := by decide +kernel
theorem dX7_plays_163 : decode cX7_plays 163 = .ok (.iastore, 1) := by decide +kernel
theorem dX7_plays_164 : decode cX7_plays 164 = .ok (.aload_n 0, 1) := by decide +kernel
theorem dX7_plays_165 : decode cX7_plays 165 = .ok (.getfield 22, 3) := by decide +kernel
theorem dX7_plays_168 : decode cX7_plays 168 = .ok (.iconst 4, 1) := by decide +kernel
theorem dX7_plays_169 : decode cX7_plays 169 = .ok (.iload_n 3, 1) := by decide +kernel
theorem dX7_plays_170 : decode cX7_plays 170 = .ok (.imul, 1) := by decide +kernel
theorem dX7_plays_171 : decode cX7_plays 171 = .ok (.iconst 2, 1) := by decide +kernel
theorem dX7_plays_172 : decode cX7_plays 172 = .ok (.iadd, 1) := by decide +kernel
theorem dX7_plays_173 : decode cX7_plays 173 = .ok (.iload_n 1, 1) := by decide +kernel
theorem dX7_plays_174 : decode cX7_plays 174 = .ok (.iastore, 1) := by decide +kernel
theorem dX7_plays_175 : decode cX7_plays 175 = .ok (.aload_n 0, 1) := by decide +kernel
theorem dX7_plays_176 : decode cX7_plays 176 = .ok (.getfield 22, 3) := by decide +kernel
theorem dX7_plays_179 : decode cX7_plays 179 = .ok (.iconst 4, 1) := by decide +kernel
theorem dX7_plays_180 : decode cX7_plays 180 = .ok (.iload_n 3, 1) := by decide +kernel
theorem dX7_plays_181 : decode cX7_plays 181 = .ok (.imul, 1) := by decide +kernel
theorem dX7_plays_182 : decode cX7_plays 182 = .ok (.iconst 3, 1) := by decide +kernel
theorem dX7_plays_183 : decode cX7_plays 183 = .ok (.iadd, 1) := by decide +kernel
theorem dX7_plays_184 : decode cX7_plays 184 = .ok (.iload 7, 2) := by decide +kernel
theorem dX7_plays_186 : decode cX7_plays 186 = .ok (.iastore, 1) := by decide +kernel
theorem dX7_plays_187 : decode cX7_plays 187 = .ok (.iload_n 2, 1) := by decide +kernel
theorem dX7_plays_188 : decode cX7_plays 188 = .ok (.iload 7, 2) := by decide +kernel
theorem dX7_plays_190 : decode cX7_plays 190 = .ok (.ifCond .ne 7, 3) := by decide +kernel
theorem dX7_plays_193 : decode cX7_plays 193 = .ok (.iconst 1, 1) := by decide +kernel
theorem dX7_plays_194 : decode cX7_plays 194 = .ok (.goto 4, 3) := by decide +kernel
theorem dX7_plays_197 : decode cX7_plays 197 = .ok (.iconst 0, 1) := by decide +kernel
theorem dX7_plays_198 : decode cX7_plays 198 = .ok (.iadd, 1) := by decide +kernel
theorem dX7_plays_199 : decode cX7_plays 199 = .ok (.istore_n 2, 1) := by decide +kernel
theorem dX7_plays_200 : decode cX7_plays 200 = .ok (.iload 7, 2) := by decide +kernel
theorem dX7_plays_202 : decode cX7_plays 202 = .ok (.istore_n 1, 1) := by decide +kernel
theorem dX7_plays_203 : decode cX7_plays 203 = .ok (.iinc 3 1, 3) := by decide +kernel
theorem dX7_plays_206 : decode cX7_plays 206 = .ok (.goto (-171), 3) := by decide +kernel
theorem dX7_plays_209 : decode cX7_plays 209 = .ok (.iload_n 2, 1) := by decide +kernel
theorem dX7_plays_210 : decode cX7_plays 210 = .ok (.ireturn, 1) := by decide +kernel
set_option maxRecDepth 20000 in
theorem ggX7_trick_X7_in : GoodIn wsX7_trick wsX7_in := goodIn_r _ [7] (by decide +kernel) (by decide +kernel)
set_option maxRecDepth 20000 in
theorem gX7_trick_X7_in : GoodIn wsX7_trick (va_wsS RX7 47 yX7_in wsX7_in) := goodIn_app (goodIn_of _ (by decide +kernel)) ggX7_trick_X7_in
set_option maxRecDepth 20000 in
theorem ggX7_trick_X7_finds : GoodIn wsX7_trick wsX7_finds := goodIn_r _ [11, 12, 1, 75, 76, 77, 78, 79, 80, 81, 82, 83, 84, 85, 86, 87, 88, 89, 90, 91] (by decide +kernel) (by decide +kernel)
set_option maxRecDepth 20000 in
theorem gX7_trick_X7_finds : GoodIn wsX7_trick (wsV RX7 43 RX7 yX7_finds wsX7_finds) := goodIn_app (goodIn_of _ (by decide +kernel)) ggX7_trick_X7_finds
set_option maxRecDepth 20000 in
theorem ggX7_trick_X7_arePlaying : GoodIn wsX7_trick wsX7_arePlaying := goodIn_r _ [16, 17, 75, 76, 77, 78, 79, 80, 81, 82, 83, 84, 85, 86, 87, 88, 89, 90, 91] (by decide +kernel) (by decide +kernel)
set_option maxRecDepth 20000 in
theorem gX7_trick_X7_arePlaying : GoodIn wsX7_trick (wsV RX7 118 RX7 yX7_arePlaying wsX7_arePlaying) := goodIn_app (goodIn_of _ (by decide +kernel)) ggX7_trick_X7_arePlaying
set_option maxRecDepth 20000 in
theorem ggX7_trick_X7_plays : GoodIn wsX7_trick wsX7_plays := goodIn_r _ [21, 22, 17, 3, 23, 24, 25, 6, 26, 27, 28, 29, 30, 31, 32, 33, 34, 35, 36, 37, 38, 39, 40, 41, 42, 43, 44, 45, 46, 47, 48, 49, 50, 51, 52, 53, 54, 55, 56, 57, 58, 59, 60, 61, 62, 63, 64, 65, 66, 67, 68, 69, 70, 71, 72, 73, 74, 75, 76, 77, 78, 79, 80, 81, 82, 83, 84, 85, 86, 87, 88, 89, 90, 91] (by decide +kernel) (by decide +kernel)
set_option maxRecDepth 20000 in
theorem gX7_trick_X7_plays : GoodIn wsX7_trick (wsV RX7 123 RX7 yX7_plays wsX7_plays) := goodIn_app (goodIn_of _ (by decide +kernel)) ggX7_trick_X7_plays
theorem dX7_trick_0 : decode cX7_trick 0 = .ok (.iload_n 1, 1) := by decide +kernel
theorem dX7_trick_1 : decode cX7_trick 1 = .ok (.i2l, 1) := by decide +kernel
theorem dX7_trick_2 : decode cX7_trick 2 = .ok (.iconst 0, 1) := by decide +kernel
theorem dX7_trick_3 : decode cX7_trick 3 = .ok (.iconst 3, 1) := by decide +kernel
theorem dX7_trick_4 : decode cX7_trick 4 = .ok (.invokestatic 47, 3) := by decide +kernel
theorem dX7_trick_7 : decode cX7_trick 7 = .ok (.ifCond .eq 13, 3) := by decide +kernel
theorem dX7_trick_10 : decode cX7_trick 10 = .ok (.iload_n 2, 1) := by decide +kernel
theorem dX7_trick_11 : decode cX7_trick 11 = .ok (.i2l, 1) := by decide +kernel
theorem dX7_trick_12 : decode cX7_trick 12 = .ok (.iconst 0, 1) := by decide +kernel
theorem dX7_trick_13 : decode cX7_trick 13 = .ok (.iconst 3, 1) := by decide +kernel
theorem dX7_trick_14 : decode cX7_trick 14 = .ok (.invokestatic 47, 3) := by decide +kernel
theorem dX7_trick_17 : decode cX7_trick 17 = .ok (.ifCond .ne 10, 3) := by decide +kernel
theorem dX7_trick_20 : decode cX7_trick 20 = .ok (.aload_n 0, 1) := by decide +kernel
theorem dX7_trick_21 : decode cX7_trick 21 = .ok (.ldc 41, 2) := by decide +kernel
theorem dX7_trick_23 : decode cX7_trick 23 = .ok (.invokevirtual 43, 3) := by decide +kernel
theorem dX7_trick_26 : decode cX7_trick 26 = .ok (.ireturn, 1) := by decide +kernel
theorem dX7_trick_27 : decode cX7_trick 27 = .ok (.aload_n 0, 1) := by decide +kernel
theorem dX7_trick_28 : decode cX7_trick 28 = .ok (.invokevirtual 118, 3) := by decide +kernel
theorem dX7_trick_31 : decode cX7_trick 31 = .ok (.ifCond .ne 10, 3) := by decide +kernel
theorem dX7_trick_34 : decode cX7_trick 34 = .ok (.aload_n 0, 1) := by decide +kernel
theorem dX7_trick_35 : decode cX7_trick 35 = .ok (.ldc 122, 2) := by decide +kernel
theorem dX7_trick_37 : decode cX7_trick 37 = .ok (.invokevirtual 43, 3) := by decide +kernel
theorem dX7_trick_40 : decode cX7_trick 40 = .ok (.ireturn, 1) := by decide +kernel
theorem dX7_trick_41 : decode cX7_trick 41 = .ok (.aload_n 0, 1) := by decide +kernel
theorem dX7_trick_42 : decode cX7_trick 42 = .ok (.invokevirtual 123, 3) := by decide +kernel
theorem dX7_trick_45 : decode cX7_trick 45 = .ok (.istore_n 3, 1) := by decide +kernel
theorem dX7_trick_46 : decode cX7_trick 46 = .ok (.aload_n 0, 1) := by decide +kernel
theorem dX7_trick_47 : decode cX7_trick 47 = .ok (.getfield 22, 3) := by decide +kernel
theorem dX7_trick_50 : decode cX7_trick 50 = .ok (.iconst 4, 1) := by decide +kernel
theorem dX7_trick_51 : decode cX7_trick 51 = .ok (.iload_n 1, 1) := by decide +kernel
theorem dX7_trick_52 : decode cX7_trick 52 = .ok (.imul, 1) := by decide +kernel
theorem dX7_trick_53 : decode cX7_trick 53 = .ok (.iload_n 2, 1) := by decide +kernel
theorem dX7_trick_54 : decode cX7_trick 54 = .ok (.iadd, 1) := by decide +kernel
theorem dX7_trick_55 : decode cX7_trick 55 = .ok (.iaload, 1) := by decide +kernel
theorem dX7_trick_56 : decode cX7_trick 56 = .ok (.ireturn, 1) := by decide +kernel
set_option maxRecDepth 20000 in
theorem ggX7_tricks_X7_arePlaying : GoodIn wsX7_tricks wsX7_arePlaying := goodIn_r _ [6, 7, 72, 73, 74, 75, 76, 77, 78, 79, 80, 81, 82, 83, 84, 85, 86, 87, 88] (by decide +kernel) (by decide +kernel)
set_option maxRecDepth 20000 in
theorem gX7_tricks_X7_arePlaying : GoodIn wsX7_tricks (wsV RX7 118 RX7 yX7_arePlaying wsX7_arePlaying) := goodIn_app (goodIn_of _ (by decide +kernel)) ggX7_tricks_X7_arePlaying
set_option maxRecDepth 20000 in
theorem ggX7_tricks_X7_plays : GoodIn wsX7_tricks wsX7_plays := goodIn_r _ [11, 12, 7, 13, 14, 15, 16, 5, 17, 18, 19, 20, 21, 22, 23, 24, 25, 26, 27, 28, 29, 30, 31, 32, 33, 34, 35, 36, 37, 38, 39, 40, 41, 42, 43, 44, 45, 46, 47, 48, 49, 50, 51, 52, 53, 54, 55, 56, 57, 58, 59, 60, 61, 62, 63, 64, 65, 72, 73, 74, 75, 76, 77, 78, 79, 80, 81, 82, 83, 84, 85, 86, 87, 88] (by decide +kernel) (by decide +kernel)
set_option maxRecDepth 20000 in
theorem gX7_tricks_X7_plays : GoodIn wsX7_tricks (wsV RX7 123 RX7 yX7_plays wsX7_plays) := goodIn_app (goodIn_of _ (by decide +kernel)) ggX7_tricks_X7_plays
set_option maxRecDepth 20000 in
theorem ggX7_tricks_X7_finds : GoodIn wsX7_tricks wsX7_finds := goodIn_r _ [69, 70, 71, 72, 73, 74, 75, 76, 77, 78, 79, 80, 81, 82, 83, 84, 85, 86, 87, 88] (by decide +kernel) (by decide +kernel)
set_option maxRecDepth 20000 in
theorem gX7_tricks_X7_finds : GoodIn wsX7_tricks (wsV RX7 43 RX7 yX7_finds wsX7_finds) := goodIn_app (goodIn_of _ (by decide +kernel)) ggX7_tricks_X7_finds
theorem dX7_tricks_0 : decode cX7_tricks 0 = .ok (.aload_n 0, 1) := by decide +kernel
theorem dX7_tricks_1 : decode cX7_tricks 1 = .ok (.invokevirtual 118, 3) := by decide +kernel
theorem dX7_tricks_4 : decode cX7_tricks 4 = .ok (.ifCond .eq 10, 3) := by decide +kernel
theorem dX7_tricks_7 : decode cX7_tricks 7 = .ok (.aload_n 0, 1) := by decide +kernel
theorem dX7_tricks_8 : decode cX7_tricks 8 = .ok (.invokevirtual 123, 3) := by decide +kernel
theorem dX7_tricks_11 : decode cX7_tricks 11 = .ok (.goto 9, 3) := by decide +kernel
theorem dX7_tricks_14 : decode cX7_tricks 14 = .ok (.aload_n 0, 1) := by decide +kernel
theorem dX7_tricks_15 : decode cX7_tricks 15 = .ok (.ldc 122, 2) := by decide +kernel
theorem dX7_tricks_17 : decode cX7_tricks 17 = .ok (.invokevirtual 43, 3) := by decide +kernel
theorem dX7_tricks_20 : decode cX7_tricks 20 = .ok (.ireturn, 1) := by decide +kernel
set_option maxRecDepth 20000 in
theorem ggX7_wonBy_X7_arePlaying : GoodIn wsX7_wonBy wsX7_arePlaying := goodIn_r _ [6, 1, 68, 69, 70, 71, 72, 73, 74, 75, 76, 77, 78, 79, 80, 81, 82, 83, 84] (by decide +kernel) (by decide +kernel)
set_option maxRecDepth 20000 in
theorem gX7_wonBy_X7_arePlaying : GoodIn wsX7_wonBy (wsV RX7 118 RX7 yX7_arePlaying wsX7_arePlaying) := goodIn_app (goodIn_of _ (by decide +kernel)) ggX7_wonBy_X7_arePlaying
set_option maxRecDepth 20000 in
theorem ggX7_wonBy_X7_plays : GoodIn wsX7_wonBy wsX7_plays := goodIn_r _ [10, 11, 1, 12, 13, 14, 15, 5, 16, 17, 18, 19, 20, 21, 22, 23, 24, 25, 26, 27, 28, 29, 30, 31, 32, 33, 34, 35, 36, 37, 38, 39, 40, 41, 42, 43, 44, 45, 46, 47, 48, 49, 50, 51, 52, 53, 54, 55, 56, 57, 58, 59, 60, 61, 62, 63, 64, 68, 69, 70, 71, 72, 73, 74, 75, 76, 77, 78, 79, 80, 81, 82, 83, 84] (by decide +kernel) (by decide +kernel)
set_option maxRecDepth 20000 in
theorem gX7_wonBy_X7_plays : GoodIn wsX7_wonBy (wsV RX7 123 RX7 yX7_plays wsX7_plays) := goodIn_app (goodIn_of _ (by decide +kernel)) ggX7_wonBy_X7_plays
set_option maxRecDepth 20000 in
theorem ggX7_wonBy_X7_held : GoodIn wsX7_wonBy wsX7_held := goodIn_r _ [67] (by decide +kernel) (by decide +kernel)
set_option maxRecDepth 20000 in
theorem gX7_wonBy_X7_held : GoodIn wsX7_wonBy (va_wsS RX7 127 yX7_held wsX7_held) := goodIn_app (goodIn_of _ (by decide +kernel)) ggX7_wonBy_X7_held
theorem dX7_wonBy_0 : decode cX7_wonBy 0 = .ok (.aload_n 0, 1) := by decide +kernel
theorem dX7_wonBy_1 : decode cX7_wonBy 1 = .ok (.invokevirtual 118, 3) := by decide +kernel
theorem dX7_wonBy_4 : decode cX7_wonBy 4 = .ok (.ifCond .ne 31, 3) := by decide +kernel
theorem dX7_wonBy_7 : decode cX7_wonBy 7 = .ok (.aload_n 0, 1) := by decide +kernel
theorem dX7_wonBy_8 : decode cX7_wonBy 8 = .ok (.getfield 9, 3) := by decide +kernel
theorem dX7_wonBy_11 : decode cX7_wonBy 11 = .ok (.iconst 3, 1) := by decide +kernel
theorem dX7_wonBy_12 : decode cX7_wonBy 12 = .ok (.iaload, 1) := by decide +kernel
theorem dX7_wonBy_13 : decode cX7_wonBy 13 = .ok (.ifCond .lt 7, 3) := by decide +kernel
theorem dX7_wonBy_16 : decode cX7_wonBy 16 = .ok (.iconst 0, 1) := by decide +kernel
theorem dX7_wonBy_17 : decode cX7_wonBy 17 = .ok (.goto 17, 3) := by decide +kernel
theorem dX7_wonBy_20 : decode cX7_wonBy 20 = .ok (.aload_n 0, 1) := by decide +kernel
theorem dX7_wonBy_21 : decode cX7_wonBy 21 = .ok (.getfield 9, 3) := by decide +kernel
theorem dX7_wonBy_24 : decode cX7_wonBy 24 = .ok (.iconst 4, 1) := by decide +kernel
theorem dX7_wonBy_25 : decode cX7_wonBy 25 = .ok (.iaload, 1) := by decide +kernel
theorem dX7_wonBy_26 : decode cX7_wonBy 26 = .ok (.ifCond .lt 7, 3) := by decide +kernel
theorem dX7_wonBy_29 : decode cX7_wonBy 29 = .ok (.iconst 1, 1) := by decide +kernel
theorem dX7_wonBy_30 : decode cX7_wonBy 30 = .ok (.goto 4, 3) := by decide +kernel
theorem dX7_wonBy_33 : decode cX7_wonBy 33 = .ok (.iconst (-1), 1) := by decide +kernel
theorem dX7_wonBy_34 : decode cX7_wonBy 34 = .ok (.ireturn, 1) := by decide +kernel
theorem dX7_wonBy_35 : decode cX7_wonBy 35 = .ok (.aload_n 0, 1) := by decide +kernel
theorem dX7_wonBy_36 : decode cX7_wonBy 36 = .ok (.invokevirtual 123, 3) := by decide +kernel
theorem dX7_wonBy_39 : decode cX7_wonBy 39 = .ok (.istore_n 1, 1) := by decide +kernel
theorem dX7_wonBy_40 : decode cX7_wonBy 40 = .ok (.iload_n 1, 1) := by decide +kernel
theorem dX7_wonBy_41 : decode cX7_wonBy 41 = .ok (.iconst 2, 1) := by decide +kernel
theorem dX7_wonBy_42 : decode cX7_wonBy 42 = .ok (.if_icmp .le 7, 3) := by decide +kernel
theorem dX7_wonBy_45 : decode cX7_wonBy 45 = .ok (.iconst 0, 1) := by decide +kernel
theorem dX7_wonBy_46 : decode cX7_wonBy 46 = .ok (.goto 13, 3) := by decide +kernel
theorem dX7_wonBy_49 : decode cX7_wonBy 49 = .ok (.iload_n 1, 1) := by decide +kernel
theorem dX7_wonBy_50 : decode cX7_wonBy 50 = .ok (.iconst 2, 1) := by decide +kernel
theorem dX7_wonBy_51 : decode cX7_wonBy 51 = .ok (.if_icmp .ge 7, 3) := by decide +kernel
theorem dX7_wonBy_54 : decode cX7_wonBy 54 = .ok (.iconst 1, 1) := by decide +kernel
theorem dX7_wonBy_55 : decode cX7_wonBy 55 = .ok (.goto 4, 3) := by decide +kernel
theorem dX7_wonBy_58 : decode cX7_wonBy 58 = .ok (.iconst (-1), 1) := by decide +kernel
theorem dX7_wonBy_59 : decode cX7_wonBy 59 = .ok (.istore_n 2, 1) := by decide +kernel
theorem dX7_wonBy_60 : decode cX7_wonBy 60 = .ok (.iload_n 2, 1) := by decide +kernel
theorem dX7_wonBy_61 : decode cX7_wonBy 61 = .ok (.ifCond .lt 40, 3) := by decide +kernel
theorem dX7_wonBy_64 : decode cX7_wonBy 64 = .ok (.bipush 15, 2) := by decide +kernel
theorem dX7_wonBy_66 : decode cX7_wonBy 66 = .ok (.iconst 2, 1) := by decide +kernel
theorem dX7_wonBy_67 : decode cX7_wonBy 67 = .ok (.aload_n 0, 1) := by decide +kernel
theorem dX7_wonBy_68 : decode cX7_wonBy 68 = .ok (.getfield 9, 3) := by decide +kernel
theorem dX7_wonBy_71 : decode cX7_wonBy 71 = .ok (.iconst 3, 1) := by decide +kernel
theorem dX7_wonBy_72 : decode cX7_wonBy 72 = .ok (.iload_n 2, 1) := by decide +kernel
theorem dX7_wonBy_73 : decode cX7_wonBy 73 = .ok (.iadd, 1) := by decide +kernel
theorem dX7_wonBy_74 : decode cX7_wonBy 74 = .ok (.iaload, 1) := by decide +kernel
theorem dX7_wonBy_75 : decode cX7_wonBy 75 = .ok (.imul, 1) := by decide +kernel
theorem dX7_wonBy_76 : decode cX7_wonBy 76 = .ok (.iadd, 1) := by decide +kernel
theorem dX7_wonBy_77 : decode cX7_wonBy 77 = .ok (.iconst 1, 1) := by decide +kernel
theorem dX7_wonBy_78 : decode cX7_wonBy 78 = .ok (.iadd, 1) := by decide +kernel
theorem dX7_wonBy_79 : decode cX7_wonBy 79 = .ok (.istore_n 3, 1) := by decide +kernel
theorem dX7_wonBy_80 : decode cX7_wonBy 80 = .ok (.aload_n 0, 1) := by decide +kernel
theorem dX7_wonBy_81 : decode cX7_wonBy 81 = .ok (.getfield 9, 3) := by decide +kernel
theorem dX7_wonBy_84 : decode cX7_wonBy 84 = .ok (.iload_n 3, 1) := by decide +kernel
theorem dX7_wonBy_85 : decode cX7_wonBy 85 = .ok (.aload_n 0, 1) := by decide +kernel
theorem dX7_wonBy_86 : decode cX7_wonBy 86 = .ok (.getfield 9, 3) := by decide +kernel
theorem dX7_wonBy_89 : decode cX7_wonBy 89 = .ok (.iload_n 3, 1) := by decide +kernel
theorem dX7_wonBy_90 : decode cX7_wonBy 90 = .ok (.iaload, 1) := by decide +kernel
theorem dX7_wonBy_91 : decode cX7_wonBy 91 = .ok (.iconst 1, 1) := by decide +kernel
theorem dX7_wonBy_92 : decode cX7_wonBy 92 = .ok (.iadd, 1) := by decide +kernel
theorem dX7_wonBy_93 : decode cX7_wonBy 93 = .ok (.iconst 0, 1) := by decide +kernel
theorem dX7_wonBy_94 : decode cX7_wonBy 94 = .ok (.sipush 9999, 3) := by decide +kernel
theorem dX7_wonBy_97 : decode cX7_wonBy 97 = .ok (.invokestatic 127, 3) := by decide +kernel
theorem dX7_wonBy_100 : decode cX7_wonBy 100 = .ok (.iastore, 1) := by decide +kernel
theorem dX7_wonBy_101 : decode cX7_wonBy 101 = .ok (.iload_n 2, 1) := by decide +kernel
theorem dX7_wonBy_102 : decode cX7_wonBy 102 = .ok (.ireturn, 1) := by decide +kernel
theorem dX7_landsOf_0 : decode cX7_landsOf 0 = .ok (.iconst 0, 1) := by decide +kernel
theorem dX7_landsOf_1 : decode cX7_landsOf 1 = .ok (.istore_n 2, 1) := by decide +kernel
theorem dX7_landsOf_2 : decode cX7_landsOf 2 = .ok (.iconst 0, 1) := by decide +kernel
theorem dX7_landsOf_3 : decode cX7_landsOf 3 = .ok (.istore_n 3, 1) := by decide +kernel
theorem dX7_landsOf_4 : decode cX7_landsOf 4 = .ok (.iload_n 3, 1) := by decide +kernel
theorem dX7_landsOf_5 : decode cX7_landsOf 5 = .ok (.bipush 8, 2) := by decide +kernel
theorem dX7_landsOf_7 : decode cX7_landsOf 7 = .ok (.if_icmp .ge 32, 3) := by decide +kernel
theorem dX7_landsOf_10 : decode cX7_landsOf 10 = .ok (.iload_n 2, 1) := by decide +kernel
theorem dX7_landsOf_11 : decode cX7_landsOf 11 = .ok (.aload_n 0, 1) := by decide +kernel
theorem dX7_landsOf_12 : decode cX7_landsOf 12 = .ok (.getfield 9, 3) := by decide +kernel
theorem dX7_landsOf_15 : decode cX7_landsOf 15 = .ok (.bipush 7, 2) := by decide +kernel
theorem dX7_landsOf_17 : decode cX7_landsOf 17 = .ok (.iload_n 3, 1) := by decide +kernel
theorem dX7_landsOf_18 : decode cX7_landsOf 18 = .ok (.iadd, 1) := by decide +kernel
theorem dX7_landsOf_19 : decode cX7_landsOf 19 = .ok (.iaload, 1) := by decide +kernel
theorem dX7_landsOf_20 : decode cX7_landsOf 20 = .ok (.iload_n 1, 1) := by decide +kernel
theorem dX7_landsOf_21 : decode cX7_landsOf 21 = .ok (.if_icmp .ne 9, 3) := by decide +kernel
theorem dX7_landsOf_24 : decode cX7_landsOf 24 = .ok (.iconst 1, 1) := by decide +kernel
theorem dX7_landsOf_25 : decode cX7_landsOf 25 = .ok (.iload_n 3, 1) := by decide +kernel
theorem dX7_landsOf_26 : decode cX7_landsOf 26 = .ok (.ishl, 1) := by decide +kernel
theorem dX7_landsOf_27 : decode cX7_landsOf 27 = .ok (.goto 4, 3) := by decide +kernel
theorem dX7_landsOf_30 : decode cX7_landsOf 30 = .ok (.iconst 0, 1) := by decide +kernel
theorem dX7_landsOf_31 : decode cX7_landsOf 31 = .ok (.ior, 1) := by decide +kernel
theorem dX7_landsOf_32 : decode cX7_landsOf 32 = .ok (.istore_n 2, 1) := by decide +kernel
theorem dX7_landsOf_33 : decode cX7_landsOf 33 = .ok (.iinc 3 1, 3) := by decide +kernel
theorem dX7_landsOf_36 : decode cX7_landsOf 36 = .ok (.goto (-32), 3) := by decide +kernel
theorem dX7_landsOf_39 : decode cX7_landsOf 39 = .ok (.iload_n 2, 1) := by decide +kernel
theorem dX7_landsOf_40 : decode cX7_landsOf 40 = .ok (.ireturn, 1) := by decide +kernel
set_option maxRecDepth 20000 in
theorem ggX7_goes_X7_wonBy : GoodIn wsX7_goes wsX7_wonBy := goodIn_r _ [7, 1, 8, 9, 10, 6, 11, 12, 13, 14, 15, 16, 17, 18, 19, 20, 21, 22, 23, 24, 25, 26, 27, 28, 29, 30, 31, 32, 33, 34, 35, 36, 37, 38, 39, 40, 41, 42, 43, 44, 45, 46, 47, 48, 49, 50, 51, 52, 53, 54, 55, 56, 57, 58, 59, 60, 61, 62, 63, 64, 65, 66, 67, 68, 69, 70, 71, 72, 77, 78, 79, 80, 81, 82, 83, 84, 85, 86, 87, 88, 89, 90, 91, 92, 93] (by decide +kernel) (by decide +kernel)
set_option maxRecDepth 20000 in
theorem gX7_goes_X7_wonBy : GoodIn wsX7_goes (wsV RX7 130 RX7 yX7_wonBy wsX7_wonBy) := goodIn_app (goodIn_of _ (by decide +kernel)) ggX7_goes_X7_wonBy
set_option maxRecDepth 20000 in
theorem ggX7_goes_X7_landsOf : GoodIn wsX7_goes wsX7_landsOf := goodIn_r _ [76, 1, 77, 78, 79, 80, 81, 82, 83, 84, 85, 86, 87, 88, 89, 90, 91, 92, 93] (by decide +kernel) (by decide +kernel)
set_option maxRecDepth 20000 in
theorem gX7_goes_X7_landsOf : GoodIn wsX7_goes (wsV RX7 133 RX7 yX7_landsOf wsX7_landsOf) := goodIn_app (goodIn_of _ (by decide +kernel)) ggX7_goes_X7_landsOf
set_option maxRecDepth 20000 in
theorem ggX7_goes_X7_bits : GoodIn wsX7_goes wsX7_bits := goodIn_r _ [49] (by decide +kernel) (by decide +kernel)
set_option maxRecDepth 20000 in
theorem gX7_goes_X7_bits : GoodIn wsX7_goes (va_wsS RX7 91 yX7_bits wsX7_bits) := goodIn_app (goodIn_of _ (by decide +kernel)) ggX7_goes_X7_bits
set_option maxRecDepth 20000 in
theorem ggX7_goes_X7_held : GoodIn wsX7_goes wsX7_held := goodIn_r _ [72] (by decide +kernel) (by decide +kernel)
set_option maxRecDepth 20000 in
theorem gX7_goes_X7_held : GoodIn wsX7_goes (va_wsS RX7 127 yX7_held wsX7_held) := goodIn_app (goodIn_of _ (by decide +kernel)) ggX7_goes_X7_held
theorem dX7_goes_0 : decode cX7_goes 0 = .ok (.aload_n 0, 1) := by decide +kernel
theorem dX7_goes_1 : decode cX7_goes 1 = .ok (.getfield 9, 3) := by decide +kernel
theorem dX7_goes_4 : decode cX7_goes 4 = .ok (.bipush 7, 2) := by decide +kernel
theorem dX7_goes_6 : decode cX7_goes 6 = .ok (.aload_n 0, 1) := by decide +kernel
theorem dX7_goes_7 : decode cX7_goes 7 = .ok (.getfield 9, 3) := by decide +kernel
theorem dX7_goes_10 : decode cX7_goes 10 = .ok (.iconst 0, 1) := by decide +kernel
theorem dX7_goes_11 : decode cX7_goes 11 = .ok (.iaload, 1) := by decide +kernel
theorem dX7_goes_12 : decode cX7_goes 12 = .ok (.bipush 8, 2) := by decide +kernel
theorem dX7_goes_14 : decode cX7_goes 14 = .ok (.irem, 1) := by decide +kernel
theorem dX7_goes_15 : decode cX7_goes 15 = .ok (.iadd, 1) := by decide +kernel
theorem dX7_goes_16 : decode cX7_goes 16 = .ok (.aload_n 0, 1) := by decide +kernel
theorem dX7_goes_17 : decode cX7_goes 17 = .ok (.invokevirtual 130, 3) := by decide +kernel
theorem dX7_goes_20 : decode cX7_goes 20 = .ok (.iastore, 1) := by decide +kernel
theorem dX7_goes_21 : decode cX7_goes 21 = .ok (.iconst 0, 1) := by decide +kernel
theorem dX7_goes_22 : decode cX7_goes 22 = .ok (.istore_n 1, 1) := by decide +kernel
theorem dX7_goes_23 : decode cX7_goes 23 = .ok (.iload_n 1, 1) := by decide +kernel
theorem dX7_goes_24 : decode cX7_goes 24 = .ok (.iconst 2, 1) := by decide +kernel
theorem dX7_goes_25 : decode cX7_goes 25 = .ok (.if_icmp .ge 40, 3) := by decide +kernel
theorem dX7_goes_28 : decode cX7_goes 28 = .ok (.aload_n 0, 1) := by decide +kernel
theorem dX7_goes_29 : decode cX7_goes 29 = .ok (.getfield 9, 3) := by decide +kernel
theorem dX7_goes_32 : decode cX7_goes 32 = .ok (.iconst 5, 1) := by decide +kernel
theorem dX7_goes_33 : decode cX7_goes 33 = .ok (.iload_n 1, 1) := by decide +kernel
theorem dX7_goes_34 : decode cX7_goes 34 = .ok (.iadd, 1) := by decide +kernel
theorem dX7_goes_35 : decode cX7_goes 35 = .ok (.aload_n 0, 1) := by decide +kernel
theorem dX7_goes_36 : decode cX7_goes 36 = .ok (.getfield 9, 3) := by decide +kernel
theorem dX7_goes_39 : decode cX7_goes 39 = .ok (.iconst 5, 1) := by decide +kernel
theorem dX7_goes_40 : decode cX7_goes 40 = .ok (.iload_n 1, 1) := by decide +kernel
theorem dX7_goes_41 : decode cX7_goes 41 = .ok (.iadd, 1) := by decide +kernel
theorem dX7_goes_42 : decode cX7_goes 42 = .ok (.iaload, 1) := by decide +kernel
theorem dX7_goes_43 : decode cX7_goes 43 = .ok (.aload_n 0, 1) := by decide +kernel
theorem dX7_goes_44 : decode cX7_goes 44 = .ok (.iload_n 1, 1) := by decide +kernel
theorem dX7_goes_45 : decode cX7_goes 45 = .ok (.invokevirtual 133, 3) := by decide +kernel
theorem dX7_goes_48 : decode cX7_goes 48 = .ok (.invokestatic 91, 3) := by decide +kernel
theorem dX7_goes_51 : decode cX7_goes 51 = .ok (.iadd, 1) := by decide +kernel
theorem dX7_goes_52 : decode cX7_goes 52 = .ok (.iconst 0, 1) := by decide +kernel
theorem dX7_goes_53 : decode cX7_goes 53 = .ok (.ldc 65, 2) := by decide +kernel
theorem dX7_goes_55 : decode cX7_goes 55 = .ok (.invokestatic 127, 3) := by decide +kernel
theorem dX7_goes_58 : decode cX7_goes 58 = .ok (.iastore, 1) := by decide +kernel
theorem dX7_goes_59 : decode cX7_goes 59 = .ok (.iinc 1 1, 3) := by decide +kernel
theorem dX7_goes_62 : decode cX7_goes 62 = .ok (.goto (-39), 3) := by decide +kernel
theorem dX7_goes_65 : decode cX7_goes 65 = .ok (.aload_n 0, 1) := by decide +kernel
theorem dX7_goes_66 : decode cX7_goes 66 = .ok (.getfield 9, 3) := by decide +kernel
theorem dX7_goes_69 : decode cX7_goes 69 = .ok (.iconst 0, 1) := by decide +kernel
theorem dX7_goes_70 : decode cX7_goes 70 = .ok (.dup2, 1) := by decide +kernel
theorem dX7_goes_71 : decode cX7_goes 71 = .ok (.iaload, 1) := by decide +kernel
theorem dX7_goes_72 : decode cX7_goes 72 = .ok (.iconst 1, 1) := by decide +kernel
theorem dX7_goes_73 : decode cX7_goes 73 = .ok (.iadd, 1) := by decide +kernel
theorem dX7_goes_74 : decode cX7_goes 74 = .ok (.iastore, 1) := by decide +kernel
theorem dX7_goes_75 : decode cX7_goes 75 = .ok (.return_, 1) := by decide +kernel
set_option maxRecDepth 20000 in
theorem ggX7_goesFor_X7_goes : GoodIn wsX7_goesFor wsX7_goes := goodIn_r _ [5, 6, 7, 8, 9, 10, 4, 11, 12, 13, 14, 15, 16, 17, 18, 19, 20, 21, 22, 23, 24, 25, 26, 27, 28, 29, 30, 31, 32, 33, 34, 35, 36, 37, 38, 39, 40, 41, 42, 43, 44, 45, 46, 47, 48, 49, 50, 51, 52, 53, 54, 55, 56, 57, 58, 59, 60, 61, 62, 63, 64, 65, 66, 67, 68, 69, 70, 71, 72, 73, 74, 75, 76, 77, 78, 79, 80, 81, 82, 83, 84, 85, 86, 87, 88, 89, 90, 91, 92, 93, 94, 95, 96, 97] (by decide +kernel) (by decide +kernel)
set_option maxRecDepth 20000 in
theorem gX7_goesFor_X7_goes : GoodIn wsX7_goesFor (wsV RX7 136 RX7 yX7_goes wsX7_goes) := goodIn_app (goodIn_of _ (by decide +kernel)) ggX7_goesFor_X7_goes
theorem dX7_goesFor_0 : decode cX7_goesFor 0 = .ok (.iconst 0, 1) := by decide +kernel
theorem dX7_goesFor_1 : decode cX7_goesFor 1 = .ok (.istore_n 2, 1) := by decide +kernel
theorem dX7_goesFor_2 : decode cX7_goesFor 2 = .ok (.iload_n 2, 1) := by decide +kernel
theorem dX7_goesFor_3 : decode cX7_goesFor 3 = .ok (.iload_n 1, 1) := by decide +kernel
theorem dX7_goesFor_4 : decode cX7_goesFor 4 = .ok (.if_icmp .ge 13, 3) := by decide +kernel
theorem dX7_goesFor_7 : decode cX7_goesFor 7 = .ok (.aload_n 0, 1) := by decide +kernel
theorem dX7_goesFor_8 : decode cX7_goesFor 8 = .ok (.invokevirtual 136, 3) := by decide +kernel
theorem dX7_goesFor_11 : decode cX7_goesFor 11 = .ok (.iinc 2 1, 3) := by decide +kernel
theorem dX7_goesFor_14 : decode cX7_goesFor 14 = .ok (.goto (-12), 3) := by decide +kernel
theorem dX7_goesFor_17 : decode cX7_goesFor 17 = .ok (.return_, 1) := by decide +kernel
set_option maxRecDepth 20000 in
theorem ggX7_months_X7_in : GoodIn wsX7_months wsX7_in := goodIn_r _ [7] (by decide +kernel) (by decide +kernel)
set_option maxRecDepth 20000 in
theorem gX7_months_X7_in : GoodIn wsX7_months (va_wsS RX7 47 yX7_in wsX7_in) := goodIn_app (goodIn_of _ (by decide +kernel)) ggX7_months_X7_in
set_option maxRecDepth 20000 in
theorem ggX7_months_X7_finds : GoodIn wsX7_months wsX7_finds := goodIn_r _ [11, 12, 1, 95, 96, 97, 98, 99, 100, 101, 102, 103, 104, 105, 106, 107, 108, 109, 110, 111] (by decide +kernel) (by decide +kernel)
set_option maxRecDepth 20000 in
theorem gX7_months_X7_finds : GoodIn wsX7_months (wsV RX7 43 RX7 yX7_finds wsX7_finds) := goodIn_app (goodIn_of _ (by decide +kernel)) ggX7_months_X7_finds
set_option maxRecDepth 20000 in
theorem ggX7_months_X7_goesFor : GoodIn wsX7_months wsX7_goesFor := goodIn_r _ [16, 17, 18, 19, 6, 20, 2, 21, 22, 23, 24, 25, 26, 27, 28, 29, 30, 31, 32, 33, 34, 35, 36, 37, 38, 39, 40, 41, 42, 43, 44, 45, 46, 47, 48, 49, 50, 51, 52, 53, 54, 55, 56, 57, 58, 59, 60, 61, 62, 63, 64, 65, 66, 67, 68, 69, 70, 71, 72, 73, 74, 75, 76, 77, 78, 79, 80, 81, 82, 83, 84, 85, 86, 87, 88, 89, 90, 91, 92, 93, 94, 95, 96, 97, 98, 99, 100, 101, 102, 103, 104, 105, 106, 107, 108, 109, 110, 111] (by decide +kernel) (by decide +kernel)
set_option maxRecDepth 20000 in
theorem gX7_months_X7_goesFor : GoodIn wsX7_months (wsV RX7 139 RX7 yX7_goesFor wsX7_goesFor) := goodIn_app (goodIn_of _ (by decide +kernel)) ggX7_months_X7_goesFor
set_option maxRecDepth 20000 in
theorem ggX7_months_X7_landsOf : GoodIn wsX7_months wsX7_landsOf := goodIn_r _ [94, 2, 95, 96, 97, 98, 99, 100, 101, 102, 103, 104, 105, 106, 107, 108, 109, 110, 111] (by decide +kernel) (by decide +kernel)
set_option maxRecDepth 20000 in
theorem gX7_months_X7_landsOf : GoodIn wsX7_months (wsV RX7 133 RX7 yX7_landsOf wsX7_landsOf) := goodIn_app (goodIn_of _ (by decide +kernel)) ggX7_months_X7_landsOf
set_option maxRecDepth 20000 in
theorem ggX7_months_X7_bits : GoodIn wsX7_months wsX7_bits := goodIn_r _ [67] (by decide +kernel) (by decide +kernel)
set_option maxRecDepth 20000 in
theorem gX7_months_X7_bits : GoodIn wsX7_months (va_wsS RX7 91 yX7_bits wsX7_bits) := goodIn_app (goodIn_of _ (by decide +kernel)) ggX7_months_X7_bits
theorem dX7_months_0 : decode cX7_months 0 = .ok (.iload_n 1, 1) := by decide +kernel
theorem dX7_months_1 : decode cX7_months 1 = .ok (.i2l, 1) := by decide +kernel
theorem dX7_months_2 : decode cX7_months 2 = .ok (.iconst 1, 1) := by decide +kernel
theorem dX7_months_3 : decode cX7_months 3 = .ok (.bipush 60, 2) := by decide +kernel
theorem dX7_months_5 : decode cX7_months 5 = .ok (.invokestatic 47, 3) := by decide +kernel
theorem dX7_months_8 : decode cX7_months 8 = .ok (.ifCond .ne 10, 3) := by decide +kernel
theorem dX7_months_11 : decode cX7_months 11 = .ok (.aload_n 0, 1) := by decide +kernel
theorem dX7_months_12 : decode cX7_months 12 = .ok (.ldc 41, 2) := by decide +kernel
theorem dX7_months_14 : decode cX7_months 14 = .ok (.invokevirtual 43, 3) := by decide +kernel
theorem dX7_months_17 : decode cX7_months 17 = .ok (.ireturn, 1) := by decide +kernel
theorem dX7_months_18 : decode cX7_months 18 = .ok (.aload_n 0, 1) := by decide +kernel
theorem dX7_months_19 : decode cX7_months 19 = .ok (.getfield 9, 3) := by decide +kernel
theorem dX7_months_22 : decode cX7_months 22 = .ok (.iconst 0, 1) := by decide +kernel
theorem dX7_months_23 : decode cX7_months 23 = .ok (.iaload, 1) := by decide +kernel
theorem dX7_months_24 : decode cX7_months 24 = .ok (.iload_n 1, 1) := by decide +kernel
theorem dX7_months_25 : decode cX7_months 25 = .ok (.iadd, 1) := by decide +kernel
theorem dX7_months_26 : decode cX7_months 26 = .ok (.sipush 9999, 3) := by decide +kernel
theorem dX7_months_29 : decode cX7_months 29 = .ok (.if_icmp .le 10, 3) := by decide +kernel
theorem dX7_months_32 : decode cX7_months 32 = .ok (.aload_n 0, 1) := by decide +kernel
theorem dX7_months_33 : decode cX7_months 33 = .ok (.ldc 122, 2) := by decide +kernel
theorem dX7_months_35 : decode cX7_months 35 = .ok (.invokevirtual 43, 3) := by decide +kernel
theorem dX7_months_38 : decode cX7_months 38 = .ok (.ireturn, 1) := by decide +kernel
theorem dX7_months_39 : decode cX7_months 39 = .ok (.aload_n 0, 1) := by decide +kernel
theorem dX7_months_40 : decode cX7_months 40 = .ok (.iload_n 1, 1) := by decide +kernel
theorem dX7_months_41 : decode cX7_months 41 = .ok (.invokevirtual 139, 3) := by decide +kernel
theorem dX7_months_44 : decode cX7_months 44 = .ok (.aload_n 0, 1) := by decide +kernel
theorem dX7_months_45 : decode cX7_months 45 = .ok (.iconst (-1), 1) := by decide +kernel
theorem dX7_months_46 : decode cX7_months 46 = .ok (.invokevirtual 133, 3) := by decide +kernel
theorem dX7_months_49 : decode cX7_months 49 = .ok (.invokestatic 91, 3) := by decide +kernel
theorem dX7_months_52 : decode cX7_months 52 = .ok (.ireturn, 1) := by decide +kernel
set_option maxRecDepth 20000 in
theorem ggX7_thinks_X7_copyAll : GoodIn wsX7_thinks wsX7_copyAll := goodIn_r _ [6] (by decide +kernel) (by decide +kernel)
set_option maxRecDepth 20000 in
theorem gX7_thinks_X7_copyAll : GoodIn wsX7_thinks (va_wsS RX7 143 yX7_copyAll wsX7_copyAll) := goodIn_app (goodIn_of _ (by decide +kernel)) ggX7_thinks_X7_copyAll
theorem dX7_thinks_0 : decode cX7_thinks 0 = .ok (.aload_n 0, 1) := by decide +kernel
theorem dX7_thinks_1 : decode cX7_thinks 1 = .ok (.getfield 9, 3) := by decide +kernel
theorem dX7_thinks_4 : decode cX7_thinks 4 = .ok (.aload_n 0, 1) := by decide +kernel
theorem dX7_thinks_5 : decode cX7_thinks 5 = .ok (.getfield 16, 3) := by decide +kernel
theorem dX7_thinks_8 : decode cX7_thinks 8 = .ok (.invokestatic 143, 3) := by decide +kernel
theorem dX7_thinks_11 : decode cX7_thinks 11 = .ok (.return_, 1) := by decide +kernel
set_option maxRecDepth 20000 in
theorem ggX7_putsBack_X7_copyAll : GoodIn wsX7_putsBack wsX7_copyAll := goodIn_r _ [6] (by decide +kernel) (by decide +kernel)
set_option maxRecDepth 20000 in
theorem gX7_putsBack_X7_copyAll : GoodIn wsX7_putsBack (va_wsS RX7 143 yX7_copyAll wsX7_copyAll) := goodIn_app (goodIn_of _ (by decide +kernel)) ggX7_putsBack_X7_copyAll
theorem dX7_putsBack_0 : decode cX7_putsBack 0 = .ok (.aload_n 0, 1) := by decide +kernel
theorem dX7_putsBack_1 : decode cX7_putsBack 1 = .ok (.getfield 16, 3) := by decide +kernel
theorem dX7_putsBack_4 : decode cX7_putsBack 4 = .ok (.aload_n 0, 1) := by decide +kernel
theorem dX7_putsBack_5 : decode cX7_putsBack 5 = .ok (.getfield 9, 3) := by decide +kernel
theorem dX7_putsBack_8 : decode cX7_putsBack 8 = .ok (.invokestatic 143, 3) := by decide +kernel
theorem dX7_putsBack_11 : decode cX7_putsBack 11 = .ok (.return_, 1) := by decide +kernel
set_option maxRecDepth 20000 in
theorem ggX7_on_X7_isLand : GoodIn wsX7_on wsX7_isLand := goodIn_r _ [6, 7, 8, 5, 9] (by decide +kernel) (by decide +kernel)
set_option maxRecDepth 20000 in
theorem gX7_on_X7_isLand : GoodIn wsX7_on (va_wsS RX7 59 yX7_isLand wsX7_isLand) := goodIn_app (goodIn_of _ (by decide +kernel)) ggX7_on_X7_isLand
set_option maxRecDepth 20000 in
theorem ggX7_on_X7_in : GoodIn wsX7_on wsX7_in := goodIn_r _ [9] (by decide +kernel) (by decide +kernel)
set_option maxRecDepth 20000 in
theorem gX7_on_X7_in : GoodIn wsX7_on (va_wsS RX7 47 yX7_in wsX7_in) := goodIn_app (goodIn_of _ (by decide +kernel)) ggX7_on_X7_in
set_option maxRecDepth 20000 in
theorem ggX7_on_X7_finds : GoodIn wsX7_on wsX7_finds := goodIn_r _ [13, 14, 1, 109, 110, 111, 112, 113, 114, 115, 116, 117, 118, 119, 120, 121, 122, 123, 124, 125] (by decide +kernel) (by decide +kernel)
set_option maxRecDepth 20000 in
theorem gX7_on_X7_finds : GoodIn wsX7_on (wsV RX7 43 RX7 yX7_finds wsX7_finds) := goodIn_app (goodIn_of _ (by decide +kernel)) ggX7_on_X7_finds
set_option maxRecDepth 20000 in
theorem ggX7_on_X7_thinks : GoodIn wsX7_on wsX7_thinks := goodIn_r _ [18, 2, 19, 20, 21, 5, 22, 109, 110, 111, 112, 113, 114, 115, 116, 117, 118, 119, 120, 121, 122, 123, 124, 125] (by decide +kernel) (by decide +kernel)
set_option maxRecDepth 20000 in
theorem gX7_on_X7_thinks : GoodIn wsX7_on (wsV RX7 147 RX7 yX7_thinks wsX7_thinks) := goodIn_app (goodIn_of _ (by decide +kernel)) ggX7_on_X7_thinks
set_option maxRecDepth 20000 in
theorem ggX7_on_X7_goesFor : GoodIn wsX7_on wsX7_goesFor := goodIn_r _ [26, 27, 28, 29, 5, 30, 2, 31, 32, 33, 34, 35, 36, 37, 38, 39, 40, 41, 42, 43, 44, 45, 46, 47, 48, 49, 50, 51, 52, 53, 54, 55, 56, 57, 58, 59, 60, 61, 62, 63, 64, 65, 66, 67, 68, 69, 70, 71, 72, 73, 74, 75, 76, 77, 78, 79, 80, 81, 82, 83, 84, 85, 86, 87, 88, 89, 90, 91, 92, 93, 94, 95, 96, 97, 98, 99, 100, 101, 102, 103, 104, 109, 110, 111, 112, 113, 114, 115, 116, 117, 118, 119, 120, 121, 122, 123, 124, 125] (by decide +kernel) (by decide +kernel)
set_option maxRecDepth 20000 in
theorem gX7_on_X7_goesFor : GoodIn wsX7_on (wsV RX7 139 RX7 yX7_goesFor wsX7_goesFor) := goodIn_app (goodIn_of _ (by decide +kernel)) ggX7_on_X7_goesFor
set_option maxRecDepth 20000 in
theorem ggX7_on_X7_putsBack : GoodIn wsX7_on wsX7_putsBack := goodIn_r _ [108, 19, 2, 20, 21, 5, 22, 109, 110, 111, 112, 113, 114, 115, 116, 117, 118, 119, 120, 121, 122, 123, 124, 125] (by decide +kernel) (by decide +kernel)
set_option maxRecDepth 20000 in
theorem gX7_on_X7_putsBack : GoodIn wsX7_on (wsV RX7 150 RX7 yX7_putsBack wsX7_putsBack) := goodIn_app (goodIn_of _ (by decide +kernel)) ggX7_on_X7_putsBack
theorem dX7_on_0 : decode cX7_on 0 = .ok (.iload_n 1, 1) := by decide +kernel
theorem dX7_on_1 : decode cX7_on 1 = .ok (.invokestatic 59, 3) := by decide +kernel
theorem dX7_on_4 : decode cX7_on 4 = .ok (.ifCond .eq 14, 3) := by decide +kernel
theorem dX7_on_7 : decode cX7_on 7 = .ok (.iload_n 2, 1) := by decide +kernel
theorem dX7_on_8 : decode cX7_on 8 = .ok (.i2l, 1) := by decide +kernel
theorem dX7_on_9 : decode cX7_on 9 = .ok (.iconst 0, 1) := by decide +kernel
theorem dX7_on_10 : decode cX7_on 10 = .ok (.bipush 100, 2) := by decide +kernel
theorem dX7_on_12 : decode cX7_on 12 = .ok (.invokestatic 47, 3) := by decide +kernel
theorem dX7_on_15 : decode cX7_on 15 = .ok (.ifCond .ne 10, 3) := by decide +kernel
theorem dX7_on_18 : decode cX7_on 18 = .ok (.aload_n 0, 1) := by decide +kernel
theorem dX7_on_19 : decode cX7_on 19 = .ok (.ldc 41, 2) := by decide +kernel
theorem dX7_on_21 : decode cX7_on 21 = .ok (.invokevirtual 43, 3) := by decide +kernel
theorem dX7_on_24 : decode cX7_on 24 = .ok (.ireturn, 1) := by decide +kernel
theorem dX7_on_25 : decode cX7_on 25 = .ok (.aload_n 0, 1) := by decide +kernel
theorem dX7_on_26 : decode cX7_on 26 = .ok (.invokevirtual 147, 3) := by decide +kernel
theorem dX7_on_29 : decode cX7_on 29 = .ok (.aload_n 0, 1) := by decide +kernel
theorem dX7_on_30 : decode cX7_on 30 = .ok (.iload_n 2, 1) := by decide +kernel
theorem dX7_on_31 : decode cX7_on 31 = .ok (.invokevirtual 139, 3) := by decide +kernel
theorem dX7_on_34 : decode cX7_on 34 = .ok (.aload_n 0, 1) := by decide +kernel
theorem dX7_on_35 : decode cX7_on 35 = .ok (.getfield 9, 3) := by decide +kernel
theorem dX7_on_38 : decode cX7_on 38 = .ok (.bipush 7, 2) := by decide +kernel
theorem dX7_on_40 : decode cX7_on 40 = .ok (.iload_n 1, 1) := by decide +kernel
theorem dX7_on_41 : decode cX7_on 41 = .ok (.iadd, 1) := by decide +kernel
theorem dX7_on_42 : decode cX7_on 42 = .ok (.iaload, 1) := by decide +kernel
theorem dX7_on_43 : decode cX7_on 43 = .ok (.istore_n 3, 1) := by decide +kernel
theorem dX7_on_44 : decode cX7_on 44 = .ok (.aload_n 0, 1) := by decide +kernel
theorem dX7_on_45 : decode cX7_on 45 = .ok (.invokevirtual 150, 3) := by decide +kernel
theorem dX7_on_48 : decode cX7_on 48 = .ok (.iload_n 3, 1) := by decide +kernel
theorem dX7_on_49 : decode cX7_on 49 = .ok (.ireturn, 1) := by decide +kernel
set_option maxRecDepth 20000 in
theorem ggX7_then_X7_isState : GoodIn wsX7_then wsX7_isState := goodIn_r _ [6, 7, 8, 5, 9] (by decide +kernel) (by decide +kernel)
set_option maxRecDepth 20000 in
theorem gX7_then_X7_isState : GoodIn wsX7_then (va_wsS RX7 62 yX7_isState wsX7_isState) := goodIn_app (goodIn_of _ (by decide +kernel)) ggX7_then_X7_isState
set_option maxRecDepth 20000 in
theorem ggX7_then_X7_in : GoodIn wsX7_then wsX7_in := goodIn_r _ [9] (by decide +kernel) (by decide +kernel)
set_option maxRecDepth 20000 in
theorem gX7_then_X7_in : GoodIn wsX7_then (va_wsS RX7 47 yX7_in wsX7_in) := goodIn_app (goodIn_of _ (by decide +kernel)) ggX7_then_X7_in
set_option maxRecDepth 20000 in
theorem ggX7_then_X7_finds : GoodIn wsX7_then wsX7_finds := goodIn_r _ [13, 14, 1, 109, 110, 111, 112, 113, 114, 115, 116, 117, 118, 119, 120, 121, 122, 123, 124, 125] (by decide +kernel) (by decide +kernel)
set_option maxRecDepth 20000 in
theorem gX7_then_X7_finds : GoodIn wsX7_then (wsV RX7 43 RX7 yX7_finds wsX7_finds) := goodIn_app (goodIn_of _ (by decide +kernel)) ggX7_then_X7_finds
set_option maxRecDepth 20000 in
theorem ggX7_then_X7_thinks : GoodIn wsX7_then wsX7_thinks := goodIn_r _ [18, 2, 19, 20, 21, 5, 22, 109, 110, 111, 112, 113, 114, 115, 116, 117, 118, 119, 120, 121, 122, 123, 124, 125] (by decide +kernel) (by decide +kernel)
set_option maxRecDepth 20000 in
theorem gX7_then_X7_thinks : GoodIn wsX7_then (wsV RX7 147 RX7 yX7_thinks wsX7_thinks) := goodIn_app (goodIn_of _ (by decide +kernel)) ggX7_then_X7_thinks
set_option maxRecDepth 20000 in
theorem ggX7_then_X7_goesFor : GoodIn wsX7_then wsX7_goesFor := goodIn_r _ [26, 27, 28, 29, 5, 30, 2, 31, 32, 33, 34, 35, 36, 37, 38, 39, 40, 41, 42, 43, 44, 45, 46, 47, 48, 49, 50, 51, 52, 53, 54, 55, 56, 57, 58, 59, 60, 61, 62, 63, 64, 65, 66, 67, 68, 69, 70, 71, 72, 73, 74, 75, 76, 77, 78, 79, 80, 81, 82, 83, 84, 85, 86, 87, 88, 89, 90, 91, 92, 93, 94, 95, 96, 97, 98, 99, 100, 101, 102, 103, 104, 109, 110, 111, 112, 113, 114, 115, 116, 117, 118, 119, 120, 121, 122, 123, 124, 125] (by decide +kernel) (by decide +kernel)
set_option maxRecDepth 20000 in
theorem gX7_then_X7_goesFor : GoodIn wsX7_then (wsV RX7 139 RX7 yX7_goesFor wsX7_goesFor) := goodIn_app (goodIn_of _ (by decide +kernel)) ggX7_then_X7_goesFor
set_option maxRecDepth 20000 in
theorem ggX7_then_X7_landsOf : GoodIn wsX7_then wsX7_landsOf := goodIn_r _ [104, 2, 109, 110, 111, 112, 113, 114, 115, 116, 117, 118, 119, 120, 121, 122, 123, 124, 125] (by decide +kernel) (by decide +kernel)
set_option maxRecDepth 20000 in
theorem gX7_then_X7_landsOf : GoodIn wsX7_then (wsV RX7 133 RX7 yX7_landsOf wsX7_landsOf) := goodIn_app (goodIn_of _ (by decide +kernel)) ggX7_then_X7_landsOf
set_option maxRecDepth 20000 in
theorem ggX7_then_X7_putsBack : GoodIn wsX7_then wsX7_putsBack := goodIn_r _ [108, 19, 2, 20, 21, 5, 22, 109, 110, 111, 112, 113, 114, 115, 116, 117, 118, 119, 120, 121, 122, 123, 124, 125] (by decide +kernel) (by decide +kernel)
set_option maxRecDepth 20000 in
theorem gX7_then_X7_putsBack : GoodIn wsX7_then (wsV RX7 150 RX7 yX7_putsBack wsX7_putsBack) := goodIn_app (goodIn_of _ (by decide +kernel)) ggX7_then_X7_putsBack
theorem dX7_then_0 : decode cX7_then 0 = .ok (.iload_n 1, 1) := by decide +kernel
theorem dX7_then_1 : decode cX7_then 1 = .ok (.invokestatic 62, 3) := by decide +kernel
theorem dX7_then_4 : decode cX7_then 4 = .ok (.ifCond .eq 24, 3) := by decide +kernel
theorem dX7_then_7 : decode cX7_then 7 = .ok (.iload_n 2, 1) := by decide +kernel
theorem dX7_then_8 : decode cX7_then 8 = .ok (.i2l, 1) := by decide +kernel
theorem dX7_then_9 : decode cX7_then 9 = .ok (.iconst 0, 1) := by decide +kernel
theorem dX7_then_10 : decode cX7_then 10 = .ok (.bipush 100, 2) := by decide +kernel
theorem dX7_then_12 : decode cX7_then 12 = .ok (.invokestatic 47, 3) := by decide +kernel
theorem dX7_then_15 : decode cX7_then 15 = .ok (.ifCond .eq 13, 3) := by decide +kernel
theorem dX7_then_18 : decode cX7_then 18 = .ok (.iload_n 3, 1) := by decide +kernel
theorem dX7_then_19 : decode cX7_then 19 = .ok (.i2l, 1) := by decide +kernel
theorem dX7_then_20 : decode cX7_then 20 = .ok (.iconst 0, 1) := by decide +kernel
theorem dX7_then_21 : decode cX7_then 21 = .ok (.iconst 1, 1) := by decide +kernel
theorem dX7_then_22 : decode cX7_then 22 = .ok (.invokestatic 47, 3) := by decide +kernel
theorem dX7_then_25 : decode cX7_then 25 = .ok (.ifCond .ne 10, 3) := by decide +kernel
theorem dX7_then_28 : decode cX7_then 28 = .ok (.aload_n 0, 1) := by decide +kernel
theorem dX7_then_29 : decode cX7_then 29 = .ok (.ldc 41, 2) := by decide +kernel
theorem dX7_then_31 : decode cX7_then 31 = .ok (.invokevirtual 43, 3) := by decide +kernel
theorem dX7_then_34 : decode cX7_then 34 = .ok (.ireturn, 1) := by decide +kernel
theorem dX7_then_35 : decode cX7_then 35 = .ok (.aload_n 0, 1) := by decide +kernel
theorem dX7_then_36 : decode cX7_then 36 = .ok (.invokevirtual 147, 3) := by decide +kernel
theorem dX7_then_39 : decode cX7_then 39 = .ok (.aload_n 0, 1) := by decide +kernel
theorem dX7_then_40 : decode cX7_then 40 = .ok (.iload_n 2, 1) := by decide +kernel
theorem dX7_then_41 : decode cX7_then 41 = .ok (.invokevirtual 139, 3) := by decide +kernel
theorem dX7_then_44 : decode cX7_then 44 = .ok (.iload_n 3, 1) := by decide +kernel
theorem dX7_then_45 : decode cX7_then 45 = .ok (.ifCond .ne 11, 3) := by decide +kernel
theorem dX7_then_48 : decode cX7_then 48 = .ok (.aload_n 0, 1) := by decide +kernel
theorem dX7_then_49 : decode cX7_then 49 = .ok (.iload_n 1, 1) := by decide +kernel
theorem dX7_then_50 : decode cX7_then 50 = .ok (.invokevirtual 133, 3) := by decide +kernel
theorem dX7_then_53 : decode cX7_then 53 = .ok (.goto 11, 3) := by decide +kernel
theorem dX7_then_56 : decode cX7_then 56 = .ok (.aload_n 0, 1) := by decide +kernel
theorem dX7_then_57 : decode cX7_then 57 = .ok (.getfield 9, 3) := by decide +kernel
theorem dX7_then_60 : decode cX7_then 60 = .ok (.iconst 5, 1) := by decide +kernel
theorem dX7_then_61 : decode cX7_then 61 = .ok (.iload_n 1, 1) := by decide +kernel
theorem dX7_then_62 : decode cX7_then 62 = .ok (.iadd, 1) := by decide +kernel
theorem dX7_then_63 : decode cX7_then 63 = .ok (.iaload, 1) := by decide +kernel
theorem dX7_then_64 : decode cX7_then 64 = .ok (.istore 4, 2) := by decide +kernel
theorem dX7_then_66 : decode cX7_then 66 = .ok (.aload_n 0, 1) := by decide +kernel
theorem dX7_then_67 : decode cX7_then 67 = .ok (.invokevirtual 150, 3) := by decide +kernel
theorem dX7_then_70 : decode cX7_then 70 = .ok (.iload 4, 2) := by decide +kernel
theorem dX7_then_72 : decode cX7_then 72 = .ok (.ireturn, 1) := by decide +kernel
set_option maxRecDepth 20000 in
theorem ggX7_when_X7_isLand : GoodIn wsX7_when wsX7_isLand := goodIn_r _ [7, 8, 9, 6, 10] (by decide +kernel) (by decide +kernel)
set_option maxRecDepth 20000 in
theorem gX7_when_X7_isLand : GoodIn wsX7_when (va_wsS RX7 59 yX7_isLand wsX7_isLand) := goodIn_app (goodIn_of _ (by decide +kernel)) ggX7_when_X7_isLand
set_option maxRecDepth 20000 in
theorem ggX7_when_X7_in : GoodIn wsX7_when wsX7_in := goodIn_r _ [10] (by decide +kernel) (by decide +kernel)
set_option maxRecDepth 20000 in
theorem gX7_when_X7_in : GoodIn wsX7_when (va_wsS RX7 47 yX7_in wsX7_in) := goodIn_app (goodIn_of _ (by decide +kernel)) ggX7_when_X7_in
set_option maxRecDepth 20000 in
theorem ggX7_when_X7_finds : GoodIn wsX7_when wsX7_finds := goodIn_r _ [14, 15, 1, 106, 107, 108, 109, 110, 111, 112, 113, 114, 115, 116, 117, 118, 119, 120, 121, 122] (by decide +kernel) (by decide +kernel)
set_option maxRecDepth 20000 in
theorem gX7_when_X7_finds : GoodIn wsX7_when (wsV RX7 43 RX7 yX7_finds wsX7_finds) := goodIn_app (goodIn_of _ (by decide +kernel)) ggX7_when_X7_finds
set_option maxRecDepth 20000 in
theorem ggX7_when_X7_thinks : GoodIn wsX7_when wsX7_thinks := goodIn_r _ [19, 2, 20, 21, 22, 6, 23, 106, 107, 108, 109, 110, 111, 112, 113, 114, 115, 116, 117, 118, 119, 120, 121, 122] (by decide +kernel) (by decide +kernel)
set_option maxRecDepth 20000 in
theorem gX7_when_X7_thinks : GoodIn wsX7_when (wsV RX7 147 RX7 yX7_thinks wsX7_thinks) := goodIn_app (goodIn_of _ (by decide +kernel)) ggX7_when_X7_thinks
set_option maxRecDepth 20000 in
theorem ggX7_when_X7_goes : GoodIn wsX7_when wsX7_goes := goodIn_r _ [27, 2, 28, 29, 30, 31, 6, 32, 33, 34, 35, 36, 37, 38, 39, 40, 41, 42, 43, 44, 45, 46, 47, 48, 49, 50, 51, 52, 53, 54, 55, 56, 57, 58, 59, 60, 61, 62, 63, 64, 65, 66, 67, 68, 69, 70, 71, 72, 73, 74, 75, 76, 77, 78, 79, 80, 81, 82, 83, 84, 85, 86, 87, 88, 89, 90, 91, 92, 93, 94, 95, 96, 97, 98, 99, 100, 101, 106, 107, 108, 109, 110, 111, 112, 113, 114, 115, 116, 117, 118, 119, 120, 121, 122] (by decide +kernel) (by decide +kernel)
set_option maxRecDepth 20000 in
theorem gX7_when_X7_goes : GoodIn wsX7_when (wsV RX7 136 RX7 yX7_goes wsX7_goes) := goodIn_app (goodIn_of _ (by decide +kernel)) ggX7_when_X7_goes
set_option maxRecDepth 20000 in
theorem ggX7_when_X7_putsBack : GoodIn wsX7_when wsX7_putsBack := goodIn_r _ [105, 20, 2, 21, 22, 6, 23, 106, 107, 108, 109, 110, 111, 112, 113, 114, 115, 116, 117, 118, 119, 120, 121, 122] (by decide +kernel) (by decide +kernel)
set_option maxRecDepth 20000 in
theorem gX7_when_X7_putsBack : GoodIn wsX7_when (wsV RX7 150 RX7 yX7_putsBack wsX7_putsBack) := goodIn_app (goodIn_of _ (by decide +kernel)) ggX7_when_X7_putsBack
theorem dX7_when_0 : decode cX7_when 0 = .ok (.iload_n 1, 1) := by decide +kernel
theorem dX7_when_1 : decode cX7_when 1 = .ok (.invokestatic 59, 3) := by decide +kernel
theorem dX7_when_4 : decode cX7_when 4 = .ok (.ifCond .eq 13, 3) := by decide +kernel
theorem dX7_when_7 : decode cX7_when 7 = .ok (.iload_n 2, 1) := by decide +kernel
theorem dX7_when_8 : decode cX7_when 8 = .ok (.i2l, 1) := by decide +kernel
theorem dX7_when_9 : decode cX7_when 9 = .ok (.iconst (-1), 1) := by decide +kernel
theorem dX7_when_10 : decode cX7_when 10 = .ok (.iconst 1, 1) := by decide +kernel
theorem dX7_when_11 : decode cX7_when 11 = .ok (.invokestatic 47, 3) := by decide +kernel
theorem dX7_when_14 : decode cX7_when 14 = .ok (.ifCond .ne 10, 3) := by decide +kernel
theorem dX7_when_17 : decode cX7_when 17 = .ok (.aload_n 0, 1) := by decide +kernel
theorem dX7_when_18 : decode cX7_when 18 = .ok (.ldc 41, 2) := by decide +kernel
theorem dX7_when_20 : decode cX7_when 20 = .ok (.invokevirtual 43, 3) := by decide +kernel
theorem dX7_when_23 : decode cX7_when 23 = .ok (.ireturn, 1) := by decide +kernel
theorem dX7_when_24 : decode cX7_when 24 = .ok (.aload_n 0, 1) := by decide +kernel
theorem dX7_when_25 : decode cX7_when 25 = .ok (.invokevirtual 147, 3) := by decide +kernel
theorem dX7_when_28 : decode cX7_when 28 = .ok (.iconst 0, 1) := by decide +kernel
theorem dX7_when_29 : decode cX7_when 29 = .ok (.istore_n 3, 1) := by decide +kernel
theorem dX7_when_30 : decode cX7_when 30 = .ok (.iload_n 3, 1) := by decide +kernel
theorem dX7_when_31 : decode cX7_when 31 = .ok (.bipush 100, 2) := by decide +kernel
theorem dX7_when_33 : decode cX7_when 33 = .ok (.if_icmp .gt 26, 3) := by decide +kernel
theorem dX7_when_36 : decode cX7_when 36 = .ok (.aload_n 0, 1) := by decide +kernel
theorem dX7_when_37 : decode cX7_when 37 = .ok (.getfield 9, 3) := by decide +kernel
theorem dX7_when_40 : decode cX7_when 40 = .ok (.bipush 7, 2) := by decide +kernel
theorem dX7_when_42 : decode cX7_when 42 = .ok (.iload_n 1, 1) := by decide +kernel
theorem dX7_when_43 : decode cX7_when 43 = .ok (.iadd, 1) := by decide +kernel
theorem dX7_when_44 : decode cX7_when 44 = .ok (.iaload, 1) := by decide +kernel
theorem dX7_when_45 : decode cX7_when 45 = .ok (.iload_n 2, 1) := by decide +kernel
theorem dX7_when_46 : decode cX7_when 46 = .ok (.if_icmp .eq 13, 3) := by decide +kernel
theorem dX7_when_49 : decode cX7_when 49 = .ok (.aload_n 0, 1) := by decide +kernel
theorem dX7_when_50 : decode cX7_when 50 = .ok (.invokevirtual 136, 3) := by decide +kernel
theorem dX7_when_53 : decode cX7_when 53 = .ok (.iinc 3 1, 3) := by decide +kernel
theorem dX7_when_56 : decode cX7_when 56 = .ok (.goto (-26), 3) := by decide +kernel
theorem dX7_when_59 : decode cX7_when 59 = .ok (.aload_n 0, 1) := by decide +kernel
theorem dX7_when_60 : decode cX7_when 60 = .ok (.invokevirtual 150, 3) := by decide +kernel
theorem dX7_when_63 : decode cX7_when 63 = .ok (.iload_n 3, 1) := by decide +kernel
theorem dX7_when_64 : decode cX7_when 64 = .ok (.bipush 100, 2) := by decide +kernel
theorem dX7_when_66 : decode cX7_when 66 = .ok (.if_icmp .le 12, 3) := by decide +kernel
theorem dX7_when_69 : decode cX7_when 69 = .ok (.aload_n 0, 1) := by decide +kernel
theorem dX7_when_70 : decode cX7_when 70 = .ok (.ldc 42, 2) := by decide +kernel
theorem dX7_when_72 : decode cX7_when 72 = .ok (.invokevirtual 43, 3) := by decide +kernel
theorem dX7_when_75 : decode cX7_when 75 = .ok (.goto 4, 3) := by decide +kernel
theorem dX7_when_78 : decode cX7_when 78 = .ok (.iload_n 3, 1) := by decide +kernel
theorem dX7_when_79 : decode cX7_when 79 = .ok (.ireturn, 1) := by decide +kernel
set_option maxRecDepth 20000 in
theorem ggX7_all_X7_isState : GoodIn wsX7_all wsX7_isState := goodIn_r _ [6, 7, 8, 5, 9] (by decide +kernel) (by decide +kernel)
set_option maxRecDepth 20000 in
theorem gX7_all_X7_isState : GoodIn wsX7_all (va_wsS RX7 62 yX7_isState wsX7_isState) := goodIn_app (goodIn_of _ (by decide +kernel)) ggX7_all_X7_isState
set_option maxRecDepth 20000 in
theorem ggX7_all_X7_finds : GoodIn wsX7_all wsX7_finds := goodIn_r _ [13, 14, 1, 106, 107, 108, 109, 110, 111, 112, 113, 114, 115, 116, 117, 118, 119, 120, 121, 122] (by decide +kernel) (by decide +kernel)
set_option maxRecDepth 20000 in
theorem gX7_all_X7_finds : GoodIn wsX7_all (wsV RX7 43 RX7 yX7_finds wsX7_finds) := goodIn_app (goodIn_of _ (by decide +kernel)) ggX7_all_X7_finds
set_option maxRecDepth 20000 in
theorem ggX7_all_X7_thinks : GoodIn wsX7_all wsX7_thinks := goodIn_r _ [18, 19, 20, 21, 22, 5, 23, 106, 107, 108, 109, 110, 111, 112, 113, 114, 115, 116, 117, 118, 119, 120, 121, 122] (by decide +kernel) (by decide +kernel)
set_option maxRecDepth 20000 in
theorem gX7_all_X7_thinks : GoodIn wsX7_all (wsV RX7 147 RX7 yX7_thinks wsX7_thinks) := goodIn_app (goodIn_of _ (by decide +kernel)) ggX7_all_X7_thinks
set_option maxRecDepth 20000 in
theorem ggX7_all_X7_landsOf : GoodIn wsX7_all wsX7_landsOf := goodIn_r _ [27, 19, 106, 107, 108, 109, 110, 111, 112, 113, 114, 115, 116, 117, 118, 119, 120, 121, 122] (by decide +kernel) (by decide +kernel)
set_option maxRecDepth 20000 in
theorem gX7_all_X7_landsOf : GoodIn wsX7_all (wsV RX7 133 RX7 yX7_landsOf wsX7_landsOf) := goodIn_app (goodIn_of _ (by decide +kernel)) ggX7_all_X7_landsOf
set_option maxRecDepth 20000 in
theorem ggX7_all_X7_bits : GoodIn wsX7_all wsX7_bits := goodIn_r _ [30] (by decide +kernel) (by decide +kernel)
set_option maxRecDepth 20000 in
theorem gX7_all_X7_bits : GoodIn wsX7_all (va_wsS RX7 91 yX7_bits wsX7_bits) := goodIn_app (goodIn_of _ (by decide +kernel)) ggX7_all_X7_bits
set_option maxRecDepth 20000 in
theorem ggX7_all_X7_goes : GoodIn wsX7_all wsX7_goes := goodIn_r _ [34, 19, 35, 36, 37, 38, 5, 39, 40, 41, 42, 43, 44, 45, 46, 47, 48, 49, 50, 51, 52, 53, 54, 55, 56, 57, 58, 59, 60, 61, 62, 63, 64, 65, 66, 67, 68, 69, 70, 71, 72, 73, 74, 75, 76, 77, 78, 28, 29, 30, 79, 80, 81, 82, 83, 84, 85, 86, 87, 88, 89, 90, 91, 92, 93, 94, 95, 96, 97, 98, 99, 100, 101, 24, 25, 26, 27, 106, 107, 108, 109, 110, 111, 112, 113, 114, 115, 116, 117, 118, 119, 120, 121, 122] (by decide +kernel) (by decide +kernel)
set_option maxRecDepth 20000 in
theorem gX7_all_X7_goes : GoodIn wsX7_all (wsV RX7 136 RX7 yX7_goes wsX7_goes) := goodIn_app (goodIn_of _ (by decide +kernel)) ggX7_all_X7_goes
set_option maxRecDepth 20000 in
theorem ggX7_all_X7_putsBack : GoodIn wsX7_all wsX7_putsBack := goodIn_r _ [105, 20, 19, 21, 22, 5, 23, 106, 107, 108, 109, 110, 111, 112, 113, 114, 115, 116, 117, 118, 119, 120, 121, 122] (by decide +kernel) (by decide +kernel)
set_option maxRecDepth 20000 in
theorem gX7_all_X7_putsBack : GoodIn wsX7_all (wsV RX7 150 RX7 yX7_putsBack wsX7_putsBack) := goodIn_app (goodIn_of _ (by decide +kernel)) ggX7_all_X7_putsBack
theorem dX7_all_0 : decode cX7_all 0 = .ok (.iload_n 1, 1) := by decide +kernel
theorem dX7_all_1 : decode cX7_all 1 = .ok (.invokestatic 62, 3) := by decide +kernel
theorem dX7_all_4 : decode cX7_all 4 = .ok (.ifCond .ne 10, 3) := by decide +kernel
theorem dX7_all_7 : decode cX7_all 7 = .ok (.aload_n 0, 1) := by decide +kernel
theorem dX7_all_8 : decode cX7_all 8 = .ok (.ldc 41, 2) := by decide +kernel
theorem dX7_all_10 : decode cX7_all 10 = .ok (.invokevirtual 43, 3) := by decide +kernel
theorem dX7_all_13 : decode cX7_all 13 = .ok (.ireturn, 1) := by decide +kernel
theorem dX7_all_14 : decode cX7_all 14 = .ok (.aload_n 0, 1) := by decide +kernel
theorem dX7_all_15 : decode cX7_all 15 = .ok (.invokevirtual 147, 3) := by decide +kernel
theorem dX7_all_18 : decode cX7_all 18 = .ok (.iconst 0, 1) := by decide +kernel
theorem dX7_all_19 : decode cX7_all 19 = .ok (.istore_n 2, 1) := by decide +kernel
theorem dX7_all_20 : decode cX7_all 20 = .ok (.iload_n 2, 1) := by decide +kernel
theorem dX7_all_21 : decode cX7_all 21 = .ok (.bipush 100, 2) := by decide +kernel
theorem dX7_all_23 : decode cX7_all 23 = .ok (.if_icmp .gt 26, 3) := by decide +kernel
theorem dX7_all_26 : decode cX7_all 26 = .ok (.aload_n 0, 1) := by decide +kernel
theorem dX7_all_27 : decode cX7_all 27 = .ok (.iload_n 1, 1) := by decide +kernel
theorem dX7_all_28 : decode cX7_all 28 = .ok (.invokevirtual 133, 3) := by decide +kernel
theorem dX7_all_31 : decode cX7_all 31 = .ok (.invokestatic 91, 3) := by decide +kernel
theorem dX7_all_34 : decode cX7_all 34 = .ok (.bipush 8, 2) := by decide +kernel
theorem dX7_all_36 : decode cX7_all 36 = .ok (.if_icmp .ge 13, 3) := by decide +kernel
theorem dX7_all_39 : decode cX7_all 39 = .ok (.aload_n 0, 1) := by decide +kernel
theorem dX7_all_40 : decode cX7_all 40 = .ok (.invokevirtual 136, 3) := by decide +kernel
theorem dX7_all_43 : decode cX7_all 43 = .ok (.iinc 2 1, 3) := by decide +kernel
theorem dX7_all_46 : decode cX7_all 46 = .ok (.goto (-26), 3) := by decide +kernel
theorem dX7_all_49 : decode cX7_all 49 = .ok (.aload_n 0, 1) := by decide +kernel
theorem dX7_all_50 : decode cX7_all 50 = .ok (.invokevirtual 150, 3) := by decide +kernel
theorem dX7_all_53 : decode cX7_all 53 = .ok (.iload_n 2, 1) := by decide +kernel
theorem dX7_all_54 : decode cX7_all 54 = .ok (.bipush 100, 2) := by decide +kernel
theorem dX7_all_56 : decode cX7_all 56 = .ok (.if_icmp .le 12, 3) := by decide +kernel
theorem dX7_all_59 : decode cX7_all 59 = .ok (.aload_n 0, 1) := by decide +kernel
theorem dX7_all_60 : decode cX7_all 60 = .ok (.ldc 42, 2) := by decide +kernel
theorem dX7_all_62 : decode cX7_all 62 = .ok (.invokevirtual 43, 3) := by decide +kernel
theorem dX7_all_65 : decode cX7_all 65 = .ok (.goto 4, 3) := by decide +kernel
theorem dX7_all_68 : decode cX7_all 68 = .ok (.iload_n 2, 1) := by decide +kernel
theorem dX7_all_69 : decode cX7_all 69 = .ok (.ireturn, 1) := by decide +kernel
set_option maxRecDepth 20000 in
theorem ggX7_bestAt_X7_thinks : GoodIn wsX7_bestAt wsX7_thinks := goodIn_r _ [6, 1, 7, 8, 9, 5, 10, 97, 98, 99, 100, 101, 102, 103, 104, 105, 106, 107, 108, 109, 110, 111, 112, 113] (by decide +kernel) (by decide +kernel)
set_option maxRecDepth 20000 in
theorem gX7_bestAt_X7_thinks : GoodIn wsX7_bestAt (wsV RX7 147 RX7 yX7_thinks wsX7_thinks) := goodIn_app (goodIn_of _ (by decide +kernel)) ggX7_bestAt_X7_thinks
set_option maxRecDepth 20000 in
theorem ggX7_bestAt_X7_goesFor : GoodIn wsX7_bestAt wsX7_goesFor := goodIn_r _ [14, 15, 16, 17, 5, 18, 1, 19, 20, 21, 22, 23, 24, 25, 26, 27, 28, 29, 30, 31, 32, 33, 34, 35, 36, 37, 38, 39, 40, 41, 42, 43, 44, 45, 46, 47, 48, 49, 50, 51, 52, 53, 54, 55, 56, 57, 58, 59, 60, 61, 62, 63, 64, 65, 66, 67, 68, 69, 70, 71, 72, 73, 74, 75, 76, 77, 78, 79, 80, 81, 82, 83, 84, 85, 86, 87, 88, 89, 90, 91, 92, 97, 98, 99, 100, 101, 102, 103, 104, 105, 106, 107, 108, 109, 110, 111, 112, 113] (by decide +kernel) (by decide +kernel)
set_option maxRecDepth 20000 in
theorem gX7_bestAt_X7_goesFor : GoodIn wsX7_bestAt (wsV RX7 139 RX7 yX7_goesFor wsX7_goesFor) := goodIn_app (goodIn_of _ (by decide +kernel)) ggX7_bestAt_X7_goesFor
set_option maxRecDepth 20000 in
theorem ggX7_bestAt_X7_landsOf : GoodIn wsX7_bestAt wsX7_landsOf := goodIn_r _ [92, 1, 97, 98, 99, 100, 101, 102, 103, 104, 105, 106, 107, 108, 109, 110, 111, 112, 113] (by decide +kernel) (by decide +kernel)
set_option maxRecDepth 20000 in
theorem gX7_bestAt_X7_landsOf : GoodIn wsX7_bestAt (wsV RX7 133 RX7 yX7_landsOf wsX7_landsOf) := goodIn_app (goodIn_of _ (by decide +kernel)) ggX7_bestAt_X7_landsOf
set_option maxRecDepth 20000 in
theorem ggX7_bestAt_X7_bits : GoodIn wsX7_bestAt wsX7_bits := goodIn_r _ [65] (by decide +kernel) (by decide +kernel)
set_option maxRecDepth 20000 in
theorem gX7_bestAt_X7_bits : GoodIn wsX7_bestAt (va_wsS RX7 91 yX7_bits wsX7_bits) := goodIn_app (goodIn_of _ (by decide +kernel)) ggX7_bestAt_X7_bits
set_option maxRecDepth 20000 in
theorem ggX7_bestAt_X7_putsBack : GoodIn wsX7_bestAt wsX7_putsBack := goodIn_r _ [96, 7, 1, 8, 9, 5, 10, 97, 98, 99, 100, 101, 102, 103, 104, 105, 106, 107, 108, 109, 110, 111, 112, 113] (by decide +kernel) (by decide +kernel)
set_option maxRecDepth 20000 in
theorem gX7_bestAt_X7_putsBack : GoodIn wsX7_bestAt (wsV RX7 150 RX7 yX7_putsBack wsX7_putsBack) := goodIn_app (goodIn_of _ (by decide +kernel)) ggX7_bestAt_X7_putsBack
theorem dX7_bestAt_0 : decode cX7_bestAt 0 = .ok (.aload_n 0, 1) := by decide +kernel
theorem dX7_bestAt_1 : decode cX7_bestAt 1 = .ok (.invokevirtual 147, 3) := by decide +kernel
theorem dX7_bestAt_4 : decode cX7_bestAt 4 = .ok (.iconst (-1), 1) := by decide +kernel
theorem dX7_bestAt_5 : decode cX7_bestAt 5 = .ok (.istore 7, 2) := by decide +kernel
theorem dX7_bestAt_7 : decode cX7_bestAt 7 = .ok (.iconst (-1), 1) := by decide +kernel
theorem dX7_bestAt_8 : decode cX7_bestAt 8 = .ok (.istore 8, 2) := by decide +kernel
theorem dX7_bestAt_10 : decode cX7_bestAt 10 = .ok (.iload_n 2, 1) := by decide +kernel
theorem dX7_bestAt_11 : decode cX7_bestAt 11 = .ok (.istore 9, 2) := by decide +kernel
theorem dX7_bestAt_13 : decode cX7_bestAt 13 = .ok (.iload 9, 2) := by decide +kernel
theorem dX7_bestAt_15 : decode cX7_bestAt 15 = .ok (.iload 4, 2) := by decide +kernel
theorem dX7_bestAt_17 : decode cX7_bestAt 17 = .ok (.if_icmp .gt 73, 3) := by decide +kernel
theorem dX7_bestAt_20 : decode cX7_bestAt 20 = .ok (.aload_n 0, 1) := by decide +kernel
theorem dX7_bestAt_21 : decode cX7_bestAt 21 = .ok (.getfield 9, 3) := by decide +kernel
theorem dX7_bestAt_24 : decode cX7_bestAt 24 = .ok (.iload_n 1, 1) := by decide +kernel
theorem dX7_bestAt_25 : decode cX7_bestAt 25 = .ok (.iload 9, 2) := by decide +kernel
theorem dX7_bestAt_27 : decode cX7_bestAt 27 = .ok (.iastore, 1) := by decide +kernel
theorem dX7_bestAt_28 : decode cX7_bestAt 28 = .ok (.aload_n 0, 1) := by decide +kernel
theorem dX7_bestAt_29 : decode cX7_bestAt 29 = .ok (.iload 6, 2) := by decide +kernel
theorem dX7_bestAt_31 : decode cX7_bestAt 31 = .ok (.invokevirtual 139, 3) := by decide +kernel
theorem dX7_bestAt_34 : decode cX7_bestAt 34 = .ok (.aload_n 0, 1) := by decide +kernel
theorem dX7_bestAt_35 : decode cX7_bestAt 35 = .ok (.iload 5, 2) := by decide +kernel
theorem dX7_bestAt_37 : decode cX7_bestAt 37 = .ok (.invokevirtual 133, 3) := by decide +kernel
theorem dX7_bestAt_40 : decode cX7_bestAt 40 = .ok (.invokestatic 91, 3) := by decide +kernel
theorem dX7_bestAt_43 : decode cX7_bestAt 43 = .ok (.istore 10, 2) := by decide +kernel
theorem dX7_bestAt_45 : decode cX7_bestAt 45 = .ok (.aload_n 0, 1) := by decide +kernel
theorem dX7_bestAt_46 : decode cX7_bestAt 46 = .ok (.invokevirtual 150, 3) := by decide +kernel
theorem dX7_bestAt_49 : decode cX7_bestAt 49 = .ok (.iload 10, 2) := by decide +kernel
theorem dX7_bestAt_51 : decode cX7_bestAt 51 = .ok (.iload 8, 2) := by decide +kernel
theorem dX7_bestAt_53 : decode cX7_bestAt 53 = .ok (.if_icmp .le 8, 3) := by decide +kernel
theorem dX7_bestAt_56 : decode cX7_bestAt 56 = .ok (.iload 9, 2) := by decide +kernel
theorem dX7_bestAt_58 : decode cX7_bestAt 58 = .ok (.goto 5, 3) := by decide +kernel
theorem dX7_bestAt_61 : decode cX7_bestAt 61 = .ok (.iload 7, 2) := by decide +kernel
theorem dX7_bestAt_63 : decode cX7_bestAt 63 = .ok (.istore 7, 2) := by decide +kernel
theorem dX7_bestAt_65 : decode cX7_bestAt 65 = .ok (.iload 10, 2) := by decide +kernel
theorem dX7_bestAt_67 : decode cX7_bestAt 67 = .ok (.iload 8, 2) := by decide +kernel
theorem dX7_bestAt_69 : decode cX7_bestAt 69 = .ok (.if_icmp .le 8, 3) := by decide +kernel
theorem dX7_bestAt_72 : decode cX7_bestAt 72 = .ok (.iload 10, 2) := by decide +kernel
theorem dX7_bestAt_74 : decode cX7_bestAt 74 = .ok (.goto 5, 3) := by decide +kernel
theorem dX7_bestAt_77 : decode cX7_bestAt 77 = .ok (.iload 8, 2) := by decide +kernel
theorem dX7_bestAt_79 : decode cX7_bestAt 79 = .ok (.istore 8, 2) := by decide +kernel
theorem dX7_bestAt_81 : decode cX7_bestAt 81 = .ok (.iload 9, 2) := by decide +kernel
theorem dX7_bestAt_83 : decode cX7_bestAt 83 = .ok (.iload_n 3, 1) := by decide +kernel
theorem dX7_bestAt_84 : decode cX7_bestAt 84 = .ok (.iadd, 1) := by decide +kernel
theorem dX7_bestAt_85 : decode cX7_bestAt 85 = .ok (.istore 9, 2) := by decide +kernel
theorem dX7_bestAt_87 : decode cX7_bestAt 87 = .ok (.goto (-74), 3) := by decide +kernel
theorem dX7_bestAt_90 : decode cX7_bestAt 90 = .ok (.iload 7, 2) := by decide +kernel
theorem dX7_bestAt_92 : decode cX7_bestAt 92 = .ok (.ireturn, 1) := by decide +kernel
set_option maxRecDepth 20000 in
theorem ggX7_best_X7_isState : GoodIn wsX7_best wsX7_isState := goodIn_r _ [6, 7, 8, 5, 9] (by decide +kernel) (by decide +kernel)
set_option maxRecDepth 20000 in
theorem gX7_best_X7_isState : GoodIn wsX7_best (va_wsS RX7 62 yX7_isState wsX7_isState) := goodIn_app (goodIn_of _ (by decide +kernel)) ggX7_best_X7_isState
set_option maxRecDepth 20000 in
theorem ggX7_best_X7_in : GoodIn wsX7_best wsX7_in := goodIn_r _ [9] (by decide +kernel) (by decide +kernel)
set_option maxRecDepth 20000 in
theorem gX7_best_X7_in : GoodIn wsX7_best (va_wsS RX7 47 yX7_in wsX7_in) := goodIn_app (goodIn_of _ (by decide +kernel)) ggX7_best_X7_in
set_option maxRecDepth 20000 in
theorem ggX7_best_X7_bestAt : GoodIn wsX7_best wsX7_bestAt := goodIn_r _ [13, 1, 14, 15, 16, 5, 17, 18, 19, 20, 21, 22, 23, 24, 25, 26, 27, 28, 29, 30, 31, 32, 33, 34, 35, 36, 37, 38, 39, 40, 41, 42, 43, 44, 45, 46, 47, 48, 49, 50, 51, 52, 53, 54, 55, 56, 57, 58, 59, 60, 61, 62, 63, 64, 65, 66, 67, 68, 69, 70, 71, 72, 73, 74, 75, 76, 77, 78, 79, 80, 81, 82, 83, 84, 85, 86, 87, 88, 89, 90, 91, 92, 93, 94, 95, 96, 97, 98, 99, 100, 101, 102, 103, 104, 105, 106, 107, 118, 119, 120, 121, 122, 123, 124, 125, 126, 127, 128, 129, 130, 131, 132, 133, 134] (by decide +kernel) (by decide +kernel)
set_option maxRecDepth 20000 in
theorem gX7_best_X7_bestAt : GoodIn wsX7_best (wsV RX7 153 RX7 yX7_bestAt wsX7_bestAt) := goodIn_app (goodIn_of _ (by decide +kernel)) ggX7_best_X7_bestAt
set_option maxRecDepth 20000 in
theorem ggX7_best_X7_orNone : GoodIn wsX7_best wsX7_orNone := goodIn_r _ [111, 112, 113, 114, 115, 5, 116, 117, 2, 118, 119, 120, 121, 122, 123, 124, 125, 126, 127, 128, 129, 130, 131, 132, 133, 134] (by decide +kernel) (by decide +kernel)
set_option maxRecDepth 20000 in
theorem gX7_best_X7_orNone : GoodIn wsX7_best (wsV RX7 157 RX7 yX7_orNone wsX7_orNone) := goodIn_app (goodIn_of _ (by decide +kernel)) ggX7_best_X7_orNone
set_option maxRecDepth 20000 in
theorem ggX7_best_X7_finds : GoodIn wsX7_best wsX7_finds := goodIn_r _ [116, 117, 2, 118, 119, 120, 121, 122, 123, 124, 125, 126, 127, 128, 129, 130, 131, 132, 133, 134] (by decide +kernel) (by decide +kernel)
set_option maxRecDepth 20000 in
theorem gX7_best_X7_finds : GoodIn wsX7_best (wsV RX7 43 RX7 yX7_finds wsX7_finds) := goodIn_app (goodIn_of _ (by decide +kernel)) ggX7_best_X7_finds
theorem dX7_best_0 : decode cX7_best 0 = .ok (.iload_n 1, 1) := by decide +kernel
theorem dX7_best_1 : decode cX7_best 1 = .ok (.invokestatic 62, 3) := by decide +kernel
theorem dX7_best_4 : decode cX7_best 4 = .ok (.ifCond .eq 40, 3) := by decide +kernel
theorem dX7_best_7 : decode cX7_best 7 = .ok (.iload_n 2, 1) := by decide +kernel
theorem dX7_best_8 : decode cX7_best 8 = .ok (.i2l, 1) := by decide +kernel
theorem dX7_best_9 : decode cX7_best 9 = .ok (.iconst 1, 1) := by decide +kernel
theorem dX7_best_10 : decode cX7_best 10 = .ok (.bipush 40, 2) := by decide +kernel
theorem dX7_best_12 : decode cX7_best 12 = .ok (.invokestatic 47, 3) := by decide +kernel
theorem dX7_best_15 : decode cX7_best 15 = .ok (.ifCond .eq 29, 3) := by decide +kernel
theorem dX7_best_18 : decode cX7_best 18 = .ok (.aload_n 0, 1) := by decide +kernel
theorem dX7_best_19 : decode cX7_best 19 = .ok (.aload_n 0, 1) := by decide +kernel
theorem dX7_best_20 : decode cX7_best 20 = .ok (.iconst 3, 1) := by decide +kernel
theorem dX7_best_21 : decode cX7_best 21 = .ok (.iload_n 1, 1) := by decide +kernel
theorem dX7_best_22 : decode cX7_best 22 = .ok (.iadd, 1) := by decide +kernel
theorem dX7_best_23 : decode cX7_best 23 = .ok (.iconst 0, 1) := by decide +kernel
theorem dX7_best_24 : decode cX7_best 24 = .ok (.iconst 1, 1) := by decide +kernel
theorem dX7_best_25 : decode cX7_best 25 = .ok (.aload_n 0, 1) := by decide +kernel
theorem dX7_best_26 : decode cX7_best 26 = .ok (.getfield 9, 3) := by decide +kernel
theorem dX7_best_29 : decode cX7_best 29 = .ok (.iconst 2, 1) := by decide +kernel
theorem dX7_best_30 : decode cX7_best 30 = .ok (.iaload, 1) := by decide +kernel
theorem dX7_best_31 : decode cX7_best 31 = .ok (.iconst 1, 1) := by decide +kernel
theorem dX7_best_32 : decode cX7_best 32 = .ok (.isub, 1) := by decide +kernel
theorem dX7_best_33 : decode cX7_best 33 = .ok (.iload_n 1, 1) := by decide +kernel
theorem dX7_best_34 : decode cX7_best 34 = .ok (.iload_n 2, 1) := by decide +kernel
theorem dX7_best_35 : decode cX7_best 35 = .ok (.invokevirtual 153, 3) := by decide +kernel
theorem dX7_best_38 : decode cX7_best 38 = .ok (.invokevirtual 157, 3) := by decide +kernel
theorem dX7_best_41 : decode cX7_best 41 = .ok (.goto 9, 3) := by decide +kernel
theorem dX7_best_44 : decode cX7_best 44 = .ok (.aload_n 0, 1) := by decide +kernel
theorem dX7_best_45 : decode cX7_best 45 = .ok (.ldc 41, 2) := by decide +kernel
theorem dX7_best_47 : decode cX7_best 47 = .ok (.invokevirtual 43, 3) := by decide +kernel
theorem dX7_best_50 : decode cX7_best 50 = .ok (.ireturn, 1) := by decide +kernel
set_option maxRecDepth 20000 in
theorem ggX7_mixed_X7_isState : GoodIn wsX7_mixed wsX7_isState := goodIn_r _ [5, 6, 7, 4, 8] (by decide +kernel) (by decide +kernel)
set_option maxRecDepth 20000 in
theorem gX7_mixed_X7_isState : GoodIn wsX7_mixed (va_wsS RX7 62 yX7_isState wsX7_isState) := goodIn_app (goodIn_of _ (by decide +kernel)) ggX7_mixed_X7_isState
set_option maxRecDepth 20000 in
theorem ggX7_mixed_X7_in : GoodIn wsX7_mixed wsX7_in := goodIn_r _ [8] (by decide +kernel) (by decide +kernel)
set_option maxRecDepth 20000 in
theorem gX7_mixed_X7_in : GoodIn wsX7_mixed (va_wsS RX7 47 yX7_in wsX7_in) := goodIn_app (goodIn_of _ (by decide +kernel)) ggX7_mixed_X7_in
set_option maxRecDepth 20000 in
theorem ggX7_mixed_X7_bestAt : GoodIn wsX7_mixed wsX7_bestAt := goodIn_r _ [12, 13, 14, 15, 16, 4, 17, 18, 19, 20, 21, 22, 23, 24, 25, 26, 27, 28, 29, 30, 31, 32, 33, 34, 35, 36, 37, 38, 39, 40, 41, 42, 43, 44, 45, 46, 47, 48, 49, 50, 51, 52, 53, 54, 55, 56, 57, 58, 59, 60, 61, 62, 63, 64, 65, 66, 67, 68, 69, 70, 71, 72, 73, 74, 75, 76, 77, 78, 79, 80, 81, 82, 83, 84, 85, 86, 87, 88, 89, 90, 91, 92, 93, 94, 95, 96, 97, 98, 99, 100, 101, 102, 103, 104, 105, 106, 107, 113, 114, 115, 116, 117, 118, 119, 120, 121, 122, 123, 124, 125, 126, 127, 128, 129] (by decide +kernel) (by decide +kernel)
set_option maxRecDepth 20000 in
theorem gX7_mixed_X7_bestAt : GoodIn wsX7_mixed (wsV RX7 153 RX7 yX7_bestAt wsX7_bestAt) := goodIn_app (goodIn_of _ (by decide +kernel)) ggX7_mixed_X7_bestAt
set_option maxRecDepth 20000 in
theorem ggX7_mixed_X7_finds : GoodIn wsX7_mixed wsX7_finds := goodIn_r _ [111, 112, 1, 113, 114, 115, 116, 117, 118, 119, 120, 121, 122, 123, 124, 125, 126, 127, 128, 129] (by decide +kernel) (by decide +kernel)
set_option maxRecDepth 20000 in
theorem gX7_mixed_X7_finds : GoodIn wsX7_mixed (wsV RX7 43 RX7 yX7_finds wsX7_finds) := goodIn_app (goodIn_of _ (by decide +kernel)) ggX7_mixed_X7_finds
theorem dX7_mixed_0 : decode cX7_mixed 0 = .ok (.iload_n 1, 1) := by decide +kernel
theorem dX7_mixed_1 : decode cX7_mixed 1 = .ok (.invokestatic 62, 3) := by decide +kernel
theorem dX7_mixed_4 : decode cX7_mixed 4 = .ok (.ifCond .eq 28, 3) := by decide +kernel
theorem dX7_mixed_7 : decode cX7_mixed 7 = .ok (.iload_n 2, 1) := by decide +kernel
theorem dX7_mixed_8 : decode cX7_mixed 8 = .ok (.i2l, 1) := by decide +kernel
theorem dX7_mixed_9 : decode cX7_mixed 9 = .ok (.iconst 1, 1) := by decide +kernel
theorem dX7_mixed_10 : decode cX7_mixed 10 = .ok (.bipush 40, 2) := by decide +kernel
theorem dX7_mixed_12 : decode cX7_mixed 12 = .ok (.invokestatic 47, 3) := by decide +kernel
theorem dX7_mixed_15 : decode cX7_mixed 15 = .ok (.ifCond .eq 17, 3) := by decide +kernel
theorem dX7_mixed_18 : decode cX7_mixed 18 = .ok (.aload_n 0, 1) := by decide +kernel
theorem dX7_mixed_19 : decode cX7_mixed 19 = .ok (.iconst 1, 1) := by decide +kernel
theorem dX7_mixed_20 : decode cX7_mixed 20 = .ok (.iconst 1, 1) := by decide +kernel
theorem dX7_mixed_21 : decode cX7_mixed 21 = .ok (.iconst 2, 1) := by decide +kernel
theorem dX7_mixed_22 : decode cX7_mixed 22 = .ok (.bipush 31, 2) := by decide +kernel
theorem dX7_mixed_24 : decode cX7_mixed 24 = .ok (.iload_n 1, 1) := by decide +kernel
theorem dX7_mixed_25 : decode cX7_mixed 25 = .ok (.iload_n 2, 1) := by decide +kernel
theorem dX7_mixed_26 : decode cX7_mixed 26 = .ok (.invokevirtual 153, 3) := by decide +kernel
theorem dX7_mixed_29 : decode cX7_mixed 29 = .ok (.goto 9, 3) := by decide +kernel
theorem dX7_mixed_32 : decode cX7_mixed 32 = .ok (.aload_n 0, 1) := by decide +kernel
theorem dX7_mixed_33 : decode cX7_mixed 33 = .ok (.ldc 41, 2) := by decide +kernel
theorem dX7_mixed_35 : decode cX7_mixed 35 = .ok (.invokevirtual 43, 3) := by decide +kernel
theorem dX7_mixed_38 : decode cX7_mixed 38 = .ok (.ireturn, 1) := by decide +kernel
set_option maxRecDepth 20000 in
theorem ggX7_peace_X7_in : GoodIn wsX7_peace wsX7_in := goodIn_r _ [5] (by decide +kernel) (by decide +kernel)
set_option maxRecDepth 20000 in
theorem gX7_peace_X7_in : GoodIn wsX7_peace (va_wsS RX7 47 yX7_in wsX7_in) := goodIn_app (goodIn_of _ (by decide +kernel)) ggX7_peace_X7_in
set_option maxRecDepth 20000 in
theorem ggX7_peace_X7_bestAt : GoodIn wsX7_peace wsX7_bestAt := goodIn_r _ [9, 10, 11, 12, 13, 4, 14, 15, 16, 17, 18, 19, 20, 21, 22, 23, 24, 25, 26, 27, 28, 29, 30, 31, 32, 33, 34, 35, 36, 37, 38, 39, 40, 41, 42, 43, 44, 45, 46, 47, 48, 49, 50, 51, 52, 53, 54, 55, 56, 57, 58, 59, 60, 61, 62, 63, 64, 65, 66, 67, 68, 69, 70, 71, 72, 73, 74, 75, 76, 77, 78, 79, 80, 81, 82, 83, 84, 85, 86, 87, 88, 89, 90, 91, 92, 93, 94, 95, 96, 97, 98, 99, 100, 101, 102, 103, 104, 110, 111, 112, 113, 114, 115, 116, 117, 118, 119, 120, 121, 122, 123, 124, 125, 126] (by decide +kernel) (by decide +kernel)
set_option maxRecDepth 20000 in
theorem gX7_peace_X7_bestAt : GoodIn wsX7_peace (wsV RX7 153 RX7 yX7_bestAt wsX7_bestAt) := goodIn_app (goodIn_of _ (by decide +kernel)) ggX7_peace_X7_bestAt
set_option maxRecDepth 20000 in
theorem ggX7_peace_X7_finds : GoodIn wsX7_peace wsX7_finds := goodIn_r _ [108, 109, 1, 110, 111, 112, 113, 114, 115, 116, 117, 118, 119, 120, 121, 122, 123, 124, 125, 126] (by decide +kernel) (by decide +kernel)
set_option maxRecDepth 20000 in
theorem gX7_peace_X7_finds : GoodIn wsX7_peace (wsV RX7 43 RX7 yX7_finds wsX7_finds) := goodIn_app (goodIn_of _ (by decide +kernel)) ggX7_peace_X7_finds
theorem dX7_peace_0 : decode cX7_peace 0 = .ok (.iload_n 1, 1) := by decide +kernel
theorem dX7_peace_1 : decode cX7_peace 1 = .ok (.i2l, 1) := by decide +kernel
theorem dX7_peace_2 : decode cX7_peace 2 = .ok (.iconst 1, 1) := by decide +kernel
theorem dX7_peace_3 : decode cX7_peace 3 = .ok (.bipush 40, 2) := by decide +kernel
theorem dX7_peace_5 : decode cX7_peace 5 = .ok (.invokestatic 47, 3) := by decide +kernel
theorem dX7_peace_8 : decode cX7_peace 8 = .ok (.ifCond .eq 17, 3) := by decide +kernel
theorem dX7_peace_11 : decode cX7_peace 11 = .ok (.aload_n 0, 1) := by decide +kernel
theorem dX7_peace_12 : decode cX7_peace 12 = .ok (.iconst 1, 1) := by decide +kernel
theorem dX7_peace_13 : decode cX7_peace 13 = .ok (.iconst 1, 1) := by decide +kernel
theorem dX7_peace_14 : decode cX7_peace 14 = .ok (.iconst 2, 1) := by decide +kernel
theorem dX7_peace_15 : decode cX7_peace 15 = .ok (.bipush 31, 2) := by decide +kernel
theorem dX7_peace_17 : decode cX7_peace 17 = .ok (.iconst (-1), 1) := by decide +kernel
theorem dX7_peace_18 : decode cX7_peace 18 = .ok (.iload_n 1, 1) := by decide +kernel
theorem dX7_peace_19 : decode cX7_peace 19 = .ok (.invokevirtual 153, 3) := by decide +kernel
theorem dX7_peace_22 : decode cX7_peace 22 = .ok (.goto 9, 3) := by decide +kernel
theorem dX7_peace_25 : decode cX7_peace 25 = .ok (.aload_n 0, 1) := by decide +kernel
theorem dX7_peace_26 : decode cX7_peace 26 = .ok (.ldc 41, 2) := by decide +kernel
theorem dX7_peace_28 : decode cX7_peace 28 = .ok (.invokevirtual 43, 3) := by decide +kernel
theorem dX7_peace_31 : decode cX7_peace 31 = .ok (.ireturn, 1) := by decide +kernel
set_option maxRecDepth 20000 in
theorem ggX7_kind_X7_isEnvoy : GoodIn wsX7_kind wsX7_isEnvoy := goodIn_r _ [7, 2, 8, 9, 6, 10, 110, 111, 112, 113, 114, 115, 116, 117, 118, 119, 120, 121, 122, 123, 124, 125, 126] (by decide +kernel) (by decide +kernel)
set_option maxRecDepth 20000 in
theorem gX7_kind_X7_isEnvoy : GoodIn wsX7_kind (wsV RX7 105 RX7 yX7_isEnvoy wsX7_isEnvoy) := goodIn_app (goodIn_of _ (by decide +kernel)) ggX7_kind_X7_isEnvoy
set_option maxRecDepth 20000 in
theorem ggX7_kind_X7_in : GoodIn wsX7_kind wsX7_in := goodIn_r _ [10] (by decide +kernel) (by decide +kernel)
set_option maxRecDepth 20000 in
theorem gX7_kind_X7_in : GoodIn wsX7_kind (va_wsS RX7 47 yX7_in wsX7_in) := goodIn_app (goodIn_of _ (by decide +kernel)) ggX7_kind_X7_in
set_option maxRecDepth 20000 in
theorem ggX7_kind_X7_finds : GoodIn wsX7_kind wsX7_finds := goodIn_r _ [14, 15, 1, 110, 111, 112, 113, 114, 115, 116, 117, 118, 119, 120, 121, 122, 123, 124, 125, 126] (by decide +kernel) (by decide +kernel)
set_option maxRecDepth 20000 in
theorem gX7_kind_X7_finds : GoodIn wsX7_kind (wsV RX7 43 RX7 yX7_finds wsX7_finds) := goodIn_app (goodIn_of _ (by decide +kernel)) ggX7_kind_X7_finds
set_option maxRecDepth 20000 in
theorem ggX7_kind_X7_thinks : GoodIn wsX7_kind wsX7_thinks := goodIn_r _ [19, 2, 20, 21, 22, 6, 23, 110, 111, 112, 113, 114, 115, 116, 117, 118, 119, 120, 121, 122, 123, 124, 125, 126] (by decide +kernel) (by decide +kernel)
set_option maxRecDepth 20000 in
theorem gX7_kind_X7_thinks : GoodIn wsX7_kind (wsV RX7 147 RX7 yX7_thinks wsX7_thinks) := goodIn_app (goodIn_of _ (by decide +kernel)) ggX7_kind_X7_thinks
set_option maxRecDepth 20000 in
theorem ggX7_kind_X7_goesFor : GoodIn wsX7_kind wsX7_goesFor := goodIn_r _ [27, 28, 29, 30, 6, 31, 2, 32, 33, 34, 35, 36, 37, 38, 39, 40, 41, 42, 43, 44, 45, 46, 47, 48, 49, 50, 51, 52, 53, 54, 55, 56, 57, 58, 59, 60, 61, 62, 63, 64, 65, 66, 67, 68, 69, 70, 71, 72, 73, 74, 75, 76, 77, 78, 79, 80, 81, 82, 83, 84, 85, 86, 87, 88, 89, 90, 91, 92, 93, 94, 95, 96, 97, 98, 99, 100, 101, 102, 103, 104, 105, 110, 111, 112, 113, 114, 115, 116, 117, 118, 119, 120, 121, 122, 123, 124, 125, 126] (by decide +kernel) (by decide +kernel)
