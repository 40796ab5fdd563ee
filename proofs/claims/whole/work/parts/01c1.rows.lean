theorem dX5_isWord_57 : decode cX5_isWord 57 = .ok (.iinc 2 1, 3) := by decide +kernel
theorem dX5_isWord_60 : decode cX5_isWord 60 = .ok (.goto (-32), 3) := by decide +kernel
theorem dX5_isWord_63 : decode cX5_isWord 63 = .ok (.iconst 1, 1) := by decide +kernel
theorem dX5_isWord_64 : decode cX5_isWord 64 = .ok (.ireturn, 1) := by decide +kernel
theorem dX5_isLetter_0 : decode cX5_isLetter 0 = .ok (.iload_n 0, 1) := by decide +kernel
theorem dX5_isLetter_1 : decode cX5_isLetter 1 = .ok (.bipush 97, 2) := by decide +kernel
theorem dX5_isLetter_3 : decode cX5_isLetter 3 = .ok (.if_icmp .lt 13, 3) := by decide +kernel
theorem dX5_isLetter_6 : decode cX5_isLetter 6 = .ok (.iload_n 0, 1) := by decide +kernel
theorem dX5_isLetter_7 : decode cX5_isLetter 7 = .ok (.bipush 122, 2) := by decide +kernel
theorem dX5_isLetter_9 : decode cX5_isLetter 9 = .ok (.if_icmp .gt 7, 3) := by decide +kernel
theorem dX5_isLetter_12 : decode cX5_isLetter 12 = .ok (.iconst 1, 1) := by decide +kernel
theorem dX5_isLetter_13 : decode cX5_isLetter 13 = .ok (.goto 4, 3) := by decide +kernel
theorem dX5_isLetter_16 : decode cX5_isLetter 16 = .ok (.iconst 0, 1) := by decide +kernel
theorem dX5_isLetter_17 : decode cX5_isLetter 17 = .ok (.ireturn, 1) := by decide +kernel
theorem dX5_isDigit_0 : decode cX5_isDigit 0 = .ok (.iload_n 0, 1) := by decide +kernel
theorem dX5_isDigit_1 : decode cX5_isDigit 1 = .ok (.bipush 48, 2) := by decide +kernel
theorem dX5_isDigit_3 : decode cX5_isDigit 3 = .ok (.if_icmp .lt 13, 3) := by decide +kernel
theorem dX5_isDigit_6 : decode cX5_isDigit 6 = .ok (.iload_n 0, 1) := by decide +kernel
theorem dX5_isDigit_7 : decode cX5_isDigit 7 = .ok (.bipush 57, 2) := by decide +kernel
theorem dX5_isDigit_9 : decode cX5_isDigit 9 = .ok (.if_icmp .gt 7, 3) := by decide +kernel
theorem dX5_isDigit_12 : decode cX5_isDigit 12 = .ok (.iconst 1, 1) := by decide +kernel
theorem dX5_isDigit_13 : decode cX5_isDigit 13 = .ok (.goto 4, 3) := by decide +kernel
theorem dX5_isDigit_16 : decode cX5_isDigit 16 = .ok (.iconst 0, 1) := by decide +kernel
theorem dX5_isDigit_17 : decode cX5_isDigit 17 = .ok (.ireturn, 1) := by decide +kernel
set_option maxRecDepth 20000 in
theorem ggX6_init_X4_init : GoodIn wsX6_init wsX4_init := goodIn_r _ [26, 27, 2, 3, 28, 29, 30, 20, 31, 32, 33, 34, 35, 36, 37, 38, 39, 60, 61, 62, 63, 64, 65, 66, 67] (by decide +kernel) (by decide +kernel)
set_option maxRecDepth 20000 in
theorem gX6_init_X4_init : GoodIn wsX6_init (wsX4_init) := ggX6_init_X4_init
set_option maxRecDepth 20000 in
theorem ggX6_init_X1_init : GoodIn wsX6_init wsX1_init := goodIn_r _ [41, 42, 2, 3, 20, 43, 44, 45, 46, 47, 76, 77, 78, 79, 80] (by decide +kernel) (by decide +kernel)
set_option maxRecDepth 20000 in
theorem gX6_init_X1_init_n24 : GoodIn wsX6_init (wsX1_init) := ggX6_init_X1_init
set_option maxRecDepth 20000 in
theorem ggX6_init_X5_init : GoodIn wsX6_init wsX5_init := goodIn_r _ [49, 50, 2, 3, 20, 51, 52, 81, 82, 83, 84, 85, 86] (by decide +kernel) (by decide +kernel)
set_option maxRecDepth 20000 in
theorem gX6_init_X5_init_n31 : GoodIn wsX6_init (wsX5_init) := ggX6_init_X5_init
set_option maxRecDepth 20000 in
theorem ggX6_init_X3_init : GoodIn wsX6_init wsX3_init := goodIn_r _ [54, 55, 2, 3, 56, 57, 58, 59, 87, 88, 89] (by decide +kernel) (by decide +kernel)
set_option maxRecDepth 20000 in
theorem gX6_init_X3_init_n46 : GoodIn wsX6_init (wsX3_init) := ggX6_init_X3_init
theorem dX6_init_0 : decode cX6_init 0 = .ok (.aload_n 0, 1) := by decide +kernel
theorem dX6_init_1 : decode cX6_init 1 = .ok (.invokespecial 1, 3) := by decide +kernel
theorem dX6_init_4 : decode cX6_init 4 = .ok (.aload_n 0, 1) := by decide +kernel
theorem dX6_init_5 : decode cX6_init 5 = .ok (.new 7, 3) := by decide +kernel
theorem dX6_init_8 : decode cX6_init 8 = .ok (.dup, 1) := by decide +kernel
theorem dX6_init_9 : decode cX6_init 9 = .ok (.invokespecial 9, 3) := by decide +kernel
theorem dX6_init_12 : decode cX6_init 12 = .ok (.putfield 10, 3) := by decide +kernel
theorem dX6_init_15 : decode cX6_init 15 = .ok (.aload_n 0, 1) := by decide +kernel
theorem dX6_init_16 : decode cX6_init 16 = .ok (.new 7, 3) := by decide +kernel
theorem dX6_init_19 : decode cX6_init 19 = .ok (.dup, 1) := by decide +kernel
theorem dX6_init_20 : decode cX6_init 20 = .ok (.invokespecial 9, 3) := by decide +kernel
theorem dX6_init_23 : decode cX6_init 23 = .ok (.putfield 16, 3) := by decide +kernel
theorem dX6_init_26 : decode cX6_init 26 = .ok (.aload_n 0, 1) := by decide +kernel
theorem dX6_init_27 : decode cX6_init 27 = .ok (.new 7, 3) := by decide +kernel
theorem dX6_init_30 : decode cX6_init 30 = .ok (.dup, 1) := by decide +kernel
theorem dX6_init_31 : decode cX6_init 31 = .ok (.invokespecial 9, 3) := by decide +kernel
theorem dX6_init_34 : decode cX6_init 34 = .ok (.putfield 19, 3) := by decide +kernel
theorem dX6_init_37 : decode cX6_init 37 = .ok (.aload_n 0, 1) := by decide +kernel
theorem dX6_init_38 : decode cX6_init 38 = .ok (.new 22, 3) := by decide +kernel
theorem dX6_init_41 : decode cX6_init 41 = .ok (.dup, 1) := by decide +kernel
theorem dX6_init_42 : decode cX6_init 42 = .ok (.invokespecial 24, 3) := by decide +kernel
theorem dX6_init_45 : decode cX6_init 45 = .ok (.putfield 25, 3) := by decide +kernel
theorem dX6_init_48 : decode cX6_init 48 = .ok (.aload_n 0, 1) := by decide +kernel
theorem dX6_init_49 : decode cX6_init 49 = .ok (.new 29, 3) := by decide +kernel
theorem dX6_init_52 : decode cX6_init 52 = .ok (.dup, 1) := by decide +kernel
theorem dX6_init_53 : decode cX6_init 53 = .ok (.invokespecial 31, 3) := by decide +kernel
theorem dX6_init_56 : decode cX6_init 56 = .ok (.putfield 32, 3) := by decide +kernel
theorem dX6_init_59 : decode cX6_init 59 = .ok (.aload_n 0, 1) := by decide +kernel
theorem dX6_init_60 : decode cX6_init 60 = .ok (.iconst 4, 1) := by decide +kernel
theorem dX6_init_61 : decode cX6_init 61 = .ok (.anewarray 36, 3) := by decide +kernel
theorem dX6_init_64 : decode cX6_init 64 = .ok (.putfield 38, 3) := by decide +kernel
theorem dX6_init_67 : decode cX6_init 67 = .ok (.aload_n 0, 1) := by decide +kernel
theorem dX6_init_68 : decode cX6_init 68 = .ok (.bipush 7, 2) := by decide +kernel
theorem dX6_init_70 : decode cX6_init 70 = .ok (.newarray .int, 2) := by decide +kernel
theorem dX6_init_72 : decode cX6_init 72 = .ok (.putfield 42, 3) := by decide +kernel
theorem dX6_init_75 : decode cX6_init 75 = .ok (.iconst 0, 1) := by decide +kernel
theorem dX6_init_76 : decode cX6_init 76 = .ok (.istore_n 1, 1) := by decide +kernel
theorem dX6_init_77 : decode cX6_init 77 = .ok (.iload_n 1, 1) := by decide +kernel
theorem dX6_init_78 : decode cX6_init 78 = .ok (.iconst 4, 1) := by decide +kernel
theorem dX6_init_79 : decode cX6_init 79 = .ok (.if_icmp .ge 22, 3) := by decide +kernel
theorem dX6_init_82 : decode cX6_init 82 = .ok (.aload_n 0, 1) := by decide +kernel
theorem dX6_init_83 : decode cX6_init 83 = .ok (.getfield 38, 3) := by decide +kernel
theorem dX6_init_86 : decode cX6_init 86 = .ok (.iload_n 1, 1) := by decide +kernel
theorem dX6_init_87 : decode cX6_init 87 = .ok (.new 36, 3) := by decide +kernel
theorem dX6_init_90 : decode cX6_init 90 = .ok (.dup, 1) := by decide +kernel
theorem dX6_init_91 : decode cX6_init 91 = .ok (.invokespecial 46, 3) := by decide +kernel
theorem dX6_init_94 : decode cX6_init 94 = .ok (.aastore, 1) := by decide +kernel
theorem dX6_init_95 : decode cX6_init 95 = .ok (.iinc 1 1, 3) := by decide +kernel
theorem dX6_init_98 : decode cX6_init 98 = .ok (.goto (-21), 3) := by decide +kernel
theorem dX6_init_101 : decode cX6_init 101 = .ok (.return_, 1) := by decide +kernel
set_option maxRecDepth 20000 in
theorem ggX6_mix_X6_isMix : GoodIn wsX6_mix wsX6_isMix := goodIn_r _ [7] (by decide +kernel) (by decide +kernel)
set_option maxRecDepth 20000 in
theorem gX6_mix_X6_isMix : GoodIn wsX6_mix (va_wsS RX6 47 yX6_isMix wsX6_isMix) := goodIn_app (goodIn_of _ (by decide +kernel)) ggX6_mix_X6_isMix
set_option maxRecDepth 20000 in
theorem ggX6_mix_X6_finding : GoodIn wsX6_mix wsX6_finding := goodIn_r _ [11, 1, 12, 13, 14, 15, 16, 17, 18, 19, 20] (by decide +kernel) (by decide +kernel)
set_option maxRecDepth 20000 in
theorem gX6_mix_X6_finding : GoodIn wsX6_mix (wsV RX6 52 RX6 yX6_finding wsX6_finding) := goodIn_app (goodIn_of _ (by decide +kernel)) ggX6_mix_X6_finding
theorem dX6_mix_0 : decode cX6_mix 0 = .ok (.iload_n 1, 1) := by decide +kernel
theorem dX6_mix_1 : decode cX6_mix 1 = .ok (.invokestatic 47, 3) := by decide +kernel
theorem dX6_mix_4 : decode cX6_mix 4 = .ok (.ifCond .ne 10, 3) := by decide +kernel
theorem dX6_mix_7 : decode cX6_mix 7 = .ok (.aload_n 0, 1) := by decide +kernel
theorem dX6_mix_8 : decode cX6_mix 8 = .ok (.ldc 51, 2) := by decide +kernel
theorem dX6_mix_10 : decode cX6_mix 10 = .ok (.invokevirtual 52, 3) := by decide +kernel
theorem dX6_mix_13 : decode cX6_mix 13 = .ok (.ireturn, 1) := by decide +kernel
theorem dX6_mix_14 : decode cX6_mix 14 = .ok (.aload_n 0, 1) := by decide +kernel
theorem dX6_mix_15 : decode cX6_mix 15 = .ok (.getfield 10, 3) := by decide +kernel
theorem dX6_mix_18 : decode cX6_mix 18 = .ok (.getfield 56, 3) := by decide +kernel
theorem dX6_mix_21 : decode cX6_mix 21 = .ok (.istore_n 2, 1) := by decide +kernel
theorem dX6_mix_22 : decode cX6_mix 22 = .ok (.aload_n 0, 1) := by decide +kernel
theorem dX6_mix_23 : decode cX6_mix 23 = .ok (.getfield 10, 3) := by decide +kernel
theorem dX6_mix_26 : decode cX6_mix 26 = .ok (.iload_n 1, 1) := by decide +kernel
theorem dX6_mix_27 : decode cX6_mix 27 = .ok (.putfield 56, 3) := by decide +kernel
theorem dX6_mix_30 : decode cX6_mix 30 = .ok (.iload_n 2, 1) := by decide +kernel
theorem dX6_mix_31 : decode cX6_mix 31 = .ok (.ireturn, 1) := by decide +kernel
set_option maxRecDepth 20000 in
theorem ggX6_province_X6_isProvince : GoodIn wsX6_province wsX6_isProvince := goodIn_r _ [7] (by decide +kernel) (by decide +kernel)
set_option maxRecDepth 20000 in
theorem gX6_province_X6_isProvince : GoodIn wsX6_province (va_wsS RX6 60 yX6_isProvince wsX6_isProvince) := goodIn_app (goodIn_of _ (by decide +kernel)) ggX6_province_X6_isProvince
set_option maxRecDepth 20000 in
theorem ggX6_province_X6_isStateOrNobody : GoodIn wsX6_province wsX6_isStateOrNobody := goodIn_r _ [10] (by decide +kernel) (by decide +kernel)
set_option maxRecDepth 20000 in
theorem gX6_province_X6_isStateOrNobody : GoodIn wsX6_province (va_wsS RX6 63 yX6_isStateOrNobody wsX6_isStateOrNobody) := goodIn_app (goodIn_of _ (by decide +kernel)) ggX6_province_X6_isStateOrNobody
set_option maxRecDepth 20000 in
theorem ggX6_province_X6_finding : GoodIn wsX6_province wsX6_finding := goodIn_r _ [14, 1, 15, 16, 17, 18, 19, 20, 21, 22, 23] (by decide +kernel) (by decide +kernel)
set_option maxRecDepth 20000 in
theorem gX6_province_X6_finding : GoodIn wsX6_province (wsV RX6 52 RX6 yX6_finding wsX6_finding) := goodIn_app (goodIn_of _ (by decide +kernel)) ggX6_province_X6_finding
theorem dX6_province_0 : decode cX6_province 0 = .ok (.iload_n 1, 1) := by decide +kernel
theorem dX6_province_1 : decode cX6_province 1 = .ok (.invokestatic 60, 3) := by decide +kernel
theorem dX6_province_4 : decode cX6_province 4 = .ok (.ifCond .eq 10, 3) := by decide +kernel
theorem dX6_province_7 : decode cX6_province 7 = .ok (.iload_n 2, 1) := by decide +kernel
theorem dX6_province_8 : decode cX6_province 8 = .ok (.invokestatic 63, 3) := by decide +kernel
theorem dX6_province_11 : decode cX6_province 11 = .ok (.ifCond .ne 10, 3) := by decide +kernel
theorem dX6_province_14 : decode cX6_province 14 = .ok (.aload_n 0, 1) := by decide +kernel
theorem dX6_province_15 : decode cX6_province 15 = .ok (.ldc 51, 2) := by decide +kernel
theorem dX6_province_17 : decode cX6_province 17 = .ok (.invokevirtual 52, 3) := by decide +kernel
theorem dX6_province_20 : decode cX6_province 20 = .ok (.ireturn, 1) := by decide +kernel
theorem dX6_province_21 : decode cX6_province 21 = .ok (.aload_n 0, 1) := by decide +kernel
theorem dX6_province_22 : decode cX6_province 22 = .ok (.getfield 10, 3) := by decide +kernel
theorem dX6_province_25 : decode cX6_province 25 = .ok (.getfield 66, 3) := by decide +kernel
theorem dX6_province_28 : decode cX6_province 28 = .ok (.iload_n 1, 1) := by decide +kernel
theorem dX6_province_29 : decode cX6_province 29 = .ok (.iaload, 1) := by decide +kernel
theorem dX6_province_30 : decode cX6_province 30 = .ok (.istore_n 3, 1) := by decide +kernel
theorem dX6_province_31 : decode cX6_province 31 = .ok (.aload_n 0, 1) := by decide +kernel
theorem dX6_province_32 : decode cX6_province 32 = .ok (.getfield 10, 3) := by decide +kernel
theorem dX6_province_35 : decode cX6_province 35 = .ok (.getfield 66, 3) := by decide +kernel
theorem dX6_province_38 : decode cX6_province 38 = .ok (.iload_n 1, 1) := by decide +kernel
theorem dX6_province_39 : decode cX6_province 39 = .ok (.iload_n 2, 1) := by decide +kernel
theorem dX6_province_40 : decode cX6_province 40 = .ok (.iastore, 1) := by decide +kernel
theorem dX6_province_41 : decode cX6_province 41 = .ok (.iload_n 3, 1) := by decide +kernel
theorem dX6_province_42 : decode cX6_province 42 = .ok (.ireturn, 1) := by decide +kernel
set_option maxRecDepth 20000 in
theorem ggX6_whose_X6_isProvince : GoodIn wsX6_whose wsX6_isProvince := goodIn_r _ [7] (by decide +kernel) (by decide +kernel)
set_option maxRecDepth 20000 in
theorem gX6_whose_X6_isProvince : GoodIn wsX6_whose (va_wsS RX6 60 yX6_isProvince wsX6_isProvince) := goodIn_app (goodIn_of _ (by decide +kernel)) ggX6_whose_X6_isProvince
set_option maxRecDepth 20000 in
theorem ggX6_whose_X6_finding : GoodIn wsX6_whose wsX6_finding := goodIn_r _ [11, 1, 12, 13, 14, 15, 16, 17, 18, 19, 20] (by decide +kernel) (by decide +kernel)
set_option maxRecDepth 20000 in
theorem gX6_whose_X6_finding : GoodIn wsX6_whose (wsV RX6 52 RX6 yX6_finding wsX6_finding) := goodIn_app (goodIn_of _ (by decide +kernel)) ggX6_whose_X6_finding
theorem dX6_whose_0 : decode cX6_whose 0 = .ok (.iload_n 1, 1) := by decide +kernel
theorem dX6_whose_1 : decode cX6_whose 1 = .ok (.invokestatic 60, 3) := by decide +kernel
theorem dX6_whose_4 : decode cX6_whose 4 = .ok (.ifCond .ne 10, 3) := by decide +kernel
theorem dX6_whose_7 : decode cX6_whose 7 = .ok (.aload_n 0, 1) := by decide +kernel
theorem dX6_whose_8 : decode cX6_whose 8 = .ok (.ldc 51, 2) := by decide +kernel
theorem dX6_whose_10 : decode cX6_whose 10 = .ok (.invokevirtual 52, 3) := by decide +kernel
theorem dX6_whose_13 : decode cX6_whose 13 = .ok (.ireturn, 1) := by decide +kernel
theorem dX6_whose_14 : decode cX6_whose 14 = .ok (.aload_n 0, 1) := by decide +kernel
theorem dX6_whose_15 : decode cX6_whose 15 = .ok (.getfield 10, 3) := by decide +kernel
theorem dX6_whose_18 : decode cX6_whose 18 = .ok (.getfield 66, 3) := by decide +kernel
theorem dX6_whose_21 : decode cX6_whose 21 = .ok (.iload_n 1, 1) := by decide +kernel
theorem dX6_whose_22 : decode cX6_whose 22 = .ok (.iaload, 1) := by decide +kernel
theorem dX6_whose_23 : decode cX6_whose 23 = .ok (.ireturn, 1) := by decide +kernel
set_option maxRecDepth 20000 in
theorem ggX6_treasury_X6_isState : GoodIn wsX6_treasury wsX6_isState := goodIn_r _ [8] (by decide +kernel) (by decide +kernel)
set_option maxRecDepth 20000 in
theorem gX6_treasury_X6_isState : GoodIn wsX6_treasury (va_wsS RX6 69 yX6_isState wsX6_isState) := goodIn_app (goodIn_of _ (by decide +kernel)) ggX6_treasury_X6_isState
set_option maxRecDepth 20000 in
theorem ggX6_treasury_X6_isWithin : GoodIn wsX6_treasury wsX6_isWithin := goodIn_r _ [11] (by decide +kernel) (by decide +kernel)
set_option maxRecDepth 20000 in
theorem gX6_treasury_X6_isWithin : GoodIn wsX6_treasury (va_wsS RX6 73 yX6_isWithin wsX6_isWithin) := goodIn_app (goodIn_of _ (by decide +kernel)) ggX6_treasury_X6_isWithin
set_option maxRecDepth 20000 in
theorem ggX6_treasury_X6_finding : GoodIn wsX6_treasury wsX6_finding := goodIn_r _ [15, 2, 16, 17, 18, 19, 20, 21, 22, 23, 24] (by decide +kernel) (by decide +kernel)
set_option maxRecDepth 20000 in
theorem gX6_treasury_X6_finding : GoodIn wsX6_treasury (wsV RX6 52 RX6 yX6_finding wsX6_finding) := goodIn_app (goodIn_of _ (by decide +kernel)) ggX6_treasury_X6_finding
theorem dX6_treasury_0 : decode cX6_treasury 0 = .ok (.iload_n 1, 1) := by decide +kernel
theorem dX6_treasury_1 : decode cX6_treasury 1 = .ok (.invokestatic 69, 3) := by decide +kernel
theorem dX6_treasury_4 : decode cX6_treasury 4 = .ok (.ifCond .eq 13, 3) := by decide +kernel
theorem dX6_treasury_7 : decode cX6_treasury 7 = .ok (.iload_n 2, 1) := by decide +kernel
theorem dX6_treasury_8 : decode cX6_treasury 8 = .ok (.iconst 0, 1) := by decide +kernel
theorem dX6_treasury_9 : decode cX6_treasury 9 = .ok (.ldc 72, 2) := by decide +kernel
theorem dX6_treasury_11 : decode cX6_treasury 11 = .ok (.invokestatic 73, 3) := by decide +kernel
theorem dX6_treasury_14 : decode cX6_treasury 14 = .ok (.ifCond .ne 10, 3) := by decide +kernel
theorem dX6_treasury_17 : decode cX6_treasury 17 = .ok (.aload_n 0, 1) := by decide +kernel
theorem dX6_treasury_18 : decode cX6_treasury 18 = .ok (.ldc 51, 2) := by decide +kernel
theorem dX6_treasury_20 : decode cX6_treasury 20 = .ok (.invokevirtual 52, 3) := by decide +kernel
theorem dX6_treasury_23 : decode cX6_treasury 23 = .ok (.ireturn, 1) := by decide +kernel
theorem dX6_treasury_24 : decode cX6_treasury 24 = .ok (.aload_n 0, 1) := by decide +kernel
theorem dX6_treasury_25 : decode cX6_treasury 25 = .ok (.getfield 10, 3) := by decide +kernel
theorem dX6_treasury_28 : decode cX6_treasury 28 = .ok (.getfield 77, 3) := by decide +kernel
theorem dX6_treasury_31 : decode cX6_treasury 31 = .ok (.iload_n 1, 1) := by decide +kernel
theorem dX6_treasury_32 : decode cX6_treasury 32 = .ok (.iaload, 1) := by decide +kernel
theorem dX6_treasury_33 : decode cX6_treasury 33 = .ok (.istore_n 3, 1) := by decide +kernel
theorem dX6_treasury_34 : decode cX6_treasury 34 = .ok (.aload_n 0, 1) := by decide +kernel
theorem dX6_treasury_35 : decode cX6_treasury 35 = .ok (.getfield 10, 3) := by decide +kernel
theorem dX6_treasury_38 : decode cX6_treasury 38 = .ok (.getfield 77, 3) := by decide +kernel
theorem dX6_treasury_41 : decode cX6_treasury 41 = .ok (.iload_n 1, 1) := by decide +kernel
theorem dX6_treasury_42 : decode cX6_treasury 42 = .ok (.iload_n 2, 1) := by decide +kernel
theorem dX6_treasury_43 : decode cX6_treasury 43 = .ok (.iastore, 1) := by decide +kernel
theorem dX6_treasury_44 : decode cX6_treasury 44 = .ok (.iload_n 3, 1) := by decide +kernel
theorem dX6_treasury_45 : decode cX6_treasury 45 = .ok (.ireturn, 1) := by decide +kernel
set_option maxRecDepth 20000 in
theorem ggX6_now_X4_trump : GoodIn wsX6_now wsX4_trump := goodIn_r _ [11, 12, 31, 32, 33, 34, 35, 36, 37, 38] (by decide +kernel) (by decide +kernel)
set_option maxRecDepth 20000 in
theorem gX6_now_X4_trump : GoodIn wsX6_now (wsV RX6 83 RX4 yX4_trump wsX4_trump) := goodIn_app (goodIn_of _ (by decide +kernel)) ggX6_now_X4_trump
set_option maxRecDepth 20000 in
theorem ggX6_now_X4_stake : GoodIn wsX6_now wsX4_stake := goodIn_r _ [16, 12, 31, 32, 33, 34, 35, 36, 37, 38] (by decide +kernel) (by decide +kernel)
set_option maxRecDepth 20000 in
theorem gX6_now_X4_stake : GoodIn wsX6_now (wsV RX6 87 RX4 yX4_stake wsX4_stake) := goodIn_app (goodIn_of _ (by decide +kernel)) ggX6_now_X4_stake
set_option maxRecDepth 20000 in
theorem ggX6_now_X6_finding : GoodIn wsX6_now wsX6_finding := goodIn_r _ [21, 6, 22, 23, 24, 25, 26, 27, 28, 29, 30] (by decide +kernel) (by decide +kernel)
set_option maxRecDepth 20000 in
theorem gX6_now_X6_finding : GoodIn wsX6_now (wsV RX6 52 RX6 yX6_finding wsX6_finding) := goodIn_app (goodIn_of _ (by decide +kernel)) ggX6_now_X6_finding
theorem dX6_now_0 : decode cX6_now 0 = .ok (.iload_n 1, 1) := by decide +kernel
theorem dX6_now_1 : decode cX6_now 1 = .ok (.tableswitch 119 0 7 #[47, 55, 63, 71, 79, 89, 99, 109], 47) := by decide +kernel
theorem dX6_now_48 : decode cX6_now 48 = .ok (.aload_n 0, 1) := by decide +kernel
theorem dX6_now_49 : decode cX6_now 49 = .ok (.getfield 10, 3) := by decide +kernel
theorem dX6_now_52 : decode cX6_now 52 = .ok (.getfield 80, 3) := by decide +kernel
theorem dX6_now_55 : decode cX6_now 55 = .ok (.ireturn, 1) := by decide +kernel
theorem dX6_now_56 : decode cX6_now 56 = .ok (.aload_n 0, 1) := by decide +kernel
theorem dX6_now_57 : decode cX6_now 57 = .ok (.getfield 10, 3) := by decide +kernel
theorem dX6_now_60 : decode cX6_now 60 = .ok (.getfield 56, 3) := by decide +kernel
theorem dX6_now_63 : decode cX6_now 63 = .ok (.ireturn, 1) := by decide +kernel
theorem dX6_now_64 : decode cX6_now 64 = .ok (.aload_n 0, 1) := by decide +kernel
theorem dX6_now_65 : decode cX6_now 65 = .ok (.getfield 10, 3) := by decide +kernel
theorem dX6_now_68 : decode cX6_now 68 = .ok (.invokevirtual 83, 3) := by decide +kernel
theorem dX6_now_71 : decode cX6_now 71 = .ok (.ireturn, 1) := by decide +kernel
theorem dX6_now_72 : decode cX6_now 72 = .ok (.aload_n 0, 1) := by decide +kernel
theorem dX6_now_73 : decode cX6_now 73 = .ok (.getfield 10, 3) := by decide +kernel
theorem dX6_now_76 : decode cX6_now 76 = .ok (.invokevirtual 87, 3) := by decide +kernel
theorem dX6_now_79 : decode cX6_now 79 = .ok (.ireturn, 1) := by decide +kernel
theorem dX6_now_80 : decode cX6_now 80 = .ok (.aload_n 0, 1) := by decide +kernel
theorem dX6_now_81 : decode cX6_now 81 = .ok (.getfield 10, 3) := by decide +kernel
theorem dX6_now_84 : decode cX6_now 84 = .ok (.getfield 90, 3) := by decide +kernel
theorem dX6_now_87 : decode cX6_now 87 = .ok (.iconst 0, 1) := by decide +kernel
theorem dX6_now_88 : decode cX6_now 88 = .ok (.iaload, 1) := by decide +kernel
theorem dX6_now_89 : decode cX6_now 89 = .ok (.ireturn, 1) := by decide +kernel
theorem dX6_now_90 : decode cX6_now 90 = .ok (.aload_n 0, 1) := by decide +kernel
theorem dX6_now_91 : decode cX6_now 91 = .ok (.getfield 10, 3) := by decide +kernel
theorem dX6_now_94 : decode cX6_now 94 = .ok (.getfield 90, 3) := by decide +kernel
theorem dX6_now_97 : decode cX6_now 97 = .ok (.iconst 1, 1) := by decide +kernel
theorem dX6_now_98 : decode cX6_now 98 = .ok (.iaload, 1) := by decide +kernel
theorem dX6_now_99 : decode cX6_now 99 = .ok (.ireturn, 1) := by decide +kernel
theorem dX6_now_100 : decode cX6_now 100 = .ok (.aload_n 0, 1) := by decide +kernel
theorem dX6_now_101 : decode cX6_now 101 = .ok (.getfield 10, 3) := by decide +kernel
theorem dX6_now_104 : decode cX6_now 104 = .ok (.getfield 77, 3) := by decide +kernel
theorem dX6_now_107 : decode cX6_now 107 = .ok (.iconst 0, 1) := by decide +kernel
theorem dX6_now_108 : decode cX6_now 108 = .ok (.iaload, 1) := by decide +kernel
theorem dX6_now_109 : decode cX6_now 109 = .ok (.ireturn, 1) := by decide +kernel
theorem dX6_now_110 : decode cX6_now 110 = .ok (.aload_n 0, 1) := by decide +kernel
theorem dX6_now_111 : decode cX6_now 111 = .ok (.getfield 10, 3) := by decide +kernel
theorem dX6_now_114 : decode cX6_now 114 = .ok (.getfield 77, 3) := by decide +kernel
theorem dX6_now_117 : decode cX6_now 117 = .ok (.iconst 1, 1) := by decide +kernel
theorem dX6_now_118 : decode cX6_now 118 = .ok (.iaload, 1) := by decide +kernel
theorem dX6_now_119 : decode cX6_now 119 = .ok (.ireturn, 1) := by decide +kernel
theorem dX6_now_120 : decode cX6_now 120 = .ok (.aload_n 0, 1) := by decide +kernel
theorem dX6_now_121 : decode cX6_now 121 = .ok (.ldc 51, 2) := by decide +kernel
theorem dX6_now_123 : decode cX6_now 123 = .ok (.invokevirtual 52, 3) := by decide +kernel
theorem dX6_now_126 : decode cX6_now 126 = .ok (.ireturn, 1) := by decide +kernel
set_option maxRecDepth 20000 in
theorem ggX6_card_X6_isWithin : GoodIn wsX6_card wsX6_isWithin := goodIn_r _ [7] (by decide +kernel) (by decide +kernel)
set_option maxRecDepth 20000 in
theorem gX6_card_X6_isWithin : GoodIn wsX6_card (va_wsS RX6 73 yX6_isWithin wsX6_isWithin) := goodIn_app (goodIn_of _ (by decide +kernel)) ggX6_card_X6_isWithin
set_option maxRecDepth 20000 in
theorem ggX6_card_X6_finding : GoodIn wsX6_card wsX6_finding := goodIn_r _ [11, 1, 12, 17, 18, 19, 20, 21, 22, 23, 24] (by decide +kernel) (by decide +kernel)
set_option maxRecDepth 20000 in
theorem gX6_card_X6_finding : GoodIn wsX6_card (wsV RX6 52 RX6 yX6_finding wsX6_finding) := goodIn_app (goodIn_of _ (by decide +kernel)) ggX6_card_X6_finding
set_option maxRecDepth 20000 in
theorem ggX6_card_X0_dealt : GoodIn wsX6_card wsX0_dealt := goodIn_r _ [16] (by decide +kernel) (by decide +kernel)
set_option maxRecDepth 20000 in
theorem gX6_card_X0_dealt : GoodIn wsX6_card (va_wsS RX6 93 yX0_dealt wsX0_dealt) := goodIn_app (goodIn_of _ (by decide +kernel)) ggX6_card_X0_dealt
theorem dX6_card_0 : decode cX6_card 0 = .ok (.iload_n 1, 1) := by decide +kernel
theorem dX6_card_1 : decode cX6_card 1 = .ok (.iconst 0, 1) := by decide +kernel
theorem dX6_card_2 : decode cX6_card 2 = .ok (.bipush 7, 2) := by decide +kernel
theorem dX6_card_4 : decode cX6_card 4 = .ok (.invokestatic 73, 3) := by decide +kernel
theorem dX6_card_7 : decode cX6_card 7 = .ok (.ifCond .eq 14, 3) := by decide +kernel
theorem dX6_card_10 : decode cX6_card 10 = .ok (.iload_n 2, 1) := by decide +kernel
theorem dX6_card_11 : decode cX6_card 11 = .ok (.iconst 0, 1) := by decide +kernel
theorem dX6_card_12 : decode cX6_card 12 = .ok (.sipush 9999, 3) := by decide +kernel
theorem dX6_card_15 : decode cX6_card 15 = .ok (.invokestatic 73, 3) := by decide +kernel
theorem dX6_card_18 : decode cX6_card 18 = .ok (.ifCond .ne 10, 3) := by decide +kernel
theorem dX6_card_21 : decode cX6_card 21 = .ok (.aload_n 0, 1) := by decide +kernel
theorem dX6_card_22 : decode cX6_card 22 = .ok (.ldc 51, 2) := by decide +kernel
theorem dX6_card_24 : decode cX6_card 24 = .ok (.invokevirtual 52, 3) := by decide +kernel
theorem dX6_card_27 : decode cX6_card 27 = .ok (.ireturn, 1) := by decide +kernel
theorem dX6_card_28 : decode cX6_card 28 = .ok (.aload_n 0, 1) := by decide +kernel
theorem dX6_card_29 : decode cX6_card 29 = .ok (.getfield 10, 3) := by decide +kernel
theorem dX6_card_32 : decode cX6_card 32 = .ok (.getfield 56, 3) := by decide +kernel
theorem dX6_card_35 : decode cX6_card 35 = .ok (.iload_n 1, 1) := by decide +kernel
theorem dX6_card_36 : decode cX6_card 36 = .ok (.iload_n 2, 1) := by decide +kernel
theorem dX6_card_37 : decode cX6_card 37 = .ok (.invokestatic 93, 3) := by decide +kernel
theorem dX6_card_40 : decode cX6_card 40 = .ok (.ireturn, 1) := by decide +kernel
set_option maxRecDepth 20000 in
theorem ggX6_envoy_X6_isKind : GoodIn wsX6_envoy wsX6_isKind := goodIn_r _ [8] (by decide +kernel) (by decide +kernel)
set_option maxRecDepth 20000 in
theorem gX6_envoy_X6_isKind : GoodIn wsX6_envoy (va_wsS RX6 99 yX6_isKind wsX6_isKind) := goodIn_app (goodIn_of _ (by decide +kernel)) ggX6_envoy_X6_isKind
set_option maxRecDepth 20000 in
theorem ggX6_envoy_X6_finding : GoodIn wsX6_envoy wsX6_finding := goodIn_r _ [12, 1, 13, 22, 23, 24, 25, 26, 27, 28, 29] (by decide +kernel) (by decide +kernel)
set_option maxRecDepth 20000 in
theorem gX6_envoy_X6_finding : GoodIn wsX6_envoy (wsV RX6 52 RX6 yX6_finding wsX6_finding) := goodIn_app (goodIn_of _ (by decide +kernel)) ggX6_envoy_X6_finding
set_option maxRecDepth 20000 in
theorem ggX6_envoy_X4_seat : GoodIn wsX6_envoy wsX4_seat := goodIn_r _ [18, 19, 20, 21, 30, 31, 32, 33, 34, 35, 36, 37] (by decide +kernel) (by decide +kernel)
set_option maxRecDepth 20000 in
theorem gX6_envoy_X4_seat : GoodIn wsX6_envoy (wsV RX6 106 RX4 yX4_seat wsX4_seat) := goodIn_app (goodIn_of _ (by decide +kernel)) ggX6_envoy_X4_seat
theorem dX6_envoy_0 : decode cX6_envoy 0 = .ok (.iload_n 1, 1) := by decide +kernel
theorem dX6_envoy_1 : decode cX6_envoy 1 = .ok (.invokestatic 99, 3) := by decide +kernel
theorem dX6_envoy_4 : decode cX6_envoy 4 = .ok (.ifCond .ne 10, 3) := by decide +kernel
theorem dX6_envoy_7 : decode cX6_envoy 7 = .ok (.aload_n 0, 1) := by decide +kernel
theorem dX6_envoy_8 : decode cX6_envoy 8 = .ok (.ldc 51, 2) := by decide +kernel
theorem dX6_envoy_10 : decode cX6_envoy 10 = .ok (.invokevirtual 52, 3) := by decide +kernel
theorem dX6_envoy_13 : decode cX6_envoy 13 = .ok (.ireturn, 1) := by decide +kernel
theorem dX6_envoy_14 : decode cX6_envoy 14 = .ok (.aload_n 0, 1) := by decide +kernel
theorem dX6_envoy_15 : decode cX6_envoy 15 = .ok (.getfield 10, 3) := by decide +kernel
theorem dX6_envoy_18 : decode cX6_envoy 18 = .ok (.getfield 102, 3) := by decide +kernel
theorem dX6_envoy_21 : decode cX6_envoy 21 = .ok (.bipush 8, 2) := by decide +kernel
theorem dX6_envoy_23 : decode cX6_envoy 23 = .ok (.if_icmp .lt 10, 3) := by decide +kernel
theorem dX6_envoy_26 : decode cX6_envoy 26 = .ok (.aload_n 0, 1) := by decide +kernel
theorem dX6_envoy_27 : decode cX6_envoy 27 = .ok (.ldc 105, 2) := by decide +kernel
theorem dX6_envoy_29 : decode cX6_envoy 29 = .ok (.invokevirtual 52, 3) := by decide +kernel
theorem dX6_envoy_32 : decode cX6_envoy 32 = .ok (.ireturn, 1) := by decide +kernel
theorem dX6_envoy_33 : decode cX6_envoy 33 = .ok (.aload_n 0, 1) := by decide +kernel
theorem dX6_envoy_34 : decode cX6_envoy 34 = .ok (.getfield 10, 3) := by decide +kernel
theorem dX6_envoy_37 : decode cX6_envoy 37 = .ok (.iload_n 1, 1) := by decide +kernel
theorem dX6_envoy_38 : decode cX6_envoy 38 = .ok (.invokevirtual 106, 3) := by decide +kernel
theorem dX6_envoy_41 : decode cX6_envoy 41 = .ok (.ireturn, 1) := by decide +kernel
set_option maxRecDepth 20000 in
theorem ggX6_of_X6_isEnvoy : GoodIn wsX6_of wsX6_isEnvoy := goodIn_r _ [9, 2, 10, 22, 23, 24, 25, 26, 27, 28, 29, 30, 31, 32, 33, 34, 35, 36, 37] (by decide +kernel) (by decide +kernel)
set_option maxRecDepth 20000 in
theorem gX6_of_X6_isEnvoy : GoodIn wsX6_of (wsV RX6 109 RX6 yX6_isEnvoy wsX6_isEnvoy) := goodIn_app (goodIn_of _ (by decide +kernel)) ggX6_of_X6_isEnvoy
set_option maxRecDepth 20000 in
theorem ggX6_of_X6_finding : GoodIn wsX6_of wsX6_finding := goodIn_r _ [14, 1, 15, 22, 23, 24, 25, 26, 27, 28, 29] (by decide +kernel) (by decide +kernel)
set_option maxRecDepth 20000 in
theorem gX6_of_X6_finding : GoodIn wsX6_of (wsV RX6 52 RX6 yX6_finding wsX6_finding) := goodIn_app (goodIn_of _ (by decide +kernel)) ggX6_of_X6_finding
set_option maxRecDepth 20000 in
theorem ggX6_of_X4_senders : GoodIn wsX6_of wsX4_senders := goodIn_r _ [20, 21, 30, 31, 32, 33, 34, 35, 36, 37] (by decide +kernel) (by decide +kernel)
set_option maxRecDepth 20000 in
theorem gX6_of_X4_senders : GoodIn wsX6_of (wsV RX6 118 RX4 yX4_senders wsX4_senders) := goodIn_app (goodIn_of _ (by decide +kernel)) ggX6_of_X4_senders
theorem dX6_of_0 : decode cX6_of 0 = .ok (.aload_n 0, 1) := by decide +kernel
theorem dX6_of_1 : decode cX6_of 1 = .ok (.iload_n 1, 1) := by decide +kernel
theorem dX6_of_2 : decode cX6_of 2 = .ok (.invokevirtual 109, 3) := by decide +kernel
theorem dX6_of_5 : decode cX6_of 5 = .ok (.ifCond .ne 10, 3) := by decide +kernel
theorem dX6_of_8 : decode cX6_of 8 = .ok (.aload_n 0, 1) := by decide +kernel
theorem dX6_of_9 : decode cX6_of 9 = .ok (.ldc 51, 2) := by decide +kernel
theorem dX6_of_11 : decode cX6_of 11 = .ok (.invokevirtual 52, 3) := by decide +kernel
theorem dX6_of_14 : decode cX6_of 14 = .ok (.ireturn, 1) := by decide +kernel
theorem dX6_of_15 : decode cX6_of 15 = .ok (.iload_n 2, 1) := by decide +kernel
theorem dX6_of_16 : decode cX6_of 16 = .ok (.tableswitch 57 0 2 #[28, 38, 48], 28) := by decide +kernel
theorem dX6_of_44 : decode cX6_of 44 = .ok (.aload_n 0, 1) := by decide +kernel
theorem dX6_of_45 : decode cX6_of 45 = .ok (.getfield 10, 3) := by decide +kernel
theorem dX6_of_48 : decode cX6_of 48 = .ok (.getfield 112, 3) := by decide +kernel
theorem dX6_of_51 : decode cX6_of 51 = .ok (.iload_n 1, 1) := by decide +kernel
theorem dX6_of_52 : decode cX6_of 52 = .ok (.iaload, 1) := by decide +kernel
theorem dX6_of_53 : decode cX6_of 53 = .ok (.ireturn, 1) := by decide +kernel
theorem dX6_of_54 : decode cX6_of 54 = .ok (.aload_n 0, 1) := by decide +kernel
theorem dX6_of_55 : decode cX6_of 55 = .ok (.getfield 10, 3) := by decide +kernel
theorem dX6_of_58 : decode cX6_of 58 = .ok (.getfield 115, 3) := by decide +kernel
theorem dX6_of_61 : decode cX6_of 61 = .ok (.iload_n 1, 1) := by decide +kernel
theorem dX6_of_62 : decode cX6_of 62 = .ok (.iaload, 1) := by decide +kernel
theorem dX6_of_63 : decode cX6_of 63 = .ok (.ireturn, 1) := by decide +kernel
theorem dX6_of_64 : decode cX6_of 64 = .ok (.aload_n 0, 1) := by decide +kernel
theorem dX6_of_65 : decode cX6_of 65 = .ok (.getfield 10, 3) := by decide +kernel
theorem dX6_of_68 : decode cX6_of 68 = .ok (.iload_n 1, 1) := by decide +kernel
theorem dX6_of_69 : decode cX6_of 69 = .ok (.invokevirtual 118, 3) := by decide +kernel
theorem dX6_of_72 : decode cX6_of 72 = .ok (.ireturn, 1) := by decide +kernel
theorem dX6_of_73 : decode cX6_of 73 = .ok (.aload_n 0, 1) := by decide +kernel
theorem dX6_of_74 : decode cX6_of 74 = .ok (.ldc 51, 2) := by decide +kernel
theorem dX6_of_76 : decode cX6_of 76 = .ok (.invokevirtual 52, 3) := by decide +kernel
theorem dX6_of_79 : decode cX6_of 79 = .ok (.ireturn, 1) := by decide +kernel
set_option maxRecDepth 20000 in
theorem ggX6_turn_X6_isEnvoy : GoodIn wsX6_turn wsX6_isEnvoy := goodIn_r _ [8, 2, 9, 18, 19, 20, 21, 22, 23, 24, 25, 26, 27, 28, 29, 30, 31, 32, 33] (by decide +kernel) (by decide +kernel)
set_option maxRecDepth 20000 in
theorem gX6_turn_X6_isEnvoy : GoodIn wsX6_turn (wsV RX6 109 RX6 yX6_isEnvoy wsX6_isEnvoy) := goodIn_app (goodIn_of _ (by decide +kernel)) ggX6_turn_X6_isEnvoy
set_option maxRecDepth 20000 in
theorem ggX6_turn_X6_isKind : GoodIn wsX6_turn wsX6_isKind := goodIn_r _ [12] (by decide +kernel) (by decide +kernel)
set_option maxRecDepth 20000 in
theorem gX6_turn_X6_isKind : GoodIn wsX6_turn (va_wsS RX6 99 yX6_isKind wsX6_isKind) := goodIn_app (goodIn_of _ (by decide +kernel)) ggX6_turn_X6_isKind
set_option maxRecDepth 20000 in
theorem ggX6_turn_X6_finding : GoodIn wsX6_turn wsX6_finding := goodIn_r _ [16, 1, 17, 18, 19, 20, 21, 22, 23, 24, 25] (by decide +kernel) (by decide +kernel)
set_option maxRecDepth 20000 in
theorem gX6_turn_X6_finding : GoodIn wsX6_turn (wsV RX6 52 RX6 yX6_finding wsX6_finding) := goodIn_app (goodIn_of _ (by decide +kernel)) ggX6_turn_X6_finding
theorem dX6_turn_0 : decode cX6_turn 0 = .ok (.aload_n 0, 1) := by decide +kernel
theorem dX6_turn_1 : decode cX6_turn 1 = .ok (.iload_n 1, 1) := by decide +kernel
theorem dX6_turn_2 : decode cX6_turn 2 = .ok (.invokevirtual 109, 3) := by decide +kernel
theorem dX6_turn_5 : decode cX6_turn 5 = .ok (.ifCond .eq 10, 3) := by decide +kernel
theorem dX6_turn_8 : decode cX6_turn 8 = .ok (.iload_n 2, 1) := by decide +kernel
theorem dX6_turn_9 : decode cX6_turn 9 = .ok (.invokestatic 99, 3) := by decide +kernel
theorem dX6_turn_12 : decode cX6_turn 12 = .ok (.ifCond .ne 10, 3) := by decide +kernel
theorem dX6_turn_15 : decode cX6_turn 15 = .ok (.aload_n 0, 1) := by decide +kernel
theorem dX6_turn_16 : decode cX6_turn 16 = .ok (.ldc 51, 2) := by decide +kernel
theorem dX6_turn_18 : decode cX6_turn 18 = .ok (.invokevirtual 52, 3) := by decide +kernel
theorem dX6_turn_21 : decode cX6_turn 21 = .ok (.ireturn, 1) := by decide +kernel
theorem dX6_turn_22 : decode cX6_turn 22 = .ok (.aload_n 0, 1) := by decide +kernel
theorem dX6_turn_23 : decode cX6_turn 23 = .ok (.getfield 10, 3) := by decide +kernel
theorem dX6_turn_26 : decode cX6_turn 26 = .ok (.getfield 112, 3) := by decide +kernel
theorem dX6_turn_29 : decode cX6_turn 29 = .ok (.iload_n 1, 1) := by decide +kernel
theorem dX6_turn_30 : decode cX6_turn 30 = .ok (.iaload, 1) := by decide +kernel
theorem dX6_turn_31 : decode cX6_turn 31 = .ok (.istore_n 3, 1) := by decide +kernel
theorem dX6_turn_32 : decode cX6_turn 32 = .ok (.aload_n 0, 1) := by decide +kernel
theorem dX6_turn_33 : decode cX6_turn 33 = .ok (.getfield 10, 3) := by decide +kernel
theorem dX6_turn_36 : decode cX6_turn 36 = .ok (.getfield 112, 3) := by decide +kernel
theorem dX6_turn_39 : decode cX6_turn 39 = .ok (.iload_n 1, 1) := by decide +kernel
theorem dX6_turn_40 : decode cX6_turn 40 = .ok (.iload_n 2, 1) := by decide +kernel
theorem dX6_turn_41 : decode cX6_turn 41 = .ok (.iastore, 1) := by decide +kernel
theorem dX6_turn_42 : decode cX6_turn 42 = .ok (.iload_n 3, 1) := by decide +kernel
theorem dX6_turn_43 : decode cX6_turn 43 = .ok (.ireturn, 1) := by decide +kernel
set_option maxRecDepth 20000 in
theorem ggX6_as_X6_isEnvoy : GoodIn wsX6_as wsX6_isEnvoy := goodIn_r _ [10, 2, 11, 25, 26, 27, 28, 29, 30, 31, 32, 33, 34, 35, 36, 37, 38, 39, 40] (by decide +kernel) (by decide +kernel)
set_option maxRecDepth 20000 in
theorem gX6_as_X6_isEnvoy : GoodIn wsX6_as (wsV RX6 109 RX6 yX6_isEnvoy wsX6_isEnvoy) := goodIn_app (goodIn_of _ (by decide +kernel)) ggX6_as_X6_isEnvoy
set_option maxRecDepth 20000 in
theorem ggX6_as_X6_isKind : GoodIn wsX6_as wsX6_isKind := goodIn_r _ [14] (by decide +kernel) (by decide +kernel)
set_option maxRecDepth 20000 in
theorem gX6_as_X6_isKind : GoodIn wsX6_as (va_wsS RX6 99 yX6_isKind wsX6_isKind) := goodIn_app (goodIn_of _ (by decide +kernel)) ggX6_as_X6_isKind
set_option maxRecDepth 20000 in
theorem ggX6_as_X6_finding : GoodIn wsX6_as wsX6_finding := goodIn_r _ [18, 1, 19, 25, 26, 27, 28, 29, 30, 31, 32] (by decide +kernel) (by decide +kernel)
set_option maxRecDepth 20000 in
theorem gX6_as_X6_finding : GoodIn wsX6_as (wsV RX6 52 RX6 yX6_finding wsX6_finding) := goodIn_app (goodIn_of _ (by decide +kernel)) ggX6_as_X6_finding
set_option maxRecDepth 20000 in
theorem ggX6_as_X2_isUnder : GoodIn wsX6_as wsX2_isUnder := goodIn_r _ [23, 24, 13, 9, 14] (by decide +kernel) (by decide +kernel)
set_option maxRecDepth 20000 in
theorem gX6_as_X2_isUnder : GoodIn wsX6_as (va_wsS RX6 121 yX2_isUnder wsX2_isUnder) := goodIn_app (goodIn_of _ (by decide +kernel)) ggX6_as_X2_isUnder
theorem dX6_as_0 : decode cX6_as 0 = .ok (.aload_n 0, 1) := by decide +kernel
theorem dX6_as_1 : decode cX6_as 1 = .ok (.iload_n 1, 1) := by decide +kernel
theorem dX6_as_2 : decode cX6_as 2 = .ok (.invokevirtual 109, 3) := by decide +kernel
theorem dX6_as_5 : decode cX6_as 5 = .ok (.ifCond .eq 10, 3) := by decide +kernel
theorem dX6_as_8 : decode cX6_as 8 = .ok (.iload_n 2, 1) := by decide +kernel
theorem dX6_as_9 : decode cX6_as 9 = .ok (.invokestatic 99, 3) := by decide +kernel
theorem dX6_as_12 : decode cX6_as 12 = .ok (.ifCond .ne 10, 3) := by decide +kernel
theorem dX6_as_15 : decode cX6_as 15 = .ok (.aload_n 0, 1) := by decide +kernel
theorem dX6_as_16 : decode cX6_as 16 = .ok (.ldc 51, 2) := by decide +kernel
theorem dX6_as_18 : decode cX6_as 18 = .ok (.invokevirtual 52, 3) := by decide +kernel
theorem dX6_as_21 : decode cX6_as 21 = .ok (.ireturn, 1) := by decide +kernel
theorem dX6_as_22 : decode cX6_as 22 = .ok (.aload_n 0, 1) := by decide +kernel
theorem dX6_as_23 : decode cX6_as 23 = .ok (.getfield 10, 3) := by decide +kernel
theorem dX6_as_26 : decode cX6_as 26 = .ok (.getfield 112, 3) := by decide +kernel
theorem dX6_as_29 : decode cX6_as 29 = .ok (.iload_n 1, 1) := by decide +kernel
theorem dX6_as_30 : decode cX6_as 30 = .ok (.iaload, 1) := by decide +kernel
theorem dX6_as_31 : decode cX6_as 31 = .ok (.iload_n 2, 1) := by decide +kernel
theorem dX6_as_32 : decode cX6_as 32 = .ok (.invokestatic 121, 3) := by decide +kernel
theorem dX6_as_35 : decode cX6_as 35 = .ok (.ifCond .ne 10, 3) := by decide +kernel
theorem dX6_as_38 : decode cX6_as 38 = .ok (.aload_n 0, 1) := by decide +kernel
theorem dX6_as_39 : decode cX6_as 39 = .ok (.ldc 127, 2) := by decide +kernel
theorem dX6_as_41 : decode cX6_as 41 = .ok (.invokevirtual 52, 3) := by decide +kernel
theorem dX6_as_44 : decode cX6_as 44 = .ok (.ireturn, 1) := by decide +kernel
theorem dX6_as_45 : decode cX6_as 45 = .ok (.aload_n 0, 1) := by decide +kernel
theorem dX6_as_46 : decode cX6_as 46 = .ok (.getfield 10, 3) := by decide +kernel
theorem dX6_as_49 : decode cX6_as 49 = .ok (.getfield 115, 3) := by decide +kernel
theorem dX6_as_52 : decode cX6_as 52 = .ok (.iload_n 1, 1) := by decide +kernel
theorem dX6_as_53 : decode cX6_as 53 = .ok (.iaload, 1) := by decide +kernel
theorem dX6_as_54 : decode cX6_as 54 = .ok (.ireturn, 1) := by decide +kernel
set_option maxRecDepth 20000 in
theorem ggX6_won_X6_isEnvoy : GoodIn wsX6_won wsX6_isEnvoy := goodIn_r _ [8, 2, 9, 18, 19, 20, 21, 22, 23, 24, 25, 26, 27, 28, 29, 30, 31, 32, 33] (by decide +kernel) (by decide +kernel)
set_option maxRecDepth 20000 in
theorem gX6_won_X6_isEnvoy : GoodIn wsX6_won (wsV RX6 109 RX6 yX6_isEnvoy wsX6_isEnvoy) := goodIn_app (goodIn_of _ (by decide +kernel)) ggX6_won_X6_isEnvoy
set_option maxRecDepth 20000 in
theorem ggX6_won_X6_isWithin : GoodIn wsX6_won wsX6_isWithin := goodIn_r _ [12] (by decide +kernel) (by decide +kernel)
set_option maxRecDepth 20000 in
theorem gX6_won_X6_isWithin : GoodIn wsX6_won (va_wsS RX6 73 yX6_isWithin wsX6_isWithin) := goodIn_app (goodIn_of _ (by decide +kernel)) ggX6_won_X6_isWithin
set_option maxRecDepth 20000 in
theorem ggX6_won_X6_finding : GoodIn wsX6_won wsX6_finding := goodIn_r _ [16, 1, 17, 18, 19, 20, 21, 22, 23, 24, 25] (by decide +kernel) (by decide +kernel)
set_option maxRecDepth 20000 in
theorem gX6_won_X6_finding : GoodIn wsX6_won (wsV RX6 52 RX6 yX6_finding wsX6_finding) := goodIn_app (goodIn_of _ (by decide +kernel)) ggX6_won_X6_finding
theorem dX6_won_0 : decode cX6_won 0 = .ok (.aload_n 0, 1) := by decide +kernel
theorem dX6_won_1 : decode cX6_won 1 = .ok (.iload_n 1, 1) := by decide +kernel
theorem dX6_won_2 : decode cX6_won 2 = .ok (.invokevirtual 109, 3) := by decide +kernel
theorem dX6_won_5 : decode cX6_won 5 = .ok (.ifCond .eq 14, 3) := by decide +kernel
theorem dX6_won_8 : decode cX6_won 8 = .ok (.iload_n 2, 1) := by decide +kernel
theorem dX6_won_9 : decode cX6_won 9 = .ok (.iconst 0, 1) := by decide +kernel
theorem dX6_won_10 : decode cX6_won 10 = .ok (.sipush 9999, 3) := by decide +kernel
theorem dX6_won_13 : decode cX6_won 13 = .ok (.invokestatic 73, 3) := by decide +kernel
theorem dX6_won_16 : decode cX6_won 16 = .ok (.ifCond .ne 10, 3) := by decide +kernel
theorem dX6_won_19 : decode cX6_won 19 = .ok (.aload_n 0, 1) := by decide +kernel
theorem dX6_won_20 : decode cX6_won 20 = .ok (.ldc 51, 2) := by decide +kernel
theorem dX6_won_22 : decode cX6_won 22 = .ok (.invokevirtual 52, 3) := by decide +kernel
theorem dX6_won_25 : decode cX6_won 25 = .ok (.ireturn, 1) := by decide +kernel
theorem dX6_won_26 : decode cX6_won 26 = .ok (.aload_n 0, 1) := by decide +kernel
theorem dX6_won_27 : decode cX6_won 27 = .ok (.getfield 10, 3) := by decide +kernel
theorem dX6_won_30 : decode cX6_won 30 = .ok (.getfield 115, 3) := by decide +kernel
theorem dX6_won_33 : decode cX6_won 33 = .ok (.iload_n 1, 1) := by decide +kernel
theorem dX6_won_34 : decode cX6_won 34 = .ok (.iaload, 1) := by decide +kernel
theorem dX6_won_35 : decode cX6_won 35 = .ok (.istore_n 3, 1) := by decide +kernel
theorem dX6_won_36 : decode cX6_won 36 = .ok (.aload_n 0, 1) := by decide +kernel
theorem dX6_won_37 : decode cX6_won 37 = .ok (.getfield 10, 3) := by decide +kernel
theorem dX6_won_40 : decode cX6_won 40 = .ok (.getfield 115, 3) := by decide +kernel
theorem dX6_won_43 : decode cX6_won 43 = .ok (.iload_n 1, 1) := by decide +kernel
theorem dX6_won_44 : decode cX6_won 44 = .ok (.iload_n 2, 1) := by decide +kernel
theorem dX6_won_45 : decode cX6_won 45 = .ok (.iastore, 1) := by decide +kernel
theorem dX6_won_46 : decode cX6_won 46 = .ok (.iload_n 3, 1) := by decide +kernel
theorem dX6_won_47 : decode cX6_won 47 = .ok (.ireturn, 1) := by decide +kernel
set_option maxRecDepth 20000 in
theorem ggX6_send_X6_isState : GoodIn wsX6_send wsX6_isState := goodIn_r _ [7] (by decide +kernel) (by decide +kernel)
set_option maxRecDepth 20000 in
theorem gX6_send_X6_isState : GoodIn wsX6_send (va_wsS RX6 69 yX6_isState wsX6_isState) := goodIn_app (goodIn_of _ (by decide +kernel)) ggX6_send_X6_isState
set_option maxRecDepth 20000 in
theorem ggX6_send_X6_isEnvoy : GoodIn wsX6_send wsX6_isEnvoy := goodIn_r _ [11, 2, 12, 18, 19, 20, 21, 22, 23, 24, 25, 26, 27, 28, 29, 30, 31, 32, 33] (by decide +kernel) (by decide +kernel)
set_option maxRecDepth 20000 in
theorem gX6_send_X6_isEnvoy : GoodIn wsX6_send (wsV RX6 109 RX6 yX6_isEnvoy wsX6_isEnvoy) := goodIn_app (goodIn_of _ (by decide +kernel)) ggX6_send_X6_isEnvoy
set_option maxRecDepth 20000 in
theorem ggX6_send_X6_finding : GoodIn wsX6_send wsX6_finding := goodIn_r _ [16, 1, 17, 18, 19, 20, 21, 22, 23, 24, 25] (by decide +kernel) (by decide +kernel)
set_option maxRecDepth 20000 in
theorem gX6_send_X6_finding : GoodIn wsX6_send (wsV RX6 52 RX6 yX6_finding wsX6_finding) := goodIn_app (goodIn_of _ (by decide +kernel)) ggX6_send_X6_finding
theorem dX6_send_0 : decode cX6_send 0 = .ok (.iload_n 1, 1) := by decide +kernel
theorem dX6_send_1 : decode cX6_send 1 = .ok (.invokestatic 69, 3) := by decide +kernel
theorem dX6_send_4 : decode cX6_send 4 = .ok (.ifCond .eq 16, 3) := by decide +kernel
theorem dX6_send_7 : decode cX6_send 7 = .ok (.iload_n 2, 1) := by decide +kernel
theorem dX6_send_8 : decode cX6_send 8 = .ok (.iconst (-1), 1) := by decide +kernel
theorem dX6_send_9 : decode cX6_send 9 = .ok (.if_icmp .eq 18, 3) := by decide +kernel
theorem dX6_send_12 : decode cX6_send 12 = .ok (.aload_n 0, 1) := by decide +kernel
theorem dX6_send_13 : decode cX6_send 13 = .ok (.iload_n 2, 1) := by decide +kernel
theorem dX6_send_14 : decode cX6_send 14 = .ok (.invokevirtual 109, 3) := by decide +kernel
theorem dX6_send_17 : decode cX6_send 17 = .ok (.ifCond .ne 10, 3) := by decide +kernel
theorem dX6_send_20 : decode cX6_send 20 = .ok (.aload_n 0, 1) := by decide +kernel
theorem dX6_send_21 : decode cX6_send 21 = .ok (.ldc 51, 2) := by decide +kernel
theorem dX6_send_23 : decode cX6_send 23 = .ok (.invokevirtual 52, 3) := by decide +kernel
theorem dX6_send_26 : decode cX6_send 26 = .ok (.ireturn, 1) := by decide +kernel
theorem dX6_send_27 : decode cX6_send 27 = .ok (.aload_n 0, 1) := by decide +kernel
theorem dX6_send_28 : decode cX6_send 28 = .ok (.getfield 10, 3) := by decide +kernel
theorem dX6_send_31 : decode cX6_send 31 = .ok (.getfield 90, 3) := by decide +kernel
theorem dX6_send_34 : decode cX6_send 34 = .ok (.iload_n 1, 1) := by decide +kernel
theorem dX6_send_35 : decode cX6_send 35 = .ok (.iaload, 1) := by decide +kernel
theorem dX6_send_36 : decode cX6_send 36 = .ok (.istore_n 3, 1) := by decide +kernel
theorem dX6_send_37 : decode cX6_send 37 = .ok (.aload_n 0, 1) := by decide +kernel
theorem dX6_send_38 : decode cX6_send 38 = .ok (.getfield 10, 3) := by decide +kernel
theorem dX6_send_41 : decode cX6_send 41 = .ok (.getfield 90, 3) := by decide +kernel
theorem dX6_send_44 : decode cX6_send 44 = .ok (.iload_n 1, 1) := by decide +kernel
theorem dX6_send_45 : decode cX6_send 45 = .ok (.iload_n 2, 1) := by decide +kernel
theorem dX6_send_46 : decode cX6_send 46 = .ok (.iastore, 1) := by decide +kernel
theorem dX6_send_47 : decode cX6_send 47 = .ok (.iload_n 3, 1) := by decide +kernel
theorem dX6_send_48 : decode cX6_send 48 = .ok (.ireturn, 1) := by decide +kernel
set_option maxRecDepth 20000 in
theorem ggX6_leads_X6_isEnvoy : GoodIn wsX6_leads wsX6_isEnvoy := goodIn_r _ [8, 2, 9, 58, 59, 60, 61, 62, 63, 64, 65, 66, 67, 68, 69, 70, 71, 72, 73] (by decide +kernel) (by decide +kernel)
set_option maxRecDepth 20000 in
theorem gX6_leads_X6_isEnvoy : GoodIn wsX6_leads (wsV RX6 109 RX6 yX6_isEnvoy wsX6_isEnvoy) := goodIn_app (goodIn_of _ (by decide +kernel)) ggX6_leads_X6_isEnvoy
set_option maxRecDepth 20000 in
theorem ggX6_leads_X6_isState : GoodIn wsX6_leads wsX6_isState := goodIn_r _ [12] (by decide +kernel) (by decide +kernel)
set_option maxRecDepth 20000 in
theorem gX6_leads_X6_isState : GoodIn wsX6_leads (va_wsS RX6 69 yX6_isState wsX6_isState) := goodIn_app (goodIn_of _ (by decide +kernel)) ggX6_leads_X6_isState
set_option maxRecDepth 20000 in
theorem ggX6_leads_X6_finding : GoodIn wsX6_leads wsX6_finding := goodIn_r _ [16, 1, 17, 58, 59, 60, 61, 62, 63, 64, 65] (by decide +kernel) (by decide +kernel)
set_option maxRecDepth 20000 in
theorem gX6_leads_X6_finding : GoodIn wsX6_leads (wsV RX6 52 RX6 yX6_finding wsX6_finding) := goodIn_app (goodIn_of _ (by decide +kernel)) ggX6_leads_X6_finding
set_option maxRecDepth 20000 in
theorem ggX6_leads_X4_hand : GoodIn wsX6_leads wsX4_hand := goodIn_r _ [22, 23, 24, 25, 26, 27, 28, 29, 30, 31, 66, 67, 68, 69, 70, 71, 72, 73] (by decide +kernel) (by decide +kernel)
set_option maxRecDepth 20000 in
theorem gX6_leads_X4_hand : GoodIn wsX6_leads (wsV RX6 128 RX4 yX4_hand wsX4_hand) := goodIn_app (goodIn_of _ (by decide +kernel)) ggX6_leads_X4_hand
set_option maxRecDepth 20000 in
theorem ggX6_leads_X4_trump : GoodIn wsX6_leads wsX4_trump := goodIn_r _ [35, 24, 66, 67, 68, 69, 70, 71, 72, 73] (by decide +kernel) (by decide +kernel)
set_option maxRecDepth 20000 in
theorem gX6_leads_X4_trump : GoodIn wsX6_leads (wsV RX6 83 RX4 yX4_trump wsX4_trump) := goodIn_app (goodIn_of _ (by decide +kernel)) ggX6_leads_X4_trump
set_option maxRecDepth 20000 in
theorem ggX6_leads_X2_lead : GoodIn wsX6_leads wsX2_lead := goodIn_r _ [39, 40, 41, 27, 42, 43, 44, 45, 46, 47, 48, 49, 50, 51, 52, 53, 54, 55, 56, 57] (by decide +kernel) (by decide +kernel)
set_option maxRecDepth 20000 in
theorem gX6_leads_X2_lead : GoodIn wsX6_leads (va_wsS RX6 131 yX2_lead wsX2_lead) := goodIn_app (goodIn_of _ (by decide +kernel)) ggX6_leads_X2_lead
theorem dX6_leads_0 : decode cX6_leads 0 = .ok (.aload_n 0, 1) := by decide +kernel
theorem dX6_leads_1 : decode cX6_leads 1 = .ok (.iload_n 1, 1) := by decide +kernel
theorem dX6_leads_2 : decode cX6_leads 2 = .ok (.invokevirtual 109, 3) := by decide +kernel
theorem dX6_leads_5 : decode cX6_leads 5 = .ok (.ifCond .eq 10, 3) := by decide +kernel
theorem dX6_leads_8 : decode cX6_leads 8 = .ok (.iload_n 2, 1) := by decide +kernel
theorem dX6_leads_9 : decode cX6_leads 9 = .ok (.invokestatic 69, 3) := by decide +kernel
theorem dX6_leads_12 : decode cX6_leads 12 = .ok (.ifCond .ne 10, 3) := by decide +kernel
theorem dX6_leads_15 : decode cX6_leads 15 = .ok (.aload_n 0, 1) := by decide +kernel
theorem dX6_leads_16 : decode cX6_leads 16 = .ok (.ldc 51, 2) := by decide +kernel
theorem dX6_leads_18 : decode cX6_leads 18 = .ok (.invokevirtual 52, 3) := by decide +kernel
theorem dX6_leads_21 : decode cX6_leads 21 = .ok (.ireturn, 1) := by decide +kernel
theorem dX6_leads_22 : decode cX6_leads 22 = .ok (.aload_n 0, 1) := by decide +kernel
theorem dX6_leads_23 : decode cX6_leads 23 = .ok (.getfield 10, 3) := by decide +kernel
theorem dX6_leads_26 : decode cX6_leads 26 = .ok (.getfield 112, 3) := by decide +kernel
theorem dX6_leads_29 : decode cX6_leads 29 = .ok (.iload_n 1, 1) := by decide +kernel
theorem dX6_leads_30 : decode cX6_leads 30 = .ok (.iaload, 1) := by decide +kernel
theorem dX6_leads_31 : decode cX6_leads 31 = .ok (.aload_n 0, 1) := by decide +kernel
theorem dX6_leads_32 : decode cX6_leads 32 = .ok (.getfield 10, 3) := by decide +kernel
theorem dX6_leads_35 : decode cX6_leads 35 = .ok (.iload_n 2, 1) := by decide +kernel
theorem dX6_leads_36 : decode cX6_leads 36 = .ok (.invokevirtual 128, 3) := by decide +kernel
theorem dX6_leads_39 : decode cX6_leads 39 = .ok (.aload_n 0, 1) := by decide +kernel
theorem dX6_leads_40 : decode cX6_leads 40 = .ok (.getfield 10, 3) := by decide +kernel
theorem dX6_leads_43 : decode cX6_leads 43 = .ok (.invokevirtual 83, 3) := by decide +kernel
theorem dX6_leads_46 : decode cX6_leads 46 = .ok (.invokestatic 131, 3) := by decide +kernel
theorem dX6_leads_49 : decode cX6_leads 49 = .ok (.ireturn, 1) := by decide +kernel
set_option maxRecDepth 20000 in
theorem ggX6_follows_X6_isEnvoy : GoodIn wsX6_follows wsX6_isEnvoy := goodIn_r _ [9, 2, 10, 78, 79, 80, 81, 82, 83, 84, 85, 86, 87, 88, 89, 90, 91, 92, 93] (by decide +kernel) (by decide +kernel)
set_option maxRecDepth 20000 in
theorem gX6_follows_X6_isEnvoy : GoodIn wsX6_follows (wsV RX6 109 RX6 yX6_isEnvoy wsX6_isEnvoy) := goodIn_app (goodIn_of _ (by decide +kernel)) ggX6_follows_X6_isEnvoy
set_option maxRecDepth 20000 in
theorem ggX6_follows_X6_isState : GoodIn wsX6_follows wsX6_isState := goodIn_r _ [13] (by decide +kernel) (by decide +kernel)
set_option maxRecDepth 20000 in
theorem gX6_follows_X6_isState : GoodIn wsX6_follows (va_wsS RX6 69 yX6_isState wsX6_isState) := goodIn_app (goodIn_of _ (by decide +kernel)) ggX6_follows_X6_isState
set_option maxRecDepth 20000 in
theorem ggX6_follows_X6_isWithin : GoodIn wsX6_follows wsX6_isWithin := goodIn_r _ [16] (by decide +kernel) (by decide +kernel)
set_option maxRecDepth 20000 in
theorem gX6_follows_X6_isWithin : GoodIn wsX6_follows (va_wsS RX6 73 yX6_isWithin wsX6_isWithin) := goodIn_app (goodIn_of _ (by decide +kernel)) ggX6_follows_X6_isWithin
set_option maxRecDepth 20000 in
theorem ggX6_follows_X6_finding : GoodIn wsX6_follows wsX6_finding := goodIn_r _ [20, 1, 21, 78, 79, 80, 81, 82, 83, 84, 85] (by decide +kernel) (by decide +kernel)
set_option maxRecDepth 20000 in
theorem gX6_follows_X6_finding : GoodIn wsX6_follows (wsV RX6 52 RX6 yX6_finding wsX6_finding) := goodIn_app (goodIn_of _ (by decide +kernel)) ggX6_follows_X6_finding
set_option maxRecDepth 20000 in
theorem ggX6_follows_X4_hand : GoodIn wsX6_follows wsX4_hand := goodIn_r _ [26, 27, 28, 29, 30, 31, 32, 33, 34, 35, 86, 87, 88, 89, 90, 91, 92, 93] (by decide +kernel) (by decide +kernel)
set_option maxRecDepth 20000 in
theorem gX6_follows_X4_hand : GoodIn wsX6_follows (wsV RX6 128 RX4 yX4_hand wsX4_hand) := goodIn_app (goodIn_of _ (by decide +kernel)) ggX6_follows_X4_hand
set_option maxRecDepth 20000 in
theorem ggX6_follows_X2_mayPlay : GoodIn wsX6_follows wsX2_mayPlay := goodIn_r _ [39, 40, 41, 31, 42, 43, 44, 45, 46, 47, 38, 48, 49, 50, 8, 51] (by decide +kernel) (by decide +kernel)
set_option maxRecDepth 20000 in
theorem gX6_follows_X2_mayPlay : GoodIn wsX6_follows (va_wsS RX6 134 yX2_mayPlay wsX2_mayPlay) := goodIn_app (goodIn_of _ (by decide +kernel)) ggX6_follows_X2_mayPlay
set_option maxRecDepth 20000 in
theorem ggX6_follows_X4_trump : GoodIn wsX6_follows wsX4_trump := goodIn_r _ [55, 28, 86, 87, 88, 89, 90, 91, 92, 93] (by decide +kernel) (by decide +kernel)
set_option maxRecDepth 20000 in
theorem gX6_follows_X4_trump : GoodIn wsX6_follows (wsV RX6 83 RX4 yX4_trump wsX4_trump) := goodIn_app (goodIn_of _ (by decide +kernel)) ggX6_follows_X4_trump
set_option maxRecDepth 20000 in
theorem ggX6_follows_X2_follow : GoodIn wsX6_follows wsX2_follow := goodIn_r _ [58, 59, 60, 31, 61, 62, 41, 42, 63, 44, 45, 64, 65, 66, 67, 68, 69, 70, 71, 72, 73, 74, 75, 76, 77, 40] (by decide +kernel) (by decide +kernel)
set_option maxRecDepth 20000 in
theorem gX6_follows_X2_follow : GoodIn wsX6_follows (va_wsS RX6 138 yX2_follow wsX2_follow) := goodIn_app (goodIn_of _ (by decide +kernel)) ggX6_follows_X2_follow
theorem dX6_follows_0 : decode cX6_follows 0 = .ok (.aload_n 0, 1) := by decide +kernel
theorem dX6_follows_1 : decode cX6_follows 1 = .ok (.iload_n 1, 1) := by decide +kernel
theorem dX6_follows_2 : decode cX6_follows 2 = .ok (.invokevirtual 109, 3) := by decide +kernel
theorem dX6_follows_5 : decode cX6_follows 5 = .ok (.ifCond .eq 20, 3) := by decide +kernel
theorem dX6_follows_8 : decode cX6_follows 8 = .ok (.iload_n 2, 1) := by decide +kernel
theorem dX6_follows_9 : decode cX6_follows 9 = .ok (.invokestatic 69, 3) := by decide +kernel
theorem dX6_follows_12 : decode cX6_follows 12 = .ok (.ifCond .eq 13, 3) := by decide +kernel
theorem dX6_follows_15 : decode cX6_follows 15 = .ok (.iload_n 3, 1) := by decide +kernel
theorem dX6_follows_16 : decode cX6_follows 16 = .ok (.iconst 0, 1) := by decide +kernel
theorem dX6_follows_17 : decode cX6_follows 17 = .ok (.bipush 31, 2) := by decide +kernel
theorem dX6_follows_19 : decode cX6_follows 19 = .ok (.invokestatic 73, 3) := by decide +kernel
theorem dX6_follows_22 : decode cX6_follows 22 = .ok (.ifCond .ne 10, 3) := by decide +kernel
theorem dX6_follows_25 : decode cX6_follows 25 = .ok (.aload_n 0, 1) := by decide +kernel
theorem dX6_follows_26 : decode cX6_follows 26 = .ok (.ldc 51, 2) := by decide +kernel
theorem dX6_follows_28 : decode cX6_follows 28 = .ok (.invokevirtual 52, 3) := by decide +kernel
theorem dX6_follows_31 : decode cX6_follows 31 = .ok (.ireturn, 1) := by decide +kernel
theorem dX6_follows_32 : decode cX6_follows 32 = .ok (.aload_n 0, 1) := by decide +kernel
theorem dX6_follows_33 : decode cX6_follows 33 = .ok (.getfield 10, 3) := by decide +kernel
theorem dX6_follows_36 : decode cX6_follows 36 = .ok (.getfield 112, 3) := by decide +kernel
theorem dX6_follows_39 : decode cX6_follows 39 = .ok (.iload_n 1, 1) := by decide +kernel
theorem dX6_follows_40 : decode cX6_follows 40 = .ok (.iaload, 1) := by decide +kernel
theorem dX6_follows_41 : decode cX6_follows 41 = .ok (.istore 4, 2) := by decide +kernel
theorem dX6_follows_43 : decode cX6_follows 43 = .ok (.iload 4, 2) := by decide +kernel
theorem dX6_follows_45 : decode cX6_follows 45 = .ok (.aload_n 0, 1) := by decide +kernel
theorem dX6_follows_46 : decode cX6_follows 46 = .ok (.getfield 10, 3) := by decide +kernel
theorem dX6_follows_49 : decode cX6_follows 49 = .ok (.iload_n 2, 1) := by decide +kernel
theorem dX6_follows_50 : decode cX6_follows 50 = .ok (.invokevirtual 128, 3) := by decide +kernel
theorem dX6_follows_53 : decode cX6_follows 53 = .ok (.iload_n 3, 1) := by decide +kernel
theorem dX6_follows_54 : decode cX6_follows 54 = .ok (.aload_n 0, 1) := by decide +kernel
theorem dX6_follows_55 : decode cX6_follows 55 = .ok (.getfield 10, 3) := by decide +kernel
theorem dX6_follows_58 : decode cX6_follows 58 = .ok (.getfield 80, 3) := by decide +kernel
theorem dX6_follows_61 : decode cX6_follows 61 = .ok (.invokestatic 134, 3) := by decide +kernel
theorem dX6_follows_64 : decode cX6_follows 64 = .ok (.istore 5, 2) := by decide +kernel
theorem dX6_follows_66 : decode cX6_follows 66 = .ok (.iload 4, 2) := by decide +kernel
theorem dX6_follows_68 : decode cX6_follows 68 = .ok (.iload 5, 2) := by decide +kernel
theorem dX6_follows_70 : decode cX6_follows 70 = .ok (.iload_n 3, 1) := by decide +kernel
theorem dX6_follows_71 : decode cX6_follows 71 = .ok (.aload_n 0, 1) := by decide +kernel
theorem dX6_follows_72 : decode cX6_follows 72 = .ok (.getfield 10, 3) := by decide +kernel
theorem dX6_follows_75 : decode cX6_follows 75 = .ok (.invokevirtual 83, 3) := by decide +kernel
theorem dX6_follows_78 : decode cX6_follows 78 = .ok (.invokestatic 138, 3) := by decide +kernel
theorem dX6_follows_81 : decode cX6_follows 81 = .ok (.ireturn, 1) := by decide +kernel
set_option maxRecDepth 20000 in
theorem ggX6_trick_X6_isWithin : GoodIn wsX6_trick wsX6_isWithin := goodIn_r _ [12] (by decide +kernel) (by decide +kernel)
set_option maxRecDepth 20000 in
theorem gX6_trick_X6_isWithin : GoodIn wsX6_trick (va_wsS RX6 73 yX6_isWithin wsX6_isWithin) := goodIn_app (goodIn_of _ (by decide +kernel)) ggX6_trick_X6_isWithin
set_option maxRecDepth 20000 in
theorem ggX6_trick_X6_finding : GoodIn wsX6_trick wsX6_finding := goodIn_r _ [16, 1, 17, 101, 102, 103, 104, 105, 106, 107, 108] (by decide +kernel) (by decide +kernel)
set_option maxRecDepth 20000 in
theorem gX6_trick_X6_finding : GoodIn wsX6_trick (wsV RX6 52 RX6 yX6_finding wsX6_finding) := goodIn_app (goodIn_of _ (by decide +kernel)) ggX6_trick_X6_finding
set_option maxRecDepth 20000 in
theorem ggX6_trick_X4_bothSent : GoodIn wsX6_trick wsX4_bothSent := goodIn_r _ [22, 23, 114, 115, 116, 117, 118, 119, 120, 121] (by decide +kernel) (by decide +kernel)
set_option maxRecDepth 20000 in
theorem gX6_trick_X4_bothSent : GoodIn wsX6_trick (wsV RX6 141 RX4 yX4_bothSent wsX4_bothSent) := goodIn_app (goodIn_of _ (by decide +kernel)) ggX6_trick_X4_bothSent
set_option maxRecDepth 20000 in
theorem ggX6_trick_X1_play : GoodIn wsX6_trick wsX1_play := goodIn_r _ [28, 29, 30, 31, 32, 33, 34, 21, 35, 36, 37, 38, 39, 40, 41, 42, 43, 44, 45, 46, 47, 27, 48, 49, 50, 51, 52, 53, 54, 55, 56, 57, 58, 59, 60, 61, 62, 63, 64, 65, 66, 67, 68, 69, 70, 71, 72, 73, 74, 75, 76, 77, 78, 79, 80, 81, 82, 83, 84, 85, 86, 87, 88, 89, 90, 11, 91, 92, 93, 94, 95, 96, 97, 98, 99, 100, 109, 110, 111, 112, 113, 114, 115, 116, 117, 118, 119, 120, 121] (by decide +kernel) (by decide +kernel)
set_option maxRecDepth 20000 in
theorem gX6_trick_X1_play : GoodIn wsX6_trick (wsV RX6 146 RX1 yX1_play wsX1_play) := goodIn_app (goodIn_of _ (by decide +kernel)) ggX6_trick_X1_play
theorem dX6_trick_0 : decode cX6_trick 0 = .ok (.iload_n 1, 1) := by decide +kernel
theorem dX6_trick_1 : decode cX6_trick 1 = .ok (.iconst 0, 1) := by decide +kernel
theorem dX6_trick_2 : decode cX6_trick 2 = .ok (.iconst 3, 1) := by decide +kernel
theorem dX6_trick_3 : decode cX6_trick 3 = .ok (.invokestatic 73, 3) := by decide +kernel
theorem dX6_trick_6 : decode cX6_trick 6 = .ok (.ifCond .eq 12, 3) := by decide +kernel
theorem dX6_trick_9 : decode cX6_trick 9 = .ok (.iload_n 2, 1) := by decide +kernel
theorem dX6_trick_10 : decode cX6_trick 10 = .ok (.iconst 0, 1) := by decide +kernel
theorem dX6_trick_11 : decode cX6_trick 11 = .ok (.iconst 3, 1) := by decide +kernel
theorem dX6_trick_12 : decode cX6_trick 12 = .ok (.invokestatic 73, 3) := by decide +kernel
theorem dX6_trick_15 : decode cX6_trick 15 = .ok (.ifCond .ne 10, 3) := by decide +kernel
theorem dX6_trick_18 : decode cX6_trick 18 = .ok (.aload_n 0, 1) := by decide +kernel
theorem dX6_trick_19 : decode cX6_trick 19 = .ok (.ldc 51, 2) := by decide +kernel
theorem dX6_trick_21 : decode cX6_trick 21 = .ok (.invokevirtual 52, 3) := by decide +kernel
theorem dX6_trick_24 : decode cX6_trick 24 = .ok (.ireturn, 1) := by decide +kernel
theorem dX6_trick_25 : decode cX6_trick 25 = .ok (.aload_n 0, 1) := by decide +kernel
theorem dX6_trick_26 : decode cX6_trick 26 = .ok (.getfield 10, 3) := by decide +kernel
theorem dX6_trick_29 : decode cX6_trick 29 = .ok (.invokevirtual 141, 3) := by decide +kernel
theorem dX6_trick_32 : decode cX6_trick 32 = .ok (.ifCond .ne 10, 3) := by decide +kernel
theorem dX6_trick_35 : decode cX6_trick 35 = .ok (.aload_n 0, 1) := by decide +kernel
theorem dX6_trick_36 : decode cX6_trick 36 = .ok (.ldc 145, 2) := by decide +kernel
theorem dX6_trick_38 : decode cX6_trick 38 = .ok (.invokevirtual 52, 3) := by decide +kernel
theorem dX6_trick_41 : decode cX6_trick 41 = .ok (.ireturn, 1) := by decide +kernel
theorem dX6_trick_42 : decode cX6_trick 42 = .ok (.aload_n 0, 1) := by decide +kernel
theorem dX6_trick_43 : decode cX6_trick 43 = .ok (.getfield 25, 3) := by decide +kernel
theorem dX6_trick_46 : decode cX6_trick 46 = .ok (.aload_n 0, 1) := by decide +kernel
theorem dX6_trick_47 : decode cX6_trick 47 = .ok (.getfield 10, 3) := by decide +kernel
theorem dX6_trick_50 : decode cX6_trick 50 = .ok (.invokevirtual 146, 3) := by decide +kernel
theorem dX6_trick_53 : decode cX6_trick 53 = .ok (.iload_n 2, 1) := by decide +kernel
theorem dX6_trick_54 : decode cX6_trick 54 = .ok (.tableswitch 56 0 2 #[26, 36, 46], 26) := by decide +kernel
theorem dX6_trick_80 : decode cX6_trick 80 = .ok (.aload_n 0, 1) := by decide +kernel
theorem dX6_trick_81 : decode cX6_trick 81 = .ok (.getfield 25, 3) := by decide +kernel
theorem dX6_trick_84 : decode cX6_trick 84 = .ok (.getfield 150, 3) := by decide +kernel
theorem dX6_trick_87 : decode cX6_trick 87 = .ok (.iload_n 1, 1) := by decide +kernel
theorem dX6_trick_88 : decode cX6_trick 88 = .ok (.iaload, 1) := by decide +kernel
theorem dX6_trick_89 : decode cX6_trick 89 = .ok (.ireturn, 1) := by decide +kernel
theorem dX6_trick_90 : decode cX6_trick 90 = .ok (.aload_n 0, 1) := by decide +kernel
theorem dX6_trick_91 : decode cX6_trick 91 = .ok (.getfield 25, 3) := by decide +kernel
theorem dX6_trick_94 : decode cX6_trick 94 = .ok (.getfield 153, 3) := by decide +kernel
theorem dX6_trick_97 : decode cX6_trick 97 = .ok (.iload_n 1, 1) := by decide +kernel
theorem dX6_trick_98 : decode cX6_trick 98 = .ok (.iaload, 1) := by decide +kernel
theorem dX6_trick_99 : decode cX6_trick 99 = .ok (.ireturn, 1) := by decide +kernel
theorem dX6_trick_100 : decode cX6_trick 100 = .ok (.aload_n 0, 1) := by decide +kernel
theorem dX6_trick_101 : decode cX6_trick 101 = .ok (.getfield 25, 3) := by decide +kernel
theorem dX6_trick_104 : decode cX6_trick 104 = .ok (.getfield 156, 3) := by decide +kernel
theorem dX6_trick_107 : decode cX6_trick 107 = .ok (.iload_n 1, 1) := by decide +kernel
theorem dX6_trick_108 : decode cX6_trick 108 = .ok (.iaload, 1) := by decide +kernel
theorem dX6_trick_109 : decode cX6_trick 109 = .ok (.ireturn, 1) := by decide +kernel
theorem dX6_trick_110 : decode cX6_trick 110 = .ok (.aload_n 0, 1) := by decide +kernel
theorem dX6_trick_111 : decode cX6_trick 111 = .ok (.getfield 25, 3) := by decide +kernel
theorem dX6_trick_114 : decode cX6_trick 114 = .ok (.getfield 159, 3) := by decide +kernel
theorem dX6_trick_117 : decode cX6_trick 117 = .ok (.iload_n 1, 1) := by decide +kernel
theorem dX6_trick_118 : decode cX6_trick 118 = .ok (.iaload, 1) := by decide +kernel
theorem dX6_trick_119 : decode cX6_trick 119 = .ok (.ireturn, 1) := by decide +kernel
set_option maxRecDepth 20000 in
theorem ggX6_tricks_X4_bothSent : GoodIn wsX6_tricks wsX4_bothSent := goodIn_r _ [8, 9, 106, 107, 108, 109, 110, 111, 112, 113] (by decide +kernel) (by decide +kernel)
set_option maxRecDepth 20000 in
theorem gX6_tricks_X4_bothSent : GoodIn wsX6_tricks (wsV RX6 141 RX4 yX4_bothSent wsX4_bothSent) := goodIn_app (goodIn_of _ (by decide +kernel)) ggX6_tricks_X4_bothSent
set_option maxRecDepth 20000 in
theorem ggX6_tricks_X6_finding : GoodIn wsX6_tricks wsX6_finding := goodIn_r _ [14, 15, 16, 98, 99, 100, 101, 102, 103, 104, 105] (by decide +kernel) (by decide +kernel)
set_option maxRecDepth 20000 in
theorem gX6_tricks_X6_finding : GoodIn wsX6_tricks (wsV RX6 52 RX6 yX6_finding wsX6_finding) := goodIn_app (goodIn_of _ (by decide +kernel)) ggX6_tricks_X6_finding
set_option maxRecDepth 20000 in
theorem ggX6_tricks_X1_play : GoodIn wsX6_tricks wsX1_play := goodIn_r _ [21, 22, 23, 24, 25, 26, 27, 7, 28, 29, 30, 31, 32, 33, 34, 35, 36, 37, 38, 39, 40, 20, 41, 42, 43, 44, 45, 46, 47, 48, 49, 50, 51, 52, 53, 54, 55, 56, 57, 58, 59, 60, 61, 62, 63, 64, 65, 66, 67, 68, 69, 70, 71, 72, 73, 74, 75, 76, 77, 78, 79, 80, 81, 82, 83, 13, 84, 85, 86, 87, 88, 89, 90, 91, 92, 93, 114, 115, 116, 117, 118, 106, 107, 108, 109, 110, 111, 112, 113] (by decide +kernel) (by decide +kernel)
set_option maxRecDepth 20000 in
theorem gX6_tricks_X1_play : GoodIn wsX6_tricks (wsV RX6 146 RX1 yX1_play wsX1_play) := goodIn_app (goodIn_of _ (by decide +kernel)) ggX6_tricks_X1_play
set_option maxRecDepth 20000 in
theorem ggX6_tricks_X1_tricksOfFirst : GoodIn wsX6_tricks wsX1_tricksOfFirst := goodIn_r _ [97, 24, 114, 115, 116, 117, 118] (by decide +kernel) (by decide +kernel)
set_option maxRecDepth 20000 in
theorem gX6_tricks_X1_tricksOfFirst : GoodIn wsX6_tricks (wsV RX6 162 RX1 yX1_tricksOfFirst wsX1_tricksOfFirst) := goodIn_app (goodIn_of _ (by decide +kernel)) ggX6_tricks_X1_tricksOfFirst
theorem dX6_tricks_0 : decode cX6_tricks 0 = .ok (.aload_n 0, 1) := by decide +kernel
theorem dX6_tricks_1 : decode cX6_tricks 1 = .ok (.getfield 10, 3) := by decide +kernel
theorem dX6_tricks_4 : decode cX6_tricks 4 = .ok (.invokevirtual 141, 3) := by decide +kernel
theorem dX6_tricks_7 : decode cX6_tricks 7 = .ok (.ifCond .ne 10, 3) := by decide +kernel
theorem dX6_tricks_10 : decode cX6_tricks 10 = .ok (.aload_n 0, 1) := by decide +kernel
theorem dX6_tricks_11 : decode cX6_tricks 11 = .ok (.ldc 145, 2) := by decide +kernel
theorem dX6_tricks_13 : decode cX6_tricks 13 = .ok (.invokevirtual 52, 3) := by decide +kernel
theorem dX6_tricks_16 : decode cX6_tricks 16 = .ok (.ireturn, 1) := by decide +kernel
theorem dX6_tricks_17 : decode cX6_tricks 17 = .ok (.aload_n 0, 1) := by decide +kernel
theorem dX6_tricks_18 : decode cX6_tricks 18 = .ok (.getfield 25, 3) := by decide +kernel
theorem dX6_tricks_21 : decode cX6_tricks 21 = .ok (.aload_n 0, 1) := by decide +kernel
theorem dX6_tricks_22 : decode cX6_tricks 22 = .ok (.getfield 10, 3) := by decide +kernel
theorem dX6_tricks_25 : decode cX6_tricks 25 = .ok (.invokevirtual 146, 3) := by decide +kernel
theorem dX6_tricks_28 : decode cX6_tricks 28 = .ok (.aload_n 0, 1) := by decide +kernel
theorem dX6_tricks_29 : decode cX6_tricks 29 = .ok (.getfield 25, 3) := by decide +kernel
theorem dX6_tricks_32 : decode cX6_tricks 32 = .ok (.invokevirtual 162, 3) := by decide +kernel
theorem dX6_tricks_35 : decode cX6_tricks 35 = .ok (.ireturn, 1) := by decide +kernel
set_option maxRecDepth 20000 in
theorem ggX6_months_X6_isWithin : GoodIn wsX6_months wsX6_isWithin := goodIn_r _ [9] (by decide +kernel) (by decide +kernel)
set_option maxRecDepth 20000 in
theorem gX6_months_X6_isWithin : GoodIn wsX6_months (va_wsS RX6 73 yX6_isWithin wsX6_isWithin) := goodIn_app (goodIn_of _ (by decide +kernel)) ggX6_months_X6_isWithin
set_option maxRecDepth 20000 in
theorem ggX6_months_X6_finding : GoodIn wsX6_months wsX6_finding := goodIn_r _ [13, 1, 14, 144, 145, 146, 147, 148, 149, 150, 151] (by decide +kernel) (by decide +kernel)
set_option maxRecDepth 20000 in
theorem gX6_months_X6_finding : GoodIn wsX6_months (wsV RX6 52 RX6 yX6_finding wsX6_finding) := goodIn_app (goodIn_of _ (by decide +kernel)) ggX6_months_X6_finding
set_option maxRecDepth 20000 in
theorem ggX6_months_X4_passMonths : GoodIn wsX6_months wsX4_passMonths := goodIn_r _ [19, 20, 21, 22, 18, 23, 24, 25, 26, 27, 28, 29, 30, 31, 32, 33, 34, 35, 36, 37, 38, 39, 40, 41, 42, 43, 44, 45, 46, 47, 48, 49, 50, 51, 52, 53, 54, 55, 56, 57, 58, 59, 60, 61, 62, 63, 64, 65, 66, 67, 68, 69, 70, 71, 72, 73, 74, 75, 76, 77, 78, 79, 80, 81, 82, 83, 84, 85, 86, 87, 88, 89, 90, 91, 8, 92, 93, 94, 95, 96, 97, 98, 99, 100, 101, 102, 103, 104, 105, 106, 107, 108, 109, 110, 111, 112, 113, 114, 115, 116, 117, 118, 119, 120, 121, 122, 123, 124, 125, 126, 127, 128, 129, 130, 131, 132, 133, 134, 135, 136, 137, 138, 139, 140, 141, 142, 152, 153, 154, 155, 156, 157, 158, 159, 160, 161, 162, 163, 164] (by decide +kernel) (by decide +kernel)
set_option maxRecDepth 20000 in
theorem gX6_months_X4_passMonths : GoodIn wsX6_months (wsV RX6 165 RX4 yX4_passMonths wsX4_passMonths) := goodIn_app (goodIn_of _ (by decide +kernel)) ggX6_months_X4_passMonths
set_option maxRecDepth 20000 in
theorem ggX6_months_X4_owned : GoodIn wsX6_months wsX4_owned := goodIn_r _ [133, 134, 135, 136, 18, 137, 123, 138, 71, 72, 73, 74, 75, 76, 152, 153, 154, 155, 156, 157, 158, 159] (by decide +kernel) (by decide +kernel)
set_option maxRecDepth 20000 in
theorem gX6_months_X4_owned : GoodIn wsX6_months (wsV RX6 169 RX4 yX4_owned wsX4_owned) := goodIn_app (goodIn_of _ (by decide +kernel)) ggX6_months_X4_owned
theorem dX6_months_0 : decode cX6_months 0 = .ok (.iload_n 1, 1) := by decide +kernel
theorem dX6_months_1 : decode cX6_months 1 = .ok (.iconst 1, 1) := by decide +kernel
theorem dX6_months_2 : decode cX6_months 2 = .ok (.bipush 60, 2) := by decide +kernel
theorem dX6_months_4 : decode cX6_months 4 = .ok (.invokestatic 73, 3) := by decide +kernel
theorem dX6_months_7 : decode cX6_months 7 = .ok (.ifCond .ne 10, 3) := by decide +kernel
theorem dX6_months_10 : decode cX6_months 10 = .ok (.aload_n 0, 1) := by decide +kernel
theorem dX6_months_11 : decode cX6_months 11 = .ok (.ldc 51, 2) := by decide +kernel
theorem dX6_months_13 : decode cX6_months 13 = .ok (.invokevirtual 52, 3) := by decide +kernel
theorem dX6_months_16 : decode cX6_months 16 = .ok (.ireturn, 1) := by decide +kernel
theorem dX6_months_17 : decode cX6_months 17 = .ok (.aload_n 0, 1) := by decide +kernel
theorem dX6_months_18 : decode cX6_months 18 = .ok (.getfield 10, 3) := by decide +kernel
theorem dX6_months_21 : decode cX6_months 21 = .ok (.getfield 80, 3) := by decide +kernel
theorem dX6_months_24 : decode cX6_months 24 = .ok (.iload_n 1, 1) := by decide +kernel
theorem dX6_months_25 : decode cX6_months 25 = .ok (.iadd, 1) := by decide +kernel
theorem dX6_months_26 : decode cX6_months 26 = .ok (.sipush 9999, 3) := by decide +kernel
theorem dX6_months_29 : decode cX6_months 29 = .ok (.if_icmp .le 10, 3) := by decide +kernel
theorem dX6_months_32 : decode cX6_months 32 = .ok (.aload_n 0, 1) := by decide +kernel
theorem dX6_months_33 : decode cX6_months 33 = .ok (.ldc 145, 2) := by decide +kernel
theorem dX6_months_35 : decode cX6_months 35 = .ok (.invokevirtual 52, 3) := by decide +kernel
theorem dX6_months_38 : decode cX6_months 38 = .ok (.ireturn, 1) := by decide +kernel
theorem dX6_months_39 : decode cX6_months 39 = .ok (.aload_n 0, 1) := by decide +kernel
theorem dX6_months_40 : decode cX6_months 40 = .ok (.getfield 10, 3) := by decide +kernel
theorem dX6_months_43 : decode cX6_months 43 = .ok (.iload_n 1, 1) := by decide +kernel
theorem dX6_months_44 : decode cX6_months 44 = .ok (.aload_n 0, 1) := by decide +kernel
theorem dX6_months_45 : decode cX6_months 45 = .ok (.getfield 25, 3) := by decide +kernel
theorem dX6_months_48 : decode cX6_months 48 = .ok (.invokevirtual 165, 3) := by decide +kernel
theorem dX6_months_51 : decode cX6_months 51 = .ok (.aload_n 0, 1) := by decide +kernel
theorem dX6_months_52 : decode cX6_months 52 = .ok (.getfield 10, 3) := by decide +kernel
theorem dX6_months_55 : decode cX6_months 55 = .ok (.iconst (-1), 1) := by decide +kernel
theorem dX6_months_56 : decode cX6_months 56 = .ok (.invokevirtual 169, 3) := by decide +kernel
theorem dX6_months_59 : decode cX6_months 59 = .ok (.ireturn, 1) := by decide +kernel
set_option maxRecDepth 20000 in
theorem ggX6_on_X6_isProvince : GoodIn wsX6_on wsX6_isProvince := goodIn_r _ [7] (by decide +kernel) (by decide +kernel)
set_option maxRecDepth 20000 in
theorem gX6_on_X6_isProvince : GoodIn wsX6_on (va_wsS RX6 60 yX6_isProvince wsX6_isProvince) := goodIn_app (goodIn_of _ (by decide +kernel)) ggX6_on_X6_isProvince
set_option maxRecDepth 20000 in
theorem ggX6_on_X6_isWithin : GoodIn wsX6_on wsX6_isWithin := goodIn_r _ [10] (by decide +kernel) (by decide +kernel)
set_option maxRecDepth 20000 in
theorem gX6_on_X6_isWithin : GoodIn wsX6_on (va_wsS RX6 73 yX6_isWithin wsX6_isWithin) := goodIn_app (goodIn_of _ (by decide +kernel)) ggX6_on_X6_isWithin
set_option maxRecDepth 20000 in
theorem ggX6_on_X6_finding : GoodIn wsX6_on wsX6_finding := goodIn_r _ [14, 1, 15, 160, 161, 162, 163, 164, 165, 166, 167] (by decide +kernel) (by decide +kernel)
set_option maxRecDepth 20000 in
theorem gX6_on_X6_finding : GoodIn wsX6_on (wsV RX6 52 RX6 yX6_finding wsX6_finding) := goodIn_app (goodIn_of _ (by decide +kernel)) ggX6_on_X6_finding
set_option maxRecDepth 20000 in
theorem ggX6_on_X6_lookAhead : GoodIn wsX6_on wsX6_lookAhead := goodIn_r _ [19, 2, 20, 21, 22, 23, 24, 25, 26, 27, 28, 29, 30, 31, 32, 33, 34, 35, 36, 37, 38, 39, 40, 41, 42, 43, 44, 45, 46, 47, 48, 49, 50, 51, 52, 53, 54, 55, 56, 57, 58, 59, 60, 61, 62, 63, 64, 65, 66, 67, 68, 69, 70, 71, 72, 73, 74, 75, 76, 77, 78, 79, 80, 81, 82, 83, 84, 85, 86, 87, 88, 89, 90, 91, 92, 93, 94, 95, 96, 97, 98, 99, 100, 101, 102, 103, 104, 105, 106, 107, 108, 109, 110, 111, 6, 112, 113, 114, 115, 116, 117, 118, 119, 120, 121, 122, 123, 124, 125, 126, 127, 128, 129, 130, 131, 132, 133, 134, 135, 136, 137, 138, 139, 140, 141, 142, 143, 144, 145, 146, 147, 148, 149, 150, 151, 152, 153, 154, 155, 156, 157, 158, 159, 160, 161, 162, 163, 164, 165, 166, 167, 168, 169, 170, 171, 172, 173, 174, 175, 176, 177, 178, 179, 180] (by decide +kernel) (by decide +kernel)
set_option maxRecDepth 20000 in
theorem gX6_on_X6_lookAhead : GoodIn wsX6_on (wsV RX6 172 RX6 yX6_lookAhead wsX6_lookAhead) := goodIn_app (goodIn_of _ (by decide +kernel)) ggX6_on_X6_lookAhead
theorem dX6_on_0 : decode cX6_on 0 = .ok (.iload_n 1, 1) := by decide +kernel
theorem dX6_on_1 : decode cX6_on 1 = .ok (.invokestatic 60, 3) := by decide +kernel
theorem dX6_on_4 : decode cX6_on 4 = .ok (.ifCond .eq 13, 3) := by decide +kernel
theorem dX6_on_7 : decode cX6_on 7 = .ok (.iload_n 2, 1) := by decide +kernel
theorem dX6_on_8 : decode cX6_on 8 = .ok (.iconst 0, 1) := by decide +kernel
theorem dX6_on_9 : decode cX6_on 9 = .ok (.bipush 100, 2) := by decide +kernel
theorem dX6_on_11 : decode cX6_on 11 = .ok (.invokestatic 73, 3) := by decide +kernel
theorem dX6_on_14 : decode cX6_on 14 = .ok (.ifCond .ne 10, 3) := by decide +kernel
theorem dX6_on_17 : decode cX6_on 17 = .ok (.aload_n 0, 1) := by decide +kernel
theorem dX6_on_18 : decode cX6_on 18 = .ok (.ldc 51, 2) := by decide +kernel
theorem dX6_on_20 : decode cX6_on 20 = .ok (.invokevirtual 52, 3) := by decide +kernel
theorem dX6_on_23 : decode cX6_on 23 = .ok (.ireturn, 1) := by decide +kernel
theorem dX6_on_24 : decode cX6_on 24 = .ok (.aload_n 0, 1) := by decide +kernel
theorem dX6_on_25 : decode cX6_on 25 = .ok (.iload_n 2, 1) := by decide +kernel
theorem dX6_on_26 : decode cX6_on 26 = .ok (.invokevirtual 172, 3) := by decide +kernel
theorem dX6_on_29 : decode cX6_on 29 = .ok (.aload_n 0, 1) := by decide +kernel
theorem dX6_on_30 : decode cX6_on 30 = .ok (.getfield 19, 3) := by decide +kernel
theorem dX6_on_33 : decode cX6_on 33 = .ok (.getfield 66, 3) := by decide +kernel
theorem dX6_on_36 : decode cX6_on 36 = .ok (.iload_n 1, 1) := by decide +kernel
theorem dX6_on_37 : decode cX6_on 37 = .ok (.iaload, 1) := by decide +kernel
theorem dX6_on_38 : decode cX6_on 38 = .ok (.ireturn, 1) := by decide +kernel
set_option maxRecDepth 20000 in
theorem ggX6_then_X6_isState : GoodIn wsX6_then wsX6_isState := goodIn_r _ [7] (by decide +kernel) (by decide +kernel)
set_option maxRecDepth 20000 in
theorem gX6_then_X6_isState : GoodIn wsX6_then (va_wsS RX6 69 yX6_isState wsX6_isState) := goodIn_app (goodIn_of _ (by decide +kernel)) ggX6_then_X6_isState
set_option maxRecDepth 20000 in
theorem ggX6_then_X6_isWithin : GoodIn wsX6_then wsX6_isWithin := goodIn_r _ [10] (by decide +kernel) (by decide +kernel)
set_option maxRecDepth 20000 in
theorem gX6_then_X6_isWithin : GoodIn wsX6_then (va_wsS RX6 73 yX6_isWithin wsX6_isWithin) := goodIn_app (goodIn_of _ (by decide +kernel)) ggX6_then_X6_isWithin
set_option maxRecDepth 20000 in
theorem ggX6_then_X6_finding : GoodIn wsX6_then wsX6_finding := goodIn_r _ [14, 1, 15, 161, 162, 163, 164, 165, 166, 167, 168] (by decide +kernel) (by decide +kernel)
set_option maxRecDepth 20000 in
theorem gX6_then_X6_finding : GoodIn wsX6_then (wsV RX6 52 RX6 yX6_finding wsX6_finding) := goodIn_app (goodIn_of _ (by decide +kernel)) ggX6_then_X6_finding
set_option maxRecDepth 20000 in
theorem ggX6_then_X6_lookAhead : GoodIn wsX6_then wsX6_lookAhead := goodIn_r _ [19, 2, 20, 21, 22, 23, 24, 25, 26, 27, 28, 29, 30, 31, 32, 33, 34, 35, 36, 37, 38, 39, 40, 41, 42, 43, 44, 45, 46, 47, 48, 49, 50, 51, 52, 53, 54, 55, 56, 57, 58, 59, 60, 61, 62, 63, 64, 65, 66, 67, 68, 69, 70, 71, 72, 73, 74, 75, 76, 77, 78, 79, 80, 81, 82, 83, 84, 85, 86, 87, 88, 89, 90, 91, 92, 93, 94, 95, 96, 97, 98, 99, 100, 101, 102, 103, 104, 105, 106, 107, 108, 109, 110, 111, 6, 112, 113, 114, 115, 116, 117, 118, 119, 120, 121, 122, 123, 124, 125, 126, 127, 128, 129, 130, 131, 132, 133, 134, 135, 136, 137, 138, 139, 140, 141, 142, 143, 144, 145, 146, 147, 148, 149, 150, 151, 152, 153, 154, 155, 156, 157, 158, 159, 161, 162, 163, 164, 165, 166, 167, 168, 169, 170, 171, 172, 173, 174, 175, 176, 177, 178, 179, 180, 181] (by decide +kernel) (by decide +kernel)
set_option maxRecDepth 20000 in
theorem gX6_then_X6_lookAhead : GoodIn wsX6_then (wsV RX6 172 RX6 yX6_lookAhead wsX6_lookAhead) := goodIn_app (goodIn_of _ (by decide +kernel)) ggX6_then_X6_lookAhead
set_option maxRecDepth 20000 in
theorem ggX6_then_X4_ownedSet : GoodIn wsX6_then wsX4_ownedSet := goodIn_r _ [154, 30, 169, 170, 171, 172, 173, 174, 175, 176] (by decide +kernel) (by decide +kernel)
set_option maxRecDepth 20000 in
theorem gX6_then_X4_ownedSet : GoodIn wsX6_then (wsV RX6 176 RX4 yX4_ownedSet wsX4_ownedSet) := goodIn_app (goodIn_of _ (by decide +kernel)) ggX6_then_X4_ownedSet
theorem dX6_then_0 : decode cX6_then 0 = .ok (.iload_n 1, 1) := by decide +kernel
theorem dX6_then_1 : decode cX6_then 1 = .ok (.invokestatic 69, 3) := by decide +kernel
theorem dX6_then_4 : decode cX6_then 4 = .ok (.ifCond .eq 22, 3) := by decide +kernel
theorem dX6_then_7 : decode cX6_then 7 = .ok (.iload_n 2, 1) := by decide +kernel
theorem dX6_then_8 : decode cX6_then 8 = .ok (.iconst 0, 1) := by decide +kernel
theorem dX6_then_9 : decode cX6_then 9 = .ok (.bipush 100, 2) := by decide +kernel
theorem dX6_then_11 : decode cX6_then 11 = .ok (.invokestatic 73, 3) := by decide +kernel
theorem dX6_then_14 : decode cX6_then 14 = .ok (.ifCond .eq 12, 3) := by decide +kernel
theorem dX6_then_17 : decode cX6_then 17 = .ok (.iload_n 3, 1) := by decide +kernel
theorem dX6_then_18 : decode cX6_then 18 = .ok (.iconst 0, 1) := by decide +kernel
theorem dX6_then_19 : decode cX6_then 19 = .ok (.iconst 1, 1) := by decide +kernel
theorem dX6_then_20 : decode cX6_then 20 = .ok (.invokestatic 73, 3) := by decide +kernel
theorem dX6_then_23 : decode cX6_then 23 = .ok (.ifCond .ne 10, 3) := by decide +kernel
theorem dX6_then_26 : decode cX6_then 26 = .ok (.aload_n 0, 1) := by decide +kernel
theorem dX6_then_27 : decode cX6_then 27 = .ok (.ldc 51, 2) := by decide +kernel
theorem dX6_then_29 : decode cX6_then 29 = .ok (.invokevirtual 52, 3) := by decide +kernel
theorem dX6_then_32 : decode cX6_then 32 = .ok (.ireturn, 1) := by decide +kernel
theorem dX6_then_33 : decode cX6_then 33 = .ok (.aload_n 0, 1) := by decide +kernel
theorem dX6_then_34 : decode cX6_then 34 = .ok (.iload_n 2, 1) := by decide +kernel
theorem dX6_then_35 : decode cX6_then 35 = .ok (.invokevirtual 172, 3) := by decide +kernel
theorem dX6_then_38 : decode cX6_then 38 = .ok (.iload_n 3, 1) := by decide +kernel
theorem dX6_then_39 : decode cX6_then 39 = .ok (.ifCond .ne 14, 3) := by decide +kernel
theorem dX6_then_42 : decode cX6_then 42 = .ok (.aload_n 0, 1) := by decide +kernel
theorem dX6_then_43 : decode cX6_then 43 = .ok (.getfield 19, 3) := by decide +kernel
theorem dX6_then_46 : decode cX6_then 46 = .ok (.iload_n 1, 1) := by decide +kernel
theorem dX6_then_47 : decode cX6_then 47 = .ok (.invokevirtual 176, 3) := by decide +kernel
theorem dX6_then_50 : decode cX6_then 50 = .ok (.goto 12, 3) := by decide +kernel
theorem dX6_then_53 : decode cX6_then 53 = .ok (.aload_n 0, 1) := by decide +kernel
theorem dX6_then_54 : decode cX6_then 54 = .ok (.getfield 19, 3) := by decide +kernel
theorem dX6_then_57 : decode cX6_then 57 = .ok (.getfield 77, 3) := by decide +kernel
theorem dX6_then_60 : decode cX6_then 60 = .ok (.iload_n 1, 1) := by decide +kernel
theorem dX6_then_61 : decode cX6_then 61 = .ok (.iaload, 1) := by decide +kernel
theorem dX6_then_62 : decode cX6_then 62 = .ok (.ireturn, 1) := by decide +kernel
set_option maxRecDepth 20000 in
theorem ggX6_when_X6_isProvince : GoodIn wsX6_when wsX6_isProvince := goodIn_r _ [10] (by decide +kernel) (by decide +kernel)
set_option maxRecDepth 20000 in
theorem gX6_when_X6_isProvince : GoodIn wsX6_when (va_wsS RX6 60 yX6_isProvince wsX6_isProvince) := goodIn_app (goodIn_of _ (by decide +kernel)) ggX6_when_X6_isProvince
set_option maxRecDepth 20000 in
theorem ggX6_when_X6_isStateOrNobody : GoodIn wsX6_when wsX6_isStateOrNobody := goodIn_r _ [13] (by decide +kernel) (by decide +kernel)
set_option maxRecDepth 20000 in
theorem gX6_when_X6_isStateOrNobody : GoodIn wsX6_when (va_wsS RX6 63 yX6_isStateOrNobody wsX6_isStateOrNobody) := goodIn_app (goodIn_of _ (by decide +kernel)) ggX6_when_X6_isStateOrNobody
set_option maxRecDepth 20000 in
theorem ggX6_when_X6_finding : GoodIn wsX6_when wsX6_finding := goodIn_r _ [17, 1, 18, 157, 158, 159, 160, 161, 162, 163, 164] (by decide +kernel) (by decide +kernel)
set_option maxRecDepth 20000 in
theorem gX6_when_X6_finding : GoodIn wsX6_when (wsV RX6 52 RX6 yX6_finding wsX6_finding) := goodIn_app (goodIn_of _ (by decide +kernel)) ggX6_when_X6_finding
set_option maxRecDepth 20000 in
theorem ggX6_when_X4_become : GoodIn wsX6_when wsX4_become := goodIn_r _ [23, 24, 25, 26, 27, 28, 29, 30, 31, 32, 33, 34, 35, 165, 166, 167, 168, 169, 170, 171, 172] (by decide +kernel) (by decide +kernel)
set_option maxRecDepth 20000 in
theorem gX6_when_X4_become : GoodIn wsX6_when (wsV RX6 179 RX4 yX4_become wsX4_become) := goodIn_app (goodIn_of _ (by decide +kernel)) ggX6_when_X4_become
set_option maxRecDepth 20000 in
theorem ggX6_when_X4_passMonths : GoodIn wsX6_when wsX4_passMonths := goodIn_r _ [39, 40, 41, 42, 22, 43, 33, 44, 45, 46, 47, 48, 49, 50, 51, 52, 53, 54, 55, 25, 24, 56, 57, 58, 59, 60, 61, 62, 63, 64, 65, 66, 67, 68, 69, 70, 71, 72, 73, 74, 75, 76, 77, 78, 79, 80, 81, 82, 83, 84, 85, 86, 87, 88, 89, 90, 91, 92, 93, 94, 95, 96, 97, 98, 99, 100, 101, 102, 103, 104, 105, 106, 107, 108, 9, 109, 110, 111, 112, 113, 114, 115, 116, 117, 118, 119, 120, 121, 122, 123, 124, 125, 126, 127, 128, 129, 130, 35, 131, 132, 133, 134, 135, 136, 137, 138, 27, 32, 139, 140, 141, 142, 143, 144, 145, 146, 147, 148, 149, 150, 151, 152, 153, 154, 155, 156, 165, 166, 167, 168, 169, 170, 171, 172, 173, 174, 175, 176, 177] (by decide +kernel) (by decide +kernel)
set_option maxRecDepth 20000 in
theorem gX6_when_X4_passMonths : GoodIn wsX6_when (wsV RX6 165 RX4 yX4_passMonths wsX4_passMonths) := goodIn_app (goodIn_of _ (by decide +kernel)) ggX6_when_X4_passMonths
theorem dX6_when_0 : decode cX6_when 0 = .ok (.iload_n 1, 1) := by decide +kernel
theorem dX6_when_1 : decode cX6_when 1 = .ok (.invokestatic 60, 3) := by decide +kernel
theorem dX6_when_4 : decode cX6_when 4 = .ok (.ifCond .eq 10, 3) := by decide +kernel
theorem dX6_when_7 : decode cX6_when 7 = .ok (.iload_n 2, 1) := by decide +kernel
theorem dX6_when_8 : decode cX6_when 8 = .ok (.invokestatic 63, 3) := by decide +kernel
theorem dX6_when_11 : decode cX6_when 11 = .ok (.ifCond .ne 10, 3) := by decide +kernel
theorem dX6_when_14 : decode cX6_when 14 = .ok (.aload_n 0, 1) := by decide +kernel
theorem dX6_when_15 : decode cX6_when 15 = .ok (.ldc 51, 2) := by decide +kernel
theorem dX6_when_17 : decode cX6_when 17 = .ok (.invokevirtual 52, 3) := by decide +kernel
theorem dX6_when_20 : decode cX6_when 20 = .ok (.ireturn, 1) := by decide +kernel
theorem dX6_when_21 : decode cX6_when 21 = .ok (.aload_n 0, 1) := by decide +kernel
theorem dX6_when_22 : decode cX6_when 22 = .ok (.getfield 19, 3) := by decide +kernel
theorem dX6_when_25 : decode cX6_when 25 = .ok (.aload_n 0, 1) := by decide +kernel
theorem dX6_when_26 : decode cX6_when 26 = .ok (.getfield 10, 3) := by decide +kernel
theorem dX6_when_29 : decode cX6_when 29 = .ok (.invokevirtual 179, 3) := by decide +kernel
theorem dX6_when_32 : decode cX6_when 32 = .ok (.iconst 0, 1) := by decide +kernel
theorem dX6_when_33 : decode cX6_when 33 = .ok (.istore_n 3, 1) := by decide +kernel
theorem dX6_when_34 : decode cX6_when 34 = .ok (.iload_n 3, 1) := by decide +kernel
theorem dX6_when_35 : decode cX6_when 35 = .ok (.bipush 100, 2) := by decide +kernel
theorem dX6_when_37 : decode cX6_when 37 = .ok (.if_icmp .gt 36, 3) := by decide +kernel
theorem dX6_when_40 : decode cX6_when 40 = .ok (.aload_n 0, 1) := by decide +kernel
theorem dX6_when_41 : decode cX6_when 41 = .ok (.getfield 19, 3) := by decide +kernel
theorem dX6_when_44 : decode cX6_when 44 = .ok (.getfield 66, 3) := by decide +kernel
theorem dX6_when_47 : decode cX6_when 47 = .ok (.iload_n 1, 1) := by decide +kernel
theorem dX6_when_48 : decode cX6_when 48 = .ok (.iaload, 1) := by decide +kernel
theorem dX6_when_49 : decode cX6_when 49 = .ok (.iload_n 2, 1) := by decide +kernel
theorem dX6_when_50 : decode cX6_when 50 = .ok (.if_icmp .ne 5, 3) := by decide +kernel
theorem dX6_when_53 : decode cX6_when 53 = .ok (.iload_n 3, 1) := by decide +kernel
theorem dX6_when_54 : decode cX6_when 54 = .ok (.ireturn, 1) := by decide +kernel
theorem dX6_when_55 : decode cX6_when 55 = .ok (.aload_n 0, 1) := by decide +kernel
theorem dX6_when_56 : decode cX6_when 56 = .ok (.getfield 19, 3) := by decide +kernel
theorem dX6_when_59 : decode cX6_when 59 = .ok (.iconst 1, 1) := by decide +kernel
theorem dX6_when_60 : decode cX6_when 60 = .ok (.aload_n 0, 1) := by decide +kernel
theorem dX6_when_61 : decode cX6_when 61 = .ok (.getfield 25, 3) := by decide +kernel
theorem dX6_when_64 : decode cX6_when 64 = .ok (.invokevirtual 165, 3) := by decide +kernel
theorem dX6_when_67 : decode cX6_when 67 = .ok (.iinc 3 1, 3) := by decide +kernel
theorem dX6_when_70 : decode cX6_when 70 = .ok (.goto (-36), 3) := by decide +kernel
theorem dX6_when_73 : decode cX6_when 73 = .ok (.aload_n 0, 1) := by decide +kernel
theorem dX6_when_74 : decode cX6_when 74 = .ok (.ldc 182, 2) := by decide +kernel
theorem dX6_when_76 : decode cX6_when 76 = .ok (.invokevirtual 52, 3) := by decide +kernel
theorem dX6_when_79 : decode cX6_when 79 = .ok (.ireturn, 1) := by decide +kernel
set_option maxRecDepth 20000 in
theorem ggX6_all_X6_isState : GoodIn wsX6_all wsX6_isState := goodIn_r _ [9] (by decide +kernel) (by decide +kernel)
set_option maxRecDepth 20000 in
theorem gX6_all_X6_isState : GoodIn wsX6_all (va_wsS RX6 69 yX6_isState wsX6_isState) := goodIn_app (goodIn_of _ (by decide +kernel)) ggX6_all_X6_isState
set_option maxRecDepth 20000 in
theorem ggX6_all_X6_finding : GoodIn wsX6_all wsX6_finding := goodIn_r _ [13, 1, 14, 154, 155, 156, 157, 158, 159, 160, 161] (by decide +kernel) (by decide +kernel)
set_option maxRecDepth 20000 in
theorem gX6_all_X6_finding : GoodIn wsX6_all (wsV RX6 52 RX6 yX6_finding wsX6_finding) := goodIn_app (goodIn_of _ (by decide +kernel)) ggX6_all_X6_finding
set_option maxRecDepth 20000 in
theorem ggX6_all_X4_become : GoodIn wsX6_all wsX4_become := goodIn_r _ [19, 20, 21, 22, 23, 24, 25, 26, 27, 28, 29, 30, 31, 162, 163, 164, 165, 166, 167, 168, 169] (by decide +kernel) (by decide +kernel)
set_option maxRecDepth 20000 in
theorem gX6_all_X4_become : GoodIn wsX6_all (wsV RX6 179 RX4 yX4_become wsX4_become) := goodIn_app (goodIn_of _ (by decide +kernel)) ggX6_all_X4_become
set_option maxRecDepth 20000 in
theorem ggX6_all_X4_owned : GoodIn wsX6_all wsX4_owned := goodIn_r _ [35, 36, 37, 38, 18, 39, 23, 40, 41, 42, 43, 44, 45, 46, 162, 163, 164, 165, 166, 167, 168, 169] (by decide +kernel) (by decide +kernel)
set_option maxRecDepth 20000 in
theorem gX6_all_X4_owned : GoodIn wsX6_all (wsV RX6 169 RX4 yX4_owned wsX4_owned) := goodIn_app (goodIn_of _ (by decide +kernel)) ggX6_all_X4_owned
set_option maxRecDepth 20000 in
theorem ggX6_all_X4_passMonths : GoodIn wsX6_all wsX4_passMonths := goodIn_r _ [50, 51, 52, 53, 18, 54, 29, 55, 56, 57, 58, 59, 60, 61, 62, 63, 64, 65, 66, 21, 20, 67, 68, 69, 70, 71, 72, 73, 74, 75, 76, 77, 78, 79, 80, 81, 82, 83, 84, 85, 86, 87, 88, 89, 90, 91, 92, 93, 94, 95, 96, 97, 98, 41, 42, 43, 44, 45, 46, 99, 100, 101, 102, 103, 104, 105, 106, 107, 108, 109, 110, 111, 112, 113, 8, 114, 115, 116, 117, 118, 119, 120, 121, 122, 123, 124, 125, 126, 127, 128, 129, 130, 131, 132, 133, 134, 135, 31, 136, 137, 138, 139, 140, 141, 142, 143, 23, 28, 144, 145, 146, 147, 148, 149, 33, 34, 35, 36, 37, 38, 39, 40, 150, 151, 152, 153, 162, 163, 164, 165, 166, 167, 168, 169, 170, 171, 172, 173, 174] (by decide +kernel) (by decide +kernel)
set_option maxRecDepth 20000 in
theorem gX6_all_X4_passMonths : GoodIn wsX6_all (wsV RX6 165 RX4 yX4_passMonths wsX4_passMonths) := goodIn_app (goodIn_of _ (by decide +kernel)) ggX6_all_X4_passMonths
theorem dX6_all_0 : decode cX6_all 0 = .ok (.iload_n 1, 1) := by decide +kernel
theorem dX6_all_1 : decode cX6_all 1 = .ok (.invokestatic 69, 3) := by decide +kernel
theorem dX6_all_4 : decode cX6_all 4 = .ok (.ifCond .ne 10, 3) := by decide +kernel
theorem dX6_all_7 : decode cX6_all 7 = .ok (.aload_n 0, 1) := by decide +kernel
theorem dX6_all_8 : decode cX6_all 8 = .ok (.ldc 51, 2) := by decide +kernel
theorem dX6_all_10 : decode cX6_all 10 = .ok (.invokevirtual 52, 3) := by decide +kernel
theorem dX6_all_13 : decode cX6_all 13 = .ok (.ireturn, 1) := by decide +kernel
theorem dX6_all_14 : decode cX6_all 14 = .ok (.aload_n 0, 1) := by decide +kernel
theorem dX6_all_15 : decode cX6_all 15 = .ok (.getfield 19, 3) := by decide +kernel
theorem dX6_all_18 : decode cX6_all 18 = .ok (.aload_n 0, 1) := by decide +kernel
theorem dX6_all_19 : decode cX6_all 19 = .ok (.getfield 10, 3) := by decide +kernel
theorem dX6_all_22 : decode cX6_all 22 = .ok (.invokevirtual 179, 3) := by decide +kernel
theorem dX6_all_25 : decode cX6_all 25 = .ok (.iconst 0, 1) := by decide +kernel
theorem dX6_all_26 : decode cX6_all 26 = .ok (.istore_n 2, 1) := by decide +kernel
theorem dX6_all_27 : decode cX6_all 27 = .ok (.iload_n 2, 1) := by decide +kernel
theorem dX6_all_28 : decode cX6_all 28 = .ok (.bipush 100, 2) := by decide +kernel
theorem dX6_all_30 : decode cX6_all 30 = .ok (.if_icmp .gt 36, 3) := by decide +kernel
theorem dX6_all_33 : decode cX6_all 33 = .ok (.aload_n 0, 1) := by decide +kernel
theorem dX6_all_34 : decode cX6_all 34 = .ok (.getfield 19, 3) := by decide +kernel
theorem dX6_all_37 : decode cX6_all 37 = .ok (.iload_n 1, 1) := by decide +kernel
theorem dX6_all_38 : decode cX6_all 38 = .ok (.invokevirtual 169, 3) := by decide +kernel
theorem dX6_all_41 : decode cX6_all 41 = .ok (.bipush 8, 2) := by decide +kernel
theorem dX6_all_43 : decode cX6_all 43 = .ok (.if_icmp .ne 5, 3) := by decide +kernel
theorem dX6_all_46 : decode cX6_all 46 = .ok (.iload_n 2, 1) := by decide +kernel
theorem dX6_all_47 : decode cX6_all 47 = .ok (.ireturn, 1) := by decide +kernel
theorem dX6_all_48 : decode cX6_all 48 = .ok (.aload_n 0, 1) := by decide +kernel
theorem dX6_all_49 : decode cX6_all 49 = .ok (.getfield 19, 3) := by decide +kernel
theorem dX6_all_52 : decode cX6_all 52 = .ok (.iconst 1, 1) := by decide +kernel
theorem dX6_all_53 : decode cX6_all 53 = .ok (.aload_n 0, 1) := by decide +kernel
theorem dX6_all_54 : decode cX6_all 54 = .ok (.getfield 25, 3) := by decide +kernel
theorem dX6_all_57 : decode cX6_all 57 = .ok (.invokevirtual 165, 3) := by decide +kernel
theorem dX6_all_60 : decode cX6_all 60 = .ok (.iinc 2 1, 3) := by decide +kernel
theorem dX6_all_63 : decode cX6_all 63 = .ok (.goto (-36), 3) := by decide +kernel
theorem dX6_all_66 : decode cX6_all 66 = .ok (.aload_n 0, 1) := by decide +kernel
theorem dX6_all_67 : decode cX6_all 67 = .ok (.ldc 182, 2) := by decide +kernel
theorem dX6_all_69 : decode cX6_all 69 = .ok (.invokevirtual 52, 3) := by decide +kernel
theorem dX6_all_72 : decode cX6_all 72 = .ok (.ireturn, 1) := by decide +kernel
set_option maxRecDepth 20000 in
theorem ggX6_best_X6_isState : GoodIn wsX6_best wsX6_isState := goodIn_r _ [11] (by decide +kernel) (by decide +kernel)
set_option maxRecDepth 20000 in
theorem gX6_best_X6_isState : GoodIn wsX6_best (va_wsS RX6 69 yX6_isState wsX6_isState) := goodIn_app (goodIn_of _ (by decide +kernel)) ggX6_best_X6_isState
set_option maxRecDepth 20000 in
theorem ggX6_best_X6_isWithin : GoodIn wsX6_best wsX6_isWithin := goodIn_r _ [14] (by decide +kernel) (by decide +kernel)
set_option maxRecDepth 20000 in
theorem gX6_best_X6_isWithin : GoodIn wsX6_best (va_wsS RX6 73 yX6_isWithin wsX6_isWithin) := goodIn_app (goodIn_of _ (by decide +kernel)) ggX6_best_X6_isWithin
set_option maxRecDepth 20000 in
theorem ggX6_best_X6_finding : GoodIn wsX6_best wsX6_finding := goodIn_r _ [18, 1, 19, 159, 160, 161, 162, 163, 164, 165, 166] (by decide +kernel) (by decide +kernel)
set_option maxRecDepth 20000 in
theorem gX6_best_X6_finding : GoodIn wsX6_best (wsV RX6 52 RX6 yX6_finding wsX6_finding) := goodIn_app (goodIn_of _ (by decide +kernel)) ggX6_best_X6_finding
set_option maxRecDepth 20000 in
theorem ggX6_best_X4_become : GoodIn wsX6_best wsX4_become := goodIn_r _ [24, 25, 26, 27, 28, 29, 30, 31, 32, 33, 34, 35, 36, 167, 168, 169, 170, 171, 172, 173, 174] (by decide +kernel) (by decide +kernel)
set_option maxRecDepth 20000 in
theorem gX6_best_X4_become : GoodIn wsX6_best (wsV RX6 179 RX4 yX4_become wsX4_become) := goodIn_app (goodIn_of _ (by decide +kernel)) ggX6_best_X4_become
set_option maxRecDepth 20000 in
theorem ggX6_best_X4_passMonths : GoodIn wsX6_best wsX4_passMonths := goodIn_r _ [40, 41, 42, 43, 23, 44, 34, 45, 46, 47, 48, 49, 50, 51, 52, 53, 54, 55, 56, 26, 25, 57, 58, 59, 60, 61, 62, 63, 64, 65, 66, 67, 68, 69, 70, 71, 72, 73, 74, 75, 76, 77, 78, 79, 80, 81, 82, 83, 84, 85, 86, 87, 88, 89, 90, 91, 92, 93, 94, 95, 96, 97, 98, 99, 100, 101, 102, 103, 104, 105, 106, 107, 108, 109, 10, 110, 111, 112, 113, 114, 115, 116, 117, 118, 119, 120, 121, 122, 123, 124, 125, 126, 127, 128, 129, 130, 131, 36, 132, 133, 134, 135, 136, 137, 138, 139, 28, 33, 140, 141, 142, 143, 144, 145, 146, 147, 148, 149, 150, 151, 152, 153, 154, 155, 156, 157, 167, 168, 169, 170, 171, 172, 173, 174, 175, 176, 177, 178, 179] (by decide +kernel) (by decide +kernel)
set_option maxRecDepth 20000 in
theorem gX6_best_X4_passMonths : GoodIn wsX6_best (wsV RX6 165 RX4 yX4_passMonths wsX4_passMonths) := goodIn_app (goodIn_of _ (by decide +kernel)) ggX6_best_X4_passMonths
set_option maxRecDepth 20000 in
theorem ggX6_best_X4_owned : GoodIn wsX6_best wsX4_owned := goodIn_r _ [148, 149, 150, 151, 23, 152, 28, 153, 89, 90, 91, 92, 93, 94, 167, 168, 169, 170, 171, 172, 173, 174] (by decide +kernel) (by decide +kernel)
set_option maxRecDepth 20000 in
theorem gX6_best_X4_owned : GoodIn wsX6_best (wsV RX6 169 RX4 yX4_owned wsX4_owned) := goodIn_app (goodIn_of _ (by decide +kernel)) ggX6_best_X4_owned
theorem dX6_best_0 : decode cX6_best 0 = .ok (.iload_n 1, 1) := by decide +kernel
theorem dX6_best_1 : decode cX6_best 1 = .ok (.invokestatic 69, 3) := by decide +kernel
theorem dX6_best_4 : decode cX6_best 4 = .ok (.ifCond .eq 13, 3) := by decide +kernel
theorem dX6_best_7 : decode cX6_best 7 = .ok (.iload_n 2, 1) := by decide +kernel
theorem dX6_best_8 : decode cX6_best 8 = .ok (.iconst 1, 1) := by decide +kernel
theorem dX6_best_9 : decode cX6_best 9 = .ok (.bipush 40, 2) := by decide +kernel
theorem dX6_best_11 : decode cX6_best 11 = .ok (.invokestatic 73, 3) := by decide +kernel
theorem dX6_best_14 : decode cX6_best 14 = .ok (.ifCond .ne 10, 3) := by decide +kernel
theorem dX6_best_17 : decode cX6_best 17 = .ok (.aload_n 0, 1) := by decide +kernel
theorem dX6_best_18 : decode cX6_best 18 = .ok (.ldc 51, 2) := by decide +kernel
theorem dX6_best_20 : decode cX6_best 20 = .ok (.invokevirtual 52, 3) := by decide +kernel
theorem dX6_best_23 : decode cX6_best 23 = .ok (.ireturn, 1) := by decide +kernel
theorem dX6_best_24 : decode cX6_best 24 = .ok (.aload_n 0, 1) := by decide +kernel
theorem dX6_best_25 : decode cX6_best 25 = .ok (.getfield 10, 3) := by decide +kernel
theorem dX6_best_28 : decode cX6_best 28 = .ok (.getfield 102, 3) := by decide +kernel
theorem dX6_best_31 : decode cX6_best 31 = .ok (.ifCond .ne 10, 3) := by decide +kernel
theorem dX6_best_34 : decode cX6_best 34 = .ok (.aload_n 0, 1) := by decide +kernel
theorem dX6_best_35 : decode cX6_best 35 = .ok (.ldc 182, 2) := by decide +kernel
theorem dX6_best_37 : decode cX6_best 37 = .ok (.invokevirtual 52, 3) := by decide +kernel
theorem dX6_best_40 : decode cX6_best 40 = .ok (.ireturn, 1) := by decide +kernel
theorem dX6_best_41 : decode cX6_best 41 = .ok (.iconst 0, 1) := by decide +kernel
theorem dX6_best_42 : decode cX6_best 42 = .ok (.istore_n 3, 1) := by decide +kernel
theorem dX6_best_43 : decode cX6_best 43 = .ok (.iconst (-1), 1) := by decide +kernel
theorem dX6_best_44 : decode cX6_best 44 = .ok (.istore 4, 2) := by decide +kernel
theorem dX6_best_46 : decode cX6_best 46 = .ok (.iconst 0, 1) := by decide +kernel
theorem dX6_best_47 : decode cX6_best 47 = .ok (.istore 5, 2) := by decide +kernel
theorem dX6_best_49 : decode cX6_best 49 = .ok (.iload 5, 2) := by decide +kernel
theorem dX6_best_51 : decode cX6_best 51 = .ok (.aload_n 0, 1) := by decide +kernel
theorem dX6_best_52 : decode cX6_best 52 = .ok (.getfield 10, 3) := by decide +kernel
theorem dX6_best_55 : decode cX6_best 55 = .ok (.getfield 102, 3) := by decide +kernel
theorem dX6_best_58 : decode cX6_best 58 = .ok (.if_icmp .ge 69, 3) := by decide +kernel
theorem dX6_best_61 : decode cX6_best 61 = .ok (.aload_n 0, 1) := by decide +kernel
theorem dX6_best_62 : decode cX6_best 62 = .ok (.getfield 19, 3) := by decide +kernel
theorem dX6_best_65 : decode cX6_best 65 = .ok (.aload_n 0, 1) := by decide +kernel
theorem dX6_best_66 : decode cX6_best 66 = .ok (.getfield 10, 3) := by decide +kernel
theorem dX6_best_69 : decode cX6_best 69 = .ok (.invokevirtual 179, 3) := by decide +kernel
theorem dX6_best_72 : decode cX6_best 72 = .ok (.aload_n 0, 1) := by decide +kernel
theorem dX6_best_73 : decode cX6_best 73 = .ok (.getfield 19, 3) := by decide +kernel
theorem dX6_best_76 : decode cX6_best 76 = .ok (.getfield 90, 3) := by decide +kernel
theorem dX6_best_79 : decode cX6_best 79 = .ok (.iload_n 1, 1) := by decide +kernel
theorem dX6_best_80 : decode cX6_best 80 = .ok (.iload 5, 2) := by decide +kernel
theorem dX6_best_82 : decode cX6_best 82 = .ok (.iastore, 1) := by decide +kernel
theorem dX6_best_83 : decode cX6_best 83 = .ok (.aload_n 0, 1) := by decide +kernel
theorem dX6_best_84 : decode cX6_best 84 = .ok (.getfield 19, 3) := by decide +kernel
theorem dX6_best_87 : decode cX6_best 87 = .ok (.iload_n 2, 1) := by decide +kernel
theorem dX6_best_88 : decode cX6_best 88 = .ok (.aload_n 0, 1) := by decide +kernel
theorem dX6_best_89 : decode cX6_best 89 = .ok (.getfield 25, 3) := by decide +kernel
theorem dX6_best_92 : decode cX6_best 92 = .ok (.invokevirtual 165, 3) := by decide +kernel
theorem dX6_best_95 : decode cX6_best 95 = .ok (.aload_n 0, 1) := by decide +kernel
theorem dX6_best_96 : decode cX6_best 96 = .ok (.getfield 19, 3) := by decide +kernel
theorem dX6_best_99 : decode cX6_best 99 = .ok (.iload_n 1, 1) := by decide +kernel
theorem dX6_best_100 : decode cX6_best 100 = .ok (.invokevirtual 169, 3) := by decide +kernel
theorem dX6_best_103 : decode cX6_best 103 = .ok (.iload 4, 2) := by decide +kernel
theorem dX6_best_105 : decode cX6_best 105 = .ok (.if_icmp .le 16, 3) := by decide +kernel
theorem dX6_best_108 : decode cX6_best 108 = .ok (.aload_n 0, 1) := by decide +kernel
theorem dX6_best_109 : decode cX6_best 109 = .ok (.getfield 19, 3) := by decide +kernel
theorem dX6_best_112 : decode cX6_best 112 = .ok (.iload_n 1, 1) := by decide +kernel
theorem dX6_best_113 : decode cX6_best 113 = .ok (.invokevirtual 169, 3) := by decide +kernel
theorem dX6_best_116 : decode cX6_best 116 = .ok (.istore 4, 2) := by decide +kernel
theorem dX6_best_118 : decode cX6_best 118 = .ok (.iload 5, 2) := by decide +kernel
theorem dX6_best_120 : decode cX6_best 120 = .ok (.istore_n 3, 1) := by decide +kernel
theorem dX6_best_121 : decode cX6_best 121 = .ok (.iinc 5 1, 3) := by decide +kernel
theorem dX6_best_124 : decode cX6_best 124 = .ok (.goto (-75), 3) := by decide +kernel
theorem dX6_best_127 : decode cX6_best 127 = .ok (.iload_n 3, 1) := by decide +kernel
theorem dX6_best_128 : decode cX6_best 128 = .ok (.ireturn, 1) := by decide +kernel
set_option maxRecDepth 20000 in
theorem ggX6_mixed_X6_isState : GoodIn wsX6_mixed wsX6_isState := goodIn_r _ [5] (by decide +kernel) (by decide +kernel)
set_option maxRecDepth 20000 in
theorem gX6_mixed_X6_isState : GoodIn wsX6_mixed (va_wsS RX6 69 yX6_isState wsX6_isState) := goodIn_app (goodIn_of _ (by decide +kernel)) ggX6_mixed_X6_isState
set_option maxRecDepth 20000 in
theorem ggX6_mixed_X6_isWithin : GoodIn wsX6_mixed wsX6_isWithin := goodIn_r _ [8] (by decide +kernel) (by decide +kernel)
set_option maxRecDepth 20000 in
theorem gX6_mixed_X6_isWithin : GoodIn wsX6_mixed (va_wsS RX6 73 yX6_isWithin wsX6_isWithin) := goodIn_app (goodIn_of _ (by decide +kernel)) ggX6_mixed_X6_isWithin
set_option maxRecDepth 20000 in
theorem ggX6_mixed_X6_finding : GoodIn wsX6_mixed wsX6_finding := goodIn_r _ [12, 1, 13, 161, 162, 163, 164, 165, 166, 167, 168] (by decide +kernel) (by decide +kernel)
set_option maxRecDepth 20000 in
theorem gX6_mixed_X6_finding : GoodIn wsX6_mixed (wsV RX6 52 RX6 yX6_finding wsX6_finding) := goodIn_app (goodIn_of _ (by decide +kernel)) ggX6_mixed_X6_finding
set_option maxRecDepth 20000 in
theorem ggX6_mixed_X6_bestMix : GoodIn wsX6_mixed wsX6_bestMix := goodIn_r _ [17, 18, 19, 20, 21, 22, 23, 24, 25, 26, 27, 28, 29, 30, 31, 32, 33, 34, 35, 36, 37, 38, 39, 40, 41, 42, 43, 44, 45, 46, 47, 48, 49, 50, 51, 52, 53, 54, 55, 56, 57, 58, 59, 60, 61, 62, 63, 64, 65, 66, 67, 68, 69, 70, 71, 72, 73, 74, 75, 76, 77, 78, 79, 80, 81, 82, 83, 84, 85, 86, 87, 88, 89, 90, 91, 92, 93, 94, 95, 96, 97, 98, 99, 100, 101, 102, 103, 104, 105, 106, 107, 108, 109, 110, 111, 4, 112, 113, 114, 115, 116, 117, 118, 119, 120, 121, 122, 123, 124, 125, 126, 127, 128, 129, 130, 131, 132, 133, 134, 135, 136, 137, 138, 139, 140, 141, 142, 143, 144, 145, 146, 147, 148, 149, 150, 151, 152, 153, 154, 155, 156, 157, 158, 159, 160, 161, 162, 163, 164, 165, 166, 167, 168, 169, 170, 171, 172, 173, 174, 175, 176, 177, 178, 179, 180, 181] (by decide +kernel) (by decide +kernel)
set_option maxRecDepth 20000 in
theorem gX6_mixed_X6_bestMix : GoodIn wsX6_mixed (wsV RX6 183 RX6 yX6_bestMix wsX6_bestMix) := goodIn_app (goodIn_of _ (by decide +kernel)) ggX6_mixed_X6_bestMix
theorem dX6_mixed_0 : decode cX6_mixed 0 = .ok (.iload_n 1, 1) := by decide +kernel
theorem dX6_mixed_1 : decode cX6_mixed 1 = .ok (.invokestatic 69, 3) := by decide +kernel
theorem dX6_mixed_4 : decode cX6_mixed 4 = .ok (.ifCond .eq 13, 3) := by decide +kernel
theorem dX6_mixed_7 : decode cX6_mixed 7 = .ok (.iload_n 2, 1) := by decide +kernel
theorem dX6_mixed_8 : decode cX6_mixed 8 = .ok (.iconst 1, 1) := by decide +kernel
theorem dX6_mixed_9 : decode cX6_mixed 9 = .ok (.bipush 40, 2) := by decide +kernel
theorem dX6_mixed_11 : decode cX6_mixed 11 = .ok (.invokestatic 73, 3) := by decide +kernel
theorem dX6_mixed_14 : decode cX6_mixed 14 = .ok (.ifCond .ne 10, 3) := by decide +kernel
theorem dX6_mixed_17 : decode cX6_mixed 17 = .ok (.aload_n 0, 1) := by decide +kernel
theorem dX6_mixed_18 : decode cX6_mixed 18 = .ok (.ldc 51, 2) := by decide +kernel
theorem dX6_mixed_20 : decode cX6_mixed 20 = .ok (.invokevirtual 52, 3) := by decide +kernel
theorem dX6_mixed_23 : decode cX6_mixed 23 = .ok (.ireturn, 1) := by decide +kernel
theorem dX6_mixed_24 : decode cX6_mixed 24 = .ok (.aload_n 0, 1) := by decide +kernel
theorem dX6_mixed_25 : decode cX6_mixed 25 = .ok (.iload_n 1, 1) := by decide +kernel
theorem dX6_mixed_26 : decode cX6_mixed 26 = .ok (.iload_n 2, 1) := by decide +kernel
theorem dX6_mixed_27 : decode cX6_mixed 27 = .ok (.invokevirtual 183, 3) := by decide +kernel
theorem dX6_mixed_30 : decode cX6_mixed 30 = .ok (.ireturn, 1) := by decide +kernel
set_option maxRecDepth 20000 in
theorem ggX6_kind_X6_isEnvoy : GoodIn wsX6_kind wsX6_isEnvoy := goodIn_r _ [11, 3, 12, 159, 160, 161, 162, 163, 164, 165, 166, 167, 168, 169, 170, 171, 172, 173, 174] (by decide +kernel) (by decide +kernel)
set_option maxRecDepth 20000 in
theorem gX6_kind_X6_isEnvoy : GoodIn wsX6_kind (wsV RX6 109 RX6 yX6_isEnvoy wsX6_isEnvoy) := goodIn_app (goodIn_of _ (by decide +kernel)) ggX6_kind_X6_isEnvoy
set_option maxRecDepth 20000 in
theorem ggX6_kind_X6_isWithin : GoodIn wsX6_kind wsX6_isWithin := goodIn_r _ [15] (by decide +kernel) (by decide +kernel)
set_option maxRecDepth 20000 in
theorem gX6_kind_X6_isWithin : GoodIn wsX6_kind (va_wsS RX6 73 yX6_isWithin wsX6_isWithin) := goodIn_app (goodIn_of _ (by decide +kernel)) ggX6_kind_X6_isWithin
set_option maxRecDepth 20000 in
theorem ggX6_kind_X6_finding : GoodIn wsX6_kind wsX6_finding := goodIn_r _ [19, 1, 20, 159, 160, 161, 162, 163, 164, 165, 166] (by decide +kernel) (by decide +kernel)
set_option maxRecDepth 20000 in
theorem gX6_kind_X6_finding : GoodIn wsX6_kind (wsV RX6 52 RX6 yX6_finding wsX6_finding) := goodIn_app (goodIn_of _ (by decide +kernel)) ggX6_kind_X6_finding
set_option maxRecDepth 20000 in
theorem ggX6_kind_X4_become : GoodIn wsX6_kind wsX4_become := goodIn_r _ [25, 26, 27, 28, 29, 30, 31, 32, 33, 34, 35, 36, 37, 167, 168, 169, 170, 171, 172, 173, 174] (by decide +kernel) (by decide +kernel)
set_option maxRecDepth 20000 in
theorem gX6_kind_X4_become : GoodIn wsX6_kind (wsV RX6 179 RX4 yX4_become wsX4_become) := goodIn_app (goodIn_of _ (by decide +kernel)) ggX6_kind_X4_become
set_option maxRecDepth 20000 in
theorem ggX6_kind_X4_passMonths : GoodIn wsX6_kind wsX4_passMonths := goodIn_r _ [41, 42, 43, 44, 24, 45, 35, 46, 47, 48, 49, 50, 51, 52, 53, 54, 55, 56, 57, 27, 26, 58, 59, 60, 61, 62, 63, 64, 65, 66, 67, 68, 69, 70, 71, 72, 73, 74, 75, 76, 77, 78, 79, 80, 81, 82, 83, 84, 85, 86, 87, 88, 89, 90, 91, 92, 93, 94, 95, 96, 97, 98, 99, 100, 101, 102, 103, 104, 105, 106, 107, 108, 109, 110, 10, 111, 112, 113, 114, 115, 116, 117, 118, 119, 120, 121, 122, 123, 124, 125, 126, 127, 128, 129, 130, 131, 132, 37, 133, 134, 135, 136, 137, 138, 139, 140, 29, 34, 141, 142, 143, 144, 145, 146, 147, 148, 149, 150, 151, 152, 153, 154, 155, 156, 157, 158, 167, 168, 169, 170, 171, 172, 173, 174, 175, 176, 177, 178, 179] (by decide +kernel) (by decide +kernel)
set_option maxRecDepth 20000 in
theorem gX6_kind_X4_passMonths : GoodIn wsX6_kind (wsV RX6 165 RX4 yX4_passMonths wsX4_passMonths) := goodIn_app (goodIn_of _ (by decide +kernel)) ggX6_kind_X4_passMonths
theorem dX6_kind_0 : decode cX6_kind 0 = .ok (.aload_n 0, 1) := by decide +kernel
theorem dX6_kind_1 : decode cX6_kind 1 = .ok (.iload_n 1, 1) := by decide +kernel
theorem dX6_kind_2 : decode cX6_kind 2 = .ok (.invokevirtual 109, 3) := by decide +kernel
theorem dX6_kind_5 : decode cX6_kind 5 = .ok (.ifCond .eq 13, 3) := by decide +kernel
theorem dX6_kind_8 : decode cX6_kind 8 = .ok (.iload_n 2, 1) := by decide +kernel
theorem dX6_kind_9 : decode cX6_kind 9 = .ok (.iconst 1, 1) := by decide +kernel
theorem dX6_kind_10 : decode cX6_kind 10 = .ok (.bipush 40, 2) := by decide +kernel
theorem dX6_kind_12 : decode cX6_kind 12 = .ok (.invokestatic 73, 3) := by decide +kernel
theorem dX6_kind_15 : decode cX6_kind 15 = .ok (.ifCond .ne 10, 3) := by decide +kernel
theorem dX6_kind_18 : decode cX6_kind 18 = .ok (.aload_n 0, 1) := by decide +kernel
theorem dX6_kind_19 : decode cX6_kind 19 = .ok (.ldc 51, 2) := by decide +kernel
theorem dX6_kind_21 : decode cX6_kind 21 = .ok (.invokevirtual 52, 3) := by decide +kernel
theorem dX6_kind_24 : decode cX6_kind 24 = .ok (.ireturn, 1) := by decide +kernel
theorem dX6_kind_25 : decode cX6_kind 25 = .ok (.iconst 0, 1) := by decide +kernel
theorem dX6_kind_26 : decode cX6_kind 26 = .ok (.istore_n 3, 1) := by decide +kernel
theorem dX6_kind_27 : decode cX6_kind 27 = .ok (.iconst (-1), 1) := by decide +kernel
theorem dX6_kind_28 : decode cX6_kind 28 = .ok (.istore 4, 2) := by decide +kernel
theorem dX6_kind_30 : decode cX6_kind 30 = .ok (.iconst 0, 1) := by decide +kernel
theorem dX6_kind_31 : decode cX6_kind 31 = .ok (.istore 5, 2) := by decide +kernel
theorem dX6_kind_33 : decode cX6_kind 33 = .ok (.iload 5, 2) := by decide +kernel
theorem dX6_kind_35 : decode cX6_kind 35 = .ok (.bipush 6, 2) := by decide +kernel
theorem dX6_kind_37 : decode cX6_kind 37 = .ok (.if_icmp .ge 71, 3) := by decide +kernel
theorem dX6_kind_40 : decode cX6_kind 40 = .ok (.aload_n 0, 1) := by decide +kernel
theorem dX6_kind_41 : decode cX6_kind 41 = .ok (.getfield 19, 3) := by decide +kernel
theorem dX6_kind_44 : decode cX6_kind 44 = .ok (.aload_n 0, 1) := by decide +kernel
theorem dX6_kind_45 : decode cX6_kind 45 = .ok (.getfield 10, 3) := by decide +kernel
theorem dX6_kind_48 : decode cX6_kind 48 = .ok (.invokevirtual 179, 3) := by decide +kernel
theorem dX6_kind_51 : decode cX6_kind 51 = .ok (.aload_n 0, 1) := by decide +kernel
theorem dX6_kind_52 : decode cX6_kind 52 = .ok (.getfield 19, 3) := by decide +kernel
theorem dX6_kind_55 : decode cX6_kind 55 = .ok (.getfield 112, 3) := by decide +kernel
theorem dX6_kind_58 : decode cX6_kind 58 = .ok (.iload_n 1, 1) := by decide +kernel
theorem dX6_kind_59 : decode cX6_kind 59 = .ok (.iload 5, 2) := by decide +kernel
theorem dX6_kind_61 : decode cX6_kind 61 = .ok (.iastore, 1) := by decide +kernel
theorem dX6_kind_62 : decode cX6_kind 62 = .ok (.aload_n 0, 1) := by decide +kernel
theorem dX6_kind_63 : decode cX6_kind 63 = .ok (.getfield 19, 3) := by decide +kernel
theorem dX6_kind_66 : decode cX6_kind 66 = .ok (.iload_n 2, 1) := by decide +kernel
theorem dX6_kind_67 : decode cX6_kind 67 = .ok (.aload_n 0, 1) := by decide +kernel
theorem dX6_kind_68 : decode cX6_kind 68 = .ok (.getfield 25, 3) := by decide +kernel
theorem dX6_kind_71 : decode cX6_kind 71 = .ok (.invokevirtual 165, 3) := by decide +kernel
theorem dX6_kind_74 : decode cX6_kind 74 = .ok (.aload_n 0, 1) := by decide +kernel
theorem dX6_kind_75 : decode cX6_kind 75 = .ok (.getfield 19, 3) := by decide +kernel
theorem dX6_kind_78 : decode cX6_kind 78 = .ok (.getfield 115, 3) := by decide +kernel
theorem dX6_kind_81 : decode cX6_kind 81 = .ok (.iload_n 1, 1) := by decide +kernel
theorem dX6_kind_82 : decode cX6_kind 82 = .ok (.iaload, 1) := by decide +kernel
theorem dX6_kind_83 : decode cX6_kind 83 = .ok (.iload 4, 2) := by decide +kernel
theorem dX6_kind_85 : decode cX6_kind 85 = .ok (.if_icmp .le 17, 3) := by decide +kernel
theorem dX6_kind_88 : decode cX6_kind 88 = .ok (.aload_n 0, 1) := by decide +kernel
theorem dX6_kind_89 : decode cX6_kind 89 = .ok (.getfield 19, 3) := by decide +kernel
theorem dX6_kind_92 : decode cX6_kind 92 = .ok (.getfield 115, 3) := by decide +kernel
theorem dX6_kind_95 : decode cX6_kind 95 = .ok (.iload_n 1, 1) := by decide +kernel
theorem dX6_kind_96 : decode cX6_kind 96 = .ok (.iaload, 1) := by decide +kernel
theorem dX6_kind_97 : decode cX6_kind 97 = .ok (.istore 4, 2) := by decide +kernel
theorem dX6_kind_99 : decode cX6_kind 99 = .ok (.iload 5, 2) := by decide +kernel
theorem dX6_kind_101 : decode cX6_kind 101 = .ok (.istore_n 3, 1) := by decide +kernel
theorem dX6_kind_102 : decode cX6_kind 102 = .ok (.iinc 5 1, 3) := by decide +kernel
theorem dX6_kind_105 : decode cX6_kind 105 = .ok (.goto (-72), 3) := by decide +kernel
theorem dX6_kind_108 : decode cX6_kind 108 = .ok (.iload_n 3, 1) := by decide +kernel
theorem dX6_kind_109 : decode cX6_kind 109 = .ok (.ireturn, 1) := by decide +kernel
set_option maxRecDepth 20000 in
theorem ggX6_rest_X6_isState : GoodIn wsX6_rest wsX6_isState := goodIn_r _ [7] (by decide +kernel) (by decide +kernel)
set_option maxRecDepth 20000 in
theorem gX6_rest_X6_isState : GoodIn wsX6_rest (va_wsS RX6 69 yX6_isState wsX6_isState) := goodIn_app (goodIn_of _ (by decide +kernel)) ggX6_rest_X6_isState
set_option maxRecDepth 20000 in
theorem ggX6_rest_X6_isWithin : GoodIn wsX6_rest wsX6_isWithin := goodIn_r _ [10] (by decide +kernel) (by decide +kernel)
set_option maxRecDepth 20000 in
theorem gX6_rest_X6_isWithin : GoodIn wsX6_rest (va_wsS RX6 73 yX6_isWithin wsX6_isWithin) := goodIn_app (goodIn_of _ (by decide +kernel)) ggX6_rest_X6_isWithin
set_option maxRecDepth 20000 in
theorem ggX6_rest_X6_finding : GoodIn wsX6_rest wsX6_finding := goodIn_r _ [14, 1, 15, 161, 162, 163, 164, 165, 166, 167, 168] (by decide +kernel) (by decide +kernel)
set_option maxRecDepth 20000 in
theorem gX6_rest_X6_finding : GoodIn wsX6_rest (wsV RX6 52 RX6 yX6_finding wsX6_finding) := goodIn_app (goodIn_of _ (by decide +kernel)) ggX6_rest_X6_finding
set_option maxRecDepth 20000 in
theorem ggX6_rest_X6_lookAheadIdle : GoodIn wsX6_rest wsX6_lookAheadIdle := goodIn_r _ [19, 2, 20, 21, 3, 22, 23, 24, 25, 26, 27, 28, 29, 30, 31, 32, 33, 34, 35, 36, 37, 38, 39, 40, 41, 42, 43, 44, 45, 46, 47, 48, 49, 50, 51, 52, 53, 54, 55, 56, 57, 58, 59, 60, 61, 62, 63, 64, 65, 66, 67, 68, 69, 70, 71, 72, 73, 74, 75, 76, 77, 78, 79, 80, 81, 82, 83, 84, 85, 86, 87, 88, 89, 90, 91, 92, 93, 94, 95, 96, 97, 98, 99, 100, 101, 102, 103, 104, 105, 106, 107, 108, 109, 110, 111, 6, 112, 113, 114, 115, 116, 117, 118, 119, 120, 121, 122, 123, 124, 125, 126, 127, 128, 129, 130, 131, 132, 133, 134, 135, 136, 137, 138, 139, 140, 141, 142, 143, 144, 145, 146, 147, 148, 149, 150, 151, 152, 153, 154, 155, 156, 157, 158, 159, 161, 162, 163, 164, 165, 166, 167, 168, 169, 170, 171, 172, 173, 174, 175, 176, 177, 178, 179, 180, 181] (by decide +kernel) (by decide +kernel)
set_option maxRecDepth 20000 in
theorem gX6_rest_X6_lookAheadIdle : GoodIn wsX6_rest (wsV RX6 187 RX6 yX6_lookAheadIdle wsX6_lookAheadIdle) := goodIn_app (goodIn_of _ (by decide +kernel)) ggX6_rest_X6_lookAheadIdle
set_option maxRecDepth 20000 in
theorem ggX6_rest_X4_passMonths : GoodIn wsX6_rest wsX4_passMonths := goodIn_r _ [42, 43, 44, 45, 25, 46, 36, 47, 48, 49, 50, 51, 52, 53, 54, 55, 56, 57, 58, 28, 27, 59, 60, 61, 62, 63, 64, 65, 66, 67, 68, 69, 70, 71, 72, 73, 74, 75, 76, 77, 78, 79, 80, 81, 82, 83, 84, 85, 86, 87, 88, 89, 90, 91, 92, 93, 94, 95, 96, 97, 98, 99, 100, 101, 102, 103, 104, 105, 106, 107, 108, 109, 110, 111, 6, 112, 113, 114, 115, 116, 117, 118, 119, 120, 121, 122, 123, 124, 125, 126, 127, 128, 129, 130, 131, 132, 133, 38, 134, 135, 136, 137, 138, 139, 140, 141, 30, 35, 142, 143, 144, 145, 146, 147, 148, 149, 150, 151, 152, 153, 154, 155, 156, 157, 158, 159, 169, 170, 171, 172, 173, 174, 175, 176, 177, 178, 179, 180, 181] (by decide +kernel) (by decide +kernel)
set_option maxRecDepth 20000 in
theorem gX6_rest_X4_passMonths : GoodIn wsX6_rest (wsV RX6 165 RX4 yX4_passMonths wsX4_passMonths) := goodIn_app (goodIn_of _ (by decide +kernel)) ggX6_rest_X4_passMonths
set_option maxRecDepth 20000 in
theorem ggX6_rest_X4_owned : GoodIn wsX6_rest wsX4_owned := goodIn_r _ [150, 151, 152, 153, 25, 154, 30, 155, 91, 92, 93, 94, 95, 96, 169, 170, 171, 172, 173, 174, 175, 176] (by decide +kernel) (by decide +kernel)
set_option maxRecDepth 20000 in
theorem gX6_rest_X4_owned : GoodIn wsX6_rest (wsV RX6 169 RX4 yX4_owned wsX4_owned) := goodIn_app (goodIn_of _ (by decide +kernel)) ggX6_rest_X4_owned
theorem dX6_rest_0 : decode cX6_rest 0 = .ok (.iload_n 1, 1) := by decide +kernel
theorem dX6_rest_1 : decode cX6_rest 1 = .ok (.invokestatic 69, 3) := by decide +kernel
theorem dX6_rest_4 : decode cX6_rest 4 = .ok (.ifCond .eq 13, 3) := by decide +kernel
theorem dX6_rest_7 : decode cX6_rest 7 = .ok (.iload_n 2, 1) := by decide +kernel
theorem dX6_rest_8 : decode cX6_rest 8 = .ok (.iconst 1, 1) := by decide +kernel
theorem dX6_rest_9 : decode cX6_rest 9 = .ok (.bipush 30, 2) := by decide +kernel
theorem dX6_rest_11 : decode cX6_rest 11 = .ok (.invokestatic 73, 3) := by decide +kernel
theorem dX6_rest_14 : decode cX6_rest 14 = .ok (.ifCond .ne 10, 3) := by decide +kernel
theorem dX6_rest_17 : decode cX6_rest 17 = .ok (.aload_n 0, 1) := by decide +kernel
theorem dX6_rest_18 : decode cX6_rest 18 = .ok (.ldc 51, 2) := by decide +kernel
theorem dX6_rest_20 : decode cX6_rest 20 = .ok (.invokevirtual 52, 3) := by decide +kernel
theorem dX6_rest_23 : decode cX6_rest 23 = .ok (.ireturn, 1) := by decide +kernel
theorem dX6_rest_24 : decode cX6_rest 24 = .ok (.iconst 0, 1) := by decide +kernel
theorem dX6_rest_25 : decode cX6_rest 25 = .ok (.istore_n 3, 1) := by decide +kernel
theorem dX6_rest_26 : decode cX6_rest 26 = .ok (.iconst (-1), 1) := by decide +kernel
theorem dX6_rest_27 : decode cX6_rest 27 = .ok (.istore 4, 2) := by decide +kernel
theorem dX6_rest_29 : decode cX6_rest 29 = .ok (.iconst 0, 1) := by decide +kernel
theorem dX6_rest_30 : decode cX6_rest 30 = .ok (.istore 5, 2) := by decide +kernel
theorem dX6_rest_32 : decode cX6_rest 32 = .ok (.iload 5, 2) := by decide +kernel
theorem dX6_rest_34 : decode cX6_rest 34 = .ok (.bipush 30, 2) := by decide +kernel
theorem dX6_rest_36 : decode cX6_rest 36 = .ok (.if_icmp .gt 53, 3) := by decide +kernel
theorem dX6_rest_39 : decode cX6_rest 39 = .ok (.aload_n 0, 1) := by decide +kernel
theorem dX6_rest_40 : decode cX6_rest 40 = .ok (.iload 5, 2) := by decide +kernel
theorem dX6_rest_42 : decode cX6_rest 42 = .ok (.invokevirtual 187, 3) := by decide +kernel
theorem dX6_rest_45 : decode cX6_rest 45 = .ok (.aload_n 0, 1) := by decide +kernel
theorem dX6_rest_46 : decode cX6_rest 46 = .ok (.getfield 19, 3) := by decide +kernel
theorem dX6_rest_49 : decode cX6_rest 49 = .ok (.iload_n 2, 1) := by decide +kernel
theorem dX6_rest_50 : decode cX6_rest 50 = .ok (.aload_n 0, 1) := by decide +kernel
theorem dX6_rest_51 : decode cX6_rest 51 = .ok (.getfield 25, 3) := by decide +kernel
theorem dX6_rest_54 : decode cX6_rest 54 = .ok (.invokevirtual 165, 3) := by decide +kernel
theorem dX6_rest_57 : decode cX6_rest 57 = .ok (.aload_n 0, 1) := by decide +kernel
theorem dX6_rest_58 : decode cX6_rest 58 = .ok (.getfield 19, 3) := by decide +kernel
theorem dX6_rest_61 : decode cX6_rest 61 = .ok (.iload_n 1, 1) := by decide +kernel
theorem dX6_rest_62 : decode cX6_rest 62 = .ok (.invokevirtual 169, 3) := by decide +kernel
theorem dX6_rest_65 : decode cX6_rest 65 = .ok (.iload 4, 2) := by decide +kernel
theorem dX6_rest_67 : decode cX6_rest 67 = .ok (.if_icmp .le 16, 3) := by decide +kernel
theorem dX6_rest_70 : decode cX6_rest 70 = .ok (.aload_n 0, 1) := by decide +kernel
theorem dX6_rest_71 : decode cX6_rest 71 = .ok (.getfield 19, 3) := by decide +kernel
theorem dX6_rest_74 : decode cX6_rest 74 = .ok (.iload_n 1, 1) := by decide +kernel
theorem dX6_rest_75 : decode cX6_rest 75 = .ok (.invokevirtual 169, 3) := by decide +kernel
theorem dX6_rest_78 : decode cX6_rest 78 = .ok (.istore 4, 2) := by decide +kernel
theorem dX6_rest_80 : decode cX6_rest 80 = .ok (.iload 5, 2) := by decide +kernel
theorem dX6_rest_82 : decode cX6_rest 82 = .ok (.istore_n 3, 1) := by decide +kernel
theorem dX6_rest_83 : decode cX6_rest 83 = .ok (.iinc 5 1, 3) := by decide +kernel
theorem dX6_rest_86 : decode cX6_rest 86 = .ok (.goto (-54), 3) := by decide +kernel
theorem dX6_rest_89 : decode cX6_rest 89 = .ok (.iload_n 3, 1) := by decide +kernel
theorem dX6_rest_90 : decode cX6_rest 90 = .ok (.ireturn, 1) := by decide +kernel
set_option maxRecDepth 20000 in
theorem ggX6_peace_X6_isWithin : GoodIn wsX6_peace wsX6_isWithin := goodIn_r _ [5] (by decide +kernel) (by decide +kernel)
set_option maxRecDepth 20000 in
theorem gX6_peace_X6_isWithin : GoodIn wsX6_peace (va_wsS RX6 73 yX6_isWithin wsX6_isWithin) := goodIn_app (goodIn_of _ (by decide +kernel)) ggX6_peace_X6_isWithin
set_option maxRecDepth 20000 in
theorem ggX6_peace_X6_finding : GoodIn wsX6_peace wsX6_finding := goodIn_r _ [9, 1, 10, 158, 159, 160, 161, 162, 163, 164, 165] (by decide +kernel) (by decide +kernel)
set_option maxRecDepth 20000 in
theorem gX6_peace_X6_finding : GoodIn wsX6_peace (wsV RX6 52 RX6 yX6_finding wsX6_finding) := goodIn_app (goodIn_of _ (by decide +kernel)) ggX6_peace_X6_finding
set_option maxRecDepth 20000 in
theorem ggX6_peace_X6_bestMix : GoodIn wsX6_peace wsX6_bestMix := goodIn_r _ [14, 15, 16, 17, 18, 19, 20, 21, 22, 23, 24, 25, 26, 27, 28, 29, 30, 31, 32, 33, 34, 35, 36, 37, 38, 39, 40, 41, 42, 43, 44, 45, 46, 47, 48, 49, 50, 51, 52, 53, 54, 55, 56, 57, 58, 59, 60, 61, 62, 63, 64, 65, 66, 67, 68, 69, 70, 71, 72, 73, 74, 75, 76, 77, 78, 79, 80, 81, 82, 83, 84, 85, 86, 87, 88, 89, 90, 91, 92, 93, 94, 95, 96, 97, 98, 99, 100, 101, 102, 103, 104, 105, 106, 107, 108, 4, 109, 110, 111, 112, 113, 114, 115, 116, 117, 118, 119, 120, 121, 122, 123, 124, 125, 126, 127, 128, 129, 130, 131, 132, 133, 134, 135, 136, 137, 138, 139, 140, 141, 142, 143, 144, 145, 146, 147, 148, 149, 150, 151, 152, 153, 154, 155, 156, 157, 158, 159, 160, 161, 162, 163, 164, 165, 166, 167, 168, 169, 170, 171, 172, 173, 174, 175, 176, 177, 178] (by decide +kernel) (by decide +kernel)
set_option maxRecDepth 20000 in
theorem gX6_peace_X6_bestMix : GoodIn wsX6_peace (wsV RX6 183 RX6 yX6_bestMix wsX6_bestMix) := goodIn_app (goodIn_of _ (by decide +kernel)) ggX6_peace_X6_bestMix
theorem dX6_peace_0 : decode cX6_peace 0 = .ok (.iload_n 1, 1) := by decide +kernel
theorem dX6_peace_1 : decode cX6_peace 1 = .ok (.iconst 1, 1) := by decide +kernel
theorem dX6_peace_2 : decode cX6_peace 2 = .ok (.bipush 40, 2) := by decide +kernel
theorem dX6_peace_4 : decode cX6_peace 4 = .ok (.invokestatic 73, 3) := by decide +kernel
theorem dX6_peace_7 : decode cX6_peace 7 = .ok (.ifCond .ne 10, 3) := by decide +kernel
theorem dX6_peace_10 : decode cX6_peace 10 = .ok (.aload_n 0, 1) := by decide +kernel
theorem dX6_peace_11 : decode cX6_peace 11 = .ok (.ldc 51, 2) := by decide +kernel
theorem dX6_peace_13 : decode cX6_peace 13 = .ok (.invokevirtual 52, 3) := by decide +kernel
theorem dX6_peace_16 : decode cX6_peace 16 = .ok (.ireturn, 1) := by decide +kernel
theorem dX6_peace_17 : decode cX6_peace 17 = .ok (.aload_n 0, 1) := by decide +kernel
theorem dX6_peace_18 : decode cX6_peace 18 = .ok (.iconst (-1), 1) := by decide +kernel
theorem dX6_peace_19 : decode cX6_peace 19 = .ok (.iload_n 1, 1) := by decide +kernel
theorem dX6_peace_20 : decode cX6_peace 20 = .ok (.invokevirtual 183, 3) := by decide +kernel
theorem dX6_peace_23 : decode cX6_peace 23 = .ok (.ireturn, 1) := by decide +kernel
set_option maxRecDepth 20000 in
theorem ggX6_champion_X6_isWithin : GoodIn wsX6_champion wsX6_isWithin := goodIn_r _ [10] (by decide +kernel) (by decide +kernel)
set_option maxRecDepth 20000 in
theorem gX6_champion_X6_isWithin : GoodIn wsX6_champion (va_wsS RX6 73 yX6_isWithin wsX6_isWithin) := goodIn_app (goodIn_of _ (by decide +kernel)) ggX6_champion_X6_isWithin
set_option maxRecDepth 20000 in
theorem ggX6_champion_X6_finding : GoodIn wsX6_champion wsX6_finding := goodIn_r _ [14, 1, 15, 159, 160, 161, 162, 163, 164, 165, 166] (by decide +kernel) (by decide +kernel)
set_option maxRecDepth 20000 in
theorem gX6_champion_X6_finding : GoodIn wsX6_champion (wsV RX6 52 RX6 yX6_finding wsX6_finding) := goodIn_app (goodIn_of _ (by decide +kernel)) ggX6_champion_X6_finding
set_option maxRecDepth 20000 in
theorem ggX6_champion_X6_lookAhead : GoodIn wsX6_champion wsX6_lookAhead := goodIn_r _ [19, 5, 2, 20, 21, 22, 23, 24, 25, 26, 27, 28, 29, 30, 31, 32, 33, 34, 35, 36, 37, 38, 39, 40, 41, 42, 43, 44, 45, 46, 47, 48, 49, 50, 51, 52, 53, 54, 55, 56, 57, 58, 59, 60, 61, 62, 63, 64, 65, 66, 67, 68, 69, 70, 71, 72, 73, 74, 75, 76, 77, 78, 79, 80, 81, 82, 83, 84, 85, 86, 87, 88, 89, 90, 91, 92, 93, 94, 95, 96, 97, 98, 99, 100, 101, 102, 103, 104, 105, 106, 107, 108, 109, 110, 9, 111, 112, 113, 114, 115, 116, 117, 118, 119, 120, 121, 122, 123, 124, 125, 126, 127, 128, 129, 130, 131, 132, 133, 134, 135, 136, 137, 138, 139, 140, 141, 142, 143, 144, 145, 146, 147, 148, 149, 150, 151, 152, 153, 154, 155, 156, 157, 158, 159, 160, 161, 162, 163, 164, 165, 166, 167, 168, 169, 170, 171, 172, 173, 174, 175, 176, 177, 178, 179] (by decide +kernel) (by decide +kernel)
set_option maxRecDepth 20000 in
theorem gX6_champion_X6_lookAhead : GoodIn wsX6_champion (wsV RX6 172 RX6 yX6_lookAhead wsX6_lookAhead) := goodIn_app (goodIn_of _ (by decide +kernel)) ggX6_champion_X6_lookAhead
theorem dX6_champion_0 : decode cX6_champion 0 = .ok (.iload_n 1, 1) := by decide +kernel
theorem dX6_champion_1 : decode cX6_champion 1 = .ok (.iconst 0, 1) := by decide +kernel
theorem dX6_champion_2 : decode cX6_champion 2 = .ok (.bipush 100, 2) := by decide +kernel
theorem dX6_champion_4 : decode cX6_champion 4 = .ok (.invokestatic 73, 3) := by decide +kernel
theorem dX6_champion_7 : decode cX6_champion 7 = .ok (.ifCond .ne 10, 3) := by decide +kernel
theorem dX6_champion_10 : decode cX6_champion 10 = .ok (.aload_n 0, 1) := by decide +kernel
theorem dX6_champion_11 : decode cX6_champion 11 = .ok (.ldc 51, 2) := by decide +kernel
theorem dX6_champion_13 : decode cX6_champion 13 = .ok (.invokevirtual 52, 3) := by decide +kernel
theorem dX6_champion_16 : decode cX6_champion 16 = .ok (.ireturn, 1) := by decide +kernel
theorem dX6_champion_17 : decode cX6_champion 17 = .ok (.aload_n 0, 1) := by decide +kernel
theorem dX6_champion_18 : decode cX6_champion 18 = .ok (.getfield 10, 3) := by decide +kernel
theorem dX6_champion_21 : decode cX6_champion 21 = .ok (.getfield 102, 3) := by decide +kernel
theorem dX6_champion_24 : decode cX6_champion 24 = .ok (.ifCond .ne 10, 3) := by decide +kernel
theorem dX6_champion_27 : decode cX6_champion 27 = .ok (.aload_n 0, 1) := by decide +kernel
theorem dX6_champion_28 : decode cX6_champion 28 = .ok (.ldc 182, 2) := by decide +kernel
theorem dX6_champion_30 : decode cX6_champion 30 = .ok (.invokevirtual 52, 3) := by decide +kernel
theorem dX6_champion_33 : decode cX6_champion 33 = .ok (.ireturn, 1) := by decide +kernel
theorem dX6_champion_34 : decode cX6_champion 34 = .ok (.aload_n 0, 1) := by decide +kernel
theorem dX6_champion_35 : decode cX6_champion 35 = .ok (.iload_n 1, 1) := by decide +kernel
theorem dX6_champion_36 : decode cX6_champion 36 = .ok (.invokevirtual 172, 3) := by decide +kernel
theorem dX6_champion_39 : decode cX6_champion 39 = .ok (.iconst 0, 1) := by decide +kernel
theorem dX6_champion_40 : decode cX6_champion 40 = .ok (.istore_n 2, 1) := by decide +kernel
theorem dX6_champion_41 : decode cX6_champion 41 = .ok (.iconst 1, 1) := by decide +kernel
theorem dX6_champion_42 : decode cX6_champion 42 = .ok (.istore_n 3, 1) := by decide +kernel
theorem dX6_champion_43 : decode cX6_champion 43 = .ok (.iload_n 3, 1) := by decide +kernel
theorem dX6_champion_44 : decode cX6_champion 44 = .ok (.aload_n 0, 1) := by decide +kernel
theorem dX6_champion_45 : decode cX6_champion 45 = .ok (.getfield 19, 3) := by decide +kernel
theorem dX6_champion_48 : decode cX6_champion 48 = .ok (.getfield 102, 3) := by decide +kernel
theorem dX6_champion_51 : decode cX6_champion 51 = .ok (.if_icmp .ge 32, 3) := by decide +kernel
theorem dX6_champion_54 : decode cX6_champion 54 = .ok (.aload_n 0, 1) := by decide +kernel
theorem dX6_champion_55 : decode cX6_champion 55 = .ok (.getfield 19, 3) := by decide +kernel
theorem dX6_champion_58 : decode cX6_champion 58 = .ok (.getfield 115, 3) := by decide +kernel
theorem dX6_champion_61 : decode cX6_champion 61 = .ok (.iload_n 3, 1) := by decide +kernel
theorem dX6_champion_62 : decode cX6_champion 62 = .ok (.iaload, 1) := by decide +kernel
theorem dX6_champion_63 : decode cX6_champion 63 = .ok (.aload_n 0, 1) := by decide +kernel
theorem dX6_champion_64 : decode cX6_champion 64 = .ok (.getfield 19, 3) := by decide +kernel
theorem dX6_champion_67 : decode cX6_champion 67 = .ok (.getfield 115, 3) := by decide +kernel
theorem dX6_champion_70 : decode cX6_champion 70 = .ok (.iload_n 2, 1) := by decide +kernel
theorem dX6_champion_71 : decode cX6_champion 71 = .ok (.iaload, 1) := by decide +kernel
theorem dX6_champion_72 : decode cX6_champion 72 = .ok (.if_icmp .le 5, 3) := by decide +kernel
theorem dX6_champion_75 : decode cX6_champion 75 = .ok (.iload_n 3, 1) := by decide +kernel
theorem dX6_champion_76 : decode cX6_champion 76 = .ok (.istore_n 2, 1) := by decide +kernel
theorem dX6_champion_77 : decode cX6_champion 77 = .ok (.iinc 3 1, 3) := by decide +kernel
theorem dX6_champion_80 : decode cX6_champion 80 = .ok (.goto (-37), 3) := by decide +kernel
theorem dX6_champion_83 : decode cX6_champion 83 = .ok (.iload_n 2, 1) := by decide +kernel
theorem dX6_champion_84 : decode cX6_champion 84 = .ok (.ireturn, 1) := by decide +kernel
set_option maxRecDepth 20000 in
theorem ggX6_feed_X6_isWithin : GoodIn wsX6_feed wsX6_isWithin := goodIn_r _ [8] (by decide +kernel) (by decide +kernel)
set_option maxRecDepth 20000 in
theorem gX6_feed_X6_isWithin : GoodIn wsX6_feed (va_wsS RX6 73 yX6_isWithin wsX6_isWithin) := goodIn_app (goodIn_of _ (by decide +kernel)) ggX6_feed_X6_isWithin
set_option maxRecDepth 20000 in
theorem ggX6_feed_X6_finding : GoodIn wsX6_feed wsX6_finding := goodIn_r _ [12, 1, 13, 21, 22, 23, 24, 25, 26, 27, 28] (by decide +kernel) (by decide +kernel)
set_option maxRecDepth 20000 in
theorem gX6_feed_X6_finding : GoodIn wsX6_feed (wsV RX6 52 RX6 yX6_finding wsX6_finding) := goodIn_app (goodIn_of _ (by decide +kernel)) ggX6_feed_X6_finding
set_option maxRecDepth 20000 in
theorem ggX6_feed_X5_put : GoodIn wsX6_feed wsX5_put := goodIn_r _ [18, 19, 20, 29, 30, 31, 32, 33, 34] (by decide +kernel) (by decide +kernel)
set_option maxRecDepth 20000 in
theorem gX6_feed_X5_put : GoodIn wsX6_feed (wsV RX6 193 RX5 yX5_put wsX5_put) := goodIn_app (goodIn_of _ (by decide +kernel)) ggX6_feed_X5_put
theorem dX6_feed_0 : decode cX6_feed 0 = .ok (.iload_n 2, 1) := by decide +kernel
theorem dX6_feed_1 : decode cX6_feed 1 = .ok (.iconst 1, 1) := by decide +kernel
theorem dX6_feed_2 : decode cX6_feed 2 = .ok (.iconst 4, 1) := by decide +kernel
theorem dX6_feed_3 : decode cX6_feed 3 = .ok (.invokestatic 73, 3) := by decide +kernel
theorem dX6_feed_6 : decode cX6_feed 6 = .ok (.ifCond .ne 10, 3) := by decide +kernel
theorem dX6_feed_9 : decode cX6_feed 9 = .ok (.aload_n 0, 1) := by decide +kernel
theorem dX6_feed_10 : decode cX6_feed 10 = .ok (.ldc 51, 2) := by decide +kernel
theorem dX6_feed_12 : decode cX6_feed 12 = .ok (.invokevirtual 52, 3) := by decide +kernel
theorem dX6_feed_15 : decode cX6_feed 15 = .ok (.ireturn, 1) := by decide +kernel
theorem dX6_feed_16 : decode cX6_feed 16 = .ok (.aload_n 0, 1) := by decide +kernel
theorem dX6_feed_17 : decode cX6_feed 17 = .ok (.getfield 32, 3) := by decide +kernel
theorem dX6_feed_20 : decode cX6_feed 20 = .ok (.getfield 190, 3) := by decide +kernel
theorem dX6_feed_23 : decode cX6_feed 23 = .ok (.iload_n 2, 1) := by decide +kernel
theorem dX6_feed_24 : decode cX6_feed 24 = .ok (.iadd, 1) := by decide +kernel
theorem dX6_feed_25 : decode cX6_feed 25 = .ok (.bipush 120, 2) := by decide +kernel
theorem dX6_feed_27 : decode cX6_feed 27 = .ok (.if_icmp .le 10, 3) := by decide +kernel
theorem dX6_feed_30 : decode cX6_feed 30 = .ok (.aload_n 0, 1) := by decide +kernel
theorem dX6_feed_31 : decode cX6_feed 31 = .ok (.ldc 105, 2) := by decide +kernel
theorem dX6_feed_33 : decode cX6_feed 33 = .ok (.invokevirtual 52, 3) := by decide +kernel
theorem dX6_feed_36 : decode cX6_feed 36 = .ok (.ireturn, 1) := by decide +kernel
theorem dX6_feed_37 : decode cX6_feed 37 = .ok (.iload_n 2, 1) := by decide +kernel
theorem dX6_feed_38 : decode cX6_feed 38 = .ok (.iconst 1, 1) := by decide +kernel
theorem dX6_feed_39 : decode cX6_feed 39 = .ok (.isub, 1) := by decide +kernel
theorem dX6_feed_40 : decode cX6_feed 40 = .ok (.istore_n 3, 1) := by decide +kernel
theorem dX6_feed_41 : decode cX6_feed 41 = .ok (.iload_n 3, 1) := by decide +kernel
theorem dX6_feed_42 : decode cX6_feed 42 = .ok (.ifCond .lt 26, 3) := by decide +kernel
theorem dX6_feed_45 : decode cX6_feed 45 = .ok (.aload_n 0, 1) := by decide +kernel
theorem dX6_feed_46 : decode cX6_feed 46 = .ok (.getfield 32, 3) := by decide +kernel
theorem dX6_feed_49 : decode cX6_feed 49 = .ok (.iload_n 1, 1) := by decide +kernel
theorem dX6_feed_50 : decode cX6_feed 50 = .ok (.bipush 8, 2) := by decide +kernel
theorem dX6_feed_52 : decode cX6_feed 52 = .ok (.iload_n 3, 1) := by decide +kernel
theorem dX6_feed_53 : decode cX6_feed 53 = .ok (.imul, 1) := by decide +kernel
theorem dX6_feed_54 : decode cX6_feed 54 = .ok (.ishr, 1) := by decide +kernel
theorem dX6_feed_55 : decode cX6_feed 55 = .ok (.sipush 255, 3) := by decide +kernel
theorem dX6_feed_58 : decode cX6_feed 58 = .ok (.iand, 1) := by decide +kernel
theorem dX6_feed_59 : decode cX6_feed 59 = .ok (.invokevirtual 193, 3) := by decide +kernel
theorem dX6_feed_62 : decode cX6_feed 62 = .ok (.iinc 3 (-1), 3) := by decide +kernel
theorem dX6_feed_65 : decode cX6_feed 65 = .ok (.goto (-24), 3) := by decide +kernel
theorem dX6_feed_68 : decode cX6_feed 68 = .ok (.aload_n 0, 1) := by decide +kernel
theorem dX6_feed_69 : decode cX6_feed 69 = .ok (.getfield 32, 3) := by decide +kernel
theorem dX6_feed_72 : decode cX6_feed 72 = .ok (.getfield 190, 3) := by decide +kernel
theorem dX6_feed_75 : decode cX6_feed 75 = .ok (.ireturn, 1) := by decide +kernel
theorem dX6_wipe_0 : decode cX6_wipe 0 = .ok (.aload_n 0, 1) := by decide +kernel
theorem dX6_wipe_1 : decode cX6_wipe 1 = .ok (.getfield 32, 3) := by decide +kernel
theorem dX6_wipe_4 : decode cX6_wipe 4 = .ok (.getfield 190, 3) := by decide +kernel
theorem dX6_wipe_7 : decode cX6_wipe 7 = .ok (.istore_n 1, 1) := by decide +kernel
theorem dX6_wipe_8 : decode cX6_wipe 8 = .ok (.aload_n 0, 1) := by decide +kernel
theorem dX6_wipe_9 : decode cX6_wipe 9 = .ok (.getfield 32, 3) := by decide +kernel
theorem dX6_wipe_12 : decode cX6_wipe 12 = .ok (.iconst 0, 1) := by decide +kernel
theorem dX6_wipe_13 : decode cX6_wipe 13 = .ok (.putfield 190, 3) := by decide +kernel
theorem dX6_wipe_16 : decode cX6_wipe 16 = .ok (.iload_n 1, 1) := by decide +kernel
theorem dX6_wipe_17 : decode cX6_wipe 17 = .ok (.ireturn, 1) := by decide +kernel
set_option maxRecDepth 20000 in
theorem ggX6_spa_X4_become : GoodIn wsX6_spa wsX4_become := goodIn_r _ [9, 10, 11, 12, 13, 14, 15, 16, 17, 18, 19, 20, 21, 156, 157, 158, 159, 160, 161, 162, 163] (by decide +kernel) (by decide +kernel)
set_option maxRecDepth 20000 in
theorem gX6_spa_X4_become : GoodIn wsX6_spa (wsV RX6 179 RX4 yX4_become wsX4_become) := goodIn_app (goodIn_of _ (by decide +kernel)) ggX6_spa_X4_become
set_option maxRecDepth 20000 in
theorem ggX6_spa_X5_parse : GoodIn wsX6_spa wsX5_parse := goodIn_r _ [26, 27, 28, 29, 30, 31, 32, 25, 33, 34, 35, 36, 37, 38, 39, 40, 41, 42, 43, 44, 45, 46, 47, 48, 49, 50, 51, 52, 53, 54, 55, 56, 57, 58, 59, 60, 61, 62, 63, 64, 65, 66, 67, 68, 69, 70, 71, 72, 73, 74, 75, 76, 77, 78, 79, 80, 81, 82, 83, 84, 85, 86, 87, 88, 89, 90, 91, 92, 93, 94, 95, 96, 97, 98, 99, 100, 101, 102, 103, 104, 105, 106, 107, 108, 109, 110, 111, 112, 113, 114, 115, 116, 117, 118, 119, 120, 121, 122, 123, 8, 124, 12, 20, 21, 125, 126, 127, 128, 129, 130, 131, 132, 133, 134, 135, 136, 137, 138, 139, 140, 141, 150, 151, 152, 153, 154, 155, 156, 157, 158, 159, 160, 161, 162, 163] (by decide +kernel) (by decide +kernel)
set_option maxRecDepth 20000 in
theorem gX6_spa_X5_parse : GoodIn wsX6_spa (wsV RX6 196 RX5 yX5_parse wsX5_parse) := goodIn_app (goodIn_of _ (by decide +kernel)) ggX6_spa_X5_parse
theorem dX6_spa_0 : decode cX6_spa 0 = .ok (.aload_n 0, 1) := by decide +kernel
theorem dX6_spa_1 : decode cX6_spa 1 = .ok (.getfield 19, 3) := by decide +kernel
theorem dX6_spa_4 : decode cX6_spa 4 = .ok (.aload_n 0, 1) := by decide +kernel
theorem dX6_spa_5 : decode cX6_spa 5 = .ok (.getfield 10, 3) := by decide +kernel
theorem dX6_spa_8 : decode cX6_spa 8 = .ok (.invokevirtual 179, 3) := by decide +kernel
theorem dX6_spa_11 : decode cX6_spa 11 = .ok (.aload_n 0, 1) := by decide +kernel
theorem dX6_spa_12 : decode cX6_spa 12 = .ok (.getfield 32, 3) := by decide +kernel
theorem dX6_spa_15 : decode cX6_spa 15 = .ok (.aload_n 0, 1) := by decide +kernel
theorem dX6_spa_16 : decode cX6_spa 16 = .ok (.getfield 19, 3) := by decide +kernel
theorem dX6_spa_19 : decode cX6_spa 19 = .ok (.invokevirtual 196, 3) := by decide +kernel
theorem dX6_spa_22 : decode cX6_spa 22 = .ok (.istore_n 1, 1) := by decide +kernel
theorem dX6_spa_23 : decode cX6_spa 23 = .ok (.iload_n 1, 1) := by decide +kernel
theorem dX6_spa_24 : decode cX6_spa 24 = .ok (.ifCond .lt 14, 3) := by decide +kernel
theorem dX6_spa_27 : decode cX6_spa 27 = .ok (.aload_n 0, 1) := by decide +kernel
theorem dX6_spa_28 : decode cX6_spa 28 = .ok (.getfield 10, 3) := by decide +kernel
theorem dX6_spa_31 : decode cX6_spa 31 = .ok (.aload_n 0, 1) := by decide +kernel
theorem dX6_spa_32 : decode cX6_spa 32 = .ok (.getfield 19, 3) := by decide +kernel
theorem dX6_spa_35 : decode cX6_spa 35 = .ok (.invokevirtual 179, 3) := by decide +kernel
theorem dX6_spa_38 : decode cX6_spa 38 = .ok (.aload_n 0, 1) := by decide +kernel
theorem dX6_spa_39 : decode cX6_spa 39 = .ok (.getfield 32, 3) := by decide +kernel
theorem dX6_spa_42 : decode cX6_spa 42 = .ok (.iconst 0, 1) := by decide +kernel
theorem dX6_spa_43 : decode cX6_spa 43 = .ok (.putfield 190, 3) := by decide +kernel
theorem dX6_spa_46 : decode cX6_spa 46 = .ok (.iload_n 1, 1) := by decide +kernel
theorem dX6_spa_47 : decode cX6_spa 47 = .ok (.ireturn, 1) := by decide +kernel
set_option maxRecDepth 20000 in
theorem ggX6_sheet_X6_isSheet : GoodIn wsX6_sheet wsX6_isSheet := goodIn_r _ [8] (by decide +kernel) (by decide +kernel)
set_option maxRecDepth 20000 in
theorem gX6_sheet_X6_isSheet : GoodIn wsX6_sheet (va_wsS RX6 200 yX6_isSheet wsX6_isSheet) := goodIn_app (goodIn_of _ (by decide +kernel)) ggX6_sheet_X6_isSheet
set_option maxRecDepth 20000 in
theorem ggX6_sheet_X6_finding : GoodIn wsX6_sheet wsX6_finding := goodIn_r _ [12, 1, 13, 26, 27, 28, 29, 30, 31, 32, 33] (by decide +kernel) (by decide +kernel)
set_option maxRecDepth 20000 in
theorem gX6_sheet_X6_finding : GoodIn wsX6_sheet (wsV RX6 52 RX6 yX6_finding wsX6_finding) := goodIn_app (goodIn_of _ (by decide +kernel)) ggX6_sheet_X6_finding
set_option maxRecDepth 20000 in
theorem ggX6_sheet_X3_shape : GoodIn wsX6_sheet wsX3_shape := goodIn_r _ [18, 19, 20, 21, 22, 23, 24, 25, 34, 35, 36] (by decide +kernel) (by decide +kernel)
set_option maxRecDepth 20000 in
theorem gX6_sheet_X3_shape : GoodIn wsX6_sheet (wsV RX6 204 RX3 yX3_shape wsX3_shape) := goodIn_app (goodIn_of _ (by decide +kernel)) ggX6_sheet_X3_shape
theorem dX6_sheet_0 : decode cX6_sheet 0 = .ok (.iload_n 1, 1) := by decide +kernel
theorem dX6_sheet_1 : decode cX6_sheet 1 = .ok (.invokestatic 200, 3) := by decide +kernel
theorem dX6_sheet_4 : decode cX6_sheet 4 = .ok (.ifCond .eq 25, 3) := by decide +kernel
theorem dX6_sheet_7 : decode cX6_sheet 7 = .ok (.iload_n 2, 1) := by decide +kernel
theorem dX6_sheet_8 : decode cX6_sheet 8 = .ok (.ifCond .eq 28, 3) := by decide +kernel
theorem dX6_sheet_11 : decode cX6_sheet 11 = .ok (.iload_n 2, 1) := by decide +kernel
theorem dX6_sheet_12 : decode cX6_sheet 12 = .ok (.bipush 8, 2) := by decide +kernel
theorem dX6_sheet_14 : decode cX6_sheet 14 = .ok (.if_icmp .eq 22, 3) := by decide +kernel
theorem dX6_sheet_17 : decode cX6_sheet 17 = .ok (.iload_n 2, 1) := by decide +kernel
theorem dX6_sheet_18 : decode cX6_sheet 18 = .ok (.bipush 16, 2) := by decide +kernel
theorem dX6_sheet_20 : decode cX6_sheet 20 = .ok (.if_icmp .eq 16, 3) := by decide +kernel
theorem dX6_sheet_23 : decode cX6_sheet 23 = .ok (.iload_n 2, 1) := by decide +kernel
theorem dX6_sheet_24 : decode cX6_sheet 24 = .ok (.bipush 64, 2) := by decide +kernel
theorem dX6_sheet_26 : decode cX6_sheet 26 = .ok (.if_icmp .eq 10, 3) := by decide +kernel
theorem dX6_sheet_29 : decode cX6_sheet 29 = .ok (.aload_n 0, 1) := by decide +kernel
theorem dX6_sheet_30 : decode cX6_sheet 30 = .ok (.ldc 51, 2) := by decide +kernel
theorem dX6_sheet_32 : decode cX6_sheet 32 = .ok (.invokevirtual 52, 3) := by decide +kernel
theorem dX6_sheet_35 : decode cX6_sheet 35 = .ok (.ireturn, 1) := by decide +kernel
theorem dX6_sheet_36 : decode cX6_sheet 36 = .ok (.iload_n 3, 1) := by decide +kernel
theorem dX6_sheet_37 : decode cX6_sheet 37 = .ok (.ifCond .ge 10, 3) := by decide +kernel
theorem dX6_sheet_40 : decode cX6_sheet 40 = .ok (.aload_n 0, 1) := by decide +kernel
