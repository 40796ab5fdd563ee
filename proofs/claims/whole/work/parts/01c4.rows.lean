set_option maxRecDepth 20000 in
theorem gX7_kind_X7_goesFor : GoodIn wsX7_kind (wsV RX7 139 RX7 yX7_goesFor wsX7_goesFor) := goodIn_app (goodIn_of _ (by decide +kernel)) ggX7_kind_X7_goesFor
set_option maxRecDepth 20000 in
theorem ggX7_kind_X7_it : GoodIn wsX7_kind wsX7_it := goodIn_r _ [66, 2, 110, 111, 112, 113, 114, 115, 116, 117, 118, 119, 120, 121, 122, 123, 124, 125, 126] (by decide +kernel) (by decide +kernel)
set_option maxRecDepth 20000 in
theorem gX7_kind_X7_it : GoodIn wsX7_kind (wsV RX7 82 RX7 yX7_it wsX7_it) := goodIn_app (goodIn_of _ (by decide +kernel)) ggX7_kind_X7_it
set_option maxRecDepth 20000 in
theorem ggX7_kind_X7_putsBack : GoodIn wsX7_kind wsX7_putsBack := goodIn_r _ [109, 20, 2, 21, 22, 6, 23, 110, 111, 112, 113, 114, 115, 116, 117, 118, 119, 120, 121, 122, 123, 124, 125, 126] (by decide +kernel) (by decide +kernel)
set_option maxRecDepth 20000 in
theorem gX7_kind_X7_putsBack : GoodIn wsX7_kind (wsV RX7 150 RX7 yX7_putsBack wsX7_putsBack) := goodIn_app (goodIn_of _ (by decide +kernel)) ggX7_kind_X7_putsBack
theorem dX7_kind_0 : decode cX7_kind 0 = .ok (.aload_n 0, 1) := by decide +kernel
theorem dX7_kind_1 : decode cX7_kind 1 = .ok (.iload_n 1, 1) := by decide +kernel
theorem dX7_kind_2 : decode cX7_kind 2 = .ok (.invokevirtual 105, 3) := by decide +kernel
theorem dX7_kind_5 : decode cX7_kind 5 = .ok (.ifCond .eq 14, 3) := by decide +kernel
theorem dX7_kind_8 : decode cX7_kind 8 = .ok (.iload_n 2, 1) := by decide +kernel
theorem dX7_kind_9 : decode cX7_kind 9 = .ok (.i2l, 1) := by decide +kernel
theorem dX7_kind_10 : decode cX7_kind 10 = .ok (.iconst 1, 1) := by decide +kernel
theorem dX7_kind_11 : decode cX7_kind 11 = .ok (.bipush 40, 2) := by decide +kernel
theorem dX7_kind_13 : decode cX7_kind 13 = .ok (.invokestatic 47, 3) := by decide +kernel
theorem dX7_kind_16 : decode cX7_kind 16 = .ok (.ifCond .ne 10, 3) := by decide +kernel
theorem dX7_kind_19 : decode cX7_kind 19 = .ok (.aload_n 0, 1) := by decide +kernel
theorem dX7_kind_20 : decode cX7_kind 20 = .ok (.ldc 41, 2) := by decide +kernel
theorem dX7_kind_22 : decode cX7_kind 22 = .ok (.invokevirtual 43, 3) := by decide +kernel
theorem dX7_kind_25 : decode cX7_kind 25 = .ok (.ireturn, 1) := by decide +kernel
theorem dX7_kind_26 : decode cX7_kind 26 = .ok (.aload_n 0, 1) := by decide +kernel
theorem dX7_kind_27 : decode cX7_kind 27 = .ok (.invokevirtual 147, 3) := by decide +kernel
theorem dX7_kind_30 : decode cX7_kind 30 = .ok (.iconst 0, 1) := by decide +kernel
theorem dX7_kind_31 : decode cX7_kind 31 = .ok (.istore_n 3, 1) := by decide +kernel
theorem dX7_kind_32 : decode cX7_kind 32 = .ok (.iconst (-1), 1) := by decide +kernel
theorem dX7_kind_33 : decode cX7_kind 33 = .ok (.istore 4, 2) := by decide +kernel
theorem dX7_kind_35 : decode cX7_kind 35 = .ok (.iconst 0, 1) := by decide +kernel
theorem dX7_kind_36 : decode cX7_kind 36 = .ok (.istore 5, 2) := by decide +kernel
theorem dX7_kind_38 : decode cX7_kind 38 = .ok (.iload 5, 2) := by decide +kernel
theorem dX7_kind_40 : decode cX7_kind 40 = .ok (.iconst 5, 1) := by decide +kernel
theorem dX7_kind_41 : decode cX7_kind 41 = .ok (.if_icmp .gt 69, 3) := by decide +kernel
theorem dX7_kind_44 : decode cX7_kind 44 = .ok (.aload_n 0, 1) := by decide +kernel
theorem dX7_kind_45 : decode cX7_kind 45 = .ok (.getfield 9, 3) := by decide +kernel
theorem dX7_kind_48 : decode cX7_kind 48 = .ok (.bipush 15, 2) := by decide +kernel
theorem dX7_kind_50 : decode cX7_kind 50 = .ok (.iconst 2, 1) := by decide +kernel
theorem dX7_kind_51 : decode cX7_kind 51 = .ok (.iload_n 1, 1) := by decide +kernel
theorem dX7_kind_52 : decode cX7_kind 52 = .ok (.imul, 1) := by decide +kernel
theorem dX7_kind_53 : decode cX7_kind 53 = .ok (.iadd, 1) := by decide +kernel
theorem dX7_kind_54 : decode cX7_kind 54 = .ok (.iload 5, 2) := by decide +kernel
theorem dX7_kind_56 : decode cX7_kind 56 = .ok (.iastore, 1) := by decide +kernel
theorem dX7_kind_57 : decode cX7_kind 57 = .ok (.aload_n 0, 1) := by decide +kernel
theorem dX7_kind_58 : decode cX7_kind 58 = .ok (.iload_n 2, 1) := by decide +kernel
theorem dX7_kind_59 : decode cX7_kind 59 = .ok (.invokevirtual 139, 3) := by decide +kernel
theorem dX7_kind_62 : decode cX7_kind 62 = .ok (.aload_n 0, 1) := by decide +kernel
theorem dX7_kind_63 : decode cX7_kind 63 = .ok (.iload_n 1, 1) := by decide +kernel
theorem dX7_kind_64 : decode cX7_kind 64 = .ok (.iconst 1, 1) := by decide +kernel
theorem dX7_kind_65 : decode cX7_kind 65 = .ok (.invokevirtual 82, 3) := by decide +kernel
theorem dX7_kind_68 : decode cX7_kind 68 = .ok (.istore 6, 2) := by decide +kernel
theorem dX7_kind_70 : decode cX7_kind 70 = .ok (.aload_n 0, 1) := by decide +kernel
theorem dX7_kind_71 : decode cX7_kind 71 = .ok (.invokevirtual 150, 3) := by decide +kernel
theorem dX7_kind_74 : decode cX7_kind 74 = .ok (.iload 6, 2) := by decide +kernel
theorem dX7_kind_76 : decode cX7_kind 76 = .ok (.iload 4, 2) := by decide +kernel
theorem dX7_kind_78 : decode cX7_kind 78 = .ok (.if_icmp .le 8, 3) := by decide +kernel
theorem dX7_kind_81 : decode cX7_kind 81 = .ok (.iload 5, 2) := by decide +kernel
theorem dX7_kind_83 : decode cX7_kind 83 = .ok (.goto 4, 3) := by decide +kernel
theorem dX7_kind_86 : decode cX7_kind 86 = .ok (.iload_n 3, 1) := by decide +kernel
theorem dX7_kind_87 : decode cX7_kind 87 = .ok (.istore_n 3, 1) := by decide +kernel
theorem dX7_kind_88 : decode cX7_kind 88 = .ok (.iload 6, 2) := by decide +kernel
theorem dX7_kind_90 : decode cX7_kind 90 = .ok (.iload 4, 2) := by decide +kernel
theorem dX7_kind_92 : decode cX7_kind 92 = .ok (.if_icmp .le 8, 3) := by decide +kernel
theorem dX7_kind_95 : decode cX7_kind 95 = .ok (.iload 6, 2) := by decide +kernel
theorem dX7_kind_97 : decode cX7_kind 97 = .ok (.goto 5, 3) := by decide +kernel
theorem dX7_kind_100 : decode cX7_kind 100 = .ok (.iload 4, 2) := by decide +kernel
theorem dX7_kind_102 : decode cX7_kind 102 = .ok (.istore 4, 2) := by decide +kernel
theorem dX7_kind_104 : decode cX7_kind 104 = .ok (.iinc 5 1, 3) := by decide +kernel
theorem dX7_kind_107 : decode cX7_kind 107 = .ok (.goto (-69), 3) := by decide +kernel
theorem dX7_kind_110 : decode cX7_kind 110 = .ok (.iload_n 3, 1) := by decide +kernel
theorem dX7_kind_111 : decode cX7_kind 111 = .ok (.ireturn, 1) := by decide +kernel
set_option maxRecDepth 20000 in
theorem ggX7_rest_X7_isState : GoodIn wsX7_rest wsX7_isState := goodIn_r _ [7, 8, 9, 6, 10] (by decide +kernel) (by decide +kernel)
set_option maxRecDepth 20000 in
theorem gX7_rest_X7_isState : GoodIn wsX7_rest (va_wsS RX7 62 yX7_isState wsX7_isState) := goodIn_app (goodIn_of _ (by decide +kernel)) ggX7_rest_X7_isState
set_option maxRecDepth 20000 in
theorem ggX7_rest_X7_in : GoodIn wsX7_rest wsX7_in := goodIn_r _ [10] (by decide +kernel) (by decide +kernel)
set_option maxRecDepth 20000 in
theorem gX7_rest_X7_in : GoodIn wsX7_rest (va_wsS RX7 47 yX7_in wsX7_in) := goodIn_app (goodIn_of _ (by decide +kernel)) ggX7_rest_X7_in
set_option maxRecDepth 20000 in
theorem ggX7_rest_X7_finds : GoodIn wsX7_rest wsX7_finds := goodIn_r _ [14, 15, 1, 109, 110, 111, 112, 113, 114, 115, 116, 117, 118, 119, 120, 121, 122, 123, 124, 125] (by decide +kernel) (by decide +kernel)
set_option maxRecDepth 20000 in
theorem gX7_rest_X7_finds : GoodIn wsX7_rest (wsV RX7 43 RX7 yX7_finds wsX7_finds) := goodIn_app (goodIn_of _ (by decide +kernel)) ggX7_rest_X7_finds
set_option maxRecDepth 20000 in
theorem ggX7_rest_X7_thinks : GoodIn wsX7_rest wsX7_thinks := goodIn_r _ [19, 2, 3, 20, 21, 6, 22, 109, 110, 111, 112, 113, 114, 115, 116, 117, 118, 119, 120, 121, 122, 123, 124, 125] (by decide +kernel) (by decide +kernel)
set_option maxRecDepth 20000 in
theorem gX7_rest_X7_thinks : GoodIn wsX7_rest (wsV RX7 147 RX7 yX7_thinks wsX7_thinks) := goodIn_app (goodIn_of _ (by decide +kernel)) ggX7_rest_X7_thinks
set_option maxRecDepth 20000 in
theorem ggX7_rest_X7_goesFor : GoodIn wsX7_rest wsX7_goesFor := goodIn_r _ [26, 27, 28, 29, 6, 30, 2, 31, 32, 33, 34, 35, 36, 37, 38, 39, 40, 41, 42, 43, 44, 45, 46, 47, 48, 49, 50, 51, 52, 53, 54, 55, 56, 57, 58, 59, 60, 61, 62, 63, 64, 65, 66, 67, 68, 69, 70, 71, 72, 73, 74, 75, 76, 77, 78, 79, 80, 81, 82, 83, 84, 85, 86, 87, 88, 89, 90, 91, 92, 93, 94, 95, 96, 97, 98, 99, 100, 101, 102, 103, 104, 109, 110, 111, 112, 113, 114, 115, 116, 117, 118, 119, 120, 121, 122, 123, 124, 125] (by decide +kernel) (by decide +kernel)
set_option maxRecDepth 20000 in
theorem gX7_rest_X7_goesFor : GoodIn wsX7_rest (wsV RX7 139 RX7 yX7_goesFor wsX7_goesFor) := goodIn_app (goodIn_of _ (by decide +kernel)) ggX7_rest_X7_goesFor
set_option maxRecDepth 20000 in
theorem ggX7_rest_X7_landsOf : GoodIn wsX7_rest wsX7_landsOf := goodIn_r _ [104, 2, 109, 110, 111, 112, 113, 114, 115, 116, 117, 118, 119, 120, 121, 122, 123, 124, 125] (by decide +kernel) (by decide +kernel)
set_option maxRecDepth 20000 in
theorem gX7_rest_X7_landsOf : GoodIn wsX7_rest (wsV RX7 133 RX7 yX7_landsOf wsX7_landsOf) := goodIn_app (goodIn_of _ (by decide +kernel)) ggX7_rest_X7_landsOf
set_option maxRecDepth 20000 in
theorem ggX7_rest_X7_bits : GoodIn wsX7_rest wsX7_bits := goodIn_r _ [77] (by decide +kernel) (by decide +kernel)
set_option maxRecDepth 20000 in
theorem gX7_rest_X7_bits : GoodIn wsX7_rest (va_wsS RX7 91 yX7_bits wsX7_bits) := goodIn_app (goodIn_of _ (by decide +kernel)) ggX7_rest_X7_bits
set_option maxRecDepth 20000 in
theorem ggX7_rest_X7_putsBack : GoodIn wsX7_rest wsX7_putsBack := goodIn_r _ [108, 3, 2, 20, 21, 6, 22, 109, 110, 111, 112, 113, 114, 115, 116, 117, 118, 119, 120, 121, 122, 123, 124, 125] (by decide +kernel) (by decide +kernel)
set_option maxRecDepth 20000 in
theorem gX7_rest_X7_putsBack : GoodIn wsX7_rest (wsV RX7 150 RX7 yX7_putsBack wsX7_putsBack) := goodIn_app (goodIn_of _ (by decide +kernel)) ggX7_rest_X7_putsBack
theorem dX7_rest_0 : decode cX7_rest 0 = .ok (.iload_n 1, 1) := by decide +kernel
theorem dX7_rest_1 : decode cX7_rest 1 = .ok (.invokestatic 62, 3) := by decide +kernel
theorem dX7_rest_4 : decode cX7_rest 4 = .ok (.ifCond .eq 14, 3) := by decide +kernel
theorem dX7_rest_7 : decode cX7_rest 7 = .ok (.iload_n 2, 1) := by decide +kernel
theorem dX7_rest_8 : decode cX7_rest 8 = .ok (.i2l, 1) := by decide +kernel
theorem dX7_rest_9 : decode cX7_rest 9 = .ok (.iconst 1, 1) := by decide +kernel
theorem dX7_rest_10 : decode cX7_rest 10 = .ok (.bipush 30, 2) := by decide +kernel
theorem dX7_rest_12 : decode cX7_rest 12 = .ok (.invokestatic 47, 3) := by decide +kernel
theorem dX7_rest_15 : decode cX7_rest 15 = .ok (.ifCond .ne 10, 3) := by decide +kernel
theorem dX7_rest_18 : decode cX7_rest 18 = .ok (.aload_n 0, 1) := by decide +kernel
theorem dX7_rest_19 : decode cX7_rest 19 = .ok (.ldc 41, 2) := by decide +kernel
theorem dX7_rest_21 : decode cX7_rest 21 = .ok (.invokevirtual 43, 3) := by decide +kernel
theorem dX7_rest_24 : decode cX7_rest 24 = .ok (.ireturn, 1) := by decide +kernel
theorem dX7_rest_25 : decode cX7_rest 25 = .ok (.aload_n 0, 1) := by decide +kernel
theorem dX7_rest_26 : decode cX7_rest 26 = .ok (.invokevirtual 147, 3) := by decide +kernel
theorem dX7_rest_29 : decode cX7_rest 29 = .ok (.iconst 0, 1) := by decide +kernel
theorem dX7_rest_30 : decode cX7_rest 30 = .ok (.istore_n 3, 1) := by decide +kernel
theorem dX7_rest_31 : decode cX7_rest 31 = .ok (.iconst (-1), 1) := by decide +kernel
theorem dX7_rest_32 : decode cX7_rest 32 = .ok (.istore 4, 2) := by decide +kernel
theorem dX7_rest_34 : decode cX7_rest 34 = .ok (.iconst 0, 1) := by decide +kernel
theorem dX7_rest_35 : decode cX7_rest 35 = .ok (.istore 5, 2) := by decide +kernel
theorem dX7_rest_37 : decode cX7_rest 37 = .ok (.iload 5, 2) := by decide +kernel
theorem dX7_rest_39 : decode cX7_rest 39 = .ok (.bipush 30, 2) := by decide +kernel
theorem dX7_rest_41 : decode cX7_rest 41 = .ok (.if_icmp .gt 102, 3) := by decide +kernel
theorem dX7_rest_44 : decode cX7_rest 44 = .ok (.aload_n 0, 1) := by decide +kernel
theorem dX7_rest_45 : decode cX7_rest 45 = .ok (.getfield 9, 3) := by decide +kernel
theorem dX7_rest_48 : decode cX7_rest 48 = .ok (.iconst 3, 1) := by decide +kernel
theorem dX7_rest_49 : decode cX7_rest 49 = .ok (.iconst (-1), 1) := by decide +kernel
theorem dX7_rest_50 : decode cX7_rest 50 = .ok (.iastore, 1) := by decide +kernel
theorem dX7_rest_51 : decode cX7_rest 51 = .ok (.aload_n 0, 1) := by decide +kernel
theorem dX7_rest_52 : decode cX7_rest 52 = .ok (.getfield 9, 3) := by decide +kernel
theorem dX7_rest_55 : decode cX7_rest 55 = .ok (.iconst 4, 1) := by decide +kernel
theorem dX7_rest_56 : decode cX7_rest 56 = .ok (.iconst (-1), 1) := by decide +kernel
theorem dX7_rest_57 : decode cX7_rest 57 = .ok (.iastore, 1) := by decide +kernel
theorem dX7_rest_58 : decode cX7_rest 58 = .ok (.aload_n 0, 1) := by decide +kernel
theorem dX7_rest_59 : decode cX7_rest 59 = .ok (.iload 5, 2) := by decide +kernel
theorem dX7_rest_61 : decode cX7_rest 61 = .ok (.invokevirtual 139, 3) := by decide +kernel
theorem dX7_rest_64 : decode cX7_rest 64 = .ok (.aload_n 0, 1) := by decide +kernel
theorem dX7_rest_65 : decode cX7_rest 65 = .ok (.getfield 9, 3) := by decide +kernel
theorem dX7_rest_68 : decode cX7_rest 68 = .ok (.iconst 3, 1) := by decide +kernel
theorem dX7_rest_69 : decode cX7_rest 69 = .ok (.aload_n 0, 1) := by decide +kernel
theorem dX7_rest_70 : decode cX7_rest 70 = .ok (.getfield 16, 3) := by decide +kernel
theorem dX7_rest_73 : decode cX7_rest 73 = .ok (.iconst 3, 1) := by decide +kernel
theorem dX7_rest_74 : decode cX7_rest 74 = .ok (.iaload, 1) := by decide +kernel
theorem dX7_rest_75 : decode cX7_rest 75 = .ok (.iastore, 1) := by decide +kernel
theorem dX7_rest_76 : decode cX7_rest 76 = .ok (.aload_n 0, 1) := by decide +kernel
theorem dX7_rest_77 : decode cX7_rest 77 = .ok (.getfield 9, 3) := by decide +kernel
theorem dX7_rest_80 : decode cX7_rest 80 = .ok (.iconst 4, 1) := by decide +kernel
theorem dX7_rest_81 : decode cX7_rest 81 = .ok (.aload_n 0, 1) := by decide +kernel
theorem dX7_rest_82 : decode cX7_rest 82 = .ok (.getfield 16, 3) := by decide +kernel
theorem dX7_rest_85 : decode cX7_rest 85 = .ok (.iconst 4, 1) := by decide +kernel
theorem dX7_rest_86 : decode cX7_rest 86 = .ok (.iaload, 1) := by decide +kernel
theorem dX7_rest_87 : decode cX7_rest 87 = .ok (.iastore, 1) := by decide +kernel
theorem dX7_rest_88 : decode cX7_rest 88 = .ok (.aload_n 0, 1) := by decide +kernel
theorem dX7_rest_89 : decode cX7_rest 89 = .ok (.iload_n 2, 1) := by decide +kernel
theorem dX7_rest_90 : decode cX7_rest 90 = .ok (.invokevirtual 139, 3) := by decide +kernel
theorem dX7_rest_93 : decode cX7_rest 93 = .ok (.aload_n 0, 1) := by decide +kernel
theorem dX7_rest_94 : decode cX7_rest 94 = .ok (.iload_n 1, 1) := by decide +kernel
theorem dX7_rest_95 : decode cX7_rest 95 = .ok (.invokevirtual 133, 3) := by decide +kernel
theorem dX7_rest_98 : decode cX7_rest 98 = .ok (.invokestatic 91, 3) := by decide +kernel
theorem dX7_rest_101 : decode cX7_rest 101 = .ok (.istore 6, 2) := by decide +kernel
theorem dX7_rest_103 : decode cX7_rest 103 = .ok (.aload_n 0, 1) := by decide +kernel
theorem dX7_rest_104 : decode cX7_rest 104 = .ok (.invokevirtual 150, 3) := by decide +kernel
theorem dX7_rest_107 : decode cX7_rest 107 = .ok (.iload 6, 2) := by decide +kernel
theorem dX7_rest_109 : decode cX7_rest 109 = .ok (.iload 4, 2) := by decide +kernel
theorem dX7_rest_111 : decode cX7_rest 111 = .ok (.if_icmp .le 8, 3) := by decide +kernel
theorem dX7_rest_114 : decode cX7_rest 114 = .ok (.iload 5, 2) := by decide +kernel
theorem dX7_rest_116 : decode cX7_rest 116 = .ok (.goto 4, 3) := by decide +kernel
theorem dX7_rest_119 : decode cX7_rest 119 = .ok (.iload_n 3, 1) := by decide +kernel
theorem dX7_rest_120 : decode cX7_rest 120 = .ok (.istore_n 3, 1) := by decide +kernel
theorem dX7_rest_121 : decode cX7_rest 121 = .ok (.iload 6, 2) := by decide +kernel
theorem dX7_rest_123 : decode cX7_rest 123 = .ok (.iload 4, 2) := by decide +kernel
theorem dX7_rest_125 : decode cX7_rest 125 = .ok (.if_icmp .le 8, 3) := by decide +kernel
theorem dX7_rest_128 : decode cX7_rest 128 = .ok (.iload 6, 2) := by decide +kernel
theorem dX7_rest_130 : decode cX7_rest 130 = .ok (.goto 5, 3) := by decide +kernel
theorem dX7_rest_133 : decode cX7_rest 133 = .ok (.iload 4, 2) := by decide +kernel
theorem dX7_rest_135 : decode cX7_rest 135 = .ok (.istore 4, 2) := by decide +kernel
theorem dX7_rest_137 : decode cX7_rest 137 = .ok (.iinc 5 1, 3) := by decide +kernel
theorem dX7_rest_140 : decode cX7_rest 140 = .ok (.goto (-103), 3) := by decide +kernel
theorem dX7_rest_143 : decode cX7_rest 143 = .ok (.iload_n 3, 1) := by decide +kernel
theorem dX7_rest_144 : decode cX7_rest 144 = .ok (.ireturn, 1) := by decide +kernel
set_option maxRecDepth 20000 in
theorem ggX7_champion_X7_in : GoodIn wsX7_champion wsX7_in := goodIn_r _ [6] (by decide +kernel) (by decide +kernel)
set_option maxRecDepth 20000 in
theorem gX7_champion_X7_in : GoodIn wsX7_champion (va_wsS RX7 47 yX7_in wsX7_in) := goodIn_app (goodIn_of _ (by decide +kernel)) ggX7_champion_X7_in
set_option maxRecDepth 20000 in
theorem ggX7_champion_X7_finds : GoodIn wsX7_champion wsX7_finds := goodIn_r _ [10, 11, 1, 111, 112, 113, 114, 115, 116, 117, 118, 119, 120, 121, 122, 123, 124, 125, 126, 127] (by decide +kernel) (by decide +kernel)
set_option maxRecDepth 20000 in
theorem gX7_champion_X7_finds : GoodIn wsX7_champion (wsV RX7 43 RX7 yX7_finds wsX7_finds) := goodIn_app (goodIn_of _ (by decide +kernel)) ggX7_champion_X7_finds
set_option maxRecDepth 20000 in
theorem ggX7_champion_X7_thinks : GoodIn wsX7_champion wsX7_thinks := goodIn_r _ [15, 2, 16, 17, 18, 5, 19, 111, 112, 113, 114, 115, 116, 117, 118, 119, 120, 121, 122, 123, 124, 125, 126, 127] (by decide +kernel) (by decide +kernel)
set_option maxRecDepth 20000 in
theorem gX7_champion_X7_thinks : GoodIn wsX7_champion (wsV RX7 147 RX7 yX7_thinks wsX7_thinks) := goodIn_app (goodIn_of _ (by decide +kernel)) ggX7_champion_X7_thinks
set_option maxRecDepth 20000 in
theorem ggX7_champion_X7_goesFor : GoodIn wsX7_champion wsX7_goesFor := goodIn_r _ [23, 24, 25, 26, 5, 27, 2, 28, 29, 30, 31, 32, 33, 34, 35, 36, 37, 38, 39, 40, 41, 42, 43, 44, 45, 46, 47, 48, 49, 50, 51, 52, 53, 54, 55, 56, 57, 58, 59, 60, 61, 62, 63, 64, 65, 66, 67, 68, 69, 70, 71, 72, 73, 74, 75, 76, 77, 78, 79, 80, 81, 82, 83, 84, 85, 86, 87, 88, 89, 90, 91, 92, 93, 94, 95, 96, 97, 98, 99, 100, 101, 111, 112, 113, 114, 115, 116, 117, 118, 119, 120, 121, 122, 123, 124, 125, 126, 127] (by decide +kernel) (by decide +kernel)
set_option maxRecDepth 20000 in
theorem gX7_champion_X7_goesFor : GoodIn wsX7_champion (wsV RX7 139 RX7 yX7_goesFor wsX7_goesFor) := goodIn_app (goodIn_of _ (by decide +kernel)) ggX7_champion_X7_goesFor
set_option maxRecDepth 20000 in
theorem ggX7_champion_X7_it : GoodIn wsX7_champion wsX7_it := goodIn_r _ [62, 2, 111, 112, 113, 114, 115, 116, 117, 118, 119, 120, 121, 122, 123, 124, 125, 126, 127] (by decide +kernel) (by decide +kernel)
set_option maxRecDepth 20000 in
theorem gX7_champion_X7_it : GoodIn wsX7_champion (wsV RX7 82 RX7 yX7_it wsX7_it) := goodIn_app (goodIn_of _ (by decide +kernel)) ggX7_champion_X7_it
set_option maxRecDepth 20000 in
theorem ggX7_champion_X7_putsBack : GoodIn wsX7_champion wsX7_putsBack := goodIn_r _ [105, 16, 2, 17, 18, 5, 19, 111, 112, 113, 114, 115, 116, 117, 118, 119, 120, 121, 122, 123, 124, 125, 126, 127] (by decide +kernel) (by decide +kernel)
set_option maxRecDepth 20000 in
theorem gX7_champion_X7_putsBack : GoodIn wsX7_champion (wsV RX7 150 RX7 yX7_putsBack wsX7_putsBack) := goodIn_app (goodIn_of _ (by decide +kernel)) ggX7_champion_X7_putsBack
set_option maxRecDepth 20000 in
theorem ggX7_champion_X7_orNone : GoodIn wsX7_champion wsX7_orNone := goodIn_r _ [109, 110, 7, 8, 9, 5, 10, 11, 1, 111, 112, 113, 114, 115, 116, 117, 118, 119, 120, 121, 122, 123, 124, 125, 126, 127] (by decide +kernel) (by decide +kernel)
set_option maxRecDepth 20000 in
theorem gX7_champion_X7_orNone : GoodIn wsX7_champion (wsV RX7 157 RX7 yX7_orNone wsX7_orNone) := goodIn_app (goodIn_of _ (by decide +kernel)) ggX7_champion_X7_orNone
theorem dX7_champion_0 : decode cX7_champion 0 = .ok (.iload_n 1, 1) := by decide +kernel
theorem dX7_champion_1 : decode cX7_champion 1 = .ok (.i2l, 1) := by decide +kernel
theorem dX7_champion_2 : decode cX7_champion 2 = .ok (.iconst 0, 1) := by decide +kernel
theorem dX7_champion_3 : decode cX7_champion 3 = .ok (.bipush 100, 2) := by decide +kernel
theorem dX7_champion_5 : decode cX7_champion 5 = .ok (.invokestatic 47, 3) := by decide +kernel
theorem dX7_champion_8 : decode cX7_champion 8 = .ok (.ifCond .ne 10, 3) := by decide +kernel
theorem dX7_champion_11 : decode cX7_champion 11 = .ok (.aload_n 0, 1) := by decide +kernel
theorem dX7_champion_12 : decode cX7_champion 12 = .ok (.ldc 41, 2) := by decide +kernel
theorem dX7_champion_14 : decode cX7_champion 14 = .ok (.invokevirtual 43, 3) := by decide +kernel
theorem dX7_champion_17 : decode cX7_champion 17 = .ok (.ireturn, 1) := by decide +kernel
theorem dX7_champion_18 : decode cX7_champion 18 = .ok (.aload_n 0, 1) := by decide +kernel
theorem dX7_champion_19 : decode cX7_champion 19 = .ok (.invokevirtual 147, 3) := by decide +kernel
theorem dX7_champion_22 : decode cX7_champion 22 = .ok (.aload_n 0, 1) := by decide +kernel
theorem dX7_champion_23 : decode cX7_champion 23 = .ok (.iload_n 1, 1) := by decide +kernel
theorem dX7_champion_24 : decode cX7_champion 24 = .ok (.invokevirtual 139, 3) := by decide +kernel
theorem dX7_champion_27 : decode cX7_champion 27 = .ok (.iconst (-1), 1) := by decide +kernel
theorem dX7_champion_28 : decode cX7_champion 28 = .ok (.istore_n 2, 1) := by decide +kernel
theorem dX7_champion_29 : decode cX7_champion 29 = .ok (.iconst 0, 1) := by decide +kernel
theorem dX7_champion_30 : decode cX7_champion 30 = .ok (.istore_n 3, 1) := by decide +kernel
theorem dX7_champion_31 : decode cX7_champion 31 = .ok (.iload_n 3, 1) := by decide +kernel
theorem dX7_champion_32 : decode cX7_champion 32 = .ok (.aload_n 0, 1) := by decide +kernel
theorem dX7_champion_33 : decode cX7_champion 33 = .ok (.getfield 9, 3) := by decide +kernel
theorem dX7_champion_36 : decode cX7_champion 36 = .ok (.iconst 2, 1) := by decide +kernel
theorem dX7_champion_37 : decode cX7_champion 37 = .ok (.iaload, 1) := by decide +kernel
theorem dX7_champion_38 : decode cX7_champion 38 = .ok (.if_icmp .ge 34, 3) := by decide +kernel
theorem dX7_champion_41 : decode cX7_champion 41 = .ok (.iload_n 2, 1) := by decide +kernel
theorem dX7_champion_42 : decode cX7_champion 42 = .ok (.ifCond .lt 18, 3) := by decide +kernel
theorem dX7_champion_45 : decode cX7_champion 45 = .ok (.aload_n 0, 1) := by decide +kernel
theorem dX7_champion_46 : decode cX7_champion 46 = .ok (.iload_n 3, 1) := by decide +kernel
theorem dX7_champion_47 : decode cX7_champion 47 = .ok (.iconst 1, 1) := by decide +kernel
theorem dX7_champion_48 : decode cX7_champion 48 = .ok (.invokevirtual 82, 3) := by decide +kernel
theorem dX7_champion_51 : decode cX7_champion 51 = .ok (.aload_n 0, 1) := by decide +kernel
theorem dX7_champion_52 : decode cX7_champion 52 = .ok (.iload_n 2, 1) := by decide +kernel
theorem dX7_champion_53 : decode cX7_champion 53 = .ok (.iconst 1, 1) := by decide +kernel
theorem dX7_champion_54 : decode cX7_champion 54 = .ok (.invokevirtual 82, 3) := by decide +kernel
theorem dX7_champion_57 : decode cX7_champion 57 = .ok (.if_icmp .le 7, 3) := by decide +kernel
theorem dX7_champion_60 : decode cX7_champion 60 = .ok (.iload_n 3, 1) := by decide +kernel
theorem dX7_champion_61 : decode cX7_champion 61 = .ok (.goto 4, 3) := by decide +kernel
theorem dX7_champion_64 : decode cX7_champion 64 = .ok (.iload_n 2, 1) := by decide +kernel
theorem dX7_champion_65 : decode cX7_champion 65 = .ok (.istore_n 2, 1) := by decide +kernel
theorem dX7_champion_66 : decode cX7_champion 66 = .ok (.iinc 3 1, 3) := by decide +kernel
theorem dX7_champion_69 : decode cX7_champion 69 = .ok (.goto (-38), 3) := by decide +kernel
theorem dX7_champion_72 : decode cX7_champion 72 = .ok (.aload_n 0, 1) := by decide +kernel
theorem dX7_champion_73 : decode cX7_champion 73 = .ok (.invokevirtual 150, 3) := by decide +kernel
theorem dX7_champion_76 : decode cX7_champion 76 = .ok (.aload_n 0, 1) := by decide +kernel
theorem dX7_champion_77 : decode cX7_champion 77 = .ok (.iload_n 2, 1) := by decide +kernel
theorem dX7_champion_78 : decode cX7_champion 78 = .ok (.invokevirtual 157, 3) := by decide +kernel
theorem dX7_champion_81 : decode cX7_champion 81 = .ok (.ireturn, 1) := by decide +kernel
set_option maxRecDepth 20000 in
theorem ggX7_feed_X7_in : GoodIn wsX7_feed wsX7_in := goodIn_r _ [8] (by decide +kernel) (by decide +kernel)
set_option maxRecDepth 20000 in
theorem gX7_feed_X7_in : GoodIn wsX7_feed (va_wsS RX7 47 yX7_in wsX7_in) := goodIn_app (goodIn_of _ (by decide +kernel)) ggX7_feed_X7_in
set_option maxRecDepth 20000 in
theorem ggX7_feed_X7_finds : GoodIn wsX7_feed wsX7_finds := goodIn_r _ [12, 13, 1, 14, 15, 16, 17, 18, 19, 20, 21, 22, 23, 24, 25, 26, 27, 28, 29, 30] (by decide +kernel) (by decide +kernel)
set_option maxRecDepth 20000 in
theorem gX7_feed_X7_finds : GoodIn wsX7_feed (wsV RX7 43 RX7 yX7_finds wsX7_finds) := goodIn_app (goodIn_of _ (by decide +kernel)) ggX7_feed_X7_finds
theorem dX7_feed_0 : decode cX7_feed 0 = .ok (.iload_n 2, 1) := by decide +kernel
theorem dX7_feed_1 : decode cX7_feed 1 = .ok (.i2l, 1) := by decide +kernel
theorem dX7_feed_2 : decode cX7_feed 2 = .ok (.iconst 1, 1) := by decide +kernel
theorem dX7_feed_3 : decode cX7_feed 3 = .ok (.iconst 4, 1) := by decide +kernel
theorem dX7_feed_4 : decode cX7_feed 4 = .ok (.invokestatic 47, 3) := by decide +kernel
theorem dX7_feed_7 : decode cX7_feed 7 = .ok (.ifCond .ne 10, 3) := by decide +kernel
theorem dX7_feed_10 : decode cX7_feed 10 = .ok (.aload_n 0, 1) := by decide +kernel
theorem dX7_feed_11 : decode cX7_feed 11 = .ok (.ldc 41, 2) := by decide +kernel
theorem dX7_feed_13 : decode cX7_feed 13 = .ok (.invokevirtual 43, 3) := by decide +kernel
theorem dX7_feed_16 : decode cX7_feed 16 = .ok (.ireturn, 1) := by decide +kernel
theorem dX7_feed_17 : decode cX7_feed 17 = .ok (.aload_n 0, 1) := by decide +kernel
theorem dX7_feed_18 : decode cX7_feed 18 = .ok (.getfield 160, 3) := by decide +kernel
theorem dX7_feed_21 : decode cX7_feed 21 = .ok (.iload_n 2, 1) := by decide +kernel
theorem dX7_feed_22 : decode cX7_feed 22 = .ok (.iadd, 1) := by decide +kernel
theorem dX7_feed_23 : decode cX7_feed 23 = .ok (.bipush 120, 2) := by decide +kernel
theorem dX7_feed_25 : decode cX7_feed 25 = .ok (.if_icmp .le 10, 3) := by decide +kernel
theorem dX7_feed_28 : decode cX7_feed 28 = .ok (.aload_n 0, 1) := by decide +kernel
theorem dX7_feed_29 : decode cX7_feed 29 = .ok (.ldc 101, 2) := by decide +kernel
theorem dX7_feed_31 : decode cX7_feed 31 = .ok (.invokevirtual 43, 3) := by decide +kernel
theorem dX7_feed_34 : decode cX7_feed 34 = .ok (.ireturn, 1) := by decide +kernel
theorem dX7_feed_35 : decode cX7_feed 35 = .ok (.iload_n 2, 1) := by decide +kernel
theorem dX7_feed_36 : decode cX7_feed 36 = .ok (.iconst 1, 1) := by decide +kernel
theorem dX7_feed_37 : decode cX7_feed 37 = .ok (.isub, 1) := by decide +kernel
theorem dX7_feed_38 : decode cX7_feed 38 = .ok (.istore_n 3, 1) := by decide +kernel
theorem dX7_feed_39 : decode cX7_feed 39 = .ok (.iload_n 3, 1) := by decide +kernel
theorem dX7_feed_40 : decode cX7_feed 40 = .ok (.ifCond .lt 38, 3) := by decide +kernel
theorem dX7_feed_43 : decode cX7_feed 43 = .ok (.aload_n 0, 1) := by decide +kernel
theorem dX7_feed_44 : decode cX7_feed 44 = .ok (.getfield 28, 3) := by decide +kernel
theorem dX7_feed_47 : decode cX7_feed 47 = .ok (.aload_n 0, 1) := by decide +kernel
theorem dX7_feed_48 : decode cX7_feed 48 = .ok (.getfield 160, 3) := by decide +kernel
theorem dX7_feed_51 : decode cX7_feed 51 = .ok (.iload_n 1, 1) := by decide +kernel
theorem dX7_feed_52 : decode cX7_feed 52 = .ok (.bipush 8, 2) := by decide +kernel
theorem dX7_feed_54 : decode cX7_feed 54 = .ok (.iload_n 3, 1) := by decide +kernel
theorem dX7_feed_55 : decode cX7_feed 55 = .ok (.imul, 1) := by decide +kernel
theorem dX7_feed_56 : decode cX7_feed 56 = .ok (.ishr, 1) := by decide +kernel
theorem dX7_feed_57 : decode cX7_feed 57 = .ok (.sipush 255, 3) := by decide +kernel
theorem dX7_feed_60 : decode cX7_feed 60 = .ok (.iand, 1) := by decide +kernel
theorem dX7_feed_61 : decode cX7_feed 61 = .ok (.iastore, 1) := by decide +kernel
theorem dX7_feed_62 : decode cX7_feed 62 = .ok (.aload_n 0, 1) := by decide +kernel
theorem dX7_feed_63 : decode cX7_feed 63 = .ok (.dup, 1) := by decide +kernel
theorem dX7_feed_64 : decode cX7_feed 64 = .ok (.getfield 160, 3) := by decide +kernel
theorem dX7_feed_67 : decode cX7_feed 67 = .ok (.iconst 1, 1) := by decide +kernel
theorem dX7_feed_68 : decode cX7_feed 68 = .ok (.iadd, 1) := by decide +kernel
theorem dX7_feed_69 : decode cX7_feed 69 = .ok (.putfield 160, 3) := by decide +kernel
theorem dX7_feed_72 : decode cX7_feed 72 = .ok (.iinc 3 (-1), 3) := by decide +kernel
theorem dX7_feed_75 : decode cX7_feed 75 = .ok (.goto (-36), 3) := by decide +kernel
theorem dX7_feed_78 : decode cX7_feed 78 = .ok (.aload_n 0, 1) := by decide +kernel
theorem dX7_feed_79 : decode cX7_feed 79 = .ok (.getfield 160, 3) := by decide +kernel
theorem dX7_feed_82 : decode cX7_feed 82 = .ok (.ireturn, 1) := by decide +kernel
theorem dX7_wipe_0 : decode cX7_wipe 0 = .ok (.aload_n 0, 1) := by decide +kernel
theorem dX7_wipe_1 : decode cX7_wipe 1 = .ok (.getfield 160, 3) := by decide +kernel
theorem dX7_wipe_4 : decode cX7_wipe 4 = .ok (.istore_n 1, 1) := by decide +kernel
theorem dX7_wipe_5 : decode cX7_wipe 5 = .ok (.aload_n 0, 1) := by decide +kernel
theorem dX7_wipe_6 : decode cX7_wipe 6 = .ok (.iconst 0, 1) := by decide +kernel
theorem dX7_wipe_7 : decode cX7_wipe 7 = .ok (.putfield 160, 3) := by decide +kernel
theorem dX7_wipe_10 : decode cX7_wipe 10 = .ok (.iload_n 1, 1) := by decide +kernel
theorem dX7_wipe_11 : decode cX7_wipe 11 = .ok (.ireturn, 1) := by decide +kernel
set_option maxRecDepth 20000 in
theorem ggX7_isByte_X7_in : GoodIn wsX7_isByte wsX7_in := goodIn_r _ [6] (by decide +kernel) (by decide +kernel)
set_option maxRecDepth 20000 in
theorem gX7_isByte_X7_in : GoodIn wsX7_isByte (va_wsS RX7 47 yX7_in wsX7_in) := goodIn_app (goodIn_of _ (by decide +kernel)) ggX7_isByte_X7_in
theorem dX7_isByte_0 : decode cX7_isByte 0 = .ok (.iload_n 1, 1) := by decide +kernel
theorem dX7_isByte_1 : decode cX7_isByte 1 = .ok (.aload_n 0, 1) := by decide +kernel
theorem dX7_isByte_2 : decode cX7_isByte 2 = .ok (.getfield 160, 3) := by decide +kernel
theorem dX7_isByte_5 : decode cX7_isByte 5 = .ok (.if_icmp .ge 22, 3) := by decide +kernel
theorem dX7_isByte_8 : decode cX7_isByte 8 = .ok (.aload_n 0, 1) := by decide +kernel
theorem dX7_isByte_9 : decode cX7_isByte 9 = .ok (.getfield 28, 3) := by decide +kernel
theorem dX7_isByte_12 : decode cX7_isByte 12 = .ok (.iload_n 1, 1) := by decide +kernel
theorem dX7_isByte_13 : decode cX7_isByte 13 = .ok (.iaload, 1) := by decide +kernel
theorem dX7_isByte_14 : decode cX7_isByte 14 = .ok (.i2l, 1) := by decide +kernel
theorem dX7_isByte_15 : decode cX7_isByte 15 = .ok (.iload_n 2, 1) := by decide +kernel
theorem dX7_isByte_16 : decode cX7_isByte 16 = .ok (.iload_n 3, 1) := by decide +kernel
theorem dX7_isByte_17 : decode cX7_isByte 17 = .ok (.invokestatic 47, 3) := by decide +kernel
theorem dX7_isByte_20 : decode cX7_isByte 20 = .ok (.ifCond .eq 7, 3) := by decide +kernel
theorem dX7_isByte_23 : decode cX7_isByte 23 = .ok (.iconst 1, 1) := by decide +kernel
theorem dX7_isByte_24 : decode cX7_isByte 24 = .ok (.goto 4, 3) := by decide +kernel
theorem dX7_isByte_27 : decode cX7_isByte 27 = .ok (.iconst 0, 1) := by decide +kernel
theorem dX7_isByte_28 : decode cX7_isByte 28 = .ok (.ireturn, 1) := by decide +kernel
theorem dX7_isName_0 : decode cX7_isName 0 = .ok (.iload_n 2, 1) := by decide +kernel
theorem dX7_isName_1 : decode cX7_isName 1 = .ok (.bipush 8, 2) := by decide +kernel
theorem dX7_isName_3 : decode cX7_isName 3 = .ok (.if_icmp .gt 26, 3) := by decide +kernel
theorem dX7_isName_6 : decode cX7_isName 6 = .ok (.iload_n 2, 1) := by decide +kernel
theorem dX7_isName_7 : decode cX7_isName 7 = .ok (.bipush 8, 2) := by decide +kernel
theorem dX7_isName_9 : decode cX7_isName 9 = .ok (.if_icmp .eq 16, 3) := by decide +kernel
theorem dX7_isName_12 : decode cX7_isName 12 = .ok (.getstatic 164, 3) := by decide +kernel
theorem dX7_isName_15 : decode cX7_isName 15 = .ok (.bipush 8, 2) := by decide +kernel
theorem dX7_isName_17 : decode cX7_isName 17 = .ok (.iload_n 1, 1) := by decide +kernel
theorem dX7_isName_18 : decode cX7_isName 18 = .ok (.imul, 1) := by decide +kernel
theorem dX7_isName_19 : decode cX7_isName 19 = .ok (.iload_n 2, 1) := by decide +kernel
theorem dX7_isName_20 : decode cX7_isName 20 = .ok (.iadd, 1) := by decide +kernel
theorem dX7_isName_21 : decode cX7_isName 21 = .ok (.iaload, 1) := by decide +kernel
theorem dX7_isName_22 : decode cX7_isName 22 = .ok (.ifCond .ne 7, 3) := by decide +kernel
theorem dX7_isName_25 : decode cX7_isName 25 = .ok (.iconst 1, 1) := by decide +kernel
theorem dX7_isName_26 : decode cX7_isName 26 = .ok (.goto 4, 3) := by decide +kernel
theorem dX7_isName_29 : decode cX7_isName 29 = .ok (.iconst 0, 1) := by decide +kernel
theorem dX7_isName_30 : decode cX7_isName 30 = .ok (.istore_n 3, 1) := by decide +kernel
theorem dX7_isName_31 : decode cX7_isName 31 = .ok (.iconst 0, 1) := by decide +kernel
theorem dX7_isName_32 : decode cX7_isName 32 = .ok (.istore 4, 2) := by decide +kernel
theorem dX7_isName_34 : decode cX7_isName 34 = .ok (.iload 4, 2) := by decide +kernel
theorem dX7_isName_36 : decode cX7_isName 36 = .ok (.iload_n 2, 1) := by decide +kernel
theorem dX7_isName_37 : decode cX7_isName 37 = .ok (.if_icmp .ge 45, 3) := by decide +kernel
theorem dX7_isName_40 : decode cX7_isName 40 = .ok (.iload_n 3, 1) := by decide +kernel
theorem dX7_isName_41 : decode cX7_isName 41 = .ok (.ifCond .eq 41, 3) := by decide +kernel
theorem dX7_isName_44 : decode cX7_isName 44 = .ok (.getstatic 164, 3) := by decide +kernel
theorem dX7_isName_47 : decode cX7_isName 47 = .ok (.bipush 8, 2) := by decide +kernel
theorem dX7_isName_49 : decode cX7_isName 49 = .ok (.iload_n 1, 1) := by decide +kernel
theorem dX7_isName_50 : decode cX7_isName 50 = .ok (.imul, 1) := by decide +kernel
theorem dX7_isName_51 : decode cX7_isName 51 = .ok (.iload 4, 2) := by decide +kernel
theorem dX7_isName_53 : decode cX7_isName 53 = .ok (.iadd, 1) := by decide +kernel
theorem dX7_isName_54 : decode cX7_isName 54 = .ok (.iaload, 1) := by decide +kernel
theorem dX7_isName_55 : decode cX7_isName 55 = .ok (.aload_n 0, 1) := by decide +kernel
theorem dX7_isName_56 : decode cX7_isName 56 = .ok (.getfield 28, 3) := by decide +kernel
theorem dX7_isName_59 : decode cX7_isName 59 = .ok (.aload_n 0, 1) := by decide +kernel
theorem dX7_isName_60 : decode cX7_isName 60 = .ok (.getfield 167, 3) := by decide +kernel
theorem dX7_isName_63 : decode cX7_isName 63 = .ok (.iload 4, 2) := by decide +kernel
theorem dX7_isName_65 : decode cX7_isName 65 = .ok (.iadd, 1) := by decide +kernel
theorem dX7_isName_66 : decode cX7_isName 66 = .ok (.iaload, 1) := by decide +kernel
theorem dX7_isName_67 : decode cX7_isName 67 = .ok (.if_icmp .ne 7, 3) := by decide +kernel
theorem dX7_isName_70 : decode cX7_isName 70 = .ok (.iconst 1, 1) := by decide +kernel
theorem dX7_isName_71 : decode cX7_isName 71 = .ok (.goto 4, 3) := by decide +kernel
theorem dX7_isName_74 : decode cX7_isName 74 = .ok (.iconst 0, 1) := by decide +kernel
theorem dX7_isName_75 : decode cX7_isName 75 = .ok (.istore_n 3, 1) := by decide +kernel
theorem dX7_isName_76 : decode cX7_isName 76 = .ok (.iinc 4 1, 3) := by decide +kernel
theorem dX7_isName_79 : decode cX7_isName 79 = .ok (.goto (-45), 3) := by decide +kernel
theorem dX7_isName_82 : decode cX7_isName 82 = .ok (.iload_n 3, 1) := by decide +kernel
theorem dX7_isName_83 : decode cX7_isName 83 = .ok (.ireturn, 1) := by decide +kernel
set_option maxRecDepth 20000 in
theorem ggX7_wordHere_X7_isName : GoodIn wsX7_wordHere wsX7_isName := goodIn_r _ [7, 8, 9, 2, 10, 11, 12, 13, 14, 15, 16, 17, 18, 19, 20, 21, 22, 23, 24, 25, 26] (by decide +kernel) (by decide +kernel)
set_option maxRecDepth 20000 in
theorem gX7_wordHere_X7_isName : GoodIn wsX7_wordHere (wsV RX7 173 RX7 yX7_isName wsX7_isName) := goodIn_app (goodIn_of _ (by decide +kernel)) ggX7_wordHere_X7_isName
theorem dX7_wordHere_0 : decode cX7_wordHere 0 = .ok (.iconst 0, 1) := by decide +kernel
theorem dX7_wordHere_1 : decode cX7_wordHere 1 = .ok (.istore_n 1, 1) := by decide +kernel
theorem dX7_wordHere_2 : decode cX7_wordHere 2 = .ok (.iload_n 1, 1) := by decide +kernel
theorem dX7_wordHere_3 : decode cX7_wordHere 3 = .ok (.bipush 10, 2) := by decide +kernel
theorem dX7_wordHere_5 : decode cX7_wordHere 5 = .ok (.if_icmp .ge 26, 3) := by decide +kernel
theorem dX7_wordHere_8 : decode cX7_wordHere 8 = .ok (.aload_n 0, 1) := by decide +kernel
theorem dX7_wordHere_9 : decode cX7_wordHere 9 = .ok (.iload_n 1, 1) := by decide +kernel
theorem dX7_wordHere_10 : decode cX7_wordHere 10 = .ok (.aload_n 0, 1) := by decide +kernel
theorem dX7_wordHere_11 : decode cX7_wordHere 11 = .ok (.getfield 170, 3) := by decide +kernel
theorem dX7_wordHere_14 : decode cX7_wordHere 14 = .ok (.aload_n 0, 1) := by decide +kernel
theorem dX7_wordHere_15 : decode cX7_wordHere 15 = .ok (.getfield 167, 3) := by decide +kernel
theorem dX7_wordHere_18 : decode cX7_wordHere 18 = .ok (.isub, 1) := by decide +kernel
theorem dX7_wordHere_19 : decode cX7_wordHere 19 = .ok (.invokevirtual 173, 3) := by decide +kernel
theorem dX7_wordHere_22 : decode cX7_wordHere 22 = .ok (.ifCond .ne 9, 3) := by decide +kernel
theorem dX7_wordHere_25 : decode cX7_wordHere 25 = .ok (.iinc 1 1, 3) := by decide +kernel
theorem dX7_wordHere_28 : decode cX7_wordHere 28 = .ok (.goto (-26), 3) := by decide +kernel
theorem dX7_wordHere_31 : decode cX7_wordHere 31 = .ok (.iload_n 1, 1) := by decide +kernel
theorem dX7_wordHere_32 : decode cX7_wordHere 32 = .ok (.bipush 10, 2) := by decide +kernel
theorem dX7_wordHere_34 : decode cX7_wordHere 34 = .ok (.if_icmp .ge 7, 3) := by decide +kernel
theorem dX7_wordHere_37 : decode cX7_wordHere 37 = .ok (.iload_n 1, 1) := by decide +kernel
theorem dX7_wordHere_38 : decode cX7_wordHere 38 = .ok (.goto 5, 3) := by decide +kernel
theorem dX7_wordHere_41 : decode cX7_wordHere 41 = .ok (.bipush 23, 2) := by decide +kernel
theorem dX7_wordHere_43 : decode cX7_wordHere 43 = .ok (.ireturn, 1) := by decide +kernel
set_option maxRecDepth 20000 in
theorem ggX7_reads_X7_isByte : GoodIn wsX7_reads wsX7_isByte := goodIn_r _ [11, 4, 6, 12, 13, 10, 14, 24, 25, 26, 27, 28, 29, 30, 31, 32, 33, 34, 35, 36, 37, 38, 39, 40] (by decide +kernel) (by decide +kernel)
set_option maxRecDepth 20000 in
theorem gX7_reads_X7_isByte : GoodIn wsX7_reads (wsV RX7 176 RX7 yX7_isByte wsX7_isByte) := goodIn_app (goodIn_of _ (by decide +kernel)) ggX7_reads_X7_isByte
set_option maxRecDepth 20000 in
theorem ggX7_reads_X7_wordHere : GoodIn wsX7_reads wsX7_wordHere := goodIn_r _ [18, 1, 2, 19, 20, 21, 10, 22, 23, 6, 24, 25, 26, 27, 28, 29, 30, 31, 32, 33, 34, 35, 36, 37, 38, 39, 40] (by decide +kernel) (by decide +kernel)
set_option maxRecDepth 20000 in
theorem gX7_reads_X7_wordHere : GoodIn wsX7_reads (wsV RX7 186 RX7 yX7_wordHere wsX7_wordHere) := goodIn_app (goodIn_of _ (by decide +kernel)) ggX7_reads_X7_wordHere
theorem dX7_reads_0 : decode cX7_reads 0 = .ok (.aload_n 0, 1) := by decide +kernel
theorem dX7_reads_1 : decode cX7_reads 1 = .ok (.aload_n 0, 1) := by decide +kernel
theorem dX7_reads_2 : decode cX7_reads 2 = .ok (.getfield 170, 3) := by decide +kernel
theorem dX7_reads_5 : decode cX7_reads 5 = .ok (.bipush 32, 2) := by decide +kernel
theorem dX7_reads_7 : decode cX7_reads 7 = .ok (.bipush 32, 2) := by decide +kernel
theorem dX7_reads_9 : decode cX7_reads 9 = .ok (.invokevirtual 176, 3) := by decide +kernel
theorem dX7_reads_12 : decode cX7_reads 12 = .ok (.ifCond .eq 16, 3) := by decide +kernel
theorem dX7_reads_15 : decode cX7_reads 15 = .ok (.aload_n 0, 1) := by decide +kernel
theorem dX7_reads_16 : decode cX7_reads 16 = .ok (.dup, 1) := by decide +kernel
theorem dX7_reads_17 : decode cX7_reads 17 = .ok (.getfield 170, 3) := by decide +kernel
theorem dX7_reads_20 : decode cX7_reads 20 = .ok (.iconst 1, 1) := by decide +kernel
theorem dX7_reads_21 : decode cX7_reads 21 = .ok (.iadd, 1) := by decide +kernel
theorem dX7_reads_22 : decode cX7_reads 22 = .ok (.putfield 170, 3) := by decide +kernel
theorem dX7_reads_25 : decode cX7_reads 25 = .ok (.goto (-25), 3) := by decide +kernel
theorem dX7_reads_28 : decode cX7_reads 28 = .ok (.aload_n 0, 1) := by decide +kernel
theorem dX7_reads_29 : decode cX7_reads 29 = .ok (.aload_n 0, 1) := by decide +kernel
theorem dX7_reads_30 : decode cX7_reads 30 = .ok (.getfield 170, 3) := by decide +kernel
theorem dX7_reads_33 : decode cX7_reads 33 = .ok (.putfield 167, 3) := by decide +kernel
theorem dX7_reads_36 : decode cX7_reads 36 = .ok (.aload_n 0, 1) := by decide +kernel
theorem dX7_reads_37 : decode cX7_reads 37 = .ok (.iconst 0, 1) := by decide +kernel
theorem dX7_reads_38 : decode cX7_reads 38 = .ok (.putfield 180, 3) := by decide +kernel
theorem dX7_reads_41 : decode cX7_reads 41 = .ok (.aload_n 0, 1) := by decide +kernel
theorem dX7_reads_42 : decode cX7_reads 42 = .ok (.getfield 170, 3) := by decide +kernel
theorem dX7_reads_45 : decode cX7_reads 45 = .ok (.aload_n 0, 1) := by decide +kernel
theorem dX7_reads_46 : decode cX7_reads 46 = .ok (.getfield 160, 3) := by decide +kernel
theorem dX7_reads_49 : decode cX7_reads 49 = .ok (.if_icmp .ne 12, 3) := by decide +kernel
theorem dX7_reads_52 : decode cX7_reads 52 = .ok (.aload_n 0, 1) := by decide +kernel
theorem dX7_reads_53 : decode cX7_reads 53 = .ok (.bipush 22, 2) := by decide +kernel
theorem dX7_reads_55 : decode cX7_reads 55 = .ok (.putfield 183, 3) := by decide +kernel
theorem dX7_reads_58 : decode cX7_reads 58 = .ok (.goto 186, 3) := by decide +kernel
theorem dX7_reads_61 : decode cX7_reads 61 = .ok (.aload_n 0, 1) := by decide +kernel
theorem dX7_reads_62 : decode cX7_reads 62 = .ok (.aload_n 0, 1) := by decide +kernel
theorem dX7_reads_63 : decode cX7_reads 63 = .ok (.getfield 170, 3) := by decide +kernel
theorem dX7_reads_66 : decode cX7_reads 66 = .ok (.bipush 97, 2) := by decide +kernel
theorem dX7_reads_68 : decode cX7_reads 68 = .ok (.bipush 122, 2) := by decide +kernel
theorem dX7_reads_70 : decode cX7_reads 70 = .ok (.invokevirtual 176, 3) := by decide +kernel
theorem dX7_reads_73 : decode cX7_reads 73 = .ok (.ifCond .eq 42, 3) := by decide +kernel
theorem dX7_reads_76 : decode cX7_reads 76 = .ok (.aload_n 0, 1) := by decide +kernel
theorem dX7_reads_77 : decode cX7_reads 77 = .ok (.aload_n 0, 1) := by decide +kernel
theorem dX7_reads_78 : decode cX7_reads 78 = .ok (.getfield 170, 3) := by decide +kernel
theorem dX7_reads_81 : decode cX7_reads 81 = .ok (.bipush 97, 2) := by decide +kernel
theorem dX7_reads_83 : decode cX7_reads 83 = .ok (.bipush 122, 2) := by decide +kernel
theorem dX7_reads_85 : decode cX7_reads 85 = .ok (.invokevirtual 176, 3) := by decide +kernel
theorem dX7_reads_88 : decode cX7_reads 88 = .ok (.ifCond .eq 16, 3) := by decide +kernel
theorem dX7_reads_91 : decode cX7_reads 91 = .ok (.aload_n 0, 1) := by decide +kernel
theorem dX7_reads_92 : decode cX7_reads 92 = .ok (.dup, 1) := by decide +kernel
theorem dX7_reads_93 : decode cX7_reads 93 = .ok (.getfield 170, 3) := by decide +kernel
theorem dX7_reads_96 : decode cX7_reads 96 = .ok (.iconst 1, 1) := by decide +kernel
theorem dX7_reads_97 : decode cX7_reads 97 = .ok (.iadd, 1) := by decide +kernel
theorem dX7_reads_98 : decode cX7_reads 98 = .ok (.putfield 170, 3) := by decide +kernel
theorem dX7_reads_101 : decode cX7_reads 101 = .ok (.goto (-25), 3) := by decide +kernel
theorem dX7_reads_104 : decode cX7_reads 104 = .ok (.aload_n 0, 1) := by decide +kernel
theorem dX7_reads_105 : decode cX7_reads 105 = .ok (.aload_n 0, 1) := by decide +kernel
theorem dX7_reads_106 : decode cX7_reads 106 = .ok (.invokevirtual 186, 3) := by decide +kernel
theorem dX7_reads_109 : decode cX7_reads 109 = .ok (.putfield 183, 3) := by decide +kernel
theorem dX7_reads_112 : decode cX7_reads 112 = .ok (.goto 132, 3) := by decide +kernel
theorem dX7_reads_115 : decode cX7_reads 115 = .ok (.aload_n 0, 1) := by decide +kernel
theorem dX7_reads_116 : decode cX7_reads 116 = .ok (.aload_n 0, 1) := by decide +kernel
theorem dX7_reads_117 : decode cX7_reads 117 = .ok (.getfield 170, 3) := by decide +kernel
theorem dX7_reads_120 : decode cX7_reads 120 = .ok (.bipush 48, 2) := by decide +kernel
theorem dX7_reads_122 : decode cX7_reads 122 = .ok (.bipush 57, 2) := by decide +kernel
theorem dX7_reads_124 : decode cX7_reads 124 = .ok (.invokevirtual 176, 3) := by decide +kernel
theorem dX7_reads_127 : decode cX7_reads 127 = .ok (.ifCond .eq 81, 3) := by decide +kernel
theorem dX7_reads_130 : decode cX7_reads 130 = .ok (.aload_n 0, 1) := by decide +kernel
theorem dX7_reads_131 : decode cX7_reads 131 = .ok (.aload_n 0, 1) := by decide +kernel
theorem dX7_reads_132 : decode cX7_reads 132 = .ok (.getfield 170, 3) := by decide +kernel
theorem dX7_reads_135 : decode cX7_reads 135 = .ok (.bipush 48, 2) := by decide +kernel
theorem dX7_reads_137 : decode cX7_reads 137 = .ok (.bipush 57, 2) := by decide +kernel
theorem dX7_reads_139 : decode cX7_reads 139 = .ok (.invokevirtual 176, 3) := by decide +kernel
theorem dX7_reads_142 : decode cX7_reads 142 = .ok (.ifCond .eq 57, 3) := by decide +kernel
theorem dX7_reads_145 : decode cX7_reads 145 = .ok (.aload_n 0, 1) := by decide +kernel
theorem dX7_reads_146 : decode cX7_reads 146 = .ok (.aload_n 0, 1) := by decide +kernel
theorem dX7_reads_147 : decode cX7_reads 147 = .ok (.getfield 180, 3) := by decide +kernel
theorem dX7_reads_150 : decode cX7_reads 150 = .ok (.sipush 999, 3) := by decide +kernel
theorem dX7_reads_153 : decode cX7_reads 153 = .ok (.if_icmp .le 10, 3) := by decide +kernel
theorem dX7_reads_156 : decode cX7_reads 156 = .ok (.aload_n 0, 1) := by decide +kernel
theorem dX7_reads_157 : decode cX7_reads 157 = .ok (.getfield 180, 3) := by decide +kernel
theorem dX7_reads_160 : decode cX7_reads 160 = .ok (.goto 23, 3) := by decide +kernel
theorem dX7_reads_163 : decode cX7_reads 163 = .ok (.bipush 10, 2) := by decide +kernel
theorem dX7_reads_165 : decode cX7_reads 165 = .ok (.aload_n 0, 1) := by decide +kernel
theorem dX7_reads_166 : decode cX7_reads 166 = .ok (.getfield 180, 3) := by decide +kernel
theorem dX7_reads_169 : decode cX7_reads 169 = .ok (.imul, 1) := by decide +kernel
theorem dX7_reads_170 : decode cX7_reads 170 = .ok (.aload_n 0, 1) := by decide +kernel
theorem dX7_reads_171 : decode cX7_reads 171 = .ok (.getfield 28, 3) := by decide +kernel
theorem dX7_reads_174 : decode cX7_reads 174 = .ok (.aload_n 0, 1) := by decide +kernel
theorem dX7_reads_175 : decode cX7_reads 175 = .ok (.getfield 170, 3) := by decide +kernel
theorem dX7_reads_178 : decode cX7_reads 178 = .ok (.iaload, 1) := by decide +kernel
theorem dX7_reads_179 : decode cX7_reads 179 = .ok (.iadd, 1) := by decide +kernel
theorem dX7_reads_180 : decode cX7_reads 180 = .ok (.bipush 48, 2) := by decide +kernel
theorem dX7_reads_182 : decode cX7_reads 182 = .ok (.isub, 1) := by decide +kernel
theorem dX7_reads_183 : decode cX7_reads 183 = .ok (.putfield 180, 3) := by decide +kernel
theorem dX7_reads_186 : decode cX7_reads 186 = .ok (.aload_n 0, 1) := by decide +kernel
theorem dX7_reads_187 : decode cX7_reads 187 = .ok (.dup, 1) := by decide +kernel
theorem dX7_reads_188 : decode cX7_reads 188 = .ok (.getfield 170, 3) := by decide +kernel
theorem dX7_reads_191 : decode cX7_reads 191 = .ok (.iconst 1, 1) := by decide +kernel
theorem dX7_reads_192 : decode cX7_reads 192 = .ok (.iadd, 1) := by decide +kernel
theorem dX7_reads_193 : decode cX7_reads 193 = .ok (.putfield 170, 3) := by decide +kernel
theorem dX7_reads_196 : decode cX7_reads 196 = .ok (.goto (-66), 3) := by decide +kernel
theorem dX7_reads_199 : decode cX7_reads 199 = .ok (.aload_n 0, 1) := by decide +kernel
theorem dX7_reads_200 : decode cX7_reads 200 = .ok (.bipush 20, 2) := by decide +kernel
theorem dX7_reads_202 : decode cX7_reads 202 = .ok (.putfield 183, 3) := by decide +kernel
theorem dX7_reads_205 : decode cX7_reads 205 = .ok (.goto 39, 3) := by decide +kernel
theorem dX7_reads_208 : decode cX7_reads 208 = .ok (.aload_n 0, 1) := by decide +kernel
theorem dX7_reads_209 : decode cX7_reads 209 = .ok (.aload_n 0, 1) := by decide +kernel
theorem dX7_reads_210 : decode cX7_reads 210 = .ok (.aload_n 0, 1) := by decide +kernel
theorem dX7_reads_211 : decode cX7_reads 211 = .ok (.getfield 170, 3) := by decide +kernel
theorem dX7_reads_214 : decode cX7_reads 214 = .ok (.bipush 59, 2) := by decide +kernel
theorem dX7_reads_216 : decode cX7_reads 216 = .ok (.bipush 59, 2) := by decide +kernel
theorem dX7_reads_218 : decode cX7_reads 218 = .ok (.invokevirtual 176, 3) := by decide +kernel
theorem dX7_reads_221 : decode cX7_reads 221 = .ok (.ifCond .eq 8, 3) := by decide +kernel
theorem dX7_reads_224 : decode cX7_reads 224 = .ok (.bipush 21, 2) := by decide +kernel
theorem dX7_reads_226 : decode cX7_reads 226 = .ok (.goto 5, 3) := by decide +kernel
theorem dX7_reads_229 : decode cX7_reads 229 = .ok (.bipush 23, 2) := by decide +kernel
theorem dX7_reads_231 : decode cX7_reads 231 = .ok (.putfield 183, 3) := by decide +kernel
theorem dX7_reads_234 : decode cX7_reads 234 = .ok (.aload_n 0, 1) := by decide +kernel
theorem dX7_reads_235 : decode cX7_reads 235 = .ok (.dup, 1) := by decide +kernel
theorem dX7_reads_236 : decode cX7_reads 236 = .ok (.getfield 170, 3) := by decide +kernel
theorem dX7_reads_239 : decode cX7_reads 239 = .ok (.iconst 1, 1) := by decide +kernel
theorem dX7_reads_240 : decode cX7_reads 240 = .ok (.iadd, 1) := by decide +kernel
theorem dX7_reads_241 : decode cX7_reads 241 = .ok (.putfield 170, 3) := by decide +kernel
theorem dX7_reads_244 : decode cX7_reads 244 = .ok (.return_, 1) := by decide +kernel
set_option maxRecDepth 20000 in
theorem ggX7_passes_X7_reads : GoodIn wsX7_passes wsX7_reads := goodIn_r _ [7, 8, 9, 10, 11, 2, 12, 13, 14, 15, 6, 16, 17, 18, 19, 20, 21, 22, 23, 24, 25, 26, 27, 28, 29, 30, 31, 32, 33, 34, 35, 36, 37, 38, 39, 40, 41, 42, 43, 44, 45] (by decide +kernel) (by decide +kernel)
set_option maxRecDepth 20000 in
theorem gX7_passes_X7_reads : GoodIn wsX7_passes (wsV RX7 193 RX7 yX7_reads wsX7_reads) := goodIn_app (goodIn_of _ (by decide +kernel)) ggX7_passes_X7_reads
theorem dX7_passes_0 : decode cX7_passes 0 = .ok (.aload_n 0, 1) := by decide +kernel
theorem dX7_passes_1 : decode cX7_passes 1 = .ok (.getfield 189, 3) := by decide +kernel
theorem dX7_passes_4 : decode cX7_passes 4 = .ok (.ifCond .ne 11, 3) := by decide +kernel
theorem dX7_passes_7 : decode cX7_passes 7 = .ok (.aload_n 0, 1) := by decide +kernel
theorem dX7_passes_8 : decode cX7_passes 8 = .ok (.getfield 183, 3) := by decide +kernel
theorem dX7_passes_11 : decode cX7_passes 11 = .ok (.iload_n 1, 1) := by decide +kernel
theorem dX7_passes_12 : decode cX7_passes 12 = .ok (.if_icmp .eq 5, 3) := by decide +kernel
theorem dX7_passes_15 : decode cX7_passes 15 = .ok (.iconst 0, 1) := by decide +kernel
theorem dX7_passes_16 : decode cX7_passes 16 = .ok (.ireturn, 1) := by decide +kernel
theorem dX7_passes_17 : decode cX7_passes 17 = .ok (.aload_n 0, 1) := by decide +kernel
theorem dX7_passes_18 : decode cX7_passes 18 = .ok (.invokevirtual 193, 3) := by decide +kernel
theorem dX7_passes_21 : decode cX7_passes 21 = .ok (.iconst 1, 1) := by decide +kernel
theorem dX7_passes_22 : decode cX7_passes 22 = .ok (.ireturn, 1) := by decide +kernel
set_option maxRecDepth 20000 in
theorem ggX7_number_X7_in : GoodIn wsX7_number wsX7_in := goodIn_r _ [7] (by decide +kernel) (by decide +kernel)
set_option maxRecDepth 20000 in
theorem gX7_number_X7_in : GoodIn wsX7_number (va_wsS RX7 47 yX7_in wsX7_in) := goodIn_app (goodIn_of _ (by decide +kernel)) ggX7_number_X7_in
set_option maxRecDepth 20000 in
theorem ggX7_number_X7_reads : GoodIn wsX7_number wsX7_reads := goodIn_r _ [11, 12, 13, 1, 14, 3, 15, 16, 17, 18, 6, 19, 4, 5, 7, 20, 21, 22, 23, 24, 25, 26, 27, 28, 29, 30, 31, 32, 33, 34, 35, 36, 37, 38, 39, 40, 41, 42, 43, 44, 45] (by decide +kernel) (by decide +kernel)
set_option maxRecDepth 20000 in
theorem gX7_number_X7_reads : GoodIn wsX7_number (wsV RX7 193 RX7 yX7_reads wsX7_reads) := goodIn_app (goodIn_of _ (by decide +kernel)) ggX7_number_X7_reads
theorem dX7_number_0 : decode cX7_number 0 = .ok (.aload_n 0, 1) := by decide +kernel
theorem dX7_number_1 : decode cX7_number 1 = .ok (.getfield 180, 3) := by decide +kernel
theorem dX7_number_4 : decode cX7_number 4 = .ok (.istore_n 3, 1) := by decide +kernel
theorem dX7_number_5 : decode cX7_number 5 = .ok (.aload_n 0, 1) := by decide +kernel
theorem dX7_number_6 : decode cX7_number 6 = .ok (.aload_n 0, 1) := by decide +kernel
theorem dX7_number_7 : decode cX7_number 7 = .ok (.getfield 189, 3) := by decide +kernel
theorem dX7_number_10 : decode cX7_number 10 = .ok (.ifCond .ne 22, 3) := by decide +kernel
theorem dX7_number_13 : decode cX7_number 13 = .ok (.aload_n 0, 1) := by decide +kernel
theorem dX7_number_14 : decode cX7_number 14 = .ok (.getfield 183, 3) := by decide +kernel
theorem dX7_number_17 : decode cX7_number 17 = .ok (.bipush 20, 2) := by decide +kernel
theorem dX7_number_19 : decode cX7_number 19 = .ok (.if_icmp .ne 13, 3) := by decide +kernel
theorem dX7_number_22 : decode cX7_number 22 = .ok (.iload_n 3, 1) := by decide +kernel
theorem dX7_number_23 : decode cX7_number 23 = .ok (.i2l, 1) := by decide +kernel
theorem dX7_number_24 : decode cX7_number 24 = .ok (.iload_n 1, 1) := by decide +kernel
theorem dX7_number_25 : decode cX7_number 25 = .ok (.iload_n 2, 1) := by decide +kernel
theorem dX7_number_26 : decode cX7_number 26 = .ok (.invokestatic 47, 3) := by decide +kernel
theorem dX7_number_29 : decode cX7_number 29 = .ok (.ifCond .ne 7, 3) := by decide +kernel
theorem dX7_number_32 : decode cX7_number 32 = .ok (.iconst 1, 1) := by decide +kernel
theorem dX7_number_33 : decode cX7_number 33 = .ok (.goto 4, 3) := by decide +kernel
theorem dX7_number_36 : decode cX7_number 36 = .ok (.iconst 0, 1) := by decide +kernel
theorem dX7_number_37 : decode cX7_number 37 = .ok (.putfield 189, 3) := by decide +kernel
theorem dX7_number_40 : decode cX7_number 40 = .ok (.aload_n 0, 1) := by decide +kernel
theorem dX7_number_41 : decode cX7_number 41 = .ok (.getfield 189, 3) := by decide +kernel
theorem dX7_number_44 : decode cX7_number 44 = .ok (.ifCond .ne 7, 3) := by decide +kernel
theorem dX7_number_47 : decode cX7_number 47 = .ok (.aload_n 0, 1) := by decide +kernel
theorem dX7_number_48 : decode cX7_number 48 = .ok (.invokevirtual 193, 3) := by decide +kernel
theorem dX7_number_51 : decode cX7_number 51 = .ok (.iload_n 3, 1) := by decide +kernel
theorem dX7_number_52 : decode cX7_number 52 = .ok (.ireturn, 1) := by decide +kernel
set_option maxRecDepth 20000 in
theorem ggX7_perhaps_X7_passes : GoodIn wsX7_perhaps wsX7_passes := goodIn_r _ [5, 6, 7, 8, 9, 10, 4, 11, 12, 13, 14, 15, 16, 17, 18, 19, 20, 21, 22, 23, 24, 25, 26, 27, 28, 29, 30, 31, 32, 37, 38, 39, 40, 41, 42, 43, 44, 45, 46, 47, 48, 49, 50, 51, 52, 53] (by decide +kernel) (by decide +kernel)
set_option maxRecDepth 20000 in
theorem gX7_perhaps_X7_passes : GoodIn wsX7_perhaps (wsV RX7 196 RX7 yX7_passes wsX7_passes) := goodIn_app (goodIn_of _ (by decide +kernel)) ggX7_perhaps_X7_passes
set_option maxRecDepth 20000 in
theorem ggX7_perhaps_X7_number : GoodIn wsX7_perhaps wsX7_number := goodIn_r _ [36, 14, 6, 7, 21, 22, 4, 23, 8, 9, 10, 11, 12, 13, 15, 16, 17, 18, 19, 20, 24, 25, 26, 27, 28, 29, 30, 31, 32, 37, 38, 39, 40, 41, 42, 43, 44, 45, 46, 47, 48, 49, 50, 51, 52, 53] (by decide +kernel) (by decide +kernel)
set_option maxRecDepth 20000 in
theorem gX7_perhaps_X7_number : GoodIn wsX7_perhaps (wsV RX7 199 RX7 yX7_number wsX7_number) := goodIn_app (goodIn_of _ (by decide +kernel)) ggX7_perhaps_X7_number
theorem dX7_perhaps_0 : decode cX7_perhaps 0 = .ok (.aload_n 0, 1) := by decide +kernel
theorem dX7_perhaps_1 : decode cX7_perhaps 1 = .ok (.iload_n 1, 1) := by decide +kernel
theorem dX7_perhaps_2 : decode cX7_perhaps 2 = .ok (.invokevirtual 196, 3) := by decide +kernel
theorem dX7_perhaps_5 : decode cX7_perhaps 5 = .ok (.ifCond .eq 12, 3) := by decide +kernel
theorem dX7_perhaps_8 : decode cX7_perhaps 8 = .ok (.aload_n 0, 1) := by decide +kernel
theorem dX7_perhaps_9 : decode cX7_perhaps 9 = .ok (.iload_n 2, 1) := by decide +kernel
theorem dX7_perhaps_10 : decode cX7_perhaps 10 = .ok (.iload_n 3, 1) := by decide +kernel
theorem dX7_perhaps_11 : decode cX7_perhaps 11 = .ok (.invokevirtual 199, 3) := by decide +kernel
theorem dX7_perhaps_14 : decode cX7_perhaps 14 = .ok (.goto 5, 3) := by decide +kernel
theorem dX7_perhaps_17 : decode cX7_perhaps 17 = .ok (.iload 4, 2) := by decide +kernel
theorem dX7_perhaps_19 : decode cX7_perhaps 19 = .ok (.ireturn, 1) := by decide +kernel
set_option maxRecDepth 20000 in
theorem ggX7_envoyItem_X7_reads : GoodIn wsX7_envoyItem wsX7_reads := goodIn_r _ [8, 9, 10, 11, 12, 1, 13, 14, 15, 16, 7, 17, 18, 19, 20, 21, 22, 23, 24, 25, 26, 27, 28, 29, 46, 47, 48, 49, 50, 51, 52, 53, 54, 55, 56, 57, 58, 59, 60, 61, 62] (by decide +kernel) (by decide +kernel)
set_option maxRecDepth 20000 in
theorem gX7_envoyItem_X7_reads : GoodIn wsX7_envoyItem (wsV RX7 193 RX7 yX7_reads wsX7_reads) := goodIn_app (goodIn_of _ (by decide +kernel)) ggX7_envoyItem_X7_reads
set_option maxRecDepth 20000 in
theorem ggX7_envoyItem_X7_perhaps : GoodIn wsX7_envoyItem wsX7_perhaps := goodIn_r _ [33, 34, 35, 36, 7, 37, 3, 1, 4, 5, 6, 8, 9, 10, 11, 12, 13, 14, 15, 16, 17, 18, 19, 20, 21, 22, 23, 24, 25, 26, 27, 28, 29, 38, 39, 40, 41, 46, 47, 48, 49, 50, 51, 52, 53, 54, 55, 56, 57, 58, 59, 60, 61, 62] (by decide +kernel) (by decide +kernel)
set_option maxRecDepth 20000 in
theorem gX7_envoyItem_X7_perhaps : GoodIn wsX7_envoyItem (wsV RX7 202 RX7 yX7_perhaps wsX7_perhaps) := goodIn_app (goodIn_of _ (by decide +kernel)) ggX7_envoyItem_X7_perhaps
set_option maxRecDepth 20000 in
theorem ggX7_envoyItem_X7_comesAs : GoodIn wsX7_envoyItem wsX7_comesAs := goodIn_r _ [45, 2, 46, 47, 48, 49, 50, 51, 52, 53, 54, 55, 56, 57, 58, 59, 60, 61, 62] (by decide +kernel) (by decide +kernel)
set_option maxRecDepth 20000 in
theorem gX7_envoyItem_X7_comesAs : GoodIn wsX7_envoyItem (wsV RX7 102 RX7 yX7_comesAs wsX7_comesAs) := goodIn_app (goodIn_of _ (by decide +kernel)) ggX7_envoyItem_X7_comesAs
theorem dX7_envoyItem_0 : decode cX7_envoyItem 0 = .ok (.aload_n 0, 1) := by decide +kernel
theorem dX7_envoyItem_1 : decode cX7_envoyItem 1 = .ok (.getfield 183, 3) := by decide +kernel
theorem dX7_envoyItem_4 : decode cX7_envoyItem 4 = .ok (.istore_n 1, 1) := by decide +kernel
theorem dX7_envoyItem_5 : decode cX7_envoyItem 5 = .ok (.aload_n 0, 1) := by decide +kernel
theorem dX7_envoyItem_6 : decode cX7_envoyItem 6 = .ok (.aload_n 0, 1) := by decide +kernel
theorem dX7_envoyItem_7 : decode cX7_envoyItem 7 = .ok (.getfield 9, 3) := by decide +kernel
theorem dX7_envoyItem_10 : decode cX7_envoyItem 10 = .ok (.iconst 2, 1) := by decide +kernel
theorem dX7_envoyItem_11 : decode cX7_envoyItem 11 = .ok (.iaload, 1) := by decide +kernel
theorem dX7_envoyItem_12 : decode cX7_envoyItem 12 = .ok (.bipush 8, 2) := by decide +kernel
theorem dX7_envoyItem_14 : decode cX7_envoyItem 14 = .ok (.if_icmp .ne 7, 3) := by decide +kernel
theorem dX7_envoyItem_17 : decode cX7_envoyItem 17 = .ok (.iconst 1, 1) := by decide +kernel
theorem dX7_envoyItem_18 : decode cX7_envoyItem 18 = .ok (.goto 4, 3) := by decide +kernel
theorem dX7_envoyItem_21 : decode cX7_envoyItem 21 = .ok (.iconst 0, 1) := by decide +kernel
theorem dX7_envoyItem_22 : decode cX7_envoyItem 22 = .ok (.putfield 189, 3) := by decide +kernel
theorem dX7_envoyItem_25 : decode cX7_envoyItem 25 = .ok (.aload_n 0, 1) := by decide +kernel
theorem dX7_envoyItem_26 : decode cX7_envoyItem 26 = .ok (.getfield 189, 3) := by decide +kernel
theorem dX7_envoyItem_29 : decode cX7_envoyItem 29 = .ok (.ifCond .eq 4, 3) := by decide +kernel
theorem dX7_envoyItem_32 : decode cX7_envoyItem 32 = .ok (.return_, 1) := by decide +kernel
theorem dX7_envoyItem_33 : decode cX7_envoyItem 33 = .ok (.aload_n 0, 1) := by decide +kernel
theorem dX7_envoyItem_34 : decode cX7_envoyItem 34 = .ok (.invokevirtual 193, 3) := by decide +kernel
theorem dX7_envoyItem_37 : decode cX7_envoyItem 37 = .ok (.aload_n 0, 1) := by decide +kernel
theorem dX7_envoyItem_38 : decode cX7_envoyItem 38 = .ok (.bipush 6, 2) := by decide +kernel
theorem dX7_envoyItem_40 : decode cX7_envoyItem 40 = .ok (.iconst 0, 1) := by decide +kernel
theorem dX7_envoyItem_41 : decode cX7_envoyItem 41 = .ok (.iconst 1, 1) := by decide +kernel
theorem dX7_envoyItem_42 : decode cX7_envoyItem 42 = .ok (.iconst (-1), 1) := by decide +kernel
theorem dX7_envoyItem_43 : decode cX7_envoyItem 43 = .ok (.invokevirtual 202, 3) := by decide +kernel
theorem dX7_envoyItem_46 : decode cX7_envoyItem 46 = .ok (.istore_n 2, 1) := by decide +kernel
theorem dX7_envoyItem_47 : decode cX7_envoyItem 47 = .ok (.aload_n 0, 1) := by decide +kernel
theorem dX7_envoyItem_48 : decode cX7_envoyItem 48 = .ok (.getfield 189, 3) := by decide +kernel
theorem dX7_envoyItem_51 : decode cX7_envoyItem 51 = .ok (.ifCond .ne 22, 3) := by decide +kernel
theorem dX7_envoyItem_54 : decode cX7_envoyItem 54 = .ok (.aload_n 0, 1) := by decide +kernel
theorem dX7_envoyItem_55 : decode cX7_envoyItem 55 = .ok (.iload_n 1, 1) := by decide +kernel
theorem dX7_envoyItem_56 : decode cX7_envoyItem 56 = .ok (.invokevirtual 102, 3) := by decide +kernel
theorem dX7_envoyItem_59 : decode cX7_envoyItem 59 = .ok (.istore_n 3, 1) := by decide +kernel
theorem dX7_envoyItem_60 : decode cX7_envoyItem 60 = .ok (.iload_n 2, 1) := by decide +kernel
theorem dX7_envoyItem_61 : decode cX7_envoyItem 61 = .ok (.ifCond .lt 12, 3) := by decide +kernel
theorem dX7_envoyItem_64 : decode cX7_envoyItem 64 = .ok (.aload_n 0, 1) := by decide +kernel
theorem dX7_envoyItem_65 : decode cX7_envoyItem 65 = .ok (.getfield 9, 3) := by decide +kernel
theorem dX7_envoyItem_68 : decode cX7_envoyItem 68 = .ok (.iconst 3, 1) := by decide +kernel
theorem dX7_envoyItem_69 : decode cX7_envoyItem 69 = .ok (.iload_n 2, 1) := by decide +kernel
theorem dX7_envoyItem_70 : decode cX7_envoyItem 70 = .ok (.iadd, 1) := by decide +kernel
theorem dX7_envoyItem_71 : decode cX7_envoyItem 71 = .ok (.iload_n 3, 1) := by decide +kernel
theorem dX7_envoyItem_72 : decode cX7_envoyItem 72 = .ok (.iastore, 1) := by decide +kernel
theorem dX7_envoyItem_73 : decode cX7_envoyItem 73 = .ok (.return_, 1) := by decide +kernel
set_option maxRecDepth 20000 in
theorem ggX7_mixItem_X7_isMix : GoodIn wsX7_mixItem wsX7_isMix := goodIn_r _ [8, 9, 10, 7, 11] (by decide +kernel) (by decide +kernel)
set_option maxRecDepth 20000 in
theorem gX7_mixItem_X7_isMix : GoodIn wsX7_mixItem (va_wsS RX7 51 yX7_isMix wsX7_isMix) := goodIn_app (goodIn_of _ (by decide +kernel)) ggX7_mixItem_X7_isMix
set_option maxRecDepth 20000 in
theorem ggX7_mixItem_X7_number : GoodIn wsX7_mixItem wsX7_number := goodIn_r _ [15, 2, 3, 1, 9, 10, 7, 11, 16, 17, 18, 19, 20, 21, 22, 23, 24, 25, 26, 27, 28, 29, 30, 31, 32, 33, 34, 35, 36, 37, 38, 39, 40, 41, 42, 43, 44, 45, 46, 47, 48, 49, 50, 51, 52, 53] (by decide +kernel) (by decide +kernel)
set_option maxRecDepth 20000 in
theorem gX7_mixItem_X7_number : GoodIn wsX7_mixItem (wsV RX7 199 RX7 yX7_number wsX7_number) := goodIn_app (goodIn_of _ (by decide +kernel)) ggX7_mixItem_X7_number
theorem dX7_mixItem_0 : decode cX7_mixItem 0 = .ok (.aload_n 0, 1) := by decide +kernel
theorem dX7_mixItem_1 : decode cX7_mixItem 1 = .ok (.aload_n 0, 1) := by decide +kernel
theorem dX7_mixItem_2 : decode cX7_mixItem 2 = .ok (.getfield 183, 3) := by decide +kernel
theorem dX7_mixItem_5 : decode cX7_mixItem 5 = .ok (.bipush 20, 2) := by decide +kernel
theorem dX7_mixItem_7 : decode cX7_mixItem 7 = .ok (.if_icmp .ne 13, 3) := by decide +kernel
theorem dX7_mixItem_10 : decode cX7_mixItem 10 = .ok (.aload_n 0, 1) := by decide +kernel
theorem dX7_mixItem_11 : decode cX7_mixItem 11 = .ok (.getfield 180, 3) := by decide +kernel
theorem dX7_mixItem_14 : decode cX7_mixItem 14 = .ok (.invokestatic 51, 3) := by decide +kernel
theorem dX7_mixItem_17 : decode cX7_mixItem 17 = .ok (.ifCond .ne 7, 3) := by decide +kernel
theorem dX7_mixItem_20 : decode cX7_mixItem 20 = .ok (.iconst 1, 1) := by decide +kernel
theorem dX7_mixItem_21 : decode cX7_mixItem 21 = .ok (.goto 4, 3) := by decide +kernel
theorem dX7_mixItem_24 : decode cX7_mixItem 24 = .ok (.iconst 0, 1) := by decide +kernel
theorem dX7_mixItem_25 : decode cX7_mixItem 25 = .ok (.putfield 189, 3) := by decide +kernel
theorem dX7_mixItem_28 : decode cX7_mixItem 28 = .ok (.aload_n 0, 1) := by decide +kernel
theorem dX7_mixItem_29 : decode cX7_mixItem 29 = .ok (.iconst 1, 1) := by decide +kernel
theorem dX7_mixItem_30 : decode cX7_mixItem 30 = .ok (.bipush 31, 2) := by decide +kernel
theorem dX7_mixItem_32 : decode cX7_mixItem 32 = .ok (.invokevirtual 199, 3) := by decide +kernel
theorem dX7_mixItem_35 : decode cX7_mixItem 35 = .ok (.istore_n 1, 1) := by decide +kernel
theorem dX7_mixItem_36 : decode cX7_mixItem 36 = .ok (.aload_n 0, 1) := by decide +kernel
theorem dX7_mixItem_37 : decode cX7_mixItem 37 = .ok (.getfield 189, 3) := by decide +kernel
theorem dX7_mixItem_40 : decode cX7_mixItem 40 = .ok (.ifCond .ne 10, 3) := by decide +kernel
theorem dX7_mixItem_43 : decode cX7_mixItem 43 = .ok (.aload_n 0, 1) := by decide +kernel
theorem dX7_mixItem_44 : decode cX7_mixItem 44 = .ok (.getfield 9, 3) := by decide +kernel
theorem dX7_mixItem_47 : decode cX7_mixItem 47 = .ok (.iconst 1, 1) := by decide +kernel
theorem dX7_mixItem_48 : decode cX7_mixItem 48 = .ok (.iload_n 1, 1) := by decide +kernel
theorem dX7_mixItem_49 : decode cX7_mixItem 49 = .ok (.iastore, 1) := by decide +kernel
theorem dX7_mixItem_50 : decode cX7_mixItem 50 = .ok (.return_, 1) := by decide +kernel
set_option maxRecDepth 20000 in
theorem ggX7_landItem_X7_number : GoodIn wsX7_landItem wsX7_number := goodIn_r _ [7, 8, 1, 9, 10, 11, 6, 12, 13, 14, 15, 16, 17, 18, 19, 20, 21, 22, 23, 24, 25, 26, 27, 28, 29, 30, 31, 32, 33, 38, 39, 40, 41, 42, 43, 44, 45, 46, 47, 48, 49, 50, 51, 52, 53, 54] (by decide +kernel) (by decide +kernel)
set_option maxRecDepth 20000 in
theorem gX7_landItem_X7_number : GoodIn wsX7_landItem (wsV RX7 199 RX7 yX7_number wsX7_number) := goodIn_app (goodIn_of _ (by decide +kernel)) ggX7_landItem_X7_number
set_option maxRecDepth 20000 in
theorem ggX7_landItem_X7_passes : GoodIn wsX7_landItem wsX7_passes := goodIn_r _ [37, 1, 9, 13, 14, 15, 6, 16, 17, 18, 8, 19, 20, 21, 22, 23, 24, 10, 11, 12, 25, 26, 27, 28, 29, 30, 31, 32, 33, 38, 39, 40, 41, 42, 43, 44, 45, 46, 47, 48, 49, 50, 51, 52, 53, 54] (by decide +kernel) (by decide +kernel)
set_option maxRecDepth 20000 in
theorem gX7_landItem_X7_passes : GoodIn wsX7_landItem (wsV RX7 196 RX7 yX7_passes wsX7_passes) := goodIn_app (goodIn_of _ (by decide +kernel)) ggX7_landItem_X7_passes
theorem dX7_landItem_0 : decode cX7_landItem 0 = .ok (.aload_n 0, 1) := by decide +kernel
theorem dX7_landItem_1 : decode cX7_landItem 1 = .ok (.iconst 0, 1) := by decide +kernel
theorem dX7_landItem_2 : decode cX7_landItem 2 = .ok (.bipush 7, 2) := by decide +kernel
theorem dX7_landItem_4 : decode cX7_landItem 4 = .ok (.invokevirtual 199, 3) := by decide +kernel
theorem dX7_landItem_7 : decode cX7_landItem 7 = .ok (.istore_n 1, 1) := by decide +kernel
theorem dX7_landItem_8 : decode cX7_landItem 8 = .ok (.aload_n 0, 1) := by decide +kernel
theorem dX7_landItem_9 : decode cX7_landItem 9 = .ok (.bipush 9, 2) := by decide +kernel
theorem dX7_landItem_11 : decode cX7_landItem 11 = .ok (.invokevirtual 196, 3) := by decide +kernel
theorem dX7_landItem_14 : decode cX7_landItem 14 = .ok (.ifCond .eq 7, 3) := by decide +kernel
theorem dX7_landItem_17 : decode cX7_landItem 17 = .ok (.iconst (-1), 1) := by decide +kernel
theorem dX7_landItem_18 : decode cX7_landItem 18 = .ok (.goto 9, 3) := by decide +kernel
theorem dX7_landItem_21 : decode cX7_landItem 21 = .ok (.aload_n 0, 1) := by decide +kernel
theorem dX7_landItem_22 : decode cX7_landItem 22 = .ok (.iconst 0, 1) := by decide +kernel
theorem dX7_landItem_23 : decode cX7_landItem 23 = .ok (.iconst 1, 1) := by decide +kernel
theorem dX7_landItem_24 : decode cX7_landItem 24 = .ok (.invokevirtual 199, 3) := by decide +kernel
theorem dX7_landItem_27 : decode cX7_landItem 27 = .ok (.istore_n 2, 1) := by decide +kernel
theorem dX7_landItem_28 : decode cX7_landItem 28 = .ok (.aload_n 0, 1) := by decide +kernel
theorem dX7_landItem_29 : decode cX7_landItem 29 = .ok (.getfield 189, 3) := by decide +kernel
theorem dX7_landItem_32 : decode cX7_landItem 32 = .ok (.ifCond .ne 13, 3) := by decide +kernel
theorem dX7_landItem_35 : decode cX7_landItem 35 = .ok (.aload_n 0, 1) := by decide +kernel
theorem dX7_landItem_36 : decode cX7_landItem 36 = .ok (.getfield 9, 3) := by decide +kernel
theorem dX7_landItem_39 : decode cX7_landItem 39 = .ok (.bipush 7, 2) := by decide +kernel
theorem dX7_landItem_41 : decode cX7_landItem 41 = .ok (.iload_n 1, 1) := by decide +kernel
theorem dX7_landItem_42 : decode cX7_landItem 42 = .ok (.iadd, 1) := by decide +kernel
theorem dX7_landItem_43 : decode cX7_landItem 43 = .ok (.iload_n 2, 1) := by decide +kernel
theorem dX7_landItem_44 : decode cX7_landItem 44 = .ok (.iastore, 1) := by decide +kernel
theorem dX7_landItem_45 : decode cX7_landItem 45 = .ok (.return_, 1) := by decide +kernel
set_option maxRecDepth 20000 in
theorem ggX7_item_X7_envoyItem : GoodIn wsX7_item wsX7_envoyItem := goodIn_r _ [7, 1, 8, 2, 9, 10, 11, 6, 12, 13, 14, 15, 16, 17, 18, 19, 20, 21, 22, 23, 24, 25, 26, 27, 28, 29, 30, 31, 32, 33, 34, 35, 36, 37, 38, 39, 40, 41, 42, 43, 44, 45, 46, 47, 48, 49, 61, 62, 63, 64, 65, 66, 67, 68, 69, 70, 71, 72, 73, 74, 75, 76, 77] (by decide +kernel) (by decide +kernel)
set_option maxRecDepth 20000 in
theorem gX7_item_X7_envoyItem : GoodIn wsX7_item (wsV RX7 206 RX7 yX7_envoyItem wsX7_envoyItem) := goodIn_app (goodIn_of _ (by decide +kernel)) ggX7_item_X7_envoyItem
set_option maxRecDepth 20000 in
theorem ggX7_item_X7_passes : GoodIn wsX7_item wsX7_passes := goodIn_r _ [41, 2, 1, 9, 10, 11, 6, 12, 13, 14, 15, 16, 17, 18, 19, 20, 21, 22, 23, 24, 25, 26, 27, 28, 29, 30, 31, 32, 33, 61, 62, 63, 64, 65, 66, 67, 68, 69, 70, 71, 72, 73, 74, 75, 76, 77] (by decide +kernel) (by decide +kernel)
set_option maxRecDepth 20000 in
theorem gX7_item_X7_passes : GoodIn wsX7_item (wsV RX7 196 RX7 yX7_passes wsX7_passes) := goodIn_app (goodIn_of _ (by decide +kernel)) ggX7_item_X7_passes
set_option maxRecDepth 20000 in
theorem ggX7_item_X7_mixItem : GoodIn wsX7_item wsX7_mixItem := goodIn_r _ [53, 1, 15, 2, 8, 54, 55, 6, 56, 22, 23, 24, 42, 43, 44, 45, 9, 10, 11, 12, 13, 14, 16, 17, 18, 19, 20, 21, 25, 26, 27, 28, 29, 30, 31, 32, 33, 61, 62, 63, 64, 65, 66, 67, 68, 69, 70, 71, 72, 73, 74, 75, 76, 77] (by decide +kernel) (by decide +kernel)
set_option maxRecDepth 20000 in
theorem gX7_item_X7_mixItem : GoodIn wsX7_item (wsV RX7 209 RX7 yX7_mixItem wsX7_mixItem) := goodIn_app (goodIn_of _ (by decide +kernel)) ggX7_item_X7_mixItem
set_option maxRecDepth 20000 in
theorem ggX7_item_X7_landItem : GoodIn wsX7_item wsX7_landItem := goodIn_r _ [60, 2, 8, 42, 43, 44, 6, 45, 15, 1, 22, 23, 24, 9, 10, 11, 12, 13, 14, 16, 17, 18, 19, 20, 21, 25, 26, 27, 28, 29, 30, 31, 32, 33, 38, 39, 40, 41, 61, 62, 63, 64, 65, 66, 67, 68, 69, 70, 71, 72, 73, 74, 75, 76, 77] (by decide +kernel) (by decide +kernel)
set_option maxRecDepth 20000 in
theorem gX7_item_X7_landItem : GoodIn wsX7_item (wsV RX7 212 RX7 yX7_landItem wsX7_landItem) := goodIn_app (goodIn_of _ (by decide +kernel)) ggX7_item_X7_landItem
theorem dX7_item_0 : decode cX7_item 0 = .ok (.aload_n 0, 1) := by decide +kernel
theorem dX7_item_1 : decode cX7_item 1 = .ok (.getfield 183, 3) := by decide +kernel
theorem dX7_item_4 : decode cX7_item 4 = .ok (.iconst 5, 1) := by decide +kernel
theorem dX7_item_5 : decode cX7_item 5 = .ok (.if_icmp .gt 10, 3) := by decide +kernel
theorem dX7_item_8 : decode cX7_item 8 = .ok (.aload_n 0, 1) := by decide +kernel
theorem dX7_item_9 : decode cX7_item 9 = .ok (.invokevirtual 206, 3) := by decide +kernel
theorem dX7_item_12 : decode cX7_item 12 = .ok (.goto 40, 3) := by decide +kernel
theorem dX7_item_15 : decode cX7_item 15 = .ok (.aload_n 0, 1) := by decide +kernel
theorem dX7_item_16 : decode cX7_item 16 = .ok (.bipush 7, 2) := by decide +kernel
theorem dX7_item_18 : decode cX7_item 18 = .ok (.invokevirtual 196, 3) := by decide +kernel
theorem dX7_item_21 : decode cX7_item 21 = .ok (.ifCond .eq 10, 3) := by decide +kernel
theorem dX7_item_24 : decode cX7_item 24 = .ok (.aload_n 0, 1) := by decide +kernel
theorem dX7_item_25 : decode cX7_item 25 = .ok (.invokevirtual 209, 3) := by decide +kernel
theorem dX7_item_28 : decode cX7_item 28 = .ok (.goto 24, 3) := by decide +kernel
theorem dX7_item_31 : decode cX7_item 31 = .ok (.aload_n 0, 1) := by decide +kernel
theorem dX7_item_32 : decode cX7_item 32 = .ok (.bipush 8, 2) := by decide +kernel
theorem dX7_item_34 : decode cX7_item 34 = .ok (.invokevirtual 196, 3) := by decide +kernel
theorem dX7_item_37 : decode cX7_item 37 = .ok (.ifCond .eq 10, 3) := by decide +kernel
theorem dX7_item_40 : decode cX7_item 40 = .ok (.aload_n 0, 1) := by decide +kernel
theorem dX7_item_41 : decode cX7_item 41 = .ok (.invokevirtual 212, 3) := by decide +kernel
theorem dX7_item_44 : decode cX7_item 44 = .ok (.goto 8, 3) := by decide +kernel
theorem dX7_item_47 : decode cX7_item 47 = .ok (.aload_n 0, 1) := by decide +kernel
theorem dX7_item_48 : decode cX7_item 48 = .ok (.iconst 1, 1) := by decide +kernel
theorem dX7_item_49 : decode cX7_item 49 = .ok (.putfield 189, 3) := by decide +kernel
theorem dX7_item_52 : decode cX7_item 52 = .ok (.return_, 1) := by decide +kernel
set_option maxRecDepth 20000 in
theorem ggX7_spa_X7_thinks : GoodIn wsX7_spa wsX7_thinks := goodIn_r _ [10, 11, 12, 13, 14, 9, 15, 77, 78, 79, 80, 81, 82, 83, 84, 85, 86, 87, 88, 89, 90, 91, 92, 93] (by decide +kernel) (by decide +kernel)
set_option maxRecDepth 20000 in
theorem gX7_spa_X7_thinks : GoodIn wsX7_spa (wsV RX7 147 RX7 yX7_thinks wsX7_thinks) := goodIn_app (goodIn_of _ (by decide +kernel)) ggX7_spa_X7_thinks
set_option maxRecDepth 20000 in
theorem ggX7_spa_X7_reads : GoodIn wsX7_spa wsX7_reads := goodIn_r _ [19, 1, 5, 20, 4, 3, 21, 22, 23, 24, 9, 25, 26, 27, 28, 29, 30, 31, 32, 33, 34, 35, 36, 37, 77, 78, 79, 80, 81, 82, 83, 84, 85, 86, 87, 88, 89, 90, 91, 92, 93] (by decide +kernel) (by decide +kernel)
set_option maxRecDepth 20000 in
theorem gX7_spa_X7_reads : GoodIn wsX7_spa (wsV RX7 193 RX7 yX7_reads wsX7_reads) := goodIn_app (goodIn_of _ (by decide +kernel)) ggX7_spa_X7_reads
set_option maxRecDepth 20000 in
theorem ggX7_spa_X7_item : GoodIn wsX7_spa wsX7_item := goodIn_r _ [41, 3, 2, 42, 43, 44, 9, 45, 11, 16, 17, 18, 19, 1, 5, 20, 4, 21, 22, 23, 24, 25, 26, 27, 28, 29, 30, 31, 32, 33, 34, 35, 36, 37, 46, 47, 48, 49, 50, 51, 52, 53, 54, 55, 56, 57, 58, 59, 60, 61, 62, 63, 64, 65, 66, 67, 68, 69, 70, 71, 72, 77, 78, 79, 80, 81, 82, 83, 84, 85, 86, 87, 88, 89, 90, 91, 92, 93] (by decide +kernel) (by decide +kernel)
set_option maxRecDepth 20000 in
theorem gX7_spa_X7_item : GoodIn wsX7_spa (wsV RX7 215 RX7 yX7_item wsX7_item) := goodIn_app (goodIn_of _ (by decide +kernel)) ggX7_spa_X7_item
set_option maxRecDepth 20000 in
theorem ggX7_spa_X7_passes : GoodIn wsX7_spa wsX7_passes := goodIn_r _ [53, 2, 3, 16, 17, 18, 9, 19, 1, 5, 20, 4, 21, 22, 23, 24, 25, 26, 27, 28, 29, 30, 31, 32, 33, 34, 35, 36, 37, 77, 78, 79, 80, 81, 82, 83, 84, 85, 86, 87, 88, 89, 90, 91, 92, 93] (by decide +kernel) (by decide +kernel)
set_option maxRecDepth 20000 in
theorem gX7_spa_X7_passes : GoodIn wsX7_spa (wsV RX7 196 RX7 yX7_passes wsX7_passes) := goodIn_app (goodIn_of _ (by decide +kernel)) ggX7_spa_X7_passes
set_option maxRecDepth 20000 in
theorem ggX7_spa_X7_putsBack : GoodIn wsX7_spa wsX7_putsBack := goodIn_r _ [76, 12, 11, 13, 14, 9, 15, 77, 78, 79, 80, 81, 82, 83, 84, 85, 86, 87, 88, 89, 90, 91, 92, 93] (by decide +kernel) (by decide +kernel)
set_option maxRecDepth 20000 in
theorem gX7_spa_X7_putsBack : GoodIn wsX7_spa (wsV RX7 150 RX7 yX7_putsBack wsX7_putsBack) := goodIn_app (goodIn_of _ (by decide +kernel)) ggX7_spa_X7_putsBack
theorem dX7_spa_0 : decode cX7_spa 0 = .ok (.aload_n 0, 1) := by decide +kernel
theorem dX7_spa_1 : decode cX7_spa 1 = .ok (.invokevirtual 147, 3) := by decide +kernel
theorem dX7_spa_4 : decode cX7_spa 4 = .ok (.aload_n 0, 1) := by decide +kernel
theorem dX7_spa_5 : decode cX7_spa 5 = .ok (.iconst 0, 1) := by decide +kernel
theorem dX7_spa_6 : decode cX7_spa 6 = .ok (.putfield 170, 3) := by decide +kernel
theorem dX7_spa_9 : decode cX7_spa 9 = .ok (.aload_n 0, 1) := by decide +kernel
theorem dX7_spa_10 : decode cX7_spa 10 = .ok (.iconst 0, 1) := by decide +kernel
theorem dX7_spa_11 : decode cX7_spa 11 = .ok (.putfield 189, 3) := by decide +kernel
theorem dX7_spa_14 : decode cX7_spa 14 = .ok (.aload_n 0, 1) := by decide +kernel
theorem dX7_spa_15 : decode cX7_spa 15 = .ok (.invokevirtual 193, 3) := by decide +kernel
theorem dX7_spa_18 : decode cX7_spa 18 = .ok (.aload_n 0, 1) := by decide +kernel
theorem dX7_spa_19 : decode cX7_spa 19 = .ok (.invokevirtual 215, 3) := by decide +kernel
theorem dX7_spa_22 : decode cX7_spa 22 = .ok (.iconst 1, 1) := by decide +kernel
theorem dX7_spa_23 : decode cX7_spa 23 = .ok (.istore_n 1, 1) := by decide +kernel
theorem dX7_spa_24 : decode cX7_spa 24 = .ok (.aload_n 0, 1) := by decide +kernel
theorem dX7_spa_25 : decode cX7_spa 25 = .ok (.bipush 21, 2) := by decide +kernel
theorem dX7_spa_27 : decode cX7_spa 27 = .ok (.invokevirtual 196, 3) := by decide +kernel
theorem dX7_spa_30 : decode cX7_spa 30 = .ok (.ifCond .eq 13, 3) := by decide +kernel
theorem dX7_spa_33 : decode cX7_spa 33 = .ok (.aload_n 0, 1) := by decide +kernel
theorem dX7_spa_34 : decode cX7_spa 34 = .ok (.invokevirtual 215, 3) := by decide +kernel
theorem dX7_spa_37 : decode cX7_spa 37 = .ok (.iinc 1 1, 3) := by decide +kernel
theorem dX7_spa_40 : decode cX7_spa 40 = .ok (.goto (-16), 3) := by decide +kernel
theorem dX7_spa_43 : decode cX7_spa 43 = .ok (.aload_n 0, 1) := by decide +kernel
theorem dX7_spa_44 : decode cX7_spa 44 = .ok (.aload_n 0, 1) := by decide +kernel
theorem dX7_spa_45 : decode cX7_spa 45 = .ok (.getfield 189, 3) := by decide +kernel
theorem dX7_spa_48 : decode cX7_spa 48 = .ok (.ifCond .ne 12, 3) := by decide +kernel
theorem dX7_spa_51 : decode cX7_spa 51 = .ok (.aload_n 0, 1) := by decide +kernel
theorem dX7_spa_52 : decode cX7_spa 52 = .ok (.getfield 183, 3) := by decide +kernel
theorem dX7_spa_55 : decode cX7_spa 55 = .ok (.bipush 22, 2) := by decide +kernel
theorem dX7_spa_57 : decode cX7_spa 57 = .ok (.if_icmp .eq 7, 3) := by decide +kernel
theorem dX7_spa_60 : decode cX7_spa 60 = .ok (.iconst 1, 1) := by decide +kernel
theorem dX7_spa_61 : decode cX7_spa 61 = .ok (.goto 4, 3) := by decide +kernel
theorem dX7_spa_64 : decode cX7_spa 64 = .ok (.iconst 0, 1) := by decide +kernel
theorem dX7_spa_65 : decode cX7_spa 65 = .ok (.putfield 189, 3) := by decide +kernel
theorem dX7_spa_68 : decode cX7_spa 68 = .ok (.aload_n 0, 1) := by decide +kernel
theorem dX7_spa_69 : decode cX7_spa 69 = .ok (.iconst 0, 1) := by decide +kernel
theorem dX7_spa_70 : decode cX7_spa 70 = .ok (.putfield 160, 3) := by decide +kernel
theorem dX7_spa_73 : decode cX7_spa 73 = .ok (.aload_n 0, 1) := by decide +kernel
theorem dX7_spa_74 : decode cX7_spa 74 = .ok (.getfield 189, 3) := by decide +kernel
theorem dX7_spa_77 : decode cX7_spa 77 = .ok (.ifCond .ne 5, 3) := by decide +kernel
theorem dX7_spa_80 : decode cX7_spa 80 = .ok (.iload_n 1, 1) := by decide +kernel
theorem dX7_spa_81 : decode cX7_spa 81 = .ok (.ireturn, 1) := by decide +kernel
theorem dX7_spa_82 : decode cX7_spa 82 = .ok (.aload_n 0, 1) := by decide +kernel
theorem dX7_spa_83 : decode cX7_spa 83 = .ok (.invokevirtual 150, 3) := by decide +kernel
theorem dX7_spa_86 : decode cX7_spa 86 = .ok (.iconst (-1), 1) := by decide +kernel
theorem dX7_spa_87 : decode cX7_spa 87 = .ok (.aload_n 0, 1) := by decide +kernel
theorem dX7_spa_88 : decode cX7_spa 88 = .ok (.getfield 167, 3) := by decide +kernel
theorem dX7_spa_91 : decode cX7_spa 91 = .ok (.isub, 1) := by decide +kernel
theorem dX7_spa_92 : decode cX7_spa 92 = .ok (.ireturn, 1) := by decide +kernel
set_option maxRecDepth 20000 in
theorem ggX7_isSheet_X7_in : GoodIn wsX7_isSheet wsX7_in := goodIn_r _ [4] (by decide +kernel) (by decide +kernel)
set_option maxRecDepth 20000 in
theorem gX7_isSheet_X7_in : GoodIn wsX7_isSheet (va_wsS RX7 47 yX7_in wsX7_in) := goodIn_app (goodIn_of _ (by decide +kernel)) ggX7_isSheet_X7_in
theorem dX7_isSheet_0 : decode cX7_isSheet 0 = .ok (.iload_n 0, 1) := by decide +kernel
theorem dX7_isSheet_1 : decode cX7_isSheet 1 = .ok (.i2l, 1) := by decide +kernel
theorem dX7_isSheet_2 : decode cX7_isSheet 2 = .ok (.iconst 0, 1) := by decide +kernel
theorem dX7_isSheet_3 : decode cX7_isSheet 3 = .ok (.iconst 3, 1) := by decide +kernel
theorem dX7_isSheet_4 : decode cX7_isSheet 4 = .ok (.invokestatic 47, 3) := by decide +kernel
theorem dX7_isSheet_7 : decode cX7_isSheet 7 = .ok (.ireturn, 1) := by decide +kernel
set_option maxRecDepth 20000 in
theorem ggX7_sheet_X7_isSheet : GoodIn wsX7_sheet wsX7_isSheet := goodIn_r _ [9, 10, 11, 8, 12] (by decide +kernel) (by decide +kernel)
set_option maxRecDepth 20000 in
theorem gX7_sheet_X7_isSheet : GoodIn wsX7_sheet (va_wsS RX7 218 yX7_isSheet wsX7_isSheet) := goodIn_app (goodIn_of _ (by decide +kernel)) ggX7_sheet_X7_isSheet
set_option maxRecDepth 20000 in
theorem ggX7_sheet_X7_finds : GoodIn wsX7_sheet wsX7_finds := goodIn_r _ [16, 17, 1, 18, 19, 20, 21, 22, 23, 24, 25, 26, 27, 28, 29, 30, 31, 32, 33, 34] (by decide +kernel) (by decide +kernel)
set_option maxRecDepth 20000 in
theorem gX7_sheet_X7_finds : GoodIn wsX7_sheet (wsV RX7 43 RX7 yX7_finds wsX7_finds) := goodIn_app (goodIn_of _ (by decide +kernel)) ggX7_sheet_X7_finds
theorem dX7_sheet_0 : decode cX7_sheet 0 = .ok (.iload_n 1, 1) := by decide +kernel
theorem dX7_sheet_1 : decode cX7_sheet 1 = .ok (.invokestatic 218, 3) := by decide +kernel
theorem dX7_sheet_4 : decode cX7_sheet 4 = .ok (.ifCond .eq 25, 3) := by decide +kernel
theorem dX7_sheet_7 : decode cX7_sheet 7 = .ok (.iload_n 2, 1) := by decide +kernel
theorem dX7_sheet_8 : decode cX7_sheet 8 = .ok (.ifCond .eq 28, 3) := by decide +kernel
theorem dX7_sheet_11 : decode cX7_sheet 11 = .ok (.iload_n 2, 1) := by decide +kernel
theorem dX7_sheet_12 : decode cX7_sheet 12 = .ok (.bipush 8, 2) := by decide +kernel
theorem dX7_sheet_14 : decode cX7_sheet 14 = .ok (.if_icmp .eq 22, 3) := by decide +kernel
theorem dX7_sheet_17 : decode cX7_sheet 17 = .ok (.iload_n 2, 1) := by decide +kernel
theorem dX7_sheet_18 : decode cX7_sheet 18 = .ok (.bipush 16, 2) := by decide +kernel
theorem dX7_sheet_20 : decode cX7_sheet 20 = .ok (.if_icmp .eq 16, 3) := by decide +kernel
theorem dX7_sheet_23 : decode cX7_sheet 23 = .ok (.iload_n 2, 1) := by decide +kernel
theorem dX7_sheet_24 : decode cX7_sheet 24 = .ok (.bipush 64, 2) := by decide +kernel
theorem dX7_sheet_26 : decode cX7_sheet 26 = .ok (.if_icmp .eq 10, 3) := by decide +kernel
theorem dX7_sheet_29 : decode cX7_sheet 29 = .ok (.aload_n 0, 1) := by decide +kernel
theorem dX7_sheet_30 : decode cX7_sheet 30 = .ok (.ldc 41, 2) := by decide +kernel
theorem dX7_sheet_32 : decode cX7_sheet 32 = .ok (.invokevirtual 43, 3) := by decide +kernel
theorem dX7_sheet_35 : decode cX7_sheet 35 = .ok (.ireturn, 1) := by decide +kernel
theorem dX7_sheet_36 : decode cX7_sheet 36 = .ok (.iload_n 3, 1) := by decide +kernel
theorem dX7_sheet_37 : decode cX7_sheet 37 = .ok (.ifCond .ge 10, 3) := by decide +kernel
theorem dX7_sheet_40 : decode cX7_sheet 40 = .ok (.aload_n 0, 1) := by decide +kernel
theorem dX7_sheet_41 : decode cX7_sheet 41 = .ok (.ldc 221, 2) := by decide +kernel
theorem dX7_sheet_43 : decode cX7_sheet 43 = .ok (.invokevirtual 43, 3) := by decide +kernel
theorem dX7_sheet_46 : decode cX7_sheet 46 = .ok (.ireturn, 1) := by decide +kernel
theorem dX7_sheet_47 : decode cX7_sheet 47 = .ok (.iload_n 3, 1) := by decide +kernel
theorem dX7_sheet_48 : decode cX7_sheet 48 = .ok (.bipush 40, 2) := by decide +kernel
theorem dX7_sheet_50 : decode cX7_sheet 50 = .ok (.if_icmp .le 10, 3) := by decide +kernel
theorem dX7_sheet_53 : decode cX7_sheet 53 = .ok (.aload_n 0, 1) := by decide +kernel
theorem dX7_sheet_54 : decode cX7_sheet 54 = .ok (.ldc 41, 2) := by decide +kernel
theorem dX7_sheet_56 : decode cX7_sheet 56 = .ok (.invokevirtual 43, 3) := by decide +kernel
theorem dX7_sheet_59 : decode cX7_sheet 59 = .ok (.ireturn, 1) := by decide +kernel
theorem dX7_sheet_60 : decode cX7_sheet 60 = .ok (.aload_n 0, 1) := by decide +kernel
theorem dX7_sheet_61 : decode cX7_sheet 61 = .ok (.getfield 31, 3) := by decide +kernel
theorem dX7_sheet_64 : decode cX7_sheet 64 = .ok (.iload_n 1, 1) := by decide +kernel
theorem dX7_sheet_65 : decode cX7_sheet 65 = .ok (.iload_n 2, 1) := by decide +kernel
theorem dX7_sheet_66 : decode cX7_sheet 66 = .ok (.iastore, 1) := by decide +kernel
theorem dX7_sheet_67 : decode cX7_sheet 67 = .ok (.aload_n 0, 1) := by decide +kernel
theorem dX7_sheet_68 : decode cX7_sheet 68 = .ok (.getfield 34, 3) := by decide +kernel
theorem dX7_sheet_71 : decode cX7_sheet 71 = .ok (.iload_n 1, 1) := by decide +kernel
theorem dX7_sheet_72 : decode cX7_sheet 72 = .ok (.iload_n 2, 1) := by decide +kernel
theorem dX7_sheet_73 : decode cX7_sheet 73 = .ok (.ifCond .ne 7, 3) := by decide +kernel
theorem dX7_sheet_76 : decode cX7_sheet 76 = .ok (.iconst 0, 1) := by decide +kernel
theorem dX7_sheet_77 : decode cX7_sheet 77 = .ok (.goto 4, 3) := by decide +kernel
theorem dX7_sheet_80 : decode cX7_sheet 80 = .ok (.iload_n 3, 1) := by decide +kernel
theorem dX7_sheet_81 : decode cX7_sheet 81 = .ok (.iastore, 1) := by decide +kernel
theorem dX7_sheet_82 : decode cX7_sheet 82 = .ok (.iconst 0, 1) := by decide +kernel
theorem dX7_sheet_83 : decode cX7_sheet 83 = .ok (.istore 4, 2) := by decide +kernel
theorem dX7_sheet_85 : decode cX7_sheet 85 = .ok (.iload 4, 2) := by decide +kernel
theorem dX7_sheet_87 : decode cX7_sheet 87 = .ok (.bipush 40, 2) := by decide +kernel
theorem dX7_sheet_89 : decode cX7_sheet 89 = .ok (.if_icmp .ge 22, 3) := by decide +kernel
theorem dX7_sheet_92 : decode cX7_sheet 92 = .ok (.aload_n 0, 1) := by decide +kernel
theorem dX7_sheet_93 : decode cX7_sheet 93 = .ok (.getfield 37, 3) := by decide +kernel
theorem dX7_sheet_96 : decode cX7_sheet 96 = .ok (.bipush 40, 2) := by decide +kernel
theorem dX7_sheet_98 : decode cX7_sheet 98 = .ok (.iload_n 1, 1) := by decide +kernel
theorem dX7_sheet_99 : decode cX7_sheet 99 = .ok (.imul, 1) := by decide +kernel
theorem dX7_sheet_100 : decode cX7_sheet 100 = .ok (.iload 4, 2) := by decide +kernel
theorem dX7_sheet_102 : decode cX7_sheet 102 = .ok (.iadd, 1) := by decide +kernel
theorem dX7_sheet_103 : decode cX7_sheet 103 = .ok (.lconst 0, 1) := by decide +kernel
theorem dX7_sheet_104 : decode cX7_sheet 104 = .ok (.lastore, 1) := by decide +kernel
theorem dX7_sheet_105 : decode cX7_sheet 105 = .ok (.iinc 4 1, 3) := by decide +kernel
theorem dX7_sheet_108 : decode cX7_sheet 108 = .ok (.goto (-23), 3) := by decide +kernel
theorem dX7_sheet_111 : decode cX7_sheet 111 = .ok (.aload_n 0, 1) := by decide +kernel
theorem dX7_sheet_112 : decode cX7_sheet 112 = .ok (.getfield 34, 3) := by decide +kernel
theorem dX7_sheet_115 : decode cX7_sheet 115 = .ok (.iload_n 1, 1) := by decide +kernel
theorem dX7_sheet_116 : decode cX7_sheet 116 = .ok (.iaload, 1) := by decide +kernel
theorem dX7_sheet_117 : decode cX7_sheet 117 = .ok (.ireturn, 1) := by decide +kernel
set_option maxRecDepth 20000 in
theorem ggX7_notThere_X7_isSheet : GoodIn wsX7_notThere wsX7_isSheet := goodIn_r _ [7, 8, 9, 6, 10] (by decide +kernel) (by decide +kernel)
set_option maxRecDepth 20000 in
theorem gX7_notThere_X7_isSheet : GoodIn wsX7_notThere (va_wsS RX7 218 yX7_isSheet wsX7_isSheet) := goodIn_app (goodIn_of _ (by decide +kernel)) ggX7_notThere_X7_isSheet
theorem dX7_notThere_0 : decode cX7_notThere 0 = .ok (.iload_n 1, 1) := by decide +kernel
theorem dX7_notThere_1 : decode cX7_notThere 1 = .ok (.invokestatic 218, 3) := by decide +kernel
theorem dX7_notThere_4 : decode cX7_notThere 4 = .ok (.ifCond .ne 8, 3) := by decide +kernel
theorem dX7_notThere_7 : decode cX7_notThere 7 = .ok (.ldc 41, 2) := by decide +kernel
theorem dX7_notThere_9 : decode cX7_notThere 9 = .ok (.goto 18, 3) := by decide +kernel
theorem dX7_notThere_12 : decode cX7_notThere 12 = .ok (.aload_n 0, 1) := by decide +kernel
theorem dX7_notThere_13 : decode cX7_notThere 13 = .ok (.getfield 31, 3) := by decide +kernel
theorem dX7_notThere_16 : decode cX7_notThere 16 = .ok (.iload_n 1, 1) := by decide +kernel
theorem dX7_notThere_17 : decode cX7_notThere 17 = .ok (.iaload, 1) := by decide +kernel
theorem dX7_notThere_18 : decode cX7_notThere 18 = .ok (.ifCond .ne 8, 3) := by decide +kernel
theorem dX7_notThere_21 : decode cX7_notThere 21 = .ok (.ldc 222, 2) := by decide +kernel
theorem dX7_notThere_23 : decode cX7_notThere 23 = .ok (.goto 4, 3) := by decide +kernel
theorem dX7_notThere_26 : decode cX7_notThere 26 = .ok (.iconst 0, 1) := by decide +kernel
theorem dX7_notThere_27 : decode cX7_notThere 27 = .ok (.ireturn, 1) := by decide +kernel
theorem dX7_cutTo_0 : decode cX7_cutTo 0 = .ok (.iload_n 0, 1) := by decide +kernel
theorem dX7_cutTo_1 : decode cX7_cutTo 1 = .ok (.bipush 8, 2) := by decide +kernel
theorem dX7_cutTo_3 : decode cX7_cutTo 3 = .ok (.if_icmp .ne 10, 3) := by decide +kernel
theorem dX7_cutTo_6 : decode cX7_cutTo 6 = .ok (.lload_n 1, 1) := by decide +kernel
theorem dX7_cutTo_7 : decode cX7_cutTo 7 = .ok (.l2i, 1) := by decide +kernel
theorem dX7_cutTo_8 : decode cX7_cutTo 8 = .ok (.i2b, 1) := by decide +kernel
theorem dX7_cutTo_9 : decode cX7_cutTo 9 = .ok (.i2l, 1) := by decide +kernel
theorem dX7_cutTo_10 : decode cX7_cutTo 10 = .ok (.goto 17, 3) := by decide +kernel
theorem dX7_cutTo_13 : decode cX7_cutTo 13 = .ok (.iload_n 0, 1) := by decide +kernel
theorem dX7_cutTo_14 : decode cX7_cutTo 14 = .ok (.bipush 16, 2) := by decide +kernel
theorem dX7_cutTo_16 : decode cX7_cutTo 16 = .ok (.if_icmp .ne 10, 3) := by decide +kernel
theorem dX7_cutTo_19 : decode cX7_cutTo 19 = .ok (.lload_n 1, 1) := by decide +kernel
theorem dX7_cutTo_20 : decode cX7_cutTo 20 = .ok (.l2i, 1) := by decide +kernel
theorem dX7_cutTo_21 : decode cX7_cutTo 21 = .ok (.i2s, 1) := by decide +kernel
theorem dX7_cutTo_22 : decode cX7_cutTo 22 = .ok (.i2l, 1) := by decide +kernel
theorem dX7_cutTo_23 : decode cX7_cutTo 23 = .ok (.goto 4, 3) := by decide +kernel
theorem dX7_cutTo_26 : decode cX7_cutTo 26 = .ok (.lload_n 1, 1) := by decide +kernel
theorem dX7_cutTo_27 : decode cX7_cutTo 27 = .ok (.lreturn, 1) := by decide +kernel
set_option maxRecDepth 20000 in
theorem ggX7_write_X7_notThere : GoodIn wsX7_write wsX7_notThere := goodIn_r _ [9, 2, 4, 10, 11, 12, 8, 13, 14, 15, 16, 25, 26, 27, 28, 29, 30, 31, 32, 33, 34, 35, 36, 37, 38, 39, 40, 41] (by decide +kernel) (by decide +kernel)
set_option maxRecDepth 20000 in
theorem gX7_write_X7_notThere : GoodIn wsX7_write (wsV RX7 223 RX7 yX7_notThere wsX7_notThere) := goodIn_app (goodIn_of _ (by decide +kernel)) ggX7_write_X7_notThere
set_option maxRecDepth 20000 in
theorem ggX7_write_X7_in : GoodIn wsX7_write wsX7_in := goodIn_r _ [16] (by decide +kernel) (by decide +kernel)
set_option maxRecDepth 20000 in
theorem gX7_write_X7_in : GoodIn wsX7_write (va_wsS RX7 47 yX7_in wsX7_in) := goodIn_app (goodIn_of _ (by decide +kernel)) ggX7_write_X7_in
set_option maxRecDepth 20000 in
theorem ggX7_write_X7_finds : GoodIn wsX7_write wsX7_finds := goodIn_r _ [20, 21, 2, 25, 26, 27, 28, 29, 30, 31, 32, 33, 34, 35, 36, 37, 38, 39, 40, 41] (by decide +kernel) (by decide +kernel)
set_option maxRecDepth 20000 in
theorem gX7_write_X7_finds : GoodIn wsX7_write (wsV RX7 43 RX7 yX7_finds wsX7_finds) := goodIn_app (goodIn_of _ (by decide +kernel)) ggX7_write_X7_finds
set_option maxRecDepth 20000 in
theorem ggX7_write_X7_cutTo : GoodIn wsX7_write wsX7_cutTo := goodIn_r _ [24] (by decide +kernel) (by decide +kernel)
set_option maxRecDepth 20000 in
theorem gX7_write_X7_cutTo : GoodIn wsX7_write (va_wsS RX7 226 yX7_cutTo wsX7_cutTo) := goodIn_app (goodIn_of _ (by decide +kernel)) ggX7_write_X7_cutTo
theorem dX7_write_0 : decode cX7_write 0 = .ok (.aload_n 0, 1) := by decide +kernel
theorem dX7_write_1 : decode cX7_write 1 = .ok (.iload_n 1, 1) := by decide +kernel
theorem dX7_write_2 : decode cX7_write 2 = .ok (.invokevirtual 223, 3) := by decide +kernel
theorem dX7_write_5 : decode cX7_write 5 = .ok (.istore 5, 2) := by decide +kernel
theorem dX7_write_7 : decode cX7_write 7 = .ok (.iload 5, 2) := by decide +kernel
theorem dX7_write_9 : decode cX7_write 9 = .ok (.ifCond .ne 24, 3) := by decide +kernel
theorem dX7_write_12 : decode cX7_write 12 = .ok (.iload_n 2, 1) := by decide +kernel
theorem dX7_write_13 : decode cX7_write 13 = .ok (.i2l, 1) := by decide +kernel
theorem dX7_write_14 : decode cX7_write 14 = .ok (.iconst 0, 1) := by decide +kernel
theorem dX7_write_15 : decode cX7_write 15 = .ok (.aload_n 0, 1) := by decide +kernel
theorem dX7_write_16 : decode cX7_write 16 = .ok (.getfield 34, 3) := by decide +kernel
theorem dX7_write_19 : decode cX7_write 19 = .ok (.iload_n 1, 1) := by decide +kernel
theorem dX7_write_20 : decode cX7_write 20 = .ok (.iaload, 1) := by decide +kernel
theorem dX7_write_21 : decode cX7_write 21 = .ok (.iconst 1, 1) := by decide +kernel
theorem dX7_write_22 : decode cX7_write 22 = .ok (.isub, 1) := by decide +kernel
theorem dX7_write_23 : decode cX7_write 23 = .ok (.invokestatic 47, 3) := by decide +kernel
theorem dX7_write_26 : decode cX7_write 26 = .ok (.ifCond .ne 7, 3) := by decide +kernel
theorem dX7_write_29 : decode cX7_write 29 = .ok (.ldc 41, 2) := by decide +kernel
theorem dX7_write_31 : decode cX7_write 31 = .ok (.istore 5, 2) := by decide +kernel
theorem dX7_write_33 : decode cX7_write 33 = .ok (.iload 5, 2) := by decide +kernel
theorem dX7_write_35 : decode cX7_write 35 = .ok (.ifCond .eq 11, 3) := by decide +kernel
theorem dX7_write_38 : decode cX7_write 38 = .ok (.aload_n 0, 1) := by decide +kernel
theorem dX7_write_39 : decode cX7_write 39 = .ok (.iload 5, 2) := by decide +kernel
theorem dX7_write_41 : decode cX7_write 41 = .ok (.invokevirtual 43, 3) := by decide +kernel
theorem dX7_write_44 : decode cX7_write 44 = .ok (.i2l, 1) := by decide +kernel
theorem dX7_write_45 : decode cX7_write 45 = .ok (.lreturn, 1) := by decide +kernel
theorem dX7_write_46 : decode cX7_write 46 = .ok (.aload_n 0, 1) := by decide +kernel
theorem dX7_write_47 : decode cX7_write 47 = .ok (.getfield 37, 3) := by decide +kernel
theorem dX7_write_50 : decode cX7_write 50 = .ok (.bipush 40, 2) := by decide +kernel
theorem dX7_write_52 : decode cX7_write 52 = .ok (.iload_n 1, 1) := by decide +kernel
theorem dX7_write_53 : decode cX7_write 53 = .ok (.imul, 1) := by decide +kernel
theorem dX7_write_54 : decode cX7_write 54 = .ok (.iload_n 2, 1) := by decide +kernel
theorem dX7_write_55 : decode cX7_write 55 = .ok (.iadd, 1) := by decide +kernel
theorem dX7_write_56 : decode cX7_write 56 = .ok (.laload, 1) := by decide +kernel
theorem dX7_write_57 : decode cX7_write 57 = .ok (.lstore 6, 2) := by decide +kernel
theorem dX7_write_59 : decode cX7_write 59 = .ok (.aload_n 0, 1) := by decide +kernel
theorem dX7_write_60 : decode cX7_write 60 = .ok (.getfield 37, 3) := by decide +kernel
theorem dX7_write_63 : decode cX7_write 63 = .ok (.bipush 40, 2) := by decide +kernel
theorem dX7_write_65 : decode cX7_write 65 = .ok (.iload_n 1, 1) := by decide +kernel
theorem dX7_write_66 : decode cX7_write 66 = .ok (.imul, 1) := by decide +kernel
theorem dX7_write_67 : decode cX7_write 67 = .ok (.iload_n 2, 1) := by decide +kernel
theorem dX7_write_68 : decode cX7_write 68 = .ok (.iadd, 1) := by decide +kernel
theorem dX7_write_69 : decode cX7_write 69 = .ok (.aload_n 0, 1) := by decide +kernel
theorem dX7_write_70 : decode cX7_write 70 = .ok (.getfield 31, 3) := by decide +kernel
theorem dX7_write_73 : decode cX7_write 73 = .ok (.iload_n 1, 1) := by decide +kernel
theorem dX7_write_74 : decode cX7_write 74 = .ok (.iaload, 1) := by decide +kernel
theorem dX7_write_75 : decode cX7_write 75 = .ok (.lload_n 3, 1) := by decide +kernel
theorem dX7_write_76 : decode cX7_write 76 = .ok (.invokestatic 226, 3) := by decide +kernel
theorem dX7_write_79 : decode cX7_write 79 = .ok (.lastore, 1) := by decide +kernel
theorem dX7_write_80 : decode cX7_write 80 = .ok (.lload 6, 2) := by decide +kernel
theorem dX7_write_82 : decode cX7_write 82 = .ok (.lreturn, 1) := by decide +kernel
set_option maxRecDepth 20000 in
theorem ggX7_notCopied_X7_isSheet : GoodIn wsX7_notCopied wsX7_isSheet := goodIn_r _ [9, 10, 11, 8, 12] (by decide +kernel) (by decide +kernel)
set_option maxRecDepth 20000 in
theorem gX7_notCopied_X7_isSheet : GoodIn wsX7_notCopied (va_wsS RX7 218 yX7_isSheet wsX7_isSheet) := goodIn_app (goodIn_of _ (by decide +kernel)) ggX7_notCopied_X7_isSheet
theorem dX7_notCopied_0 : decode cX7_notCopied 0 = .ok (.iload_n 1, 1) := by decide +kernel
theorem dX7_notCopied_1 : decode cX7_notCopied 1 = .ok (.invokestatic 218, 3) := by decide +kernel
theorem dX7_notCopied_4 : decode cX7_notCopied 4 = .ok (.ifCond .eq 10, 3) := by decide +kernel
theorem dX7_notCopied_7 : decode cX7_notCopied 7 = .ok (.iload_n 3, 1) := by decide +kernel
theorem dX7_notCopied_8 : decode cX7_notCopied 8 = .ok (.invokestatic 218, 3) := by decide +kernel
theorem dX7_notCopied_11 : decode cX7_notCopied 11 = .ok (.ifCond .ne 6, 3) := by decide +kernel
theorem dX7_notCopied_14 : decode cX7_notCopied 14 = .ok (.ldc 41, 2) := by decide +kernel
theorem dX7_notCopied_16 : decode cX7_notCopied 16 = .ok (.ireturn, 1) := by decide +kernel
theorem dX7_notCopied_17 : decode cX7_notCopied 17 = .ok (.aload_n 0, 1) := by decide +kernel
theorem dX7_notCopied_18 : decode cX7_notCopied 18 = .ok (.getfield 31, 3) := by decide +kernel
theorem dX7_notCopied_21 : decode cX7_notCopied 21 = .ok (.iload_n 1, 1) := by decide +kernel
theorem dX7_notCopied_22 : decode cX7_notCopied 22 = .ok (.iaload, 1) := by decide +kernel
theorem dX7_notCopied_23 : decode cX7_notCopied 23 = .ok (.ifCond .eq 12, 3) := by decide +kernel
theorem dX7_notCopied_26 : decode cX7_notCopied 26 = .ok (.aload_n 0, 1) := by decide +kernel
theorem dX7_notCopied_27 : decode cX7_notCopied 27 = .ok (.getfield 31, 3) := by decide +kernel
theorem dX7_notCopied_30 : decode cX7_notCopied 30 = .ok (.iload_n 3, 1) := by decide +kernel
theorem dX7_notCopied_31 : decode cX7_notCopied 31 = .ok (.iaload, 1) := by decide +kernel
theorem dX7_notCopied_32 : decode cX7_notCopied 32 = .ok (.ifCond .ne 6, 3) := by decide +kernel
theorem dX7_notCopied_35 : decode cX7_notCopied 35 = .ok (.ldc 222, 2) := by decide +kernel
theorem dX7_notCopied_37 : decode cX7_notCopied 37 = .ok (.ireturn, 1) := by decide +kernel
theorem dX7_notCopied_38 : decode cX7_notCopied 38 = .ok (.aload_n 0, 1) := by decide +kernel
theorem dX7_notCopied_39 : decode cX7_notCopied 39 = .ok (.getfield 31, 3) := by decide +kernel
theorem dX7_notCopied_42 : decode cX7_notCopied 42 = .ok (.iload_n 1, 1) := by decide +kernel
theorem dX7_notCopied_43 : decode cX7_notCopied 43 = .ok (.iaload, 1) := by decide +kernel
theorem dX7_notCopied_44 : decode cX7_notCopied 44 = .ok (.aload_n 0, 1) := by decide +kernel
theorem dX7_notCopied_45 : decode cX7_notCopied 45 = .ok (.getfield 31, 3) := by decide +kernel
theorem dX7_notCopied_48 : decode cX7_notCopied 48 = .ok (.iload_n 3, 1) := by decide +kernel
theorem dX7_notCopied_49 : decode cX7_notCopied 49 = .ok (.iaload, 1) := by decide +kernel
theorem dX7_notCopied_50 : decode cX7_notCopied 50 = .ok (.if_icmp .eq 6, 3) := by decide +kernel
theorem dX7_notCopied_53 : decode cX7_notCopied 53 = .ok (.ldc 108, 2) := by decide +kernel
theorem dX7_notCopied_55 : decode cX7_notCopied 55 = .ok (.ireturn, 1) := by decide +kernel
theorem dX7_notCopied_56 : decode cX7_notCopied 56 = .ok (.iload 5, 2) := by decide +kernel
theorem dX7_notCopied_58 : decode cX7_notCopied 58 = .ok (.ifCond .lt 43, 3) := by decide +kernel
theorem dX7_notCopied_61 : decode cX7_notCopied 61 = .ok (.iload_n 2, 1) := by decide +kernel
theorem dX7_notCopied_62 : decode cX7_notCopied 62 = .ok (.ifCond .lt 39, 3) := by decide +kernel
theorem dX7_notCopied_65 : decode cX7_notCopied 65 = .ok (.iload 4, 2) := by decide +kernel
theorem dX7_notCopied_67 : decode cX7_notCopied 67 = .ok (.ifCond .lt 34, 3) := by decide +kernel
theorem dX7_notCopied_70 : decode cX7_notCopied 70 = .ok (.iload 5, 2) := by decide +kernel
theorem dX7_notCopied_72 : decode cX7_notCopied 72 = .ok (.aload_n 0, 1) := by decide +kernel
theorem dX7_notCopied_73 : decode cX7_notCopied 73 = .ok (.getfield 34, 3) := by decide +kernel
theorem dX7_notCopied_76 : decode cX7_notCopied 76 = .ok (.iload_n 1, 1) := by decide +kernel
theorem dX7_notCopied_77 : decode cX7_notCopied 77 = .ok (.iaload, 1) := by decide +kernel
theorem dX7_notCopied_78 : decode cX7_notCopied 78 = .ok (.iload_n 2, 1) := by decide +kernel
theorem dX7_notCopied_79 : decode cX7_notCopied 79 = .ok (.isub, 1) := by decide +kernel
theorem dX7_notCopied_80 : decode cX7_notCopied 80 = .ok (.if_icmp .gt 21, 3) := by decide +kernel
theorem dX7_notCopied_83 : decode cX7_notCopied 83 = .ok (.iload 5, 2) := by decide +kernel
theorem dX7_notCopied_85 : decode cX7_notCopied 85 = .ok (.aload_n 0, 1) := by decide +kernel
theorem dX7_notCopied_86 : decode cX7_notCopied 86 = .ok (.getfield 34, 3) := by decide +kernel
theorem dX7_notCopied_89 : decode cX7_notCopied 89 = .ok (.iload_n 3, 1) := by decide +kernel
theorem dX7_notCopied_90 : decode cX7_notCopied 90 = .ok (.iaload, 1) := by decide +kernel
theorem dX7_notCopied_91 : decode cX7_notCopied 91 = .ok (.iload 4, 2) := by decide +kernel
theorem dX7_notCopied_93 : decode cX7_notCopied 93 = .ok (.isub, 1) := by decide +kernel
theorem dX7_notCopied_94 : decode cX7_notCopied 94 = .ok (.if_icmp .gt 7, 3) := by decide +kernel
theorem dX7_notCopied_97 : decode cX7_notCopied 97 = .ok (.iconst 1, 1) := by decide +kernel
theorem dX7_notCopied_98 : decode cX7_notCopied 98 = .ok (.goto 4, 3) := by decide +kernel
theorem dX7_notCopied_101 : decode cX7_notCopied 101 = .ok (.iconst 0, 1) := by decide +kernel
theorem dX7_notCopied_102 : decode cX7_notCopied 102 = .ok (.istore 6, 2) := by decide +kernel
theorem dX7_notCopied_104 : decode cX7_notCopied 104 = .ok (.iload 6, 2) := by decide +kernel
theorem dX7_notCopied_106 : decode cX7_notCopied 106 = .ok (.ifCond .eq 7, 3) := by decide +kernel
theorem dX7_notCopied_109 : decode cX7_notCopied 109 = .ok (.iconst 0, 1) := by decide +kernel
theorem dX7_notCopied_110 : decode cX7_notCopied 110 = .ok (.goto 5, 3) := by decide +kernel
theorem dX7_notCopied_113 : decode cX7_notCopied 113 = .ok (.ldc 41, 2) := by decide +kernel
theorem dX7_notCopied_115 : decode cX7_notCopied 115 = .ok (.ireturn, 1) := by decide +kernel
set_option maxRecDepth 20000 in
theorem ggX7_copy_X7_notCopied : GoodIn wsX7_copy wsX7_notCopied := goodIn_r _ [6, 7, 8, 9, 10, 11, 12, 13, 5, 14, 15, 16, 17, 23, 24, 25, 26, 27, 28, 29, 30, 31, 32, 33, 34, 35, 36, 37, 38, 39] (by decide +kernel) (by decide +kernel)
set_option maxRecDepth 20000 in
theorem gX7_copy_X7_notCopied : GoodIn wsX7_copy (wsV RX7 230 RX7 yX7_notCopied wsX7_notCopied) := goodIn_app (goodIn_of _ (by decide +kernel)) ggX7_copy_X7_notCopied
set_option maxRecDepth 20000 in
theorem ggX7_copy_X7_finds : GoodIn wsX7_copy wsX7_finds := goodIn_r _ [21, 22, 7, 23, 24, 25, 26, 27, 28, 29, 30, 31, 32, 33, 34, 35, 36, 37, 38, 39] (by decide +kernel) (by decide +kernel)
set_option maxRecDepth 20000 in
theorem gX7_copy_X7_finds : GoodIn wsX7_copy (wsV RX7 43 RX7 yX7_finds wsX7_finds) := goodIn_app (goodIn_of _ (by decide +kernel)) ggX7_copy_X7_finds
theorem dX7_copy_0 : decode cX7_copy 0 = .ok (.aload_n 0, 1) := by decide +kernel
theorem dX7_copy_1 : decode cX7_copy 1 = .ok (.iload_n 1, 1) := by decide +kernel
theorem dX7_copy_2 : decode cX7_copy 2 = .ok (.iload_n 2, 1) := by decide +kernel
theorem dX7_copy_3 : decode cX7_copy 3 = .ok (.iload_n 3, 1) := by decide +kernel
theorem dX7_copy_4 : decode cX7_copy 4 = .ok (.iload 4, 2) := by decide +kernel
theorem dX7_copy_6 : decode cX7_copy 6 = .ok (.iload 5, 2) := by decide +kernel
theorem dX7_copy_8 : decode cX7_copy 8 = .ok (.invokevirtual 230, 3) := by decide +kernel
theorem dX7_copy_11 : decode cX7_copy 11 = .ok (.istore 6, 2) := by decide +kernel
theorem dX7_copy_13 : decode cX7_copy 13 = .ok (.iload 6, 2) := by decide +kernel
theorem dX7_copy_15 : decode cX7_copy 15 = .ok (.ifCond .eq 10, 3) := by decide +kernel
theorem dX7_copy_18 : decode cX7_copy 18 = .ok (.aload_n 0, 1) := by decide +kernel
theorem dX7_copy_19 : decode cX7_copy 19 = .ok (.iload 6, 2) := by decide +kernel
theorem dX7_copy_21 : decode cX7_copy 21 = .ok (.invokevirtual 43, 3) := by decide +kernel
theorem dX7_copy_24 : decode cX7_copy 24 = .ok (.ireturn, 1) := by decide +kernel
theorem dX7_copy_25 : decode cX7_copy 25 = .ok (.iconst 0, 1) := by decide +kernel
theorem dX7_copy_26 : decode cX7_copy 26 = .ok (.istore 7, 2) := by decide +kernel
theorem dX7_copy_28 : decode cX7_copy 28 = .ok (.iload 7, 2) := by decide +kernel
theorem dX7_copy_30 : decode cX7_copy 30 = .ok (.iload 5, 2) := by decide +kernel
theorem dX7_copy_32 : decode cX7_copy 32 = .ok (.if_icmp .ge 58, 3) := by decide +kernel
theorem dX7_copy_35 : decode cX7_copy 35 = .ok (.iload_n 2, 1) := by decide +kernel
theorem dX7_copy_36 : decode cX7_copy 36 = .ok (.iload 4, 2) := by decide +kernel
theorem dX7_copy_38 : decode cX7_copy 38 = .ok (.if_icmp .ge 13, 3) := by decide +kernel
theorem dX7_copy_41 : decode cX7_copy 41 = .ok (.iload 5, 2) := by decide +kernel
theorem dX7_copy_43 : decode cX7_copy 43 = .ok (.iconst 1, 1) := by decide +kernel
theorem dX7_copy_44 : decode cX7_copy 44 = .ok (.isub, 1) := by decide +kernel
theorem dX7_copy_45 : decode cX7_copy 45 = .ok (.iload 7, 2) := by decide +kernel
theorem dX7_copy_47 : decode cX7_copy 47 = .ok (.isub, 1) := by decide +kernel
theorem dX7_copy_48 : decode cX7_copy 48 = .ok (.goto 5, 3) := by decide +kernel
theorem dX7_copy_51 : decode cX7_copy 51 = .ok (.iload 7, 2) := by decide +kernel
theorem dX7_copy_53 : decode cX7_copy 53 = .ok (.istore 8, 2) := by decide +kernel
theorem dX7_copy_55 : decode cX7_copy 55 = .ok (.aload_n 0, 1) := by decide +kernel
theorem dX7_copy_56 : decode cX7_copy 56 = .ok (.getfield 37, 3) := by decide +kernel
theorem dX7_copy_59 : decode cX7_copy 59 = .ok (.bipush 40, 2) := by decide +kernel
theorem dX7_copy_61 : decode cX7_copy 61 = .ok (.iload_n 3, 1) := by decide +kernel
theorem dX7_copy_62 : decode cX7_copy 62 = .ok (.imul, 1) := by decide +kernel
theorem dX7_copy_63 : decode cX7_copy 63 = .ok (.iload 4, 2) := by decide +kernel
theorem dX7_copy_65 : decode cX7_copy 65 = .ok (.iadd, 1) := by decide +kernel
theorem dX7_copy_66 : decode cX7_copy 66 = .ok (.iload 8, 2) := by decide +kernel
theorem dX7_copy_68 : decode cX7_copy 68 = .ok (.iadd, 1) := by decide +kernel
theorem dX7_copy_69 : decode cX7_copy 69 = .ok (.aload_n 0, 1) := by decide +kernel
theorem dX7_copy_70 : decode cX7_copy 70 = .ok (.getfield 37, 3) := by decide +kernel
theorem dX7_copy_73 : decode cX7_copy 73 = .ok (.bipush 40, 2) := by decide +kernel
theorem dX7_copy_75 : decode cX7_copy 75 = .ok (.iload_n 1, 1) := by decide +kernel
theorem dX7_copy_76 : decode cX7_copy 76 = .ok (.imul, 1) := by decide +kernel
theorem dX7_copy_77 : decode cX7_copy 77 = .ok (.iload_n 2, 1) := by decide +kernel
theorem dX7_copy_78 : decode cX7_copy 78 = .ok (.iadd, 1) := by decide +kernel
theorem dX7_copy_79 : decode cX7_copy 79 = .ok (.iload 8, 2) := by decide +kernel
theorem dX7_copy_81 : decode cX7_copy 81 = .ok (.iadd, 1) := by decide +kernel
theorem dX7_copy_82 : decode cX7_copy 82 = .ok (.laload, 1) := by decide +kernel
theorem dX7_copy_83 : decode cX7_copy 83 = .ok (.lastore, 1) := by decide +kernel
theorem dX7_copy_84 : decode cX7_copy 84 = .ok (.iinc 7 1, 3) := by decide +kernel
theorem dX7_copy_87 : decode cX7_copy 87 = .ok (.goto (-59), 3) := by decide +kernel
theorem dX7_copy_90 : decode cX7_copy 90 = .ok (.iload 5, 2) := by decide +kernel
theorem dX7_copy_92 : decode cX7_copy 92 = .ok (.ireturn, 1) := by decide +kernel
set_option maxRecDepth 20000 in
theorem ggX7_lays_X7_notThere : GoodIn wsX7_lays wsX7_notThere := goodIn_r _ [8, 9, 10, 11, 12, 13, 7, 14, 15, 16, 17, 23, 24, 25, 26, 27, 28, 29, 30, 31, 32, 33, 34, 35, 36, 37, 38, 39] (by decide +kernel) (by decide +kernel)
set_option maxRecDepth 20000 in
theorem gX7_lays_X7_notThere : GoodIn wsX7_lays (wsV RX7 223 RX7 yX7_notThere wsX7_notThere) := goodIn_app (goodIn_of _ (by decide +kernel)) ggX7_lays_X7_notThere
set_option maxRecDepth 20000 in
theorem ggX7_lays_X7_finds : GoodIn wsX7_lays wsX7_finds := goodIn_r _ [21, 22, 9, 23, 24, 25, 26, 27, 28, 29, 30, 31, 32, 33, 34, 35, 36, 37, 38, 39] (by decide +kernel) (by decide +kernel)
set_option maxRecDepth 20000 in
theorem gX7_lays_X7_finds : GoodIn wsX7_lays (wsV RX7 43 RX7 yX7_finds wsX7_finds) := goodIn_app (goodIn_of _ (by decide +kernel)) ggX7_lays_X7_finds
set_option maxRecDepth 20000 in
theorem ggX7_lays_X7_in : GoodIn wsX7_lays wsX7_in := goodIn_r _ [17] (by decide +kernel) (by decide +kernel)
set_option maxRecDepth 20000 in
theorem gX7_lays_X7_in : GoodIn wsX7_lays (va_wsS RX7 47 yX7_in wsX7_in) := goodIn_app (goodIn_of _ (by decide +kernel)) ggX7_lays_X7_in
theorem dX7_lays_0 : decode cX7_lays 0 = .ok (.aload_n 0, 1) := by decide +kernel
theorem dX7_lays_1 : decode cX7_lays 1 = .ok (.iload_n 1, 1) := by decide +kernel
theorem dX7_lays_2 : decode cX7_lays 2 = .ok (.invokevirtual 223, 3) := by decide +kernel
theorem dX7_lays_5 : decode cX7_lays 5 = .ok (.istore_n 2, 1) := by decide +kernel
theorem dX7_lays_6 : decode cX7_lays 6 = .ok (.iload_n 2, 1) := by decide +kernel
theorem dX7_lays_7 : decode cX7_lays 7 = .ok (.ifCond .eq 9, 3) := by decide +kernel
theorem dX7_lays_10 : decode cX7_lays 10 = .ok (.aload_n 0, 1) := by decide +kernel
theorem dX7_lays_11 : decode cX7_lays 11 = .ok (.iload_n 2, 1) := by decide +kernel
theorem dX7_lays_12 : decode cX7_lays 12 = .ok (.invokevirtual 43, 3) := by decide +kernel
theorem dX7_lays_15 : decode cX7_lays 15 = .ok (.ireturn, 1) := by decide +kernel
theorem dX7_lays_16 : decode cX7_lays 16 = .ok (.iconst 0, 1) := by decide +kernel
theorem dX7_lays_17 : decode cX7_lays 17 = .ok (.istore_n 3, 1) := by decide +kernel
theorem dX7_lays_18 : decode cX7_lays 18 = .ok (.iconst 0, 1) := by decide +kernel
theorem dX7_lays_19 : decode cX7_lays 19 = .ok (.istore 4, 2) := by decide +kernel
theorem dX7_lays_21 : decode cX7_lays 21 = .ok (.iload 4, 2) := by decide +kernel
theorem dX7_lays_23 : decode cX7_lays 23 = .ok (.aload_n 0, 1) := by decide +kernel
theorem dX7_lays_24 : decode cX7_lays 24 = .ok (.getfield 34, 3) := by decide +kernel
theorem dX7_lays_27 : decode cX7_lays 27 = .ok (.iload_n 1, 1) := by decide +kernel
theorem dX7_lays_28 : decode cX7_lays 28 = .ok (.iaload, 1) := by decide +kernel
theorem dX7_lays_29 : decode cX7_lays 29 = .ok (.if_icmp .ge 62, 3) := by decide +kernel
theorem dX7_lays_32 : decode cX7_lays 32 = .ok (.iload 4, 2) := by decide +kernel
theorem dX7_lays_34 : decode cX7_lays 34 = .ok (.bipush 8, 2) := by decide +kernel
theorem dX7_lays_36 : decode cX7_lays 36 = .ok (.if_icmp .ge 55, 3) := by decide +kernel
theorem dX7_lays_39 : decode cX7_lays 39 = .ok (.aload_n 0, 1) := by decide +kernel
theorem dX7_lays_40 : decode cX7_lays 40 = .ok (.getfield 37, 3) := by decide +kernel
theorem dX7_lays_43 : decode cX7_lays 43 = .ok (.bipush 40, 2) := by decide +kernel
theorem dX7_lays_45 : decode cX7_lays 45 = .ok (.iload_n 1, 1) := by decide +kernel
theorem dX7_lays_46 : decode cX7_lays 46 = .ok (.imul, 1) := by decide +kernel
theorem dX7_lays_47 : decode cX7_lays 47 = .ok (.iload 4, 2) := by decide +kernel
theorem dX7_lays_49 : decode cX7_lays 49 = .ok (.iadd, 1) := by decide +kernel
theorem dX7_lays_50 : decode cX7_lays 50 = .ok (.laload, 1) := by decide +kernel
theorem dX7_lays_51 : decode cX7_lays 51 = .ok (.iconst (-1), 1) := by decide +kernel
theorem dX7_lays_52 : decode cX7_lays 52 = .ok (.iconst 1, 1) := by decide +kernel
theorem dX7_lays_53 : decode cX7_lays 53 = .ok (.invokestatic 47, 3) := by decide +kernel
theorem dX7_lays_56 : decode cX7_lays 56 = .ok (.ifCond .eq 29, 3) := by decide +kernel
theorem dX7_lays_59 : decode cX7_lays 59 = .ok (.aload_n 0, 1) := by decide +kernel
theorem dX7_lays_60 : decode cX7_lays 60 = .ok (.getfield 9, 3) := by decide +kernel
theorem dX7_lays_63 : decode cX7_lays 63 = .ok (.bipush 7, 2) := by decide +kernel
theorem dX7_lays_65 : decode cX7_lays 65 = .ok (.iload 4, 2) := by decide +kernel
theorem dX7_lays_67 : decode cX7_lays 67 = .ok (.iadd, 1) := by decide +kernel
theorem dX7_lays_68 : decode cX7_lays 68 = .ok (.aload_n 0, 1) := by decide +kernel
theorem dX7_lays_69 : decode cX7_lays 69 = .ok (.getfield 37, 3) := by decide +kernel
theorem dX7_lays_72 : decode cX7_lays 72 = .ok (.bipush 40, 2) := by decide +kernel
theorem dX7_lays_74 : decode cX7_lays 74 = .ok (.iload_n 1, 1) := by decide +kernel
theorem dX7_lays_75 : decode cX7_lays 75 = .ok (.imul, 1) := by decide +kernel
theorem dX7_lays_76 : decode cX7_lays 76 = .ok (.iload 4, 2) := by decide +kernel
theorem dX7_lays_78 : decode cX7_lays 78 = .ok (.iadd, 1) := by decide +kernel
theorem dX7_lays_79 : decode cX7_lays 79 = .ok (.laload, 1) := by decide +kernel
theorem dX7_lays_80 : decode cX7_lays 80 = .ok (.l2i, 1) := by decide +kernel
theorem dX7_lays_81 : decode cX7_lays 81 = .ok (.iastore, 1) := by decide +kernel
theorem dX7_lays_82 : decode cX7_lays 82 = .ok (.iinc 3 1, 3) := by decide +kernel
theorem dX7_lays_85 : decode cX7_lays 85 = .ok (.iinc 4 1, 3) := by decide +kernel
theorem dX7_lays_88 : decode cX7_lays 88 = .ok (.goto (-67), 3) := by decide +kernel
theorem dX7_lays_91 : decode cX7_lays 91 = .ok (.iload_n 3, 1) := by decide +kernel
theorem dX7_lays_92 : decode cX7_lays 92 = .ok (.ireturn, 1) := by decide +kernel
set_option maxRecDepth 20000 in
theorem ggX7_book_X7_notThere : GoodIn wsX7_book wsX7_notThere := goodIn_r _ [9, 1, 4, 10, 11, 12, 8, 13, 14, 15, 16, 119, 120, 121, 122, 123, 124, 125, 126, 127, 128, 129, 130, 131, 132, 133, 134, 135] (by decide +kernel) (by decide +kernel)
set_option maxRecDepth 20000 in
theorem gX7_book_X7_notThere : GoodIn wsX7_book (wsV RX7 223 RX7 yX7_notThere wsX7_notThere) := goodIn_app (goodIn_of _ (by decide +kernel)) ggX7_book_X7_notThere
set_option maxRecDepth 20000 in
theorem ggX7_book_X7_isState : GoodIn wsX7_book wsX7_isState := goodIn_r _ [19, 14, 15, 8, 16] (by decide +kernel) (by decide +kernel)
set_option maxRecDepth 20000 in
theorem gX7_book_X7_isState : GoodIn wsX7_book (va_wsS RX7 62 yX7_isState wsX7_isState) := goodIn_app (goodIn_of _ (by decide +kernel)) ggX7_book_X7_isState
set_option maxRecDepth 20000 in
theorem ggX7_book_X7_finds : GoodIn wsX7_book wsX7_finds := goodIn_r _ [23, 24, 1, 119, 120, 121, 122, 123, 124, 125, 126, 127, 128, 129, 130, 131, 132, 133, 134, 135] (by decide +kernel) (by decide +kernel)
set_option maxRecDepth 20000 in
theorem gX7_book_X7_finds : GoodIn wsX7_book (wsV RX7 43 RX7 yX7_finds wsX7_finds) := goodIn_app (goodIn_of _ (by decide +kernel)) ggX7_book_X7_finds
set_option maxRecDepth 20000 in
theorem ggX7_book_X7_thinks : GoodIn wsX7_book wsX7_thinks := goodIn_r _ [28, 29, 30, 31, 32, 8, 33, 119, 120, 121, 122, 123, 124, 125, 126, 127, 128, 129, 130, 131, 132, 133, 134, 135] (by decide +kernel) (by decide +kernel)
set_option maxRecDepth 20000 in
theorem gX7_book_X7_thinks : GoodIn wsX7_book (wsV RX7 147 RX7 yX7_thinks wsX7_thinks) := goodIn_app (goodIn_of _ (by decide +kernel)) ggX7_book_X7_thinks
set_option maxRecDepth 20000 in
theorem ggX7_book_X7_landsOf : GoodIn wsX7_book wsX7_landsOf := goodIn_r _ [37, 29, 119, 120, 121, 122, 123, 124, 125, 126, 127, 128, 129, 130, 131, 132, 133, 134, 135] (by decide +kernel) (by decide +kernel)
set_option maxRecDepth 20000 in
theorem gX7_book_X7_landsOf : GoodIn wsX7_book (wsV RX7 133 RX7 yX7_landsOf wsX7_landsOf) := goodIn_app (goodIn_of _ (by decide +kernel)) ggX7_book_X7_landsOf
set_option maxRecDepth 20000 in
theorem ggX7_book_X7_cutTo : GoodIn wsX7_book wsX7_cutTo := goodIn_r _ [40] (by decide +kernel) (by decide +kernel)
set_option maxRecDepth 20000 in
theorem gX7_book_X7_cutTo : GoodIn wsX7_book (va_wsS RX7 226 yX7_cutTo wsX7_cutTo) := goodIn_app (goodIn_of _ (by decide +kernel)) ggX7_book_X7_cutTo
set_option maxRecDepth 20000 in
theorem ggX7_book_X7_goes : GoodIn wsX7_book wsX7_goes := goodIn_r _ [44, 29, 45, 46, 47, 48, 8, 49, 50, 51, 52, 53, 54, 55, 56, 57, 58, 59, 60, 61, 62, 63, 64, 65, 66, 67, 68, 69, 70, 71, 72, 73, 74, 75, 76, 77, 78, 79, 80, 81, 82, 83, 84, 85, 86, 87, 88, 89, 90, 91, 92, 93, 94, 95, 96, 97, 98, 99, 100, 101, 102, 103, 104, 105, 106, 107, 108, 109, 110, 111, 112, 113, 114, 34, 35, 36, 37, 119, 120, 121, 122, 123, 124, 125, 126, 127, 128, 129, 130, 131, 132, 133, 134, 135] (by decide +kernel) (by decide +kernel)
set_option maxRecDepth 20000 in
theorem gX7_book_X7_goes : GoodIn wsX7_book (wsV RX7 136 RX7 yX7_goes wsX7_goes) := goodIn_app (goodIn_of _ (by decide +kernel)) ggX7_book_X7_goes
set_option maxRecDepth 20000 in
theorem ggX7_book_X7_putsBack : GoodIn wsX7_book wsX7_putsBack := goodIn_r _ [118, 30, 29, 31, 32, 8, 33, 119, 120, 121, 122, 123, 124, 125, 126, 127, 128, 129, 130, 131, 132, 133, 134, 135] (by decide +kernel) (by decide +kernel)
set_option maxRecDepth 20000 in
theorem gX7_book_X7_putsBack : GoodIn wsX7_book (wsV RX7 150 RX7 yX7_putsBack wsX7_putsBack) := goodIn_app (goodIn_of _ (by decide +kernel)) ggX7_book_X7_putsBack
theorem dX7_book_0 : decode cX7_book 0 = .ok (.aload_n 0, 1) := by decide +kernel
theorem dX7_book_1 : decode cX7_book 1 = .ok (.iload_n 1, 1) := by decide +kernel
theorem dX7_book_2 : decode cX7_book 2 = .ok (.invokevirtual 223, 3) := by decide +kernel
theorem dX7_book_5 : decode cX7_book 5 = .ok (.istore_n 3, 1) := by decide +kernel
theorem dX7_book_6 : decode cX7_book 6 = .ok (.iload_n 3, 1) := by decide +kernel
theorem dX7_book_7 : decode cX7_book 7 = .ok (.ifCond .ne 15, 3) := by decide +kernel
theorem dX7_book_10 : decode cX7_book 10 = .ok (.iload_n 2, 1) := by decide +kernel
theorem dX7_book_11 : decode cX7_book 11 = .ok (.invokestatic 62, 3) := by decide +kernel
theorem dX7_book_14 : decode cX7_book 14 = .ok (.ifCond .ne 8, 3) := by decide +kernel
theorem dX7_book_17 : decode cX7_book 17 = .ok (.ldc 41, 2) := by decide +kernel
theorem dX7_book_19 : decode cX7_book 19 = .ok (.goto 4, 3) := by decide +kernel
theorem dX7_book_22 : decode cX7_book 22 = .ok (.iload_n 3, 1) := by decide +kernel
theorem dX7_book_23 : decode cX7_book 23 = .ok (.istore_n 3, 1) := by decide +kernel
theorem dX7_book_24 : decode cX7_book 24 = .ok (.iload_n 3, 1) := by decide +kernel
theorem dX7_book_25 : decode cX7_book 25 = .ok (.ifCond .eq 9, 3) := by decide +kernel
theorem dX7_book_28 : decode cX7_book 28 = .ok (.aload_n 0, 1) := by decide +kernel
theorem dX7_book_29 : decode cX7_book 29 = .ok (.iload_n 3, 1) := by decide +kernel
theorem dX7_book_30 : decode cX7_book 30 = .ok (.invokevirtual 43, 3) := by decide +kernel
theorem dX7_book_33 : decode cX7_book 33 = .ok (.ireturn, 1) := by decide +kernel
theorem dX7_book_34 : decode cX7_book 34 = .ok (.aload_n 0, 1) := by decide +kernel
theorem dX7_book_35 : decode cX7_book 35 = .ok (.invokevirtual 147, 3) := by decide +kernel
theorem dX7_book_38 : decode cX7_book 38 = .ok (.iconst 0, 1) := by decide +kernel
theorem dX7_book_39 : decode cX7_book 39 = .ok (.istore 4, 2) := by decide +kernel
theorem dX7_book_41 : decode cX7_book 41 = .ok (.iload 4, 2) := by decide +kernel
theorem dX7_book_43 : decode cX7_book 43 = .ok (.aload_n 0, 1) := by decide +kernel
theorem dX7_book_44 : decode cX7_book 44 = .ok (.getfield 34, 3) := by decide +kernel
theorem dX7_book_47 : decode cX7_book 47 = .ok (.iload_n 1, 1) := by decide +kernel
theorem dX7_book_48 : decode cX7_book 48 = .ok (.iaload, 1) := by decide +kernel
theorem dX7_book_49 : decode cX7_book 49 = .ok (.if_icmp .ge 40, 3) := by decide +kernel
theorem dX7_book_52 : decode cX7_book 52 = .ok (.aload_n 0, 1) := by decide +kernel
theorem dX7_book_53 : decode cX7_book 53 = .ok (.getfield 37, 3) := by decide +kernel
theorem dX7_book_56 : decode cX7_book 56 = .ok (.bipush 40, 2) := by decide +kernel
theorem dX7_book_58 : decode cX7_book 58 = .ok (.iload_n 1, 1) := by decide +kernel
theorem dX7_book_59 : decode cX7_book 59 = .ok (.imul, 1) := by decide +kernel
theorem dX7_book_60 : decode cX7_book 60 = .ok (.iload 4, 2) := by decide +kernel
theorem dX7_book_62 : decode cX7_book 62 = .ok (.iadd, 1) := by decide +kernel
theorem dX7_book_63 : decode cX7_book 63 = .ok (.aload_n 0, 1) := by decide +kernel
theorem dX7_book_64 : decode cX7_book 64 = .ok (.getfield 31, 3) := by decide +kernel
theorem dX7_book_67 : decode cX7_book 67 = .ok (.iload_n 1, 1) := by decide +kernel
theorem dX7_book_68 : decode cX7_book 68 = .ok (.iaload, 1) := by decide +kernel
theorem dX7_book_69 : decode cX7_book 69 = .ok (.aload_n 0, 1) := by decide +kernel
theorem dX7_book_70 : decode cX7_book 70 = .ok (.iload_n 2, 1) := by decide +kernel
theorem dX7_book_71 : decode cX7_book 71 = .ok (.invokevirtual 133, 3) := by decide +kernel
theorem dX7_book_74 : decode cX7_book 74 = .ok (.i2l, 1) := by decide +kernel
theorem dX7_book_75 : decode cX7_book 75 = .ok (.invokestatic 226, 3) := by decide +kernel
theorem dX7_book_78 : decode cX7_book 78 = .ok (.lastore, 1) := by decide +kernel
theorem dX7_book_79 : decode cX7_book 79 = .ok (.aload_n 0, 1) := by decide +kernel
theorem dX7_book_80 : decode cX7_book 80 = .ok (.invokevirtual 136, 3) := by decide +kernel
theorem dX7_book_83 : decode cX7_book 83 = .ok (.iinc 4 1, 3) := by decide +kernel
theorem dX7_book_86 : decode cX7_book 86 = .ok (.goto (-45), 3) := by decide +kernel
theorem dX7_book_89 : decode cX7_book 89 = .ok (.aload_n 0, 1) := by decide +kernel
theorem dX7_book_90 : decode cX7_book 90 = .ok (.invokevirtual 150, 3) := by decide +kernel
theorem dX7_book_93 : decode cX7_book 93 = .ok (.aload_n 0, 1) := by decide +kernel
theorem dX7_book_94 : decode cX7_book 94 = .ok (.getfield 34, 3) := by decide +kernel
theorem dX7_book_97 : decode cX7_book 97 = .ok (.iload_n 1, 1) := by decide +kernel
theorem dX7_book_98 : decode cX7_book 98 = .ok (.iaload, 1) := by decide +kernel
theorem dX7_book_99 : decode cX7_book 99 = .ok (.ireturn, 1) := by decide +kernel
set_option maxRecDepth 20000 in
theorem ggX7_isBook_X7_landsOf : GoodIn wsX7_isBook wsX7_landsOf := goodIn_r _ [7, 8, 91, 92, 93, 94, 95, 96, 97, 98, 99, 100, 101, 102, 103, 104, 105, 106, 107] (by decide +kernel) (by decide +kernel)
set_option maxRecDepth 20000 in
theorem gX7_isBook_X7_landsOf : GoodIn wsX7_isBook (wsV RX7 133 RX7 yX7_landsOf wsX7_landsOf) := goodIn_app (goodIn_of _ (by decide +kernel)) ggX7_isBook_X7_landsOf
set_option maxRecDepth 20000 in
theorem ggX7_isBook_X7_goes : GoodIn wsX7_isBook wsX7_goes := goodIn_r _ [12, 8, 13, 14, 15, 16, 6, 17, 18, 19, 20, 21, 22, 23, 24, 25, 26, 27, 28, 29, 30, 31, 32, 33, 34, 35, 36, 37, 38, 39, 40, 41, 42, 43, 44, 45, 46, 47, 48, 49, 50, 51, 52, 53, 54, 55, 56, 57, 58, 59, 60, 61, 62, 63, 64, 65, 66, 67, 68, 69, 70, 71, 72, 73, 74, 75, 76, 77, 78, 79, 80, 81, 82, 3, 4, 5, 7, 91, 92, 93, 94, 95, 96, 97, 98, 99, 100, 101, 102, 103, 104, 105, 106, 107] (by decide +kernel) (by decide +kernel)
set_option maxRecDepth 20000 in
theorem gX7_isBook_X7_goes : GoodIn wsX7_isBook (wsV RX7 136 RX7 yX7_goes wsX7_goes) := goodIn_app (goodIn_of _ (by decide +kernel)) ggX7_isBook_X7_goes
set_option maxRecDepth 20000 in
theorem ggX7_isBook_X7_putsBack : GoodIn wsX7_isBook wsX7_putsBack := goodIn_r _ [86, 87, 8, 88, 89, 6, 90, 91, 92, 93, 94, 95, 96, 97, 98, 99, 100, 101, 102, 103, 104, 105, 106, 107] (by decide +kernel) (by decide +kernel)
set_option maxRecDepth 20000 in
theorem gX7_isBook_X7_putsBack : GoodIn wsX7_isBook (wsV RX7 150 RX7 yX7_putsBack wsX7_putsBack) := goodIn_app (goodIn_of _ (by decide +kernel)) ggX7_isBook_X7_putsBack
theorem dX7_isBook_0 : decode cX7_isBook 0 = .ok (.iconst 1, 1) := by decide +kernel
theorem dX7_isBook_1 : decode cX7_isBook 1 = .ok (.istore_n 3, 1) := by decide +kernel
theorem dX7_isBook_2 : decode cX7_isBook 2 = .ok (.iconst 0, 1) := by decide +kernel
theorem dX7_isBook_3 : decode cX7_isBook 3 = .ok (.istore 4, 2) := by decide +kernel
theorem dX7_isBook_5 : decode cX7_isBook 5 = .ok (.iload 4, 2) := by decide +kernel
theorem dX7_isBook_7 : decode cX7_isBook 7 = .ok (.aload_n 0, 1) := by decide +kernel
theorem dX7_isBook_8 : decode cX7_isBook 8 = .ok (.getfield 34, 3) := by decide +kernel
theorem dX7_isBook_11 : decode cX7_isBook 11 = .ok (.iload_n 1, 1) := by decide +kernel
theorem dX7_isBook_12 : decode cX7_isBook 12 = .ok (.iaload, 1) := by decide +kernel
theorem dX7_isBook_13 : decode cX7_isBook 13 = .ok (.if_icmp .ge 45, 3) := by decide +kernel
theorem dX7_isBook_16 : decode cX7_isBook 16 = .ok (.iload_n 3, 1) := by decide +kernel
theorem dX7_isBook_17 : decode cX7_isBook 17 = .ok (.ifCond .eq 41, 3) := by decide +kernel
theorem dX7_isBook_20 : decode cX7_isBook 20 = .ok (.aload_n 0, 1) := by decide +kernel
theorem dX7_isBook_21 : decode cX7_isBook 21 = .ok (.getfield 37, 3) := by decide +kernel
theorem dX7_isBook_24 : decode cX7_isBook 24 = .ok (.bipush 40, 2) := by decide +kernel
theorem dX7_isBook_26 : decode cX7_isBook 26 = .ok (.iload_n 1, 1) := by decide +kernel
theorem dX7_isBook_27 : decode cX7_isBook 27 = .ok (.imul, 1) := by decide +kernel
theorem dX7_isBook_28 : decode cX7_isBook 28 = .ok (.iload 4, 2) := by decide +kernel
theorem dX7_isBook_30 : decode cX7_isBook 30 = .ok (.iadd, 1) := by decide +kernel
theorem dX7_isBook_31 : decode cX7_isBook 31 = .ok (.laload, 1) := by decide +kernel
theorem dX7_isBook_32 : decode cX7_isBook 32 = .ok (.aload_n 0, 1) := by decide +kernel
theorem dX7_isBook_33 : decode cX7_isBook 33 = .ok (.iload_n 2, 1) := by decide +kernel
theorem dX7_isBook_34 : decode cX7_isBook 34 = .ok (.invokevirtual 133, 3) := by decide +kernel
theorem dX7_isBook_37 : decode cX7_isBook 37 = .ok (.i2l, 1) := by decide +kernel
theorem dX7_isBook_38 : decode cX7_isBook 38 = .ok (.lcmp, 1) := by decide +kernel
theorem dX7_isBook_39 : decode cX7_isBook 39 = .ok (.ifCond .ne 7, 3) := by decide +kernel
theorem dX7_isBook_42 : decode cX7_isBook 42 = .ok (.iconst 1, 1) := by decide +kernel
theorem dX7_isBook_43 : decode cX7_isBook 43 = .ok (.goto 4, 3) := by decide +kernel
theorem dX7_isBook_46 : decode cX7_isBook 46 = .ok (.iconst 0, 1) := by decide +kernel
theorem dX7_isBook_47 : decode cX7_isBook 47 = .ok (.istore_n 3, 1) := by decide +kernel
theorem dX7_isBook_48 : decode cX7_isBook 48 = .ok (.aload_n 0, 1) := by decide +kernel
theorem dX7_isBook_49 : decode cX7_isBook 49 = .ok (.invokevirtual 136, 3) := by decide +kernel
theorem dX7_isBook_52 : decode cX7_isBook 52 = .ok (.iinc 4 1, 3) := by decide +kernel
theorem dX7_isBook_55 : decode cX7_isBook 55 = .ok (.goto (-50), 3) := by decide +kernel
theorem dX7_isBook_58 : decode cX7_isBook 58 = .ok (.aload_n 0, 1) := by decide +kernel
theorem dX7_isBook_59 : decode cX7_isBook 59 = .ok (.invokevirtual 150, 3) := by decide +kernel
theorem dX7_isBook_62 : decode cX7_isBook 62 = .ok (.iload_n 3, 1) := by decide +kernel
theorem dX7_isBook_63 : decode cX7_isBook 63 = .ok (.ireturn, 1) := by decide +kernel
set_option maxRecDepth 20000 in
theorem ggX7_read_X7_notThere : GoodIn wsX7_read wsX7_notThere := goodIn_r _ [7, 1, 8, 9, 10, 11, 6, 12, 13, 14, 15, 124, 125, 126, 127, 128, 129, 130, 131, 132, 133, 134, 135, 136, 137, 138, 139, 140] (by decide +kernel) (by decide +kernel)
set_option maxRecDepth 20000 in
theorem gX7_read_X7_notThere : GoodIn wsX7_read (wsV RX7 223 RX7 yX7_notThere wsX7_notThere) := goodIn_app (goodIn_of _ (by decide +kernel)) ggX7_read_X7_notThere
set_option maxRecDepth 20000 in
theorem ggX7_read_X7_isState : GoodIn wsX7_read wsX7_isState := goodIn_r _ [18, 13, 14, 6, 15] (by decide +kernel) (by decide +kernel)
set_option maxRecDepth 20000 in
theorem gX7_read_X7_isState : GoodIn wsX7_read (va_wsS RX7 62 yX7_isState wsX7_isState) := goodIn_app (goodIn_of _ (by decide +kernel)) ggX7_read_X7_isState
set_option maxRecDepth 20000 in
theorem ggX7_read_X7_isEnvoy : GoodIn wsX7_read wsX7_isEnvoy := goodIn_r _ [22, 2, 13, 14, 6, 15, 124, 125, 126, 127, 128, 129, 130, 131, 132, 133, 134, 135, 136, 137, 138, 139, 140] (by decide +kernel) (by decide +kernel)
set_option maxRecDepth 20000 in
theorem gX7_read_X7_isEnvoy : GoodIn wsX7_read (wsV RX7 105 RX7 yX7_isEnvoy wsX7_isEnvoy) := goodIn_app (goodIn_of _ (by decide +kernel)) ggX7_read_X7_isEnvoy
set_option maxRecDepth 20000 in
theorem ggX7_read_X7_finds : GoodIn wsX7_read wsX7_finds := goodIn_r _ [26, 27, 1, 124, 125, 126, 127, 128, 129, 130, 131, 132, 133, 134, 135, 136, 137, 138, 139, 140] (by decide +kernel) (by decide +kernel)
set_option maxRecDepth 20000 in
theorem gX7_read_X7_finds : GoodIn wsX7_read (wsV RX7 43 RX7 yX7_finds wsX7_finds) := goodIn_app (goodIn_of _ (by decide +kernel)) ggX7_read_X7_finds
set_option maxRecDepth 20000 in
theorem ggX7_read_X7_thinks : GoodIn wsX7_read wsX7_thinks := goodIn_r _ [31, 2, 32, 33, 34, 6, 35, 124, 125, 126, 127, 128, 129, 130, 131, 132, 133, 134, 135, 136, 137, 138, 139, 140] (by decide +kernel) (by decide +kernel)
set_option maxRecDepth 20000 in
theorem gX7_read_X7_thinks : GoodIn wsX7_read (wsV RX7 147 RX7 yX7_thinks wsX7_thinks) := goodIn_app (goodIn_of _ (by decide +kernel)) ggX7_read_X7_thinks
set_option maxRecDepth 20000 in
theorem ggX7_read_X7_isBook : GoodIn wsX7_read wsX7_isBook := goodIn_r _ [39, 40, 41, 42, 43, 44, 6, 45, 2, 46, 47, 48, 49, 50, 51, 52, 53, 54, 55, 56, 57, 58, 59, 60, 61, 62, 63, 64, 65, 66, 67, 68, 69, 70, 71, 72, 73, 74, 75, 76, 77, 78, 79, 80, 81, 82, 83, 84, 85, 86, 87, 88, 89, 90, 91, 92, 93, 94, 95, 96, 97, 98, 99, 100, 101, 102, 103, 104, 105, 106, 107, 108, 109, 110, 111, 112, 113, 114, 115, 116, 117, 118, 119, 120, 121, 122, 123, 32, 33, 34, 35, 124, 125, 126, 127, 128, 129, 130, 131, 132, 133, 134, 135, 136, 137, 138, 139, 140] (by decide +kernel) (by decide +kernel)
set_option maxRecDepth 20000 in
theorem gX7_read_X7_isBook : GoodIn wsX7_read (wsV RX7 234 RX7 yX7_isBook wsX7_isBook) := goodIn_app (goodIn_of _ (by decide +kernel)) ggX7_read_X7_isBook
theorem dX7_read_0 : decode cX7_read 0 = .ok (.aload_n 0, 1) := by decide +kernel
theorem dX7_read_1 : decode cX7_read 1 = .ok (.iload_n 1, 1) := by decide +kernel
theorem dX7_read_2 : decode cX7_read 2 = .ok (.invokevirtual 223, 3) := by decide +kernel
theorem dX7_read_5 : decode cX7_read 5 = .ok (.istore 4, 2) := by decide +kernel
theorem dX7_read_7 : decode cX7_read 7 = .ok (.iload 4, 2) := by decide +kernel
theorem dX7_read_9 : decode cX7_read 9 = .ok (.ifCond .ne 23, 3) := by decide +kernel
theorem dX7_read_12 : decode cX7_read 12 = .ok (.iload_n 2, 1) := by decide +kernel
theorem dX7_read_13 : decode cX7_read 13 = .ok (.invokestatic 62, 3) := by decide +kernel
theorem dX7_read_16 : decode cX7_read 16 = .ok (.ifCond .eq 11, 3) := by decide +kernel
theorem dX7_read_19 : decode cX7_read 19 = .ok (.aload_n 0, 1) := by decide +kernel
theorem dX7_read_20 : decode cX7_read 20 = .ok (.iload_n 3, 1) := by decide +kernel
theorem dX7_read_21 : decode cX7_read 21 = .ok (.invokevirtual 105, 3) := by decide +kernel
theorem dX7_read_24 : decode cX7_read 24 = .ok (.ifCond .ne 8, 3) := by decide +kernel
theorem dX7_read_27 : decode cX7_read 27 = .ok (.ldc 41, 2) := by decide +kernel
theorem dX7_read_29 : decode cX7_read 29 = .ok (.goto 5, 3) := by decide +kernel
theorem dX7_read_32 : decode cX7_read 32 = .ok (.iload 4, 2) := by decide +kernel
theorem dX7_read_34 : decode cX7_read 34 = .ok (.istore 4, 2) := by decide +kernel
theorem dX7_read_36 : decode cX7_read 36 = .ok (.iload 4, 2) := by decide +kernel
theorem dX7_read_38 : decode cX7_read 38 = .ok (.ifCond .eq 10, 3) := by decide +kernel
theorem dX7_read_41 : decode cX7_read 41 = .ok (.aload_n 0, 1) := by decide +kernel
theorem dX7_read_42 : decode cX7_read 42 = .ok (.iload 4, 2) := by decide +kernel
theorem dX7_read_44 : decode cX7_read 44 = .ok (.invokevirtual 43, 3) := by decide +kernel
theorem dX7_read_47 : decode cX7_read 47 = .ok (.ireturn, 1) := by decide +kernel
theorem dX7_read_48 : decode cX7_read 48 = .ok (.aload_n 0, 1) := by decide +kernel
theorem dX7_read_49 : decode cX7_read 49 = .ok (.invokevirtual 147, 3) := by decide +kernel
theorem dX7_read_52 : decode cX7_read 52 = .ok (.iconst 0, 1) := by decide +kernel
theorem dX7_read_53 : decode cX7_read 53 = .ok (.istore 5, 2) := by decide +kernel
theorem dX7_read_55 : decode cX7_read 55 = .ok (.iconst 0, 1) := by decide +kernel
theorem dX7_read_56 : decode cX7_read 56 = .ok (.istore 6, 2) := by decide +kernel
theorem dX7_read_58 : decode cX7_read 58 = .ok (.iload 6, 2) := by decide +kernel
theorem dX7_read_60 : decode cX7_read 60 = .ok (.bipush 96, 2) := by decide +kernel
theorem dX7_read_62 : decode cX7_read 62 = .ok (.if_icmp .ge 59, 3) := by decide +kernel
theorem dX7_read_65 : decode cX7_read 65 = .ok (.aload_n 0, 1) := by decide +kernel
theorem dX7_read_66 : decode cX7_read 66 = .ok (.getfield 9, 3) := by decide +kernel
theorem dX7_read_69 : decode cX7_read 69 = .ok (.bipush 15, 2) := by decide +kernel
theorem dX7_read_71 : decode cX7_read 71 = .ok (.iconst 2, 1) := by decide +kernel
theorem dX7_read_72 : decode cX7_read 72 = .ok (.iload_n 3, 1) := by decide +kernel
theorem dX7_read_73 : decode cX7_read 73 = .ok (.imul, 1) := by decide +kernel
theorem dX7_read_74 : decode cX7_read 74 = .ok (.iadd, 1) := by decide +kernel
theorem dX7_read_75 : decode cX7_read 75 = .ok (.iload 6, 2) := by decide +kernel
theorem dX7_read_77 : decode cX7_read 77 = .ok (.bipush 16, 2) := by decide +kernel
theorem dX7_read_79 : decode cX7_read 79 = .ok (.idiv, 1) := by decide +kernel
theorem dX7_read_80 : decode cX7_read 80 = .ok (.iastore, 1) := by decide +kernel
theorem dX7_read_81 : decode cX7_read 81 = .ok (.aload_n 0, 1) := by decide +kernel
theorem dX7_read_82 : decode cX7_read 82 = .ok (.getfield 9, 3) := by decide +kernel
theorem dX7_read_85 : decode cX7_read 85 = .ok (.iconst 1, 1) := by decide +kernel
theorem dX7_read_86 : decode cX7_read 86 = .ok (.iconst 2, 1) := by decide +kernel
theorem dX7_read_87 : decode cX7_read 87 = .ok (.iload 6, 2) := by decide +kernel
theorem dX7_read_89 : decode cX7_read 89 = .ok (.bipush 16, 2) := by decide +kernel
theorem dX7_read_91 : decode cX7_read 91 = .ok (.irem, 1) := by decide +kernel
theorem dX7_read_92 : decode cX7_read 92 = .ok (.imul, 1) := by decide +kernel
theorem dX7_read_93 : decode cX7_read 93 = .ok (.iconst 1, 1) := by decide +kernel
theorem dX7_read_94 : decode cX7_read 94 = .ok (.iadd, 1) := by decide +kernel
theorem dX7_read_95 : decode cX7_read 95 = .ok (.iastore, 1) := by decide +kernel
theorem dX7_read_96 : decode cX7_read 96 = .ok (.iload 5, 2) := by decide +kernel
theorem dX7_read_98 : decode cX7_read 98 = .ok (.aload_n 0, 1) := by decide +kernel
theorem dX7_read_99 : decode cX7_read 99 = .ok (.iload_n 1, 1) := by decide +kernel
theorem dX7_read_100 : decode cX7_read 100 = .ok (.iload_n 2, 1) := by decide +kernel
theorem dX7_read_101 : decode cX7_read 101 = .ok (.invokevirtual 234, 3) := by decide +kernel
theorem dX7_read_104 : decode cX7_read 104 = .ok (.ifCond .eq 7, 3) := by decide +kernel
theorem dX7_read_107 : decode cX7_read 107 = .ok (.iconst 1, 1) := by decide +kernel
theorem dX7_read_108 : decode cX7_read 108 = .ok (.goto 4, 3) := by decide +kernel
theorem dX7_read_111 : decode cX7_read 111 = .ok (.iconst 0, 1) := by decide +kernel
theorem dX7_read_112 : decode cX7_read 112 = .ok (.iadd, 1) := by decide +kernel
theorem dX7_read_113 : decode cX7_read 113 = .ok (.istore 5, 2) := by decide +kernel
theorem dX7_read_115 : decode cX7_read 115 = .ok (.iinc 6 1, 3) := by decide +kernel
theorem dX7_read_118 : decode cX7_read 118 = .ok (.goto (-60), 3) := by decide +kernel
theorem dX7_read_121 : decode cX7_read 121 = .ok (.iload 5, 2) := by decide +kernel
theorem dX7_read_123 : decode cX7_read 123 = .ok (.ireturn, 1) := by decide +kernel
set_option maxRecDepth 20000 in
theorem ggX7_image_X7_copyAll : GoodIn wsX7_image wsX7_copyAll := goodIn_r _ [7] (by decide +kernel) (by decide +kernel)
set_option maxRecDepth 20000 in
theorem gX7_image_X7_copyAll : GoodIn wsX7_image (va_wsS RX7 143 yX7_copyAll wsX7_copyAll) := goodIn_app (goodIn_of _ (by decide +kernel)) ggX7_image_X7_copyAll
theorem dX7_image_0 : decode cX7_image 0 = .ok (.aload_n 0, 1) := by decide +kernel
theorem dX7_image_1 : decode cX7_image 1 = .ok (.getfield 9, 3) := by decide +kernel
theorem dX7_image_4 : decode cX7_image 4 = .ok (.aload_n 0, 1) := by decide +kernel
theorem dX7_image_5 : decode cX7_image 5 = .ok (.getfield 13, 3) := by decide +kernel
theorem dX7_image_8 : decode cX7_image 8 = .ok (.invokestatic 143, 3) := by decide +kernel
theorem dX7_image_11 : decode cX7_image 11 = .ok (.aload_n 0, 1) := by decide +kernel
theorem dX7_image_12 : decode cX7_image 12 = .ok (.iconst 1, 1) := by decide +kernel
theorem dX7_image_13 : decode cX7_image 13 = .ok (.putfield 237, 3) := by decide +kernel
theorem dX7_image_16 : decode cX7_image 16 = .ok (.iconst 1, 1) := by decide +kernel
theorem dX7_image_17 : decode cX7_image 17 = .ok (.ireturn, 1) := by decide +kernel
set_option maxRecDepth 20000 in
theorem ggX7_undo_X7_finds : GoodIn wsX7_undo wsX7_finds := goodIn_r _ [9, 10, 11, 15, 16, 17, 18, 19, 20, 21, 22, 23, 24, 25, 26, 27, 28, 29, 30, 31] (by decide +kernel) (by decide +kernel)
set_option maxRecDepth 20000 in
theorem gX7_undo_X7_finds : GoodIn wsX7_undo (wsV RX7 43 RX7 yX7_finds wsX7_finds) := goodIn_app (goodIn_of _ (by decide +kernel)) ggX7_undo_X7_finds
set_option maxRecDepth 20000 in
theorem ggX7_undo_X7_copyAll : GoodIn wsX7_undo wsX7_copyAll := goodIn_r _ [14] (by decide +kernel) (by decide +kernel)
set_option maxRecDepth 20000 in
theorem gX7_undo_X7_copyAll : GoodIn wsX7_undo (va_wsS RX7 143 yX7_copyAll wsX7_copyAll) := goodIn_app (goodIn_of _ (by decide +kernel)) ggX7_undo_X7_copyAll
theorem dX7_undo_0 : decode cX7_undo 0 = .ok (.aload_n 0, 1) := by decide +kernel
theorem dX7_undo_1 : decode cX7_undo 1 = .ok (.getfield 237, 3) := by decide +kernel
theorem dX7_undo_4 : decode cX7_undo 4 = .ok (.ifCond .ne 10, 3) := by decide +kernel
theorem dX7_undo_7 : decode cX7_undo 7 = .ok (.aload_n 0, 1) := by decide +kernel
theorem dX7_undo_8 : decode cX7_undo 8 = .ok (.ldc 42, 2) := by decide +kernel
