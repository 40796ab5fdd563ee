theorem dX6_sheet_41 : decode cX6_sheet 41 = .ok (.ldc 203, 2) := by decide +kernel
theorem dX6_sheet_43 : decode cX6_sheet 43 = .ok (.invokevirtual 52, 3) := by decide +kernel
theorem dX6_sheet_46 : decode cX6_sheet 46 = .ok (.ireturn, 1) := by decide +kernel
theorem dX6_sheet_47 : decode cX6_sheet 47 = .ok (.iload_n 3, 1) := by decide +kernel
theorem dX6_sheet_48 : decode cX6_sheet 48 = .ok (.bipush 40, 2) := by decide +kernel
theorem dX6_sheet_50 : decode cX6_sheet 50 = .ok (.if_icmp .le 10, 3) := by decide +kernel
theorem dX6_sheet_53 : decode cX6_sheet 53 = .ok (.aload_n 0, 1) := by decide +kernel
theorem dX6_sheet_54 : decode cX6_sheet 54 = .ok (.ldc 51, 2) := by decide +kernel
theorem dX6_sheet_56 : decode cX6_sheet 56 = .ok (.invokevirtual 52, 3) := by decide +kernel
theorem dX6_sheet_59 : decode cX6_sheet 59 = .ok (.ireturn, 1) := by decide +kernel
theorem dX6_sheet_60 : decode cX6_sheet 60 = .ok (.aload_n 0, 1) := by decide +kernel
theorem dX6_sheet_61 : decode cX6_sheet 61 = .ok (.getfield 38, 3) := by decide +kernel
theorem dX6_sheet_64 : decode cX6_sheet 64 = .ok (.iload_n 1, 1) := by decide +kernel
theorem dX6_sheet_65 : decode cX6_sheet 65 = .ok (.aaload, 1) := by decide +kernel
theorem dX6_sheet_66 : decode cX6_sheet 66 = .ok (.iload_n 2, 1) := by decide +kernel
theorem dX6_sheet_67 : decode cX6_sheet 67 = .ok (.iload_n 3, 1) := by decide +kernel
theorem dX6_sheet_68 : decode cX6_sheet 68 = .ok (.invokevirtual 204, 3) := by decide +kernel
theorem dX6_sheet_71 : decode cX6_sheet 71 = .ok (.aload_n 0, 1) := by decide +kernel
theorem dX6_sheet_72 : decode cX6_sheet 72 = .ok (.getfield 38, 3) := by decide +kernel
theorem dX6_sheet_75 : decode cX6_sheet 75 = .ok (.iload_n 1, 1) := by decide +kernel
theorem dX6_sheet_76 : decode cX6_sheet 76 = .ok (.aaload, 1) := by decide +kernel
theorem dX6_sheet_77 : decode cX6_sheet 77 = .ok (.getfield 208, 3) := by decide +kernel
theorem dX6_sheet_80 : decode cX6_sheet 80 = .ok (.ireturn, 1) := by decide +kernel
set_option maxRecDepth 20000 in
theorem ggX6_write_X6_unfitSheet : GoodIn wsX6_write wsX6_unfitSheet := goodIn_r _ [9, 3, 1, 10, 11, 12, 8, 13, 14, 15, 16, 17, 18, 19, 34, 35, 36, 37, 38, 39, 40, 41, 42, 43, 44] (by decide +kernel) (by decide +kernel)
set_option maxRecDepth 20000 in
theorem gX6_write_X6_unfitSheet : GoodIn wsX6_write (wsV RX6 211 RX6 yX6_unfitSheet wsX6_unfitSheet) := goodIn_app (goodIn_of _ (by decide +kernel)) ggX6_write_X6_unfitSheet
set_option maxRecDepth 20000 in
theorem ggX6_write_X6_finding : GoodIn wsX6_write wsX6_finding := goodIn_r _ [23, 3, 24, 34, 35, 36, 37, 38, 39, 40, 41] (by decide +kernel) (by decide +kernel)
set_option maxRecDepth 20000 in
theorem gX6_write_X6_finding : GoodIn wsX6_write (wsV RX6 52 RX6 yX6_finding wsX6_finding) := goodIn_app (goodIn_of _ (by decide +kernel)) ggX6_write_X6_finding
set_option maxRecDepth 20000 in
theorem ggX6_write_X6_isWithin : GoodIn wsX6_write wsX6_isWithin := goodIn_r _ [27] (by decide +kernel) (by decide +kernel)
set_option maxRecDepth 20000 in
theorem gX6_write_X6_isWithin : GoodIn wsX6_write (va_wsS RX6 73 yX6_isWithin wsX6_isWithin) := goodIn_app (goodIn_of _ (by decide +kernel)) ggX6_write_X6_isWithin
set_option maxRecDepth 20000 in
theorem ggX6_write_X3_put : GoodIn wsX6_write wsX3_put := goodIn_r _ [31, 32, 33, 19, 42, 43, 44] (by decide +kernel) (by decide +kernel)
set_option maxRecDepth 20000 in
theorem gX6_write_X3_put : GoodIn wsX6_write (wsV RX6 218 RX3 yX3_put wsX3_put) := goodIn_app (goodIn_of _ (by decide +kernel)) ggX6_write_X3_put
theorem dX6_write_0 : decode cX6_write 0 = .ok (.aload_n 0, 1) := by decide +kernel
theorem dX6_write_1 : decode cX6_write 1 = .ok (.iload_n 1, 1) := by decide +kernel
theorem dX6_write_2 : decode cX6_write 2 = .ok (.invokevirtual 211, 3) := by decide +kernel
theorem dX6_write_5 : decode cX6_write 5 = .ok (.istore 5, 2) := by decide +kernel
theorem dX6_write_7 : decode cX6_write 7 = .ok (.iload 5, 2) := by decide +kernel
theorem dX6_write_9 : decode cX6_write 9 = .ok (.ifCond .eq 11, 3) := by decide +kernel
theorem dX6_write_12 : decode cX6_write 12 = .ok (.aload_n 0, 1) := by decide +kernel
theorem dX6_write_13 : decode cX6_write 13 = .ok (.iload 5, 2) := by decide +kernel
theorem dX6_write_15 : decode cX6_write 15 = .ok (.invokevirtual 52, 3) := by decide +kernel
theorem dX6_write_18 : decode cX6_write 18 = .ok (.i2l, 1) := by decide +kernel
theorem dX6_write_19 : decode cX6_write 19 = .ok (.lreturn, 1) := by decide +kernel
theorem dX6_write_20 : decode cX6_write 20 = .ok (.iload_n 2, 1) := by decide +kernel
theorem dX6_write_21 : decode cX6_write 21 = .ok (.iconst 0, 1) := by decide +kernel
theorem dX6_write_22 : decode cX6_write 22 = .ok (.aload_n 0, 1) := by decide +kernel
theorem dX6_write_23 : decode cX6_write 23 = .ok (.getfield 38, 3) := by decide +kernel
theorem dX6_write_26 : decode cX6_write 26 = .ok (.iload_n 1, 1) := by decide +kernel
theorem dX6_write_27 : decode cX6_write 27 = .ok (.aaload, 1) := by decide +kernel
theorem dX6_write_28 : decode cX6_write 28 = .ok (.getfield 208, 3) := by decide +kernel
theorem dX6_write_31 : decode cX6_write 31 = .ok (.iconst 1, 1) := by decide +kernel
theorem dX6_write_32 : decode cX6_write 32 = .ok (.isub, 1) := by decide +kernel
theorem dX6_write_33 : decode cX6_write 33 = .ok (.invokestatic 73, 3) := by decide +kernel
theorem dX6_write_36 : decode cX6_write 36 = .ok (.ifCond .ne 11, 3) := by decide +kernel
theorem dX6_write_39 : decode cX6_write 39 = .ok (.aload_n 0, 1) := by decide +kernel
theorem dX6_write_40 : decode cX6_write 40 = .ok (.ldc 51, 2) := by decide +kernel
theorem dX6_write_42 : decode cX6_write 42 = .ok (.invokevirtual 52, 3) := by decide +kernel
theorem dX6_write_45 : decode cX6_write 45 = .ok (.i2l, 1) := by decide +kernel
theorem dX6_write_46 : decode cX6_write 46 = .ok (.lreturn, 1) := by decide +kernel
theorem dX6_write_47 : decode cX6_write 47 = .ok (.aload_n 0, 1) := by decide +kernel
theorem dX6_write_48 : decode cX6_write 48 = .ok (.getfield 38, 3) := by decide +kernel
theorem dX6_write_51 : decode cX6_write 51 = .ok (.iload_n 1, 1) := by decide +kernel
theorem dX6_write_52 : decode cX6_write 52 = .ok (.aaload, 1) := by decide +kernel
theorem dX6_write_53 : decode cX6_write 53 = .ok (.getfield 214, 3) := by decide +kernel
theorem dX6_write_56 : decode cX6_write 56 = .ok (.iload_n 2, 1) := by decide +kernel
theorem dX6_write_57 : decode cX6_write 57 = .ok (.laload, 1) := by decide +kernel
theorem dX6_write_58 : decode cX6_write 58 = .ok (.lstore 6, 2) := by decide +kernel
theorem dX6_write_60 : decode cX6_write 60 = .ok (.aload_n 0, 1) := by decide +kernel
theorem dX6_write_61 : decode cX6_write 61 = .ok (.getfield 38, 3) := by decide +kernel
theorem dX6_write_64 : decode cX6_write 64 = .ok (.iload_n 1, 1) := by decide +kernel
theorem dX6_write_65 : decode cX6_write 65 = .ok (.aaload, 1) := by decide +kernel
theorem dX6_write_66 : decode cX6_write 66 = .ok (.iload_n 2, 1) := by decide +kernel
theorem dX6_write_67 : decode cX6_write 67 = .ok (.lload_n 3, 1) := by decide +kernel
theorem dX6_write_68 : decode cX6_write 68 = .ok (.invokevirtual 218, 3) := by decide +kernel
theorem dX6_write_71 : decode cX6_write 71 = .ok (.lload 6, 2) := by decide +kernel
theorem dX6_write_73 : decode cX6_write 73 = .ok (.lreturn, 1) := by decide +kernel
set_option maxRecDepth 20000 in
theorem ggX6_copy_X6_isSheet : GoodIn wsX6_copy wsX6_isSheet := goodIn_r _ [14] (by decide +kernel) (by decide +kernel)
set_option maxRecDepth 20000 in
theorem gX6_copy_X6_isSheet : GoodIn wsX6_copy (va_wsS RX6 200 yX6_isSheet wsX6_isSheet) := goodIn_app (goodIn_of _ (by decide +kernel)) ggX6_copy_X6_isSheet
set_option maxRecDepth 20000 in
theorem ggX6_copy_X6_finding : GoodIn wsX6_copy wsX6_finding := goodIn_r _ [18, 1, 19, 31, 32, 33, 34, 35, 36, 37, 38] (by decide +kernel) (by decide +kernel)
set_option maxRecDepth 20000 in
theorem gX6_copy_X6_finding : GoodIn wsX6_copy (wsV RX6 52 RX6 yX6_finding wsX6_finding) := goodIn_app (goodIn_of _ (by decide +kernel)) ggX6_copy_X6_finding
set_option maxRecDepth 20000 in
theorem ggX6_copy_X3_isMissing : GoodIn wsX6_copy wsX3_isMissing := goodIn_r _ [24, 25, 39, 40, 41] (by decide +kernel) (by decide +kernel)
set_option maxRecDepth 20000 in
theorem gX6_copy_X3_isMissing : GoodIn wsX6_copy (wsV RX6 221 RX3 yX3_isMissing wsX3_isMissing) := goodIn_app (goodIn_of _ (by decide +kernel)) ggX6_copy_X3_isMissing
set_option maxRecDepth 20000 in
theorem ggX6_copy_X3_has : GoodIn wsX6_copy wsX3_has := goodIn_r _ [29, 30, 39, 40, 41] (by decide +kernel) (by decide +kernel)
set_option maxRecDepth 20000 in
theorem gX6_copy_X3_has : GoodIn wsX6_copy (wsV RX6 228 RX3 yX3_has wsX3_has) := goodIn_app (goodIn_of _ (by decide +kernel)) ggX6_copy_X3_has
theorem dX6_copy_0 : decode cX6_copy 0 = .ok (.iload_n 1, 1) := by decide +kernel
theorem dX6_copy_1 : decode cX6_copy 1 = .ok (.invokestatic 200, 3) := by decide +kernel
theorem dX6_copy_4 : decode cX6_copy 4 = .ok (.ifCond .eq 10, 3) := by decide +kernel
theorem dX6_copy_7 : decode cX6_copy 7 = .ok (.iload_n 3, 1) := by decide +kernel
theorem dX6_copy_8 : decode cX6_copy 8 = .ok (.invokestatic 200, 3) := by decide +kernel
theorem dX6_copy_11 : decode cX6_copy 11 = .ok (.ifCond .ne 10, 3) := by decide +kernel
theorem dX6_copy_14 : decode cX6_copy 14 = .ok (.aload_n 0, 1) := by decide +kernel
theorem dX6_copy_15 : decode cX6_copy 15 = .ok (.ldc 51, 2) := by decide +kernel
theorem dX6_copy_17 : decode cX6_copy 17 = .ok (.invokevirtual 52, 3) := by decide +kernel
theorem dX6_copy_20 : decode cX6_copy 20 = .ok (.ireturn, 1) := by decide +kernel
theorem dX6_copy_21 : decode cX6_copy 21 = .ok (.aload_n 0, 1) := by decide +kernel
theorem dX6_copy_22 : decode cX6_copy 22 = .ok (.getfield 38, 3) := by decide +kernel
theorem dX6_copy_25 : decode cX6_copy 25 = .ok (.iload_n 1, 1) := by decide +kernel
theorem dX6_copy_26 : decode cX6_copy 26 = .ok (.aaload, 1) := by decide +kernel
theorem dX6_copy_27 : decode cX6_copy 27 = .ok (.invokevirtual 221, 3) := by decide +kernel
theorem dX6_copy_30 : decode cX6_copy 30 = .ok (.ifCond .ne 15, 3) := by decide +kernel
theorem dX6_copy_33 : decode cX6_copy 33 = .ok (.aload_n 0, 1) := by decide +kernel
theorem dX6_copy_34 : decode cX6_copy 34 = .ok (.getfield 38, 3) := by decide +kernel
theorem dX6_copy_37 : decode cX6_copy 37 = .ok (.iload_n 3, 1) := by decide +kernel
theorem dX6_copy_38 : decode cX6_copy 38 = .ok (.aaload, 1) := by decide +kernel
theorem dX6_copy_39 : decode cX6_copy 39 = .ok (.invokevirtual 221, 3) := by decide +kernel
theorem dX6_copy_42 : decode cX6_copy 42 = .ok (.ifCond .eq 10, 3) := by decide +kernel
theorem dX6_copy_45 : decode cX6_copy 45 = .ok (.aload_n 0, 1) := by decide +kernel
theorem dX6_copy_46 : decode cX6_copy 46 = .ok (.ldc 224, 2) := by decide +kernel
theorem dX6_copy_48 : decode cX6_copy 48 = .ok (.invokevirtual 52, 3) := by decide +kernel
theorem dX6_copy_51 : decode cX6_copy 51 = .ok (.ireturn, 1) := by decide +kernel
theorem dX6_copy_52 : decode cX6_copy 52 = .ok (.aload_n 0, 1) := by decide +kernel
theorem dX6_copy_53 : decode cX6_copy 53 = .ok (.getfield 38, 3) := by decide +kernel
theorem dX6_copy_56 : decode cX6_copy 56 = .ok (.iload_n 1, 1) := by decide +kernel
theorem dX6_copy_57 : decode cX6_copy 57 = .ok (.aaload, 1) := by decide +kernel
theorem dX6_copy_58 : decode cX6_copy 58 = .ok (.getfield 225, 3) := by decide +kernel
theorem dX6_copy_61 : decode cX6_copy 61 = .ok (.aload_n 0, 1) := by decide +kernel
theorem dX6_copy_62 : decode cX6_copy 62 = .ok (.getfield 38, 3) := by decide +kernel
theorem dX6_copy_65 : decode cX6_copy 65 = .ok (.iload_n 3, 1) := by decide +kernel
theorem dX6_copy_66 : decode cX6_copy 66 = .ok (.aaload, 1) := by decide +kernel
theorem dX6_copy_67 : decode cX6_copy 67 = .ok (.getfield 225, 3) := by decide +kernel
theorem dX6_copy_70 : decode cX6_copy 70 = .ok (.if_icmp .eq 10, 3) := by decide +kernel
theorem dX6_copy_73 : decode cX6_copy 73 = .ok (.aload_n 0, 1) := by decide +kernel
theorem dX6_copy_74 : decode cX6_copy 74 = .ok (.ldc 127, 2) := by decide +kernel
theorem dX6_copy_76 : decode cX6_copy 76 = .ok (.invokevirtual 52, 3) := by decide +kernel
theorem dX6_copy_79 : decode cX6_copy 79 = .ok (.ireturn, 1) := by decide +kernel
theorem dX6_copy_80 : decode cX6_copy 80 = .ok (.aload_n 0, 1) := by decide +kernel
theorem dX6_copy_81 : decode cX6_copy 81 = .ok (.getfield 38, 3) := by decide +kernel
theorem dX6_copy_84 : decode cX6_copy 84 = .ok (.iload_n 1, 1) := by decide +kernel
theorem dX6_copy_85 : decode cX6_copy 85 = .ok (.aaload, 1) := by decide +kernel
theorem dX6_copy_86 : decode cX6_copy 86 = .ok (.iload_n 2, 1) := by decide +kernel
theorem dX6_copy_87 : decode cX6_copy 87 = .ok (.iload 5, 2) := by decide +kernel
theorem dX6_copy_89 : decode cX6_copy 89 = .ok (.invokevirtual 228, 3) := by decide +kernel
theorem dX6_copy_92 : decode cX6_copy 92 = .ok (.ifCond .eq 19, 3) := by decide +kernel
theorem dX6_copy_95 : decode cX6_copy 95 = .ok (.aload_n 0, 1) := by decide +kernel
theorem dX6_copy_96 : decode cX6_copy 96 = .ok (.getfield 38, 3) := by decide +kernel
theorem dX6_copy_99 : decode cX6_copy 99 = .ok (.iload_n 3, 1) := by decide +kernel
theorem dX6_copy_100 : decode cX6_copy 100 = .ok (.aaload, 1) := by decide +kernel
theorem dX6_copy_101 : decode cX6_copy 101 = .ok (.iload 4, 2) := by decide +kernel
theorem dX6_copy_103 : decode cX6_copy 103 = .ok (.iload 5, 2) := by decide +kernel
theorem dX6_copy_105 : decode cX6_copy 105 = .ok (.invokevirtual 228, 3) := by decide +kernel
theorem dX6_copy_108 : decode cX6_copy 108 = .ok (.ifCond .ne 10, 3) := by decide +kernel
theorem dX6_copy_111 : decode cX6_copy 111 = .ok (.aload_n 0, 1) := by decide +kernel
theorem dX6_copy_112 : decode cX6_copy 112 = .ok (.ldc 51, 2) := by decide +kernel
theorem dX6_copy_114 : decode cX6_copy 114 = .ok (.invokevirtual 52, 3) := by decide +kernel
theorem dX6_copy_117 : decode cX6_copy 117 = .ok (.ireturn, 1) := by decide +kernel
theorem dX6_copy_118 : decode cX6_copy 118 = .ok (.aload_n 0, 1) := by decide +kernel
theorem dX6_copy_119 : decode cX6_copy 119 = .ok (.getfield 38, 3) := by decide +kernel
theorem dX6_copy_122 : decode cX6_copy 122 = .ok (.iload_n 1, 1) := by decide +kernel
theorem dX6_copy_123 : decode cX6_copy 123 = .ok (.aaload, 1) := by decide +kernel
theorem dX6_copy_124 : decode cX6_copy 124 = .ok (.getfield 214, 3) := by decide +kernel
theorem dX6_copy_127 : decode cX6_copy 127 = .ok (.iload_n 2, 1) := by decide +kernel
theorem dX6_copy_128 : decode cX6_copy 128 = .ok (.aload_n 0, 1) := by decide +kernel
theorem dX6_copy_129 : decode cX6_copy 129 = .ok (.getfield 38, 3) := by decide +kernel
theorem dX6_copy_132 : decode cX6_copy 132 = .ok (.iload_n 3, 1) := by decide +kernel
theorem dX6_copy_133 : decode cX6_copy 133 = .ok (.aaload, 1) := by decide +kernel
theorem dX6_copy_134 : decode cX6_copy 134 = .ok (.getfield 214, 3) := by decide +kernel
theorem dX6_copy_137 : decode cX6_copy 137 = .ok (.iload 4, 2) := by decide +kernel
theorem dX6_copy_139 : decode cX6_copy 139 = .ok (.iload 5, 2) := by decide +kernel
theorem dX6_copy_141 : decode cX6_copy 141 = .ok (.invokestatic 231, 3) := by decide +kernel
theorem dX6_copy_144 : decode cX6_copy 144 = .ok (.iload 5, 2) := by decide +kernel
theorem dX6_copy_146 : decode cX6_copy 146 = .ok (.ireturn, 1) := by decide +kernel
set_option maxRecDepth 20000 in
theorem ggX6_lays_X6_unfitSheet : GoodIn wsX6_lays wsX6_unfitSheet := goodIn_r _ [11, 12, 1, 13, 14, 15, 10, 16, 17, 18, 19, 20, 21, 22, 28, 29, 30, 31, 32, 33, 34, 35, 36, 37, 38] (by decide +kernel) (by decide +kernel)
set_option maxRecDepth 20000 in
theorem gX6_lays_X6_unfitSheet : GoodIn wsX6_lays (wsV RX6 211 RX6 yX6_unfitSheet wsX6_unfitSheet) := goodIn_app (goodIn_of _ (by decide +kernel)) ggX6_lays_X6_unfitSheet
set_option maxRecDepth 20000 in
theorem ggX6_lays_X6_finding : GoodIn wsX6_lays wsX6_finding := goodIn_r _ [26, 12, 27, 28, 29, 30, 31, 32, 33, 34, 35] (by decide +kernel) (by decide +kernel)
set_option maxRecDepth 20000 in
theorem gX6_lays_X6_finding : GoodIn wsX6_lays (wsV RX6 52 RX6 yX6_finding wsX6_finding) := goodIn_app (goodIn_of _ (by decide +kernel)) ggX6_lays_X6_finding
theorem dX6_lays_0 : decode cX6_lays 0 = .ok (.aload_n 0, 1) := by decide +kernel
theorem dX6_lays_1 : decode cX6_lays 1 = .ok (.iload_n 1, 1) := by decide +kernel
theorem dX6_lays_2 : decode cX6_lays 2 = .ok (.invokevirtual 211, 3) := by decide +kernel
theorem dX6_lays_5 : decode cX6_lays 5 = .ok (.istore_n 2, 1) := by decide +kernel
theorem dX6_lays_6 : decode cX6_lays 6 = .ok (.iload_n 2, 1) := by decide +kernel
theorem dX6_lays_7 : decode cX6_lays 7 = .ok (.ifCond .eq 9, 3) := by decide +kernel
theorem dX6_lays_10 : decode cX6_lays 10 = .ok (.aload_n 0, 1) := by decide +kernel
theorem dX6_lays_11 : decode cX6_lays 11 = .ok (.iload_n 2, 1) := by decide +kernel
theorem dX6_lays_12 : decode cX6_lays 12 = .ok (.invokevirtual 52, 3) := by decide +kernel
theorem dX6_lays_15 : decode cX6_lays 15 = .ok (.ireturn, 1) := by decide +kernel
theorem dX6_lays_16 : decode cX6_lays 16 = .ok (.iconst 0, 1) := by decide +kernel
theorem dX6_lays_17 : decode cX6_lays 17 = .ok (.istore_n 3, 1) := by decide +kernel
theorem dX6_lays_18 : decode cX6_lays 18 = .ok (.iconst 0, 1) := by decide +kernel
theorem dX6_lays_19 : decode cX6_lays 19 = .ok (.istore 4, 2) := by decide +kernel
theorem dX6_lays_21 : decode cX6_lays 21 = .ok (.iload 4, 2) := by decide +kernel
theorem dX6_lays_23 : decode cX6_lays 23 = .ok (.aload_n 0, 1) := by decide +kernel
theorem dX6_lays_24 : decode cX6_lays 24 = .ok (.getfield 38, 3) := by decide +kernel
theorem dX6_lays_27 : decode cX6_lays 27 = .ok (.iload_n 1, 1) := by decide +kernel
theorem dX6_lays_28 : decode cX6_lays 28 = .ok (.aaload, 1) := by decide +kernel
theorem dX6_lays_29 : decode cX6_lays 29 = .ok (.getfield 208, 3) := by decide +kernel
theorem dX6_lays_32 : decode cX6_lays 32 = .ok (.if_icmp .ge 62, 3) := by decide +kernel
theorem dX6_lays_35 : decode cX6_lays 35 = .ok (.iload 4, 2) := by decide +kernel
theorem dX6_lays_37 : decode cX6_lays 37 = .ok (.bipush 8, 2) := by decide +kernel
theorem dX6_lays_39 : decode cX6_lays 39 = .ok (.if_icmp .ge 55, 3) := by decide +kernel
theorem dX6_lays_42 : decode cX6_lays 42 = .ok (.aload_n 0, 1) := by decide +kernel
theorem dX6_lays_43 : decode cX6_lays 43 = .ok (.getfield 38, 3) := by decide +kernel
theorem dX6_lays_46 : decode cX6_lays 46 = .ok (.iload_n 1, 1) := by decide +kernel
theorem dX6_lays_47 : decode cX6_lays 47 = .ok (.aaload, 1) := by decide +kernel
theorem dX6_lays_48 : decode cX6_lays 48 = .ok (.getfield 214, 3) := by decide +kernel
theorem dX6_lays_51 : decode cX6_lays 51 = .ok (.iload 4, 2) := by decide +kernel
theorem dX6_lays_53 : decode cX6_lays 53 = .ok (.laload, 1) := by decide +kernel
theorem dX6_lays_54 : decode cX6_lays 54 = .ok (.lstore 5, 2) := by decide +kernel
theorem dX6_lays_56 : decode cX6_lays 56 = .ok (.lload 5, 2) := by decide +kernel
theorem dX6_lays_58 : decode cX6_lays 58 = .ok (.ldc2_w 237, 3) := by decide +kernel
theorem dX6_lays_61 : decode cX6_lays 61 = .ok (.lcmp, 1) := by decide +kernel
theorem dX6_lays_62 : decode cX6_lays 62 = .ok (.ifCond .lt 26, 3) := by decide +kernel
theorem dX6_lays_65 : decode cX6_lays 65 = .ok (.lload 5, 2) := by decide +kernel
theorem dX6_lays_67 : decode cX6_lays 67 = .ok (.lconst 1, 1) := by decide +kernel
theorem dX6_lays_68 : decode cX6_lays 68 = .ok (.lcmp, 1) := by decide +kernel
theorem dX6_lays_69 : decode cX6_lays 69 = .ok (.ifCond .gt 19, 3) := by decide +kernel
theorem dX6_lays_72 : decode cX6_lays 72 = .ok (.aload_n 0, 1) := by decide +kernel
theorem dX6_lays_73 : decode cX6_lays 73 = .ok (.getfield 10, 3) := by decide +kernel
theorem dX6_lays_76 : decode cX6_lays 76 = .ok (.getfield 66, 3) := by decide +kernel
theorem dX6_lays_79 : decode cX6_lays 79 = .ok (.iload 4, 2) := by decide +kernel
theorem dX6_lays_81 : decode cX6_lays 81 = .ok (.lload 5, 2) := by decide +kernel
theorem dX6_lays_83 : decode cX6_lays 83 = .ok (.l2i, 1) := by decide +kernel
theorem dX6_lays_84 : decode cX6_lays 84 = .ok (.iastore, 1) := by decide +kernel
theorem dX6_lays_85 : decode cX6_lays 85 = .ok (.iinc 3 1, 3) := by decide +kernel
theorem dX6_lays_88 : decode cX6_lays 88 = .ok (.iinc 4 1, 3) := by decide +kernel
theorem dX6_lays_91 : decode cX6_lays 91 = .ok (.goto (-70), 3) := by decide +kernel
theorem dX6_lays_94 : decode cX6_lays 94 = .ok (.iload_n 3, 1) := by decide +kernel
theorem dX6_lays_95 : decode cX6_lays 95 = .ok (.ireturn, 1) := by decide +kernel
set_option maxRecDepth 20000 in
theorem ggX6_book_X6_unfitSheet : GoodIn wsX6_book wsX6_unfitSheet := goodIn_r _ [11, 1, 4, 12, 13, 14, 10, 15, 16, 17, 18, 19, 20, 21, 175, 176, 177, 178, 179, 180, 181, 182, 183, 184, 185] (by decide +kernel) (by decide +kernel)
set_option maxRecDepth 20000 in
theorem gX6_book_X6_unfitSheet : GoodIn wsX6_book (wsV RX6 211 RX6 yX6_unfitSheet wsX6_unfitSheet) := goodIn_app (goodIn_of _ (by decide +kernel)) ggX6_book_X6_unfitSheet
set_option maxRecDepth 20000 in
theorem ggX6_book_X6_finding : GoodIn wsX6_book wsX6_finding := goodIn_r _ [25, 1, 26, 175, 176, 177, 178, 179, 180, 181, 182] (by decide +kernel) (by decide +kernel)
set_option maxRecDepth 20000 in
theorem gX6_book_X6_finding : GoodIn wsX6_book (wsV RX6 52 RX6 yX6_finding wsX6_finding) := goodIn_app (goodIn_of _ (by decide +kernel)) ggX6_book_X6_finding
set_option maxRecDepth 20000 in
theorem ggX6_book_X6_isState : GoodIn wsX6_book wsX6_isState := goodIn_r _ [29] (by decide +kernel) (by decide +kernel)
set_option maxRecDepth 20000 in
theorem gX6_book_X6_isState : GoodIn wsX6_book (va_wsS RX6 69 yX6_isState wsX6_isState) := goodIn_app (goodIn_of _ (by decide +kernel)) ggX6_book_X6_isState
set_option maxRecDepth 20000 in
theorem ggX6_book_X4_become : GoodIn wsX6_book wsX4_become := goodIn_r _ [34, 35, 36, 37, 38, 39, 40, 41, 42, 43, 44, 45, 46, 186, 187, 188, 189, 190, 191, 192, 193] (by decide +kernel) (by decide +kernel)
set_option maxRecDepth 20000 in
theorem gX6_book_X4_become : GoodIn wsX6_book (wsV RX6 179 RX4 yX4_become wsX4_become) := goodIn_app (goodIn_of _ (by decide +kernel)) ggX6_book_X4_become
set_option maxRecDepth 20000 in
theorem ggX6_book_X4_ownedSet : GoodIn wsX6_book wsX4_ownedSet := goodIn_r _ [50, 38, 186, 187, 188, 189, 190, 191, 192, 193] (by decide +kernel) (by decide +kernel)
set_option maxRecDepth 20000 in
theorem gX6_book_X4_ownedSet : GoodIn wsX6_book (wsV RX6 176 RX4 yX4_ownedSet wsX4_ownedSet) := goodIn_app (goodIn_of _ (by decide +kernel)) ggX6_book_X4_ownedSet
set_option maxRecDepth 20000 in
theorem ggX6_book_X3_put : GoodIn wsX6_book wsX3_put := goodIn_r _ [54, 55, 56, 21, 183, 184, 185] (by decide +kernel) (by decide +kernel)
set_option maxRecDepth 20000 in
theorem gX6_book_X3_put : GoodIn wsX6_book (wsV RX6 218 RX3 yX3_put wsX3_put) := goodIn_app (goodIn_of _ (by decide +kernel)) ggX6_book_X3_put
set_option maxRecDepth 20000 in
theorem ggX6_book_X4_passMonths : GoodIn wsX6_book wsX4_passMonths := goodIn_r _ [60, 61, 62, 63, 33, 64, 44, 65, 66, 67, 68, 69, 70, 71, 72, 73, 74, 75, 76, 36, 35, 77, 78, 79, 80, 81, 82, 83, 84, 85, 86, 87, 88, 89, 90, 91, 92, 93, 94, 95, 96, 97, 98, 99, 100, 101, 102, 103, 104, 105, 106, 107, 108, 109, 110, 111, 112, 113, 114, 115, 116, 117, 118, 119, 120, 121, 122, 123, 124, 125, 126, 127, 128, 129, 10, 130, 131, 132, 133, 134, 135, 136, 137, 138, 139, 140, 141, 142, 143, 144, 145, 146, 147, 148, 149, 150, 151, 46, 152, 153, 154, 155, 156, 157, 158, 159, 38, 43, 160, 161, 162, 163, 164, 165, 166, 167, 168, 169, 48, 49, 50, 170, 171, 172, 173, 174, 186, 187, 188, 189, 190, 191, 192, 193, 194, 195, 196, 197, 198] (by decide +kernel) (by decide +kernel)
set_option maxRecDepth 20000 in
theorem gX6_book_X4_passMonths : GoodIn wsX6_book (wsV RX6 165 RX4 yX4_passMonths wsX4_passMonths) := goodIn_app (goodIn_of _ (by decide +kernel)) ggX6_book_X4_passMonths
theorem dX6_book_0 : decode cX6_book 0 = .ok (.aload_n 0, 1) := by decide +kernel
theorem dX6_book_1 : decode cX6_book 1 = .ok (.iload_n 1, 1) := by decide +kernel
theorem dX6_book_2 : decode cX6_book 2 = .ok (.invokevirtual 211, 3) := by decide +kernel
theorem dX6_book_5 : decode cX6_book 5 = .ok (.istore_n 3, 1) := by decide +kernel
theorem dX6_book_6 : decode cX6_book 6 = .ok (.iload_n 3, 1) := by decide +kernel
theorem dX6_book_7 : decode cX6_book 7 = .ok (.ifCond .eq 9, 3) := by decide +kernel
theorem dX6_book_10 : decode cX6_book 10 = .ok (.aload_n 0, 1) := by decide +kernel
theorem dX6_book_11 : decode cX6_book 11 = .ok (.iload_n 3, 1) := by decide +kernel
theorem dX6_book_12 : decode cX6_book 12 = .ok (.invokevirtual 52, 3) := by decide +kernel
theorem dX6_book_15 : decode cX6_book 15 = .ok (.ireturn, 1) := by decide +kernel
theorem dX6_book_16 : decode cX6_book 16 = .ok (.iload_n 2, 1) := by decide +kernel
theorem dX6_book_17 : decode cX6_book 17 = .ok (.invokestatic 69, 3) := by decide +kernel
theorem dX6_book_20 : decode cX6_book 20 = .ok (.ifCond .ne 10, 3) := by decide +kernel
theorem dX6_book_23 : decode cX6_book 23 = .ok (.aload_n 0, 1) := by decide +kernel
theorem dX6_book_24 : decode cX6_book 24 = .ok (.ldc 51, 2) := by decide +kernel
theorem dX6_book_26 : decode cX6_book 26 = .ok (.invokevirtual 52, 3) := by decide +kernel
theorem dX6_book_29 : decode cX6_book 29 = .ok (.ireturn, 1) := by decide +kernel
theorem dX6_book_30 : decode cX6_book 30 = .ok (.aload_n 0, 1) := by decide +kernel
theorem dX6_book_31 : decode cX6_book 31 = .ok (.getfield 19, 3) := by decide +kernel
theorem dX6_book_34 : decode cX6_book 34 = .ok (.aload_n 0, 1) := by decide +kernel
theorem dX6_book_35 : decode cX6_book 35 = .ok (.getfield 10, 3) := by decide +kernel
theorem dX6_book_38 : decode cX6_book 38 = .ok (.invokevirtual 179, 3) := by decide +kernel
theorem dX6_book_41 : decode cX6_book 41 = .ok (.iconst 0, 1) := by decide +kernel
theorem dX6_book_42 : decode cX6_book 42 = .ok (.istore 4, 2) := by decide +kernel
theorem dX6_book_44 : decode cX6_book 44 = .ok (.iload 4, 2) := by decide +kernel
theorem dX6_book_46 : decode cX6_book 46 = .ok (.aload_n 0, 1) := by decide +kernel
theorem dX6_book_47 : decode cX6_book 47 = .ok (.getfield 38, 3) := by decide +kernel
theorem dX6_book_50 : decode cX6_book 50 = .ok (.iload_n 1, 1) := by decide +kernel
theorem dX6_book_51 : decode cX6_book 51 = .ok (.aaload, 1) := by decide +kernel
theorem dX6_book_52 : decode cX6_book 52 = .ok (.getfield 208, 3) := by decide +kernel
theorem dX6_book_55 : decode cX6_book 55 = .ok (.if_icmp .ge 41, 3) := by decide +kernel
theorem dX6_book_58 : decode cX6_book 58 = .ok (.aload_n 0, 1) := by decide +kernel
theorem dX6_book_59 : decode cX6_book 59 = .ok (.getfield 38, 3) := by decide +kernel
theorem dX6_book_62 : decode cX6_book 62 = .ok (.iload_n 1, 1) := by decide +kernel
theorem dX6_book_63 : decode cX6_book 63 = .ok (.aaload, 1) := by decide +kernel
theorem dX6_book_64 : decode cX6_book 64 = .ok (.iload 4, 2) := by decide +kernel
theorem dX6_book_66 : decode cX6_book 66 = .ok (.aload_n 0, 1) := by decide +kernel
theorem dX6_book_67 : decode cX6_book 67 = .ok (.getfield 19, 3) := by decide +kernel
theorem dX6_book_70 : decode cX6_book 70 = .ok (.iload_n 2, 1) := by decide +kernel
theorem dX6_book_71 : decode cX6_book 71 = .ok (.invokevirtual 176, 3) := by decide +kernel
theorem dX6_book_74 : decode cX6_book 74 = .ok (.i2l, 1) := by decide +kernel
theorem dX6_book_75 : decode cX6_book 75 = .ok (.invokevirtual 218, 3) := by decide +kernel
theorem dX6_book_78 : decode cX6_book 78 = .ok (.aload_n 0, 1) := by decide +kernel
theorem dX6_book_79 : decode cX6_book 79 = .ok (.getfield 19, 3) := by decide +kernel
theorem dX6_book_82 : decode cX6_book 82 = .ok (.iconst 1, 1) := by decide +kernel
theorem dX6_book_83 : decode cX6_book 83 = .ok (.aload_n 0, 1) := by decide +kernel
theorem dX6_book_84 : decode cX6_book 84 = .ok (.getfield 25, 3) := by decide +kernel
theorem dX6_book_87 : decode cX6_book 87 = .ok (.invokevirtual 165, 3) := by decide +kernel
theorem dX6_book_90 : decode cX6_book 90 = .ok (.iinc 4 1, 3) := by decide +kernel
theorem dX6_book_93 : decode cX6_book 93 = .ok (.goto (-49), 3) := by decide +kernel
theorem dX6_book_96 : decode cX6_book 96 = .ok (.aload_n 0, 1) := by decide +kernel
theorem dX6_book_97 : decode cX6_book 97 = .ok (.getfield 38, 3) := by decide +kernel
theorem dX6_book_100 : decode cX6_book 100 = .ok (.iload_n 1, 1) := by decide +kernel
theorem dX6_book_101 : decode cX6_book 101 = .ok (.aaload, 1) := by decide +kernel
theorem dX6_book_102 : decode cX6_book 102 = .ok (.getfield 208, 3) := by decide +kernel
theorem dX6_book_105 : decode cX6_book 105 = .ok (.ireturn, 1) := by decide +kernel
set_option maxRecDepth 20000 in
theorem ggX6_read_X6_unfitSheet : GoodIn wsX6_read wsX6_unfitSheet := goodIn_r _ [11, 1, 6, 12, 13, 14, 10, 15, 16, 17, 18, 19, 20, 21, 181, 182, 183, 184, 185, 186, 187, 188, 197, 198, 199] (by decide +kernel) (by decide +kernel)
set_option maxRecDepth 20000 in
theorem gX6_read_X6_unfitSheet : GoodIn wsX6_read (wsV RX6 211 RX6 yX6_unfitSheet wsX6_unfitSheet) := goodIn_app (goodIn_of _ (by decide +kernel)) ggX6_read_X6_unfitSheet
set_option maxRecDepth 20000 in
theorem ggX6_read_X6_finding : GoodIn wsX6_read wsX6_finding := goodIn_r _ [25, 1, 26, 181, 182, 183, 184, 185, 186, 187, 188] (by decide +kernel) (by decide +kernel)
set_option maxRecDepth 20000 in
theorem gX6_read_X6_finding : GoodIn wsX6_read (wsV RX6 52 RX6 yX6_finding wsX6_finding) := goodIn_app (goodIn_of _ (by decide +kernel)) ggX6_read_X6_finding
set_option maxRecDepth 20000 in
theorem ggX6_read_X6_isState : GoodIn wsX6_read wsX6_isState := goodIn_r _ [29] (by decide +kernel) (by decide +kernel)
set_option maxRecDepth 20000 in
theorem gX6_read_X6_isState : GoodIn wsX6_read (va_wsS RX6 69 yX6_isState wsX6_isState) := goodIn_app (goodIn_of _ (by decide +kernel)) ggX6_read_X6_isState
set_option maxRecDepth 20000 in
theorem ggX6_read_X6_isEnvoy : GoodIn wsX6_read wsX6_isEnvoy := goodIn_r _ [33, 3, 34, 181, 182, 183, 184, 185, 186, 187, 188, 189, 190, 191, 192, 193, 194, 195, 196] (by decide +kernel) (by decide +kernel)
set_option maxRecDepth 20000 in
theorem gX6_read_X6_isEnvoy : GoodIn wsX6_read (wsV RX6 109 RX6 yX6_isEnvoy wsX6_isEnvoy) := goodIn_app (goodIn_of _ (by decide +kernel)) ggX6_read_X6_isEnvoy
set_option maxRecDepth 20000 in
theorem ggX6_read_X4_become : GoodIn wsX6_read wsX4_become := goodIn_r _ [39, 40, 41, 42, 43, 44, 45, 46, 47, 48, 49, 50, 51, 189, 190, 191, 192, 193, 194, 195, 196] (by decide +kernel) (by decide +kernel)
set_option maxRecDepth 20000 in
theorem gX6_read_X4_become : GoodIn wsX6_read (wsV RX6 179 RX4 yX4_become wsX4_become) := goodIn_app (goodIn_of _ (by decide +kernel)) ggX6_read_X4_become
set_option maxRecDepth 20000 in
theorem ggX6_read_X6_comesAsTold : GoodIn wsX6_read wsX6_comesAsTold := goodIn_r _ [55, 56, 57, 2, 58, 59, 60, 61, 38, 62, 43, 63, 64, 65, 66, 67, 68, 69, 70, 49, 71, 72, 73, 74, 75, 76, 77, 78, 79, 80, 81, 82, 41, 40, 83, 84, 85, 86, 87, 88, 89, 90, 91, 92, 93, 94, 95, 96, 97, 98, 99, 100, 101, 102, 103, 104, 105, 106, 107, 108, 109, 110, 111, 112, 113, 114, 115, 116, 117, 118, 119, 120, 121, 122, 123, 124, 125, 126, 127, 128, 129, 130, 131, 132, 133, 134, 135, 10, 136, 137, 138, 139, 140, 141, 142, 143, 144, 145, 146, 147, 148, 149, 150, 151, 152, 153, 154, 155, 156, 157, 51, 158, 159, 160, 161, 162, 163, 164, 165, 48, 166, 167, 168, 169, 170, 171, 172, 173, 174, 175, 176, 177, 178, 179, 180, 197, 198, 199, 181, 182, 183, 184, 185, 186, 187, 188, 189, 190, 191, 192, 193, 194, 195, 196, 200, 201, 202, 203, 204] (by decide +kernel) (by decide +kernel)
set_option maxRecDepth 20000 in
theorem gX6_read_X6_comesAsTold : GoodIn wsX6_read (wsV RX6 239 RX6 yX6_comesAsTold wsX6_comesAsTold) := goodIn_app (goodIn_of _ (by decide +kernel)) ggX6_read_X6_comesAsTold
theorem dX6_read_0 : decode cX6_read 0 = .ok (.aload_n 0, 1) := by decide +kernel
theorem dX6_read_1 : decode cX6_read 1 = .ok (.iload_n 1, 1) := by decide +kernel
theorem dX6_read_2 : decode cX6_read 2 = .ok (.invokevirtual 211, 3) := by decide +kernel
theorem dX6_read_5 : decode cX6_read 5 = .ok (.istore 4, 2) := by decide +kernel
theorem dX6_read_7 : decode cX6_read 7 = .ok (.iload 4, 2) := by decide +kernel
theorem dX6_read_9 : decode cX6_read 9 = .ok (.ifCond .eq 10, 3) := by decide +kernel
theorem dX6_read_12 : decode cX6_read 12 = .ok (.aload_n 0, 1) := by decide +kernel
theorem dX6_read_13 : decode cX6_read 13 = .ok (.iload 4, 2) := by decide +kernel
theorem dX6_read_15 : decode cX6_read 15 = .ok (.invokevirtual 52, 3) := by decide +kernel
theorem dX6_read_18 : decode cX6_read 18 = .ok (.ireturn, 1) := by decide +kernel
theorem dX6_read_19 : decode cX6_read 19 = .ok (.iload_n 2, 1) := by decide +kernel
theorem dX6_read_20 : decode cX6_read 20 = .ok (.invokestatic 69, 3) := by decide +kernel
theorem dX6_read_23 : decode cX6_read 23 = .ok (.ifCond .eq 11, 3) := by decide +kernel
theorem dX6_read_26 : decode cX6_read 26 = .ok (.aload_n 0, 1) := by decide +kernel
theorem dX6_read_27 : decode cX6_read 27 = .ok (.iload_n 3, 1) := by decide +kernel
theorem dX6_read_28 : decode cX6_read 28 = .ok (.invokevirtual 109, 3) := by decide +kernel
theorem dX6_read_31 : decode cX6_read 31 = .ok (.ifCond .ne 10, 3) := by decide +kernel
theorem dX6_read_34 : decode cX6_read 34 = .ok (.aload_n 0, 1) := by decide +kernel
theorem dX6_read_35 : decode cX6_read 35 = .ok (.ldc 51, 2) := by decide +kernel
theorem dX6_read_37 : decode cX6_read 37 = .ok (.invokevirtual 52, 3) := by decide +kernel
theorem dX6_read_40 : decode cX6_read 40 = .ok (.ireturn, 1) := by decide +kernel
theorem dX6_read_41 : decode cX6_read 41 = .ok (.iconst 0, 1) := by decide +kernel
theorem dX6_read_42 : decode cX6_read 42 = .ok (.istore 5, 2) := by decide +kernel
theorem dX6_read_44 : decode cX6_read 44 = .ok (.iconst 0, 1) := by decide +kernel
theorem dX6_read_45 : decode cX6_read 45 = .ok (.istore 6, 2) := by decide +kernel
theorem dX6_read_47 : decode cX6_read 47 = .ok (.iload 6, 2) := by decide +kernel
theorem dX6_read_49 : decode cX6_read 49 = .ok (.bipush 6, 2) := by decide +kernel
theorem dX6_read_51 : decode cX6_read 51 = .ok (.if_icmp .ge 80, 3) := by decide +kernel
theorem dX6_read_54 : decode cX6_read 54 = .ok (.iconst 1, 1) := by decide +kernel
theorem dX6_read_55 : decode cX6_read 55 = .ok (.istore 7, 2) := by decide +kernel
theorem dX6_read_57 : decode cX6_read 57 = .ok (.iload 7, 2) := by decide +kernel
theorem dX6_read_59 : decode cX6_read 59 = .ok (.bipush 31, 2) := by decide +kernel
theorem dX6_read_61 : decode cX6_read 61 = .ok (.if_icmp .gt 64, 3) := by decide +kernel
theorem dX6_read_64 : decode cX6_read 64 = .ok (.aload_n 0, 1) := by decide +kernel
theorem dX6_read_65 : decode cX6_read 65 = .ok (.getfield 19, 3) := by decide +kernel
theorem dX6_read_68 : decode cX6_read 68 = .ok (.aload_n 0, 1) := by decide +kernel
theorem dX6_read_69 : decode cX6_read 69 = .ok (.getfield 10, 3) := by decide +kernel
theorem dX6_read_72 : decode cX6_read 72 = .ok (.invokevirtual 179, 3) := by decide +kernel
theorem dX6_read_75 : decode cX6_read 75 = .ok (.aload_n 0, 1) := by decide +kernel
theorem dX6_read_76 : decode cX6_read 76 = .ok (.getfield 19, 3) := by decide +kernel
theorem dX6_read_79 : decode cX6_read 79 = .ok (.getfield 112, 3) := by decide +kernel
theorem dX6_read_82 : decode cX6_read 82 = .ok (.iload_n 3, 1) := by decide +kernel
theorem dX6_read_83 : decode cX6_read 83 = .ok (.iload 6, 2) := by decide +kernel
theorem dX6_read_85 : decode cX6_read 85 = .ok (.iastore, 1) := by decide +kernel
theorem dX6_read_86 : decode cX6_read 86 = .ok (.aload_n 0, 1) := by decide +kernel
theorem dX6_read_87 : decode cX6_read 87 = .ok (.getfield 19, 3) := by decide +kernel
theorem dX6_read_90 : decode cX6_read 90 = .ok (.iload 7, 2) := by decide +kernel
theorem dX6_read_92 : decode cX6_read 92 = .ok (.putfield 56, 3) := by decide +kernel
theorem dX6_read_95 : decode cX6_read 95 = .ok (.iload 5, 2) := by decide +kernel
theorem dX6_read_97 : decode cX6_read 97 = .ok (.aload_n 0, 1) := by decide +kernel
theorem dX6_read_98 : decode cX6_read 98 = .ok (.aload_n 0, 1) := by decide +kernel
theorem dX6_read_99 : decode cX6_read 99 = .ok (.getfield 38, 3) := by decide +kernel
theorem dX6_read_102 : decode cX6_read 102 = .ok (.iload_n 1, 1) := by decide +kernel
theorem dX6_read_103 : decode cX6_read 103 = .ok (.aaload, 1) := by decide +kernel
theorem dX6_read_104 : decode cX6_read 104 = .ok (.iload_n 2, 1) := by decide +kernel
theorem dX6_read_105 : decode cX6_read 105 = .ok (.invokevirtual 239, 3) := by decide +kernel
theorem dX6_read_108 : decode cX6_read 108 = .ok (.ifCond .eq 7, 3) := by decide +kernel
theorem dX6_read_111 : decode cX6_read 111 = .ok (.iconst 1, 1) := by decide +kernel
theorem dX6_read_112 : decode cX6_read 112 = .ok (.goto 4, 3) := by decide +kernel
theorem dX6_read_115 : decode cX6_read 115 = .ok (.iconst 0, 1) := by decide +kernel
theorem dX6_read_116 : decode cX6_read 116 = .ok (.iadd, 1) := by decide +kernel
theorem dX6_read_117 : decode cX6_read 117 = .ok (.istore 5, 2) := by decide +kernel
theorem dX6_read_119 : decode cX6_read 119 = .ok (.iinc 7 2, 3) := by decide +kernel
theorem dX6_read_122 : decode cX6_read 122 = .ok (.goto (-65), 3) := by decide +kernel
theorem dX6_read_125 : decode cX6_read 125 = .ok (.iinc 6 1, 3) := by decide +kernel
theorem dX6_read_128 : decode cX6_read 128 = .ok (.goto (-81), 3) := by decide +kernel
theorem dX6_read_131 : decode cX6_read 131 = .ok (.iload 5, 2) := by decide +kernel
theorem dX6_read_133 : decode cX6_read 133 = .ok (.ireturn, 1) := by decide +kernel
set_option maxRecDepth 20000 in
theorem ggX6_image_X4_become : GoodIn wsX6_image wsX4_become := goodIn_r _ [8, 9, 10, 11, 12, 13, 14, 15, 16, 17, 18, 19, 20, 29, 30, 31, 32, 33, 34, 35, 36] (by decide +kernel) (by decide +kernel)
set_option maxRecDepth 20000 in
theorem gX6_image_X4_become : GoodIn wsX6_image (wsV RX6 179 RX4 yX4_become wsX4_become) := goodIn_app (goodIn_of _ (by decide +kernel)) ggX6_image_X4_become
theorem dX6_image_0 : decode cX6_image 0 = .ok (.aload_n 0, 1) := by decide +kernel
theorem dX6_image_1 : decode cX6_image 1 = .ok (.getfield 16, 3) := by decide +kernel
theorem dX6_image_4 : decode cX6_image 4 = .ok (.aload_n 0, 1) := by decide +kernel
theorem dX6_image_5 : decode cX6_image 5 = .ok (.getfield 10, 3) := by decide +kernel
theorem dX6_image_8 : decode cX6_image 8 = .ok (.invokevirtual 179, 3) := by decide +kernel
theorem dX6_image_11 : decode cX6_image 11 = .ok (.aload_n 0, 1) := by decide +kernel
theorem dX6_image_12 : decode cX6_image 12 = .ok (.iconst 1, 1) := by decide +kernel
theorem dX6_image_13 : decode cX6_image 13 = .ok (.putfield 243, 3) := by decide +kernel
theorem dX6_image_16 : decode cX6_image 16 = .ok (.iconst 1, 1) := by decide +kernel
theorem dX6_image_17 : decode cX6_image 17 = .ok (.ireturn, 1) := by decide +kernel
set_option maxRecDepth 20000 in
theorem ggX6_undo_X6_finding : GoodIn wsX6_undo wsX6_finding := goodIn_r _ [10, 11, 12, 30, 31, 32, 33, 34, 35, 36, 37] (by decide +kernel) (by decide +kernel)
set_option maxRecDepth 20000 in
theorem gX6_undo_X6_finding : GoodIn wsX6_undo (wsV RX6 52 RX6 yX6_finding wsX6_finding) := goodIn_app (goodIn_of _ (by decide +kernel)) ggX6_undo_X6_finding
set_option maxRecDepth 20000 in
theorem ggX6_undo_X4_become : GoodIn wsX6_undo wsX4_become := goodIn_r _ [17, 18, 19, 20, 21, 22, 23, 24, 25, 26, 27, 28, 29, 38, 39, 40, 41, 42, 43, 44, 45] (by decide +kernel) (by decide +kernel)
set_option maxRecDepth 20000 in
theorem gX6_undo_X4_become : GoodIn wsX6_undo (wsV RX6 179 RX4 yX4_become wsX4_become) := goodIn_app (goodIn_of _ (by decide +kernel)) ggX6_undo_X4_become
theorem dX6_undo_0 : decode cX6_undo 0 = .ok (.aload_n 0, 1) := by decide +kernel
theorem dX6_undo_1 : decode cX6_undo 1 = .ok (.getfield 243, 3) := by decide +kernel
theorem dX6_undo_4 : decode cX6_undo 4 = .ok (.ifCond .ne 10, 3) := by decide +kernel
theorem dX6_undo_7 : decode cX6_undo 7 = .ok (.aload_n 0, 1) := by decide +kernel
theorem dX6_undo_8 : decode cX6_undo 8 = .ok (.ldc 182, 2) := by decide +kernel
theorem dX6_undo_10 : decode cX6_undo 10 = .ok (.invokevirtual 52, 3) := by decide +kernel
theorem dX6_undo_13 : decode cX6_undo 13 = .ok (.ireturn, 1) := by decide +kernel
theorem dX6_undo_14 : decode cX6_undo 14 = .ok (.aload_n 0, 1) := by decide +kernel
theorem dX6_undo_15 : decode cX6_undo 15 = .ok (.getfield 10, 3) := by decide +kernel
theorem dX6_undo_18 : decode cX6_undo 18 = .ok (.aload_n 0, 1) := by decide +kernel
theorem dX6_undo_19 : decode cX6_undo 19 = .ok (.getfield 16, 3) := by decide +kernel
theorem dX6_undo_22 : decode cX6_undo 22 = .ok (.invokevirtual 179, 3) := by decide +kernel
theorem dX6_undo_25 : decode cX6_undo 25 = .ok (.aload_n 0, 1) := by decide +kernel
theorem dX6_undo_26 : decode cX6_undo 26 = .ok (.getfield 10, 3) := by decide +kernel
theorem dX6_undo_29 : decode cX6_undo 29 = .ok (.getfield 102, 3) := by decide +kernel
theorem dX6_undo_32 : decode cX6_undo 32 = .ok (.ireturn, 1) := by decide +kernel
theorem dX6_tear_0 : decode cX6_tear 0 = .ok (.aload_n 0, 1) := by decide +kernel
theorem dX6_tear_1 : decode cX6_tear 1 = .ok (.getfield 243, 3) := by decide +kernel
theorem dX6_tear_4 : decode cX6_tear 4 = .ok (.ifCond .eq 7, 3) := by decide +kernel
theorem dX6_tear_7 : decode cX6_tear 7 = .ok (.iconst 1, 1) := by decide +kernel
theorem dX6_tear_8 : decode cX6_tear 8 = .ok (.goto 4, 3) := by decide +kernel
theorem dX6_tear_11 : decode cX6_tear 11 = .ok (.iconst 0, 1) := by decide +kernel
theorem dX6_tear_12 : decode cX6_tear 12 = .ok (.istore_n 1, 1) := by decide +kernel
theorem dX6_tear_13 : decode cX6_tear 13 = .ok (.aload_n 0, 1) := by decide +kernel
theorem dX6_tear_14 : decode cX6_tear 14 = .ok (.iconst 0, 1) := by decide +kernel
theorem dX6_tear_15 : decode cX6_tear 15 = .ok (.putfield 243, 3) := by decide +kernel
theorem dX6_tear_18 : decode cX6_tear 18 = .ok (.iload_n 1, 1) := by decide +kernel
theorem dX6_tear_19 : decode cX6_tear 19 = .ok (.ireturn, 1) := by decide +kernel
set_option maxRecDepth 20000 in
theorem ggX6_count_X4_owned : GoodIn wsX6_count wsX4_owned := goodIn_r _ [10, 11, 12, 13, 9, 14, 15, 16, 17, 18, 19, 20, 21, 22, 43, 44, 45, 46, 47, 48, 49, 50] (by decide +kernel) (by decide +kernel)
set_option maxRecDepth 20000 in
theorem gX6_count_X4_owned : GoodIn wsX6_count (wsV RX6 169 RX4 yX4_owned wsX4_owned) := goodIn_app (goodIn_of _ (by decide +kernel)) ggX6_count_X4_owned
set_option maxRecDepth 20000 in
theorem ggX6_count_X4_winsTogether : GoodIn wsX6_count wsX4_winsTogether := goodIn_r _ [26, 27, 28, 43, 44, 45, 46, 47, 48, 49, 50] (by decide +kernel) (by decide +kernel)
set_option maxRecDepth 20000 in
theorem gX6_count_X4_winsTogether : GoodIn wsX6_count (wsV RX6 247 RX4 yX4_winsTogether wsX4_winsTogether) := goodIn_app (goodIn_of _ (by decide +kernel)) ggX6_count_X4_winsTogether
set_option maxRecDepth 20000 in
theorem ggX6_count_X6_finding : GoodIn wsX6_count wsX6_finding := goodIn_r _ [33, 5, 34, 35, 36, 37, 38, 39, 40, 41, 42] (by decide +kernel) (by decide +kernel)
set_option maxRecDepth 20000 in
theorem gX6_count_X6_finding : GoodIn wsX6_count (wsV RX6 52 RX6 yX6_finding wsX6_finding) := goodIn_app (goodIn_of _ (by decide +kernel)) ggX6_count_X6_finding
theorem dX6_count_0 : decode cX6_count 0 = .ok (.iload_n 1, 1) := by decide +kernel
theorem dX6_count_1 : decode cX6_count 1 = .ok (.tableswitch 64 0 3 #[31, 39, 47, 56], 31) := by decide +kernel
theorem dX6_count_32 : decode cX6_count 32 = .ok (.aload_n 0, 1) := by decide +kernel
theorem dX6_count_33 : decode cX6_count 33 = .ok (.getfield 10, 3) := by decide +kernel
theorem dX6_count_36 : decode cX6_count 36 = .ok (.getfield 102, 3) := by decide +kernel
theorem dX6_count_39 : decode cX6_count 39 = .ok (.ireturn, 1) := by decide +kernel
theorem dX6_count_40 : decode cX6_count 40 = .ok (.aload_n 0, 1) := by decide +kernel
theorem dX6_count_41 : decode cX6_count 41 = .ok (.getfield 32, 3) := by decide +kernel
theorem dX6_count_44 : decode cX6_count 44 = .ok (.getfield 190, 3) := by decide +kernel
theorem dX6_count_47 : decode cX6_count 47 = .ok (.ireturn, 1) := by decide +kernel
theorem dX6_count_48 : decode cX6_count 48 = .ok (.aload_n 0, 1) := by decide +kernel
theorem dX6_count_49 : decode cX6_count 49 = .ok (.getfield 10, 3) := by decide +kernel
theorem dX6_count_52 : decode cX6_count 52 = .ok (.iconst (-1), 1) := by decide +kernel
theorem dX6_count_53 : decode cX6_count 53 = .ok (.invokevirtual 169, 3) := by decide +kernel
theorem dX6_count_56 : decode cX6_count 56 = .ok (.ireturn, 1) := by decide +kernel
theorem dX6_count_57 : decode cX6_count 57 = .ok (.aload_n 0, 1) := by decide +kernel
theorem dX6_count_58 : decode cX6_count 58 = .ok (.getfield 10, 3) := by decide +kernel
theorem dX6_count_61 : decode cX6_count 61 = .ok (.invokevirtual 247, 3) := by decide +kernel
theorem dX6_count_64 : decode cX6_count 64 = .ok (.ireturn, 1) := by decide +kernel
theorem dX6_count_65 : decode cX6_count 65 = .ok (.aload_n 0, 1) := by decide +kernel
theorem dX6_count_66 : decode cX6_count 66 = .ok (.ldc 51, 2) := by decide +kernel
theorem dX6_count_68 : decode cX6_count 68 = .ok (.invokevirtual 52, 3) := by decide +kernel
theorem dX6_count_71 : decode cX6_count 71 = .ok (.ireturn, 1) := by decide +kernel
set_option maxRecDepth 20000 in
theorem ggX6_status_X6_isWithin : GoodIn wsX6_status wsX6_isWithin := goodIn_r _ [6] (by decide +kernel) (by decide +kernel)
set_option maxRecDepth 20000 in
theorem gX6_status_X6_isWithin : GoodIn wsX6_status (va_wsS RX6 73 yX6_isWithin wsX6_isWithin) := goodIn_app (goodIn_of _ (by decide +kernel)) ggX6_status_X6_isWithin
set_option maxRecDepth 20000 in
theorem ggX6_status_X6_finding : GoodIn wsX6_status wsX6_finding := goodIn_r _ [10, 1, 2, 11, 12, 13, 14, 15, 16, 17, 18] (by decide +kernel) (by decide +kernel)
set_option maxRecDepth 20000 in
theorem gX6_status_X6_finding : GoodIn wsX6_status (wsV RX6 52 RX6 yX6_finding wsX6_finding) := goodIn_app (goodIn_of _ (by decide +kernel)) ggX6_status_X6_finding
theorem dX6_status_0 : decode cX6_status 0 = .ok (.iload_n 1, 1) := by decide +kernel
theorem dX6_status_1 : decode cX6_status 1 = .ok (.iconst (-1), 1) := by decide +kernel
theorem dX6_status_2 : decode cX6_status 2 = .ok (.bipush 6, 2) := by decide +kernel
theorem dX6_status_4 : decode cX6_status 4 = .ok (.invokestatic 73, 3) := by decide +kernel
theorem dX6_status_7 : decode cX6_status 7 = .ok (.ifCond .ne 10, 3) := by decide +kernel
theorem dX6_status_10 : decode cX6_status 10 = .ok (.aload_n 0, 1) := by decide +kernel
theorem dX6_status_11 : decode cX6_status 11 = .ok (.ldc 51, 2) := by decide +kernel
theorem dX6_status_13 : decode cX6_status 13 = .ok (.invokevirtual 52, 3) := by decide +kernel
theorem dX6_status_16 : decode cX6_status 16 = .ok (.ireturn, 1) := by decide +kernel
theorem dX6_status_17 : decode cX6_status 17 = .ok (.iload_n 1, 1) := by decide +kernel
theorem dX6_status_18 : decode cX6_status 18 = .ok (.ifCond .lt 10, 3) := by decide +kernel
theorem dX6_status_21 : decode cX6_status 21 = .ok (.aload_n 0, 1) := by decide +kernel
theorem dX6_status_22 : decode cX6_status 22 = .ok (.getfield 42, 3) := by decide +kernel
theorem dX6_status_25 : decode cX6_status 25 = .ok (.iload_n 1, 1) := by decide +kernel
theorem dX6_status_26 : decode cX6_status 26 = .ok (.iaload, 1) := by decide +kernel
theorem dX6_status_27 : decode cX6_status 27 = .ok (.ireturn, 1) := by decide +kernel
theorem dX6_status_28 : decode cX6_status 28 = .ok (.iconst 0, 1) := by decide +kernel
theorem dX6_status_29 : decode cX6_status 29 = .ok (.istore_n 2, 1) := by decide +kernel
theorem dX6_status_30 : decode cX6_status 30 = .ok (.iconst 0, 1) := by decide +kernel
theorem dX6_status_31 : decode cX6_status 31 = .ok (.istore_n 3, 1) := by decide +kernel
theorem dX6_status_32 : decode cX6_status 32 = .ok (.iload_n 3, 1) := by decide +kernel
theorem dX6_status_33 : decode cX6_status 33 = .ok (.bipush 7, 2) := by decide +kernel
theorem dX6_status_35 : decode cX6_status 35 = .ok (.if_icmp .ge 18, 3) := by decide +kernel
theorem dX6_status_38 : decode cX6_status 38 = .ok (.iload_n 2, 1) := by decide +kernel
theorem dX6_status_39 : decode cX6_status 39 = .ok (.aload_n 0, 1) := by decide +kernel
theorem dX6_status_40 : decode cX6_status 40 = .ok (.getfield 42, 3) := by decide +kernel
theorem dX6_status_43 : decode cX6_status 43 = .ok (.iload_n 3, 1) := by decide +kernel
theorem dX6_status_44 : decode cX6_status 44 = .ok (.iaload, 1) := by decide +kernel
theorem dX6_status_45 : decode cX6_status 45 = .ok (.iadd, 1) := by decide +kernel
theorem dX6_status_46 : decode cX6_status 46 = .ok (.istore_n 2, 1) := by decide +kernel
theorem dX6_status_47 : decode cX6_status 47 = .ok (.iinc 3 1, 3) := by decide +kernel
theorem dX6_status_50 : decode cX6_status 50 = .ok (.goto (-18), 3) := by decide +kernel
theorem dX6_status_53 : decode cX6_status 53 = .ok (.iload_n 2, 1) := by decide +kernel
theorem dX6_status_54 : decode cX6_status 54 = .ok (.ireturn, 1) := by decide +kernel
theorem dX6_finding_0 : decode cX6_finding 0 = .ok (.ldc 51, 2) := by decide +kernel
theorem dX6_finding_2 : decode cX6_finding 2 = .ok (.iload_n 1, 1) := by decide +kernel
theorem dX6_finding_3 : decode cX6_finding 3 = .ok (.isub, 1) := by decide +kernel
theorem dX6_finding_4 : decode cX6_finding 4 = .ok (.istore_n 2, 1) := by decide +kernel
theorem dX6_finding_5 : decode cX6_finding 5 = .ok (.iload_n 2, 1) := by decide +kernel
theorem dX6_finding_6 : decode cX6_finding 6 = .ok (.ifCond .lt 19, 3) := by decide +kernel
theorem dX6_finding_9 : decode cX6_finding 9 = .ok (.iload_n 2, 1) := by decide +kernel
theorem dX6_finding_10 : decode cX6_finding 10 = .ok (.bipush 7, 2) := by decide +kernel
theorem dX6_finding_12 : decode cX6_finding 12 = .ok (.if_icmp .ge 13, 3) := by decide +kernel
theorem dX6_finding_15 : decode cX6_finding 15 = .ok (.aload_n 0, 1) := by decide +kernel
theorem dX6_finding_16 : decode cX6_finding 16 = .ok (.getfield 42, 3) := by decide +kernel
theorem dX6_finding_19 : decode cX6_finding 19 = .ok (.iload_n 2, 1) := by decide +kernel
theorem dX6_finding_20 : decode cX6_finding 20 = .ok (.dup2, 1) := by decide +kernel
theorem dX6_finding_21 : decode cX6_finding 21 = .ok (.iaload, 1) := by decide +kernel
theorem dX6_finding_22 : decode cX6_finding 22 = .ok (.iconst 1, 1) := by decide +kernel
theorem dX6_finding_23 : decode cX6_finding 23 = .ok (.iadd, 1) := by decide +kernel
theorem dX6_finding_24 : decode cX6_finding 24 = .ok (.iastore, 1) := by decide +kernel
theorem dX6_finding_25 : decode cX6_finding 25 = .ok (.iload_n 1, 1) := by decide +kernel
theorem dX6_finding_26 : decode cX6_finding 26 = .ok (.ireturn, 1) := by decide +kernel
set_option maxRecDepth 20000 in
theorem ggX6_lookAhead_X4_become : GoodIn wsX6_lookAhead wsX4_become := goodIn_r _ [8, 9, 10, 11, 12, 13, 14, 15, 16, 17, 18, 19, 20, 151, 152, 153, 154, 155, 156, 157, 158] (by decide +kernel) (by decide +kernel)
set_option maxRecDepth 20000 in
theorem gX6_lookAhead_X4_become : GoodIn wsX6_lookAhead (wsV RX6 179 RX4 yX4_become wsX4_become) := goodIn_app (goodIn_of _ (by decide +kernel)) ggX6_lookAhead_X4_become
set_option maxRecDepth 20000 in
theorem ggX6_lookAhead_X4_passMonths : GoodIn wsX6_lookAhead wsX4_passMonths := goodIn_r _ [24, 25, 26, 27, 7, 28, 18, 29, 30, 31, 32, 33, 34, 35, 36, 37, 38, 39, 40, 10, 9, 41, 42, 43, 44, 45, 46, 47, 48, 49, 50, 51, 52, 53, 54, 55, 56, 57, 58, 59, 60, 61, 62, 63, 64, 65, 66, 67, 68, 69, 70, 71, 72, 73, 74, 75, 76, 77, 78, 79, 80, 81, 82, 83, 84, 85, 86, 87, 88, 89, 90, 91, 92, 93, 94, 95, 96, 97, 98, 99, 100, 101, 102, 103, 104, 105, 106, 107, 108, 109, 110, 111, 112, 113, 114, 115, 116, 20, 117, 118, 119, 120, 121, 122, 123, 124, 12, 17, 125, 126, 127, 128, 129, 130, 131, 132, 133, 134, 135, 136, 137, 138, 139, 140, 141, 142, 151, 152, 153, 154, 155, 156, 157, 158, 159, 160, 161, 162, 163] (by decide +kernel) (by decide +kernel)
set_option maxRecDepth 20000 in
theorem gX6_lookAhead_X4_passMonths : GoodIn wsX6_lookAhead (wsV RX6 165 RX4 yX4_passMonths wsX4_passMonths) := goodIn_app (goodIn_of _ (by decide +kernel)) ggX6_lookAhead_X4_passMonths
theorem dX6_lookAhead_0 : decode cX6_lookAhead 0 = .ok (.aload_n 0, 1) := by decide +kernel
theorem dX6_lookAhead_1 : decode cX6_lookAhead 1 = .ok (.getfield 19, 3) := by decide +kernel
theorem dX6_lookAhead_4 : decode cX6_lookAhead 4 = .ok (.aload_n 0, 1) := by decide +kernel
theorem dX6_lookAhead_5 : decode cX6_lookAhead 5 = .ok (.getfield 10, 3) := by decide +kernel
theorem dX6_lookAhead_8 : decode cX6_lookAhead 8 = .ok (.invokevirtual 179, 3) := by decide +kernel
theorem dX6_lookAhead_11 : decode cX6_lookAhead 11 = .ok (.aload_n 0, 1) := by decide +kernel
theorem dX6_lookAhead_12 : decode cX6_lookAhead 12 = .ok (.getfield 19, 3) := by decide +kernel
theorem dX6_lookAhead_15 : decode cX6_lookAhead 15 = .ok (.iload_n 1, 1) := by decide +kernel
theorem dX6_lookAhead_16 : decode cX6_lookAhead 16 = .ok (.aload_n 0, 1) := by decide +kernel
theorem dX6_lookAhead_17 : decode cX6_lookAhead 17 = .ok (.getfield 25, 3) := by decide +kernel
theorem dX6_lookAhead_20 : decode cX6_lookAhead 20 = .ok (.invokevirtual 165, 3) := by decide +kernel
theorem dX6_lookAhead_23 : decode cX6_lookAhead 23 = .ok (.return_, 1) := by decide +kernel
set_option maxRecDepth 20000 in
theorem ggX6_lookAheadIdle_X4_become : GoodIn wsX6_lookAheadIdle wsX4_become := goodIn_r _ [9, 10, 11, 12, 13, 14, 15, 16, 17, 18, 19, 20, 21, 152, 153, 154, 155, 156, 157, 158, 159] (by decide +kernel) (by decide +kernel)
set_option maxRecDepth 20000 in
theorem gX6_lookAheadIdle_X4_become : GoodIn wsX6_lookAheadIdle (wsV RX6 179 RX4 yX4_become wsX4_become) := goodIn_app (goodIn_of _ (by decide +kernel)) ggX6_lookAheadIdle_X4_become
set_option maxRecDepth 20000 in
theorem ggX6_lookAheadIdle_X4_passMonths : GoodIn wsX6_lookAheadIdle wsX4_passMonths := goodIn_r _ [25, 26, 27, 28, 8, 29, 19, 30, 31, 32, 33, 34, 35, 36, 37, 38, 39, 40, 41, 11, 10, 42, 43, 44, 45, 46, 47, 48, 49, 50, 51, 52, 53, 54, 55, 56, 57, 58, 59, 60, 61, 62, 63, 64, 65, 66, 67, 68, 69, 70, 71, 72, 73, 74, 75, 76, 77, 78, 79, 80, 81, 82, 83, 84, 85, 86, 87, 88, 89, 90, 91, 92, 93, 94, 95, 96, 97, 98, 99, 100, 101, 102, 103, 104, 105, 106, 107, 108, 109, 110, 111, 112, 113, 114, 115, 116, 117, 21, 118, 119, 120, 121, 122, 123, 124, 125, 13, 18, 126, 127, 128, 129, 130, 131, 132, 133, 134, 135, 136, 137, 138, 139, 140, 141, 142, 143, 152, 153, 154, 155, 156, 157, 158, 159, 160, 161, 162, 163, 164] (by decide +kernel) (by decide +kernel)
set_option maxRecDepth 20000 in
theorem gX6_lookAheadIdle_X4_passMonths : GoodIn wsX6_lookAheadIdle (wsV RX6 165 RX4 yX4_passMonths wsX4_passMonths) := goodIn_app (goodIn_of _ (by decide +kernel)) ggX6_lookAheadIdle_X4_passMonths
theorem dX6_lookAheadIdle_0 : decode cX6_lookAheadIdle 0 = .ok (.aload_n 0, 1) := by decide +kernel
theorem dX6_lookAheadIdle_1 : decode cX6_lookAheadIdle 1 = .ok (.getfield 19, 3) := by decide +kernel
theorem dX6_lookAheadIdle_4 : decode cX6_lookAheadIdle 4 = .ok (.aload_n 0, 1) := by decide +kernel
theorem dX6_lookAheadIdle_5 : decode cX6_lookAheadIdle 5 = .ok (.getfield 10, 3) := by decide +kernel
theorem dX6_lookAheadIdle_8 : decode cX6_lookAheadIdle 8 = .ok (.invokevirtual 179, 3) := by decide +kernel
theorem dX6_lookAheadIdle_11 : decode cX6_lookAheadIdle 11 = .ok (.aload_n 0, 1) := by decide +kernel
theorem dX6_lookAheadIdle_12 : decode cX6_lookAheadIdle 12 = .ok (.getfield 19, 3) := by decide +kernel
theorem dX6_lookAheadIdle_15 : decode cX6_lookAheadIdle 15 = .ok (.getfield 90, 3) := by decide +kernel
theorem dX6_lookAheadIdle_18 : decode cX6_lookAheadIdle 18 = .ok (.iconst 0, 1) := by decide +kernel
theorem dX6_lookAheadIdle_19 : decode cX6_lookAheadIdle 19 = .ok (.iconst (-1), 1) := by decide +kernel
theorem dX6_lookAheadIdle_20 : decode cX6_lookAheadIdle 20 = .ok (.iastore, 1) := by decide +kernel
theorem dX6_lookAheadIdle_21 : decode cX6_lookAheadIdle 21 = .ok (.aload_n 0, 1) := by decide +kernel
theorem dX6_lookAheadIdle_22 : decode cX6_lookAheadIdle 22 = .ok (.getfield 19, 3) := by decide +kernel
theorem dX6_lookAheadIdle_25 : decode cX6_lookAheadIdle 25 = .ok (.getfield 90, 3) := by decide +kernel
theorem dX6_lookAheadIdle_28 : decode cX6_lookAheadIdle 28 = .ok (.iconst 1, 1) := by decide +kernel
theorem dX6_lookAheadIdle_29 : decode cX6_lookAheadIdle 29 = .ok (.iconst (-1), 1) := by decide +kernel
theorem dX6_lookAheadIdle_30 : decode cX6_lookAheadIdle 30 = .ok (.iastore, 1) := by decide +kernel
theorem dX6_lookAheadIdle_31 : decode cX6_lookAheadIdle 31 = .ok (.aload_n 0, 1) := by decide +kernel
theorem dX6_lookAheadIdle_32 : decode cX6_lookAheadIdle 32 = .ok (.getfield 19, 3) := by decide +kernel
theorem dX6_lookAheadIdle_35 : decode cX6_lookAheadIdle 35 = .ok (.iload_n 1, 1) := by decide +kernel
theorem dX6_lookAheadIdle_36 : decode cX6_lookAheadIdle 36 = .ok (.aload_n 0, 1) := by decide +kernel
theorem dX6_lookAheadIdle_37 : decode cX6_lookAheadIdle 37 = .ok (.getfield 25, 3) := by decide +kernel
theorem dX6_lookAheadIdle_40 : decode cX6_lookAheadIdle 40 = .ok (.invokevirtual 165, 3) := by decide +kernel
theorem dX6_lookAheadIdle_43 : decode cX6_lookAheadIdle 43 = .ok (.aload_n 0, 1) := by decide +kernel
theorem dX6_lookAheadIdle_44 : decode cX6_lookAheadIdle 44 = .ok (.getfield 19, 3) := by decide +kernel
theorem dX6_lookAheadIdle_47 : decode cX6_lookAheadIdle 47 = .ok (.getfield 90, 3) := by decide +kernel
theorem dX6_lookAheadIdle_50 : decode cX6_lookAheadIdle 50 = .ok (.iconst 0, 1) := by decide +kernel
theorem dX6_lookAheadIdle_51 : decode cX6_lookAheadIdle 51 = .ok (.aload_n 0, 1) := by decide +kernel
theorem dX6_lookAheadIdle_52 : decode cX6_lookAheadIdle 52 = .ok (.getfield 10, 3) := by decide +kernel
theorem dX6_lookAheadIdle_55 : decode cX6_lookAheadIdle 55 = .ok (.getfield 90, 3) := by decide +kernel
theorem dX6_lookAheadIdle_58 : decode cX6_lookAheadIdle 58 = .ok (.iconst 0, 1) := by decide +kernel
theorem dX6_lookAheadIdle_59 : decode cX6_lookAheadIdle 59 = .ok (.iaload, 1) := by decide +kernel
theorem dX6_lookAheadIdle_60 : decode cX6_lookAheadIdle 60 = .ok (.iastore, 1) := by decide +kernel
theorem dX6_lookAheadIdle_61 : decode cX6_lookAheadIdle 61 = .ok (.aload_n 0, 1) := by decide +kernel
theorem dX6_lookAheadIdle_62 : decode cX6_lookAheadIdle 62 = .ok (.getfield 19, 3) := by decide +kernel
theorem dX6_lookAheadIdle_65 : decode cX6_lookAheadIdle 65 = .ok (.getfield 90, 3) := by decide +kernel
theorem dX6_lookAheadIdle_68 : decode cX6_lookAheadIdle 68 = .ok (.iconst 1, 1) := by decide +kernel
theorem dX6_lookAheadIdle_69 : decode cX6_lookAheadIdle 69 = .ok (.aload_n 0, 1) := by decide +kernel
theorem dX6_lookAheadIdle_70 : decode cX6_lookAheadIdle 70 = .ok (.getfield 10, 3) := by decide +kernel
theorem dX6_lookAheadIdle_73 : decode cX6_lookAheadIdle 73 = .ok (.getfield 90, 3) := by decide +kernel
theorem dX6_lookAheadIdle_76 : decode cX6_lookAheadIdle 76 = .ok (.iconst 1, 1) := by decide +kernel
theorem dX6_lookAheadIdle_77 : decode cX6_lookAheadIdle 77 = .ok (.iaload, 1) := by decide +kernel
theorem dX6_lookAheadIdle_78 : decode cX6_lookAheadIdle 78 = .ok (.iastore, 1) := by decide +kernel
theorem dX6_lookAheadIdle_79 : decode cX6_lookAheadIdle 79 = .ok (.return_, 1) := by decide +kernel
set_option maxRecDepth 20000 in
theorem ggX6_bestMix_X4_become : GoodIn wsX6_bestMix wsX4_become := goodIn_r _ [9, 10, 11, 12, 13, 14, 15, 16, 17, 18, 19, 20, 21, 153, 154, 155, 156, 157, 158, 159, 160] (by decide +kernel) (by decide +kernel)
set_option maxRecDepth 20000 in
theorem gX6_bestMix_X4_become : GoodIn wsX6_bestMix (wsV RX6 179 RX4 yX4_become wsX4_become) := goodIn_app (goodIn_of _ (by decide +kernel)) ggX6_bestMix_X4_become
set_option maxRecDepth 20000 in
theorem ggX6_bestMix_X4_passMonths : GoodIn wsX6_bestMix wsX4_passMonths := goodIn_r _ [25, 26, 27, 28, 8, 29, 19, 30, 31, 32, 33, 34, 35, 36, 37, 38, 39, 40, 41, 11, 10, 42, 43, 44, 45, 46, 47, 48, 49, 50, 51, 52, 53, 54, 55, 56, 57, 58, 59, 60, 61, 62, 63, 64, 65, 66, 67, 68, 69, 70, 71, 72, 73, 74, 75, 76, 77, 78, 79, 80, 81, 82, 83, 84, 85, 86, 87, 88, 89, 90, 91, 92, 93, 94, 95, 96, 97, 98, 99, 100, 101, 102, 103, 104, 105, 106, 107, 108, 109, 110, 111, 112, 113, 114, 115, 116, 117, 21, 118, 119, 120, 121, 122, 123, 124, 125, 13, 18, 126, 127, 128, 129, 130, 131, 132, 133, 134, 135, 136, 137, 138, 139, 140, 141, 142, 143, 153, 154, 155, 156, 157, 158, 159, 160, 161, 162, 163, 164, 165] (by decide +kernel) (by decide +kernel)
set_option maxRecDepth 20000 in
theorem gX6_bestMix_X4_passMonths : GoodIn wsX6_bestMix (wsV RX6 165 RX4 yX4_passMonths wsX4_passMonths) := goodIn_app (goodIn_of _ (by decide +kernel)) ggX6_bestMix_X4_passMonths
set_option maxRecDepth 20000 in
theorem ggX6_bestMix_X4_owned : GoodIn wsX6_bestMix wsX4_owned := goodIn_r _ [134, 135, 136, 137, 8, 138, 13, 139, 74, 75, 76, 77, 78, 79, 153, 154, 155, 156, 157, 158, 159, 160] (by decide +kernel) (by decide +kernel)
set_option maxRecDepth 20000 in
theorem gX6_bestMix_X4_owned : GoodIn wsX6_bestMix (wsV RX6 169 RX4 yX4_owned wsX4_owned) := goodIn_app (goodIn_of _ (by decide +kernel)) ggX6_bestMix_X4_owned
theorem dX6_bestMix_0 : decode cX6_bestMix 0 = .ok (.iconst 1, 1) := by decide +kernel
theorem dX6_bestMix_1 : decode cX6_bestMix 1 = .ok (.istore_n 3, 1) := by decide +kernel
theorem dX6_bestMix_2 : decode cX6_bestMix 2 = .ok (.iconst (-1), 1) := by decide +kernel
theorem dX6_bestMix_3 : decode cX6_bestMix 3 = .ok (.istore 4, 2) := by decide +kernel
theorem dX6_bestMix_5 : decode cX6_bestMix 5 = .ok (.iconst 1, 1) := by decide +kernel
theorem dX6_bestMix_6 : decode cX6_bestMix 6 = .ok (.istore 5, 2) := by decide +kernel
theorem dX6_bestMix_8 : decode cX6_bestMix 8 = .ok (.iload 5, 2) := by decide +kernel
theorem dX6_bestMix_10 : decode cX6_bestMix 10 = .ok (.bipush 31, 2) := by decide +kernel
theorem dX6_bestMix_12 : decode cX6_bestMix 12 = .ok (.if_icmp .gt 67, 3) := by decide +kernel
theorem dX6_bestMix_15 : decode cX6_bestMix 15 = .ok (.aload_n 0, 1) := by decide +kernel
theorem dX6_bestMix_16 : decode cX6_bestMix 16 = .ok (.getfield 19, 3) := by decide +kernel
theorem dX6_bestMix_19 : decode cX6_bestMix 19 = .ok (.aload_n 0, 1) := by decide +kernel
theorem dX6_bestMix_20 : decode cX6_bestMix 20 = .ok (.getfield 10, 3) := by decide +kernel
theorem dX6_bestMix_23 : decode cX6_bestMix 23 = .ok (.invokevirtual 179, 3) := by decide +kernel
theorem dX6_bestMix_26 : decode cX6_bestMix 26 = .ok (.aload_n 0, 1) := by decide +kernel
theorem dX6_bestMix_27 : decode cX6_bestMix 27 = .ok (.getfield 19, 3) := by decide +kernel
theorem dX6_bestMix_30 : decode cX6_bestMix 30 = .ok (.iload 5, 2) := by decide +kernel
theorem dX6_bestMix_32 : decode cX6_bestMix 32 = .ok (.putfield 56, 3) := by decide +kernel
theorem dX6_bestMix_35 : decode cX6_bestMix 35 = .ok (.aload_n 0, 1) := by decide +kernel
theorem dX6_bestMix_36 : decode cX6_bestMix 36 = .ok (.getfield 19, 3) := by decide +kernel
theorem dX6_bestMix_39 : decode cX6_bestMix 39 = .ok (.iload_n 2, 1) := by decide +kernel
theorem dX6_bestMix_40 : decode cX6_bestMix 40 = .ok (.aload_n 0, 1) := by decide +kernel
theorem dX6_bestMix_41 : decode cX6_bestMix 41 = .ok (.getfield 25, 3) := by decide +kernel
theorem dX6_bestMix_44 : decode cX6_bestMix 44 = .ok (.invokevirtual 165, 3) := by decide +kernel
theorem dX6_bestMix_47 : decode cX6_bestMix 47 = .ok (.aload_n 0, 1) := by decide +kernel
theorem dX6_bestMix_48 : decode cX6_bestMix 48 = .ok (.getfield 19, 3) := by decide +kernel
theorem dX6_bestMix_51 : decode cX6_bestMix 51 = .ok (.iload_n 1, 1) := by decide +kernel
theorem dX6_bestMix_52 : decode cX6_bestMix 52 = .ok (.invokevirtual 169, 3) := by decide +kernel
theorem dX6_bestMix_55 : decode cX6_bestMix 55 = .ok (.iload 4, 2) := by decide +kernel
theorem dX6_bestMix_57 : decode cX6_bestMix 57 = .ok (.if_icmp .le 16, 3) := by decide +kernel
theorem dX6_bestMix_60 : decode cX6_bestMix 60 = .ok (.aload_n 0, 1) := by decide +kernel
theorem dX6_bestMix_61 : decode cX6_bestMix 61 = .ok (.getfield 19, 3) := by decide +kernel
theorem dX6_bestMix_64 : decode cX6_bestMix 64 = .ok (.iload_n 1, 1) := by decide +kernel
theorem dX6_bestMix_65 : decode cX6_bestMix 65 = .ok (.invokevirtual 169, 3) := by decide +kernel
theorem dX6_bestMix_68 : decode cX6_bestMix 68 = .ok (.istore 4, 2) := by decide +kernel
theorem dX6_bestMix_70 : decode cX6_bestMix 70 = .ok (.iload 5, 2) := by decide +kernel
theorem dX6_bestMix_72 : decode cX6_bestMix 72 = .ok (.istore_n 3, 1) := by decide +kernel
theorem dX6_bestMix_73 : decode cX6_bestMix 73 = .ok (.iinc 5 2, 3) := by decide +kernel
theorem dX6_bestMix_76 : decode cX6_bestMix 76 = .ok (.goto (-68), 3) := by decide +kernel
theorem dX6_bestMix_79 : decode cX6_bestMix 79 = .ok (.iload_n 3, 1) := by decide +kernel
theorem dX6_bestMix_80 : decode cX6_bestMix 80 = .ok (.ireturn, 1) := by decide +kernel
set_option maxRecDepth 20000 in
theorem ggX6_comesAsTold_X4_ownedSet : GoodIn wsX6_comesAsTold wsX4_ownedSet := goodIn_r _ [9, 10, 146, 147, 148, 149, 150, 151, 152, 153] (by decide +kernel) (by decide +kernel)
set_option maxRecDepth 20000 in
theorem gX6_comesAsTold_X4_ownedSet : GoodIn wsX6_comesAsTold (wsV RX6 176 RX4 yX4_ownedSet wsX4_ownedSet) := goodIn_app (goodIn_of _ (by decide +kernel)) ggX6_comesAsTold_X4_ownedSet
set_option maxRecDepth 20000 in
theorem ggX6_comesAsTold_X4_passMonths : GoodIn wsX6_comesAsTold wsX4_passMonths := goodIn_r _ [14, 15, 16, 17, 8, 18, 19, 20, 21, 22, 23, 24, 25, 26, 27, 28, 29, 30, 31, 32, 33, 34, 35, 36, 37, 38, 39, 40, 41, 42, 43, 44, 45, 46, 47, 48, 49, 50, 51, 52, 53, 54, 55, 56, 57, 58, 59, 60, 61, 62, 63, 64, 65, 66, 67, 68, 69, 70, 71, 72, 73, 74, 75, 76, 77, 78, 79, 80, 81, 82, 83, 84, 85, 86, 87, 88, 89, 90, 91, 92, 93, 94, 95, 96, 97, 98, 99, 100, 101, 102, 103, 104, 105, 106, 107, 108, 109, 110, 111, 112, 113, 114, 115, 116, 117, 118, 10, 119, 120, 121, 122, 123, 124, 125, 126, 127, 128, 129, 6, 7, 9, 130, 131, 132, 133, 134, 146, 147, 148, 149, 150, 151, 152, 153, 154, 155, 156, 157, 158] (by decide +kernel) (by decide +kernel)
set_option maxRecDepth 20000 in
theorem gX6_comesAsTold_X4_passMonths : GoodIn wsX6_comesAsTold (wsV RX6 165 RX4 yX4_passMonths wsX4_passMonths) := goodIn_app (goodIn_of _ (by decide +kernel)) ggX6_comesAsTold_X4_passMonths
theorem dX6_comesAsTold_0 : decode cX6_comesAsTold 0 = .ok (.iconst 0, 1) := by decide +kernel
theorem dX6_comesAsTold_1 : decode cX6_comesAsTold 1 = .ok (.istore_n 3, 1) := by decide +kernel
theorem dX6_comesAsTold_2 : decode cX6_comesAsTold 2 = .ok (.iload_n 3, 1) := by decide +kernel
theorem dX6_comesAsTold_3 : decode cX6_comesAsTold 3 = .ok (.aload_n 1, 1) := by decide +kernel
theorem dX6_comesAsTold_4 : decode cX6_comesAsTold 4 = .ok (.getfield 208, 3) := by decide +kernel
theorem dX6_comesAsTold_7 : decode cX6_comesAsTold 7 = .ok (.if_icmp .ge 42, 3) := by decide +kernel
theorem dX6_comesAsTold_10 : decode cX6_comesAsTold 10 = .ok (.aload_n 1, 1) := by decide +kernel
theorem dX6_comesAsTold_11 : decode cX6_comesAsTold 11 = .ok (.getfield 214, 3) := by decide +kernel
theorem dX6_comesAsTold_14 : decode cX6_comesAsTold 14 = .ok (.iload_n 3, 1) := by decide +kernel
theorem dX6_comesAsTold_15 : decode cX6_comesAsTold 15 = .ok (.laload, 1) := by decide +kernel
theorem dX6_comesAsTold_16 : decode cX6_comesAsTold 16 = .ok (.aload_n 0, 1) := by decide +kernel
theorem dX6_comesAsTold_17 : decode cX6_comesAsTold 17 = .ok (.getfield 19, 3) := by decide +kernel
theorem dX6_comesAsTold_20 : decode cX6_comesAsTold 20 = .ok (.iload_n 2, 1) := by decide +kernel
theorem dX6_comesAsTold_21 : decode cX6_comesAsTold 21 = .ok (.invokevirtual 176, 3) := by decide +kernel
theorem dX6_comesAsTold_24 : decode cX6_comesAsTold 24 = .ok (.i2l, 1) := by decide +kernel
theorem dX6_comesAsTold_25 : decode cX6_comesAsTold 25 = .ok (.lcmp, 1) := by decide +kernel
theorem dX6_comesAsTold_26 : decode cX6_comesAsTold 26 = .ok (.ifCond .eq 5, 3) := by decide +kernel
theorem dX6_comesAsTold_29 : decode cX6_comesAsTold 29 = .ok (.iconst 0, 1) := by decide +kernel
theorem dX6_comesAsTold_30 : decode cX6_comesAsTold 30 = .ok (.ireturn, 1) := by decide +kernel
theorem dX6_comesAsTold_31 : decode cX6_comesAsTold 31 = .ok (.aload_n 0, 1) := by decide +kernel
theorem dX6_comesAsTold_32 : decode cX6_comesAsTold 32 = .ok (.getfield 19, 3) := by decide +kernel
theorem dX6_comesAsTold_35 : decode cX6_comesAsTold 35 = .ok (.iconst 1, 1) := by decide +kernel
theorem dX6_comesAsTold_36 : decode cX6_comesAsTold 36 = .ok (.aload_n 0, 1) := by decide +kernel
theorem dX6_comesAsTold_37 : decode cX6_comesAsTold 37 = .ok (.getfield 25, 3) := by decide +kernel
theorem dX6_comesAsTold_40 : decode cX6_comesAsTold 40 = .ok (.invokevirtual 165, 3) := by decide +kernel
theorem dX6_comesAsTold_43 : decode cX6_comesAsTold 43 = .ok (.iinc 3 1, 3) := by decide +kernel
theorem dX6_comesAsTold_46 : decode cX6_comesAsTold 46 = .ok (.goto (-44), 3) := by decide +kernel
theorem dX6_comesAsTold_49 : decode cX6_comesAsTold 49 = .ok (.iconst 1, 1) := by decide +kernel
theorem dX6_comesAsTold_50 : decode cX6_comesAsTold 50 = .ok (.ireturn, 1) := by decide +kernel
set_option maxRecDepth 20000 in
theorem ggX6_unfitSheet_X6_isSheet : GoodIn wsX6_unfitSheet wsX6_isSheet := goodIn_r _ [7] (by decide +kernel) (by decide +kernel)
set_option maxRecDepth 20000 in
theorem gX6_unfitSheet_X6_isSheet : GoodIn wsX6_unfitSheet (va_wsS RX6 200 yX6_isSheet wsX6_isSheet) := goodIn_app (goodIn_of _ (by decide +kernel)) ggX6_unfitSheet_X6_isSheet
set_option maxRecDepth 20000 in
theorem ggX6_unfitSheet_X3_isMissing : GoodIn wsX6_unfitSheet wsX3_isMissing := goodIn_r _ [12, 13, 22, 23, 24] (by decide +kernel) (by decide +kernel)
set_option maxRecDepth 20000 in
theorem gX6_unfitSheet_X3_isMissing : GoodIn wsX6_unfitSheet (wsV RX6 221 RX3 yX3_isMissing wsX3_isMissing) := goodIn_app (goodIn_of _ (by decide +kernel)) ggX6_unfitSheet_X3_isMissing
theorem dX6_unfitSheet_0 : decode cX6_unfitSheet 0 = .ok (.iload_n 1, 1) := by decide +kernel
theorem dX6_unfitSheet_1 : decode cX6_unfitSheet 1 = .ok (.invokestatic 200, 3) := by decide +kernel
theorem dX6_unfitSheet_4 : decode cX6_unfitSheet 4 = .ok (.ifCond .ne 6, 3) := by decide +kernel
theorem dX6_unfitSheet_7 : decode cX6_unfitSheet 7 = .ok (.ldc 51, 2) := by decide +kernel
theorem dX6_unfitSheet_9 : decode cX6_unfitSheet 9 = .ok (.ireturn, 1) := by decide +kernel
theorem dX6_unfitSheet_10 : decode cX6_unfitSheet 10 = .ok (.aload_n 0, 1) := by decide +kernel
theorem dX6_unfitSheet_11 : decode cX6_unfitSheet 11 = .ok (.getfield 38, 3) := by decide +kernel
theorem dX6_unfitSheet_14 : decode cX6_unfitSheet 14 = .ok (.iload_n 1, 1) := by decide +kernel
theorem dX6_unfitSheet_15 : decode cX6_unfitSheet 15 = .ok (.aaload, 1) := by decide +kernel
theorem dX6_unfitSheet_16 : decode cX6_unfitSheet 16 = .ok (.invokevirtual 221, 3) := by decide +kernel
theorem dX6_unfitSheet_19 : decode cX6_unfitSheet 19 = .ok (.ifCond .eq 8, 3) := by decide +kernel
theorem dX6_unfitSheet_22 : decode cX6_unfitSheet 22 = .ok (.ldc 224, 2) := by decide +kernel
theorem dX6_unfitSheet_24 : decode cX6_unfitSheet 24 = .ok (.goto 4, 3) := by decide +kernel
theorem dX6_unfitSheet_27 : decode cX6_unfitSheet 27 = .ok (.iconst 0, 1) := by decide +kernel
theorem dX6_unfitSheet_28 : decode cX6_unfitSheet 28 = .ok (.ireturn, 1) := by decide +kernel
theorem dX6_isEnvoy_0 : decode cX6_isEnvoy 0 = .ok (.iload_n 1, 1) := by decide +kernel
theorem dX6_isEnvoy_1 : decode cX6_isEnvoy 1 = .ok (.ifCond .lt 18, 3) := by decide +kernel
theorem dX6_isEnvoy_4 : decode cX6_isEnvoy 4 = .ok (.iload_n 1, 1) := by decide +kernel
theorem dX6_isEnvoy_5 : decode cX6_isEnvoy 5 = .ok (.aload_n 0, 1) := by decide +kernel
theorem dX6_isEnvoy_6 : decode cX6_isEnvoy 6 = .ok (.getfield 10, 3) := by decide +kernel
theorem dX6_isEnvoy_9 : decode cX6_isEnvoy 9 = .ok (.getfield 102, 3) := by decide +kernel
theorem dX6_isEnvoy_12 : decode cX6_isEnvoy 12 = .ok (.if_icmp .ge 7, 3) := by decide +kernel
theorem dX6_isEnvoy_15 : decode cX6_isEnvoy 15 = .ok (.iconst 1, 1) := by decide +kernel
theorem dX6_isEnvoy_16 : decode cX6_isEnvoy 16 = .ok (.goto 4, 3) := by decide +kernel
theorem dX6_isEnvoy_19 : decode cX6_isEnvoy 19 = .ok (.iconst 0, 1) := by decide +kernel
theorem dX6_isEnvoy_20 : decode cX6_isEnvoy 20 = .ok (.ireturn, 1) := by decide +kernel
theorem dX6_isWithin_0 : decode cX6_isWithin 0 = .ok (.iload_n 0, 1) := by decide +kernel
theorem dX6_isWithin_1 : decode cX6_isWithin 1 = .ok (.iload_n 1, 1) := by decide +kernel
theorem dX6_isWithin_2 : decode cX6_isWithin 2 = .ok (.if_icmp .lt 12, 3) := by decide +kernel
theorem dX6_isWithin_5 : decode cX6_isWithin 5 = .ok (.iload_n 0, 1) := by decide +kernel
theorem dX6_isWithin_6 : decode cX6_isWithin 6 = .ok (.iload_n 2, 1) := by decide +kernel
theorem dX6_isWithin_7 : decode cX6_isWithin 7 = .ok (.if_icmp .gt 7, 3) := by decide +kernel
theorem dX6_isWithin_10 : decode cX6_isWithin 10 = .ok (.iconst 1, 1) := by decide +kernel
theorem dX6_isWithin_11 : decode cX6_isWithin 11 = .ok (.goto 4, 3) := by decide +kernel
theorem dX6_isWithin_14 : decode cX6_isWithin 14 = .ok (.iconst 0, 1) := by decide +kernel
theorem dX6_isWithin_15 : decode cX6_isWithin 15 = .ok (.ireturn, 1) := by decide +kernel
theorem dX6_isState_0 : decode cX6_isState 0 = .ok (.iload_n 0, 1) := by decide +kernel
theorem dX6_isState_1 : decode cX6_isState 1 = .ok (.ifCond .eq 8, 3) := by decide +kernel
theorem dX6_isState_4 : decode cX6_isState 4 = .ok (.iload_n 0, 1) := by decide +kernel
theorem dX6_isState_5 : decode cX6_isState 5 = .ok (.iconst 1, 1) := by decide +kernel
theorem dX6_isState_6 : decode cX6_isState 6 = .ok (.if_icmp .ne 7, 3) := by decide +kernel
theorem dX6_isState_9 : decode cX6_isState 9 = .ok (.iconst 1, 1) := by decide +kernel
theorem dX6_isState_10 : decode cX6_isState 10 = .ok (.goto 4, 3) := by decide +kernel
theorem dX6_isState_13 : decode cX6_isState 13 = .ok (.iconst 0, 1) := by decide +kernel
theorem dX6_isState_14 : decode cX6_isState 14 = .ok (.ireturn, 1) := by decide +kernel
theorem dX6_isStateOrNobody_0 : decode cX6_isStateOrNobody 0 = .ok (.iload_n 0, 1) := by decide +kernel
theorem dX6_isStateOrNobody_1 : decode cX6_isStateOrNobody 1 = .ok (.iconst (-1), 1) := by decide +kernel
theorem dX6_isStateOrNobody_2 : decode cX6_isStateOrNobody 2 = .ok (.if_icmp .lt 12, 3) := by decide +kernel
theorem dX6_isStateOrNobody_5 : decode cX6_isStateOrNobody 5 = .ok (.iload_n 0, 1) := by decide +kernel
theorem dX6_isStateOrNobody_6 : decode cX6_isStateOrNobody 6 = .ok (.iconst 1, 1) := by decide +kernel
theorem dX6_isStateOrNobody_7 : decode cX6_isStateOrNobody 7 = .ok (.if_icmp .gt 7, 3) := by decide +kernel
theorem dX6_isStateOrNobody_10 : decode cX6_isStateOrNobody 10 = .ok (.iconst 1, 1) := by decide +kernel
theorem dX6_isStateOrNobody_11 : decode cX6_isStateOrNobody 11 = .ok (.goto 4, 3) := by decide +kernel
theorem dX6_isStateOrNobody_14 : decode cX6_isStateOrNobody 14 = .ok (.iconst 0, 1) := by decide +kernel
theorem dX6_isStateOrNobody_15 : decode cX6_isStateOrNobody 15 = .ok (.ireturn, 1) := by decide +kernel
theorem dX6_isProvince_0 : decode cX6_isProvince 0 = .ok (.iload_n 0, 1) := by decide +kernel
theorem dX6_isProvince_1 : decode cX6_isProvince 1 = .ok (.ifCond .lt 13, 3) := by decide +kernel
theorem dX6_isProvince_4 : decode cX6_isProvince 4 = .ok (.iload_n 0, 1) := by decide +kernel
theorem dX6_isProvince_5 : decode cX6_isProvince 5 = .ok (.bipush 8, 2) := by decide +kernel
theorem dX6_isProvince_7 : decode cX6_isProvince 7 = .ok (.if_icmp .ge 7, 3) := by decide +kernel
theorem dX6_isProvince_10 : decode cX6_isProvince 10 = .ok (.iconst 1, 1) := by decide +kernel
theorem dX6_isProvince_11 : decode cX6_isProvince 11 = .ok (.goto 4, 3) := by decide +kernel
theorem dX6_isProvince_14 : decode cX6_isProvince 14 = .ok (.iconst 0, 1) := by decide +kernel
theorem dX6_isProvince_15 : decode cX6_isProvince 15 = .ok (.ireturn, 1) := by decide +kernel
theorem dX6_isKind_0 : decode cX6_isKind 0 = .ok (.iload_n 0, 1) := by decide +kernel
theorem dX6_isKind_1 : decode cX6_isKind 1 = .ok (.ifCond .lt 13, 3) := by decide +kernel
theorem dX6_isKind_4 : decode cX6_isKind 4 = .ok (.iload_n 0, 1) := by decide +kernel
theorem dX6_isKind_5 : decode cX6_isKind 5 = .ok (.bipush 6, 2) := by decide +kernel
theorem dX6_isKind_7 : decode cX6_isKind 7 = .ok (.if_icmp .ge 7, 3) := by decide +kernel
theorem dX6_isKind_10 : decode cX6_isKind 10 = .ok (.iconst 1, 1) := by decide +kernel
theorem dX6_isKind_11 : decode cX6_isKind 11 = .ok (.goto 4, 3) := by decide +kernel
theorem dX6_isKind_14 : decode cX6_isKind 14 = .ok (.iconst 0, 1) := by decide +kernel
theorem dX6_isKind_15 : decode cX6_isKind 15 = .ok (.ireturn, 1) := by decide +kernel
theorem dX6_isSheet_0 : decode cX6_isSheet 0 = .ok (.iload_n 0, 1) := by decide +kernel
theorem dX6_isSheet_1 : decode cX6_isSheet 1 = .ok (.ifCond .lt 12, 3) := by decide +kernel
theorem dX6_isSheet_4 : decode cX6_isSheet 4 = .ok (.iload_n 0, 1) := by decide +kernel
theorem dX6_isSheet_5 : decode cX6_isSheet 5 = .ok (.iconst 4, 1) := by decide +kernel
theorem dX6_isSheet_6 : decode cX6_isSheet 6 = .ok (.if_icmp .ge 7, 3) := by decide +kernel
theorem dX6_isSheet_9 : decode cX6_isSheet 9 = .ok (.iconst 1, 1) := by decide +kernel
theorem dX6_isSheet_10 : decode cX6_isSheet 10 = .ok (.goto 4, 3) := by decide +kernel
theorem dX6_isSheet_13 : decode cX6_isSheet 13 = .ok (.iconst 0, 1) := by decide +kernel
theorem dX6_isSheet_14 : decode cX6_isSheet 14 = .ok (.ireturn, 1) := by decide +kernel
theorem dX6_isMix_0 : decode cX6_isMix 0 = .ok (.iload_n 0, 1) := by decide +kernel
theorem dX6_isMix_1 : decode cX6_isMix 1 = .ok (.iconst 1, 1) := by decide +kernel
theorem dX6_isMix_2 : decode cX6_isMix 2 = .ok (.if_icmp .lt 20, 3) := by decide +kernel
theorem dX6_isMix_5 : decode cX6_isMix 5 = .ok (.iload_n 0, 1) := by decide +kernel
theorem dX6_isMix_6 : decode cX6_isMix 6 = .ok (.bipush 31, 2) := by decide +kernel
theorem dX6_isMix_8 : decode cX6_isMix 8 = .ok (.if_icmp .gt 14, 3) := by decide +kernel
theorem dX6_isMix_11 : decode cX6_isMix 11 = .ok (.iload_n 0, 1) := by decide +kernel
theorem dX6_isMix_12 : decode cX6_isMix 12 = .ok (.iconst 2, 1) := by decide +kernel
theorem dX6_isMix_13 : decode cX6_isMix 13 = .ok (.irem, 1) := by decide +kernel
theorem dX6_isMix_14 : decode cX6_isMix 14 = .ok (.iconst 1, 1) := by decide +kernel
theorem dX6_isMix_15 : decode cX6_isMix 15 = .ok (.if_icmp .ne 7, 3) := by decide +kernel
theorem dX6_isMix_18 : decode cX6_isMix 18 = .ok (.iconst 1, 1) := by decide +kernel
theorem dX6_isMix_19 : decode cX6_isMix 19 = .ok (.goto 4, 3) := by decide +kernel
theorem dX6_isMix_22 : decode cX6_isMix 22 = .ok (.iconst 0, 1) := by decide +kernel
theorem dX6_isMix_23 : decode cX6_isMix 23 = .ok (.ireturn, 1) := by decide +kernel
theorem dX7_init_0 : decode cX7_init 0 = .ok (.aload_n 0, 1) := by decide +kernel
theorem dX7_init_1 : decode cX7_init 1 = .ok (.invokespecial 3, 3) := by decide +kernel
theorem dX7_init_4 : decode cX7_init 4 = .ok (.aload_n 0, 1) := by decide +kernel
theorem dX7_init_5 : decode cX7_init 5 = .ok (.bipush 31, 2) := by decide +kernel
theorem dX7_init_7 : decode cX7_init 7 = .ok (.newarray .int, 2) := by decide +kernel
theorem dX7_init_9 : decode cX7_init 9 = .ok (.putfield 9, 3) := by decide +kernel
theorem dX7_init_12 : decode cX7_init 12 = .ok (.aload_n 0, 1) := by decide +kernel
theorem dX7_init_13 : decode cX7_init 13 = .ok (.bipush 31, 2) := by decide +kernel
theorem dX7_init_15 : decode cX7_init 15 = .ok (.newarray .int, 2) := by decide +kernel
theorem dX7_init_17 : decode cX7_init 17 = .ok (.putfield 13, 3) := by decide +kernel
theorem dX7_init_20 : decode cX7_init 20 = .ok (.aload_n 0, 1) := by decide +kernel
theorem dX7_init_21 : decode cX7_init 21 = .ok (.bipush 31, 2) := by decide +kernel
theorem dX7_init_23 : decode cX7_init 23 = .ok (.newarray .int, 2) := by decide +kernel
theorem dX7_init_25 : decode cX7_init 25 = .ok (.putfield 16, 3) := by decide +kernel
theorem dX7_init_28 : decode cX7_init 28 = .ok (.aload_n 0, 1) := by decide +kernel
theorem dX7_init_29 : decode cX7_init 29 = .ok (.bipush 7, 2) := by decide +kernel
theorem dX7_init_31 : decode cX7_init 31 = .ok (.newarray .int, 2) := by decide +kernel
theorem dX7_init_33 : decode cX7_init 33 = .ok (.putfield 19, 3) := by decide +kernel
theorem dX7_init_36 : decode cX7_init 36 = .ok (.aload_n 0, 1) := by decide +kernel
theorem dX7_init_37 : decode cX7_init 37 = .ok (.bipush 16, 2) := by decide +kernel
theorem dX7_init_39 : decode cX7_init 39 = .ok (.newarray .int, 2) := by decide +kernel
theorem dX7_init_41 : decode cX7_init 41 = .ok (.putfield 22, 3) := by decide +kernel
theorem dX7_init_44 : decode cX7_init 44 = .ok (.aload_n 0, 1) := by decide +kernel
theorem dX7_init_45 : decode cX7_init 45 = .ok (.iconst 2, 1) := by decide +kernel
theorem dX7_init_46 : decode cX7_init 46 = .ok (.newarray .int, 2) := by decide +kernel
theorem dX7_init_48 : decode cX7_init 48 = .ok (.putfield 25, 3) := by decide +kernel
theorem dX7_init_51 : decode cX7_init 51 = .ok (.aload_n 0, 1) := by decide +kernel
theorem dX7_init_52 : decode cX7_init 52 = .ok (.bipush 120, 2) := by decide +kernel
theorem dX7_init_54 : decode cX7_init 54 = .ok (.newarray .int, 2) := by decide +kernel
theorem dX7_init_56 : decode cX7_init 56 = .ok (.putfield 28, 3) := by decide +kernel
theorem dX7_init_59 : decode cX7_init 59 = .ok (.aload_n 0, 1) := by decide +kernel
theorem dX7_init_60 : decode cX7_init 60 = .ok (.iconst 4, 1) := by decide +kernel
theorem dX7_init_61 : decode cX7_init 61 = .ok (.newarray .int, 2) := by decide +kernel
theorem dX7_init_63 : decode cX7_init 63 = .ok (.putfield 31, 3) := by decide +kernel
theorem dX7_init_66 : decode cX7_init 66 = .ok (.aload_n 0, 1) := by decide +kernel
theorem dX7_init_67 : decode cX7_init 67 = .ok (.iconst 4, 1) := by decide +kernel
theorem dX7_init_68 : decode cX7_init 68 = .ok (.newarray .int, 2) := by decide +kernel
theorem dX7_init_70 : decode cX7_init 70 = .ok (.putfield 34, 3) := by decide +kernel
theorem dX7_init_73 : decode cX7_init 73 = .ok (.aload_n 0, 1) := by decide +kernel
theorem dX7_init_74 : decode cX7_init 74 = .ok (.sipush 160, 3) := by decide +kernel
theorem dX7_init_77 : decode cX7_init 77 = .ok (.newarray .long, 2) := by decide +kernel
theorem dX7_init_79 : decode cX7_init 79 = .ok (.putfield 37, 3) := by decide +kernel
theorem dX7_init_82 : decode cX7_init 82 = .ok (.aload_n 0, 1) := by decide +kernel
theorem dX7_init_83 : decode cX7_init 83 = .ok (.getfield 9, 3) := by decide +kernel
theorem dX7_init_86 : decode cX7_init 86 = .ok (.iconst 1, 1) := by decide +kernel
theorem dX7_init_87 : decode cX7_init 87 = .ok (.iconst 5, 1) := by decide +kernel
theorem dX7_init_88 : decode cX7_init 88 = .ok (.iastore, 1) := by decide +kernel
theorem dX7_init_89 : decode cX7_init 89 = .ok (.iconst 0, 1) := by decide +kernel
theorem dX7_init_90 : decode cX7_init 90 = .ok (.istore_n 1, 1) := by decide +kernel
theorem dX7_init_91 : decode cX7_init 91 = .ok (.iload_n 1, 1) := by decide +kernel
theorem dX7_init_92 : decode cX7_init 92 = .ok (.iconst 2, 1) := by decide +kernel
theorem dX7_init_93 : decode cX7_init 93 = .ok (.if_icmp .ge 28, 3) := by decide +kernel
theorem dX7_init_96 : decode cX7_init 96 = .ok (.aload_n 0, 1) := by decide +kernel
theorem dX7_init_97 : decode cX7_init 97 = .ok (.getfield 9, 3) := by decide +kernel
theorem dX7_init_100 : decode cX7_init 100 = .ok (.iconst 3, 1) := by decide +kernel
theorem dX7_init_101 : decode cX7_init 101 = .ok (.iload_n 1, 1) := by decide +kernel
theorem dX7_init_102 : decode cX7_init 102 = .ok (.iadd, 1) := by decide +kernel
theorem dX7_init_103 : decode cX7_init 103 = .ok (.iconst (-1), 1) := by decide +kernel
theorem dX7_init_104 : decode cX7_init 104 = .ok (.iastore, 1) := by decide +kernel
theorem dX7_init_105 : decode cX7_init 105 = .ok (.aload_n 0, 1) := by decide +kernel
theorem dX7_init_106 : decode cX7_init 106 = .ok (.getfield 9, 3) := by decide +kernel
theorem dX7_init_109 : decode cX7_init 109 = .ok (.iconst 5, 1) := by decide +kernel
theorem dX7_init_110 : decode cX7_init 110 = .ok (.iload_n 1, 1) := by decide +kernel
theorem dX7_init_111 : decode cX7_init 111 = .ok (.iadd, 1) := by decide +kernel
theorem dX7_init_112 : decode cX7_init 112 = .ok (.bipush 50, 2) := by decide +kernel
theorem dX7_init_114 : decode cX7_init 114 = .ok (.iastore, 1) := by decide +kernel
theorem dX7_init_115 : decode cX7_init 115 = .ok (.iinc 1 1, 3) := by decide +kernel
theorem dX7_init_118 : decode cX7_init 118 = .ok (.goto (-27), 3) := by decide +kernel
theorem dX7_init_121 : decode cX7_init 121 = .ok (.iconst 0, 1) := by decide +kernel
theorem dX7_init_122 : decode cX7_init 122 = .ok (.istore_n 1, 1) := by decide +kernel
theorem dX7_init_123 : decode cX7_init 123 = .ok (.iload_n 1, 1) := by decide +kernel
theorem dX7_init_124 : decode cX7_init 124 = .ok (.bipush 8, 2) := by decide +kernel
theorem dX7_init_126 : decode cX7_init 126 = .ok (.if_icmp .ge 19, 3) := by decide +kernel
theorem dX7_init_129 : decode cX7_init 129 = .ok (.aload_n 0, 1) := by decide +kernel
theorem dX7_init_130 : decode cX7_init 130 = .ok (.getfield 9, 3) := by decide +kernel
theorem dX7_init_133 : decode cX7_init 133 = .ok (.bipush 7, 2) := by decide +kernel
theorem dX7_init_135 : decode cX7_init 135 = .ok (.iload_n 1, 1) := by decide +kernel
theorem dX7_init_136 : decode cX7_init 136 = .ok (.iadd, 1) := by decide +kernel
theorem dX7_init_137 : decode cX7_init 137 = .ok (.iconst (-1), 1) := by decide +kernel
theorem dX7_init_138 : decode cX7_init 138 = .ok (.iastore, 1) := by decide +kernel
theorem dX7_init_139 : decode cX7_init 139 = .ok (.iinc 1 1, 3) := by decide +kernel
theorem dX7_init_142 : decode cX7_init 142 = .ok (.goto (-19), 3) := by decide +kernel
theorem dX7_init_145 : decode cX7_init 145 = .ok (.return_, 1) := by decide +kernel
theorem dX7_finds_0 : decode cX7_finds 0 = .ok (.aload_n 0, 1) := by decide +kernel
theorem dX7_finds_1 : decode cX7_finds 1 = .ok (.getfield 19, 3) := by decide +kernel
theorem dX7_finds_4 : decode cX7_finds 4 = .ok (.ldc 41, 2) := by decide +kernel
theorem dX7_finds_6 : decode cX7_finds 6 = .ok (.iload_n 1, 1) := by decide +kernel
theorem dX7_finds_7 : decode cX7_finds 7 = .ok (.isub, 1) := by decide +kernel
theorem dX7_finds_8 : decode cX7_finds 8 = .ok (.dup2, 1) := by decide +kernel
theorem dX7_finds_9 : decode cX7_finds 9 = .ok (.iaload, 1) := by decide +kernel
theorem dX7_finds_10 : decode cX7_finds 10 = .ok (.iconst 1, 1) := by decide +kernel
theorem dX7_finds_11 : decode cX7_finds 11 = .ok (.iadd, 1) := by decide +kernel
theorem dX7_finds_12 : decode cX7_finds 12 = .ok (.iastore, 1) := by decide +kernel
theorem dX7_finds_13 : decode cX7_finds 13 = .ok (.iload_n 1, 1) := by decide +kernel
theorem dX7_finds_14 : decode cX7_finds 14 = .ok (.ireturn, 1) := by decide +kernel
set_option maxRecDepth 20000 in
theorem ggX7_orNone_X7_finds : GoodIn wsX7_orNone wsX7_finds := goodIn_r _ [6, 7, 8, 9, 10, 11, 12, 13, 14, 15, 16, 17, 18, 19, 20, 21, 22, 23, 24, 25] (by decide +kernel) (by decide +kernel)
set_option maxRecDepth 20000 in
theorem gX7_orNone_X7_finds : GoodIn wsX7_orNone (wsV RX7 43 RX7 yX7_finds wsX7_finds) := goodIn_app (goodIn_of _ (by decide +kernel)) ggX7_orNone_X7_finds
theorem dX7_orNone_0 : decode cX7_orNone 0 = .ok (.iload_n 1, 1) := by decide +kernel
theorem dX7_orNone_1 : decode cX7_orNone 1 = .ok (.ifCond .ge 12, 3) := by decide +kernel
theorem dX7_orNone_4 : decode cX7_orNone 4 = .ok (.aload_n 0, 1) := by decide +kernel
theorem dX7_orNone_5 : decode cX7_orNone 5 = .ok (.ldc 42, 2) := by decide +kernel
theorem dX7_orNone_7 : decode cX7_orNone 7 = .ok (.invokevirtual 43, 3) := by decide +kernel
theorem dX7_orNone_10 : decode cX7_orNone 10 = .ok (.goto 4, 3) := by decide +kernel
theorem dX7_orNone_13 : decode cX7_orNone 13 = .ok (.iload_n 1, 1) := by decide +kernel
theorem dX7_orNone_14 : decode cX7_orNone 14 = .ok (.ireturn, 1) := by decide +kernel
theorem dX7_in_0 : decode cX7_in 0 = .ok (.lload_n 0, 1) := by decide +kernel
theorem dX7_in_1 : decode cX7_in 1 = .ok (.iload_n 2, 1) := by decide +kernel
theorem dX7_in_2 : decode cX7_in 2 = .ok (.i2l, 1) := by decide +kernel
theorem dX7_in_3 : decode cX7_in 3 = .ok (.lcmp, 1) := by decide +kernel
theorem dX7_in_4 : decode cX7_in 4 = .ok (.ifCond .lt 14, 3) := by decide +kernel
theorem dX7_in_7 : decode cX7_in 7 = .ok (.lload_n 0, 1) := by decide +kernel
theorem dX7_in_8 : decode cX7_in 8 = .ok (.iload_n 3, 1) := by decide +kernel
theorem dX7_in_9 : decode cX7_in 9 = .ok (.i2l, 1) := by decide +kernel
theorem dX7_in_10 : decode cX7_in 10 = .ok (.lcmp, 1) := by decide +kernel
theorem dX7_in_11 : decode cX7_in 11 = .ok (.ifCond .gt 7, 3) := by decide +kernel
theorem dX7_in_14 : decode cX7_in 14 = .ok (.iconst 1, 1) := by decide +kernel
theorem dX7_in_15 : decode cX7_in 15 = .ok (.goto 4, 3) := by decide +kernel
theorem dX7_in_18 : decode cX7_in 18 = .ok (.iconst 0, 1) := by decide +kernel
theorem dX7_in_19 : decode cX7_in 19 = .ok (.ireturn, 1) := by decide +kernel
theorem dX7_held_0 : decode cX7_held 0 = .ok (.iload_n 0, 1) := by decide +kernel
theorem dX7_held_1 : decode cX7_held 1 = .ok (.iload_n 1, 1) := by decide +kernel
theorem dX7_held_2 : decode cX7_held 2 = .ok (.if_icmp .ge 7, 3) := by decide +kernel
theorem dX7_held_5 : decode cX7_held 5 = .ok (.iload_n 1, 1) := by decide +kernel
theorem dX7_held_6 : decode cX7_held 6 = .ok (.goto 13, 3) := by decide +kernel
theorem dX7_held_9 : decode cX7_held 9 = .ok (.iload_n 0, 1) := by decide +kernel
theorem dX7_held_10 : decode cX7_held 10 = .ok (.iload_n 2, 1) := by decide +kernel
theorem dX7_held_11 : decode cX7_held 11 = .ok (.if_icmp .le 7, 3) := by decide +kernel
theorem dX7_held_14 : decode cX7_held 14 = .ok (.iload_n 2, 1) := by decide +kernel
theorem dX7_held_15 : decode cX7_held 15 = .ok (.goto 4, 3) := by decide +kernel
theorem dX7_held_18 : decode cX7_held 18 = .ok (.iload_n 0, 1) := by decide +kernel
theorem dX7_held_19 : decode cX7_held 19 = .ok (.ireturn, 1) := by decide +kernel
theorem dX7_copyAll_0 : decode cX7_copyAll 0 = .ok (.iconst 0, 1) := by decide +kernel
theorem dX7_copyAll_1 : decode cX7_copyAll 1 = .ok (.istore_n 2, 1) := by decide +kernel
theorem dX7_copyAll_2 : decode cX7_copyAll 2 = .ok (.iload_n 2, 1) := by decide +kernel
theorem dX7_copyAll_3 : decode cX7_copyAll 3 = .ok (.bipush 31, 2) := by decide +kernel
theorem dX7_copyAll_5 : decode cX7_copyAll 5 = .ok (.if_icmp .ge 15, 3) := by decide +kernel
theorem dX7_copyAll_8 : decode cX7_copyAll 8 = .ok (.aload_n 1, 1) := by decide +kernel
theorem dX7_copyAll_9 : decode cX7_copyAll 9 = .ok (.iload_n 2, 1) := by decide +kernel
theorem dX7_copyAll_10 : decode cX7_copyAll 10 = .ok (.aload_n 0, 1) := by decide +kernel
theorem dX7_copyAll_11 : decode cX7_copyAll 11 = .ok (.iload_n 2, 1) := by decide +kernel
theorem dX7_copyAll_12 : decode cX7_copyAll 12 = .ok (.iaload, 1) := by decide +kernel
theorem dX7_copyAll_13 : decode cX7_copyAll 13 = .ok (.iastore, 1) := by decide +kernel
theorem dX7_copyAll_14 : decode cX7_copyAll 14 = .ok (.iinc 2 1, 3) := by decide +kernel
theorem dX7_copyAll_17 : decode cX7_copyAll 17 = .ok (.goto (-15), 3) := by decide +kernel
theorem dX7_copyAll_20 : decode cX7_copyAll 20 = .ok (.return_, 1) := by decide +kernel
theorem dX7_bits_0 : decode cX7_bits 0 = .ok (.iconst 0, 1) := by decide +kernel
theorem dX7_bits_1 : decode cX7_bits 1 = .ok (.istore_n 1, 1) := by decide +kernel
theorem dX7_bits_2 : decode cX7_bits 2 = .ok (.iload_n 0, 1) := by decide +kernel
theorem dX7_bits_3 : decode cX7_bits 3 = .ok (.istore_n 2, 1) := by decide +kernel
theorem dX7_bits_4 : decode cX7_bits 4 = .ok (.iload_n 2, 1) := by decide +kernel
theorem dX7_bits_5 : decode cX7_bits 5 = .ok (.ifCond .eq 15, 3) := by decide +kernel
theorem dX7_bits_8 : decode cX7_bits 8 = .ok (.iinc 1 1, 3) := by decide +kernel
theorem dX7_bits_11 : decode cX7_bits 11 = .ok (.iload_n 2, 1) := by decide +kernel
theorem dX7_bits_12 : decode cX7_bits 12 = .ok (.iload_n 2, 1) := by decide +kernel
theorem dX7_bits_13 : decode cX7_bits 13 = .ok (.iconst 1, 1) := by decide +kernel
theorem dX7_bits_14 : decode cX7_bits 14 = .ok (.isub, 1) := by decide +kernel
theorem dX7_bits_15 : decode cX7_bits 15 = .ok (.iand, 1) := by decide +kernel
theorem dX7_bits_16 : decode cX7_bits 16 = .ok (.istore_n 2, 1) := by decide +kernel
theorem dX7_bits_17 : decode cX7_bits 17 = .ok (.goto (-13), 3) := by decide +kernel
theorem dX7_bits_20 : decode cX7_bits 20 = .ok (.iload_n 1, 1) := by decide +kernel
theorem dX7_bits_21 : decode cX7_bits 21 = .ok (.ireturn, 1) := by decide +kernel
theorem dX7_becomes_0 : decode cX7_becomes 0 = .ok (.aload_n 0, 1) := by decide +kernel
theorem dX7_becomes_1 : decode cX7_becomes 1 = .ok (.getfield 9, 3) := by decide +kernel
theorem dX7_becomes_4 : decode cX7_becomes 4 = .ok (.iload_n 1, 1) := by decide +kernel
theorem dX7_becomes_5 : decode cX7_becomes 5 = .ok (.iaload, 1) := by decide +kernel
theorem dX7_becomes_6 : decode cX7_becomes 6 = .ok (.istore_n 3, 1) := by decide +kernel
theorem dX7_becomes_7 : decode cX7_becomes 7 = .ok (.aload_n 0, 1) := by decide +kernel
theorem dX7_becomes_8 : decode cX7_becomes 8 = .ok (.getfield 9, 3) := by decide +kernel
theorem dX7_becomes_11 : decode cX7_becomes 11 = .ok (.iload_n 1, 1) := by decide +kernel
theorem dX7_becomes_12 : decode cX7_becomes 12 = .ok (.iload_n 2, 1) := by decide +kernel
theorem dX7_becomes_13 : decode cX7_becomes 13 = .ok (.iastore, 1) := by decide +kernel
theorem dX7_becomes_14 : decode cX7_becomes 14 = .ok (.iload_n 3, 1) := by decide +kernel
theorem dX7_becomes_15 : decode cX7_becomes 15 = .ok (.ireturn, 1) := by decide +kernel
set_option maxRecDepth 20000 in
theorem ggX7_isEnvoy_X7_in : GoodIn wsX7_isEnvoy wsX7_in := goodIn_r _ [5] (by decide +kernel) (by decide +kernel)
set_option maxRecDepth 20000 in
theorem gX7_isEnvoy_X7_in : GoodIn wsX7_isEnvoy (va_wsS RX7 47 yX7_in wsX7_in) := goodIn_app (goodIn_of _ (by decide +kernel)) ggX7_isEnvoy_X7_in
theorem dX7_isEnvoy_0 : decode cX7_isEnvoy 0 = .ok (.iload_n 1, 1) := by decide +kernel
theorem dX7_isEnvoy_1 : decode cX7_isEnvoy 1 = .ok (.i2l, 1) := by decide +kernel
theorem dX7_isEnvoy_2 : decode cX7_isEnvoy 2 = .ok (.iconst 0, 1) := by decide +kernel
theorem dX7_isEnvoy_3 : decode cX7_isEnvoy 3 = .ok (.aload_n 0, 1) := by decide +kernel
theorem dX7_isEnvoy_4 : decode cX7_isEnvoy 4 = .ok (.getfield 9, 3) := by decide +kernel
theorem dX7_isEnvoy_7 : decode cX7_isEnvoy 7 = .ok (.iconst 2, 1) := by decide +kernel
theorem dX7_isEnvoy_8 : decode cX7_isEnvoy 8 = .ok (.iaload, 1) := by decide +kernel
theorem dX7_isEnvoy_9 : decode cX7_isEnvoy 9 = .ok (.iconst 1, 1) := by decide +kernel
theorem dX7_isEnvoy_10 : decode cX7_isEnvoy 10 = .ok (.isub, 1) := by decide +kernel
theorem dX7_isEnvoy_11 : decode cX7_isEnvoy 11 = .ok (.invokestatic 47, 3) := by decide +kernel
theorem dX7_isEnvoy_14 : decode cX7_isEnvoy 14 = .ok (.ireturn, 1) := by decide +kernel
set_option maxRecDepth 20000 in
theorem ggX7_isLand_X7_in : GoodIn wsX7_isLand wsX7_in := goodIn_r _ [4] (by decide +kernel) (by decide +kernel)
set_option maxRecDepth 20000 in
theorem gX7_isLand_X7_in : GoodIn wsX7_isLand (va_wsS RX7 47 yX7_in wsX7_in) := goodIn_app (goodIn_of _ (by decide +kernel)) ggX7_isLand_X7_in
theorem dX7_isLand_0 : decode cX7_isLand 0 = .ok (.iload_n 0, 1) := by decide +kernel
theorem dX7_isLand_1 : decode cX7_isLand 1 = .ok (.i2l, 1) := by decide +kernel
theorem dX7_isLand_2 : decode cX7_isLand 2 = .ok (.iconst 0, 1) := by decide +kernel
theorem dX7_isLand_3 : decode cX7_isLand 3 = .ok (.bipush 7, 2) := by decide +kernel
theorem dX7_isLand_5 : decode cX7_isLand 5 = .ok (.invokestatic 47, 3) := by decide +kernel
theorem dX7_isLand_8 : decode cX7_isLand 8 = .ok (.ireturn, 1) := by decide +kernel
set_option maxRecDepth 20000 in
theorem ggX7_isState_X7_in : GoodIn wsX7_isState wsX7_in := goodIn_r _ [4] (by decide +kernel) (by decide +kernel)
set_option maxRecDepth 20000 in
theorem gX7_isState_X7_in : GoodIn wsX7_isState (va_wsS RX7 47 yX7_in wsX7_in) := goodIn_app (goodIn_of _ (by decide +kernel)) ggX7_isState_X7_in
theorem dX7_isState_0 : decode cX7_isState 0 = .ok (.iload_n 0, 1) := by decide +kernel
theorem dX7_isState_1 : decode cX7_isState 1 = .ok (.i2l, 1) := by decide +kernel
theorem dX7_isState_2 : decode cX7_isState 2 = .ok (.iconst 0, 1) := by decide +kernel
theorem dX7_isState_3 : decode cX7_isState 3 = .ok (.iconst 1, 1) := by decide +kernel
theorem dX7_isState_4 : decode cX7_isState 4 = .ok (.invokestatic 47, 3) := by decide +kernel
theorem dX7_isState_7 : decode cX7_isState 7 = .ok (.ireturn, 1) := by decide +kernel
theorem dX7_it_0 : decode cX7_it 0 = .ok (.aload_n 0, 1) := by decide +kernel
theorem dX7_it_1 : decode cX7_it 1 = .ok (.getfield 9, 3) := by decide +kernel
theorem dX7_it_4 : decode cX7_it 4 = .ok (.bipush 15, 2) := by decide +kernel
theorem dX7_it_6 : decode cX7_it 6 = .ok (.iconst 2, 1) := by decide +kernel
theorem dX7_it_7 : decode cX7_it 7 = .ok (.iload_n 1, 1) := by decide +kernel
theorem dX7_it_8 : decode cX7_it 8 = .ok (.imul, 1) := by decide +kernel
theorem dX7_it_9 : decode cX7_it 9 = .ok (.iadd, 1) := by decide +kernel
theorem dX7_it_10 : decode cX7_it 10 = .ok (.iload_n 2, 1) := by decide +kernel
theorem dX7_it_11 : decode cX7_it 11 = .ok (.iadd, 1) := by decide +kernel
theorem dX7_it_12 : decode cX7_it 12 = .ok (.iaload, 1) := by decide +kernel
theorem dX7_it_13 : decode cX7_it 13 = .ok (.ireturn, 1) := by decide +kernel
set_option maxRecDepth 20000 in
theorem ggX7_isMix_X7_in : GoodIn wsX7_isMix wsX7_in := goodIn_r _ [4] (by decide +kernel) (by decide +kernel)
set_option maxRecDepth 20000 in
theorem gX7_isMix_X7_in : GoodIn wsX7_isMix (va_wsS RX7 47 yX7_in wsX7_in) := goodIn_app (goodIn_of _ (by decide +kernel)) ggX7_isMix_X7_in
theorem dX7_isMix_0 : decode cX7_isMix 0 = .ok (.iload_n 0, 1) := by decide +kernel
theorem dX7_isMix_1 : decode cX7_isMix 1 = .ok (.i2l, 1) := by decide +kernel
theorem dX7_isMix_2 : decode cX7_isMix 2 = .ok (.iconst 1, 1) := by decide +kernel
theorem dX7_isMix_3 : decode cX7_isMix 3 = .ok (.bipush 31, 2) := by decide +kernel
theorem dX7_isMix_5 : decode cX7_isMix 5 = .ok (.invokestatic 47, 3) := by decide +kernel
theorem dX7_isMix_8 : decode cX7_isMix 8 = .ok (.ifCond .eq 14, 3) := by decide +kernel
theorem dX7_isMix_11 : decode cX7_isMix 11 = .ok (.iload_n 0, 1) := by decide +kernel
theorem dX7_isMix_12 : decode cX7_isMix 12 = .ok (.iconst 2, 1) := by decide +kernel
theorem dX7_isMix_13 : decode cX7_isMix 13 = .ok (.irem, 1) := by decide +kernel
theorem dX7_isMix_14 : decode cX7_isMix 14 = .ok (.iconst 1, 1) := by decide +kernel
theorem dX7_isMix_15 : decode cX7_isMix 15 = .ok (.if_icmp .ne 7, 3) := by decide +kernel
theorem dX7_isMix_18 : decode cX7_isMix 18 = .ok (.iconst 1, 1) := by decide +kernel
theorem dX7_isMix_19 : decode cX7_isMix 19 = .ok (.goto 4, 3) := by decide +kernel
theorem dX7_isMix_22 : decode cX7_isMix 22 = .ok (.iconst 0, 1) := by decide +kernel
theorem dX7_isMix_23 : decode cX7_isMix 23 = .ok (.ireturn, 1) := by decide +kernel
set_option maxRecDepth 20000 in
theorem ggX7_mix_X7_isMix : GoodIn wsX7_mix wsX7_isMix := goodIn_r _ [5, 6, 7, 4, 8] (by decide +kernel) (by decide +kernel)
set_option maxRecDepth 20000 in
theorem gX7_mix_X7_isMix : GoodIn wsX7_mix (va_wsS RX7 51 yX7_isMix wsX7_isMix) := goodIn_app (goodIn_of _ (by decide +kernel)) ggX7_mix_X7_isMix
set_option maxRecDepth 20000 in
theorem ggX7_mix_X7_becomes : GoodIn wsX7_mix wsX7_becomes := goodIn_r _ [12, 13, 19, 20, 21, 22, 23, 24, 25, 26, 27, 28, 29, 30, 31, 32, 33, 34, 35] (by decide +kernel) (by decide +kernel)
set_option maxRecDepth 20000 in
theorem gX7_mix_X7_becomes : GoodIn wsX7_mix (wsV RX7 55 RX7 yX7_becomes wsX7_becomes) := goodIn_app (goodIn_of _ (by decide +kernel)) ggX7_mix_X7_becomes
set_option maxRecDepth 20000 in
theorem ggX7_mix_X7_finds : GoodIn wsX7_mix wsX7_finds := goodIn_r _ [17, 18, 1, 19, 20, 21, 22, 23, 24, 25, 26, 27, 28, 29, 30, 31, 32, 33, 34, 35] (by decide +kernel) (by decide +kernel)
set_option maxRecDepth 20000 in
theorem gX7_mix_X7_finds : GoodIn wsX7_mix (wsV RX7 43 RX7 yX7_finds wsX7_finds) := goodIn_app (goodIn_of _ (by decide +kernel)) ggX7_mix_X7_finds
theorem dX7_mix_0 : decode cX7_mix 0 = .ok (.iload_n 1, 1) := by decide +kernel
theorem dX7_mix_1 : decode cX7_mix 1 = .ok (.invokestatic 51, 3) := by decide +kernel
theorem dX7_mix_4 : decode cX7_mix 4 = .ok (.ifCond .eq 12, 3) := by decide +kernel
theorem dX7_mix_7 : decode cX7_mix 7 = .ok (.aload_n 0, 1) := by decide +kernel
theorem dX7_mix_8 : decode cX7_mix 8 = .ok (.iconst 1, 1) := by decide +kernel
theorem dX7_mix_9 : decode cX7_mix 9 = .ok (.iload_n 1, 1) := by decide +kernel
theorem dX7_mix_10 : decode cX7_mix 10 = .ok (.invokevirtual 55, 3) := by decide +kernel
theorem dX7_mix_13 : decode cX7_mix 13 = .ok (.goto 9, 3) := by decide +kernel
theorem dX7_mix_16 : decode cX7_mix 16 = .ok (.aload_n 0, 1) := by decide +kernel
theorem dX7_mix_17 : decode cX7_mix 17 = .ok (.ldc 41, 2) := by decide +kernel
theorem dX7_mix_19 : decode cX7_mix 19 = .ok (.invokevirtual 43, 3) := by decide +kernel
theorem dX7_mix_22 : decode cX7_mix 22 = .ok (.ireturn, 1) := by decide +kernel
set_option maxRecDepth 20000 in
theorem ggX7_province_X7_isLand : GoodIn wsX7_province wsX7_isLand := goodIn_r _ [5, 6, 7, 4, 8] (by decide +kernel) (by decide +kernel)
set_option maxRecDepth 20000 in
theorem gX7_province_X7_isLand : GoodIn wsX7_province (va_wsS RX7 59 yX7_isLand wsX7_isLand) := goodIn_app (goodIn_of _ (by decide +kernel)) ggX7_province_X7_isLand
set_option maxRecDepth 20000 in
theorem ggX7_province_X7_in : GoodIn wsX7_province wsX7_in := goodIn_r _ [8] (by decide +kernel) (by decide +kernel)
set_option maxRecDepth 20000 in
theorem gX7_province_X7_in : GoodIn wsX7_province (va_wsS RX7 47 yX7_in wsX7_in) := goodIn_app (goodIn_of _ (by decide +kernel)) ggX7_province_X7_in
set_option maxRecDepth 20000 in
theorem ggX7_province_X7_becomes : GoodIn wsX7_province wsX7_becomes := goodIn_r _ [12, 13, 19, 20, 21, 22, 23, 24, 25, 26, 27, 28, 29, 30, 31, 32, 33, 34, 35] (by decide +kernel) (by decide +kernel)
set_option maxRecDepth 20000 in
theorem gX7_province_X7_becomes : GoodIn wsX7_province (wsV RX7 55 RX7 yX7_becomes wsX7_becomes) := goodIn_app (goodIn_of _ (by decide +kernel)) ggX7_province_X7_becomes
set_option maxRecDepth 20000 in
theorem ggX7_province_X7_finds : GoodIn wsX7_province wsX7_finds := goodIn_r _ [17, 18, 1, 19, 20, 21, 22, 23, 24, 25, 26, 27, 28, 29, 30, 31, 32, 33, 34, 35] (by decide +kernel) (by decide +kernel)
set_option maxRecDepth 20000 in
theorem gX7_province_X7_finds : GoodIn wsX7_province (wsV RX7 43 RX7 yX7_finds wsX7_finds) := goodIn_app (goodIn_of _ (by decide +kernel)) ggX7_province_X7_finds
theorem dX7_province_0 : decode cX7_province 0 = .ok (.iload_n 1, 1) := by decide +kernel
theorem dX7_province_1 : decode cX7_province 1 = .ok (.invokestatic 59, 3) := by decide +kernel
theorem dX7_province_4 : decode cX7_province 4 = .ok (.ifCond .eq 25, 3) := by decide +kernel
theorem dX7_province_7 : decode cX7_province 7 = .ok (.iload_n 2, 1) := by decide +kernel
theorem dX7_province_8 : decode cX7_province 8 = .ok (.i2l, 1) := by decide +kernel
theorem dX7_province_9 : decode cX7_province 9 = .ok (.iconst (-1), 1) := by decide +kernel
theorem dX7_province_10 : decode cX7_province 10 = .ok (.iconst 1, 1) := by decide +kernel
theorem dX7_province_11 : decode cX7_province 11 = .ok (.invokestatic 47, 3) := by decide +kernel
theorem dX7_province_14 : decode cX7_province 14 = .ok (.ifCond .eq 15, 3) := by decide +kernel
theorem dX7_province_17 : decode cX7_province 17 = .ok (.aload_n 0, 1) := by decide +kernel
theorem dX7_province_18 : decode cX7_province 18 = .ok (.bipush 7, 2) := by decide +kernel
theorem dX7_province_20 : decode cX7_province 20 = .ok (.iload_n 1, 1) := by decide +kernel
theorem dX7_province_21 : decode cX7_province 21 = .ok (.iadd, 1) := by decide +kernel
theorem dX7_province_22 : decode cX7_province 22 = .ok (.iload_n 2, 1) := by decide +kernel
theorem dX7_province_23 : decode cX7_province 23 = .ok (.invokevirtual 55, 3) := by decide +kernel
theorem dX7_province_26 : decode cX7_province 26 = .ok (.goto 9, 3) := by decide +kernel
theorem dX7_province_29 : decode cX7_province 29 = .ok (.aload_n 0, 1) := by decide +kernel
theorem dX7_province_30 : decode cX7_province 30 = .ok (.ldc 41, 2) := by decide +kernel
theorem dX7_province_32 : decode cX7_province 32 = .ok (.invokevirtual 43, 3) := by decide +kernel
theorem dX7_province_35 : decode cX7_province 35 = .ok (.ireturn, 1) := by decide +kernel
set_option maxRecDepth 20000 in
theorem ggX7_whose_X7_isLand : GoodIn wsX7_whose wsX7_isLand := goodIn_r _ [6, 7, 8, 5, 9] (by decide +kernel) (by decide +kernel)
set_option maxRecDepth 20000 in
theorem gX7_whose_X7_isLand : GoodIn wsX7_whose (va_wsS RX7 59 yX7_isLand wsX7_isLand) := goodIn_app (goodIn_of _ (by decide +kernel)) ggX7_whose_X7_isLand
set_option maxRecDepth 20000 in
theorem ggX7_whose_X7_finds : GoodIn wsX7_whose wsX7_finds := goodIn_r _ [13, 14, 2, 15, 16, 17, 18, 19, 20, 21, 22, 23, 24, 25, 26, 27, 28, 29, 30, 31] (by decide +kernel) (by decide +kernel)
set_option maxRecDepth 20000 in
theorem gX7_whose_X7_finds : GoodIn wsX7_whose (wsV RX7 43 RX7 yX7_finds wsX7_finds) := goodIn_app (goodIn_of _ (by decide +kernel)) ggX7_whose_X7_finds
theorem dX7_whose_0 : decode cX7_whose 0 = .ok (.iload_n 1, 1) := by decide +kernel
theorem dX7_whose_1 : decode cX7_whose 1 = .ok (.invokestatic 59, 3) := by decide +kernel
theorem dX7_whose_4 : decode cX7_whose 4 = .ok (.ifCond .eq 15, 3) := by decide +kernel
theorem dX7_whose_7 : decode cX7_whose 7 = .ok (.aload_n 0, 1) := by decide +kernel
theorem dX7_whose_8 : decode cX7_whose 8 = .ok (.getfield 9, 3) := by decide +kernel
theorem dX7_whose_11 : decode cX7_whose 11 = .ok (.bipush 7, 2) := by decide +kernel
theorem dX7_whose_13 : decode cX7_whose 13 = .ok (.iload_n 1, 1) := by decide +kernel
theorem dX7_whose_14 : decode cX7_whose 14 = .ok (.iadd, 1) := by decide +kernel
theorem dX7_whose_15 : decode cX7_whose 15 = .ok (.iaload, 1) := by decide +kernel
theorem dX7_whose_16 : decode cX7_whose 16 = .ok (.goto 9, 3) := by decide +kernel
theorem dX7_whose_19 : decode cX7_whose 19 = .ok (.aload_n 0, 1) := by decide +kernel
theorem dX7_whose_20 : decode cX7_whose 20 = .ok (.ldc 41, 2) := by decide +kernel
theorem dX7_whose_22 : decode cX7_whose 22 = .ok (.invokevirtual 43, 3) := by decide +kernel
theorem dX7_whose_25 : decode cX7_whose 25 = .ok (.ireturn, 1) := by decide +kernel
set_option maxRecDepth 20000 in
theorem ggX7_treasury_X7_isState : GoodIn wsX7_treasury wsX7_isState := goodIn_r _ [6, 7, 8, 5, 9] (by decide +kernel) (by decide +kernel)
set_option maxRecDepth 20000 in
theorem gX7_treasury_X7_isState : GoodIn wsX7_treasury (va_wsS RX7 62 yX7_isState wsX7_isState) := goodIn_app (goodIn_of _ (by decide +kernel)) ggX7_treasury_X7_isState
set_option maxRecDepth 20000 in
theorem ggX7_treasury_X7_in : GoodIn wsX7_treasury wsX7_in := goodIn_r _ [9] (by decide +kernel) (by decide +kernel)
set_option maxRecDepth 20000 in
theorem gX7_treasury_X7_in : GoodIn wsX7_treasury (va_wsS RX7 47 yX7_in wsX7_in) := goodIn_app (goodIn_of _ (by decide +kernel)) ggX7_treasury_X7_in
set_option maxRecDepth 20000 in
theorem ggX7_treasury_X7_becomes : GoodIn wsX7_treasury wsX7_becomes := goodIn_r _ [13, 14, 20, 21, 22, 23, 24, 25, 26, 27, 28, 29, 30, 31, 32, 33, 34, 35, 36] (by decide +kernel) (by decide +kernel)
set_option maxRecDepth 20000 in
theorem gX7_treasury_X7_becomes : GoodIn wsX7_treasury (wsV RX7 55 RX7 yX7_becomes wsX7_becomes) := goodIn_app (goodIn_of _ (by decide +kernel)) ggX7_treasury_X7_becomes
set_option maxRecDepth 20000 in
theorem ggX7_treasury_X7_finds : GoodIn wsX7_treasury wsX7_finds := goodIn_r _ [18, 19, 2, 20, 21, 22, 23, 24, 25, 26, 27, 28, 29, 30, 31, 32, 33, 34, 35, 36] (by decide +kernel) (by decide +kernel)
set_option maxRecDepth 20000 in
theorem gX7_treasury_X7_finds : GoodIn wsX7_treasury (wsV RX7 43 RX7 yX7_finds wsX7_finds) := goodIn_app (goodIn_of _ (by decide +kernel)) ggX7_treasury_X7_finds
theorem dX7_treasury_0 : decode cX7_treasury 0 = .ok (.iload_n 1, 1) := by decide +kernel
theorem dX7_treasury_1 : decode cX7_treasury 1 = .ok (.invokestatic 62, 3) := by decide +kernel
theorem dX7_treasury_4 : decode cX7_treasury 4 = .ok (.ifCond .eq 25, 3) := by decide +kernel
theorem dX7_treasury_7 : decode cX7_treasury 7 = .ok (.iload_n 2, 1) := by decide +kernel
theorem dX7_treasury_8 : decode cX7_treasury 8 = .ok (.i2l, 1) := by decide +kernel
theorem dX7_treasury_9 : decode cX7_treasury 9 = .ok (.iconst 0, 1) := by decide +kernel
theorem dX7_treasury_10 : decode cX7_treasury 10 = .ok (.ldc 65, 2) := by decide +kernel
theorem dX7_treasury_12 : decode cX7_treasury 12 = .ok (.invokestatic 47, 3) := by decide +kernel
theorem dX7_treasury_15 : decode cX7_treasury 15 = .ok (.ifCond .eq 14, 3) := by decide +kernel
theorem dX7_treasury_18 : decode cX7_treasury 18 = .ok (.aload_n 0, 1) := by decide +kernel
theorem dX7_treasury_19 : decode cX7_treasury 19 = .ok (.iconst 5, 1) := by decide +kernel
theorem dX7_treasury_20 : decode cX7_treasury 20 = .ok (.iload_n 1, 1) := by decide +kernel
theorem dX7_treasury_21 : decode cX7_treasury 21 = .ok (.iadd, 1) := by decide +kernel
theorem dX7_treasury_22 : decode cX7_treasury 22 = .ok (.iload_n 2, 1) := by decide +kernel
theorem dX7_treasury_23 : decode cX7_treasury 23 = .ok (.invokevirtual 55, 3) := by decide +kernel
theorem dX7_treasury_26 : decode cX7_treasury 26 = .ok (.goto 9, 3) := by decide +kernel
theorem dX7_treasury_29 : decode cX7_treasury 29 = .ok (.aload_n 0, 1) := by decide +kernel
theorem dX7_treasury_30 : decode cX7_treasury 30 = .ok (.ldc 41, 2) := by decide +kernel
theorem dX7_treasury_32 : decode cX7_treasury 32 = .ok (.invokevirtual 43, 3) := by decide +kernel
theorem dX7_treasury_35 : decode cX7_treasury 35 = .ok (.ireturn, 1) := by decide +kernel
set_option maxRecDepth 20000 in
theorem ggX7_now_X7_finds : GoodIn wsX7_now wsX7_finds := goodIn_r _ [7, 8, 2, 9, 10, 11, 12, 13, 14, 15, 16, 17, 18, 19, 20, 21, 22, 23, 24, 25] (by decide +kernel) (by decide +kernel)
set_option maxRecDepth 20000 in
theorem gX7_now_X7_finds : GoodIn wsX7_now (wsV RX7 43 RX7 yX7_finds wsX7_finds) := goodIn_app (goodIn_of _ (by decide +kernel)) ggX7_now_X7_finds
theorem dX7_now_0 : decode cX7_now 0 = .ok (.iload_n 1, 1) := by decide +kernel
theorem dX7_now_1 : decode cX7_now 1 = .ok (.tableswitch 86 0 7 #[47, 47, 56, 65, 75, 75, 75, 75], 47) := by decide +kernel
theorem dX7_now_48 : decode cX7_now 48 = .ok (.aload_n 0, 1) := by decide +kernel
theorem dX7_now_49 : decode cX7_now 49 = .ok (.getfield 9, 3) := by decide +kernel
theorem dX7_now_52 : decode cX7_now 52 = .ok (.iconst 0, 1) := by decide +kernel
theorem dX7_now_53 : decode cX7_now 53 = .ok (.iload_n 1, 1) := by decide +kernel
theorem dX7_now_54 : decode cX7_now 54 = .ok (.iadd, 1) := by decide +kernel
theorem dX7_now_55 : decode cX7_now 55 = .ok (.iaload, 1) := by decide +kernel
theorem dX7_now_56 : decode cX7_now 56 = .ok (.ireturn, 1) := by decide +kernel
theorem dX7_now_57 : decode cX7_now 57 = .ok (.aload_n 0, 1) := by decide +kernel
theorem dX7_now_58 : decode cX7_now 58 = .ok (.getfield 9, 3) := by decide +kernel
theorem dX7_now_61 : decode cX7_now 61 = .ok (.iconst 0, 1) := by decide +kernel
theorem dX7_now_62 : decode cX7_now 62 = .ok (.iaload, 1) := by decide +kernel
theorem dX7_now_63 : decode cX7_now 63 = .ok (.iconst 4, 1) := by decide +kernel
theorem dX7_now_64 : decode cX7_now 64 = .ok (.irem, 1) := by decide +kernel
theorem dX7_now_65 : decode cX7_now 65 = .ok (.ireturn, 1) := by decide +kernel
theorem dX7_now_66 : decode cX7_now 66 = .ok (.aload_n 0, 1) := by decide +kernel
theorem dX7_now_67 : decode cX7_now 67 = .ok (.getfield 9, 3) := by decide +kernel
theorem dX7_now_70 : decode cX7_now 70 = .ok (.iconst 0, 1) := by decide +kernel
theorem dX7_now_71 : decode cX7_now 71 = .ok (.iaload, 1) := by decide +kernel
theorem dX7_now_72 : decode cX7_now 72 = .ok (.bipush 8, 2) := by decide +kernel
theorem dX7_now_74 : decode cX7_now 74 = .ok (.irem, 1) := by decide +kernel
theorem dX7_now_75 : decode cX7_now 75 = .ok (.ireturn, 1) := by decide +kernel
theorem dX7_now_76 : decode cX7_now 76 = .ok (.aload_n 0, 1) := by decide +kernel
theorem dX7_now_77 : decode cX7_now 77 = .ok (.getfield 9, 3) := by decide +kernel
theorem dX7_now_80 : decode cX7_now 80 = .ok (.iconst 3, 1) := by decide +kernel
theorem dX7_now_81 : decode cX7_now 81 = .ok (.iload_n 1, 1) := by decide +kernel
theorem dX7_now_82 : decode cX7_now 82 = .ok (.iadd, 1) := by decide +kernel
theorem dX7_now_83 : decode cX7_now 83 = .ok (.iconst 4, 1) := by decide +kernel
theorem dX7_now_84 : decode cX7_now 84 = .ok (.isub, 1) := by decide +kernel
theorem dX7_now_85 : decode cX7_now 85 = .ok (.iaload, 1) := by decide +kernel
theorem dX7_now_86 : decode cX7_now 86 = .ok (.ireturn, 1) := by decide +kernel
theorem dX7_now_87 : decode cX7_now 87 = .ok (.aload_n 0, 1) := by decide +kernel
theorem dX7_now_88 : decode cX7_now 88 = .ok (.ldc 41, 2) := by decide +kernel
theorem dX7_now_90 : decode cX7_now 90 = .ok (.invokevirtual 43, 3) := by decide +kernel
theorem dX7_now_93 : decode cX7_now 93 = .ok (.ireturn, 1) := by decide +kernel
theorem dX7_dealt_0 : decode cX7_dealt 0 = .ok (.aload_n 0, 1) := by decide +kernel
theorem dX7_dealt_1 : decode cX7_dealt 1 = .ok (.getfield 9, 3) := by decide +kernel
theorem dX7_dealt_4 : decode cX7_dealt 4 = .ok (.iconst 1, 1) := by decide +kernel
theorem dX7_dealt_5 : decode cX7_dealt 5 = .ok (.iaload, 1) := by decide +kernel
theorem dX7_dealt_6 : decode cX7_dealt 6 = .ok (.iload_n 1, 1) := by decide +kernel
theorem dX7_dealt_7 : decode cX7_dealt 7 = .ok (.imul, 1) := by decide +kernel
theorem dX7_dealt_8 : decode cX7_dealt 8 = .ok (.iload_n 2, 1) := by decide +kernel
theorem dX7_dealt_9 : decode cX7_dealt 9 = .ok (.iadd, 1) := by decide +kernel
theorem dX7_dealt_10 : decode cX7_dealt 10 = .ok (.bipush 32, 2) := by decide +kernel
theorem dX7_dealt_12 : decode cX7_dealt 12 = .ok (.irem, 1) := by decide +kernel
theorem dX7_dealt_13 : decode cX7_dealt 13 = .ok (.ireturn, 1) := by decide +kernel
set_option maxRecDepth 20000 in
theorem ggX7_card_X7_in : GoodIn wsX7_card wsX7_in := goodIn_r _ [5] (by decide +kernel) (by decide +kernel)
set_option maxRecDepth 20000 in
theorem gX7_card_X7_in : GoodIn wsX7_card (va_wsS RX7 47 yX7_in wsX7_in) := goodIn_app (goodIn_of _ (by decide +kernel)) ggX7_card_X7_in
set_option maxRecDepth 20000 in
theorem ggX7_card_X7_dealt : GoodIn wsX7_card wsX7_dealt := goodIn_r _ [9, 10, 16, 17, 18, 19, 20, 21, 22, 23, 24, 25, 26, 27, 28, 29, 30, 31, 32] (by decide +kernel) (by decide +kernel)
set_option maxRecDepth 20000 in
theorem gX7_card_X7_dealt : GoodIn wsX7_card (wsV RX7 66 RX7 yX7_dealt wsX7_dealt) := goodIn_app (goodIn_of _ (by decide +kernel)) ggX7_card_X7_dealt
set_option maxRecDepth 20000 in
theorem ggX7_card_X7_finds : GoodIn wsX7_card wsX7_finds := goodIn_r _ [14, 15, 1, 16, 17, 18, 19, 20, 21, 22, 23, 24, 25, 26, 27, 28, 29, 30, 31, 32] (by decide +kernel) (by decide +kernel)
set_option maxRecDepth 20000 in
theorem gX7_card_X7_finds : GoodIn wsX7_card (wsV RX7 43 RX7 yX7_finds wsX7_finds) := goodIn_app (goodIn_of _ (by decide +kernel)) ggX7_card_X7_finds
theorem dX7_card_0 : decode cX7_card 0 = .ok (.iload_n 1, 1) := by decide +kernel
theorem dX7_card_1 : decode cX7_card 1 = .ok (.i2l, 1) := by decide +kernel
theorem dX7_card_2 : decode cX7_card 2 = .ok (.iconst 0, 1) := by decide +kernel
theorem dX7_card_3 : decode cX7_card 3 = .ok (.bipush 7, 2) := by decide +kernel
theorem dX7_card_5 : decode cX7_card 5 = .ok (.invokestatic 47, 3) := by decide +kernel
theorem dX7_card_8 : decode cX7_card 8 = .ok (.ifCond .eq 24, 3) := by decide +kernel
theorem dX7_card_11 : decode cX7_card 11 = .ok (.iload_n 2, 1) := by decide +kernel
theorem dX7_card_12 : decode cX7_card 12 = .ok (.i2l, 1) := by decide +kernel
theorem dX7_card_13 : decode cX7_card 13 = .ok (.iconst 0, 1) := by decide +kernel
theorem dX7_card_14 : decode cX7_card 14 = .ok (.sipush 9999, 3) := by decide +kernel
theorem dX7_card_17 : decode cX7_card 17 = .ok (.invokestatic 47, 3) := by decide +kernel
theorem dX7_card_20 : decode cX7_card 20 = .ok (.ifCond .eq 12, 3) := by decide +kernel
theorem dX7_card_23 : decode cX7_card 23 = .ok (.aload_n 0, 1) := by decide +kernel
theorem dX7_card_24 : decode cX7_card 24 = .ok (.iload_n 1, 1) := by decide +kernel
theorem dX7_card_25 : decode cX7_card 25 = .ok (.iload_n 2, 1) := by decide +kernel
theorem dX7_card_26 : decode cX7_card 26 = .ok (.invokevirtual 66, 3) := by decide +kernel
theorem dX7_card_29 : decode cX7_card 29 = .ok (.goto 9, 3) := by decide +kernel
theorem dX7_card_32 : decode cX7_card 32 = .ok (.aload_n 0, 1) := by decide +kernel
theorem dX7_card_33 : decode cX7_card 33 = .ok (.ldc 41, 2) := by decide +kernel
theorem dX7_card_35 : decode cX7_card 35 = .ok (.invokevirtual 43, 3) := by decide +kernel
theorem dX7_card_38 : decode cX7_card 38 = .ok (.ireturn, 1) := by decide +kernel
set_option maxRecDepth 20000 in
theorem ggX7_handOf_X7_dealt : GoodIn wsX7_handOf wsX7_dealt := goodIn_r _ [6, 1, 7, 8, 9, 10, 11, 12, 13, 14, 15, 16, 17, 18, 19, 20, 21, 22, 23] (by decide +kernel) (by decide +kernel)
set_option maxRecDepth 20000 in
theorem gX7_handOf_X7_dealt : GoodIn wsX7_handOf (wsV RX7 66 RX7 yX7_dealt wsX7_dealt) := goodIn_app (goodIn_of _ (by decide +kernel)) ggX7_handOf_X7_dealt
theorem dX7_handOf_0 : decode cX7_handOf 0 = .ok (.iconst 0, 1) := by decide +kernel
theorem dX7_handOf_1 : decode cX7_handOf 1 = .ok (.istore_n 2, 1) := by decide +kernel
theorem dX7_handOf_2 : decode cX7_handOf 2 = .ok (.iconst 0, 1) := by decide +kernel
theorem dX7_handOf_3 : decode cX7_handOf 3 = .ok (.istore_n 3, 1) := by decide +kernel
theorem dX7_handOf_4 : decode cX7_handOf 4 = .ok (.iload_n 3, 1) := by decide +kernel
theorem dX7_handOf_5 : decode cX7_handOf 5 = .ok (.iconst 4, 1) := by decide +kernel
theorem dX7_handOf_6 : decode cX7_handOf 6 = .ok (.if_icmp .ge 29, 3) := by decide +kernel
theorem dX7_handOf_9 : decode cX7_handOf 9 = .ok (.iload_n 2, 1) := by decide +kernel
theorem dX7_handOf_10 : decode cX7_handOf 10 = .ok (.iconst 1, 1) := by decide +kernel
theorem dX7_handOf_11 : decode cX7_handOf 11 = .ok (.aload_n 0, 1) := by decide +kernel
theorem dX7_handOf_12 : decode cX7_handOf 12 = .ok (.iconst 4, 1) := by decide +kernel
theorem dX7_handOf_13 : decode cX7_handOf 13 = .ok (.iload_n 1, 1) := by decide +kernel
theorem dX7_handOf_14 : decode cX7_handOf 14 = .ok (.imul, 1) := by decide +kernel
theorem dX7_handOf_15 : decode cX7_handOf 15 = .ok (.iload_n 3, 1) := by decide +kernel
theorem dX7_handOf_16 : decode cX7_handOf 16 = .ok (.iadd, 1) := by decide +kernel
theorem dX7_handOf_17 : decode cX7_handOf 17 = .ok (.aload_n 0, 1) := by decide +kernel
theorem dX7_handOf_18 : decode cX7_handOf 18 = .ok (.getfield 9, 3) := by decide +kernel
theorem dX7_handOf_21 : decode cX7_handOf 21 = .ok (.iconst 0, 1) := by decide +kernel
theorem dX7_handOf_22 : decode cX7_handOf 22 = .ok (.iaload, 1) := by decide +kernel
theorem dX7_handOf_23 : decode cX7_handOf 23 = .ok (.invokevirtual 66, 3) := by decide +kernel
theorem dX7_handOf_26 : decode cX7_handOf 26 = .ok (.ishl, 1) := by decide +kernel
theorem dX7_handOf_27 : decode cX7_handOf 27 = .ok (.ior, 1) := by decide +kernel
theorem dX7_handOf_28 : decode cX7_handOf 28 = .ok (.istore_n 2, 1) := by decide +kernel
theorem dX7_handOf_29 : decode cX7_handOf 29 = .ok (.iinc 3 1, 3) := by decide +kernel
theorem dX7_handOf_32 : decode cX7_handOf 32 = .ok (.goto (-28), 3) := by decide +kernel
theorem dX7_handOf_35 : decode cX7_handOf 35 = .ok (.iload_n 2, 1) := by decide +kernel
theorem dX7_handOf_36 : decode cX7_handOf 36 = .ok (.ireturn, 1) := by decide +kernel
theorem dX7_has_0 : decode cX7_has 0 = .ok (.iload_n 0, 1) := by decide +kernel
theorem dX7_has_1 : decode cX7_has 1 = .ok (.iload_n 1, 1) := by decide +kernel
theorem dX7_has_2 : decode cX7_has 2 = .ok (.iushr, 1) := by decide +kernel
theorem dX7_has_3 : decode cX7_has 3 = .ok (.iconst 1, 1) := by decide +kernel
theorem dX7_has_4 : decode cX7_has 4 = .ok (.iand, 1) := by decide +kernel
theorem dX7_has_5 : decode cX7_has 5 = .ok (.iconst 1, 1) := by decide +kernel
theorem dX7_has_6 : decode cX7_has 6 = .ok (.if_icmp .ne 7, 3) := by decide +kernel
theorem dX7_has_9 : decode cX7_has 9 = .ok (.iconst 1, 1) := by decide +kernel
theorem dX7_has_10 : decode cX7_has 10 = .ok (.goto 4, 3) := by decide +kernel
theorem dX7_has_13 : decode cX7_has 13 = .ok (.iconst 0, 1) := by decide +kernel
theorem dX7_has_14 : decode cX7_has 14 = .ok (.ireturn, 1) := by decide +kernel
theorem dX7_isTrump_0 : decode cX7_isTrump 0 = .ok (.iload_n 1, 1) := by decide +kernel
theorem dX7_isTrump_1 : decode cX7_isTrump 1 = .ok (.bipush 8, 2) := by decide +kernel
theorem dX7_isTrump_3 : decode cX7_isTrump 3 = .ok (.idiv, 1) := by decide +kernel
theorem dX7_isTrump_4 : decode cX7_isTrump 4 = .ok (.aload_n 0, 1) := by decide +kernel
theorem dX7_isTrump_5 : decode cX7_isTrump 5 = .ok (.getfield 9, 3) := by decide +kernel
theorem dX7_isTrump_8 : decode cX7_isTrump 8 = .ok (.iconst 0, 1) := by decide +kernel
theorem dX7_isTrump_9 : decode cX7_isTrump 9 = .ok (.iaload, 1) := by decide +kernel
theorem dX7_isTrump_10 : decode cX7_isTrump 10 = .ok (.iconst 4, 1) := by decide +kernel
theorem dX7_isTrump_11 : decode cX7_isTrump 11 = .ok (.irem, 1) := by decide +kernel
theorem dX7_isTrump_12 : decode cX7_isTrump 12 = .ok (.if_icmp .ne 7, 3) := by decide +kernel
theorem dX7_isTrump_15 : decode cX7_isTrump 15 = .ok (.iconst 1, 1) := by decide +kernel
theorem dX7_isTrump_16 : decode cX7_isTrump 16 = .ok (.goto 4, 3) := by decide +kernel
theorem dX7_isTrump_19 : decode cX7_isTrump 19 = .ok (.iconst 0, 1) := by decide +kernel
theorem dX7_isTrump_20 : decode cX7_isTrump 20 = .ok (.ireturn, 1) := by decide +kernel
theorem dX7_trumpsOf_0 : decode cX7_trumpsOf 0 = .ok (.iload_n 1, 1) := by decide +kernel
theorem dX7_trumpsOf_1 : decode cX7_trumpsOf 1 = .ok (.sipush 255, 3) := by decide +kernel
theorem dX7_trumpsOf_4 : decode cX7_trumpsOf 4 = .ok (.bipush 8, 2) := by decide +kernel
theorem dX7_trumpsOf_6 : decode cX7_trumpsOf 6 = .ok (.aload_n 0, 1) := by decide +kernel
theorem dX7_trumpsOf_7 : decode cX7_trumpsOf 7 = .ok (.getfield 9, 3) := by decide +kernel
theorem dX7_trumpsOf_10 : decode cX7_trumpsOf 10 = .ok (.iconst 0, 1) := by decide +kernel
theorem dX7_trumpsOf_11 : decode cX7_trumpsOf 11 = .ok (.iaload, 1) := by decide +kernel
theorem dX7_trumpsOf_12 : decode cX7_trumpsOf 12 = .ok (.iconst 4, 1) := by decide +kernel
theorem dX7_trumpsOf_13 : decode cX7_trumpsOf 13 = .ok (.irem, 1) := by decide +kernel
theorem dX7_trumpsOf_14 : decode cX7_trumpsOf 14 = .ok (.imul, 1) := by decide +kernel
theorem dX7_trumpsOf_15 : decode cX7_trumpsOf 15 = .ok (.ishl, 1) := by decide +kernel
theorem dX7_trumpsOf_16 : decode cX7_trumpsOf 16 = .ok (.iand, 1) := by decide +kernel
theorem dX7_trumpsOf_17 : decode cX7_trumpsOf 17 = .ok (.ireturn, 1) := by decide +kernel
set_option maxRecDepth 20000 in
theorem ggX7_doesBeat_X7_isTrump : GoodIn wsX7_doesBeat wsX7_isTrump := goodIn_r _ [5, 6, 7, 8, 9, 10, 11, 12, 13, 14, 15, 16, 17, 18, 19, 20, 21, 22, 23] (by decide +kernel) (by decide +kernel)
set_option maxRecDepth 20000 in
theorem gX7_doesBeat_X7_isTrump : GoodIn wsX7_doesBeat (wsV RX7 69 RX7 yX7_isTrump wsX7_isTrump) := goodIn_app (goodIn_of _ (by decide +kernel)) ggX7_doesBeat_X7_isTrump
theorem dX7_doesBeat_0 : decode cX7_doesBeat 0 = .ok (.iload_n 1, 1) := by decide +kernel
theorem dX7_doesBeat_1 : decode cX7_doesBeat 1 = .ok (.bipush 8, 2) := by decide +kernel
theorem dX7_doesBeat_3 : decode cX7_doesBeat 3 = .ok (.idiv, 1) := by decide +kernel
theorem dX7_doesBeat_4 : decode cX7_doesBeat 4 = .ok (.iload_n 2, 1) := by decide +kernel
theorem dX7_doesBeat_5 : decode cX7_doesBeat 5 = .ok (.bipush 8, 2) := by decide +kernel
theorem dX7_doesBeat_7 : decode cX7_doesBeat 7 = .ok (.idiv, 1) := by decide +kernel
theorem dX7_doesBeat_8 : decode cX7_doesBeat 8 = .ok (.if_icmp .ne 14, 3) := by decide +kernel
theorem dX7_doesBeat_11 : decode cX7_doesBeat 11 = .ok (.iload_n 1, 1) := by decide +kernel
theorem dX7_doesBeat_12 : decode cX7_doesBeat 12 = .ok (.bipush 8, 2) := by decide +kernel
theorem dX7_doesBeat_14 : decode cX7_doesBeat 14 = .ok (.irem, 1) := by decide +kernel
theorem dX7_doesBeat_15 : decode cX7_doesBeat 15 = .ok (.iload_n 2, 1) := by decide +kernel
theorem dX7_doesBeat_16 : decode cX7_doesBeat 16 = .ok (.bipush 8, 2) := by decide +kernel
theorem dX7_doesBeat_18 : decode cX7_doesBeat 18 = .ok (.irem, 1) := by decide +kernel
theorem dX7_doesBeat_19 : decode cX7_doesBeat 19 = .ok (.if_icmp .gt 19, 3) := by decide +kernel
theorem dX7_doesBeat_22 : decode cX7_doesBeat 22 = .ok (.aload_n 0, 1) := by decide +kernel
theorem dX7_doesBeat_23 : decode cX7_doesBeat 23 = .ok (.iload_n 1, 1) := by decide +kernel
theorem dX7_doesBeat_24 : decode cX7_doesBeat 24 = .ok (.invokevirtual 69, 3) := by decide +kernel
theorem dX7_doesBeat_27 : decode cX7_doesBeat 27 = .ok (.ifCond .eq 15, 3) := by decide +kernel
theorem dX7_doesBeat_30 : decode cX7_doesBeat 30 = .ok (.aload_n 0, 1) := by decide +kernel
theorem dX7_doesBeat_31 : decode cX7_doesBeat 31 = .ok (.iload_n 2, 1) := by decide +kernel
theorem dX7_doesBeat_32 : decode cX7_doesBeat 32 = .ok (.invokevirtual 69, 3) := by decide +kernel
theorem dX7_doesBeat_35 : decode cX7_doesBeat 35 = .ok (.ifCond .ne 7, 3) := by decide +kernel
theorem dX7_doesBeat_38 : decode cX7_doesBeat 38 = .ok (.iconst 1, 1) := by decide +kernel
theorem dX7_doesBeat_39 : decode cX7_doesBeat 39 = .ok (.goto 4, 3) := by decide +kernel
theorem dX7_doesBeat_42 : decode cX7_doesBeat 42 = .ok (.iconst 0, 1) := by decide +kernel
theorem dX7_doesBeat_43 : decode cX7_doesBeat 43 = .ok (.ireturn, 1) := by decide +kernel
set_option maxRecDepth 20000 in
theorem ggX7_beaters_X7_has : GoodIn wsX7_beaters wsX7_has := goodIn_r _ [4] (by decide +kernel) (by decide +kernel)
set_option maxRecDepth 20000 in
theorem gX7_beaters_X7_has : GoodIn wsX7_beaters (va_wsS RX7 72 yX7_has wsX7_has) := goodIn_app (goodIn_of _ (by decide +kernel)) ggX7_beaters_X7_has
set_option maxRecDepth 20000 in
theorem ggX7_beaters_X7_doesBeat : GoodIn wsX7_beaters wsX7_doesBeat := goodIn_r _ [8, 9, 10, 11, 3, 12, 13, 14, 15, 16, 17, 18, 19, 20, 21, 22, 23, 24, 25, 26, 27, 28, 29, 30] (by decide +kernel) (by decide +kernel)
set_option maxRecDepth 20000 in
theorem gX7_beaters_X7_doesBeat : GoodIn wsX7_beaters (wsV RX7 76 RX7 yX7_doesBeat wsX7_doesBeat) := goodIn_app (goodIn_of _ (by decide +kernel)) ggX7_beaters_X7_doesBeat
theorem dX7_beaters_0 : decode cX7_beaters 0 = .ok (.iconst 0, 1) := by decide +kernel
theorem dX7_beaters_1 : decode cX7_beaters 1 = .ok (.istore_n 3, 1) := by decide +kernel
theorem dX7_beaters_2 : decode cX7_beaters 2 = .ok (.iconst 0, 1) := by decide +kernel
theorem dX7_beaters_3 : decode cX7_beaters 3 = .ok (.istore 4, 2) := by decide +kernel
theorem dX7_beaters_5 : decode cX7_beaters 5 = .ok (.iload 4, 2) := by decide +kernel
theorem dX7_beaters_7 : decode cX7_beaters 7 = .ok (.bipush 32, 2) := by decide +kernel
theorem dX7_beaters_9 : decode cX7_beaters 9 = .ok (.if_icmp .ge 39, 3) := by decide +kernel
theorem dX7_beaters_12 : decode cX7_beaters 12 = .ok (.iload_n 3, 1) := by decide +kernel
theorem dX7_beaters_13 : decode cX7_beaters 13 = .ok (.iload_n 1, 1) := by decide +kernel
theorem dX7_beaters_14 : decode cX7_beaters 14 = .ok (.iload 4, 2) := by decide +kernel
theorem dX7_beaters_16 : decode cX7_beaters 16 = .ok (.invokestatic 72, 3) := by decide +kernel
theorem dX7_beaters_19 : decode cX7_beaters 19 = .ok (.ifCond .eq 20, 3) := by decide +kernel
theorem dX7_beaters_22 : decode cX7_beaters 22 = .ok (.aload_n 0, 1) := by decide +kernel
theorem dX7_beaters_23 : decode cX7_beaters 23 = .ok (.iload 4, 2) := by decide +kernel
theorem dX7_beaters_25 : decode cX7_beaters 25 = .ok (.iload_n 2, 1) := by decide +kernel
theorem dX7_beaters_26 : decode cX7_beaters 26 = .ok (.invokevirtual 76, 3) := by decide +kernel
theorem dX7_beaters_29 : decode cX7_beaters 29 = .ok (.ifCond .eq 10, 3) := by decide +kernel
theorem dX7_beaters_32 : decode cX7_beaters 32 = .ok (.iconst 1, 1) := by decide +kernel
theorem dX7_beaters_33 : decode cX7_beaters 33 = .ok (.iload 4, 2) := by decide +kernel
theorem dX7_beaters_35 : decode cX7_beaters 35 = .ok (.ishl, 1) := by decide +kernel
theorem dX7_beaters_36 : decode cX7_beaters 36 = .ok (.goto 4, 3) := by decide +kernel
theorem dX7_beaters_39 : decode cX7_beaters 39 = .ok (.iconst 0, 1) := by decide +kernel
theorem dX7_beaters_40 : decode cX7_beaters 40 = .ok (.ior, 1) := by decide +kernel
theorem dX7_beaters_41 : decode cX7_beaters 41 = .ok (.istore_n 3, 1) := by decide +kernel
theorem dX7_beaters_42 : decode cX7_beaters 42 = .ok (.iinc 4 1, 3) := by decide +kernel
theorem dX7_beaters_45 : decode cX7_beaters 45 = .ok (.goto (-40), 3) := by decide +kernel
theorem dX7_beaters_48 : decode cX7_beaters 48 = .ok (.iload_n 3, 1) := by decide +kernel
theorem dX7_beaters_49 : decode cX7_beaters 49 = .ok (.ireturn, 1) := by decide +kernel
set_option maxRecDepth 20000 in
theorem ggX7_highest_X7_has : GoodIn wsX7_highest wsX7_has := goodIn_r _ [4] (by decide +kernel) (by decide +kernel)
set_option maxRecDepth 20000 in
theorem gX7_highest_X7_has : GoodIn wsX7_highest (va_wsS RX7 72 yX7_has wsX7_has) := goodIn_app (goodIn_of _ (by decide +kernel)) ggX7_highest_X7_has
theorem dX7_highest_0 : decode cX7_highest 0 = .ok (.iconst (-1), 1) := by decide +kernel
theorem dX7_highest_1 : decode cX7_highest 1 = .ok (.istore_n 1, 1) := by decide +kernel
theorem dX7_highest_2 : decode cX7_highest 2 = .ok (.iconst 0, 1) := by decide +kernel
theorem dX7_highest_3 : decode cX7_highest 3 = .ok (.istore_n 2, 1) := by decide +kernel
theorem dX7_highest_4 : decode cX7_highest 4 = .ok (.iload_n 2, 1) := by decide +kernel
theorem dX7_highest_5 : decode cX7_highest 5 = .ok (.bipush 32, 2) := by decide +kernel
theorem dX7_highest_7 : decode cX7_highest 7 = .ok (.if_icmp .ge 38, 3) := by decide +kernel
theorem dX7_highest_10 : decode cX7_highest 10 = .ok (.iload_n 0, 1) := by decide +kernel
theorem dX7_highest_11 : decode cX7_highest 11 = .ok (.iload_n 2, 1) := by decide +kernel
theorem dX7_highest_12 : decode cX7_highest 12 = .ok (.invokestatic 72, 3) := by decide +kernel
theorem dX7_highest_15 : decode cX7_highest 15 = .ok (.ifCond .eq 22, 3) := by decide +kernel
theorem dX7_highest_18 : decode cX7_highest 18 = .ok (.iload_n 1, 1) := by decide +kernel
theorem dX7_highest_19 : decode cX7_highest 19 = .ok (.ifCond .lt 14, 3) := by decide +kernel
theorem dX7_highest_22 : decode cX7_highest 22 = .ok (.iload_n 2, 1) := by decide +kernel
theorem dX7_highest_23 : decode cX7_highest 23 = .ok (.bipush 8, 2) := by decide +kernel
theorem dX7_highest_25 : decode cX7_highest 25 = .ok (.irem, 1) := by decide +kernel
theorem dX7_highest_26 : decode cX7_highest 26 = .ok (.iload_n 1, 1) := by decide +kernel
theorem dX7_highest_27 : decode cX7_highest 27 = .ok (.bipush 8, 2) := by decide +kernel
theorem dX7_highest_29 : decode cX7_highest 29 = .ok (.irem, 1) := by decide +kernel
theorem dX7_highest_30 : decode cX7_highest 30 = .ok (.if_icmp .le 7, 3) := by decide +kernel
theorem dX7_highest_33 : decode cX7_highest 33 = .ok (.iload_n 2, 1) := by decide +kernel
theorem dX7_highest_34 : decode cX7_highest 34 = .ok (.goto 4, 3) := by decide +kernel
theorem dX7_highest_37 : decode cX7_highest 37 = .ok (.iload_n 1, 1) := by decide +kernel
theorem dX7_highest_38 : decode cX7_highest 38 = .ok (.istore_n 1, 1) := by decide +kernel
theorem dX7_highest_39 : decode cX7_highest 39 = .ok (.iinc 2 1, 3) := by decide +kernel
theorem dX7_highest_42 : decode cX7_highest 42 = .ok (.goto (-38), 3) := by decide +kernel
theorem dX7_highest_45 : decode cX7_highest 45 = .ok (.iload_n 1, 1) := by decide +kernel
theorem dX7_highest_46 : decode cX7_highest 46 = .ok (.ireturn, 1) := by decide +kernel
set_option maxRecDepth 20000 in
theorem ggX7_lowest_X7_has : GoodIn wsX7_lowest wsX7_has := goodIn_r _ [4] (by decide +kernel) (by decide +kernel)
set_option maxRecDepth 20000 in
theorem gX7_lowest_X7_has : GoodIn wsX7_lowest (va_wsS RX7 72 yX7_has wsX7_has) := goodIn_app (goodIn_of _ (by decide +kernel)) ggX7_lowest_X7_has
theorem dX7_lowest_0 : decode cX7_lowest 0 = .ok (.iconst (-1), 1) := by decide +kernel
theorem dX7_lowest_1 : decode cX7_lowest 1 = .ok (.istore_n 1, 1) := by decide +kernel
theorem dX7_lowest_2 : decode cX7_lowest 2 = .ok (.iconst 0, 1) := by decide +kernel
theorem dX7_lowest_3 : decode cX7_lowest 3 = .ok (.istore_n 2, 1) := by decide +kernel
theorem dX7_lowest_4 : decode cX7_lowest 4 = .ok (.iload_n 2, 1) := by decide +kernel
theorem dX7_lowest_5 : decode cX7_lowest 5 = .ok (.bipush 32, 2) := by decide +kernel
theorem dX7_lowest_7 : decode cX7_lowest 7 = .ok (.if_icmp .ge 38, 3) := by decide +kernel
theorem dX7_lowest_10 : decode cX7_lowest 10 = .ok (.iload_n 0, 1) := by decide +kernel
theorem dX7_lowest_11 : decode cX7_lowest 11 = .ok (.iload_n 2, 1) := by decide +kernel
theorem dX7_lowest_12 : decode cX7_lowest 12 = .ok (.invokestatic 72, 3) := by decide +kernel
theorem dX7_lowest_15 : decode cX7_lowest 15 = .ok (.ifCond .eq 22, 3) := by decide +kernel
theorem dX7_lowest_18 : decode cX7_lowest 18 = .ok (.iload_n 1, 1) := by decide +kernel
theorem dX7_lowest_19 : decode cX7_lowest 19 = .ok (.ifCond .lt 14, 3) := by decide +kernel
theorem dX7_lowest_22 : decode cX7_lowest 22 = .ok (.iload_n 2, 1) := by decide +kernel
theorem dX7_lowest_23 : decode cX7_lowest 23 = .ok (.bipush 8, 2) := by decide +kernel
theorem dX7_lowest_25 : decode cX7_lowest 25 = .ok (.irem, 1) := by decide +kernel
theorem dX7_lowest_26 : decode cX7_lowest 26 = .ok (.iload_n 1, 1) := by decide +kernel
theorem dX7_lowest_27 : decode cX7_lowest 27 = .ok (.bipush 8, 2) := by decide +kernel
theorem dX7_lowest_29 : decode cX7_lowest 29 = .ok (.irem, 1) := by decide +kernel
theorem dX7_lowest_30 : decode cX7_lowest 30 = .ok (.if_icmp .ge 7, 3) := by decide +kernel
theorem dX7_lowest_33 : decode cX7_lowest 33 = .ok (.iload_n 2, 1) := by decide +kernel
theorem dX7_lowest_34 : decode cX7_lowest 34 = .ok (.goto 4, 3) := by decide +kernel
theorem dX7_lowest_37 : decode cX7_lowest 37 = .ok (.iload_n 1, 1) := by decide +kernel
theorem dX7_lowest_38 : decode cX7_lowest 38 = .ok (.istore_n 1, 1) := by decide +kernel
theorem dX7_lowest_39 : decode cX7_lowest 39 = .ok (.iinc 2 1, 3) := by decide +kernel
theorem dX7_lowest_42 : decode cX7_lowest 42 = .ok (.goto (-38), 3) := by decide +kernel
theorem dX7_lowest_45 : decode cX7_lowest 45 = .ok (.iload_n 1, 1) := by decide +kernel
theorem dX7_lowest_46 : decode cX7_lowest 46 = .ok (.ireturn, 1) := by decide +kernel
set_option maxRecDepth 20000 in
theorem ggX7_ledBy_X7_trumpsOf : GoodIn wsX7_ledBy wsX7_trumpsOf := goodIn_r _ [5, 6, 23, 24, 25, 26, 27, 28, 29, 30, 31, 32, 33, 34, 35, 36, 37, 38, 39] (by decide +kernel) (by decide +kernel)
set_option maxRecDepth 20000 in
theorem gX7_ledBy_X7_trumpsOf : GoodIn wsX7_ledBy (wsV RX7 79 RX7 yX7_trumpsOf wsX7_trumpsOf) := goodIn_app (goodIn_of _ (by decide +kernel)) ggX7_ledBy_X7_trumpsOf
set_option maxRecDepth 20000 in
theorem ggX7_ledBy_X7_it : GoodIn wsX7_ledBy wsX7_it := goodIn_r _ [10, 6, 23, 24, 25, 26, 27, 28, 29, 30, 31, 32, 33, 34, 35, 36, 37, 38, 39] (by decide +kernel) (by decide +kernel)
set_option maxRecDepth 20000 in
theorem gX7_ledBy_X7_it : GoodIn wsX7_ledBy (wsV RX7 82 RX7 yX7_it wsX7_it) := goodIn_app (goodIn_of _ (by decide +kernel)) ggX7_ledBy_X7_it
set_option maxRecDepth 20000 in
theorem ggX7_ledBy_X7_lowest : GoodIn wsX7_ledBy wsX7_lowest := goodIn_r _ [13, 14, 15, 4, 16] (by decide +kernel) (by decide +kernel)
set_option maxRecDepth 20000 in
theorem gX7_ledBy_X7_lowest : GoodIn wsX7_ledBy (va_wsS RX7 85 yX7_lowest wsX7_lowest) := goodIn_app (goodIn_of _ (by decide +kernel)) ggX7_ledBy_X7_lowest
set_option maxRecDepth 20000 in
theorem ggX7_ledBy_X7_highest : GoodIn wsX7_ledBy wsX7_highest := goodIn_r _ [19, 14, 15, 4, 16] (by decide +kernel) (by decide +kernel)
set_option maxRecDepth 20000 in
theorem gX7_ledBy_X7_highest : GoodIn wsX7_ledBy (va_wsS RX7 88 yX7_highest wsX7_highest) := goodIn_app (goodIn_of _ (by decide +kernel)) ggX7_ledBy_X7_highest
set_option maxRecDepth 20000 in
theorem ggX7_ledBy_X7_bits : GoodIn wsX7_ledBy wsX7_bits := goodIn_r _ [22] (by decide +kernel) (by decide +kernel)
set_option maxRecDepth 20000 in
theorem gX7_ledBy_X7_bits : GoodIn wsX7_ledBy (va_wsS RX7 91 yX7_bits wsX7_bits) := goodIn_app (goodIn_of _ (by decide +kernel)) ggX7_ledBy_X7_bits
theorem dX7_ledBy_0 : decode cX7_ledBy 0 = .ok (.aload_n 0, 1) := by decide +kernel
theorem dX7_ledBy_1 : decode cX7_ledBy 1 = .ok (.iload_n 2, 1) := by decide +kernel
theorem dX7_ledBy_2 : decode cX7_ledBy 2 = .ok (.invokevirtual 79, 3) := by decide +kernel
theorem dX7_ledBy_5 : decode cX7_ledBy 5 = .ok (.istore_n 3, 1) := by decide +kernel
theorem dX7_ledBy_6 : decode cX7_ledBy 6 = .ok (.aload_n 0, 1) := by decide +kernel
theorem dX7_ledBy_7 : decode cX7_ledBy 7 = .ok (.iload_n 1, 1) := by decide +kernel
theorem dX7_ledBy_8 : decode cX7_ledBy 8 = .ok (.iconst 0, 1) := by decide +kernel
theorem dX7_ledBy_9 : decode cX7_ledBy 9 = .ok (.invokevirtual 82, 3) := by decide +kernel
theorem dX7_ledBy_12 : decode cX7_ledBy 12 = .ok (.tableswitch 74 1 5 #[36, 41, 36, 54, 41], 36) := by decide +kernel
theorem dX7_ledBy_48 : decode cX7_ledBy 48 = .ok (.iload_n 2, 1) := by decide +kernel
theorem dX7_ledBy_49 : decode cX7_ledBy 49 = .ok (.invokestatic 85, 3) := by decide +kernel
theorem dX7_ledBy_52 : decode cX7_ledBy 52 = .ok (.ireturn, 1) := by decide +kernel
theorem dX7_ledBy_53 : decode cX7_ledBy 53 = .ok (.iload_n 3, 1) := by decide +kernel
theorem dX7_ledBy_54 : decode cX7_ledBy 54 = .ok (.ifCond .ne 7, 3) := by decide +kernel
theorem dX7_ledBy_57 : decode cX7_ledBy 57 = .ok (.iload_n 2, 1) := by decide +kernel
