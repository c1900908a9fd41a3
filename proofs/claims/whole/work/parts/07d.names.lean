theorem dX6_bringTablesUpToDate_80 : decode cX6_bringTablesUpToDate 80 = .ok (.invokestatic 237, 3) := by decide +kernel
theorem dX6_bringTablesUpToDate_83 : decode cX6_bringTablesUpToDate 83 = .ok (.ifCond .eq 15, 3) := by decide +kernel
theorem dX6_bringTablesUpToDate_86 : decode cX6_bringTablesUpToDate 86 = .ok (.aload 6, 2) := by decide +kernel
theorem dX6_bringTablesUpToDate_88 : decode cX6_bringTablesUpToDate 88 = .ok (.getfield 182, 3) := by decide +kernel
theorem dX6_bringTablesUpToDate_91 : decode cX6_bringTablesUpToDate 91 = .ok (.aload_n 1, 1) := by decide +kernel
theorem dX6_bringTablesUpToDate_92 : decode cX6_bringTablesUpToDate 92 = .ok (.getfield 182, 3) := by decide +kernel
theorem dX6_bringTablesUpToDate_95 : decode cX6_bringTablesUpToDate 95 = .ok (.invokevirtual 310, 3) := by decide +kernel
theorem dX6_bringTablesUpToDate_98 : decode cX6_bringTablesUpToDate 98 = .ok (.iinc 5 1, 3) := by decide +kernel
theorem dX6_bringTablesUpToDate_101 : decode cX6_bringTablesUpToDate 101 = .ok (.goto (-40), 3) := by decide +kernel
theorem dX6_bringTablesUpToDate_104 : decode cX6_bringTablesUpToDate 104 = .ok (.return_, 1) := by decide +kernel
set_option maxRecDepth 20000 in
theorem ggX6_keptByOne_X6_isIn : GoodIn wsX6_keptByOne wsX6_isIn := goodIn_r _ [9] (by decide +kernel) (by decide +kernel)
set_option maxRecDepth 20000 in
theorem gX6_keptByOne_X6_isIn : GoodIn wsX6_keptByOne (va_wsS RX6 237 yX6_isIn wsX6_isIn) := goodIn_app (goodIn_of _ (by decide +kernel)) ggX6_keptByOne_X6_isIn
theorem dX6_keptByOne_0 : decode cX6_keptByOne 0 = .ok (.aload_n 0, 1) := by decide +kernel
theorem dX6_keptByOne_1 : decode cX6_keptByOne 1 = .ok (.getfield 31, 3) := by decide +kernel
theorem dX6_keptByOne_4 : decode cX6_keptByOne 4 = .ok (.astore 4, 2) := by decide +kernel
theorem dX6_keptByOne_6 : decode cX6_keptByOne 6 = .ok (.aload 4, 2) := by decide +kernel
theorem dX6_keptByOne_8 : decode cX6_keptByOne 8 = .ok (.arraylength, 1) := by decide +kernel
theorem dX6_keptByOne_9 : decode cX6_keptByOne 9 = .ok (.istore 5, 2) := by decide +kernel
theorem dX6_keptByOne_11 : decode cX6_keptByOne 11 = .ok (.iconst 0, 1) := by decide +kernel
theorem dX6_keptByOne_12 : decode cX6_keptByOne 12 = .ok (.istore 6, 2) := by decide +kernel
theorem dX6_keptByOne_14 : decode cX6_keptByOne 14 = .ok (.iload 6, 2) := by decide +kernel
theorem dX6_keptByOne_16 : decode cX6_keptByOne 16 = .ok (.iload 5, 2) := by decide +kernel
theorem dX6_keptByOne_18 : decode cX6_keptByOne 18 = .ok (.if_icmp .ge 61, 3) := by decide +kernel
theorem dX6_keptByOne_21 : decode cX6_keptByOne 21 = .ok (.aload 4, 2) := by decide +kernel
theorem dX6_keptByOne_23 : decode cX6_keptByOne 23 = .ok (.iload 6, 2) := by decide +kernel
theorem dX6_keptByOne_25 : decode cX6_keptByOne 25 = .ok (.aaload, 1) := by decide +kernel
theorem dX6_keptByOne_26 : decode cX6_keptByOne 26 = .ok (.astore 7, 2) := by decide +kernel
theorem dX6_keptByOne_28 : decode cX6_keptByOne 28 = .ok (.aload 7, 2) := by decide +kernel
theorem dX6_keptByOne_30 : decode cX6_keptByOne 30 = .ok (.getfield 244, 3) := by decide +kernel
theorem dX6_keptByOne_33 : decode cX6_keptByOne 33 = .ok (.iload_n 1, 1) := by decide +kernel
theorem dX6_keptByOne_34 : decode cX6_keptByOne 34 = .ok (.invokestatic 237, 3) := by decide +kernel
theorem dX6_keptByOne_37 : decode cX6_keptByOne 37 = .ok (.ifCond .eq 36, 3) := by decide +kernel
theorem dX6_keptByOne_40 : decode cX6_keptByOne 40 = .ok (.aload 7, 2) := by decide +kernel
theorem dX6_keptByOne_42 : decode cX6_keptByOne 42 = .ok (.getfield 191, 3) := by decide +kernel
theorem dX6_keptByOne_45 : decode cX6_keptByOne 45 = .ok (.iload_n 2, 1) := by decide +kernel
theorem dX6_keptByOne_46 : decode cX6_keptByOne 46 = .ok (.if_icmp .ne 27, 3) := by decide +kernel
theorem dX6_keptByOne_49 : decode cX6_keptByOne 49 = .ok (.aload 7, 2) := by decide +kernel
theorem dX6_keptByOne_51 : decode cX6_keptByOne 51 = .ok (.getfield 182, 3) := by decide +kernel
theorem dX6_keptByOne_54 : decode cX6_keptByOne 54 = .ok (.getfield 314, 3) := by decide +kernel
theorem dX6_keptByOne_57 : decode cX6_keptByOne 57 = .ok (.iload_n 3, 1) := by decide +kernel
theorem dX6_keptByOne_58 : decode cX6_keptByOne 58 = .ok (.aaload, 1) := by decide +kernel
theorem dX6_keptByOne_59 : decode cX6_keptByOne 59 = .ok (.ifnull 14, 3) := by decide +kernel
theorem dX6_keptByOne_62 : decode cX6_keptByOne 62 = .ok (.aload 7, 2) := by decide +kernel
theorem dX6_keptByOne_64 : decode cX6_keptByOne 64 = .ok (.getfield 182, 3) := by decide +kernel
theorem dX6_keptByOne_67 : decode cX6_keptByOne 67 = .ok (.getfield 314, 3) := by decide +kernel
theorem dX6_keptByOne_70 : decode cX6_keptByOne 70 = .ok (.iload_n 3, 1) := by decide +kernel
theorem dX6_keptByOne_71 : decode cX6_keptByOne 71 = .ok (.aaload, 1) := by decide +kernel
theorem dX6_keptByOne_72 : decode cX6_keptByOne 72 = .ok (.areturn, 1) := by decide +kernel
theorem dX6_keptByOne_73 : decode cX6_keptByOne 73 = .ok (.iinc 6 1, 3) := by decide +kernel
theorem dX6_keptByOne_76 : decode cX6_keptByOne 76 = .ok (.goto (-62), 3) := by decide +kernel
theorem dX6_keptByOne_79 : decode cX6_keptByOne 79 = .ok (.aconst_null, 1) := by decide +kernel
theorem dX6_keptByOne_80 : decode cX6_keptByOne 80 = .ok (.areturn, 1) := by decide +kernel
set_option maxRecDepth 20000 in
theorem ggX6_beginRing_X6_isIn : GoodIn wsX6_beginRing wsX6_isIn := goodIn_r _ [12] (by decide +kernel) (by decide +kernel)
set_option maxRecDepth 20000 in
theorem gX6_beginRing_X6_isIn : GoodIn wsX6_beginRing (va_wsS RX6 237 yX6_isIn wsX6_isIn) := goodIn_app (goodIn_of _ (by decide +kernel)) ggX6_beginRing_X6_isIn
set_option maxRecDepth 20000 in
theorem ggX6_beginRing_X2_leaveRing : GoodIn wsX6_beginRing wsX2_leaveRing := goodIn_r _ [17, 18, 19, 20, 21, 22, 23, 80, 81, 82, 83, 84, 85, 86, 87, 88, 89, 90, 91, 92, 93, 94, 95, 96, 97, 98] (by decide +kernel) (by decide +kernel)
set_option maxRecDepth 20000 in
theorem gX6_beginRing_X2_leaveRing : GoodIn wsX6_beginRing (wsV RX6 164 RX2 yX2_leaveRing wsX2_leaveRing) := goodIn_app (goodIn_of _ (by decide +kernel)) ggX6_beginRing_X2_leaveRing
set_option maxRecDepth 20000 in
theorem ggX6_beginRing_X6_unusedRing : GoodIn wsX6_beginRing wsX6_unusedRing := goodIn_r _ [27, 1, 28, 29, 30, 31, 11, 32, 33, 2, 9, 10, 12, 76, 77, 78, 79, 80, 81, 82, 83, 84, 85, 86, 87, 88, 89, 90, 91, 92] (by decide +kernel) (by decide +kernel)
set_option maxRecDepth 20000 in
theorem gX6_beginRing_X6_unusedRing : GoodIn wsX6_beginRing (wsV RX6 317 RX6 yX6_unusedRing wsX6_unusedRing) := goodIn_app (goodIn_of _ (by decide +kernel)) ggX6_beginRing_X6_unusedRing
set_option maxRecDepth 20000 in
theorem ggX6_beginRing_X5_begin : GoodIn wsX6_beginRing wsX5_begin := goodIn_r _ [38, 39, 40, 41, 42, 43, 44, 45, 11, 46, 9, 10, 12, 93, 94, 95, 96, 97, 98] (by decide +kernel) (by decide +kernel)
set_option maxRecDepth 20000 in
theorem gX6_beginRing_X5_begin : GoodIn wsX6_beginRing (wsV RX6 321 RX5 yX5_begin wsX5_begin) := goodIn_app (goodIn_of _ (by decide +kernel)) ggX6_beginRing_X5_begin
set_option maxRecDepth 20000 in
theorem ggX6_beginRing_X2_joinRing : GoodIn wsX6_beginRing wsX2_joinRing := goodIn_r _ [50, 18, 51, 52, 53, 54, 55, 56, 57, 58, 59, 60, 61, 62, 63, 64, 65, 66, 67, 68, 69, 70, 71, 72, 73, 74, 75, 80, 81, 82, 83, 84, 85, 86, 87, 88, 89, 90, 91, 92, 93, 94, 95, 96, 97, 98, 99, 100, 101, 102, 103, 104, 105] (by decide +kernel) (by decide +kernel)
set_option maxRecDepth 20000 in
theorem gX6_beginRing_X2_joinRing : GoodIn wsX6_beginRing (wsV RX6 325 RX2 yX2_joinRing wsX2_joinRing) := goodIn_app (goodIn_of _ (by decide +kernel)) ggX6_beginRing_X2_joinRing
theorem dX6_beginRing_0 : decode cX6_beginRing 0 = .ok (.iconst 0, 1) := by decide +kernel
theorem dX6_beginRing_1 : decode cX6_beginRing 1 = .ok (.istore_n 3, 1) := by decide +kernel
theorem dX6_beginRing_2 : decode cX6_beginRing 2 = .ok (.aload_n 0, 1) := by decide +kernel
theorem dX6_beginRing_3 : decode cX6_beginRing 3 = .ok (.getfield 31, 3) := by decide +kernel
theorem dX6_beginRing_6 : decode cX6_beginRing 6 = .ok (.astore 4, 2) := by decide +kernel
theorem dX6_beginRing_8 : decode cX6_beginRing 8 = .ok (.aload 4, 2) := by decide +kernel
theorem dX6_beginRing_10 : decode cX6_beginRing 10 = .ok (.arraylength, 1) := by decide +kernel
theorem dX6_beginRing_11 : decode cX6_beginRing 11 = .ok (.istore 5, 2) := by decide +kernel
theorem dX6_beginRing_13 : decode cX6_beginRing 13 = .ok (.iconst 0, 1) := by decide +kernel
theorem dX6_beginRing_14 : decode cX6_beginRing 14 = .ok (.istore 6, 2) := by decide +kernel
theorem dX6_beginRing_16 : decode cX6_beginRing 16 = .ok (.iload 6, 2) := by decide +kernel
theorem dX6_beginRing_18 : decode cX6_beginRing 18 = .ok (.iload 5, 2) := by decide +kernel
theorem dX6_beginRing_20 : decode cX6_beginRing 20 = .ok (.if_icmp .ge 47, 3) := by decide +kernel
theorem dX6_beginRing_23 : decode cX6_beginRing 23 = .ok (.aload 4, 2) := by decide +kernel
theorem dX6_beginRing_25 : decode cX6_beginRing 25 = .ok (.iload 6, 2) := by decide +kernel
theorem dX6_beginRing_27 : decode cX6_beginRing 27 = .ok (.aaload, 1) := by decide +kernel
theorem dX6_beginRing_28 : decode cX6_beginRing 28 = .ok (.astore 7, 2) := by decide +kernel
theorem dX6_beginRing_30 : decode cX6_beginRing 30 = .ok (.aload 7, 2) := by decide +kernel
theorem dX6_beginRing_32 : decode cX6_beginRing 32 = .ok (.getfield 244, 3) := by decide +kernel
theorem dX6_beginRing_35 : decode cX6_beginRing 35 = .ok (.iload_n 1, 1) := by decide +kernel
theorem dX6_beginRing_36 : decode cX6_beginRing 36 = .ok (.invokestatic 237, 3) := by decide +kernel
theorem dX6_beginRing_39 : decode cX6_beginRing 39 = .ok (.ifCond .eq 22, 3) := by decide +kernel
theorem dX6_beginRing_42 : decode cX6_beginRing 42 = .ok (.iload_n 3, 1) := by decide +kernel
theorem dX6_beginRing_43 : decode cX6_beginRing 43 = .ok (.aload 7, 2) := by decide +kernel
theorem dX6_beginRing_45 : decode cX6_beginRing 45 = .ok (.getfield 194, 3) := by decide +kernel
theorem dX6_beginRing_48 : decode cX6_beginRing 48 = .ok (.invokestatic 15, 3) := by decide +kernel
theorem dX6_beginRing_51 : decode cX6_beginRing 51 = .ok (.istore_n 3, 1) := by decide +kernel
theorem dX6_beginRing_52 : decode cX6_beginRing 52 = .ok (.aload 7, 2) := by decide +kernel
theorem dX6_beginRing_54 : decode cX6_beginRing 54 = .ok (.aload_n 0, 1) := by decide +kernel
theorem dX6_beginRing_55 : decode cX6_beginRing 55 = .ok (.getfield 25, 3) := by decide +kernel
theorem dX6_beginRing_58 : decode cX6_beginRing 58 = .ok (.invokevirtual 164, 3) := by decide +kernel
theorem dX6_beginRing_61 : decode cX6_beginRing 61 = .ok (.iinc 6 1, 3) := by decide +kernel
theorem dX6_beginRing_64 : decode cX6_beginRing 64 = .ok (.goto (-48), 3) := by decide +kernel
theorem dX6_beginRing_67 : decode cX6_beginRing 67 = .ok (.iinc 3 1, 3) := by decide +kernel
theorem dX6_beginRing_70 : decode cX6_beginRing 70 = .ok (.aload_n 0, 1) := by decide +kernel
theorem dX6_beginRing_71 : decode cX6_beginRing 71 = .ok (.invokevirtual 317, 3) := by decide +kernel
theorem dX6_beginRing_74 : decode cX6_beginRing 74 = .ok (.astore 4, 2) := by decide +kernel
theorem dX6_beginRing_76 : decode cX6_beginRing 76 = .ok (.aload 4, 2) := by decide +kernel
theorem dX6_beginRing_78 : decode cX6_beginRing 78 = .ok (.iload_n 3, 1) := by decide +kernel
theorem dX6_beginRing_79 : decode cX6_beginRing 79 = .ok (.iload_n 1, 1) := by decide +kernel
theorem dX6_beginRing_80 : decode cX6_beginRing 80 = .ok (.invokevirtual 321, 3) := by decide +kernel
theorem dX6_beginRing_83 : decode cX6_beginRing 83 = .ok (.aload_n 0, 1) := by decide +kernel
theorem dX6_beginRing_84 : decode cX6_beginRing 84 = .ok (.getfield 31, 3) := by decide +kernel
theorem dX6_beginRing_87 : decode cX6_beginRing 87 = .ok (.astore 5, 2) := by decide +kernel
theorem dX6_beginRing_89 : decode cX6_beginRing 89 = .ok (.aload 5, 2) := by decide +kernel
theorem dX6_beginRing_91 : decode cX6_beginRing 91 = .ok (.arraylength, 1) := by decide +kernel
theorem dX6_beginRing_92 : decode cX6_beginRing 92 = .ok (.istore 6, 2) := by decide +kernel
theorem dX6_beginRing_94 : decode cX6_beginRing 94 = .ok (.iconst 0, 1) := by decide +kernel
theorem dX6_beginRing_95 : decode cX6_beginRing 95 = .ok (.istore 7, 2) := by decide +kernel
theorem dX6_beginRing_97 : decode cX6_beginRing 97 = .ok (.iload 7, 2) := by decide +kernel
theorem dX6_beginRing_99 : decode cX6_beginRing 99 = .ok (.iload 6, 2) := by decide +kernel
theorem dX6_beginRing_101 : decode cX6_beginRing 101 = .ok (.if_icmp .ge 36, 3) := by decide +kernel
theorem dX6_beginRing_104 : decode cX6_beginRing 104 = .ok (.aload 5, 2) := by decide +kernel
theorem dX6_beginRing_106 : decode cX6_beginRing 106 = .ok (.iload 7, 2) := by decide +kernel
theorem dX6_beginRing_108 : decode cX6_beginRing 108 = .ok (.aaload, 1) := by decide +kernel
theorem dX6_beginRing_109 : decode cX6_beginRing 109 = .ok (.astore 8, 2) := by decide +kernel
theorem dX6_beginRing_111 : decode cX6_beginRing 111 = .ok (.aload 8, 2) := by decide +kernel
theorem dX6_beginRing_113 : decode cX6_beginRing 113 = .ok (.getfield 244, 3) := by decide +kernel
theorem dX6_beginRing_116 : decode cX6_beginRing 116 = .ok (.iload_n 1, 1) := by decide +kernel
theorem dX6_beginRing_117 : decode cX6_beginRing 117 = .ok (.invokestatic 237, 3) := by decide +kernel
theorem dX6_beginRing_120 : decode cX6_beginRing 120 = .ok (.ifCond .eq 11, 3) := by decide +kernel
theorem dX6_beginRing_123 : decode cX6_beginRing 123 = .ok (.aload 8, 2) := by decide +kernel
theorem dX6_beginRing_125 : decode cX6_beginRing 125 = .ok (.aload 4, 2) := by decide +kernel
theorem dX6_beginRing_127 : decode cX6_beginRing 127 = .ok (.iload_n 2, 1) := by decide +kernel
theorem dX6_beginRing_128 : decode cX6_beginRing 128 = .ok (.invokevirtual 325, 3) := by decide +kernel
theorem dX6_beginRing_131 : decode cX6_beginRing 131 = .ok (.iinc 7 1, 3) := by decide +kernel
theorem dX6_beginRing_134 : decode cX6_beginRing 134 = .ok (.goto (-37), 3) := by decide +kernel
theorem dX6_beginRing_137 : decode cX6_beginRing 137 = .ok (.iload_n 3, 1) := by decide +kernel
theorem dX6_beginRing_138 : decode cX6_beginRing 138 = .ok (.ireturn, 1) := by decide +kernel
set_option maxRecDepth 20000 in
theorem ggX6_unusedRing_X6_ofRing : GoodIn wsX6_unusedRing wsX6_ofRing := goodIn_r _ [7, 1, 8, 9, 10, 11, 6, 12, 13, 14, 15, 16, 17, 18, 19, 20, 21, 22, 23, 24, 25, 26, 27, 28, 29] (by decide +kernel) (by decide +kernel)
set_option maxRecDepth 20000 in
theorem gX6_unusedRing_X6_ofRing : GoodIn wsX6_unusedRing (wsV RX6 271 RX6 yX6_ofRing wsX6_ofRing) := goodIn_app (goodIn_of _ (by decide +kernel)) ggX6_unusedRing_X6_ofRing
theorem dX6_unusedRing_0 : decode cX6_unusedRing 0 = .ok (.iconst 1, 1) := by decide +kernel
theorem dX6_unusedRing_1 : decode cX6_unusedRing 1 = .ok (.aload_n 0, 1) := by decide +kernel
theorem dX6_unusedRing_2 : decode cX6_unusedRing 2 = .ok (.getfield 31, 3) := by decide +kernel
theorem dX6_unusedRing_5 : decode cX6_unusedRing 5 = .ok (.arraylength, 1) := by decide +kernel
theorem dX6_unusedRing_6 : decode cX6_unusedRing 6 = .ok (.ishl, 1) := by decide +kernel
theorem dX6_unusedRing_7 : decode cX6_unusedRing 7 = .ok (.iconst 1, 1) := by decide +kernel
theorem dX6_unusedRing_8 : decode cX6_unusedRing 8 = .ok (.isub, 1) := by decide +kernel
theorem dX6_unusedRing_9 : decode cX6_unusedRing 9 = .ok (.istore_n 1, 1) := by decide +kernel
theorem dX6_unusedRing_10 : decode cX6_unusedRing 10 = .ok (.aload_n 0, 1) := by decide +kernel
theorem dX6_unusedRing_11 : decode cX6_unusedRing 11 = .ok (.getfield 35, 3) := by decide +kernel
theorem dX6_unusedRing_14 : decode cX6_unusedRing 14 = .ok (.iconst 0, 1) := by decide +kernel
theorem dX6_unusedRing_15 : decode cX6_unusedRing 15 = .ok (.aaload, 1) := by decide +kernel
theorem dX6_unusedRing_16 : decode cX6_unusedRing 16 = .ok (.astore_n 2, 1) := by decide +kernel
theorem dX6_unusedRing_17 : decode cX6_unusedRing 17 = .ok (.aload_n 0, 1) := by decide +kernel
theorem dX6_unusedRing_18 : decode cX6_unusedRing 18 = .ok (.getfield 35, 3) := by decide +kernel
theorem dX6_unusedRing_21 : decode cX6_unusedRing 21 = .ok (.astore_n 3, 1) := by decide +kernel
theorem dX6_unusedRing_22 : decode cX6_unusedRing 22 = .ok (.aload_n 3, 1) := by decide +kernel
theorem dX6_unusedRing_23 : decode cX6_unusedRing 23 = .ok (.arraylength, 1) := by decide +kernel
theorem dX6_unusedRing_24 : decode cX6_unusedRing 24 = .ok (.istore 4, 2) := by decide +kernel
theorem dX6_unusedRing_26 : decode cX6_unusedRing 26 = .ok (.iconst 0, 1) := by decide +kernel
theorem dX6_unusedRing_27 : decode cX6_unusedRing 27 = .ok (.istore 5, 2) := by decide +kernel
theorem dX6_unusedRing_29 : decode cX6_unusedRing 29 = .ok (.iload 5, 2) := by decide +kernel
theorem dX6_unusedRing_31 : decode cX6_unusedRing 31 = .ok (.iload 4, 2) := by decide +kernel
theorem dX6_unusedRing_33 : decode cX6_unusedRing 33 = .ok (.if_icmp .ge 28, 3) := by decide +kernel
theorem dX6_unusedRing_36 : decode cX6_unusedRing 36 = .ok (.aload_n 3, 1) := by decide +kernel
theorem dX6_unusedRing_37 : decode cX6_unusedRing 37 = .ok (.iload 5, 2) := by decide +kernel
theorem dX6_unusedRing_39 : decode cX6_unusedRing 39 = .ok (.aaload, 1) := by decide +kernel
theorem dX6_unusedRing_40 : decode cX6_unusedRing 40 = .ok (.astore 6, 2) := by decide +kernel
theorem dX6_unusedRing_42 : decode cX6_unusedRing 42 = .ok (.aload_n 0, 1) := by decide +kernel
theorem dX6_unusedRing_43 : decode cX6_unusedRing 43 = .ok (.aload 6, 2) := by decide +kernel
theorem dX6_unusedRing_45 : decode cX6_unusedRing 45 = .ok (.iload_n 1, 1) := by decide +kernel
theorem dX6_unusedRing_46 : decode cX6_unusedRing 46 = .ok (.invokevirtual 271, 3) := by decide +kernel
theorem dX6_unusedRing_49 : decode cX6_unusedRing 49 = .ok (.ifCond .ne 6, 3) := by decide +kernel
theorem dX6_unusedRing_52 : decode cX6_unusedRing 52 = .ok (.aload 6, 2) := by decide +kernel
theorem dX6_unusedRing_54 : decode cX6_unusedRing 54 = .ok (.astore_n 2, 1) := by decide +kernel
theorem dX6_unusedRing_55 : decode cX6_unusedRing 55 = .ok (.iinc 5 1, 3) := by decide +kernel
theorem dX6_unusedRing_58 : decode cX6_unusedRing 58 = .ok (.goto (-29), 3) := by decide +kernel
theorem dX6_unusedRing_61 : decode cX6_unusedRing 61 = .ok (.aload_n 2, 1) := by decide +kernel
theorem dX6_unusedRing_62 : decode cX6_unusedRing 62 = .ok (.areturn, 1) := by decide +kernel
theorem dX7_init_0 : decode cX7_init 0 = .ok (.aload_n 0, 1) := by decide +kernel
theorem dX7_init_1 : decode cX7_init 1 = .ok (.invokespecial 1, 3) := by decide +kernel
theorem dX7_init_4 : decode cX7_init 4 = .ok (.aload_n 0, 1) := by decide +kernel
theorem dX7_init_5 : decode cX7_init 5 = .ok (.bipush 8, 2) := by decide +kernel
theorem dX7_init_7 : decode cX7_init 7 = .ok (.newarray .boolean, 2) := by decide +kernel
theorem dX7_init_9 : decode cX7_init 9 = .ok (.putfield 7, 3) := by decide +kernel
theorem dX7_init_12 : decode cX7_init 12 = .ok (.aload_n 0, 1) := by decide +kernel
theorem dX7_init_13 : decode cX7_init 13 = .ok (.bipush 8, 2) := by decide +kernel
theorem dX7_init_15 : decode cX7_init 15 = .ok (.newarray .int, 2) := by decide +kernel
theorem dX7_init_17 : decode cX7_init 17 = .ok (.putfield 13, 3) := by decide +kernel
theorem dX7_init_20 : decode cX7_init 20 = .ok (.aload_n 0, 1) := by decide +kernel
theorem dX7_init_21 : decode cX7_init 21 = .ok (.bipush 8, 2) := by decide +kernel
theorem dX7_init_23 : decode cX7_init 23 = .ok (.newarray .int, 2) := by decide +kernel
theorem dX7_init_25 : decode cX7_init 25 = .ok (.putfield 17, 3) := by decide +kernel
theorem dX7_init_28 : decode cX7_init 28 = .ok (.aload_n 0, 1) := by decide +kernel
theorem dX7_init_29 : decode cX7_init 29 = .ok (.bipush 8, 2) := by decide +kernel
theorem dX7_init_31 : decode cX7_init 31 = .ok (.newarray .int, 2) := by decide +kernel
theorem dX7_init_33 : decode cX7_init 33 = .ok (.putfield 20, 3) := by decide +kernel
theorem dX7_init_36 : decode cX7_init 36 = .ok (.aload_n 0, 1) := by decide +kernel
theorem dX7_init_37 : decode cX7_init 37 = .ok (.sipush 128, 3) := by decide +kernel
theorem dX7_init_40 : decode cX7_init 40 = .ok (.newarray .long, 2) := by decide +kernel
theorem dX7_init_42 : decode cX7_init 42 = .ok (.putfield 23, 3) := by decide +kernel
theorem dX7_init_45 : decode cX7_init 45 = .ok (.aload_n 0, 1) := by decide +kernel
theorem dX7_init_46 : decode cX7_init 46 = .ok (.bipush 8, 2) := by decide +kernel
theorem dX7_init_48 : decode cX7_init 48 = .ok (.newarray .int, 2) := by decide +kernel
theorem dX7_init_50 : decode cX7_init 50 = .ok (.putfield 27, 3) := by decide +kernel
theorem dX7_init_53 : decode cX7_init 53 = .ok (.aload_n 0, 1) := by decide +kernel
theorem dX7_init_54 : decode cX7_init 54 = .ok (.bipush 8, 2) := by decide +kernel
theorem dX7_init_56 : decode cX7_init 56 = .ok (.newarray .long, 2) := by decide +kernel
theorem dX7_init_58 : decode cX7_init 58 = .ok (.putfield 30, 3) := by decide +kernel
theorem dX7_init_61 : decode cX7_init 61 = .ok (.aload_n 0, 1) := by decide +kernel
theorem dX7_init_62 : decode cX7_init 62 = .ok (.bipush 8, 2) := by decide +kernel
theorem dX7_init_64 : decode cX7_init 64 = .ok (.newarray .int, 2) := by decide +kernel
theorem dX7_init_66 : decode cX7_init 66 = .ok (.putfield 33, 3) := by decide +kernel
theorem dX7_init_69 : decode cX7_init 69 = .ok (.aload_n 0, 1) := by decide +kernel
theorem dX7_init_70 : decode cX7_init 70 = .ok (.bipush 8, 2) := by decide +kernel
theorem dX7_init_72 : decode cX7_init 72 = .ok (.newarray .int, 2) := by decide +kernel
theorem dX7_init_74 : decode cX7_init 74 = .ok (.putfield 36, 3) := by decide +kernel
theorem dX7_init_77 : decode cX7_init 77 = .ok (.aload_n 0, 1) := by decide +kernel
theorem dX7_init_78 : decode cX7_init 78 = .ok (.bipush 8, 2) := by decide +kernel
theorem dX7_init_80 : decode cX7_init 80 = .ok (.newarray .int, 2) := by decide +kernel
theorem dX7_init_82 : decode cX7_init 82 = .ok (.putfield 39, 3) := by decide +kernel
theorem dX7_init_85 : decode cX7_init 85 = .ok (.aload_n 0, 1) := by decide +kernel
theorem dX7_init_86 : decode cX7_init 86 = .ok (.bipush 96, 2) := by decide +kernel
theorem dX7_init_88 : decode cX7_init 88 = .ok (.newarray .int, 2) := by decide +kernel
theorem dX7_init_90 : decode cX7_init 90 = .ok (.putfield 42, 3) := by decide +kernel
theorem dX7_init_93 : decode cX7_init 93 = .ok (.aload_n 0, 1) := by decide +kernel
theorem dX7_init_94 : decode cX7_init 94 = .ok (.bipush 96, 2) := by decide +kernel
theorem dX7_init_96 : decode cX7_init 96 = .ok (.newarray .long, 2) := by decide +kernel
theorem dX7_init_98 : decode cX7_init 98 = .ok (.putfield 45, 3) := by decide +kernel
theorem dX7_init_101 : decode cX7_init 101 = .ok (.aload_n 0, 1) := by decide +kernel
theorem dX7_init_102 : decode cX7_init 102 = .ok (.bipush 96, 2) := by decide +kernel
theorem dX7_init_104 : decode cX7_init 104 = .ok (.newarray .boolean, 2) := by decide +kernel
theorem dX7_init_106 : decode cX7_init 106 = .ok (.putfield 48, 3) := by decide +kernel
theorem dX7_init_109 : decode cX7_init 109 = .ok (.aload_n 0, 1) := by decide +kernel
theorem dX7_init_110 : decode cX7_init 110 = .ok (.bipush 8, 2) := by decide +kernel
theorem dX7_init_112 : decode cX7_init 112 = .ok (.newarray .int, 2) := by decide +kernel
theorem dX7_init_114 : decode cX7_init 114 = .ok (.putfield 51, 3) := by decide +kernel
theorem dX7_init_117 : decode cX7_init 117 = .ok (.aload_n 0, 1) := by decide +kernel
theorem dX7_init_118 : decode cX7_init 118 = .ok (.bipush 8, 2) := by decide +kernel
theorem dX7_init_120 : decode cX7_init 120 = .ok (.newarray .int, 2) := by decide +kernel
theorem dX7_init_122 : decode cX7_init 122 = .ok (.putfield 54, 3) := by decide +kernel
theorem dX7_init_125 : decode cX7_init 125 = .ok (.aload_n 0, 1) := by decide +kernel
theorem dX7_init_126 : decode cX7_init 126 = .ok (.bipush 8, 2) := by decide +kernel
theorem dX7_init_128 : decode cX7_init 128 = .ok (.newarray .int, 2) := by decide +kernel
theorem dX7_init_130 : decode cX7_init 130 = .ok (.putfield 57, 3) := by decide +kernel
theorem dX7_init_133 : decode cX7_init 133 = .ok (.aload_n 0, 1) := by decide +kernel
theorem dX7_init_134 : decode cX7_init 134 = .ok (.sipush 808, 3) := by decide +kernel
theorem dX7_init_137 : decode cX7_init 137 = .ok (.newarray .boolean, 2) := by decide +kernel
theorem dX7_init_139 : decode cX7_init 139 = .ok (.putfield 60, 3) := by decide +kernel
theorem dX7_init_142 : decode cX7_init 142 = .ok (.aload_n 0, 1) := by decide +kernel
theorem dX7_init_143 : decode cX7_init 143 = .ok (.sipush 808, 3) := by decide +kernel
theorem dX7_init_146 : decode cX7_init 146 = .ok (.newarray .int, 2) := by decide +kernel
theorem dX7_init_148 : decode cX7_init 148 = .ok (.putfield 63, 3) := by decide +kernel
theorem dX7_init_151 : decode cX7_init 151 = .ok (.aload_n 0, 1) := by decide +kernel
theorem dX7_init_152 : decode cX7_init 152 = .ok (.sipush 808, 3) := by decide +kernel
theorem dX7_init_155 : decode cX7_init 155 = .ok (.newarray .long, 2) := by decide +kernel
theorem dX7_init_157 : decode cX7_init 157 = .ok (.putfield 66, 3) := by decide +kernel
theorem dX7_init_160 : decode cX7_init 160 = .ok (.aload_n 0, 1) := by decide +kernel
theorem dX7_init_161 : decode cX7_init 161 = .ok (.bipush 8, 2) := by decide +kernel
theorem dX7_init_163 : decode cX7_init 163 = .ok (.newarray .int, 2) := by decide +kernel
theorem dX7_init_165 : decode cX7_init 165 = .ok (.putfield 69, 3) := by decide +kernel
theorem dX7_init_168 : decode cX7_init 168 = .ok (.aload_n 0, 1) := by decide +kernel
theorem dX7_init_169 : decode cX7_init 169 = .ok (.sipush 4800, 3) := by decide +kernel
theorem dX7_init_172 : decode cX7_init 172 = .ok (.newarray .long, 2) := by decide +kernel
theorem dX7_init_174 : decode cX7_init 174 = .ok (.putfield 72, 3) := by decide +kernel
theorem dX7_init_177 : decode cX7_init 177 = .ok (.aload_n 0, 1) := by decide +kernel
theorem dX7_init_178 : decode cX7_init 178 = .ok (.bipush 16, 2) := by decide +kernel
theorem dX7_init_180 : decode cX7_init 180 = .ok (.newarray .int, 2) := by decide +kernel
theorem dX7_init_182 : decode cX7_init 182 = .ok (.putfield 75, 3) := by decide +kernel
theorem dX7_init_185 : decode cX7_init 185 = .ok (.aload_n 0, 1) := by decide +kernel
theorem dX7_init_186 : decode cX7_init 186 = .ok (.bipush 16, 2) := by decide +kernel
theorem dX7_init_188 : decode cX7_init 188 = .ok (.newarray .int, 2) := by decide +kernel
theorem dX7_init_190 : decode cX7_init 190 = .ok (.putfield 78, 3) := by decide +kernel
theorem dX7_init_193 : decode cX7_init 193 = .ok (.aload_n 0, 1) := by decide +kernel
theorem dX7_init_194 : decode cX7_init 194 = .ok (.bipush 16, 2) := by decide +kernel
theorem dX7_init_196 : decode cX7_init 196 = .ok (.newarray .boolean, 2) := by decide +kernel
theorem dX7_init_198 : decode cX7_init 198 = .ok (.putfield 81, 3) := by decide +kernel
theorem dX7_init_201 : decode cX7_init 201 = .ok (.aload_n 0, 1) := by decide +kernel
theorem dX7_init_202 : decode cX7_init 202 = .ok (.bipush 16, 2) := by decide +kernel
theorem dX7_init_204 : decode cX7_init 204 = .ok (.newarray .int, 2) := by decide +kernel
theorem dX7_init_206 : decode cX7_init 206 = .ok (.putfield 84, 3) := by decide +kernel
theorem dX7_init_209 : decode cX7_init 209 = .ok (.aload_n 0, 1) := by decide +kernel
theorem dX7_init_210 : decode cX7_init 210 = .ok (.bipush 16, 2) := by decide +kernel
theorem dX7_init_212 : decode cX7_init 212 = .ok (.newarray .int, 2) := by decide +kernel
theorem dX7_init_214 : decode cX7_init 214 = .ok (.putfield 87, 3) := by decide +kernel
theorem dX7_init_217 : decode cX7_init 217 = .ok (.aload_n 0, 1) := by decide +kernel
theorem dX7_init_218 : decode cX7_init 218 = .ok (.sipush 1616, 3) := by decide +kernel
theorem dX7_init_221 : decode cX7_init 221 = .ok (.newarray .int, 2) := by decide +kernel
theorem dX7_init_223 : decode cX7_init 223 = .ok (.putfield 90, 3) := by decide +kernel
theorem dX7_init_226 : decode cX7_init 226 = .ok (.aload_n 0, 1) := by decide +kernel
theorem dX7_init_227 : decode cX7_init 227 = .ok (.sipush 1616, 3) := by decide +kernel
theorem dX7_init_230 : decode cX7_init 230 = .ok (.newarray .int, 2) := by decide +kernel
theorem dX7_init_232 : decode cX7_init 232 = .ok (.putfield 93, 3) := by decide +kernel
theorem dX7_init_235 : decode cX7_init 235 = .ok (.aload_n 0, 1) := by decide +kernel
theorem dX7_init_236 : decode cX7_init 236 = .ok (.sipush 1616, 3) := by decide +kernel
theorem dX7_init_239 : decode cX7_init 239 = .ok (.newarray .long, 2) := by decide +kernel
theorem dX7_init_241 : decode cX7_init 241 = .ok (.putfield 96, 3) := by decide +kernel
theorem dX7_init_244 : decode cX7_init 244 = .ok (.aload_n 0, 1) := by decide +kernel
theorem dX7_init_245 : decode cX7_init 245 = .ok (.sipush 1616, 3) := by decide +kernel
theorem dX7_init_248 : decode cX7_init 248 = .ok (.newarray .boolean, 2) := by decide +kernel
theorem dX7_init_250 : decode cX7_init 250 = .ok (.putfield 99, 3) := by decide +kernel
theorem dX7_init_253 : decode cX7_init 253 = .ok (.aload_n 0, 1) := by decide +kernel
theorem dX7_init_254 : decode cX7_init 254 = .ok (.sipush 1616, 3) := by decide +kernel
theorem dX7_init_257 : decode cX7_init 257 = .ok (.newarray .int, 2) := by decide +kernel
theorem dX7_init_259 : decode cX7_init 259 = .ok (.putfield 102, 3) := by decide +kernel
theorem dX7_init_262 : decode cX7_init 262 = .ok (.aload_n 0, 1) := by decide +kernel
theorem dX7_init_263 : decode cX7_init 263 = .ok (.sipush 1616, 3) := by decide +kernel
theorem dX7_init_266 : decode cX7_init 266 = .ok (.newarray .boolean, 2) := by decide +kernel
theorem dX7_init_268 : decode cX7_init 268 = .ok (.putfield 105, 3) := by decide +kernel
theorem dX7_init_271 : decode cX7_init 271 = .ok (.aload_n 0, 1) := by decide +kernel
theorem dX7_init_272 : decode cX7_init 272 = .ok (.sipush 128, 3) := by decide +kernel
theorem dX7_init_275 : decode cX7_init 275 = .ok (.newarray .int, 2) := by decide +kernel
theorem dX7_init_277 : decode cX7_init 277 = .ok (.putfield 108, 3) := by decide +kernel
theorem dX7_init_280 : decode cX7_init 280 = .ok (.aload_n 0, 1) := by decide +kernel
theorem dX7_init_281 : decode cX7_init 281 = .ok (.iload_n 1, 1) := by decide +kernel
theorem dX7_init_282 : decode cX7_init 282 = .ok (.iconst 2, 1) := by decide +kernel
theorem dX7_init_283 : decode cX7_init 283 = .ok (.if_icmp .ge 7, 3) := by decide +kernel
theorem dX7_init_286 : decode cX7_init 286 = .ok (.iconst 2, 1) := by decide +kernel
theorem dX7_init_287 : decode cX7_init 287 = .ok (.goto 15, 3) := by decide +kernel
theorem dX7_init_290 : decode cX7_init 290 = .ok (.iload_n 1, 1) := by decide +kernel
theorem dX7_init_291 : decode cX7_init 291 = .ok (.bipush 8, 2) := by decide +kernel
theorem dX7_init_293 : decode cX7_init 293 = .ok (.if_icmp .le 8, 3) := by decide +kernel
theorem dX7_init_296 : decode cX7_init 296 = .ok (.bipush 8, 2) := by decide +kernel
theorem dX7_init_298 : decode cX7_init 298 = .ok (.goto 4, 3) := by decide +kernel
theorem dX7_init_301 : decode cX7_init 301 = .ok (.iload_n 1, 1) := by decide +kernel
theorem dX7_init_302 : decode cX7_init 302 = .ok (.putfield 111, 3) := by decide +kernel
theorem dX7_init_305 : decode cX7_init 305 = .ok (.aload_n 0, 1) := by decide +kernel
theorem dX7_init_306 : decode cX7_init 306 = .ok (.iload_n 2, 1) := by decide +kernel
theorem dX7_init_307 : decode cX7_init 307 = .ok (.iconst 1, 1) := by decide +kernel
theorem dX7_init_308 : decode cX7_init 308 = .ok (.if_icmp .ge 7, 3) := by decide +kernel
theorem dX7_init_311 : decode cX7_init 311 = .ok (.iconst 1, 1) := by decide +kernel
theorem dX7_init_312 : decode cX7_init 312 = .ok (.goto 15, 3) := by decide +kernel
theorem dX7_init_315 : decode cX7_init 315 = .ok (.iload_n 2, 1) := by decide +kernel
theorem dX7_init_316 : decode cX7_init 316 = .ok (.bipush 8, 2) := by decide +kernel
theorem dX7_init_318 : decode cX7_init 318 = .ok (.if_icmp .le 8, 3) := by decide +kernel
theorem dX7_init_321 : decode cX7_init 321 = .ok (.bipush 8, 2) := by decide +kernel
theorem dX7_init_323 : decode cX7_init 323 = .ok (.goto 4, 3) := by decide +kernel
theorem dX7_init_326 : decode cX7_init 326 = .ok (.iload_n 2, 1) := by decide +kernel
theorem dX7_init_327 : decode cX7_init 327 = .ok (.putfield 115, 3) := by decide +kernel
theorem dX7_init_330 : decode cX7_init 330 = .ok (.iconst 0, 1) := by decide +kernel
theorem dX7_init_331 : decode cX7_init 331 = .ok (.istore_n 3, 1) := by decide +kernel
theorem dX7_init_332 : decode cX7_init 332 = .ok (.iload_n 3, 1) := by decide +kernel
theorem dX7_init_333 : decode cX7_init 333 = .ok (.bipush 8, 2) := by decide +kernel
theorem dX7_init_335 : decode cX7_init 335 = .ok (.if_icmp .ge 49, 3) := by decide +kernel
theorem dX7_init_338 : decode cX7_init 338 = .ok (.aload_n 0, 1) := by decide +kernel
theorem dX7_init_339 : decode cX7_init 339 = .ok (.getfield 7, 3) := by decide +kernel
theorem dX7_init_342 : decode cX7_init 342 = .ok (.iload_n 3, 1) := by decide +kernel
theorem dX7_init_343 : decode cX7_init 343 = .ok (.iload_n 3, 1) := by decide +kernel
theorem dX7_init_344 : decode cX7_init 344 = .ok (.aload_n 0, 1) := by decide +kernel
theorem dX7_init_345 : decode cX7_init 345 = .ok (.getfield 111, 3) := by decide +kernel
theorem dX7_init_348 : decode cX7_init 348 = .ok (.if_icmp .ge 7, 3) := by decide +kernel
theorem dX7_init_351 : decode cX7_init 351 = .ok (.iconst 1, 1) := by decide +kernel
theorem dX7_init_352 : decode cX7_init 352 = .ok (.goto 4, 3) := by decide +kernel
theorem dX7_init_355 : decode cX7_init 355 = .ok (.iconst 0, 1) := by decide +kernel
theorem dX7_init_356 : decode cX7_init 356 = .ok (.bastore, 1) := by decide +kernel
theorem dX7_init_357 : decode cX7_init 357 = .ok (.aload_n 0, 1) := by decide +kernel
theorem dX7_init_358 : decode cX7_init 358 = .ok (.getfield 17, 3) := by decide +kernel
theorem dX7_init_361 : decode cX7_init 361 = .ok (.iload_n 3, 1) := by decide +kernel
theorem dX7_init_362 : decode cX7_init 362 = .ok (.iconst (-1), 1) := by decide +kernel
theorem dX7_init_363 : decode cX7_init 363 = .ok (.iastore, 1) := by decide +kernel
theorem dX7_init_364 : decode cX7_init 364 = .ok (.aload_n 0, 1) := by decide +kernel
theorem dX7_init_365 : decode cX7_init 365 = .ok (.getfield 36, 3) := by decide +kernel
theorem dX7_init_368 : decode cX7_init 368 = .ok (.iload_n 3, 1) := by decide +kernel
theorem dX7_init_369 : decode cX7_init 369 = .ok (.iconst 1, 1) := by decide +kernel
theorem dX7_init_370 : decode cX7_init 370 = .ok (.aload_n 0, 1) := by decide +kernel
theorem dX7_init_371 : decode cX7_init 371 = .ok (.getfield 111, 3) := by decide +kernel
theorem dX7_init_374 : decode cX7_init 374 = .ok (.ishl, 1) := by decide +kernel
theorem dX7_init_375 : decode cX7_init 375 = .ok (.iconst 1, 1) := by decide +kernel
theorem dX7_init_376 : decode cX7_init 376 = .ok (.isub, 1) := by decide +kernel
theorem dX7_init_377 : decode cX7_init 377 = .ok (.iastore, 1) := by decide +kernel
theorem dX7_init_378 : decode cX7_init 378 = .ok (.iinc 3 1, 3) := by decide +kernel
theorem dX7_init_381 : decode cX7_init 381 = .ok (.goto (-49), 3) := by decide +kernel
theorem dX7_init_384 : decode cX7_init 384 = .ok (.return_, 1) := by decide +kernel
theorem dX7_thrown_0 : decode cX7_thrown 0 = .ok (.aload_n 0, 1) := by decide +kernel
theorem dX7_thrown_1 : decode cX7_thrown 1 = .ok (.getfield 118, 3) := by decide +kernel
theorem dX7_thrown_4 : decode cX7_thrown 4 = .ok (.ireturn, 1) := by decide +kernel
theorem dX7_noNode_0 : decode cX7_noNode 0 = .ok (.iload_n 1, 1) := by decide +kernel
theorem dX7_noNode_1 : decode cX7_noNode 1 = .ok (.ifCond .lt 11, 3) := by decide +kernel
theorem dX7_noNode_4 : decode cX7_noNode 4 = .ok (.iload_n 1, 1) := by decide +kernel
theorem dX7_noNode_5 : decode cX7_noNode 5 = .ok (.aload_n 0, 1) := by decide +kernel
theorem dX7_noNode_6 : decode cX7_noNode 6 = .ok (.getfield 111, 3) := by decide +kernel
theorem dX7_noNode_9 : decode cX7_noNode 9 = .ok (.if_icmp .lt 7, 3) := by decide +kernel
theorem dX7_noNode_12 : decode cX7_noNode 12 = .ok (.iconst 1, 1) := by decide +kernel
theorem dX7_noNode_13 : decode cX7_noNode 13 = .ok (.goto 4, 3) := by decide +kernel
theorem dX7_noNode_16 : decode cX7_noNode 16 = .ok (.iconst 0, 1) := by decide +kernel
theorem dX7_noNode_17 : decode cX7_noNode 17 = .ok (.ireturn, 1) := by decide +kernel
theorem dX7_isIn_0 : decode cX7_isIn 0 = .ok (.iload_n 0, 1) := by decide +kernel
theorem dX7_isIn_1 : decode cX7_isIn 1 = .ok (.iload_n 1, 1) := by decide +kernel
theorem dX7_isIn_2 : decode cX7_isIn 2 = .ok (.ishr, 1) := by decide +kernel
theorem dX7_isIn_3 : decode cX7_isIn 3 = .ok (.iconst 1, 1) := by decide +kernel
theorem dX7_isIn_4 : decode cX7_isIn 4 = .ok (.iand, 1) := by decide +kernel
theorem dX7_isIn_5 : decode cX7_isIn 5 = .ok (.iconst 1, 1) := by decide +kernel
theorem dX7_isIn_6 : decode cX7_isIn 6 = .ok (.if_icmp .ne 7, 3) := by decide +kernel
theorem dX7_isIn_9 : decode cX7_isIn 9 = .ok (.iconst 1, 1) := by decide +kernel
theorem dX7_isIn_10 : decode cX7_isIn 10 = .ok (.goto 4, 3) := by decide +kernel
theorem dX7_isIn_13 : decode cX7_isIn 13 = .ok (.iconst 0, 1) := by decide +kernel
theorem dX7_isIn_14 : decode cX7_isIn 14 = .ok (.ireturn, 1) := by decide +kernel
theorem dX7_place_0 : decode cX7_place 0 = .ok (.bipush 101, 2) := by decide +kernel
theorem dX7_place_2 : decode cX7_place 2 = .ok (.iload_n 0, 1) := by decide +kernel
theorem dX7_place_3 : decode cX7_place 3 = .ok (.imul, 1) := by decide +kernel
theorem dX7_place_4 : decode cX7_place 4 = .ok (.iload_n 1, 1) := by decide +kernel
theorem dX7_place_5 : decode cX7_place 5 = .ok (.iadd, 1) := by decide +kernel
theorem dX7_place_6 : decode cX7_place 6 = .ok (.ireturn, 1) := by decide +kernel
set_option maxRecDepth 20000 in
theorem ggX7_hasPlace_X7_place : GoodIn wsX7_hasPlace wsX7_place := goodIn_r _ [6] (by decide +kernel) (by decide +kernel)
set_option maxRecDepth 20000 in
theorem gX7_hasPlace_X7_place : GoodIn wsX7_hasPlace (va_wsS RX7 121 yX7_place wsX7_place) := goodIn_app (goodIn_of _ (by decide +kernel)) ggX7_hasPlace_X7_place
set_option maxRecDepth 20000 in
theorem ggX7_hasPlace_X7_isIn : GoodIn wsX7_hasPlace wsX7_isIn := goodIn_r _ [9] (by decide +kernel) (by decide +kernel)
set_option maxRecDepth 20000 in
theorem gX7_hasPlace_X7_isIn : GoodIn wsX7_hasPlace (va_wsS RX7 125 yX7_isIn wsX7_isIn) := goodIn_app (goodIn_of _ (by decide +kernel)) ggX7_hasPlace_X7_isIn
theorem dX7_hasPlace_0 : decode cX7_hasPlace 0 = .ok (.aload_n 0, 1) := by decide +kernel
theorem dX7_hasPlace_1 : decode cX7_hasPlace 1 = .ok (.getfield 102, 3) := by decide +kernel
theorem dX7_hasPlace_4 : decode cX7_hasPlace 4 = .ok (.aload_n 0, 1) := by decide +kernel
theorem dX7_hasPlace_5 : decode cX7_hasPlace 5 = .ok (.getfield 17, 3) := by decide +kernel
theorem dX7_hasPlace_8 : decode cX7_hasPlace 8 = .ok (.iload_n 1, 1) := by decide +kernel
theorem dX7_hasPlace_9 : decode cX7_hasPlace 9 = .ok (.iaload, 1) := by decide +kernel
theorem dX7_hasPlace_10 : decode cX7_hasPlace 10 = .ok (.iload_n 2, 1) := by decide +kernel
theorem dX7_hasPlace_11 : decode cX7_hasPlace 11 = .ok (.invokestatic 121, 3) := by decide +kernel
theorem dX7_hasPlace_14 : decode cX7_hasPlace 14 = .ok (.iaload, 1) := by decide +kernel
theorem dX7_hasPlace_15 : decode cX7_hasPlace 15 = .ok (.iload_n 1, 1) := by decide +kernel
theorem dX7_hasPlace_16 : decode cX7_hasPlace 16 = .ok (.invokestatic 125, 3) := by decide +kernel
theorem dX7_hasPlace_19 : decode cX7_hasPlace 19 = .ok (.ireturn, 1) := by decide +kernel
set_option maxRecDepth 20000 in
theorem ggX7_full_X7_hasPlace : GoodIn wsX7_full wsX7_hasPlace := goodIn_r _ [7, 8, 2, 9, 10, 6, 11, 12, 13, 14, 15, 16, 17, 18, 19, 20, 21, 22, 23, 24, 25, 26, 27, 28, 29, 30, 31, 32, 33, 34, 35, 36, 37, 38, 39, 40, 41, 42, 43, 44, 45, 46, 47, 48, 49, 50] (by decide +kernel) (by decide +kernel)
set_option maxRecDepth 20000 in
theorem gX7_full_X7_hasPlace : GoodIn wsX7_full (wsV RX7 129 RX7 yX7_hasPlace wsX7_hasPlace) := goodIn_app (goodIn_of _ (by decide +kernel)) ggX7_full_X7_hasPlace
theorem dX7_full_0 : decode cX7_full 0 = .ok (.iconst 0, 1) := by decide +kernel
theorem dX7_full_1 : decode cX7_full 1 = .ok (.istore_n 2, 1) := by decide +kernel
theorem dX7_full_2 : decode cX7_full 2 = .ok (.iload_n 2, 1) := by decide +kernel
theorem dX7_full_3 : decode cX7_full 3 = .ok (.aload_n 0, 1) := by decide +kernel
theorem dX7_full_4 : decode cX7_full 4 = .ok (.getfield 87, 3) := by decide +kernel
theorem dX7_full_7 : decode cX7_full 7 = .ok (.aload_n 0, 1) := by decide +kernel
theorem dX7_full_8 : decode cX7_full 8 = .ok (.getfield 17, 3) := by decide +kernel
theorem dX7_full_11 : decode cX7_full 11 = .ok (.iload_n 1, 1) := by decide +kernel
theorem dX7_full_12 : decode cX7_full 12 = .ok (.iaload, 1) := by decide +kernel
theorem dX7_full_13 : decode cX7_full 13 = .ok (.iaload, 1) := by decide +kernel
theorem dX7_full_14 : decode cX7_full 14 = .ok (.if_icmp .ge 20, 3) := by decide +kernel
theorem dX7_full_17 : decode cX7_full 17 = .ok (.aload_n 0, 1) := by decide +kernel
theorem dX7_full_18 : decode cX7_full 18 = .ok (.iload_n 1, 1) := by decide +kernel
theorem dX7_full_19 : decode cX7_full 19 = .ok (.iload_n 2, 1) := by decide +kernel
theorem dX7_full_20 : decode cX7_full 20 = .ok (.iconst 1, 1) := by decide +kernel
theorem dX7_full_21 : decode cX7_full 21 = .ok (.iadd, 1) := by decide +kernel
theorem dX7_full_22 : decode cX7_full 22 = .ok (.invokevirtual 129, 3) := by decide +kernel
theorem dX7_full_25 : decode cX7_full 25 = .ok (.ifCond .eq 9, 3) := by decide +kernel
theorem dX7_full_28 : decode cX7_full 28 = .ok (.iinc 2 1, 3) := by decide +kernel
theorem dX7_full_31 : decode cX7_full 31 = .ok (.goto (-29), 3) := by decide +kernel
theorem dX7_full_34 : decode cX7_full 34 = .ok (.iload_n 2, 1) := by decide +kernel
theorem dX7_full_35 : decode cX7_full 35 = .ok (.ireturn, 1) := by decide +kernel
theorem dX7_holds_0 : decode cX7_holds 0 = .ok (.aload_n 0, 1) := by decide +kernel
theorem dX7_holds_1 : decode cX7_holds 1 = .ok (.getfield 7, 3) := by decide +kernel
theorem dX7_holds_4 : decode cX7_holds 4 = .ok (.iload_n 1, 1) := by decide +kernel
theorem dX7_holds_5 : decode cX7_holds 5 = .ok (.baload, 1) := by decide +kernel
theorem dX7_holds_6 : decode cX7_holds 6 = .ok (.ifCond .eq 46, 3) := by decide +kernel
theorem dX7_holds_9 : decode cX7_holds 9 = .ok (.aload_n 0, 1) := by decide +kernel
theorem dX7_holds_10 : decode cX7_holds 10 = .ok (.getfield 17, 3) := by decide +kernel
theorem dX7_holds_13 : decode cX7_holds 13 = .ok (.iload_n 1, 1) := by decide +kernel
theorem dX7_holds_14 : decode cX7_holds 14 = .ok (.iaload, 1) := by decide +kernel
theorem dX7_holds_15 : decode cX7_holds 15 = .ok (.iconst (-1), 1) := by decide +kernel
theorem dX7_holds_16 : decode cX7_holds 16 = .ok (.if_icmp .eq 36, 3) := by decide +kernel
theorem dX7_holds_19 : decode cX7_holds 19 = .ok (.aload_n 0, 1) := by decide +kernel
theorem dX7_holds_20 : decode cX7_holds 20 = .ok (.getfield 81, 3) := by decide +kernel
theorem dX7_holds_23 : decode cX7_holds 23 = .ok (.aload_n 0, 1) := by decide +kernel
theorem dX7_holds_24 : decode cX7_holds 24 = .ok (.getfield 17, 3) := by decide +kernel
theorem dX7_holds_27 : decode cX7_holds 27 = .ok (.iload_n 1, 1) := by decide +kernel
theorem dX7_holds_28 : decode cX7_holds 28 = .ok (.iaload, 1) := by decide +kernel
theorem dX7_holds_29 : decode cX7_holds 29 = .ok (.baload, 1) := by decide +kernel
theorem dX7_holds_30 : decode cX7_holds 30 = .ok (.ifCond .ne 22, 3) := by decide +kernel
theorem dX7_holds_33 : decode cX7_holds 33 = .ok (.aload_n 0, 1) := by decide +kernel
theorem dX7_holds_34 : decode cX7_holds 34 = .ok (.getfield 84, 3) := by decide +kernel
theorem dX7_holds_37 : decode cX7_holds 37 = .ok (.aload_n 0, 1) := by decide +kernel
theorem dX7_holds_38 : decode cX7_holds 38 = .ok (.getfield 17, 3) := by decide +kernel
theorem dX7_holds_41 : decode cX7_holds 41 = .ok (.iload_n 1, 1) := by decide +kernel
theorem dX7_holds_42 : decode cX7_holds 42 = .ok (.iaload, 1) := by decide +kernel
theorem dX7_holds_43 : decode cX7_holds 43 = .ok (.iaload, 1) := by decide +kernel
theorem dX7_holds_44 : decode cX7_holds 44 = .ok (.iload_n 1, 1) := by decide +kernel
theorem dX7_holds_45 : decode cX7_holds 45 = .ok (.if_icmp .ne 7, 3) := by decide +kernel
theorem dX7_holds_48 : decode cX7_holds 48 = .ok (.iconst 1, 1) := by decide +kernel
theorem dX7_holds_49 : decode cX7_holds 49 = .ok (.goto 4, 3) := by decide +kernel
theorem dX7_holds_52 : decode cX7_holds 52 = .ok (.iconst 0, 1) := by decide +kernel
theorem dX7_holds_53 : decode cX7_holds 53 = .ok (.ireturn, 1) := by decide +kernel
theorem dX7_tell_0 : decode cX7_tell 0 = .ok (.bipush 6, 2) := by decide +kernel
theorem dX7_tell_2 : decode cX7_tell 2 = .ok (.bipush 100, 2) := by decide +kernel
theorem dX7_tell_4 : decode cX7_tell 4 = .ok (.iload_n 1, 1) := by decide +kernel
theorem dX7_tell_5 : decode cX7_tell 5 = .ok (.imul, 1) := by decide +kernel
theorem dX7_tell_6 : decode cX7_tell 6 = .ok (.aload_n 0, 1) := by decide +kernel
theorem dX7_tell_7 : decode cX7_tell 7 = .ok (.getfield 57, 3) := by decide +kernel
theorem dX7_tell_10 : decode cX7_tell 10 = .ok (.iload_n 1, 1) := by decide +kernel
theorem dX7_tell_11 : decode cX7_tell 11 = .ok (.iaload, 1) := by decide +kernel
theorem dX7_tell_12 : decode cX7_tell 12 = .ok (.bipush 100, 2) := by decide +kernel
theorem dX7_tell_14 : decode cX7_tell 14 = .ok (.irem, 1) := by decide +kernel
theorem dX7_tell_15 : decode cX7_tell 15 = .ok (.iadd, 1) := by decide +kernel
theorem dX7_tell_16 : decode cX7_tell 16 = .ok (.imul, 1) := by decide +kernel
theorem dX7_tell_17 : decode cX7_tell 17 = .ok (.istore 14, 2) := by decide +kernel
theorem dX7_tell_19 : decode cX7_tell 19 = .ok (.aload_n 0, 1) := by decide +kernel
theorem dX7_tell_20 : decode cX7_tell 20 = .ok (.getfield 72, 3) := by decide +kernel
theorem dX7_tell_23 : decode cX7_tell 23 = .ok (.iload 14, 2) := by decide +kernel
theorem dX7_tell_25 : decode cX7_tell 25 = .ok (.lload_n 2, 1) := by decide +kernel
theorem dX7_tell_26 : decode cX7_tell 26 = .ok (.lastore, 1) := by decide +kernel
theorem dX7_tell_27 : decode cX7_tell 27 = .ok (.aload_n 0, 1) := by decide +kernel
theorem dX7_tell_28 : decode cX7_tell 28 = .ok (.getfield 72, 3) := by decide +kernel
theorem dX7_tell_31 : decode cX7_tell 31 = .ok (.iload 14, 2) := by decide +kernel
theorem dX7_tell_33 : decode cX7_tell 33 = .ok (.iconst 1, 1) := by decide +kernel
theorem dX7_tell_34 : decode cX7_tell 34 = .ok (.iadd, 1) := by decide +kernel
theorem dX7_tell_35 : decode cX7_tell 35 = .ok (.lload 4, 2) := by decide +kernel
theorem dX7_tell_37 : decode cX7_tell 37 = .ok (.lastore, 1) := by decide +kernel
theorem dX7_tell_38 : decode cX7_tell 38 = .ok (.aload_n 0, 1) := by decide +kernel
theorem dX7_tell_39 : decode cX7_tell 39 = .ok (.getfield 72, 3) := by decide +kernel
theorem dX7_tell_42 : decode cX7_tell 42 = .ok (.iload 14, 2) := by decide +kernel
theorem dX7_tell_44 : decode cX7_tell 44 = .ok (.iconst 2, 1) := by decide +kernel
theorem dX7_tell_45 : decode cX7_tell 45 = .ok (.iadd, 1) := by decide +kernel
theorem dX7_tell_46 : decode cX7_tell 46 = .ok (.lload 6, 2) := by decide +kernel
theorem dX7_tell_48 : decode cX7_tell 48 = .ok (.lastore, 1) := by decide +kernel
theorem dX7_tell_49 : decode cX7_tell 49 = .ok (.aload_n 0, 1) := by decide +kernel
theorem dX7_tell_50 : decode cX7_tell 50 = .ok (.getfield 72, 3) := by decide +kernel
theorem dX7_tell_53 : decode cX7_tell 53 = .ok (.iload 14, 2) := by decide +kernel
theorem dX7_tell_55 : decode cX7_tell 55 = .ok (.iconst 3, 1) := by decide +kernel
theorem dX7_tell_56 : decode cX7_tell 56 = .ok (.iadd, 1) := by decide +kernel
theorem dX7_tell_57 : decode cX7_tell 57 = .ok (.lload 8, 2) := by decide +kernel
theorem dX7_tell_59 : decode cX7_tell 59 = .ok (.lastore, 1) := by decide +kernel
theorem dX7_tell_60 : decode cX7_tell 60 = .ok (.aload_n 0, 1) := by decide +kernel
theorem dX7_tell_61 : decode cX7_tell 61 = .ok (.getfield 72, 3) := by decide +kernel
theorem dX7_tell_64 : decode cX7_tell 64 = .ok (.iload 14, 2) := by decide +kernel
theorem dX7_tell_66 : decode cX7_tell 66 = .ok (.iconst 4, 1) := by decide +kernel
theorem dX7_tell_67 : decode cX7_tell 67 = .ok (.iadd, 1) := by decide +kernel
theorem dX7_tell_68 : decode cX7_tell 68 = .ok (.lload 10, 2) := by decide +kernel
theorem dX7_tell_70 : decode cX7_tell 70 = .ok (.lastore, 1) := by decide +kernel
theorem dX7_tell_71 : decode cX7_tell 71 = .ok (.aload_n 0, 1) := by decide +kernel
theorem dX7_tell_72 : decode cX7_tell 72 = .ok (.getfield 72, 3) := by decide +kernel
theorem dX7_tell_75 : decode cX7_tell 75 = .ok (.iload 14, 2) := by decide +kernel
theorem dX7_tell_77 : decode cX7_tell 77 = .ok (.iconst 5, 1) := by decide +kernel
theorem dX7_tell_78 : decode cX7_tell 78 = .ok (.iadd, 1) := by decide +kernel
theorem dX7_tell_79 : decode cX7_tell 79 = .ok (.lload 12, 2) := by decide +kernel
theorem dX7_tell_81 : decode cX7_tell 81 = .ok (.lastore, 1) := by decide +kernel
theorem dX7_tell_82 : decode cX7_tell 82 = .ok (.aload_n 0, 1) := by decide +kernel
theorem dX7_tell_83 : decode cX7_tell 83 = .ok (.getfield 57, 3) := by decide +kernel
theorem dX7_tell_86 : decode cX7_tell 86 = .ok (.iload_n 1, 1) := by decide +kernel
theorem dX7_tell_87 : decode cX7_tell 87 = .ok (.dup2, 1) := by decide +kernel
theorem dX7_tell_88 : decode cX7_tell 88 = .ok (.iaload, 1) := by decide +kernel
theorem dX7_tell_89 : decode cX7_tell 89 = .ok (.iconst 1, 1) := by decide +kernel
theorem dX7_tell_90 : decode cX7_tell 90 = .ok (.iadd, 1) := by decide +kernel
theorem dX7_tell_91 : decode cX7_tell 91 = .ok (.iastore, 1) := by decide +kernel
theorem dX7_tell_92 : decode cX7_tell 92 = .ok (.return_, 1) := by decide +kernel
set_option maxRecDepth 20000 in
theorem ggX7_send_X7_noNode : GoodIn wsX7_send wsX7_noNode := goodIn_r _ [11, 12, 13, 14, 15, 16, 17, 18, 19, 20, 21, 22, 23, 24, 25, 26, 27, 28, 29, 30, 31, 32, 33, 34, 35, 36, 37, 38, 39, 40, 41, 42, 43, 44, 45, 46, 47, 48] (by decide +kernel) (by decide +kernel)
set_option maxRecDepth 20000 in
theorem gX7_send_X7_noNode : GoodIn wsX7_send (wsV RX7 132 RX7 yX7_noNode wsX7_noNode) := goodIn_app (goodIn_of _ (by decide +kernel)) ggX7_send_X7_noNode
theorem dX7_send_0 : decode cX7_send 0 = .ok (.aload_n 0, 1) := by decide +kernel
theorem dX7_send_1 : decode cX7_send 1 = .ok (.aload_n 0, 1) := by decide +kernel
theorem dX7_send_2 : decode cX7_send 2 = .ok (.iload_n 1, 1) := by decide +kernel
theorem dX7_send_3 : decode cX7_send 3 = .ok (.invokevirtual 132, 3) := by decide +kernel
theorem dX7_send_6 : decode cX7_send 6 = .ok (.ifCond .ne 13, 3) := by decide +kernel
theorem dX7_send_9 : decode cX7_send 9 = .ok (.iload_n 2, 1) := by decide +kernel
theorem dX7_send_10 : decode cX7_send 10 = .ok (.ifCond .lt 9, 3) := by decide +kernel
theorem dX7_send_13 : decode cX7_send 13 = .ok (.iload_n 2, 1) := by decide +kernel
theorem dX7_send_14 : decode cX7_send 14 = .ok (.bipush 16, 2) := by decide +kernel
theorem dX7_send_16 : decode cX7_send 16 = .ok (.if_icmp .lt 7, 3) := by decide +kernel
theorem dX7_send_19 : decode cX7_send 19 = .ok (.iconst 1, 1) := by decide +kernel
theorem dX7_send_20 : decode cX7_send 20 = .ok (.goto 28, 3) := by decide +kernel
theorem dX7_send_23 : decode cX7_send 23 = .ok (.aload_n 0, 1) := by decide +kernel
theorem dX7_send_24 : decode cX7_send 24 = .ok (.getfield 7, 3) := by decide +kernel
theorem dX7_send_27 : decode cX7_send 27 = .ok (.iload_n 1, 1) := by decide +kernel
theorem dX7_send_28 : decode cX7_send 28 = .ok (.baload, 1) := by decide +kernel
theorem dX7_send_29 : decode cX7_send 29 = .ok (.ifCond .eq 14, 3) := by decide +kernel
theorem dX7_send_32 : decode cX7_send 32 = .ok (.aload_n 0, 1) := by decide +kernel
theorem dX7_send_33 : decode cX7_send 33 = .ok (.getfield 39, 3) := by decide +kernel
theorem dX7_send_36 : decode cX7_send 36 = .ok (.iload_n 1, 1) := by decide +kernel
theorem dX7_send_37 : decode cX7_send 37 = .ok (.iaload, 1) := by decide +kernel
theorem dX7_send_38 : decode cX7_send 38 = .ok (.bipush 12, 2) := by decide +kernel
theorem dX7_send_40 : decode cX7_send 40 = .ok (.if_icmp .ne 7, 3) := by decide +kernel
theorem dX7_send_43 : decode cX7_send 43 = .ok (.iconst 2, 1) := by decide +kernel
theorem dX7_send_44 : decode cX7_send 44 = .ok (.goto 4, 3) := by decide +kernel
theorem dX7_send_47 : decode cX7_send 47 = .ok (.iconst 0, 1) := by decide +kernel
theorem dX7_send_48 : decode cX7_send 48 = .ok (.putfield 118, 3) := by decide +kernel
theorem dX7_send_51 : decode cX7_send 51 = .ok (.aload_n 0, 1) := by decide +kernel
theorem dX7_send_52 : decode cX7_send 52 = .ok (.getfield 118, 3) := by decide +kernel
theorem dX7_send_55 : decode cX7_send 55 = .ok (.ifCond .le 5, 3) := by decide +kernel
theorem dX7_send_58 : decode cX7_send 58 = .ok (.iconst 0, 1) := by decide +kernel
theorem dX7_send_59 : decode cX7_send 59 = .ok (.ireturn, 1) := by decide +kernel
theorem dX7_send_60 : decode cX7_send 60 = .ok (.bipush 12, 2) := by decide +kernel
theorem dX7_send_62 : decode cX7_send 62 = .ok (.iload_n 1, 1) := by decide +kernel
theorem dX7_send_63 : decode cX7_send 63 = .ok (.imul, 1) := by decide +kernel
theorem dX7_send_64 : decode cX7_send 64 = .ok (.aload_n 0, 1) := by decide +kernel
theorem dX7_send_65 : decode cX7_send 65 = .ok (.getfield 39, 3) := by decide +kernel
theorem dX7_send_68 : decode cX7_send 68 = .ok (.iload_n 1, 1) := by decide +kernel
theorem dX7_send_69 : decode cX7_send 69 = .ok (.iaload, 1) := by decide +kernel
theorem dX7_send_70 : decode cX7_send 70 = .ok (.iadd, 1) := by decide +kernel
theorem dX7_send_71 : decode cX7_send 71 = .ok (.istore 6, 2) := by decide +kernel
theorem dX7_send_73 : decode cX7_send 73 = .ok (.aload_n 0, 1) := by decide +kernel
theorem dX7_send_74 : decode cX7_send 74 = .ok (.getfield 42, 3) := by decide +kernel
theorem dX7_send_77 : decode cX7_send 77 = .ok (.iload 6, 2) := by decide +kernel
theorem dX7_send_79 : decode cX7_send 79 = .ok (.iload_n 2, 1) := by decide +kernel
theorem dX7_send_80 : decode cX7_send 80 = .ok (.iastore, 1) := by decide +kernel
theorem dX7_send_81 : decode cX7_send 81 = .ok (.aload_n 0, 1) := by decide +kernel
theorem dX7_send_82 : decode cX7_send 82 = .ok (.getfield 45, 3) := by decide +kernel
theorem dX7_send_85 : decode cX7_send 85 = .ok (.iload 6, 2) := by decide +kernel
theorem dX7_send_87 : decode cX7_send 87 = .ok (.lload_n 3, 1) := by decide +kernel
theorem dX7_send_88 : decode cX7_send 88 = .ok (.lastore, 1) := by decide +kernel
theorem dX7_send_89 : decode cX7_send 89 = .ok (.aload_n 0, 1) := by decide +kernel
theorem dX7_send_90 : decode cX7_send 90 = .ok (.getfield 48, 3) := by decide +kernel
theorem dX7_send_93 : decode cX7_send 93 = .ok (.iload 6, 2) := by decide +kernel
theorem dX7_send_95 : decode cX7_send 95 = .ok (.iload 5, 2) := by decide +kernel
theorem dX7_send_97 : decode cX7_send 97 = .ok (.bastore, 1) := by decide +kernel
theorem dX7_send_98 : decode cX7_send 98 = .ok (.aload_n 0, 1) := by decide +kernel
theorem dX7_send_99 : decode cX7_send 99 = .ok (.getfield 39, 3) := by decide +kernel
theorem dX7_send_102 : decode cX7_send 102 = .ok (.iload_n 1, 1) := by decide +kernel
theorem dX7_send_103 : decode cX7_send 103 = .ok (.dup2, 1) := by decide +kernel
theorem dX7_send_104 : decode cX7_send 104 = .ok (.iaload, 1) := by decide +kernel
theorem dX7_send_105 : decode cX7_send 105 = .ok (.iconst 1, 1) := by decide +kernel
theorem dX7_send_106 : decode cX7_send 106 = .ok (.iadd, 1) := by decide +kernel
theorem dX7_send_107 : decode cX7_send 107 = .ok (.iastore, 1) := by decide +kernel
theorem dX7_send_108 : decode cX7_send 108 = .ok (.aload_n 0, 1) := by decide +kernel
theorem dX7_send_109 : decode cX7_send 109 = .ok (.getfield 39, 3) := by decide +kernel
theorem dX7_send_112 : decode cX7_send 112 = .ok (.iload_n 1, 1) := by decide +kernel
theorem dX7_send_113 : decode cX7_send 113 = .ok (.iaload, 1) := by decide +kernel
theorem dX7_send_114 : decode cX7_send 114 = .ok (.ireturn, 1) := by decide +kernel
theorem dX7_apply_0 : decode cX7_apply 0 = .ok (.aload_n 0, 1) := by decide +kernel
theorem dX7_apply_1 : decode cX7_apply 1 = .ok (.getfield 23, 3) := by decide +kernel
theorem dX7_apply_4 : decode cX7_apply 4 = .ok (.bipush 16, 2) := by decide +kernel
theorem dX7_apply_6 : decode cX7_apply 6 = .ok (.iload_n 1, 1) := by decide +kernel
theorem dX7_apply_7 : decode cX7_apply 7 = .ok (.imul, 1) := by decide +kernel
theorem dX7_apply_8 : decode cX7_apply 8 = .ok (.iload_n 3, 1) := by decide +kernel
theorem dX7_apply_9 : decode cX7_apply 9 = .ok (.iadd, 1) := by decide +kernel
theorem dX7_apply_10 : decode cX7_apply 10 = .ok (.lload 4, 2) := by decide +kernel
theorem dX7_apply_12 : decode cX7_apply 12 = .ok (.lastore, 1) := by decide +kernel
theorem dX7_apply_13 : decode cX7_apply 13 = .ok (.aload_n 0, 1) := by decide +kernel
theorem dX7_apply_14 : decode cX7_apply 14 = .ok (.getfield 27, 3) := by decide +kernel
theorem dX7_apply_17 : decode cX7_apply 17 = .ok (.iload_n 1, 1) := by decide +kernel
theorem dX7_apply_18 : decode cX7_apply 18 = .ok (.dup2, 1) := by decide +kernel
theorem dX7_apply_19 : decode cX7_apply 19 = .ok (.iaload, 1) := by decide +kernel
theorem dX7_apply_20 : decode cX7_apply 20 = .ok (.iconst 1, 1) := by decide +kernel
theorem dX7_apply_21 : decode cX7_apply 21 = .ok (.iadd, 1) := by decide +kernel
theorem dX7_apply_22 : decode cX7_apply 22 = .ok (.iastore, 1) := by decide +kernel
theorem dX7_apply_23 : decode cX7_apply 23 = .ok (.aload_n 0, 1) := by decide +kernel
theorem dX7_apply_24 : decode cX7_apply 24 = .ok (.getfield 30, 3) := by decide +kernel
theorem dX7_apply_27 : decode cX7_apply 27 = .ok (.iload_n 1, 1) := by decide +kernel
theorem dX7_apply_28 : decode cX7_apply 28 = .ok (.aload_n 0, 1) := by decide +kernel
theorem dX7_apply_29 : decode cX7_apply 29 = .ok (.getfield 30, 3) := by decide +kernel
theorem dX7_apply_32 : decode cX7_apply 32 = .ok (.iload_n 1, 1) := by decide +kernel
theorem dX7_apply_33 : decode cX7_apply 33 = .ok (.laload, 1) := by decide +kernel
theorem dX7_apply_34 : decode cX7_apply 34 = .ok (.ldc2_w 136, 3) := by decide +kernel
theorem dX7_apply_37 : decode cX7_apply 37 = .ok (.lmul, 1) := by decide +kernel
theorem dX7_apply_38 : decode cX7_apply 38 = .ok (.iload_n 3, 1) := by decide +kernel
theorem dX7_apply_39 : decode cX7_apply 39 = .ok (.i2l, 1) := by decide +kernel
theorem dX7_apply_40 : decode cX7_apply 40 = .ok (.ldc2_w 138, 3) := by decide +kernel
theorem dX7_apply_43 : decode cX7_apply 43 = .ok (.lmul, 1) := by decide +kernel
theorem dX7_apply_44 : decode cX7_apply 44 = .ok (.ladd, 1) := by decide +kernel
theorem dX7_apply_45 : decode cX7_apply 45 = .ok (.lload 4, 2) := by decide +kernel
theorem dX7_apply_47 : decode cX7_apply 47 = .ok (.ladd, 1) := by decide +kernel
theorem dX7_apply_48 : decode cX7_apply 48 = .ok (.lastore, 1) := by decide +kernel
theorem dX7_apply_49 : decode cX7_apply 49 = .ok (.aload_n 0, 1) := by decide +kernel
theorem dX7_apply_50 : decode cX7_apply 50 = .ok (.getfield 69, 3) := by decide +kernel
theorem dX7_apply_53 : decode cX7_apply 53 = .ok (.iload_n 1, 1) := by decide +kernel
theorem dX7_apply_54 : decode cX7_apply 54 = .ok (.iload_n 2, 1) := by decide +kernel
theorem dX7_apply_55 : decode cX7_apply 55 = .ok (.iastore, 1) := by decide +kernel
theorem dX7_apply_56 : decode cX7_apply 56 = .ok (.return_, 1) := by decide +kernel
set_option maxRecDepth 20000 in
theorem ggX7_deliver_X7_place : GoodIn wsX7_deliver wsX7_place := goodIn_r _ [11] (by decide +kernel) (by decide +kernel)
set_option maxRecDepth 20000 in
theorem gX7_deliver_X7_place : GoodIn wsX7_deliver (va_wsS RX7 121 yX7_place wsX7_place) := goodIn_app (goodIn_of _ (by decide +kernel)) ggX7_deliver_X7_place
set_option maxRecDepth 20000 in
theorem ggX7_deliver_X7_tell : GoodIn wsX7_deliver wsX7_tell := goodIn_r _ [15, 16, 17, 28, 29, 30, 31, 32, 33, 34, 35, 36, 37, 38, 39, 40, 41, 42, 43, 44, 45, 46, 47, 48, 49, 50, 51, 52, 53, 54, 55, 56, 57, 58, 59, 60, 61, 62, 63] (by decide +kernel) (by decide +kernel)
set_option maxRecDepth 20000 in
theorem gX7_deliver_X7_tell : GoodIn wsX7_deliver (wsV RX7 140 RX7 yX7_tell wsX7_tell) := goodIn_app (goodIn_of _ (by decide +kernel)) ggX7_deliver_X7_tell
set_option maxRecDepth 20000 in
theorem ggX7_deliver_X7_apply : GoodIn wsX7_deliver wsX7_apply := goodIn_r _ [21, 22, 23, 24, 25, 26, 27, 28, 29, 30, 31, 32, 33, 34, 35, 36, 37, 38, 39, 40, 41, 42, 43, 44, 45, 46, 47, 48, 49, 50, 51, 52, 53, 54, 55, 56, 57, 58, 59, 60, 61, 62, 63] (by decide +kernel) (by decide +kernel)
set_option maxRecDepth 20000 in
theorem gX7_deliver_X7_apply : GoodIn wsX7_deliver (wsV RX7 144 RX7 yX7_apply wsX7_apply) := goodIn_app (goodIn_of _ (by decide +kernel)) ggX7_deliver_X7_apply
theorem dX7_deliver_0 : decode cX7_deliver 0 = .ok (.aload_n 0, 1) := by decide +kernel
theorem dX7_deliver_1 : decode cX7_deliver 1 = .ok (.getfield 17, 3) := by decide +kernel
theorem dX7_deliver_4 : decode cX7_deliver 4 = .ok (.iload_n 1, 1) := by decide +kernel
theorem dX7_deliver_5 : decode cX7_deliver 5 = .ok (.iaload, 1) := by decide +kernel
theorem dX7_deliver_6 : decode cX7_deliver 6 = .ok (.iload_n 2, 1) := by decide +kernel
theorem dX7_deliver_7 : decode cX7_deliver 7 = .ok (.invokestatic 121, 3) := by decide +kernel
theorem dX7_deliver_10 : decode cX7_deliver 10 = .ok (.istore 4, 2) := by decide +kernel
theorem dX7_deliver_12 : decode cX7_deliver 12 = .ok (.aload_n 0, 1) := by decide +kernel
theorem dX7_deliver_13 : decode cX7_deliver 13 = .ok (.iload_n 1, 1) := by decide +kernel
theorem dX7_deliver_14 : decode cX7_deliver 14 = .ok (.lconst 1, 1) := by decide +kernel
theorem dX7_deliver_15 : decode cX7_deliver 15 = .ok (.iload_n 2, 1) := by decide +kernel
theorem dX7_deliver_16 : decode cX7_deliver 16 = .ok (.i2l, 1) := by decide +kernel
theorem dX7_deliver_17 : decode cX7_deliver 17 = .ok (.aload_n 0, 1) := by decide +kernel
theorem dX7_deliver_18 : decode cX7_deliver 18 = .ok (.getfield 90, 3) := by decide +kernel
theorem dX7_deliver_21 : decode cX7_deliver 21 = .ok (.iload 4, 2) := by decide +kernel
theorem dX7_deliver_23 : decode cX7_deliver 23 = .ok (.iaload, 1) := by decide +kernel
theorem dX7_deliver_24 : decode cX7_deliver 24 = .ok (.i2l, 1) := by decide +kernel
theorem dX7_deliver_25 : decode cX7_deliver 25 = .ok (.aload_n 0, 1) := by decide +kernel
theorem dX7_deliver_26 : decode cX7_deliver 26 = .ok (.getfield 93, 3) := by decide +kernel
theorem dX7_deliver_29 : decode cX7_deliver 29 = .ok (.iload 4, 2) := by decide +kernel
theorem dX7_deliver_31 : decode cX7_deliver 31 = .ok (.iaload, 1) := by decide +kernel
theorem dX7_deliver_32 : decode cX7_deliver 32 = .ok (.i2l, 1) := by decide +kernel
theorem dX7_deliver_33 : decode cX7_deliver 33 = .ok (.aload_n 0, 1) := by decide +kernel
theorem dX7_deliver_34 : decode cX7_deliver 34 = .ok (.getfield 96, 3) := by decide +kernel
theorem dX7_deliver_37 : decode cX7_deliver 37 = .ok (.iload 4, 2) := by decide +kernel
theorem dX7_deliver_39 : decode cX7_deliver 39 = .ok (.laload, 1) := by decide +kernel
theorem dX7_deliver_40 : decode cX7_deliver 40 = .ok (.aload_n 0, 1) := by decide +kernel
theorem dX7_deliver_41 : decode cX7_deliver 41 = .ok (.getfield 75, 3) := by decide +kernel
theorem dX7_deliver_44 : decode cX7_deliver 44 = .ok (.aload_n 0, 1) := by decide +kernel
theorem dX7_deliver_45 : decode cX7_deliver 45 = .ok (.getfield 17, 3) := by decide +kernel
theorem dX7_deliver_48 : decode cX7_deliver 48 = .ok (.iload_n 1, 1) := by decide +kernel
theorem dX7_deliver_49 : decode cX7_deliver 49 = .ok (.iaload, 1) := by decide +kernel
theorem dX7_deliver_50 : decode cX7_deliver 50 = .ok (.iaload, 1) := by decide +kernel
theorem dX7_deliver_51 : decode cX7_deliver 51 = .ok (.i2l, 1) := by decide +kernel
theorem dX7_deliver_52 : decode cX7_deliver 52 = .ok (.invokevirtual 140, 3) := by decide +kernel
theorem dX7_deliver_55 : decode cX7_deliver 55 = .ok (.aload_n 0, 1) := by decide +kernel
theorem dX7_deliver_56 : decode cX7_deliver 56 = .ok (.getfield 99, 3) := by decide +kernel
theorem dX7_deliver_59 : decode cX7_deliver 59 = .ok (.iload 4, 2) := by decide +kernel
theorem dX7_deliver_61 : decode cX7_deliver 61 = .ok (.baload, 1) := by decide +kernel
theorem dX7_deliver_62 : decode cX7_deliver 62 = .ok (.ifCond .eq 47, 3) := by decide +kernel
theorem dX7_deliver_65 : decode cX7_deliver 65 = .ok (.iload_n 3, 1) := by decide +kernel
theorem dX7_deliver_66 : decode cX7_deliver 66 = .ok (.ifCond .eq 43, 3) := by decide +kernel
theorem dX7_deliver_69 : decode cX7_deliver 69 = .ok (.aload_n 0, 1) := by decide +kernel
theorem dX7_deliver_70 : decode cX7_deliver 70 = .ok (.getfield 33, 3) := by decide +kernel
theorem dX7_deliver_73 : decode cX7_deliver 73 = .ok (.iload_n 1, 1) := by decide +kernel
theorem dX7_deliver_74 : decode cX7_deliver 74 = .ok (.iaload, 1) := by decide +kernel
theorem dX7_deliver_75 : decode cX7_deliver 75 = .ok (.aload_n 0, 1) := by decide +kernel
theorem dX7_deliver_76 : decode cX7_deliver 76 = .ok (.getfield 75, 3) := by decide +kernel
theorem dX7_deliver_79 : decode cX7_deliver 79 = .ok (.aload_n 0, 1) := by decide +kernel
theorem dX7_deliver_80 : decode cX7_deliver 80 = .ok (.getfield 17, 3) := by decide +kernel
theorem dX7_deliver_83 : decode cX7_deliver 83 = .ok (.iload_n 1, 1) := by decide +kernel
theorem dX7_deliver_84 : decode cX7_deliver 84 = .ok (.iaload, 1) := by decide +kernel
theorem dX7_deliver_85 : decode cX7_deliver 85 = .ok (.iaload, 1) := by decide +kernel
theorem dX7_deliver_86 : decode cX7_deliver 86 = .ok (.if_icmp .ne 23, 3) := by decide +kernel
theorem dX7_deliver_89 : decode cX7_deliver 89 = .ok (.aload_n 0, 1) := by decide +kernel
theorem dX7_deliver_90 : decode cX7_deliver 90 = .ok (.iload_n 1, 1) := by decide +kernel
theorem dX7_deliver_91 : decode cX7_deliver 91 = .ok (.iload_n 2, 1) := by decide +kernel
theorem dX7_deliver_92 : decode cX7_deliver 92 = .ok (.aload_n 0, 1) := by decide +kernel
theorem dX7_deliver_93 : decode cX7_deliver 93 = .ok (.getfield 93, 3) := by decide +kernel
theorem dX7_deliver_96 : decode cX7_deliver 96 = .ok (.iload 4, 2) := by decide +kernel
theorem dX7_deliver_98 : decode cX7_deliver 98 = .ok (.iaload, 1) := by decide +kernel
theorem dX7_deliver_99 : decode cX7_deliver 99 = .ok (.aload_n 0, 1) := by decide +kernel
theorem dX7_deliver_100 : decode cX7_deliver 100 = .ok (.getfield 96, 3) := by decide +kernel
theorem dX7_deliver_103 : decode cX7_deliver 103 = .ok (.iload 4, 2) := by decide +kernel
theorem dX7_deliver_105 : decode cX7_deliver 105 = .ok (.laload, 1) := by decide +kernel
theorem dX7_deliver_106 : decode cX7_deliver 106 = .ok (.invokevirtual 144, 3) := by decide +kernel
theorem dX7_deliver_109 : decode cX7_deliver 109 = .ok (.return_, 1) := by decide +kernel
set_option maxRecDepth 20000 in
theorem ggX7_gets_X7_place : GoodIn wsX7_gets wsX7_place := goodIn_r _ [14] (by decide +kernel) (by decide +kernel)
set_option maxRecDepth 20000 in
theorem gX7_gets_X7_place : GoodIn wsX7_gets (va_wsS RX7 121 yX7_place wsX7_place) := goodIn_app (goodIn_of _ (by decide +kernel)) ggX7_gets_X7_place
theorem dX7_gets_0 : decode cX7_gets 0 = .ok (.aload_n 0, 1) := by decide +kernel
theorem dX7_gets_1 : decode cX7_gets 1 = .ok (.getfield 17, 3) := by decide +kernel
theorem dX7_gets_4 : decode cX7_gets 4 = .ok (.iload_n 1, 1) := by decide +kernel
theorem dX7_gets_5 : decode cX7_gets 5 = .ok (.iaload, 1) := by decide +kernel
theorem dX7_gets_6 : decode cX7_gets 6 = .ok (.iload_n 2, 1) := by decide +kernel
theorem dX7_gets_7 : decode cX7_gets 7 = .ok (.invokestatic 121, 3) := by decide +kernel
theorem dX7_gets_10 : decode cX7_gets 10 = .ok (.istore_n 3, 1) := by decide +kernel
theorem dX7_gets_11 : decode cX7_gets 11 = .ok (.aload_n 0, 1) := by decide +kernel
theorem dX7_gets_12 : decode cX7_gets 12 = .ok (.getfield 102, 3) := by decide +kernel
theorem dX7_gets_15 : decode cX7_gets 15 = .ok (.iload_n 3, 1) := by decide +kernel
theorem dX7_gets_16 : decode cX7_gets 16 = .ok (.aload_n 0, 1) := by decide +kernel
theorem dX7_gets_17 : decode cX7_gets 17 = .ok (.getfield 102, 3) := by decide +kernel
theorem dX7_gets_20 : decode cX7_gets 20 = .ok (.iload_n 3, 1) := by decide +kernel
theorem dX7_gets_21 : decode cX7_gets 21 = .ok (.iaload, 1) := by decide +kernel
theorem dX7_gets_22 : decode cX7_gets 22 = .ok (.iconst 1, 1) := by decide +kernel
theorem dX7_gets_23 : decode cX7_gets 23 = .ok (.iload_n 1, 1) := by decide +kernel
theorem dX7_gets_24 : decode cX7_gets 24 = .ok (.ishl, 1) := by decide +kernel
theorem dX7_gets_25 : decode cX7_gets 25 = .ok (.ior, 1) := by decide +kernel
theorem dX7_gets_26 : decode cX7_gets 26 = .ok (.iastore, 1) := by decide +kernel
theorem dX7_gets_27 : decode cX7_gets 27 = .ok (.aload_n 0, 1) := by decide +kernel
theorem dX7_gets_28 : decode cX7_gets 28 = .ok (.getfield 99, 3) := by decide +kernel
theorem dX7_gets_31 : decode cX7_gets 31 = .ok (.iload_n 3, 1) := by decide +kernel
theorem dX7_gets_32 : decode cX7_gets 32 = .ok (.baload, 1) := by decide +kernel
theorem dX7_gets_33 : decode cX7_gets 33 = .ok (.ifCond .eq 69, 3) := by decide +kernel
theorem dX7_gets_36 : decode cX7_gets 36 = .ok (.aload_n 0, 1) := by decide +kernel
theorem dX7_gets_37 : decode cX7_gets 37 = .ok (.getfield 33, 3) := by decide +kernel
theorem dX7_gets_40 : decode cX7_gets 40 = .ok (.iload_n 1, 1) := by decide +kernel
theorem dX7_gets_41 : decode cX7_gets 41 = .ok (.iaload, 1) := by decide +kernel
theorem dX7_gets_42 : decode cX7_gets 42 = .ok (.aload_n 0, 1) := by decide +kernel
theorem dX7_gets_43 : decode cX7_gets 43 = .ok (.getfield 75, 3) := by decide +kernel
theorem dX7_gets_46 : decode cX7_gets 46 = .ok (.aload_n 0, 1) := by decide +kernel
theorem dX7_gets_47 : decode cX7_gets 47 = .ok (.getfield 17, 3) := by decide +kernel
theorem dX7_gets_50 : decode cX7_gets 50 = .ok (.iload_n 1, 1) := by decide +kernel
theorem dX7_gets_51 : decode cX7_gets 51 = .ok (.iaload, 1) := by decide +kernel
theorem dX7_gets_52 : decode cX7_gets 52 = .ok (.iaload, 1) := by decide +kernel
theorem dX7_gets_53 : decode cX7_gets 53 = .ok (.if_icmp .ne 49, 3) := by decide +kernel
theorem dX7_gets_56 : decode cX7_gets 56 = .ok (.aload_n 0, 1) := by decide +kernel
theorem dX7_gets_57 : decode cX7_gets 57 = .ok (.getfield 60, 3) := by decide +kernel
theorem dX7_gets_60 : decode cX7_gets 60 = .ok (.bipush 101, 2) := by decide +kernel
theorem dX7_gets_62 : decode cX7_gets 62 = .ok (.iload_n 1, 1) := by decide +kernel
theorem dX7_gets_63 : decode cX7_gets 63 = .ok (.imul, 1) := by decide +kernel
theorem dX7_gets_64 : decode cX7_gets 64 = .ok (.iload_n 2, 1) := by decide +kernel
theorem dX7_gets_65 : decode cX7_gets 65 = .ok (.iadd, 1) := by decide +kernel
theorem dX7_gets_66 : decode cX7_gets 66 = .ok (.iconst 1, 1) := by decide +kernel
theorem dX7_gets_67 : decode cX7_gets 67 = .ok (.bastore, 1) := by decide +kernel
theorem dX7_gets_68 : decode cX7_gets 68 = .ok (.aload_n 0, 1) := by decide +kernel
theorem dX7_gets_69 : decode cX7_gets 69 = .ok (.getfield 63, 3) := by decide +kernel
theorem dX7_gets_72 : decode cX7_gets 72 = .ok (.bipush 101, 2) := by decide +kernel
theorem dX7_gets_74 : decode cX7_gets 74 = .ok (.iload_n 1, 1) := by decide +kernel
theorem dX7_gets_75 : decode cX7_gets 75 = .ok (.imul, 1) := by decide +kernel
theorem dX7_gets_76 : decode cX7_gets 76 = .ok (.iload_n 2, 1) := by decide +kernel
theorem dX7_gets_77 : decode cX7_gets 77 = .ok (.iadd, 1) := by decide +kernel
theorem dX7_gets_78 : decode cX7_gets 78 = .ok (.aload_n 0, 1) := by decide +kernel
theorem dX7_gets_79 : decode cX7_gets 79 = .ok (.getfield 93, 3) := by decide +kernel
theorem dX7_gets_82 : decode cX7_gets 82 = .ok (.iload_n 3, 1) := by decide +kernel
theorem dX7_gets_83 : decode cX7_gets 83 = .ok (.iaload, 1) := by decide +kernel
theorem dX7_gets_84 : decode cX7_gets 84 = .ok (.iastore, 1) := by decide +kernel
theorem dX7_gets_85 : decode cX7_gets 85 = .ok (.aload_n 0, 1) := by decide +kernel
theorem dX7_gets_86 : decode cX7_gets 86 = .ok (.getfield 66, 3) := by decide +kernel
theorem dX7_gets_89 : decode cX7_gets 89 = .ok (.bipush 101, 2) := by decide +kernel
theorem dX7_gets_91 : decode cX7_gets 91 = .ok (.iload_n 1, 1) := by decide +kernel
theorem dX7_gets_92 : decode cX7_gets 92 = .ok (.imul, 1) := by decide +kernel
theorem dX7_gets_93 : decode cX7_gets 93 = .ok (.iload_n 2, 1) := by decide +kernel
theorem dX7_gets_94 : decode cX7_gets 94 = .ok (.iadd, 1) := by decide +kernel
theorem dX7_gets_95 : decode cX7_gets 95 = .ok (.aload_n 0, 1) := by decide +kernel
theorem dX7_gets_96 : decode cX7_gets 96 = .ok (.getfield 96, 3) := by decide +kernel
theorem dX7_gets_99 : decode cX7_gets 99 = .ok (.iload_n 3, 1) := by decide +kernel
theorem dX7_gets_100 : decode cX7_gets 100 = .ok (.laload, 1) := by decide +kernel
theorem dX7_gets_101 : decode cX7_gets 101 = .ok (.lastore, 1) := by decide +kernel
theorem dX7_gets_102 : decode cX7_gets 102 = .ok (.return_, 1) := by decide +kernel
set_option maxRecDepth 20000 in
theorem ggX7_deliverAll_X7_hasPlace : GoodIn wsX7_deliverAll wsX7_hasPlace := goodIn_r _ [10, 11, 3, 12, 13, 9, 14, 15, 16, 17, 43, 44, 45, 46, 47, 48, 49, 50, 51, 52, 53, 54, 55, 56, 57, 58, 59, 60, 61, 62, 63, 64, 65, 66, 67, 68, 69, 70, 71, 72, 73, 74, 75, 76, 77, 78] (by decide +kernel) (by decide +kernel)
set_option maxRecDepth 20000 in
theorem gX7_deliverAll_X7_hasPlace : GoodIn wsX7_deliverAll (wsV RX7 129 RX7 yX7_hasPlace wsX7_hasPlace) := goodIn_app (goodIn_of _ (by decide +kernel)) ggX7_deliverAll_X7_hasPlace
set_option maxRecDepth 20000 in
theorem ggX7_deliverAll_X7_place : GoodIn wsX7_deliverAll wsX7_place := goodIn_r _ [14] (by decide +kernel) (by decide +kernel)
set_option maxRecDepth 20000 in
theorem gX7_deliverAll_X7_place : GoodIn wsX7_deliverAll (va_wsS RX7 121 yX7_place wsX7_place) := goodIn_app (goodIn_of _ (by decide +kernel)) ggX7_deliverAll_X7_place
set_option maxRecDepth 20000 in
theorem ggX7_deliverAll_X7_deliver : GoodIn wsX7_deliverAll wsX7_deliver := goodIn_r _ [21, 3, 22, 23, 24, 25, 4, 26, 12, 13, 9, 14, 27, 28, 29, 30, 31, 32, 33, 34, 35, 36, 37, 38, 39, 40, 41, 42, 43, 44, 45, 46, 47, 48, 49, 50, 51, 52, 53, 54, 55, 56, 57, 58, 59, 60, 61, 62, 63, 64, 65, 66, 67, 68, 69, 70, 71, 72, 73, 74, 75, 76, 77, 78] (by decide +kernel) (by decide +kernel)
set_option maxRecDepth 20000 in
theorem gX7_deliverAll_X7_deliver : GoodIn wsX7_deliverAll (wsV RX7 148 RX7 yX7_deliver wsX7_deliver) := goodIn_app (goodIn_of _ (by decide +kernel)) ggX7_deliverAll_X7_deliver
theorem dX7_deliverAll_0 : decode cX7_deliverAll 0 = .ok (.iconst 0, 1) := by decide +kernel
theorem dX7_deliverAll_1 : decode cX7_deliverAll 1 = .ok (.istore_n 2, 1) := by decide +kernel
theorem dX7_deliverAll_2 : decode cX7_deliverAll 2 = .ok (.aload_n 0, 1) := by decide +kernel
theorem dX7_deliverAll_3 : decode cX7_deliverAll 3 = .ok (.getfield 51, 3) := by decide +kernel
theorem dX7_deliverAll_6 : decode cX7_deliverAll 6 = .ok (.iload_n 1, 1) := by decide +kernel
theorem dX7_deliverAll_7 : decode cX7_deliverAll 7 = .ok (.iaload, 1) := by decide +kernel
theorem dX7_deliverAll_8 : decode cX7_deliverAll 8 = .ok (.iconst 1, 1) := by decide +kernel
theorem dX7_deliverAll_9 : decode cX7_deliverAll 9 = .ok (.iadd, 1) := by decide +kernel
theorem dX7_deliverAll_10 : decode cX7_deliverAll 10 = .ok (.istore_n 3, 1) := by decide +kernel
theorem dX7_deliverAll_11 : decode cX7_deliverAll 11 = .ok (.iload_n 3, 1) := by decide +kernel
theorem dX7_deliverAll_12 : decode cX7_deliverAll 12 = .ok (.aload_n 0, 1) := by decide +kernel
theorem dX7_deliverAll_13 : decode cX7_deliverAll 13 = .ok (.getfield 87, 3) := by decide +kernel
theorem dX7_deliverAll_16 : decode cX7_deliverAll 16 = .ok (.aload_n 0, 1) := by decide +kernel
theorem dX7_deliverAll_17 : decode cX7_deliverAll 17 = .ok (.getfield 17, 3) := by decide +kernel
theorem dX7_deliverAll_20 : decode cX7_deliverAll 20 = .ok (.iload_n 1, 1) := by decide +kernel
theorem dX7_deliverAll_21 : decode cX7_deliverAll 21 = .ok (.iaload, 1) := by decide +kernel
theorem dX7_deliverAll_22 : decode cX7_deliverAll 22 = .ok (.iaload, 1) := by decide +kernel
theorem dX7_deliverAll_23 : decode cX7_deliverAll 23 = .ok (.if_icmp .gt 63, 3) := by decide +kernel
theorem dX7_deliverAll_26 : decode cX7_deliverAll 26 = .ok (.aload_n 0, 1) := by decide +kernel
theorem dX7_deliverAll_27 : decode cX7_deliverAll 27 = .ok (.iload_n 1, 1) := by decide +kernel
theorem dX7_deliverAll_28 : decode cX7_deliverAll 28 = .ok (.iload_n 3, 1) := by decide +kernel
theorem dX7_deliverAll_29 : decode cX7_deliverAll 29 = .ok (.invokevirtual 129, 3) := by decide +kernel
theorem dX7_deliverAll_32 : decode cX7_deliverAll 32 = .ok (.ifCond .eq 54, 3) := by decide +kernel
theorem dX7_deliverAll_35 : decode cX7_deliverAll 35 = .ok (.aload_n 0, 1) := by decide +kernel
theorem dX7_deliverAll_36 : decode cX7_deliverAll 36 = .ok (.getfield 99, 3) := by decide +kernel
theorem dX7_deliverAll_39 : decode cX7_deliverAll 39 = .ok (.aload_n 0, 1) := by decide +kernel
theorem dX7_deliverAll_40 : decode cX7_deliverAll 40 = .ok (.getfield 17, 3) := by decide +kernel
theorem dX7_deliverAll_43 : decode cX7_deliverAll 43 = .ok (.iload_n 1, 1) := by decide +kernel
theorem dX7_deliverAll_44 : decode cX7_deliverAll 44 = .ok (.iaload, 1) := by decide +kernel
theorem dX7_deliverAll_45 : decode cX7_deliverAll 45 = .ok (.iload_n 3, 1) := by decide +kernel
theorem dX7_deliverAll_46 : decode cX7_deliverAll 46 = .ok (.invokestatic 121, 3) := by decide +kernel
theorem dX7_deliverAll_49 : decode cX7_deliverAll 49 = .ok (.baload, 1) := by decide +kernel
theorem dX7_deliverAll_50 : decode cX7_deliverAll 50 = .ok (.ifCond .eq 13, 3) := by decide +kernel
theorem dX7_deliverAll_53 : decode cX7_deliverAll 53 = .ok (.iload_n 3, 1) := by decide +kernel
theorem dX7_deliverAll_54 : decode cX7_deliverAll 54 = .ok (.aload_n 0, 1) := by decide +kernel
theorem dX7_deliverAll_55 : decode cX7_deliverAll 55 = .ok (.getfield 54, 3) := by decide +kernel
theorem dX7_deliverAll_58 : decode cX7_deliverAll 58 = .ok (.iload_n 1, 1) := by decide +kernel
theorem dX7_deliverAll_59 : decode cX7_deliverAll 59 = .ok (.iaload, 1) := by decide +kernel
theorem dX7_deliverAll_60 : decode cX7_deliverAll 60 = .ok (.if_icmp .gt 26, 3) := by decide +kernel
theorem dX7_deliverAll_63 : decode cX7_deliverAll 63 = .ok (.aload_n 0, 1) := by decide +kernel
theorem dX7_deliverAll_64 : decode cX7_deliverAll 64 = .ok (.iload_n 1, 1) := by decide +kernel
theorem dX7_deliverAll_65 : decode cX7_deliverAll 65 = .ok (.iload_n 3, 1) := by decide +kernel
theorem dX7_deliverAll_66 : decode cX7_deliverAll 66 = .ok (.iconst 1, 1) := by decide +kernel
theorem dX7_deliverAll_67 : decode cX7_deliverAll 67 = .ok (.invokevirtual 148, 3) := by decide +kernel
theorem dX7_deliverAll_70 : decode cX7_deliverAll 70 = .ok (.aload_n 0, 1) := by decide +kernel
theorem dX7_deliverAll_71 : decode cX7_deliverAll 71 = .ok (.getfield 51, 3) := by decide +kernel
theorem dX7_deliverAll_74 : decode cX7_deliverAll 74 = .ok (.iload_n 1, 1) := by decide +kernel
theorem dX7_deliverAll_75 : decode cX7_deliverAll 75 = .ok (.iload_n 3, 1) := by decide +kernel
theorem dX7_deliverAll_76 : decode cX7_deliverAll 76 = .ok (.iastore, 1) := by decide +kernel
theorem dX7_deliverAll_77 : decode cX7_deliverAll 77 = .ok (.iinc 2 1, 3) := by decide +kernel
theorem dX7_deliverAll_80 : decode cX7_deliverAll 80 = .ok (.iinc 3 1, 3) := by decide +kernel
theorem dX7_deliverAll_83 : decode cX7_deliverAll 83 = .ok (.goto (-72), 3) := by decide +kernel
theorem dX7_deliverAll_86 : decode cX7_deliverAll 86 = .ok (.iload_n 2, 1) := by decide +kernel
theorem dX7_deliverAll_87 : decode cX7_deliverAll 87 = .ok (.ireturn, 1) := by decide +kernel
set_option maxRecDepth 20000 in
theorem ggX7_comes_X7_isIn : GoodIn wsX7_comes wsX7_isIn := goodIn_r _ [8] (by decide +kernel) (by decide +kernel)
set_option maxRecDepth 20000 in
theorem gX7_comes_X7_isIn : GoodIn wsX7_comes (va_wsS RX7 125 yX7_isIn wsX7_isIn) := goodIn_app (goodIn_of _ (by decide +kernel)) ggX7_comes_X7_isIn
set_option maxRecDepth 20000 in
theorem ggX7_comes_X7_gets : GoodIn wsX7_comes wsX7_gets := goodIn_r _ [12, 4, 13, 14, 15, 16, 17, 18, 19, 20, 21, 22, 23, 7, 24, 25, 26, 27, 28, 29, 30, 31, 32, 33, 34, 35, 36, 37, 38, 39, 40, 41, 42, 43, 44, 45, 46, 47, 48, 49, 50, 51, 52, 53, 54, 55, 56, 57, 58, 59, 60] (by decide +kernel) (by decide +kernel)
set_option maxRecDepth 20000 in
theorem gX7_comes_X7_gets : GoodIn wsX7_comes (wsV RX7 152 RX7 yX7_gets wsX7_gets) := goodIn_app (goodIn_of _ (by decide +kernel)) ggX7_comes_X7_gets
theorem dX7_comes_0 : decode cX7_comes 0 = .ok (.iconst 0, 1) := by decide +kernel
theorem dX7_comes_1 : decode cX7_comes 1 = .ok (.istore 4, 2) := by decide +kernel
theorem dX7_comes_3 : decode cX7_comes 3 = .ok (.iload 4, 2) := by decide +kernel
theorem dX7_comes_5 : decode cX7_comes 5 = .ok (.aload_n 0, 1) := by decide +kernel
theorem dX7_comes_6 : decode cX7_comes 6 = .ok (.getfield 111, 3) := by decide +kernel
theorem dX7_comes_9 : decode cX7_comes 9 = .ok (.if_icmp .ge 73, 3) := by decide +kernel
theorem dX7_comes_12 : decode cX7_comes 12 = .ok (.iload 4, 2) := by decide +kernel
theorem dX7_comes_14 : decode cX7_comes 14 = .ok (.iload_n 1, 1) := by decide +kernel
theorem dX7_comes_15 : decode cX7_comes 15 = .ok (.if_icmp .eq 61, 3) := by decide +kernel
theorem dX7_comes_18 : decode cX7_comes 18 = .ok (.aload_n 0, 1) := by decide +kernel
