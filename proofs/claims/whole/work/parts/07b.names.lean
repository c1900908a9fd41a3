theorem dX2_isOfPrimary_4 : decode cX2_isOfPrimary 4 = .ok (.getfield 53, 3) := by decide +kernel
theorem dX2_isOfPrimary_7 : decode cX2_isOfPrimary 7 = .ok (.ifCond .le 21, 3) := by decide +kernel
theorem dX2_isOfPrimary_10 : decode cX2_isOfPrimary 10 = .ok (.aload_n 0, 1) := by decide +kernel
theorem dX2_isOfPrimary_11 : decode cX2_isOfPrimary 11 = .ok (.getfield 49, 3) := by decide +kernel
theorem dX2_isOfPrimary_14 : decode cX2_isOfPrimary 14 = .ok (.getfield 53, 3) := by decide +kernel
theorem dX2_isOfPrimary_17 : decode cX2_isOfPrimary 17 = .ok (.aload_n 0, 1) := by decide +kernel
theorem dX2_isOfPrimary_18 : decode cX2_isOfPrimary 18 = .ok (.getfield 56, 3) := by decide +kernel
theorem dX2_isOfPrimary_21 : decode cX2_isOfPrimary 21 = .ok (.if_icmp .ne 7, 3) := by decide +kernel
theorem dX2_isOfPrimary_24 : decode cX2_isOfPrimary 24 = .ok (.iconst 1, 1) := by decide +kernel
theorem dX2_isOfPrimary_25 : decode cX2_isOfPrimary 25 = .ok (.goto 4, 3) := by decide +kernel
theorem dX2_isOfPrimary_28 : decode cX2_isOfPrimary 28 = .ok (.iconst 0, 1) := by decide +kernel
theorem dX2_isOfPrimary_29 : decode cX2_isOfPrimary 29 = .ok (.ireturn, 1) := by decide +kernel
theorem dX2_isAheadOf_0 : decode cX2_isAheadOf 0 = .ok (.aload_n 0, 1) := by decide +kernel
theorem dX2_isAheadOf_1 : decode cX2_isAheadOf 1 = .ok (.getfield 56, 3) := by decide +kernel
theorem dX2_isAheadOf_4 : decode cX2_isAheadOf 4 = .ok (.aload_n 1, 1) := by decide +kernel
theorem dX2_isAheadOf_5 : decode cX2_isAheadOf 5 = .ok (.getfield 56, 3) := by decide +kernel
theorem dX2_isAheadOf_8 : decode cX2_isAheadOf 8 = .ok (.if_icmp .eq 20, 3) := by decide +kernel
theorem dX2_isAheadOf_11 : decode cX2_isAheadOf 11 = .ok (.aload_n 0, 1) := by decide +kernel
theorem dX2_isAheadOf_12 : decode cX2_isAheadOf 12 = .ok (.getfield 56, 3) := by decide +kernel
theorem dX2_isAheadOf_15 : decode cX2_isAheadOf 15 = .ok (.aload_n 1, 1) := by decide +kernel
theorem dX2_isAheadOf_16 : decode cX2_isAheadOf 16 = .ok (.getfield 56, 3) := by decide +kernel
theorem dX2_isAheadOf_19 : decode cX2_isAheadOf 19 = .ok (.if_icmp .le 7, 3) := by decide +kernel
theorem dX2_isAheadOf_22 : decode cX2_isAheadOf 22 = .ok (.iconst 1, 1) := by decide +kernel
theorem dX2_isAheadOf_23 : decode cX2_isAheadOf 23 = .ok (.goto 4, 3) := by decide +kernel
theorem dX2_isAheadOf_26 : decode cX2_isAheadOf 26 = .ok (.iconst 0, 1) := by decide +kernel
theorem dX2_isAheadOf_27 : decode cX2_isAheadOf 27 = .ok (.ireturn, 1) := by decide +kernel
theorem dX2_isAheadOf_28 : decode cX2_isAheadOf 28 = .ok (.aload_n 0, 1) := by decide +kernel
theorem dX2_isAheadOf_29 : decode cX2_isAheadOf 29 = .ok (.getfield 21, 3) := by decide +kernel
theorem dX2_isAheadOf_32 : decode cX2_isAheadOf 32 = .ok (.getfield 59, 3) := by decide +kernel
theorem dX2_isAheadOf_35 : decode cX2_isAheadOf 35 = .ok (.aload_n 1, 1) := by decide +kernel
theorem dX2_isAheadOf_36 : decode cX2_isAheadOf 36 = .ok (.getfield 21, 3) := by decide +kernel
theorem dX2_isAheadOf_39 : decode cX2_isAheadOf 39 = .ok (.getfield 59, 3) := by decide +kernel
theorem dX2_isAheadOf_42 : decode cX2_isAheadOf 42 = .ok (.if_icmp .eq 26, 3) := by decide +kernel
theorem dX2_isAheadOf_45 : decode cX2_isAheadOf 45 = .ok (.aload_n 0, 1) := by decide +kernel
theorem dX2_isAheadOf_46 : decode cX2_isAheadOf 46 = .ok (.getfield 21, 3) := by decide +kernel
theorem dX2_isAheadOf_49 : decode cX2_isAheadOf 49 = .ok (.getfield 59, 3) := by decide +kernel
theorem dX2_isAheadOf_52 : decode cX2_isAheadOf 52 = .ok (.aload_n 1, 1) := by decide +kernel
theorem dX2_isAheadOf_53 : decode cX2_isAheadOf 53 = .ok (.getfield 21, 3) := by decide +kernel
theorem dX2_isAheadOf_56 : decode cX2_isAheadOf 56 = .ok (.getfield 59, 3) := by decide +kernel
theorem dX2_isAheadOf_59 : decode cX2_isAheadOf 59 = .ok (.if_icmp .le 7, 3) := by decide +kernel
theorem dX2_isAheadOf_62 : decode cX2_isAheadOf 62 = .ok (.iconst 1, 1) := by decide +kernel
theorem dX2_isAheadOf_63 : decode cX2_isAheadOf 63 = .ok (.goto 4, 3) := by decide +kernel
theorem dX2_isAheadOf_66 : decode cX2_isAheadOf 66 = .ok (.iconst 0, 1) := by decide +kernel
theorem dX2_isAheadOf_67 : decode cX2_isAheadOf 67 = .ok (.ireturn, 1) := by decide +kernel
theorem dX2_isAheadOf_68 : decode cX2_isAheadOf 68 = .ok (.aload_n 0, 1) := by decide +kernel
theorem dX2_isAheadOf_69 : decode cX2_isAheadOf 69 = .ok (.getfield 42, 3) := by decide +kernel
theorem dX2_isAheadOf_72 : decode cX2_isAheadOf 72 = .ok (.aload_n 1, 1) := by decide +kernel
theorem dX2_isAheadOf_73 : decode cX2_isAheadOf 73 = .ok (.getfield 42, 3) := by decide +kernel
theorem dX2_isAheadOf_76 : decode cX2_isAheadOf 76 = .ok (.if_icmp .ge 7, 3) := by decide +kernel
theorem dX2_isAheadOf_79 : decode cX2_isAheadOf 79 = .ok (.iconst 1, 1) := by decide +kernel
theorem dX2_isAheadOf_80 : decode cX2_isAheadOf 80 = .ok (.goto 4, 3) := by decide +kernel
theorem dX2_isAheadOf_83 : decode cX2_isAheadOf 83 = .ok (.iconst 0, 1) := by decide +kernel
theorem dX2_isAheadOf_84 : decode cX2_isAheadOf 84 = .ok (.ireturn, 1) := by decide +kernel
theorem dX2_full_0 : decode cX2_full 0 = .ok (.iconst 0, 1) := by decide +kernel
theorem dX2_full_1 : decode cX2_full 1 = .ok (.istore_n 1, 1) := by decide +kernel
theorem dX2_full_2 : decode cX2_full 2 = .ok (.iload_n 1, 1) := by decide +kernel
theorem dX2_full_3 : decode cX2_full 3 = .ok (.bipush 100, 2) := by decide +kernel
theorem dX2_full_5 : decode cX2_full 5 = .ok (.if_icmp .ge 20, 3) := by decide +kernel
theorem dX2_full_8 : decode cX2_full 8 = .ok (.aload_n 0, 1) := by decide +kernel
theorem dX2_full_9 : decode cX2_full 9 = .ok (.getfield 34, 3) := by decide +kernel
theorem dX2_full_12 : decode cX2_full 12 = .ok (.iload_n 1, 1) := by decide +kernel
theorem dX2_full_13 : decode cX2_full 13 = .ok (.iconst 1, 1) := by decide +kernel
theorem dX2_full_14 : decode cX2_full 14 = .ok (.iadd, 1) := by decide +kernel
theorem dX2_full_15 : decode cX2_full 15 = .ok (.aaload, 1) := by decide +kernel
theorem dX2_full_16 : decode cX2_full 16 = .ok (.ifnull 9, 3) := by decide +kernel
theorem dX2_full_19 : decode cX2_full 19 = .ok (.iinc 1 1, 3) := by decide +kernel
theorem dX2_full_22 : decode cX2_full 22 = .ok (.goto (-20), 3) := by decide +kernel
theorem dX2_full_25 : decode cX2_full 25 = .ok (.iload_n 1, 1) := by decide +kernel
theorem dX2_full_26 : decode cX2_full 26 = .ok (.ireturn, 1) := by decide +kernel
set_option maxRecDepth 20000 in
theorem ggX2_receive_X2_isOfPrimary : GoodIn wsX2_receive wsX2_isOfPrimary := goodIn_r _ [9, 10, 11, 12, 13, 14, 15, 16, 17, 18, 19, 20, 21, 22, 23, 24, 25, 35, 36, 37, 38, 39, 40] (by decide +kernel) (by decide +kernel)
set_option maxRecDepth 20000 in
theorem gX2_receive_X2_isOfPrimary : GoodIn wsX2_receive (wsV RX2 65 RX2 yX2_isOfPrimary wsX2_isOfPrimary) := goodIn_app (goodIn_of _ (by decide +kernel)) ggX2_receive_X2_isOfPrimary
theorem dX2_receive_0 : decode cX2_receive 0 = .ok (.aload_n 0, 1) := by decide +kernel
theorem dX2_receive_1 : decode cX2_receive 1 = .ok (.getfield 34, 3) := by decide +kernel
theorem dX2_receive_4 : decode cX2_receive 4 = .ok (.iload_n 1, 1) := by decide +kernel
theorem dX2_receive_5 : decode cX2_receive 5 = .ok (.aload_n 2, 1) := by decide +kernel
theorem dX2_receive_6 : decode cX2_receive 6 = .ok (.aastore, 1) := by decide +kernel
theorem dX2_receive_7 : decode cX2_receive 7 = .ok (.aload_n 2, 1) := by decide +kernel
theorem dX2_receive_8 : decode cX2_receive 8 = .ok (.getfield 62, 3) := by decide +kernel
theorem dX2_receive_11 : decode cX2_receive 11 = .ok (.ifCond .eq 20, 3) := by decide +kernel
theorem dX2_receive_14 : decode cX2_receive 14 = .ok (.aload_n 0, 1) := by decide +kernel
theorem dX2_receive_15 : decode cX2_receive 15 = .ok (.invokevirtual 65, 3) := by decide +kernel
theorem dX2_receive_18 : decode cX2_receive 18 = .ok (.ifCond .eq 13, 3) := by decide +kernel
theorem dX2_receive_21 : decode cX2_receive 21 = .ok (.aload_n 0, 1) := by decide +kernel
theorem dX2_receive_22 : decode cX2_receive 22 = .ok (.getfield 21, 3) := by decide +kernel
theorem dX2_receive_25 : decode cX2_receive 25 = .ok (.getfield 69, 3) := by decide +kernel
theorem dX2_receive_28 : decode cX2_receive 28 = .ok (.iload_n 1, 1) := by decide +kernel
theorem dX2_receive_29 : decode cX2_receive 29 = .ok (.aload_n 2, 1) := by decide +kernel
theorem dX2_receive_30 : decode cX2_receive 30 = .ok (.aastore, 1) := by decide +kernel
theorem dX2_receive_31 : decode cX2_receive 31 = .ok (.return_, 1) := by decide +kernel
set_option maxRecDepth 20000 in
theorem ggX2_deliverInTurn_X2_tell : GoodIn wsX2_deliverInTurn wsX2_tell := goodIn_r _ [10, 1, 11, 12, 13, 14, 15, 16, 17, 18, 19, 20, 21, 22, 23, 24, 25, 26, 27, 45, 46, 47, 48, 49, 50, 51, 52, 53, 54, 55, 56, 57, 58, 59, 60, 61, 62, 63, 64, 65, 66, 67, 68, 69] (by decide +kernel) (by decide +kernel)
set_option maxRecDepth 20000 in
theorem gX2_deliverInTurn_X2_tell : GoodIn wsX2_deliverInTurn (wsV RX2 78 RX2 yX2_tell wsX2_tell) := goodIn_app (goodIn_of _ (by decide +kernel)) ggX2_deliverInTurn_X2_tell
set_option maxRecDepth 20000 in
theorem ggX2_deliverInTurn_X2_isOfPrimary : GoodIn wsX2_deliverInTurn wsX2_isOfPrimary := goodIn_r _ [31, 15, 16, 32, 45, 46, 47, 48, 49, 50, 51, 52, 53, 54, 55, 56, 57, 62, 63, 64, 65, 66, 67] (by decide +kernel) (by decide +kernel)
set_option maxRecDepth 20000 in
theorem gX2_deliverInTurn_X2_isOfPrimary : GoodIn wsX2_deliverInTurn (wsV RX2 65 RX2 yX2_isOfPrimary wsX2_isOfPrimary) := goodIn_app (goodIn_of _ (by decide +kernel)) ggX2_deliverInTurn_X2_isOfPrimary
set_option maxRecDepth 20000 in
theorem ggX2_deliverInTurn_X4_apply : GoodIn wsX2_deliverInTurn wsX4_apply := goodIn_r _ [37, 38, 39, 40, 41, 42, 43, 44, 70, 71, 72, 73, 74, 58, 59, 60, 61] (by decide +kernel) (by decide +kernel)
set_option maxRecDepth 20000 in
theorem gX2_deliverInTurn_X4_apply : GoodIn wsX2_deliverInTurn (wsV RX2 82 RX4 yX4_apply wsX4_apply) := goodIn_app (goodIn_of _ (by decide +kernel)) ggX2_deliverInTurn_X4_apply
theorem dX2_deliverInTurn_0 : decode cX2_deliverInTurn 0 = .ok (.aload_n 0, 1) := by decide +kernel
theorem dX2_deliverInTurn_1 : decode cX2_deliverInTurn 1 = .ok (.getfield 72, 3) := by decide +kernel
theorem dX2_deliverInTurn_4 : decode cX2_deliverInTurn 4 = .ok (.istore_n 1, 1) := by decide +kernel
theorem dX2_deliverInTurn_5 : decode cX2_deliverInTurn 5 = .ok (.iload_n 1, 1) := by decide +kernel
theorem dX2_deliverInTurn_6 : decode cX2_deliverInTurn 6 = .ok (.iconst 1, 1) := by decide +kernel
theorem dX2_deliverInTurn_7 : decode cX2_deliverInTurn 7 = .ok (.iadd, 1) := by decide +kernel
theorem dX2_deliverInTurn_8 : decode cX2_deliverInTurn 8 = .ok (.istore_n 2, 1) := by decide +kernel
theorem dX2_deliverInTurn_9 : decode cX2_deliverInTurn 9 = .ok (.iload_n 2, 1) := by decide +kernel
theorem dX2_deliverInTurn_10 : decode cX2_deliverInTurn 10 = .ok (.bipush 100, 2) := by decide +kernel
theorem dX2_deliverInTurn_12 : decode cX2_deliverInTurn 12 = .ok (.if_icmp .gt 67, 3) := by decide +kernel
theorem dX2_deliverInTurn_15 : decode cX2_deliverInTurn 15 = .ok (.aload_n 0, 1) := by decide +kernel
theorem dX2_deliverInTurn_16 : decode cX2_deliverInTurn 16 = .ok (.getfield 34, 3) := by decide +kernel
theorem dX2_deliverInTurn_19 : decode cX2_deliverInTurn 19 = .ok (.iload_n 2, 1) := by decide +kernel
theorem dX2_deliverInTurn_20 : decode cX2_deliverInTurn 20 = .ok (.aaload, 1) := by decide +kernel
theorem dX2_deliverInTurn_21 : decode cX2_deliverInTurn 21 = .ok (.astore_n 3, 1) := by decide +kernel
theorem dX2_deliverInTurn_22 : decode cX2_deliverInTurn 22 = .ok (.aload_n 3, 1) := by decide +kernel
theorem dX2_deliverInTurn_23 : decode cX2_deliverInTurn 23 = .ok (.ifnull 56, 3) := by decide +kernel
theorem dX2_deliverInTurn_26 : decode cX2_deliverInTurn 26 = .ok (.aload_n 3, 1) := by decide +kernel
theorem dX2_deliverInTurn_27 : decode cX2_deliverInTurn 27 = .ok (.getfield 62, 3) := by decide +kernel
theorem dX2_deliverInTurn_30 : decode cX2_deliverInTurn 30 = .ok (.ifCond .eq 14, 3) := by decide +kernel
theorem dX2_deliverInTurn_33 : decode cX2_deliverInTurn 33 = .ok (.iload_n 2, 1) := by decide +kernel
theorem dX2_deliverInTurn_34 : decode cX2_deliverInTurn 34 = .ok (.aload_n 0, 1) := by decide +kernel
theorem dX2_deliverInTurn_35 : decode cX2_deliverInTurn 35 = .ok (.getfield 75, 3) := by decide +kernel
theorem dX2_deliverInTurn_38 : decode cX2_deliverInTurn 38 = .ok (.if_icmp .le 6, 3) := by decide +kernel
theorem dX2_deliverInTurn_41 : decode cX2_deliverInTurn 41 = .ok (.goto 38, 3) := by decide +kernel
theorem dX2_deliverInTurn_44 : decode cX2_deliverInTurn 44 = .ok (.aload_n 0, 1) := by decide +kernel
theorem dX2_deliverInTurn_45 : decode cX2_deliverInTurn 45 = .ok (.iload_n 2, 1) := by decide +kernel
theorem dX2_deliverInTurn_46 : decode cX2_deliverInTurn 46 = .ok (.aload_n 3, 1) := by decide +kernel
theorem dX2_deliverInTurn_47 : decode cX2_deliverInTurn 47 = .ok (.invokevirtual 78, 3) := by decide +kernel
theorem dX2_deliverInTurn_50 : decode cX2_deliverInTurn 50 = .ok (.aload_n 3, 1) := by decide +kernel
theorem dX2_deliverInTurn_51 : decode cX2_deliverInTurn 51 = .ok (.getfield 62, 3) := by decide +kernel
theorem dX2_deliverInTurn_54 : decode cX2_deliverInTurn 54 = .ok (.ifCond .eq 19, 3) := by decide +kernel
theorem dX2_deliverInTurn_57 : decode cX2_deliverInTurn 57 = .ok (.aload_n 0, 1) := by decide +kernel
theorem dX2_deliverInTurn_58 : decode cX2_deliverInTurn 58 = .ok (.invokevirtual 65, 3) := by decide +kernel
theorem dX2_deliverInTurn_61 : decode cX2_deliverInTurn 61 = .ok (.ifCond .eq 12, 3) := by decide +kernel
theorem dX2_deliverInTurn_64 : decode cX2_deliverInTurn 64 = .ok (.aload_n 0, 1) := by decide +kernel
theorem dX2_deliverInTurn_65 : decode cX2_deliverInTurn 65 = .ok (.getfield 21, 3) := by decide +kernel
theorem dX2_deliverInTurn_68 : decode cX2_deliverInTurn 68 = .ok (.iload_n 2, 1) := by decide +kernel
theorem dX2_deliverInTurn_69 : decode cX2_deliverInTurn 69 = .ok (.aload_n 3, 1) := by decide +kernel
theorem dX2_deliverInTurn_70 : decode cX2_deliverInTurn 70 = .ok (.invokevirtual 82, 3) := by decide +kernel
theorem dX2_deliverInTurn_73 : decode cX2_deliverInTurn 73 = .ok (.iinc 2 1, 3) := by decide +kernel
theorem dX2_deliverInTurn_76 : decode cX2_deliverInTurn 76 = .ok (.goto (-67), 3) := by decide +kernel
theorem dX2_deliverInTurn_79 : decode cX2_deliverInTurn 79 = .ok (.aload_n 0, 1) := by decide +kernel
theorem dX2_deliverInTurn_80 : decode cX2_deliverInTurn 80 = .ok (.getfield 72, 3) := by decide +kernel
theorem dX2_deliverInTurn_83 : decode cX2_deliverInTurn 83 = .ok (.iload_n 1, 1) := by decide +kernel
theorem dX2_deliverInTurn_84 : decode cX2_deliverInTurn 84 = .ok (.isub, 1) := by decide +kernel
theorem dX2_deliverInTurn_85 : decode cX2_deliverInTurn 85 = .ok (.ireturn, 1) := by decide +kernel
set_option maxRecDepth 20000 in
theorem ggX2_deliverLeft_X6_isIn : GoodIn wsX2_deliverLeft wsX6_isIn := goodIn_r _ [6] (by decide +kernel) (by decide +kernel)
set_option maxRecDepth 20000 in
theorem gX2_deliverLeft_X6_isIn_n88 : GoodIn wsX2_deliverLeft (wsX6_isIn) := ggX2_deliverLeft_X6_isIn
set_option maxRecDepth 20000 in
theorem ggX2_deliverLeft_X2_tell : GoodIn wsX2_deliverLeft wsX2_tell := goodIn_r _ [11, 1, 12, 3, 13, 14, 15, 16, 17, 18, 19, 20, 21, 22, 23, 24, 25, 26, 27, 28, 29, 30, 31, 32, 33, 34, 35, 36, 37, 38, 39, 40, 41, 42, 43, 44, 45, 46, 47, 48, 49, 50, 51, 52] (by decide +kernel) (by decide +kernel)
set_option maxRecDepth 20000 in
theorem gX2_deliverLeft_X2_tell : GoodIn wsX2_deliverLeft (wsV RX2 78 RX2 yX2_tell wsX2_tell) := goodIn_app (goodIn_of _ (by decide +kernel)) ggX2_deliverLeft_X2_tell
theorem dX2_deliverLeft_0 : decode cX2_deliverLeft 0 = .ok (.iconst 0, 1) := by decide +kernel
theorem dX2_deliverLeft_1 : decode cX2_deliverLeft 1 = .ok (.istore_n 2, 1) := by decide +kernel
theorem dX2_deliverLeft_2 : decode cX2_deliverLeft 2 = .ok (.aload_n 0, 1) := by decide +kernel
theorem dX2_deliverLeft_3 : decode cX2_deliverLeft 3 = .ok (.getfield 72, 3) := by decide +kernel
theorem dX2_deliverLeft_6 : decode cX2_deliverLeft 6 = .ok (.iconst 1, 1) := by decide +kernel
theorem dX2_deliverLeft_7 : decode cX2_deliverLeft 7 = .ok (.iadd, 1) := by decide +kernel
theorem dX2_deliverLeft_8 : decode cX2_deliverLeft 8 = .ok (.istore_n 3, 1) := by decide +kernel
theorem dX2_deliverLeft_9 : decode cX2_deliverLeft 9 = .ok (.iload_n 3, 1) := by decide +kernel
theorem dX2_deliverLeft_10 : decode cX2_deliverLeft 10 = .ok (.bipush 100, 2) := by decide +kernel
theorem dX2_deliverLeft_12 : decode cX2_deliverLeft 12 = .ok (.if_icmp .gt 50, 3) := by decide +kernel
theorem dX2_deliverLeft_15 : decode cX2_deliverLeft 15 = .ok (.aload_n 0, 1) := by decide +kernel
theorem dX2_deliverLeft_16 : decode cX2_deliverLeft 16 = .ok (.getfield 34, 3) := by decide +kernel
theorem dX2_deliverLeft_19 : decode cX2_deliverLeft 19 = .ok (.iload_n 3, 1) := by decide +kernel
theorem dX2_deliverLeft_20 : decode cX2_deliverLeft 20 = .ok (.aaload, 1) := by decide +kernel
theorem dX2_deliverLeft_21 : decode cX2_deliverLeft 21 = .ok (.astore 4, 2) := by decide +kernel
theorem dX2_deliverLeft_23 : decode cX2_deliverLeft 23 = .ok (.aload 4, 2) := by decide +kernel
theorem dX2_deliverLeft_25 : decode cX2_deliverLeft 25 = .ok (.ifnonnull 8, 3) := by decide +kernel
theorem dX2_deliverLeft_28 : decode cX2_deliverLeft 28 = .ok (.iconst 1, 1) := by decide +kernel
theorem dX2_deliverLeft_29 : decode cX2_deliverLeft 29 = .ok (.istore_n 2, 1) := by decide +kernel
theorem dX2_deliverLeft_30 : decode cX2_deliverLeft 30 = .ok (.goto 26, 3) := by decide +kernel
theorem dX2_deliverLeft_33 : decode cX2_deliverLeft 33 = .ok (.iload_n 2, 1) := by decide +kernel
theorem dX2_deliverLeft_34 : decode cX2_deliverLeft 34 = .ok (.ifCond .eq 15, 3) := by decide +kernel
theorem dX2_deliverLeft_37 : decode cX2_deliverLeft 37 = .ok (.aload 4, 2) := by decide +kernel
theorem dX2_deliverLeft_39 : decode cX2_deliverLeft 39 = .ok (.getfield 85, 3) := by decide +kernel
theorem dX2_deliverLeft_42 : decode cX2_deliverLeft 42 = .ok (.iload_n 1, 1) := by decide +kernel
theorem dX2_deliverLeft_43 : decode cX2_deliverLeft 43 = .ok (.invokestatic 88, 3) := by decide +kernel
theorem dX2_deliverLeft_46 : decode cX2_deliverLeft 46 = .ok (.ifCond .eq 10, 3) := by decide +kernel
theorem dX2_deliverLeft_49 : decode cX2_deliverLeft 49 = .ok (.aload_n 0, 1) := by decide +kernel
theorem dX2_deliverLeft_50 : decode cX2_deliverLeft 50 = .ok (.iload_n 3, 1) := by decide +kernel
theorem dX2_deliverLeft_51 : decode cX2_deliverLeft 51 = .ok (.aload 4, 2) := by decide +kernel
theorem dX2_deliverLeft_53 : decode cX2_deliverLeft 53 = .ok (.invokevirtual 78, 3) := by decide +kernel
theorem dX2_deliverLeft_56 : decode cX2_deliverLeft 56 = .ok (.iinc 3 1, 3) := by decide +kernel
theorem dX2_deliverLeft_59 : decode cX2_deliverLeft 59 = .ok (.goto (-50), 3) := by decide +kernel
theorem dX2_deliverLeft_62 : decode cX2_deliverLeft 62 = .ok (.return_, 1) := by decide +kernel
set_option maxRecDepth 20000 in
theorem ggX2_tell_X0_add : GoodIn wsX2_tell wsX0_add := goodIn_r _ [12, 13, 14, 15, 16, 17, 18, 42, 43] (by decide +kernel) (by decide +kernel)
set_option maxRecDepth 20000 in
theorem gX2_tell_X0_add : GoodIn wsX2_tell (wsV RX2 99 RX0 yX0_add wsX0_add) := goodIn_app (goodIn_of _ (by decide +kernel)) ggX2_tell_X0_add
theorem dX2_tell_0 : decode cX2_tell 0 = .ok (.aload_n 0, 1) := by decide +kernel
theorem dX2_tell_1 : decode cX2_tell 1 = .ok (.iload_n 1, 1) := by decide +kernel
theorem dX2_tell_2 : decode cX2_tell 2 = .ok (.putfield 72, 3) := by decide +kernel
theorem dX2_tell_5 : decode cX2_tell 5 = .ok (.aload_n 0, 1) := by decide +kernel
theorem dX2_tell_6 : decode cX2_tell 6 = .ok (.getfield 28, 3) := by decide +kernel
theorem dX2_tell_9 : decode cX2_tell 9 = .ok (.iconst 1, 1) := by decide +kernel
theorem dX2_tell_10 : decode cX2_tell 10 = .ok (.iload_n 1, 1) := by decide +kernel
theorem dX2_tell_11 : decode cX2_tell 11 = .ok (.aload_n 2, 1) := by decide +kernel
theorem dX2_tell_12 : decode cX2_tell 12 = .ok (.getfield 85, 3) := by decide +kernel
theorem dX2_tell_15 : decode cX2_tell 15 = .ok (.aload_n 2, 1) := by decide +kernel
theorem dX2_tell_16 : decode cX2_tell 16 = .ok (.getfield 92, 3) := by decide +kernel
theorem dX2_tell_19 : decode cX2_tell 19 = .ok (.aload_n 2, 1) := by decide +kernel
theorem dX2_tell_20 : decode cX2_tell 20 = .ok (.getfield 95, 3) := by decide +kernel
theorem dX2_tell_23 : decode cX2_tell 23 = .ok (.aload_n 0, 1) := by decide +kernel
theorem dX2_tell_24 : decode cX2_tell 24 = .ok (.getfield 49, 3) := by decide +kernel
theorem dX2_tell_27 : decode cX2_tell 27 = .ok (.getfield 53, 3) := by decide +kernel
theorem dX2_tell_30 : decode cX2_tell 30 = .ok (.invokevirtual 99, 3) := by decide +kernel
theorem dX2_tell_33 : decode cX2_tell 33 = .ok (.return_, 1) := by decide +kernel
theorem dX2_leaveRing_0 : decode cX2_leaveRing 0 = .ok (.aload_n 0, 1) := by decide +kernel
theorem dX2_leaveRing_1 : decode cX2_leaveRing 1 = .ok (.getfield 49, 3) := by decide +kernel
theorem dX2_leaveRing_4 : decode cX2_leaveRing 4 = .ok (.getfield 103, 3) := by decide +kernel
theorem dX2_leaveRing_7 : decode cX2_leaveRing 7 = .ok (.aload_n 0, 1) := by decide +kernel
theorem dX2_leaveRing_8 : decode cX2_leaveRing 8 = .ok (.getfield 42, 3) := by decide +kernel
theorem dX2_leaveRing_11 : decode cX2_leaveRing 11 = .ok (.if_icmp .ne 11, 3) := by decide +kernel
theorem dX2_leaveRing_14 : decode cX2_leaveRing 14 = .ok (.aload_n 0, 1) := by decide +kernel
theorem dX2_leaveRing_15 : decode cX2_leaveRing 15 = .ok (.getfield 49, 3) := by decide +kernel
theorem dX2_leaveRing_18 : decode cX2_leaveRing 18 = .ok (.iconst (-1), 1) := by decide +kernel
theorem dX2_leaveRing_19 : decode cX2_leaveRing 19 = .ok (.putfield 103, 3) := by decide +kernel
theorem dX2_leaveRing_22 : decode cX2_leaveRing 22 = .ok (.aload_n 0, 1) := by decide +kernel
theorem dX2_leaveRing_23 : decode cX2_leaveRing 23 = .ok (.aload_n 1, 1) := by decide +kernel
theorem dX2_leaveRing_24 : decode cX2_leaveRing 24 = .ok (.putfield 49, 3) := by decide +kernel
theorem dX2_leaveRing_27 : decode cX2_leaveRing 27 = .ok (.aload_n 0, 1) := by decide +kernel
theorem dX2_leaveRing_28 : decode cX2_leaveRing 28 = .ok (.iconst 0, 1) := by decide +kernel
theorem dX2_leaveRing_29 : decode cX2_leaveRing 29 = .ok (.putfield 72, 3) := by decide +kernel
theorem dX2_leaveRing_32 : decode cX2_leaveRing 32 = .ok (.aload_n 0, 1) := by decide +kernel
theorem dX2_leaveRing_33 : decode cX2_leaveRing 33 = .ok (.iconst 0, 1) := by decide +kernel
theorem dX2_leaveRing_34 : decode cX2_leaveRing 34 = .ok (.putfield 75, 3) := by decide +kernel
theorem dX2_leaveRing_37 : decode cX2_leaveRing 37 = .ok (.iconst 0, 1) := by decide +kernel
theorem dX2_leaveRing_38 : decode cX2_leaveRing 38 = .ok (.istore_n 2, 1) := by decide +kernel
theorem dX2_leaveRing_39 : decode cX2_leaveRing 39 = .ok (.iload_n 2, 1) := by decide +kernel
theorem dX2_leaveRing_40 : decode cX2_leaveRing 40 = .ok (.bipush 100, 2) := by decide +kernel
theorem dX2_leaveRing_42 : decode cX2_leaveRing 42 = .ok (.if_icmp .gt 16, 3) := by decide +kernel
theorem dX2_leaveRing_45 : decode cX2_leaveRing 45 = .ok (.aload_n 0, 1) := by decide +kernel
theorem dX2_leaveRing_46 : decode cX2_leaveRing 46 = .ok (.getfield 34, 3) := by decide +kernel
theorem dX2_leaveRing_49 : decode cX2_leaveRing 49 = .ok (.iload_n 2, 1) := by decide +kernel
theorem dX2_leaveRing_50 : decode cX2_leaveRing 50 = .ok (.aconst_null, 1) := by decide +kernel
theorem dX2_leaveRing_51 : decode cX2_leaveRing 51 = .ok (.aastore, 1) := by decide +kernel
theorem dX2_leaveRing_52 : decode cX2_leaveRing 52 = .ok (.iinc 2 1, 3) := by decide +kernel
theorem dX2_leaveRing_55 : decode cX2_leaveRing 55 = .ok (.goto (-16), 3) := by decide +kernel
theorem dX2_leaveRing_58 : decode cX2_leaveRing 58 = .ok (.return_, 1) := by decide +kernel
set_option maxRecDepth 20000 in
theorem ggX2_joinRing_X4_forgetKept : GoodIn wsX2_joinRing wsX4_forgetKept := goodIn_r _ [13, 14, 15, 46, 47, 48, 49, 50] (by decide +kernel) (by decide +kernel)
set_option maxRecDepth 20000 in
theorem gX2_joinRing_X4_forgetKept : GoodIn wsX2_joinRing (wsV RX2 112 RX4 yX4_forgetKept wsX4_forgetKept) := goodIn_app (goodIn_of _ (by decide +kernel)) ggX2_joinRing_X4_forgetKept
set_option maxRecDepth 20000 in
theorem ggX2_joinRing_X0_add : GoodIn wsX2_joinRing wsX0_add := goodIn_r _ [20, 21, 22, 23, 24, 25, 26, 51, 52] (by decide +kernel) (by decide +kernel)
set_option maxRecDepth 20000 in
theorem gX2_joinRing_X0_add : GoodIn wsX2_joinRing (wsV RX2 99 RX0 yX0_add wsX0_add) := goodIn_app (goodIn_of _ (by decide +kernel)) ggX2_joinRing_X0_add
theorem dX2_joinRing_0 : decode cX2_joinRing 0 = .ok (.aload_n 0, 1) := by decide +kernel
theorem dX2_joinRing_1 : decode cX2_joinRing 1 = .ok (.aload_n 1, 1) := by decide +kernel
theorem dX2_joinRing_2 : decode cX2_joinRing 2 = .ok (.putfield 49, 3) := by decide +kernel
theorem dX2_joinRing_5 : decode cX2_joinRing 5 = .ok (.aload_n 0, 1) := by decide +kernel
theorem dX2_joinRing_6 : decode cX2_joinRing 6 = .ok (.aload_n 1, 1) := by decide +kernel
theorem dX2_joinRing_7 : decode cX2_joinRing 7 = .ok (.getfield 53, 3) := by decide +kernel
theorem dX2_joinRing_10 : decode cX2_joinRing 10 = .ok (.putfield 106, 3) := by decide +kernel
theorem dX2_joinRing_13 : decode cX2_joinRing 13 = .ok (.iload_n 2, 1) := by decide +kernel
theorem dX2_joinRing_14 : decode cX2_joinRing 14 = .ok (.ifCond .eq 26, 3) := by decide +kernel
theorem dX2_joinRing_17 : decode cX2_joinRing 17 = .ok (.aload_n 0, 1) := by decide +kernel
theorem dX2_joinRing_18 : decode cX2_joinRing 18 = .ok (.aload_n 1, 1) := by decide +kernel
theorem dX2_joinRing_19 : decode cX2_joinRing 19 = .ok (.getfield 53, 3) := by decide +kernel
theorem dX2_joinRing_22 : decode cX2_joinRing 22 = .ok (.putfield 56, 3) := by decide +kernel
theorem dX2_joinRing_25 : decode cX2_joinRing 25 = .ok (.aload_n 0, 1) := by decide +kernel
theorem dX2_joinRing_26 : decode cX2_joinRing 26 = .ok (.aload_n 1, 1) := by decide +kernel
theorem dX2_joinRing_27 : decode cX2_joinRing 27 = .ok (.getfield 109, 3) := by decide +kernel
theorem dX2_joinRing_30 : decode cX2_joinRing 30 = .ok (.putfield 46, 3) := by decide +kernel
theorem dX2_joinRing_33 : decode cX2_joinRing 33 = .ok (.aload_n 0, 1) := by decide +kernel
theorem dX2_joinRing_34 : decode cX2_joinRing 34 = .ok (.getfield 21, 3) := by decide +kernel
theorem dX2_joinRing_37 : decode cX2_joinRing 37 = .ok (.invokevirtual 112, 3) := by decide +kernel
theorem dX2_joinRing_40 : decode cX2_joinRing 40 = .ok (.aload_n 0, 1) := by decide +kernel
theorem dX2_joinRing_41 : decode cX2_joinRing 41 = .ok (.getfield 28, 3) := by decide +kernel
theorem dX2_joinRing_44 : decode cX2_joinRing 44 = .ok (.iconst 3, 1) := by decide +kernel
theorem dX2_joinRing_45 : decode cX2_joinRing 45 = .ok (.aload_n 1, 1) := by decide +kernel
theorem dX2_joinRing_46 : decode cX2_joinRing 46 = .ok (.getfield 109, 3) := by decide +kernel
theorem dX2_joinRing_49 : decode cX2_joinRing 49 = .ok (.iconst 0, 1) := by decide +kernel
theorem dX2_joinRing_50 : decode cX2_joinRing 50 = .ok (.iconst 0, 1) := by decide +kernel
theorem dX2_joinRing_51 : decode cX2_joinRing 51 = .ok (.lconst 0, 1) := by decide +kernel
theorem dX2_joinRing_52 : decode cX2_joinRing 52 = .ok (.aload_n 1, 1) := by decide +kernel
theorem dX2_joinRing_53 : decode cX2_joinRing 53 = .ok (.getfield 53, 3) := by decide +kernel
theorem dX2_joinRing_56 : decode cX2_joinRing 56 = .ok (.invokevirtual 99, 3) := by decide +kernel
theorem dX2_joinRing_59 : decode cX2_joinRing 59 = .ok (.return_, 1) := by decide +kernel
theorem dX3_init_0 : decode cX3_init 0 = .ok (.aload_n 0, 1) := by decide +kernel
theorem dX3_init_1 : decode cX3_init 1 = .ok (.invokespecial 3, 3) := by decide +kernel
theorem dX3_init_4 : decode cX3_init 4 = .ok (.aload_n 0, 1) := by decide +kernel
theorem dX3_init_5 : decode cX3_init 5 = .ok (.bipush 12, 2) := by decide +kernel
theorem dX3_init_7 : decode cX3_init 7 = .ok (.anewarray 9, 3) := by decide +kernel
theorem dX3_init_10 : decode cX3_init 10 = .ok (.putfield 11, 3) := by decide +kernel
theorem dX3_init_13 : decode cX3_init 13 = .ok (.return_, 1) := by decide +kernel
theorem dX3_isFull_0 : decode cX3_isFull 0 = .ok (.aload_n 0, 1) := by decide +kernel
theorem dX3_isFull_1 : decode cX3_isFull 1 = .ok (.getfield 17, 3) := by decide +kernel
theorem dX3_isFull_4 : decode cX3_isFull 4 = .ok (.bipush 12, 2) := by decide +kernel
theorem dX3_isFull_6 : decode cX3_isFull 6 = .ok (.if_icmp .lt 7, 3) := by decide +kernel
theorem dX3_isFull_9 : decode cX3_isFull 9 = .ok (.iconst 1, 1) := by decide +kernel
theorem dX3_isFull_10 : decode cX3_isFull 10 = .ok (.goto 4, 3) := by decide +kernel
theorem dX3_isFull_13 : decode cX3_isFull 13 = .ok (.iconst 0, 1) := by decide +kernel
theorem dX3_isFull_14 : decode cX3_isFull 14 = .ok (.ireturn, 1) := by decide +kernel
theorem dX3_put_0 : decode cX3_put 0 = .ok (.aload_n 0, 1) := by decide +kernel
theorem dX3_put_1 : decode cX3_put 1 = .ok (.getfield 11, 3) := by decide +kernel
theorem dX3_put_4 : decode cX3_put 4 = .ok (.aload_n 0, 1) := by decide +kernel
theorem dX3_put_5 : decode cX3_put 5 = .ok (.getfield 17, 3) := by decide +kernel
theorem dX3_put_8 : decode cX3_put 8 = .ok (.aload_n 1, 1) := by decide +kernel
theorem dX3_put_9 : decode cX3_put 9 = .ok (.aastore, 1) := by decide +kernel
theorem dX3_put_10 : decode cX3_put 10 = .ok (.aload_n 0, 1) := by decide +kernel
theorem dX3_put_11 : decode cX3_put 11 = .ok (.dup, 1) := by decide +kernel
theorem dX3_put_12 : decode cX3_put 12 = .ok (.getfield 17, 3) := by decide +kernel
theorem dX3_put_15 : decode cX3_put 15 = .ok (.iconst 1, 1) := by decide +kernel
theorem dX3_put_16 : decode cX3_put 16 = .ok (.iadd, 1) := by decide +kernel
theorem dX3_put_17 : decode cX3_put 17 = .ok (.putfield 17, 3) := by decide +kernel
theorem dX3_put_20 : decode cX3_put 20 = .ok (.aload_n 0, 1) := by decide +kernel
theorem dX3_put_21 : decode cX3_put 21 = .ok (.getfield 17, 3) := by decide +kernel
theorem dX3_put_24 : decode cX3_put 24 = .ok (.ireturn, 1) := by decide +kernel
theorem dX3_takeFirst_0 : decode cX3_takeFirst 0 = .ok (.aload_n 0, 1) := by decide +kernel
theorem dX3_takeFirst_1 : decode cX3_takeFirst 1 = .ok (.getfield 17, 3) := by decide +kernel
theorem dX3_takeFirst_4 : decode cX3_takeFirst 4 = .ok (.ifCond .ne 5, 3) := by decide +kernel
theorem dX3_takeFirst_7 : decode cX3_takeFirst 7 = .ok (.aconst_null, 1) := by decide +kernel
theorem dX3_takeFirst_8 : decode cX3_takeFirst 8 = .ok (.areturn, 1) := by decide +kernel
theorem dX3_takeFirst_9 : decode cX3_takeFirst 9 = .ok (.aload_n 0, 1) := by decide +kernel
theorem dX3_takeFirst_10 : decode cX3_takeFirst 10 = .ok (.getfield 11, 3) := by decide +kernel
theorem dX3_takeFirst_13 : decode cX3_takeFirst 13 = .ok (.iconst 0, 1) := by decide +kernel
theorem dX3_takeFirst_14 : decode cX3_takeFirst 14 = .ok (.aaload, 1) := by decide +kernel
theorem dX3_takeFirst_15 : decode cX3_takeFirst 15 = .ok (.astore_n 1, 1) := by decide +kernel
theorem dX3_takeFirst_16 : decode cX3_takeFirst 16 = .ok (.aload_n 0, 1) := by decide +kernel
theorem dX3_takeFirst_17 : decode cX3_takeFirst 17 = .ok (.dup, 1) := by decide +kernel
theorem dX3_takeFirst_18 : decode cX3_takeFirst 18 = .ok (.getfield 17, 3) := by decide +kernel
theorem dX3_takeFirst_21 : decode cX3_takeFirst 21 = .ok (.iconst 1, 1) := by decide +kernel
theorem dX3_takeFirst_22 : decode cX3_takeFirst 22 = .ok (.isub, 1) := by decide +kernel
theorem dX3_takeFirst_23 : decode cX3_takeFirst 23 = .ok (.putfield 17, 3) := by decide +kernel
theorem dX3_takeFirst_26 : decode cX3_takeFirst 26 = .ok (.iconst 0, 1) := by decide +kernel
theorem dX3_takeFirst_27 : decode cX3_takeFirst 27 = .ok (.istore_n 2, 1) := by decide +kernel
theorem dX3_takeFirst_28 : decode cX3_takeFirst 28 = .ok (.iload_n 2, 1) := by decide +kernel
theorem dX3_takeFirst_29 : decode cX3_takeFirst 29 = .ok (.aload_n 0, 1) := by decide +kernel
theorem dX3_takeFirst_30 : decode cX3_takeFirst 30 = .ok (.getfield 17, 3) := by decide +kernel
theorem dX3_takeFirst_33 : decode cX3_takeFirst 33 = .ok (.if_icmp .ge 23, 3) := by decide +kernel
theorem dX3_takeFirst_36 : decode cX3_takeFirst 36 = .ok (.aload_n 0, 1) := by decide +kernel
theorem dX3_takeFirst_37 : decode cX3_takeFirst 37 = .ok (.getfield 11, 3) := by decide +kernel
theorem dX3_takeFirst_40 : decode cX3_takeFirst 40 = .ok (.iload_n 2, 1) := by decide +kernel
theorem dX3_takeFirst_41 : decode cX3_takeFirst 41 = .ok (.aload_n 0, 1) := by decide +kernel
theorem dX3_takeFirst_42 : decode cX3_takeFirst 42 = .ok (.getfield 11, 3) := by decide +kernel
theorem dX3_takeFirst_45 : decode cX3_takeFirst 45 = .ok (.iload_n 2, 1) := by decide +kernel
theorem dX3_takeFirst_46 : decode cX3_takeFirst 46 = .ok (.iconst 1, 1) := by decide +kernel
theorem dX3_takeFirst_47 : decode cX3_takeFirst 47 = .ok (.iadd, 1) := by decide +kernel
theorem dX3_takeFirst_48 : decode cX3_takeFirst 48 = .ok (.aaload, 1) := by decide +kernel
theorem dX3_takeFirst_49 : decode cX3_takeFirst 49 = .ok (.aastore, 1) := by decide +kernel
theorem dX3_takeFirst_50 : decode cX3_takeFirst 50 = .ok (.iinc 2 1, 3) := by decide +kernel
theorem dX3_takeFirst_53 : decode cX3_takeFirst 53 = .ok (.goto (-25), 3) := by decide +kernel
theorem dX3_takeFirst_56 : decode cX3_takeFirst 56 = .ok (.aload_n 1, 1) := by decide +kernel
theorem dX3_takeFirst_57 : decode cX3_takeFirst 57 = .ok (.areturn, 1) := by decide +kernel
theorem dX3_drop_0 : decode cX3_drop 0 = .ok (.aload_n 0, 1) := by decide +kernel
theorem dX3_drop_1 : decode cX3_drop 1 = .ok (.iconst 0, 1) := by decide +kernel
theorem dX3_drop_2 : decode cX3_drop 2 = .ok (.putfield 17, 3) := by decide +kernel
theorem dX3_drop_5 : decode cX3_drop 5 = .ok (.return_, 1) := by decide +kernel
theorem dX4_init_0 : decode cX4_init 0 = .ok (.aload_n 0, 1) := by decide +kernel
theorem dX4_init_1 : decode cX4_init 1 = .ok (.invokespecial 3, 3) := by decide +kernel
theorem dX4_init_4 : decode cX4_init 4 = .ok (.aload_n 0, 1) := by decide +kernel
theorem dX4_init_5 : decode cX4_init 5 = .ok (.bipush 16, 2) := by decide +kernel
theorem dX4_init_7 : decode cX4_init 7 = .ok (.newarray .long, 2) := by decide +kernel
theorem dX4_init_9 : decode cX4_init 9 = .ok (.putfield 9, 3) := by decide +kernel
theorem dX4_init_12 : decode cX4_init 12 = .ok (.aload_n 0, 1) := by decide +kernel
theorem dX4_init_13 : decode cX4_init 13 = .ok (.bipush 101, 2) := by decide +kernel
theorem dX4_init_15 : decode cX4_init 15 = .ok (.anewarray 15, 3) := by decide +kernel
theorem dX4_init_18 : decode cX4_init 18 = .ok (.putfield 17, 3) := by decide +kernel
theorem dX4_init_21 : decode cX4_init 21 = .ok (.return_, 1) := by decide +kernel
theorem dX4_apply_0 : decode cX4_apply 0 = .ok (.aload_n 0, 1) := by decide +kernel
theorem dX4_apply_1 : decode cX4_apply 1 = .ok (.getfield 9, 3) := by decide +kernel
theorem dX4_apply_4 : decode cX4_apply 4 = .ok (.aload_n 2, 1) := by decide +kernel
theorem dX4_apply_5 : decode cX4_apply 5 = .ok (.getfield 21, 3) := by decide +kernel
theorem dX4_apply_8 : decode cX4_apply 8 = .ok (.aload_n 2, 1) := by decide +kernel
theorem dX4_apply_9 : decode cX4_apply 9 = .ok (.getfield 25, 3) := by decide +kernel
theorem dX4_apply_12 : decode cX4_apply 12 = .ok (.lastore, 1) := by decide +kernel
theorem dX4_apply_13 : decode cX4_apply 13 = .ok (.aload_n 0, 1) := by decide +kernel
theorem dX4_apply_14 : decode cX4_apply 14 = .ok (.dup, 1) := by decide +kernel
theorem dX4_apply_15 : decode cX4_apply 15 = .ok (.getfield 29, 3) := by decide +kernel
theorem dX4_apply_18 : decode cX4_apply 18 = .ok (.iconst 1, 1) := by decide +kernel
theorem dX4_apply_19 : decode cX4_apply 19 = .ok (.iadd, 1) := by decide +kernel
theorem dX4_apply_20 : decode cX4_apply 20 = .ok (.putfield 29, 3) := by decide +kernel
theorem dX4_apply_23 : decode cX4_apply 23 = .ok (.aload_n 0, 1) := by decide +kernel
theorem dX4_apply_24 : decode cX4_apply 24 = .ok (.aload_n 0, 1) := by decide +kernel
theorem dX4_apply_25 : decode cX4_apply 25 = .ok (.getfield 32, 3) := by decide +kernel
theorem dX4_apply_28 : decode cX4_apply 28 = .ok (.ldc2_w 35, 3) := by decide +kernel
theorem dX4_apply_31 : decode cX4_apply 31 = .ok (.lmul, 1) := by decide +kernel
theorem dX4_apply_32 : decode cX4_apply 32 = .ok (.aload_n 2, 1) := by decide +kernel
theorem dX4_apply_33 : decode cX4_apply 33 = .ok (.getfield 21, 3) := by decide +kernel
theorem dX4_apply_36 : decode cX4_apply 36 = .ok (.bipush 17, 2) := by decide +kernel
theorem dX4_apply_38 : decode cX4_apply 38 = .ok (.imul, 1) := by decide +kernel
theorem dX4_apply_39 : decode cX4_apply 39 = .ok (.i2l, 1) := by decide +kernel
theorem dX4_apply_40 : decode cX4_apply 40 = .ok (.ladd, 1) := by decide +kernel
theorem dX4_apply_41 : decode cX4_apply 41 = .ok (.aload_n 2, 1) := by decide +kernel
theorem dX4_apply_42 : decode cX4_apply 42 = .ok (.getfield 25, 3) := by decide +kernel
theorem dX4_apply_45 : decode cX4_apply 45 = .ok (.ladd, 1) := by decide +kernel
theorem dX4_apply_46 : decode cX4_apply 46 = .ok (.putfield 32, 3) := by decide +kernel
theorem dX4_apply_49 : decode cX4_apply 49 = .ok (.aload_n 0, 1) := by decide +kernel
theorem dX4_apply_50 : decode cX4_apply 50 = .ok (.iload_n 1, 1) := by decide +kernel
theorem dX4_apply_51 : decode cX4_apply 51 = .ok (.putfield 37, 3) := by decide +kernel
theorem dX4_apply_54 : decode cX4_apply 54 = .ok (.return_, 1) := by decide +kernel
theorem dX4_copyTable_0 : decode cX4_copyTable 0 = .ok (.iconst 0, 1) := by decide +kernel
theorem dX4_copyTable_1 : decode cX4_copyTable 1 = .ok (.istore_n 2, 1) := by decide +kernel
theorem dX4_copyTable_2 : decode cX4_copyTable 2 = .ok (.iload_n 2, 1) := by decide +kernel
theorem dX4_copyTable_3 : decode cX4_copyTable 3 = .ok (.bipush 16, 2) := by decide +kernel
theorem dX4_copyTable_5 : decode cX4_copyTable 5 = .ok (.if_icmp .ge 21, 3) := by decide +kernel
theorem dX4_copyTable_8 : decode cX4_copyTable 8 = .ok (.aload_n 0, 1) := by decide +kernel
theorem dX4_copyTable_9 : decode cX4_copyTable 9 = .ok (.getfield 9, 3) := by decide +kernel
theorem dX4_copyTable_12 : decode cX4_copyTable 12 = .ok (.iload_n 2, 1) := by decide +kernel
theorem dX4_copyTable_13 : decode cX4_copyTable 13 = .ok (.aload_n 1, 1) := by decide +kernel
theorem dX4_copyTable_14 : decode cX4_copyTable 14 = .ok (.getfield 9, 3) := by decide +kernel
theorem dX4_copyTable_17 : decode cX4_copyTable 17 = .ok (.iload_n 2, 1) := by decide +kernel
theorem dX4_copyTable_18 : decode cX4_copyTable 18 = .ok (.laload, 1) := by decide +kernel
theorem dX4_copyTable_19 : decode cX4_copyTable 19 = .ok (.lastore, 1) := by decide +kernel
theorem dX4_copyTable_20 : decode cX4_copyTable 20 = .ok (.iinc 2 1, 3) := by decide +kernel
theorem dX4_copyTable_23 : decode cX4_copyTable 23 = .ok (.goto (-21), 3) := by decide +kernel
theorem dX4_copyTable_26 : decode cX4_copyTable 26 = .ok (.aload_n 0, 1) := by decide +kernel
theorem dX4_copyTable_27 : decode cX4_copyTable 27 = .ok (.aload_n 1, 1) := by decide +kernel
theorem dX4_copyTable_28 : decode cX4_copyTable 28 = .ok (.getfield 29, 3) := by decide +kernel
theorem dX4_copyTable_31 : decode cX4_copyTable 31 = .ok (.putfield 29, 3) := by decide +kernel
theorem dX4_copyTable_34 : decode cX4_copyTable 34 = .ok (.aload_n 0, 1) := by decide +kernel
theorem dX4_copyTable_35 : decode cX4_copyTable 35 = .ok (.aload_n 1, 1) := by decide +kernel
theorem dX4_copyTable_36 : decode cX4_copyTable 36 = .ok (.getfield 32, 3) := by decide +kernel
theorem dX4_copyTable_39 : decode cX4_copyTable 39 = .ok (.putfield 32, 3) := by decide +kernel
theorem dX4_copyTable_42 : decode cX4_copyTable 42 = .ok (.return_, 1) := by decide +kernel
theorem dX4_forgetKept_0 : decode cX4_forgetKept 0 = .ok (.aload_n 0, 1) := by decide +kernel
theorem dX4_forgetKept_1 : decode cX4_forgetKept 1 = .ok (.iconst 0, 1) := by decide +kernel
theorem dX4_forgetKept_2 : decode cX4_forgetKept 2 = .ok (.putfield 37, 3) := by decide +kernel
theorem dX4_forgetKept_5 : decode cX4_forgetKept 5 = .ok (.iconst 0, 1) := by decide +kernel
theorem dX4_forgetKept_6 : decode cX4_forgetKept 6 = .ok (.istore_n 1, 1) := by decide +kernel
theorem dX4_forgetKept_7 : decode cX4_forgetKept 7 = .ok (.iload_n 1, 1) := by decide +kernel
theorem dX4_forgetKept_8 : decode cX4_forgetKept 8 = .ok (.bipush 100, 2) := by decide +kernel
theorem dX4_forgetKept_10 : decode cX4_forgetKept 10 = .ok (.if_icmp .gt 16, 3) := by decide +kernel
theorem dX4_forgetKept_13 : decode cX4_forgetKept 13 = .ok (.aload_n 0, 1) := by decide +kernel
theorem dX4_forgetKept_14 : decode cX4_forgetKept 14 = .ok (.getfield 17, 3) := by decide +kernel
theorem dX4_forgetKept_17 : decode cX4_forgetKept 17 = .ok (.iload_n 1, 1) := by decide +kernel
theorem dX4_forgetKept_18 : decode cX4_forgetKept 18 = .ok (.aconst_null, 1) := by decide +kernel
theorem dX4_forgetKept_19 : decode cX4_forgetKept 19 = .ok (.aastore, 1) := by decide +kernel
theorem dX4_forgetKept_20 : decode cX4_forgetKept 20 = .ok (.iinc 1 1, 3) := by decide +kernel
theorem dX4_forgetKept_23 : decode cX4_forgetKept 23 = .ok (.goto (-16), 3) := by decide +kernel
theorem dX4_forgetKept_26 : decode cX4_forgetKept 26 = .ok (.return_, 1) := by decide +kernel
theorem dX5_init_0 : decode cX5_init 0 = .ok (.aload_n 0, 1) := by decide +kernel
theorem dX5_init_1 : decode cX5_init 1 = .ok (.invokespecial 3, 3) := by decide +kernel
theorem dX5_init_4 : decode cX5_init 4 = .ok (.aload_n 0, 1) := by decide +kernel
theorem dX5_init_5 : decode cX5_init 5 = .ok (.bipush 101, 2) := by decide +kernel
theorem dX5_init_7 : decode cX5_init 7 = .ok (.newarray .boolean, 2) := by decide +kernel
theorem dX5_init_9 : decode cX5_init 9 = .ok (.putfield 9, 3) := by decide +kernel
theorem dX5_init_12 : decode cX5_init 12 = .ok (.aload_n 0, 1) := by decide +kernel
theorem dX5_init_13 : decode cX5_init 13 = .ok (.bipush 8, 2) := by decide +kernel
theorem dX5_init_15 : decode cX5_init 15 = .ok (.newarray .int, 2) := by decide +kernel
theorem dX5_init_17 : decode cX5_init 17 = .ok (.putfield 15, 3) := by decide +kernel
theorem dX5_init_20 : decode cX5_init 20 = .ok (.aload_n 0, 1) := by decide +kernel
theorem dX5_init_21 : decode cX5_init 21 = .ok (.iconst (-1), 1) := by decide +kernel
theorem dX5_init_22 : decode cX5_init 22 = .ok (.putfield 19, 3) := by decide +kernel
theorem dX5_init_25 : decode cX5_init 25 = .ok (.return_, 1) := by decide +kernel
set_option maxRecDepth 20000 in
theorem ggX5_begin_X6_leastOf : GoodIn wsX5_begin wsX6_leastOf := goodIn_r _ [9, 10, 11, 8, 12] (by decide +kernel) (by decide +kernel)
set_option maxRecDepth 20000 in
theorem gX5_begin_X6_leastOf_n29 : GoodIn wsX5_begin (wsX6_leastOf) := ggX5_begin_X6_leastOf
theorem dX5_begin_0 : decode cX5_begin 0 = .ok (.aload_n 0, 1) := by decide +kernel
theorem dX5_begin_1 : decode cX5_begin 1 = .ok (.iload_n 1, 1) := by decide +kernel
theorem dX5_begin_2 : decode cX5_begin 2 = .ok (.putfield 23, 3) := by decide +kernel
theorem dX5_begin_5 : decode cX5_begin 5 = .ok (.aload_n 0, 1) := by decide +kernel
theorem dX5_begin_6 : decode cX5_begin 6 = .ok (.iload_n 2, 1) := by decide +kernel
theorem dX5_begin_7 : decode cX5_begin 7 = .ok (.putfield 26, 3) := by decide +kernel
theorem dX5_begin_10 : decode cX5_begin 10 = .ok (.aload_n 0, 1) := by decide +kernel
theorem dX5_begin_11 : decode cX5_begin 11 = .ok (.iload_n 2, 1) := by decide +kernel
theorem dX5_begin_12 : decode cX5_begin 12 = .ok (.invokestatic 29, 3) := by decide +kernel
theorem dX5_begin_15 : decode cX5_begin 15 = .ok (.putfield 19, 3) := by decide +kernel
theorem dX5_begin_18 : decode cX5_begin 18 = .ok (.aload_n 0, 1) := by decide +kernel
theorem dX5_begin_19 : decode cX5_begin 19 = .ok (.iconst 0, 1) := by decide +kernel
theorem dX5_begin_20 : decode cX5_begin 20 = .ok (.putfield 33, 3) := by decide +kernel
theorem dX5_begin_23 : decode cX5_begin 23 = .ok (.iconst 0, 1) := by decide +kernel
theorem dX5_begin_24 : decode cX5_begin 24 = .ok (.istore_n 3, 1) := by decide +kernel
theorem dX5_begin_25 : decode cX5_begin 25 = .ok (.iload_n 3, 1) := by decide +kernel
theorem dX5_begin_26 : decode cX5_begin 26 = .ok (.bipush 100, 2) := by decide +kernel
theorem dX5_begin_28 : decode cX5_begin 28 = .ok (.if_icmp .gt 16, 3) := by decide +kernel
theorem dX5_begin_31 : decode cX5_begin 31 = .ok (.aload_n 0, 1) := by decide +kernel
theorem dX5_begin_32 : decode cX5_begin 32 = .ok (.getfield 9, 3) := by decide +kernel
theorem dX5_begin_35 : decode cX5_begin 35 = .ok (.iload_n 3, 1) := by decide +kernel
theorem dX5_begin_36 : decode cX5_begin 36 = .ok (.iconst 0, 1) := by decide +kernel
theorem dX5_begin_37 : decode cX5_begin 37 = .ok (.bastore, 1) := by decide +kernel
theorem dX5_begin_38 : decode cX5_begin 38 = .ok (.iinc 3 1, 3) := by decide +kernel
theorem dX5_begin_41 : decode cX5_begin 41 = .ok (.goto (-16), 3) := by decide +kernel
theorem dX5_begin_44 : decode cX5_begin 44 = .ok (.iconst 0, 1) := by decide +kernel
theorem dX5_begin_45 : decode cX5_begin 45 = .ok (.istore_n 3, 1) := by decide +kernel
theorem dX5_begin_46 : decode cX5_begin 46 = .ok (.iload_n 3, 1) := by decide +kernel
theorem dX5_begin_47 : decode cX5_begin 47 = .ok (.bipush 8, 2) := by decide +kernel
theorem dX5_begin_49 : decode cX5_begin 49 = .ok (.if_icmp .ge 16, 3) := by decide +kernel
theorem dX5_begin_52 : decode cX5_begin 52 = .ok (.aload_n 0, 1) := by decide +kernel
theorem dX5_begin_53 : decode cX5_begin 53 = .ok (.getfield 15, 3) := by decide +kernel
theorem dX5_begin_56 : decode cX5_begin 56 = .ok (.iload_n 3, 1) := by decide +kernel
theorem dX5_begin_57 : decode cX5_begin 57 = .ok (.iconst 0, 1) := by decide +kernel
theorem dX5_begin_58 : decode cX5_begin 58 = .ok (.iastore, 1) := by decide +kernel
theorem dX5_begin_59 : decode cX5_begin 59 = .ok (.iinc 3 1, 3) := by decide +kernel
theorem dX5_begin_62 : decode cX5_begin 62 = .ok (.goto (-16), 3) := by decide +kernel
theorem dX5_begin_65 : decode cX5_begin 65 = .ok (.return_, 1) := by decide +kernel
set_option maxRecDepth 20000 in
theorem ggX5_memberBehind_X6_isIn : GoodIn wsX5_memberBehind wsX6_isIn := goodIn_r _ [4] (by decide +kernel) (by decide +kernel)
set_option maxRecDepth 20000 in
theorem gX5_memberBehind_X6_isIn_n36 : GoodIn wsX5_memberBehind (wsX6_isIn) := ggX5_memberBehind_X6_isIn
theorem dX5_memberBehind_0 : decode cX5_memberBehind 0 = .ok (.iconst 1, 1) := by decide +kernel
theorem dX5_memberBehind_1 : decode cX5_memberBehind 1 = .ok (.istore_n 2, 1) := by decide +kernel
theorem dX5_memberBehind_2 : decode cX5_memberBehind 2 = .ok (.iload_n 2, 1) := by decide +kernel
theorem dX5_memberBehind_3 : decode cX5_memberBehind 3 = .ok (.bipush 8, 2) := by decide +kernel
theorem dX5_memberBehind_5 : decode cX5_memberBehind 5 = .ok (.if_icmp .ge 29, 3) := by decide +kernel
theorem dX5_memberBehind_8 : decode cX5_memberBehind 8 = .ok (.iload_n 1, 1) := by decide +kernel
theorem dX5_memberBehind_9 : decode cX5_memberBehind 9 = .ok (.iload_n 2, 1) := by decide +kernel
theorem dX5_memberBehind_10 : decode cX5_memberBehind 10 = .ok (.iadd, 1) := by decide +kernel
theorem dX5_memberBehind_11 : decode cX5_memberBehind 11 = .ok (.bipush 8, 2) := by decide +kernel
theorem dX5_memberBehind_13 : decode cX5_memberBehind 13 = .ok (.irem, 1) := by decide +kernel
theorem dX5_memberBehind_14 : decode cX5_memberBehind 14 = .ok (.istore_n 3, 1) := by decide +kernel
theorem dX5_memberBehind_15 : decode cX5_memberBehind 15 = .ok (.iload_n 3, 1) := by decide +kernel
theorem dX5_memberBehind_16 : decode cX5_memberBehind 16 = .ok (.aload_n 0, 1) := by decide +kernel
theorem dX5_memberBehind_17 : decode cX5_memberBehind 17 = .ok (.getfield 26, 3) := by decide +kernel
theorem dX5_memberBehind_20 : decode cX5_memberBehind 20 = .ok (.invokestatic 36, 3) := by decide +kernel
theorem dX5_memberBehind_23 : decode cX5_memberBehind 23 = .ok (.ifCond .eq 5, 3) := by decide +kernel
theorem dX5_memberBehind_26 : decode cX5_memberBehind 26 = .ok (.iload_n 3, 1) := by decide +kernel
theorem dX5_memberBehind_27 : decode cX5_memberBehind 27 = .ok (.ireturn, 1) := by decide +kernel
theorem dX5_memberBehind_28 : decode cX5_memberBehind 28 = .ok (.iinc 2 1, 3) := by decide +kernel
theorem dX5_memberBehind_31 : decode cX5_memberBehind 31 = .ok (.goto (-29), 3) := by decide +kernel
theorem dX5_memberBehind_34 : decode cX5_memberBehind 34 = .ok (.iload_n 1, 1) := by decide +kernel
theorem dX5_memberBehind_35 : decode cX5_memberBehind 35 = .ok (.ireturn, 1) := by decide +kernel
set_option maxRecDepth 20000 in
theorem ggX5_leastFull_X6_isIn : GoodIn wsX5_leastFull wsX6_isIn := goodIn_r _ [9] (by decide +kernel) (by decide +kernel)
set_option maxRecDepth 20000 in
theorem gX5_leastFull_X6_isIn_n36 : GoodIn wsX5_leastFull (wsX6_isIn) := ggX5_leastFull_X6_isIn
theorem dX5_leastFull_0 : decode cX5_leastFull 0 = .ok (.bipush 100, 2) := by decide +kernel
theorem dX5_leastFull_2 : decode cX5_leastFull 2 = .ok (.istore_n 1, 1) := by decide +kernel
theorem dX5_leastFull_3 : decode cX5_leastFull 3 = .ok (.iconst 0, 1) := by decide +kernel
theorem dX5_leastFull_4 : decode cX5_leastFull 4 = .ok (.istore_n 2, 1) := by decide +kernel
theorem dX5_leastFull_5 : decode cX5_leastFull 5 = .ok (.iload_n 2, 1) := by decide +kernel
theorem dX5_leastFull_6 : decode cX5_leastFull 6 = .ok (.bipush 8, 2) := by decide +kernel
theorem dX5_leastFull_8 : decode cX5_leastFull 8 = .ok (.if_icmp .ge 31, 3) := by decide +kernel
theorem dX5_leastFull_11 : decode cX5_leastFull 11 = .ok (.iload_n 2, 1) := by decide +kernel
theorem dX5_leastFull_12 : decode cX5_leastFull 12 = .ok (.aload_n 0, 1) := by decide +kernel
theorem dX5_leastFull_13 : decode cX5_leastFull 13 = .ok (.getfield 26, 3) := by decide +kernel
theorem dX5_leastFull_16 : decode cX5_leastFull 16 = .ok (.invokestatic 36, 3) := by decide +kernel
theorem dX5_leastFull_19 : decode cX5_leastFull 19 = .ok (.ifCond .eq 14, 3) := by decide +kernel
theorem dX5_leastFull_22 : decode cX5_leastFull 22 = .ok (.iload_n 1, 1) := by decide +kernel
theorem dX5_leastFull_23 : decode cX5_leastFull 23 = .ok (.aload_n 0, 1) := by decide +kernel
theorem dX5_leastFull_24 : decode cX5_leastFull 24 = .ok (.getfield 15, 3) := by decide +kernel
theorem dX5_leastFull_27 : decode cX5_leastFull 27 = .ok (.iload_n 2, 1) := by decide +kernel
theorem dX5_leastFull_28 : decode cX5_leastFull 28 = .ok (.iaload, 1) := by decide +kernel
theorem dX5_leastFull_29 : decode cX5_leastFull 29 = .ok (.invokestatic 40, 3) := by decide +kernel
theorem dX5_leastFull_32 : decode cX5_leastFull 32 = .ok (.istore_n 1, 1) := by decide +kernel
theorem dX5_leastFull_33 : decode cX5_leastFull 33 = .ok (.iinc 2 1, 3) := by decide +kernel
theorem dX5_leastFull_36 : decode cX5_leastFull 36 = .ok (.goto (-31), 3) := by decide +kernel
theorem dX5_leastFull_39 : decode cX5_leastFull 39 = .ok (.iload_n 1, 1) := by decide +kernel
theorem dX5_leastFull_40 : decode cX5_leastFull 40 = .ok (.ireturn, 1) := by decide +kernel
set_option maxRecDepth 20000 in
theorem ggX6_init_X5_init : GoodIn wsX6_init wsX5_init := goodIn_r _ [22, 23, 2, 3, 24, 25, 26, 27, 28, 71, 72, 73, 74, 75, 76] (by decide +kernel) (by decide +kernel)
set_option maxRecDepth 20000 in
theorem gX6_init_X5_init_n24 : GoodIn wsX6_init (wsX5_init) := ggX6_init_X5_init
set_option maxRecDepth 20000 in
theorem ggX6_init_X2_init : GoodIn wsX6_init wsX2_init := goodIn_r _ [31, 32, 2, 3, 33, 34, 35, 36, 37, 38, 39, 40, 41, 42, 43, 44, 45, 46, 47, 48, 49, 50, 51, 52, 53, 54, 55, 56, 57, 58, 59, 60, 61, 62, 63, 64, 65, 66, 90, 91, 77, 78, 79, 80, 81, 82, 83, 84, 85, 86, 87, 88, 89, 92, 93, 94, 95, 96, 97, 98] (by decide +kernel) (by decide +kernel)
set_option maxRecDepth 20000 in
theorem gX6_init_X2_init : GoodIn wsX6_init (wsX2_init) := ggX6_init_X2_init
theorem dX6_init_0 : decode cX6_init 0 = .ok (.aload_n 0, 1) := by decide +kernel
theorem dX6_init_1 : decode cX6_init 1 = .ok (.invokespecial 1, 3) := by decide +kernel
theorem dX6_init_4 : decode cX6_init 4 = .ok (.iconst 2, 1) := by decide +kernel
theorem dX6_init_5 : decode cX6_init 5 = .ok (.bipush 8, 2) := by decide +kernel
theorem dX6_init_7 : decode cX6_init 7 = .ok (.iload_n 1, 1) := by decide +kernel
theorem dX6_init_8 : decode cX6_init 8 = .ok (.invokestatic 9, 3) := by decide +kernel
theorem dX6_init_11 : decode cX6_init 11 = .ok (.invokestatic 15, 3) := by decide +kernel
theorem dX6_init_14 : decode cX6_init 14 = .ok (.istore_n 3, 1) := by decide +kernel
theorem dX6_init_15 : decode cX6_init 15 = .ok (.aload_n 0, 1) := by decide +kernel
theorem dX6_init_16 : decode cX6_init 16 = .ok (.iconst 1, 1) := by decide +kernel
theorem dX6_init_17 : decode cX6_init 17 = .ok (.bipush 8, 2) := by decide +kernel
theorem dX6_init_19 : decode cX6_init 19 = .ok (.iload_n 2, 1) := by decide +kernel
theorem dX6_init_20 : decode cX6_init 20 = .ok (.invokestatic 9, 3) := by decide +kernel
theorem dX6_init_23 : decode cX6_init 23 = .ok (.invokestatic 15, 3) := by decide +kernel
theorem dX6_init_26 : decode cX6_init 26 = .ok (.putfield 18, 3) := by decide +kernel
theorem dX6_init_29 : decode cX6_init 29 = .ok (.aload_n 0, 1) := by decide +kernel
theorem dX6_init_30 : decode cX6_init 30 = .ok (.new 22, 3) := by decide +kernel
theorem dX6_init_33 : decode cX6_init 33 = .ok (.dup, 1) := by decide +kernel
theorem dX6_init_34 : decode cX6_init 34 = .ok (.invokespecial 24, 3) := by decide +kernel
theorem dX6_init_37 : decode cX6_init 37 = .ok (.putfield 25, 3) := by decide +kernel
theorem dX6_init_40 : decode cX6_init 40 = .ok (.aload_n 0, 1) := by decide +kernel
theorem dX6_init_41 : decode cX6_init 41 = .ok (.iload_n 3, 1) := by decide +kernel
theorem dX6_init_42 : decode cX6_init 42 = .ok (.anewarray 29, 3) := by decide +kernel
theorem dX6_init_45 : decode cX6_init 45 = .ok (.putfield 31, 3) := by decide +kernel
theorem dX6_init_48 : decode cX6_init 48 = .ok (.aload_n 0, 1) := by decide +kernel
theorem dX6_init_49 : decode cX6_init 49 = .ok (.iload_n 3, 1) := by decide +kernel
theorem dX6_init_50 : decode cX6_init 50 = .ok (.anewarray 22, 3) := by decide +kernel
theorem dX6_init_53 : decode cX6_init 53 = .ok (.putfield 35, 3) := by decide +kernel
theorem dX6_init_56 : decode cX6_init 56 = .ok (.iconst 0, 1) := by decide +kernel
theorem dX6_init_57 : decode cX6_init 57 = .ok (.istore 4, 2) := by decide +kernel
theorem dX6_init_59 : decode cX6_init 59 = .ok (.iload 4, 2) := by decide +kernel
theorem dX6_init_61 : decode cX6_init 61 = .ok (.iload_n 3, 1) := by decide +kernel
theorem dX6_init_62 : decode cX6_init 62 = .ok (.if_icmp .ge 48, 3) := by decide +kernel
theorem dX6_init_65 : decode cX6_init 65 = .ok (.aload_n 0, 1) := by decide +kernel
theorem dX6_init_66 : decode cX6_init 66 = .ok (.getfield 31, 3) := by decide +kernel
theorem dX6_init_69 : decode cX6_init 69 = .ok (.iload 4, 2) := by decide +kernel
theorem dX6_init_71 : decode cX6_init 71 = .ok (.new 29, 3) := by decide +kernel
theorem dX6_init_74 : decode cX6_init 74 = .ok (.dup, 1) := by decide +kernel
theorem dX6_init_75 : decode cX6_init 75 = .ok (.iload 4, 2) := by decide +kernel
theorem dX6_init_77 : decode cX6_init 77 = .ok (.iconst 1, 1) := by decide +kernel
theorem dX6_init_78 : decode cX6_init 78 = .ok (.iload_n 3, 1) := by decide +kernel
theorem dX6_init_79 : decode cX6_init 79 = .ok (.ishl, 1) := by decide +kernel
theorem dX6_init_80 : decode cX6_init 80 = .ok (.iconst 1, 1) := by decide +kernel
theorem dX6_init_81 : decode cX6_init 81 = .ok (.isub, 1) := by decide +kernel
theorem dX6_init_82 : decode cX6_init 82 = .ok (.aload_n 0, 1) := by decide +kernel
theorem dX6_init_83 : decode cX6_init 83 = .ok (.getfield 25, 3) := by decide +kernel
theorem dX6_init_86 : decode cX6_init 86 = .ok (.invokespecial 39, 3) := by decide +kernel
theorem dX6_init_89 : decode cX6_init 89 = .ok (.aastore, 1) := by decide +kernel
theorem dX6_init_90 : decode cX6_init 90 = .ok (.aload_n 0, 1) := by decide +kernel
theorem dX6_init_91 : decode cX6_init 91 = .ok (.getfield 35, 3) := by decide +kernel
theorem dX6_init_94 : decode cX6_init 94 = .ok (.iload 4, 2) := by decide +kernel
theorem dX6_init_96 : decode cX6_init 96 = .ok (.new 22, 3) := by decide +kernel
theorem dX6_init_99 : decode cX6_init 99 = .ok (.dup, 1) := by decide +kernel
theorem dX6_init_100 : decode cX6_init 100 = .ok (.invokespecial 24, 3) := by decide +kernel
theorem dX6_init_103 : decode cX6_init 103 = .ok (.aastore, 1) := by decide +kernel
theorem dX6_init_104 : decode cX6_init 104 = .ok (.iinc 4 1, 3) := by decide +kernel
theorem dX6_init_107 : decode cX6_init 107 = .ok (.goto (-48), 3) := by decide +kernel
theorem dX6_init_110 : decode cX6_init 110 = .ok (.return_, 1) := by decide +kernel
set_option maxRecDepth 20000 in
theorem ggX6_send_X6_nodeAt : GoodIn wsX6_send wsX6_nodeAt := goodIn_ca (goodIn_r _ [12, 13, 14, 15, 57, 58, 59, 60] (by decide +kernel) (by decide +kernel)) (goodIn_sub (fun _ h => List.mem_cons_of_mem _ (List.mem_append_right _ h)) (by decide +kernel))
set_option maxRecDepth 20000 in
theorem gX6_send_X6_nodeAt : GoodIn wsX6_send (wsV RX6 42 RX6 yX6_nodeAt wsX6_nodeAt) := goodIn_app (goodIn_of _ (by decide +kernel)) ggX6_send_X6_nodeAt
set_option maxRecDepth 20000 in
theorem ggX6_send_X6_checkKey : GoodIn wsX6_send wsX6_checkKey := goodIn_ca (goodIn_r _ [18, 13, 14] (by decide +kernel) (by decide +kernel)) (goodIn_sub (fun _ h => List.mem_cons_of_mem _ (List.mem_append_right _ h)) (by decide +kernel))
set_option maxRecDepth 20000 in
theorem gX6_send_X6_checkKey : GoodIn wsX6_send (va_wsS RX6 46 yX6_checkKey wsX6_checkKey) := goodIn_app (goodIn_of _ (by decide +kernel)) ggX6_send_X6_checkKey
set_option maxRecDepth 20000 in
theorem ggX6_send_X3_isFull : GoodIn wsX6_send wsX3_isFull := goodIn_r _ [23, 24, 61, 62] (by decide +kernel) (by decide +kernel)
set_option maxRecDepth 20000 in
theorem gX6_send_X3_isFull : GoodIn wsX6_send (wsV RX6 58 RX3 yX3_isFull wsX3_isFull) := goodIn_app (goodIn_of _ (by decide +kernel)) ggX6_send_X3_isFull
set_option maxRecDepth 20000 in
theorem ggX6_send_X1_init : GoodIn wsX6_send wsX1_init := goodIn_r _ [27, 28, 29, 30, 31, 32, 33, 34, 53, 54, 55, 56] (by decide +kernel) (by decide +kernel)
set_option maxRecDepth 20000 in
theorem gX6_send_X1_init : GoodIn wsX6_send (wsX1_init) := ggX6_send_X1_init
set_option maxRecDepth 20000 in
theorem ggX6_send_X3_put : GoodIn wsX6_send wsX3_put := goodIn_r _ [38, 39, 24, 61, 62] (by decide +kernel) (by decide +kernel)
set_option maxRecDepth 20000 in
theorem gX6_send_X3_put : GoodIn wsX6_send (wsV RX6 76 RX3 yX3_put wsX3_put) := goodIn_app (goodIn_of _ (by decide +kernel)) ggX6_send_X3_put
theorem dX6_send_0 : decode cX6_send 0 = .ok (.aload_n 0, 1) := by decide +kernel
theorem dX6_send_1 : decode cX6_send 1 = .ok (.iload_n 1, 1) := by decide +kernel
theorem dX6_send_2 : decode cX6_send 2 = .ok (.invokevirtual 42, 3) := by decide +kernel
theorem dX6_send_5 : decode cX6_send 5 = .ok (.astore 6, 2) := by decide +kernel
theorem dX6_send_7 : decode cX6_send 7 = .ok (.iload_n 2, 1) := by decide +kernel
theorem dX6_send_8 : decode cX6_send 8 = .ok (.invokestatic 46, 3) := by decide +kernel
theorem dX6_send_11 : decode cX6_send 11 = .ok (.aload 6, 2) := by decide +kernel
theorem dX6_send_13 : decode cX6_send 13 = .ok (.getfield 50, 3) := by decide +kernel
theorem dX6_send_16 : decode cX6_send 16 = .ok (.ifCond .eq 14, 3) := by decide +kernel
theorem dX6_send_19 : decode cX6_send 19 = .ok (.aload 6, 2) := by decide +kernel
theorem dX6_send_21 : decode cX6_send 21 = .ok (.getfield 54, 3) := by decide +kernel
theorem dX6_send_24 : decode cX6_send 24 = .ok (.invokevirtual 58, 3) := by decide +kernel
theorem dX6_send_27 : decode cX6_send 27 = .ok (.ifCond .eq 13, 3) := by decide +kernel
theorem dX6_send_30 : decode cX6_send 30 = .ok (.new 64, 3) := by decide +kernel
theorem dX6_send_33 : decode cX6_send 33 = .ok (.dup, 1) := by decide +kernel
theorem dX6_send_34 : decode cX6_send 34 = .ok (.ldc 66, 2) := by decide +kernel
theorem dX6_send_36 : decode cX6_send 36 = .ok (.invokespecial 68, 3) := by decide +kernel
theorem dX6_send_39 : decode cX6_send 39 = .ok (.athrow, 1) := by decide +kernel
theorem dX6_send_40 : decode cX6_send 40 = .ok (.aload 6, 2) := by decide +kernel
theorem dX6_send_42 : decode cX6_send 42 = .ok (.getfield 54, 3) := by decide +kernel
theorem dX6_send_45 : decode cX6_send 45 = .ok (.new 71, 3) := by decide +kernel
theorem dX6_send_48 : decode cX6_send 48 = .ok (.dup, 1) := by decide +kernel
theorem dX6_send_49 : decode cX6_send 49 = .ok (.iload_n 1, 1) := by decide +kernel
theorem dX6_send_50 : decode cX6_send 50 = .ok (.iload_n 2, 1) := by decide +kernel
theorem dX6_send_51 : decode cX6_send 51 = .ok (.lload_n 3, 1) := by decide +kernel
theorem dX6_send_52 : decode cX6_send 52 = .ok (.iload 5, 2) := by decide +kernel
theorem dX6_send_54 : decode cX6_send 54 = .ok (.invokespecial 73, 3) := by decide +kernel
theorem dX6_send_57 : decode cX6_send 57 = .ok (.invokevirtual 76, 3) := by decide +kernel
theorem dX6_send_60 : decode cX6_send 60 = .ok (.ireturn, 1) := by decide +kernel
set_option maxRecDepth 20000 in
theorem ggX6_pass_X6_nodeAt : GoodIn wsX6_pass wsX6_nodeAt := goodIn_ca (goodIn_r _ [15, 16, 17, 18, 153, 154, 155, 156] (by decide +kernel) (by decide +kernel)) (goodIn_sub (fun _ h => List.mem_cons_of_mem _ (List.mem_append_right _ h)) (by decide +kernel))
set_option maxRecDepth 20000 in
theorem gX6_pass_X6_nodeAt : GoodIn wsX6_pass (wsV RX6 42 RX6 yX6_nodeAt wsX6_nodeAt) := goodIn_app (goodIn_of _ (by decide +kernel)) ggX6_pass_X6_nodeAt
set_option maxRecDepth 20000 in
theorem ggX6_pass_X6_receiversOf : GoodIn wsX6_pass wsX6_receiversOf := goodIn_r _ [22, 18, 23, 24, 25, 14, 26, 27, 28, 3, 153, 154, 155, 156, 134, 135, 136, 137, 138, 139, 140, 141, 142, 143, 144, 145, 146] (by decide +kernel) (by decide +kernel)
set_option maxRecDepth 20000 in
theorem gX6_pass_X6_receiversOf : GoodIn wsX6_pass (wsV RX6 88 RX6 yX6_receiversOf wsX6_receiversOf) := goodIn_app (goodIn_of _ (by decide +kernel)) ggX6_pass_X6_receiversOf
set_option maxRecDepth 20000 in
theorem ggX6_pass_X6_sendRequested : GoodIn wsX6_pass wsX6_sendRequested := goodIn_r _ [32, 3, 33, 34, 35, 36, 37, 38, 14, 39, 18, 23, 40, 41, 42, 43, 44, 45, 46, 47, 48, 49, 50, 51, 52, 53, 54, 55, 56, 57, 58, 134, 135, 136, 137, 138, 139, 140, 141, 142, 143, 144, 145, 146, 147, 148, 149, 150, 151, 152, 153, 154, 155, 156, 157, 158, 159, 160, 161, 162, 163, 164, 165] (by decide +kernel) (by decide +kernel)
set_option maxRecDepth 20000 in
theorem gX6_pass_X6_sendRequested : GoodIn wsX6_pass (wsV RX6 92 RX6 yX6_sendRequested wsX6_sendRequested) := goodIn_app (goodIn_of _ (by decide +kernel)) ggX6_pass_X6_sendRequested
set_option maxRecDepth 20000 in
theorem ggX6_pass_X6_sendPending : GoodIn wsX6_pass wsX6_sendPending := goodIn_r _ [62, 3, 63, 33, 64, 23, 65, 66, 67, 68, 69, 70, 71, 36, 37, 38, 14, 39, 18, 40, 41, 42, 43, 44, 45, 46, 47, 48, 49, 50, 51, 52, 53, 54, 55, 56, 57, 58, 134, 135, 136, 137, 138, 139, 140, 141, 142, 143, 144, 145, 146, 153, 154, 155, 156, 147, 148, 149, 150, 151, 152, 166, 167, 157, 158, 159, 160, 161, 162, 163, 164, 165] (by decide +kernel) (by decide +kernel)
set_option maxRecDepth 20000 in
theorem gX6_pass_X6_sendPending : GoodIn wsX6_pass (wsV RX6 96 RX6 yX6_sendPending wsX6_sendPending) := goodIn_app (goodIn_of _ (by decide +kernel)) ggX6_pass_X6_sendPending
set_option maxRecDepth 20000 in
theorem ggX6_pass_X2_full : GoodIn wsX6_pass wsX2_full := goodIn_r _ [75, 48, 134, 135, 136, 137, 138, 139, 140, 141, 142, 143, 144, 145, 146] (by decide +kernel) (by decide +kernel)
set_option maxRecDepth 20000 in
theorem gX6_pass_X2_full : GoodIn wsX6_pass (wsV RX6 103 RX2 yX2_full wsX2_full) := goodIn_app (goodIn_of _ (by decide +kernel)) ggX6_pass_X2_full
set_option maxRecDepth 20000 in
theorem ggX6_pass_X5_leastFull : GoodIn wsX6_pass wsX5_leastFull := goodIn_r _ [80, 81, 82, 83, 84, 9, 85, 41, 14, 42, 147, 148, 149, 150, 151, 152] (by decide +kernel) (by decide +kernel)
set_option maxRecDepth 20000 in
theorem gX6_pass_X5_leastFull : GoodIn wsX6_pass (wsV RX6 109 RX5 yX5_leastFull wsX5_leastFull) := goodIn_app (goodIn_of _ (by decide +kernel)) ggX6_pass_X5_leastFull
set_option maxRecDepth 20000 in
theorem ggX6_pass_X6_requestMissing : GoodIn wsX6_pass wsX6_requestMissing := goodIn_r _ [88, 3, 33, 35, 34, 134, 135, 136, 137, 138, 139, 140, 141, 142, 143, 144, 145, 146, 147, 148, 149, 150, 151, 152] (by decide +kernel) (by decide +kernel)
set_option maxRecDepth 20000 in
theorem gX6_pass_X6_requestMissing : GoodIn wsX6_pass (va_wsS RX6 112 yX6_requestMissing wsX6_requestMissing) := goodIn_app (goodIn_of _ (by decide +kernel)) ggX6_pass_X6_requestMissing
set_option maxRecDepth 20000 in
theorem ggX6_pass_X2_deliverInTurn : GoodIn wsX6_pass wsX2_deliverInTurn := goodIn_r _ [92, 93, 48, 49, 94, 50, 95, 96, 97, 46, 98, 99, 100, 101, 102, 56, 57, 103, 104, 105, 106, 107, 108, 109, 110, 111, 112, 113, 52, 53, 54, 55, 58, 114, 115, 116, 117, 118, 119, 120, 121, 122, 123, 124, 125, 134, 135, 136, 137, 138, 139, 140, 141, 142, 143, 144, 145, 146, 157, 158, 159, 160, 147, 148, 149, 150, 151, 152, 168, 169, 161, 162, 163, 164, 165] (by decide +kernel) (by decide +kernel)
set_option maxRecDepth 20000 in
theorem gX6_pass_X2_deliverInTurn : GoodIn wsX6_pass (wsV RX6 116 RX2 yX2_deliverInTurn wsX2_deliverInTurn) := goodIn_app (goodIn_of _ (by decide +kernel)) ggX6_pass_X2_deliverInTurn
set_option maxRecDepth 20000 in
theorem ggX6_pass_X6_handOn : GoodIn wsX6_pass wsX6_handOn := goodIn_r _ [129, 3, 18, 23, 4, 130, 131, 132, 79, 133, 81, 41, 14, 42, 24, 25, 26, 27, 28, 134, 135, 136, 137, 138, 139, 140, 141, 142, 143, 144, 145, 146, 153, 154, 155, 156, 147, 148, 149, 150, 151, 152] (by decide +kernel) (by decide +kernel)
set_option maxRecDepth 20000 in
theorem gX6_pass_X6_handOn : GoodIn wsX6_pass (wsV RX6 119 RX6 yX6_handOn wsX6_handOn) := goodIn_app (goodIn_of _ (by decide +kernel)) ggX6_pass_X6_handOn
theorem dX6_pass_0 : decode cX6_pass 0 = .ok (.aload_n 0, 1) := by decide +kernel
theorem dX6_pass_1 : decode cX6_pass 1 = .ok (.iload_n 1, 1) := by decide +kernel
theorem dX6_pass_2 : decode cX6_pass 2 = .ok (.invokevirtual 42, 3) := by decide +kernel
theorem dX6_pass_5 : decode cX6_pass 5 = .ok (.astore_n 3, 1) := by decide +kernel
theorem dX6_pass_6 : decode cX6_pass 6 = .ok (.aload_n 3, 1) := by decide +kernel
theorem dX6_pass_7 : decode cX6_pass 7 = .ok (.getfield 80, 3) := by decide +kernel
theorem dX6_pass_10 : decode cX6_pass 10 = .ok (.astore 4, 2) := by decide +kernel
theorem dX6_pass_12 : decode cX6_pass 12 = .ok (.aload 4, 2) := by decide +kernel
theorem dX6_pass_14 : decode cX6_pass 14 = .ok (.getfield 83, 3) := by decide +kernel
theorem dX6_pass_17 : decode cX6_pass 17 = .ok (.iload_n 1, 1) := by decide +kernel
theorem dX6_pass_18 : decode cX6_pass 18 = .ok (.if_icmp .eq 13, 3) := by decide +kernel
theorem dX6_pass_21 : decode cX6_pass 21 = .ok (.new 64, 3) := by decide +kernel
theorem dX6_pass_24 : decode cX6_pass 24 = .ok (.dup, 1) := by decide +kernel
theorem dX6_pass_25 : decode cX6_pass 25 = .ok (.ldc 86, 2) := by decide +kernel
theorem dX6_pass_27 : decode cX6_pass 27 = .ok (.invokespecial 68, 3) := by decide +kernel
theorem dX6_pass_30 : decode cX6_pass 30 = .ok (.athrow, 1) := by decide +kernel
theorem dX6_pass_31 : decode cX6_pass 31 = .ok (.aload_n 0, 1) := by decide +kernel
theorem dX6_pass_32 : decode cX6_pass 32 = .ok (.aload_n 3, 1) := by decide +kernel
theorem dX6_pass_33 : decode cX6_pass 33 = .ok (.invokevirtual 88, 3) := by decide +kernel
theorem dX6_pass_36 : decode cX6_pass 36 = .ok (.iload_n 2, 1) := by decide +kernel
theorem dX6_pass_37 : decode cX6_pass 37 = .ok (.iconst (-1), 1) := by decide +kernel
theorem dX6_pass_38 : decode cX6_pass 38 = .ok (.ixor, 1) := by decide +kernel
theorem dX6_pass_39 : decode cX6_pass 39 = .ok (.iand, 1) := by decide +kernel
theorem dX6_pass_40 : decode cX6_pass 40 = .ok (.istore 5, 2) := by decide +kernel
theorem dX6_pass_42 : decode cX6_pass 42 = .ok (.aload_n 0, 1) := by decide +kernel
theorem dX6_pass_43 : decode cX6_pass 43 = .ok (.aload_n 3, 1) := by decide +kernel
theorem dX6_pass_44 : decode cX6_pass 44 = .ok (.iload 5, 2) := by decide +kernel
theorem dX6_pass_46 : decode cX6_pass 46 = .ok (.invokevirtual 92, 3) := by decide +kernel
theorem dX6_pass_49 : decode cX6_pass 49 = .ok (.aload_n 0, 1) := by decide +kernel
theorem dX6_pass_50 : decode cX6_pass 50 = .ok (.aload_n 3, 1) := by decide +kernel
theorem dX6_pass_51 : decode cX6_pass 51 = .ok (.iload 5, 2) := by decide +kernel
theorem dX6_pass_53 : decode cX6_pass 53 = .ok (.invokevirtual 96, 3) := by decide +kernel
theorem dX6_pass_56 : decode cX6_pass 56 = .ok (.aload 4, 2) := by decide +kernel
theorem dX6_pass_58 : decode cX6_pass 58 = .ok (.getfield 99, 3) := by decide +kernel
theorem dX6_pass_61 : decode cX6_pass 61 = .ok (.iload_n 1, 1) := by decide +kernel
theorem dX6_pass_62 : decode cX6_pass 62 = .ok (.aload_n 3, 1) := by decide +kernel
theorem dX6_pass_63 : decode cX6_pass 63 = .ok (.invokevirtual 103, 3) := by decide +kernel
theorem dX6_pass_66 : decode cX6_pass 66 = .ok (.iastore, 1) := by decide +kernel
theorem dX6_pass_67 : decode cX6_pass 67 = .ok (.aload_n 3, 1) := by decide +kernel
theorem dX6_pass_68 : decode cX6_pass 68 = .ok (.aload_n 3, 1) := by decide +kernel
theorem dX6_pass_69 : decode cX6_pass 69 = .ok (.getfield 106, 3) := by decide +kernel
theorem dX6_pass_72 : decode cX6_pass 72 = .ok (.aload 4, 2) := by decide +kernel
theorem dX6_pass_74 : decode cX6_pass 74 = .ok (.invokevirtual 109, 3) := by decide +kernel
theorem dX6_pass_77 : decode cX6_pass 77 = .ok (.invokestatic 15, 3) := by decide +kernel
theorem dX6_pass_80 : decode cX6_pass 80 = .ok (.putfield 106, 3) := by decide +kernel
theorem dX6_pass_83 : decode cX6_pass 83 = .ok (.aload_n 3, 1) := by decide +kernel
theorem dX6_pass_84 : decode cX6_pass 84 = .ok (.invokestatic 112, 3) := by decide +kernel
theorem dX6_pass_87 : decode cX6_pass 87 = .ok (.aload_n 3, 1) := by decide +kernel
theorem dX6_pass_88 : decode cX6_pass 88 = .ok (.invokevirtual 116, 3) := by decide +kernel
theorem dX6_pass_91 : decode cX6_pass 91 = .ok (.istore 6, 2) := by decide +kernel
theorem dX6_pass_93 : decode cX6_pass 93 = .ok (.aload_n 0, 1) := by decide +kernel
theorem dX6_pass_94 : decode cX6_pass 94 = .ok (.aload_n 3, 1) := by decide +kernel
theorem dX6_pass_95 : decode cX6_pass 95 = .ok (.invokevirtual 119, 3) := by decide +kernel
theorem dX6_pass_98 : decode cX6_pass 98 = .ok (.iload 6, 2) := by decide +kernel
theorem dX6_pass_100 : decode cX6_pass 100 = .ok (.ireturn, 1) := by decide +kernel
set_option maxRecDepth 20000 in
theorem ggX6_gather_X6_nodeAt : GoodIn wsX6_gather wsX6_nodeAt := goodIn_ca (goodIn_r _ [11, 12, 13, 14, 207, 208, 209, 210] (by decide +kernel) (by decide +kernel)) (goodIn_sub (fun _ h => List.mem_cons_of_mem _ (List.mem_append_right _ h)) (by decide +kernel))
set_option maxRecDepth 20000 in
theorem gX6_gather_X6_nodeAt : GoodIn wsX6_gather (wsV RX6 42 RX6 yX6_nodeAt wsX6_nodeAt) := goodIn_app (goodIn_of _ (by decide +kernel)) ggX6_gather_X6_nodeAt
set_option maxRecDepth 20000 in
theorem ggX6_gather_X6_upInGroup : GoodIn wsX6_gather wsX6_upInGroup := goodIn_r _ [18, 14, 3, 4, 19, 207, 208, 209, 210, 194, 195, 196, 197, 198, 199, 200, 201, 202, 203, 204, 205, 206] (by decide +kernel) (by decide +kernel)
set_option maxRecDepth 20000 in
theorem gX6_gather_X6_upInGroup : GoodIn wsX6_gather (wsV RX6 127 RX6 yX6_upInGroup wsX6_upInGroup) := goodIn_app (goodIn_of _ (by decide +kernel)) ggX6_gather_X6_upInGroup
set_option maxRecDepth 20000 in
theorem ggX6_gather_X6_isWhole : GoodIn wsX6_gather wsX6_isWhole := goodIn_r _ [23, 24, 25, 26, 27, 28, 10, 29, 14, 5, 19, 30, 31, 32, 211, 212, 213, 214, 215, 216, 207, 208, 209, 210, 194, 195, 196, 197, 198, 199, 200, 201, 202, 203, 204, 205, 206] (by decide +kernel) (by decide +kernel)
set_option maxRecDepth 20000 in
theorem gX6_gather_X6_isWhole : GoodIn wsX6_gather (wsV RX6 131 RX6 yX6_isWhole wsX6_isWhole) := goodIn_app (goodIn_of _ (by decide +kernel)) ggX6_gather_X6_isWhole
set_option maxRecDepth 20000 in
theorem ggX6_gather_X6_foremost : GoodIn wsX6_gather wsX6_foremost := goodIn_r _ [36, 14, 19, 30, 31, 10, 32, 37, 38, 39, 40, 41, 42, 43, 44, 45, 207, 208, 209, 210, 194, 195, 196, 197, 198, 199, 200, 201, 202, 203, 204, 205, 206, 217, 218, 219, 220, 221] (by decide +kernel) (by decide +kernel)
set_option maxRecDepth 20000 in
theorem gX6_gather_X6_foremost : GoodIn wsX6_gather (wsV RX6 135 RX6 yX6_foremost wsX6_foremost) := goodIn_app (goodIn_of _ (by decide +kernel)) ggX6_gather_X6_foremost
set_option maxRecDepth 20000 in
theorem ggX6_gather_X6_isQuorum : GoodIn wsX6_gather wsX6_isQuorum := goodIn_r _ [48, 49, 50, 51, 52, 53, 54, 55, 56, 57, 10, 58, 30, 31, 32] (by decide +kernel) (by decide +kernel)
set_option maxRecDepth 20000 in
theorem gX6_gather_X6_isQuorum : GoodIn wsX6_gather (va_wsS RX6 142 yX6_isQuorum wsX6_isQuorum) := goodIn_app (goodIn_of _ (by decide +kernel)) ggX6_gather_X6_isQuorum
set_option maxRecDepth 20000 in
theorem ggX6_gather_X6_endOldRings : GoodIn wsX6_gather wsX6_endOldRings := goodIn_r _ [62, 14, 5, 63, 19, 30, 31, 10, 32, 26, 27, 28, 29, 56, 57, 58, 64, 65, 66, 67, 68, 69, 70, 71, 72, 73, 74, 75, 76, 77, 78, 79, 80, 81, 82, 83, 84, 85, 86, 40, 87, 88, 89, 43, 90, 91, 92, 93, 94, 95, 96, 42, 97, 98, 99, 100, 101, 102, 103, 104, 105, 106, 107, 108, 109, 110, 111, 112, 113, 114, 115, 116, 117, 118, 119, 120, 121, 122, 123, 124, 125, 126, 127, 128, 129, 130, 131, 132, 133, 134, 135, 136, 137, 138, 207, 208, 209, 210, 194, 195, 196, 197, 198, 199, 200, 201, 202, 203, 204, 205, 206, 211, 212, 213, 214, 215, 216, 222, 223, 224, 225, 217, 218, 219, 220, 221, 226, 227] (by decide +kernel) (by decide +kernel)
set_option maxRecDepth 20000 in
theorem gX6_gather_X6_endOldRings : GoodIn wsX6_gather (wsV RX6 146 RX6 yX6_endOldRings wsX6_endOldRings) := goodIn_app (goodIn_of _ (by decide +kernel)) ggX6_gather_X6_endOldRings
set_option maxRecDepth 20000 in
theorem ggX6_gather_X6_bringTablesUpToDate : GoodIn wsX6_gather wsX6_bringTablesUpToDate := goodIn_r _ [142, 143, 144, 145, 14, 19, 146, 147, 148, 10, 149, 150, 30, 31, 32, 151, 123, 124, 125, 126, 127, 128, 129, 130, 131, 132, 133, 152, 153, 154, 155, 194, 195, 196, 197, 198, 199, 200, 201, 202, 203, 204, 205, 206, 217, 218, 219, 220, 221, 207, 208, 209, 210, 222, 223, 224, 225] (by decide +kernel) (by decide +kernel)
set_option maxRecDepth 20000 in
theorem gX6_gather_X6_bringTablesUpToDate : GoodIn wsX6_gather (wsV RX6 149 RX6 yX6_bringTablesUpToDate wsX6_bringTablesUpToDate) := goodIn_app (goodIn_of _ (by decide +kernel)) ggX6_gather_X6_bringTablesUpToDate
set_option maxRecDepth 20000 in
theorem ggX6_gather_X6_beginRing : GoodIn wsX6_gather wsX6_beginRing := goodIn_r _ [159, 14, 19, 160, 75, 76, 77, 78, 63, 30, 31, 10, 32, 161, 162, 163, 40, 164, 95, 165, 45, 101, 102, 88, 166, 167, 168, 169, 170, 26, 27, 28, 29, 5, 171, 172, 173, 174, 175, 176, 177, 178, 179, 180, 181, 57, 58, 182, 183, 184, 185, 96, 186, 42, 187, 188, 43, 107, 189, 190, 191, 125, 192, 133, 193, 111, 112, 113, 114, 115, 116, 117, 118, 119, 120, 121, 207, 208, 209, 210, 194, 195, 196, 197, 198, 199, 200, 201, 202, 203, 204, 205, 206, 211, 212, 213, 214, 215, 216, 217, 218, 219, 220, 221, 226, 227] (by decide +kernel) (by decide +kernel)
set_option maxRecDepth 20000 in
theorem gX6_gather_X6_beginRing : GoodIn wsX6_gather (wsV RX6 152 RX6 yX6_beginRing wsX6_beginRing) := goodIn_app (goodIn_of _ (by decide +kernel)) ggX6_gather_X6_beginRing
theorem dX6_gather_0 : decode cX6_gather 0 = .ok (.aload_n 0, 1) := by decide +kernel
theorem dX6_gather_1 : decode cX6_gather 1 = .ok (.iload_n 1, 1) := by decide +kernel
theorem dX6_gather_2 : decode cX6_gather 2 = .ok (.invokevirtual 42, 3) := by decide +kernel
theorem dX6_gather_5 : decode cX6_gather 5 = .ok (.astore_n 2, 1) := by decide +kernel
theorem dX6_gather_6 : decode cX6_gather 6 = .ok (.aload_n 2, 1) := by decide +kernel
theorem dX6_gather_7 : decode cX6_gather 7 = .ok (.getfield 50, 3) := by decide +kernel
theorem dX6_gather_10 : decode cX6_gather 10 = .ok (.ifCond .ne 13, 3) := by decide +kernel
theorem dX6_gather_13 : decode cX6_gather 13 = .ok (.new 64, 3) := by decide +kernel
theorem dX6_gather_16 : decode cX6_gather 16 = .ok (.dup, 1) := by decide +kernel
theorem dX6_gather_17 : decode cX6_gather 17 = .ok (.ldc 122, 2) := by decide +kernel
theorem dX6_gather_19 : decode cX6_gather 19 = .ok (.invokespecial 68, 3) := by decide +kernel
theorem dX6_gather_22 : decode cX6_gather 22 = .ok (.athrow, 1) := by decide +kernel
theorem dX6_gather_23 : decode cX6_gather 23 = .ok (.aload_n 0, 1) := by decide +kernel
theorem dX6_gather_24 : decode cX6_gather 24 = .ok (.aload_n 2, 1) := by decide +kernel
theorem dX6_gather_25 : decode cX6_gather 25 = .ok (.getfield 124, 3) := by decide +kernel
theorem dX6_gather_28 : decode cX6_gather 28 = .ok (.invokevirtual 127, 3) := by decide +kernel
theorem dX6_gather_31 : decode cX6_gather 31 = .ok (.istore_n 3, 1) := by decide +kernel
theorem dX6_gather_32 : decode cX6_gather 32 = .ok (.aload_n 0, 1) := by decide +kernel
theorem dX6_gather_33 : decode cX6_gather 33 = .ok (.aload_n 2, 1) := by decide +kernel
theorem dX6_gather_34 : decode cX6_gather 34 = .ok (.getfield 80, 3) := by decide +kernel
theorem dX6_gather_37 : decode cX6_gather 37 = .ok (.iload_n 3, 1) := by decide +kernel
theorem dX6_gather_38 : decode cX6_gather 38 = .ok (.invokevirtual 131, 3) := by decide +kernel
theorem dX6_gather_41 : decode cX6_gather 41 = .ok (.ifCond .eq 5, 3) := by decide +kernel
theorem dX6_gather_44 : decode cX6_gather 44 = .ok (.iconst 0, 1) := by decide +kernel
theorem dX6_gather_45 : decode cX6_gather 45 = .ok (.ireturn, 1) := by decide +kernel
theorem dX6_gather_46 : decode cX6_gather 46 = .ok (.iload_n 3, 1) := by decide +kernel
theorem dX6_gather_47 : decode cX6_gather 47 = .ok (.aload_n 0, 1) := by decide +kernel
theorem dX6_gather_48 : decode cX6_gather 48 = .ok (.aload_n 2, 1) := by decide +kernel
theorem dX6_gather_49 : decode cX6_gather 49 = .ok (.iload_n 3, 1) := by decide +kernel
theorem dX6_gather_50 : decode cX6_gather 50 = .ok (.invokevirtual 135, 3) := by decide +kernel
theorem dX6_gather_53 : decode cX6_gather 53 = .ok (.getfield 139, 3) := by decide +kernel
theorem dX6_gather_56 : decode cX6_gather 56 = .ok (.invokestatic 142, 3) := by decide +kernel
theorem dX6_gather_59 : decode cX6_gather 59 = .ok (.istore 4, 2) := by decide +kernel
theorem dX6_gather_61 : decode cX6_gather 61 = .ok (.aload_n 0, 1) := by decide +kernel
theorem dX6_gather_62 : decode cX6_gather 62 = .ok (.iload_n 3, 1) := by decide +kernel
theorem dX6_gather_63 : decode cX6_gather 63 = .ok (.invokevirtual 146, 3) := by decide +kernel
theorem dX6_gather_66 : decode cX6_gather 66 = .ok (.iload 4, 2) := by decide +kernel
theorem dX6_gather_68 : decode cX6_gather 68 = .ok (.ifCond .eq 14, 3) := by decide +kernel
theorem dX6_gather_71 : decode cX6_gather 71 = .ok (.aload_n 0, 1) := by decide +kernel
theorem dX6_gather_72 : decode cX6_gather 72 = .ok (.aload_n 0, 1) := by decide +kernel
theorem dX6_gather_73 : decode cX6_gather 73 = .ok (.aload_n 2, 1) := by decide +kernel
theorem dX6_gather_74 : decode cX6_gather 74 = .ok (.iload_n 3, 1) := by decide +kernel
theorem dX6_gather_75 : decode cX6_gather 75 = .ok (.invokevirtual 135, 3) := by decide +kernel
theorem dX6_gather_78 : decode cX6_gather 78 = .ok (.iload_n 3, 1) := by decide +kernel
theorem dX6_gather_79 : decode cX6_gather 79 = .ok (.invokevirtual 149, 3) := by decide +kernel
theorem dX6_gather_82 : decode cX6_gather 82 = .ok (.aload_n 0, 1) := by decide +kernel
theorem dX6_gather_83 : decode cX6_gather 83 = .ok (.iload_n 3, 1) := by decide +kernel
theorem dX6_gather_84 : decode cX6_gather 84 = .ok (.iload 4, 2) := by decide +kernel
theorem dX6_gather_86 : decode cX6_gather 86 = .ok (.invokevirtual 152, 3) := by decide +kernel
theorem dX6_gather_89 : decode cX6_gather 89 = .ok (.ireturn, 1) := by decide +kernel
set_option maxRecDepth 20000 in
theorem ggX6_part_X6_nodeAt : GoodIn wsX6_part wsX6_nodeAt := goodIn_ca (goodIn_r _ [8, 9, 10, 11, 25, 26, 27, 28] (by decide +kernel) (by decide +kernel)) (goodIn_sub (fun _ h => List.mem_cons_of_mem _ (List.mem_append_right _ h)) (by decide +kernel))
set_option maxRecDepth 20000 in
theorem gX6_part_X6_nodeAt : GoodIn wsX6_part (wsV RX6 42 RX6 yX6_nodeAt wsX6_nodeAt) := goodIn_app (goodIn_of _ (by decide +kernel)) ggX6_part_X6_nodeAt
theorem dX6_part_0 : decode cX6_part 0 = .ok (.aload_n 0, 1) := by decide +kernel
theorem dX6_part_1 : decode cX6_part 1 = .ok (.iload_n 1, 1) := by decide +kernel
theorem dX6_part_2 : decode cX6_part 2 = .ok (.invokevirtual 42, 3) := by decide +kernel
theorem dX6_part_5 : decode cX6_part 5 = .ok (.astore_n 3, 1) := by decide +kernel
theorem dX6_part_6 : decode cX6_part 6 = .ok (.iload_n 2, 1) := by decide +kernel
theorem dX6_part_7 : decode cX6_part 7 = .ok (.ifCond .lt 9, 3) := by decide +kernel
theorem dX6_part_10 : decode cX6_part 10 = .ok (.iload_n 2, 1) := by decide +kernel
theorem dX6_part_11 : decode cX6_part 11 = .ok (.bipush 8, 2) := by decide +kernel
theorem dX6_part_13 : decode cX6_part 13 = .ok (.if_icmp .lt 13, 3) := by decide +kernel
theorem dX6_part_16 : decode cX6_part 16 = .ok (.new 156, 3) := by decide +kernel
theorem dX6_part_19 : decode cX6_part 19 = .ok (.dup, 1) := by decide +kernel
theorem dX6_part_20 : decode cX6_part 20 = .ok (.ldc 158, 2) := by decide +kernel
theorem dX6_part_22 : decode cX6_part 22 = .ok (.invokespecial 160, 3) := by decide +kernel
theorem dX6_part_25 : decode cX6_part 25 = .ok (.athrow, 1) := by decide +kernel
theorem dX6_part_26 : decode cX6_part 26 = .ok (.aload_n 3, 1) := by decide +kernel
theorem dX6_part_27 : decode cX6_part 27 = .ok (.iload_n 2, 1) := by decide +kernel
theorem dX6_part_28 : decode cX6_part 28 = .ok (.putfield 124, 3) := by decide +kernel
theorem dX6_part_31 : decode cX6_part 31 = .ok (.return_, 1) := by decide +kernel
set_option maxRecDepth 20000 in
theorem ggX6_crash_X6_nodeAt : GoodIn wsX6_crash wsX6_nodeAt := goodIn_ca (goodIn_r _ [10, 11, 12, 13, 44, 45, 46, 47] (by decide +kernel) (by decide +kernel)) (goodIn_sub (fun _ h => List.mem_cons_of_mem _ (List.mem_append_right _ h)) (by decide +kernel))
set_option maxRecDepth 20000 in
theorem gX6_crash_X6_nodeAt : GoodIn wsX6_crash (wsV RX6 42 RX6 yX6_nodeAt wsX6_nodeAt) := goodIn_app (goodIn_of _ (by decide +kernel)) ggX6_crash_X6_nodeAt
set_option maxRecDepth 20000 in
theorem ggX6_crash_X3_drop : GoodIn wsX6_crash wsX3_drop := goodIn_r _ [18, 19, 48, 49] (by decide +kernel) (by decide +kernel)
set_option maxRecDepth 20000 in
theorem gX6_crash_X3_drop : GoodIn wsX6_crash (wsV RX6 161 RX3 yX3_drop wsX3_drop) := goodIn_app (goodIn_of _ (by decide +kernel)) ggX6_crash_X3_drop
set_option maxRecDepth 20000 in
theorem ggX6_crash_X2_leaveRing : GoodIn wsX6_crash wsX2_leaveRing := goodIn_r _ [24, 25, 26, 27, 28, 29, 30, 31, 32, 33, 34, 35, 36, 37, 38, 39, 40, 41, 42, 43, 50, 51, 52, 53, 54, 55] (by decide +kernel) (by decide +kernel)
set_option maxRecDepth 20000 in
theorem gX6_crash_X2_leaveRing : GoodIn wsX6_crash (wsV RX6 164 RX2 yX2_leaveRing wsX2_leaveRing) := goodIn_app (goodIn_of _ (by decide +kernel)) ggX6_crash_X2_leaveRing
theorem dX6_crash_0 : decode cX6_crash 0 = .ok (.aload_n 0, 1) := by decide +kernel
theorem dX6_crash_1 : decode cX6_crash 1 = .ok (.iload_n 1, 1) := by decide +kernel
theorem dX6_crash_2 : decode cX6_crash 2 = .ok (.invokevirtual 42, 3) := by decide +kernel
theorem dX6_crash_5 : decode cX6_crash 5 = .ok (.astore_n 2, 1) := by decide +kernel
theorem dX6_crash_6 : decode cX6_crash 6 = .ok (.aload_n 2, 1) := by decide +kernel
theorem dX6_crash_7 : decode cX6_crash 7 = .ok (.getfield 50, 3) := by decide +kernel
theorem dX6_crash_10 : decode cX6_crash 10 = .ok (.ifCond .ne 13, 3) := by decide +kernel
theorem dX6_crash_13 : decode cX6_crash 13 = .ok (.new 64, 3) := by decide +kernel
theorem dX6_crash_16 : decode cX6_crash 16 = .ok (.dup, 1) := by decide +kernel
theorem dX6_crash_17 : decode cX6_crash 17 = .ok (.ldc 122, 2) := by decide +kernel
theorem dX6_crash_19 : decode cX6_crash 19 = .ok (.invokespecial 68, 3) := by decide +kernel
theorem dX6_crash_22 : decode cX6_crash 22 = .ok (.athrow, 1) := by decide +kernel
theorem dX6_crash_23 : decode cX6_crash 23 = .ok (.aload_n 2, 1) := by decide +kernel
theorem dX6_crash_24 : decode cX6_crash 24 = .ok (.iconst 0, 1) := by decide +kernel
theorem dX6_crash_25 : decode cX6_crash 25 = .ok (.putfield 50, 3) := by decide +kernel
theorem dX6_crash_28 : decode cX6_crash 28 = .ok (.aload_n 2, 1) := by decide +kernel
theorem dX6_crash_29 : decode cX6_crash 29 = .ok (.getfield 54, 3) := by decide +kernel
theorem dX6_crash_32 : decode cX6_crash 32 = .ok (.invokevirtual 161, 3) := by decide +kernel
theorem dX6_crash_35 : decode cX6_crash 35 = .ok (.aload_n 2, 1) := by decide +kernel
theorem dX6_crash_36 : decode cX6_crash 36 = .ok (.aload_n 0, 1) := by decide +kernel
theorem dX6_crash_37 : decode cX6_crash 37 = .ok (.getfield 25, 3) := by decide +kernel
theorem dX6_crash_40 : decode cX6_crash 40 = .ok (.invokevirtual 164, 3) := by decide +kernel
theorem dX6_crash_43 : decode cX6_crash 43 = .ok (.return_, 1) := by decide +kernel
set_option maxRecDepth 20000 in
theorem ggX6_restart_X6_nodeAt : GoodIn wsX6_restart wsX6_nodeAt := goodIn_ca (goodIn_r _ [8, 9, 10, 11, 25, 26, 27, 28] (by decide +kernel) (by decide +kernel)) (goodIn_sub (fun _ h => List.mem_cons_of_mem _ (List.mem_append_right _ h)) (by decide +kernel))
set_option maxRecDepth 20000 in
theorem gX6_restart_X6_nodeAt : GoodIn wsX6_restart (wsV RX6 42 RX6 yX6_nodeAt wsX6_nodeAt) := goodIn_app (goodIn_of _ (by decide +kernel)) ggX6_restart_X6_nodeAt
theorem dX6_restart_0 : decode cX6_restart 0 = .ok (.aload_n 0, 1) := by decide +kernel
theorem dX6_restart_1 : decode cX6_restart 1 = .ok (.iload_n 1, 1) := by decide +kernel
theorem dX6_restart_2 : decode cX6_restart 2 = .ok (.invokevirtual 42, 3) := by decide +kernel
